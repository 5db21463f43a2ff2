/-! the law, call by call -/
set_option maxRecDepth 20000 in
theorem w_feed {l : Launch} {X : XT} {d Lz : Nat} {w : WF} {a : AS} {i : Nat} {Q : Option AV → Mem → Prop} (hL : Lz ≤ 256) (hi : i + 4 ≤ Lz) (hC : CRel w a) (hM : MRel w a) (hV : AVl a) (K : ∀ (w' : WF) (a' : AS), CRel w' a' → MRel w' a' → AVl a' → WP l X (d + 9) md_L_law (1203, [some (.inr (.inr (13, 0, 0))), some (.inr (.inr (8, 0, 0))), some (.inr (.inr (9, 0, 0))), some (.inl (nI i))], [], mk Lz w') Q) : WP l X (d + 9) md_L_law (196, [some (.inr (.inr (13, 0, 0))), some (.inr (.inr (8, 0, 0))), some (.inr (.inr (9, 0, 0))), some (.inl (nI i))], [], mk Lz w) Q := by
  refine x_aload_n (pc' := 197) rfl rfl rfl (x_aload_n (pc' := 198) rfl rfl rfl (x_iload_n (pc' := 199) rfl rfl rfl (x_iconst (pc' := 200) rfl rfl (x_iaddN (pc' := 201) rfl rfl (x_iald (pc' := 202) (N := Lz) rfl rfl rfl rfl (by omega) (by omega) ?_)))))
  refine x_invQ2 (pc' := 205) rfl rfl rfl rfl (C_X8_feed hC hV _) (fun vq Mq hq202 => ?_)
  obtain ⟨rfl, w1, rfl, f1, hC1⟩ := hq202
  have hM1 := MRel_9 hV.1 hM f1
  have hs : ∀ q, w1 13 0 0 q = w 13 0 0 q := fun q => f1 13 0 0 q (by omega)
  show WP l X _ md_L_law (205, _, [_], _) _
  refine x_aload_n (pc' := 206) rfl rfl rfl (x_aload_n (pc' := 207) rfl rfl rfl (x_iload_n (pc' := 208) rfl rfl rfl (x_iconst (pc' := 209) rfl rfl (x_iaddN (pc' := 210) rfl rfl (x_iald (pc' := 211) (N := Lz) rfl rfl rfl rfl (by omega) (by omega) ?_)))))
  rw [hs]
  refine x_invQ2 (pc' := 214) rfl rfl rfl rfl (M_X9_feed hM1 hV _) (fun vq Mq hq211 => ?_)
  obtain ⟨rfl, w2, rfl, f2, hM2⟩ := hq211
  show WP l X _ md_L_law (214, _, [_, _], _) _
  refine x_icmp_eq (pc' := 217) rfl rfl (fun h214 => ?_) (fun h214 => absurd rfl h214)
  exact K w2 _ (CRel_9 hC1 f2) hM2 (feed_V hV)
set_option maxRecDepth 20000 in
theorem w_kingdom {l : Launch} {X : XT} {d Lz : Nat} {w : WF} {a : AS} {i : Nat} {Q : Option AV → Mem → Prop} (hL : Lz ≤ 256) (hi : i + 4 ≤ Lz) (hC : CRel w a) (hM : MRel w a) (hV : AVl a) (K : ∀ (w' : WF) (a' : AS), CRel w' a' → MRel w' a' → AVl a' → WP l X (d + 9) md_L_law (1203, [some (.inr (.inr (13, 0, 0))), some (.inr (.inr (8, 0, 0))), some (.inr (.inr (9, 0, 0))), some (.inl (nI i))], [], mk Lz w') Q) : WP l X (d + 9) md_L_law (219, [some (.inr (.inr (13, 0, 0))), some (.inr (.inr (8, 0, 0))), some (.inr (.inr (9, 0, 0))), some (.inl (nI i))], [], mk Lz w) Q := by
  refine x_aload_n (pc' := 220) rfl rfl rfl (x_invQ1 (pc' := 223) rfl rfl rfl (C_X8_kingdom hC hV) (fun vq Mq hq220 => ?_))
  obtain ⟨rfl, w1, rfl, f1, hC1⟩ := hq220
  have hM1 := MRel_9 hV.1 hM f1
  have hs : ∀ q, w1 13 0 0 q = w 13 0 0 q := fun q => f1 13 0 0 q (by omega)
  show WP l X _ md_L_law (223, _, [_], _) _
  refine x_aload_n (pc' := 224) rfl rfl rfl (x_invQ1 (pc' := 227) rfl rfl rfl (M_X9_kingdom hM1 hV) (fun vq Mq hq224 => ?_))
  obtain ⟨rfl, w2, rfl, f2, hM2⟩ := hq224
  show WP l X _ md_L_law (227, _, [_, _], _) _
  refine x_icmp_eq (pc' := 230) rfl rfl (fun h227 => ?_) (fun h227 => absurd rfl h227)
  exact K w2 _ (CRel_9 hC1 f2) hM2 (king_V hV)
set_option maxRecDepth 20000 in
theorem w_fault {l : Launch} {X : XT} {d Lz : Nat} {w : WF} {a : AS} {i : Nat} {Q : Option AV → Mem → Prop} (hL : Lz ≤ 256) (hi : i + 4 ≤ Lz) (hC : CRel w a) (hM : MRel w a) (hV : AVl a) (K : ∀ (w' : WF) (a' : AS), CRel w' a' → MRel w' a' → AVl a' → WP l X (d + 9) md_L_law (1203, [some (.inr (.inr (13, 0, 0))), some (.inr (.inr (8, 0, 0))), some (.inr (.inr (9, 0, 0))), some (.inl (nI i))], [], mk Lz w') Q) : WP l X (d + 9) md_L_law (232, [some (.inr (.inr (13, 0, 0))), some (.inr (.inr (8, 0, 0))), some (.inr (.inr (9, 0, 0))), some (.inl (nI i))], [], mk Lz w) Q := by
  refine x_aload_n (pc' := 233) rfl rfl rfl (x_invQ1 (pc' := 236) rfl rfl rfl (C_X8_fault hC hV) (fun vq Mq hq233 => ?_))
  obtain ⟨rfl, w1, rfl, f1, hC1⟩ := hq233
  have hM1 := MRel_9 hV.1 hM f1
  have hs : ∀ q, w1 13 0 0 q = w 13 0 0 q := fun q => f1 13 0 0 q (by omega)
  show WP l X _ md_L_law (236, _, [_], _) _
  refine x_aload_n (pc' := 237) rfl rfl rfl (x_invQ1 (pc' := 240) rfl rfl rfl (M_X9_fault hM1 hV) (fun vq Mq hq237 => ?_))
  obtain ⟨rfl, w2, rfl, f2, hM2⟩ := hq237
  show WP l X _ md_L_law (240, _, [_, _], _) _
  refine x_icmp_eq (pc' := 243) rfl rfl (fun h240 => ?_) (fun h240 => absurd rfl h240)
  exact K w2 _ (CRel_9 hC1 f2) hM2 hV
set_option maxRecDepth 20000 in
theorem w_told {l : Launch} {X : XT} {d Lz : Nat} {w : WF} {a : AS} {i : Nat} {Q : Option AV → Mem → Prop} (hL : Lz ≤ 256) (hi : i + 4 ≤ Lz) (hC : CRel w a) (hM : MRel w a) (hV : AVl a) (K : ∀ (w' : WF) (a' : AS), CRel w' a' → MRel w' a' → AVl a' → WP l X (d + 9) md_L_law (1203, [some (.inr (.inr (13, 0, 0))), some (.inr (.inr (8, 0, 0))), some (.inr (.inr (9, 0, 0))), some (.inl (nI i))], [], mk Lz w') Q) : WP l X (d + 9) md_L_law (245, [some (.inr (.inr (13, 0, 0))), some (.inr (.inr (8, 0, 0))), some (.inr (.inr (9, 0, 0))), some (.inl (nI i))], [], mk Lz w) Q := by
  refine x_aload_n (pc' := 246) rfl rfl rfl (x_aload_n (pc' := 247) rfl rfl rfl (x_iload_n (pc' := 248) rfl rfl rfl (x_iconst (pc' := 249) rfl rfl (x_iaddN (pc' := 250) rfl rfl (x_iald (pc' := 251) (N := Lz) rfl rfl rfl rfl (by omega) (by omega) ?_)))))
  refine x_invQ2 (pc' := 254) rfl rfl rfl rfl (C_X8_told hC hV _) (fun vq Mq hq251 => ?_)
  obtain ⟨rfl, w1, rfl, f1, hC1⟩ := hq251
  have hM1 := MRel_9 hV.1 hM f1
  have hs : ∀ q, w1 13 0 0 q = w 13 0 0 q := fun q => f1 13 0 0 q (by omega)
  show WP l X _ md_L_law (254, _, [_], _) _
  refine x_aload_n (pc' := 255) rfl rfl rfl (x_aload_n (pc' := 256) rfl rfl rfl (x_iload_n (pc' := 257) rfl rfl rfl (x_iconst (pc' := 258) rfl rfl (x_iaddN (pc' := 259) rfl rfl (x_iald (pc' := 260) (N := Lz) rfl rfl rfl rfl (by omega) (by omega) ?_)))))
  rw [hs]
  refine x_invQ2 (pc' := 263) rfl rfl rfl rfl (M_X9_told hM1 hV _) (fun vq Mq hq260 => ?_)
  obtain ⟨rfl, w2, rfl, f2, hM2⟩ := hq260
  show WP l X _ md_L_law (263, _, [_, _], _) _
  refine x_icmp_eq (pc' := 266) rfl rfl (fun h263 => ?_) (fun h263 => absurd rfl h263)
  exact K w2 _ (CRel_9 hC1 f2) hM2 hV
set_option maxRecDepth 20000 in
theorem w_person {l : Launch} {X : XT} {d Lz : Nat} {w : WF} {a : AS} {i : Nat} {Q : Option AV → Mem → Prop} (hL : Lz ≤ 256) (hi : i + 4 ≤ Lz) (hC : CRel w a) (hM : MRel w a) (hV : AVl a) (K : ∀ (w' : WF) (a' : AS), CRel w' a' → MRel w' a' → AVl a' → WP l X (d + 9) md_L_law (1203, [some (.inr (.inr (13, 0, 0))), some (.inr (.inr (8, 0, 0))), some (.inr (.inr (9, 0, 0))), some (.inl (nI i))], [], mk Lz w') Q) : WP l X (d + 9) md_L_law (268, [some (.inr (.inr (13, 0, 0))), some (.inr (.inr (8, 0, 0))), some (.inr (.inr (9, 0, 0))), some (.inl (nI i))], [], mk Lz w) Q := by
  refine x_aload_n (pc' := 269) rfl rfl rfl (x_aload_n (pc' := 270) rfl rfl rfl (x_iload_n (pc' := 271) rfl rfl rfl (x_iconst (pc' := 272) rfl rfl (x_iaddN (pc' := 273) rfl rfl (x_iald (pc' := 274) (N := Lz) rfl rfl rfl rfl (by omega) (by omega) ?_)))))
  refine x_aload_n (pc' := 275) rfl rfl rfl (x_iload_n (pc' := 276) rfl rfl rfl (x_iconst (pc' := 277) rfl rfl (x_iaddN (pc' := 278) rfl rfl (x_iald (pc' := 279) (N := Lz) rfl rfl rfl rfl (by omega) (by omega) (x_invQ3 (pc' := 282) rfl rfl rfl rfl rfl (C_X8_person hC hV _ _) (fun vq Mq hq279 => ?_))))))
  obtain ⟨rfl, w1, rfl, f1, hC1⟩ := hq279
  have hM1 := MRel_9 hV.1 hM f1
  have hs : ∀ q, w1 13 0 0 q = w 13 0 0 q := fun q => f1 13 0 0 q (by omega)
  show WP l X _ md_L_law (282, _, [_], _) _
  refine x_aload_n (pc' := 283) rfl rfl rfl (x_aload_n (pc' := 284) rfl rfl rfl (x_iload_n (pc' := 285) rfl rfl rfl (x_iconst (pc' := 286) rfl rfl (x_iaddN (pc' := 287) rfl rfl (x_iald (pc' := 288) (N := Lz) rfl rfl rfl rfl (by omega) (by omega) ?_)))))
  rw [hs]
  refine x_aload_n (pc' := 289) rfl rfl rfl (x_iload_n (pc' := 290) rfl rfl rfl (x_iconst (pc' := 291) rfl rfl (x_iaddN (pc' := 292) rfl rfl (x_iald (pc' := 293) (N := Lz) rfl rfl rfl rfl (by omega) (by omega) ?_))))
  rw [hs]
  refine x_invQ3 (pc' := 296) rfl rfl rfl rfl rfl (M_X9_person hM1 hV _ _) (fun vq Mq hq293 => ?_)
  obtain ⟨rfl, w2, rfl, f2, hM2⟩ := hq293
  show WP l X _ md_L_law (296, _, [_, _], _) _
  refine x_icmp_eq (pc' := 299) rfl rfl (fun h296 => ?_) (fun h296 => absurd rfl h296)
  exact K w2 _ (CRel_9 hC1 f2) hM2 hV
set_option maxRecDepth 20000 in
theorem w_office {l : Launch} {X : XT} {d Lz : Nat} {w : WF} {a : AS} {i : Nat} {Q : Option AV → Mem → Prop} (hL : Lz ≤ 256) (hi : i + 4 ≤ Lz) (hC : CRel w a) (hM : MRel w a) (hV : AVl a) (K : ∀ (w' : WF) (a' : AS), CRel w' a' → MRel w' a' → AVl a' → WP l X (d + 9) md_L_law (1203, [some (.inr (.inr (13, 0, 0))), some (.inr (.inr (8, 0, 0))), some (.inr (.inr (9, 0, 0))), some (.inl (nI i))], [], mk Lz w') Q) : WP l X (d + 9) md_L_law (301, [some (.inr (.inr (13, 0, 0))), some (.inr (.inr (8, 0, 0))), some (.inr (.inr (9, 0, 0))), some (.inl (nI i))], [], mk Lz w) Q := by
  refine x_aload_n (pc' := 302) rfl rfl rfl (x_aload_n (pc' := 303) rfl rfl rfl (x_iload_n (pc' := 304) rfl rfl rfl (x_iconst (pc' := 305) rfl rfl (x_iaddN (pc' := 306) rfl rfl (x_iald (pc' := 307) (N := Lz) rfl rfl rfl rfl (by omega) (by omega) ?_)))))
  refine x_aload_n (pc' := 308) rfl rfl rfl (x_iload_n (pc' := 309) rfl rfl rfl (x_iconst (pc' := 310) rfl rfl (x_iaddN (pc' := 311) rfl rfl (x_iald (pc' := 312) (N := Lz) rfl rfl rfl rfl (by omega) (by omega) (x_invQ3 (pc' := 315) rfl rfl rfl rfl rfl (C_X8_office hC hV _ _) (fun vq Mq hq312 => ?_))))))
  obtain ⟨rfl, w1, rfl, f1, hC1⟩ := hq312
  have hM1 := MRel_9 hV.1 hM f1
  have hs : ∀ q, w1 13 0 0 q = w 13 0 0 q := fun q => f1 13 0 0 q (by omega)
  show WP l X _ md_L_law (315, _, [_], _) _
  refine x_aload_n (pc' := 316) rfl rfl rfl (x_aload_n (pc' := 317) rfl rfl rfl (x_iload_n (pc' := 318) rfl rfl rfl (x_iconst (pc' := 319) rfl rfl (x_iaddN (pc' := 320) rfl rfl (x_iald (pc' := 321) (N := Lz) rfl rfl rfl rfl (by omega) (by omega) ?_)))))
  rw [hs]
  refine x_aload_n (pc' := 322) rfl rfl rfl (x_iload_n (pc' := 323) rfl rfl rfl (x_iconst (pc' := 324) rfl rfl (x_iaddN (pc' := 325) rfl rfl (x_iald (pc' := 326) (N := Lz) rfl rfl rfl rfl (by omega) (by omega) ?_))))
  rw [hs]
  refine x_invQ3 (pc' := 329) rfl rfl rfl rfl rfl (M_X9_office hM1 hV _ _) (fun vq Mq hq326 => ?_)
  obtain ⟨rfl, w2, rfl, f2, hM2⟩ := hq326
  show WP l X _ md_L_law (329, _, [_, _], _) _
  refine x_icmp_eq (pc' := 332) rfl rfl (fun h329 => ?_) (fun h329 => absurd rfl h329)
  exact K w2 _ (CRel_9 hC1 f2) hM2 hV
set_option maxRecDepth 20000 in
theorem w_ahead {l : Launch} {X : XT} {d Lz : Nat} {w : WF} {a : AS} {i : Nat} {Q : Option AV → Mem → Prop} (hL : Lz ≤ 256) (hi : i + 4 ≤ Lz) (hC : CRel w a) (hM : MRel w a) (hV : AVl a) (K : ∀ (w' : WF) (a' : AS), CRel w' a' → MRel w' a' → AVl a' → WP l X (d + 9) md_L_law (1203, [some (.inr (.inr (13, 0, 0))), some (.inr (.inr (8, 0, 0))), some (.inr (.inr (9, 0, 0))), some (.inl (nI i))], [], mk Lz w') Q) : WP l X (d + 9) md_L_law (334, [some (.inr (.inr (13, 0, 0))), some (.inr (.inr (8, 0, 0))), some (.inr (.inr (9, 0, 0))), some (.inl (nI i))], [], mk Lz w) Q := by
  refine x_aload_n (pc' := 335) rfl rfl rfl (x_aload_n (pc' := 336) rfl rfl rfl (x_iload_n (pc' := 337) rfl rfl rfl (x_iconst (pc' := 338) rfl rfl (x_iaddN (pc' := 339) rfl rfl (x_iald (pc' := 340) (N := Lz) rfl rfl rfl rfl (by omega) (by omega) ?_)))))
  refine x_invQ2 (pc' := 343) rfl rfl rfl rfl (C_X8_ahead hC hV _) (fun vq Mq hq340 => ?_)
  obtain ⟨rfl, w1, rfl, f1, hC1⟩ := hq340
  have hM1 := MRel_9 hV.1 hM f1
  have hs : ∀ q, w1 13 0 0 q = w 13 0 0 q := fun q => f1 13 0 0 q (by omega)
  show WP l X _ md_L_law (343, _, [_], _) _
  refine x_aload_n (pc' := 344) rfl rfl rfl (x_aload_n (pc' := 345) rfl rfl rfl (x_iload_n (pc' := 346) rfl rfl rfl (x_iconst (pc' := 347) rfl rfl (x_iaddN (pc' := 348) rfl rfl (x_iald (pc' := 349) (N := Lz) rfl rfl rfl rfl (by omega) (by omega) ?_)))))
  rw [hs]
  refine x_invQ2 (pc' := 352) rfl rfl rfl rfl (M_X9_ahead hM1 hV _) (fun vq Mq hq349 => ?_)
  obtain ⟨rfl, w2, rfl, f2, hM2⟩ := hq349
  show WP l X _ md_L_law (352, _, [_, _], _) _
  refine x_icmp_eq (pc' := 355) rfl rfl (fun h352 => ?_) (fun h352 => absurd rfl h352)
  exact K w2 _ (CRel_9 hC1 f2) hM2 hV
set_option maxRecDepth 20000 in
theorem w_logged {l : Launch} {X : XT} {d Lz : Nat} {w : WF} {a : AS} {i : Nat} {Q : Option AV → Mem → Prop} (hL : Lz ≤ 256) (hi : i + 4 ≤ Lz) (hC : CRel w a) (hM : MRel w a) (hV : AVl a) (K : ∀ (w' : WF) (a' : AS), CRel w' a' → MRel w' a' → AVl a' → WP l X (d + 9) md_L_law (1203, [some (.inr (.inr (13, 0, 0))), some (.inr (.inr (8, 0, 0))), some (.inr (.inr (9, 0, 0))), some (.inl (nI i))], [], mk Lz w') Q) : WP l X (d + 9) md_L_law (357, [some (.inr (.inr (13, 0, 0))), some (.inr (.inr (8, 0, 0))), some (.inr (.inr (9, 0, 0))), some (.inl (nI i))], [], mk Lz w) Q := by
  refine x_aload_n (pc' := 358) rfl rfl rfl (x_aload_n (pc' := 359) rfl rfl rfl (x_iload_n (pc' := 360) rfl rfl rfl (x_iconst (pc' := 361) rfl rfl (x_iaddN (pc' := 362) rfl rfl (x_iald (pc' := 363) (N := Lz) rfl rfl rfl rfl (by omega) (by omega) ?_)))))
  refine x_aload_n (pc' := 364) rfl rfl rfl (x_iload_n (pc' := 365) rfl rfl rfl (x_iconst (pc' := 366) rfl rfl (x_iaddN (pc' := 367) rfl rfl (x_iald (pc' := 368) (N := Lz) rfl rfl rfl rfl (by omega) (by omega) (x_invQ3 (pc' := 371) rfl rfl rfl rfl rfl (C_X8_logged hC hV _ _) (fun vq Mq hq368 => ?_))))))
  obtain ⟨rfl, w1, rfl, f1, hC1⟩ := hq368
  have hM1 := MRel_9 hV.1 hM f1
  have hs : ∀ q, w1 13 0 0 q = w 13 0 0 q := fun q => f1 13 0 0 q (by omega)
  show WP l X _ md_L_law (371, _, [_], _) _
  refine x_aload_n (pc' := 372) rfl rfl rfl (x_aload_n (pc' := 373) rfl rfl rfl (x_iload_n (pc' := 374) rfl rfl rfl (x_iconst (pc' := 375) rfl rfl (x_iaddN (pc' := 376) rfl rfl (x_iald (pc' := 377) (N := Lz) rfl rfl rfl rfl (by omega) (by omega) ?_)))))
  rw [hs]
  refine x_aload_n (pc' := 378) rfl rfl rfl (x_iload_n (pc' := 379) rfl rfl rfl (x_iconst (pc' := 380) rfl rfl (x_iaddN (pc' := 381) rfl rfl (x_iald (pc' := 382) (N := Lz) rfl rfl rfl rfl (by omega) (by omega) ?_))))
  rw [hs]
  refine x_invQ3 (pc' := 385) rfl rfl rfl rfl rfl (M_X9_logged hM1 hV _ _) (fun vq Mq hq382 => ?_)
  obtain ⟨rfl, w2, rfl, f2, hM2⟩ := hq382
  show WP l X _ md_L_law (385, _, [_, _], _) _
  refine x_icmp_eq (pc' := 388) rfl rfl (fun h385 => ?_) (fun h385 => absurd rfl h385)
  exact K w2 _ (CRel_9 hC1 f2) hM2 hV
set_option maxRecDepth 20000 in
theorem w_day {l : Launch} {X : XT} {d Lz : Nat} {w : WF} {a : AS} {i : Nat} {Q : Option AV → Mem → Prop} (hL : Lz ≤ 256) (hi : i + 4 ≤ Lz) (hC : CRel w a) (hM : MRel w a) (hV : AVl a) (K : ∀ (w' : WF) (a' : AS), CRel w' a' → MRel w' a' → AVl a' → WP l X (d + 9) md_L_law (1203, [some (.inr (.inr (13, 0, 0))), some (.inr (.inr (8, 0, 0))), some (.inr (.inr (9, 0, 0))), some (.inl (nI i))], [], mk Lz w') Q) : WP l X (d + 9) md_L_law (390, [some (.inr (.inr (13, 0, 0))), some (.inr (.inr (8, 0, 0))), some (.inr (.inr (9, 0, 0))), some (.inl (nI i))], [], mk Lz w) Q := by
  refine x_aload_n (pc' := 391) rfl rfl rfl (x_aload_n (pc' := 392) rfl rfl rfl (x_iload_n (pc' := 393) rfl rfl rfl (x_iconst (pc' := 394) rfl rfl (x_iaddN (pc' := 395) rfl rfl (x_iald (pc' := 396) (N := Lz) rfl rfl rfl rfl (by omega) (by omega) ?_)))))
  refine x_invQ2 (pc' := 399) rfl rfl rfl rfl (C_X8_day hC hV _) (fun vq Mq hq396 => ?_)
  obtain ⟨rfl, w1, rfl, f1, hC1⟩ := hq396
  have hM1 := MRel_9 hV.1 hM f1
  have hs : ∀ q, w1 13 0 0 q = w 13 0 0 q := fun q => f1 13 0 0 q (by omega)
  show WP l X _ md_L_law (399, _, [_], _) _
  refine x_aload_n (pc' := 400) rfl rfl rfl (x_aload_n (pc' := 401) rfl rfl rfl (x_iload_n (pc' := 402) rfl rfl rfl (x_iconst (pc' := 403) rfl rfl (x_iaddN (pc' := 404) rfl rfl (x_iald (pc' := 405) (N := Lz) rfl rfl rfl rfl (by omega) (by omega) ?_)))))
  rw [hs]
  refine x_invQ2 (pc' := 408) rfl rfl rfl rfl (M_X9_day hM1 hV _) (fun vq Mq hq405 => ?_)
  obtain ⟨rfl, w2, rfl, f2, hM2⟩ := hq405
  show WP l X _ md_L_law (408, _, [_, _], _) _
  refine x_icmp_eq (pc' := 411) rfl rfl (fun h408 => ?_) (fun h408 => absurd rfl h408)
  exact K w2 _ (CRel_9 hC1 f2) hM2 (day_V hV)
set_option maxRecDepth 20000 in
theorem w_effort {l : Launch} {X : XT} {d Lz : Nat} {w : WF} {a : AS} {i : Nat} {Q : Option AV → Mem → Prop} (hL : Lz ≤ 256) (hi : i + 4 ≤ Lz) (hC : CRel w a) (hM : MRel w a) (hV : AVl a) (K : ∀ (w' : WF) (a' : AS), CRel w' a' → MRel w' a' → AVl a' → WP l X (d + 9) md_L_law (1203, [some (.inr (.inr (13, 0, 0))), some (.inr (.inr (8, 0, 0))), some (.inr (.inr (9, 0, 0))), some (.inl (nI i))], [], mk Lz w') Q) : WP l X (d + 9) md_L_law (413, [some (.inr (.inr (13, 0, 0))), some (.inr (.inr (8, 0, 0))), some (.inr (.inr (9, 0, 0))), some (.inl (nI i))], [], mk Lz w) Q := by
  refine x_aload_n (pc' := 414) rfl rfl rfl (x_aload_n (pc' := 415) rfl rfl rfl (x_iload_n (pc' := 416) rfl rfl rfl (x_iconst (pc' := 417) rfl rfl (x_iaddN (pc' := 418) rfl rfl (x_iald (pc' := 419) (N := Lz) rfl rfl rfl rfl (by omega) (by omega) ?_)))))
  refine x_aload_n (pc' := 420) rfl rfl rfl (x_iload_n (pc' := 421) rfl rfl rfl (x_iconst (pc' := 422) rfl rfl (x_iaddN (pc' := 423) rfl rfl (x_iald (pc' := 424) (N := Lz) rfl rfl rfl rfl (by omega) (by omega) (x_invQ3 (pc' := 427) rfl rfl rfl rfl rfl (C_X8_effort hC hV _ _) (fun vq Mq hq424 => ?_))))))
  obtain ⟨rfl, w1, rfl, f1, hC1⟩ := hq424
  have hM1 := MRel_9 hV.1 hM f1
  have hs : ∀ q, w1 13 0 0 q = w 13 0 0 q := fun q => f1 13 0 0 q (by omega)
  show WP l X _ md_L_law (427, _, [_], _) _
  refine x_aload_n (pc' := 428) rfl rfl rfl (x_aload_n (pc' := 429) rfl rfl rfl (x_iload_n (pc' := 430) rfl rfl rfl (x_iconst (pc' := 431) rfl rfl (x_iaddN (pc' := 432) rfl rfl (x_iald (pc' := 433) (N := Lz) rfl rfl rfl rfl (by omega) (by omega) ?_)))))
  rw [hs]
  refine x_aload_n (pc' := 434) rfl rfl rfl (x_iload_n (pc' := 435) rfl rfl rfl (x_iconst (pc' := 436) rfl rfl (x_iaddN (pc' := 437) rfl rfl (x_iald (pc' := 438) (N := Lz) rfl rfl rfl rfl (by omega) (by omega) ?_))))
  rw [hs]
  refine x_invQ3 (pc' := 441) rfl rfl rfl rfl rfl (M_X9_effort hM1 hV _ _) (fun vq Mq hq438 => ?_)
  obtain ⟨rfl, w2, rfl, f2, hM2⟩ := hq438
  show WP l X _ md_L_law (441, _, [_, _], _) _
  refine x_icmp_eq (pc' := 444) rfl rfl (fun h441 => ?_) (fun h441 => absurd rfl h441)
  exact K w2 _ (CRel_9 hC1 f2) hM2 (effort_V hV)
set_option maxRecDepth 20000 in
theorem w_rain {l : Launch} {X : XT} {d Lz : Nat} {w : WF} {a : AS} {i : Nat} {Q : Option AV → Mem → Prop} (hL : Lz ≤ 256) (hi : i + 4 ≤ Lz) (hC : CRel w a) (hM : MRel w a) (hV : AVl a) (K : ∀ (w' : WF) (a' : AS), CRel w' a' → MRel w' a' → AVl a' → WP l X (d + 9) md_L_law (1203, [some (.inr (.inr (13, 0, 0))), some (.inr (.inr (8, 0, 0))), some (.inr (.inr (9, 0, 0))), some (.inl (nI i))], [], mk Lz w') Q) : WP l X (d + 9) md_L_law (446, [some (.inr (.inr (13, 0, 0))), some (.inr (.inr (8, 0, 0))), some (.inr (.inr (9, 0, 0))), some (.inl (nI i))], [], mk Lz w) Q := by
  by_cases hx : w 13 0 0 (i + 1) = 0
  · refine x_aload_n (pc' := 447) rfl rfl rfl (x_aload_n (pc' := 448) rfl rfl rfl (x_iload_n (pc' := 449) rfl rfl rfl (x_iconst (pc' := 450) rfl rfl (x_iaddN (pc' := 451) rfl rfl (x_iald (pc' := 452) (N := Lz) rfl rfl rfl rfl (by omega) (by omega) ?_)))))
    refine x_if_eq (pc' := 455) rfl rfl (fun h452 => ?_) (fun h452 => absurd hx h452)
    refine x_iconst (pc' := 460) rfl rfl (x_invQ2 (pc' := 463) rfl rfl rfl rfl (C_X8_rain hC hV _ (by decide)) (fun vq Mq hq460 => ?_))
    obtain ⟨rfl, w1, rfl, f1, hC1⟩ := hq460
    have hM1 := MRel_9 hV.1 hM f1
    have hs : ∀ q, w1 13 0 0 q = w 13 0 0 q := fun q => f1 13 0 0 q (by omega)
    show WP l X _ md_L_law (463, _, [_], _) _
    refine x_aload_n (pc' := 464) rfl rfl rfl (x_aload_n (pc' := 465) rfl rfl rfl (x_iload_n (pc' := 466) rfl rfl rfl (x_iconst (pc' := 467) rfl rfl (x_iaddN (pc' := 468) rfl rfl (x_iald (pc' := 469) (N := Lz) rfl rfl rfl rfl (by omega) (by omega) ?_)))))
    rw [hs]
    refine x_if_eq (pc' := 472) rfl rfl (fun h469 => ?_) (fun h469 => absurd hx h469)
    refine x_iconst (pc' := 477) rfl rfl (x_invQ2 (pc' := 480) rfl rfl rfl rfl (M_X9_rain hM1 hV _ (by decide)) (fun vq Mq hq477 => ?_))
    obtain ⟨rfl, w2, rfl, f2, hM2⟩ := hq477
    show WP l X _ md_L_law (480, _, [_, _], _) _
    refine x_icmp_eq (pc' := 483) rfl rfl (fun h480 => ?_) (fun h480 => absurd rfl h480)
    exact K w2 _ (CRel_9 hC1 f2) hM2 (rain_V (by decide) hV)
  · refine x_aload_n (pc' := 447) rfl rfl rfl (x_aload_n (pc' := 448) rfl rfl rfl (x_iload_n (pc' := 449) rfl rfl rfl (x_iconst (pc' := 450) rfl rfl (x_iaddN (pc' := 451) rfl rfl (x_iald (pc' := 452) (N := Lz) rfl rfl rfl rfl (by omega) (by omega) ?_)))))
    refine x_if_eq (pc' := 455) rfl rfl (fun h452 => absurd h452 hx) (fun h452 => ?_)
    refine x_iconst (pc' := 456) rfl rfl (x_goto rfl (x_invQ2 (pc' := 463) rfl rfl rfl rfl (C_X8_rain hC hV _ (by decide)) (fun vq Mq hq460 => ?_)))
    obtain ⟨rfl, w1, rfl, f1, hC1⟩ := hq460
    have hM1 := MRel_9 hV.1 hM f1
    have hs : ∀ q, w1 13 0 0 q = w 13 0 0 q := fun q => f1 13 0 0 q (by omega)
    show WP l X _ md_L_law (463, _, [_], _) _
    refine x_aload_n (pc' := 464) rfl rfl rfl (x_aload_n (pc' := 465) rfl rfl rfl (x_iload_n (pc' := 466) rfl rfl rfl (x_iconst (pc' := 467) rfl rfl (x_iaddN (pc' := 468) rfl rfl (x_iald (pc' := 469) (N := Lz) rfl rfl rfl rfl (by omega) (by omega) ?_)))))
    rw [hs]
    refine x_if_eq (pc' := 472) rfl rfl (fun h469 => absurd h469 hx) (fun h469 => ?_)
    refine x_iconst (pc' := 473) rfl rfl (x_goto rfl (x_invQ2 (pc' := 480) rfl rfl rfl rfl (M_X9_rain hM1 hV _ (by decide)) (fun vq Mq hq477 => ?_)))
    obtain ⟨rfl, w2, rfl, f2, hM2⟩ := hq477
    show WP l X _ md_L_law (480, _, [_, _], _) _
    refine x_icmp_eq (pc' := 483) rfl rfl (fun h480 => ?_) (fun h480 => absurd rfl h480)
    exact K w2 _ (CRel_9 hC1 f2) hM2 (rain_V (by decide) hV)
set_option maxRecDepth 20000 in
theorem w_teach {l : Launch} {X : XT} {d Lz : Nat} {w : WF} {a : AS} {i : Nat} {Q : Option AV → Mem → Prop} (hL : Lz ≤ 256) (hi : i + 4 ≤ Lz) (hC : CRel w a) (hM : MRel w a) (hV : AVl a) (K : ∀ (w' : WF) (a' : AS), CRel w' a' → MRel w' a' → AVl a' → WP l X (d + 9) md_L_law (1203, [some (.inr (.inr (13, 0, 0))), some (.inr (.inr (8, 0, 0))), some (.inr (.inr (9, 0, 0))), some (.inl (nI i))], [], mk Lz w') Q) : WP l X (d + 9) md_L_law (485, [some (.inr (.inr (13, 0, 0))), some (.inr (.inr (8, 0, 0))), some (.inr (.inr (9, 0, 0))), some (.inl (nI i))], [], mk Lz w) Q := by
  refine x_aload_n (pc' := 486) rfl rfl rfl (x_aload_n (pc' := 487) rfl rfl rfl (x_iload_n (pc' := 488) rfl rfl rfl (x_iconst (pc' := 489) rfl rfl (x_iaddN (pc' := 490) rfl rfl (x_iald (pc' := 491) (N := Lz) rfl rfl rfl rfl (by omega) (by omega) ?_)))))
  refine x_aload_n (pc' := 492) rfl rfl rfl (x_iload_n (pc' := 493) rfl rfl rfl (x_iconst (pc' := 494) rfl rfl (x_iaddN (pc' := 495) rfl rfl (x_iald (pc' := 496) (N := Lz) rfl rfl rfl rfl (by omega) (by omega) (x_aload_n (pc' := 497) rfl rfl rfl ?_)))))
  refine x_iload_n (pc' := 498) rfl rfl rfl (x_iconst (pc' := 499) rfl rfl (x_iaddN (pc' := 500) rfl rfl (x_iald (pc' := 501) (N := Lz) rfl rfl rfl rfl (by omega) (by omega) (x_invQ4 (pc' := 504) rfl rfl rfl rfl rfl rfl (C_X8_teach hC hV _ _ _) (fun vq Mq hq501 => ?_)))))
  obtain ⟨rfl, w1, rfl, f1, hC1⟩ := hq501
  have hM1 := MRel_9 hV.1 hM f1
  have hs : ∀ q, w1 13 0 0 q = w 13 0 0 q := fun q => f1 13 0 0 q (by omega)
  show WP l X _ md_L_law (504, _, [_], _) _
  refine x_aload_n (pc' := 505) rfl rfl rfl (x_aload_n (pc' := 506) rfl rfl rfl (x_iload_n (pc' := 507) rfl rfl rfl (x_iconst (pc' := 508) rfl rfl (x_iaddN (pc' := 509) rfl rfl (x_iald (pc' := 510) (N := Lz) rfl rfl rfl rfl (by omega) (by omega) ?_)))))
  rw [hs]
  refine x_aload_n (pc' := 511) rfl rfl rfl (x_iload_n (pc' := 512) rfl rfl rfl (x_iconst (pc' := 513) rfl rfl (x_iaddN (pc' := 514) rfl rfl (x_iald (pc' := 515) (N := Lz) rfl rfl rfl rfl (by omega) (by omega) ?_))))
  rw [hs]
  refine x_aload_n (pc' := 516) rfl rfl rfl (x_iload_n (pc' := 517) rfl rfl rfl (x_iconst (pc' := 518) rfl rfl (x_iaddN (pc' := 519) rfl rfl (x_iald (pc' := 520) (N := Lz) rfl rfl rfl rfl (by omega) (by omega) ?_))))
  rw [hs]
  refine x_invQ4 (pc' := 523) rfl rfl rfl rfl rfl rfl (M_X9_teach hM1 hV _ _ _) (fun vq Mq hq520 => ?_)
  obtain ⟨rfl, w2, rfl, f2, hM2⟩ := hq520
  show WP l X _ md_L_law (523, _, [_, _], _) _
  refine x_icmp_eq (pc' := 526) rfl rfl (fun h523 => ?_) (fun h523 => absurd rfl h523)
  exact K w2 _ (CRel_9 hC1 f2) hM2 (teach_V hV)
set_option maxRecDepth 20000 in
theorem w_send {l : Launch} {X : XT} {d Lz : Nat} {w : WF} {a : AS} {i : Nat} {Q : Option AV → Mem → Prop} (hL : Lz ≤ 256) (hi : i + 4 ≤ Lz) (hC : CRel w a) (hM : MRel w a) (hV : AVl a) (K : ∀ (w' : WF) (a' : AS), CRel w' a' → MRel w' a' → AVl a' → WP l X (d + 9) md_L_law (1203, [some (.inr (.inr (13, 0, 0))), some (.inr (.inr (8, 0, 0))), some (.inr (.inr (9, 0, 0))), some (.inl (nI i))], [], mk Lz w') Q) : WP l X (d + 9) md_L_law (528, [some (.inr (.inr (13, 0, 0))), some (.inr (.inr (8, 0, 0))), some (.inr (.inr (9, 0, 0))), some (.inl (nI i))], [], mk Lz w) Q := by
  refine x_aload_n (pc' := 529) rfl rfl rfl (x_aload_n (pc' := 530) rfl rfl rfl (x_iload_n (pc' := 531) rfl rfl rfl (x_iconst (pc' := 532) rfl rfl (x_iaddN (pc' := 533) rfl rfl (x_iald (pc' := 534) (N := Lz) rfl rfl rfl rfl (by omega) (by omega) ?_)))))
  refine x_invQ2 (pc' := 537) rfl rfl rfl rfl (C_X8_send hC hV _) (fun vq Mq hq534 => ?_)
  obtain ⟨rfl, w1, rfl, f1, hC1⟩ := hq534
  have hM1 := MRel_9 hV.1 hM f1
  have hs : ∀ q, w1 13 0 0 q = w 13 0 0 q := fun q => f1 13 0 0 q (by omega)
  show WP l X _ md_L_law (537, _, [_], _) _
  refine x_aload_n (pc' := 538) rfl rfl rfl (x_aload_n (pc' := 539) rfl rfl rfl (x_iload_n (pc' := 540) rfl rfl rfl (x_iconst (pc' := 541) rfl rfl (x_iaddN (pc' := 542) rfl rfl (x_iald (pc' := 543) (N := Lz) rfl rfl rfl rfl (by omega) (by omega) ?_)))))
  rw [hs]
  refine x_invQ2 (pc' := 546) rfl rfl rfl rfl (M_X9_send hM1 hV _) (fun vq Mq hq543 => ?_)
  obtain ⟨rfl, w2, rfl, f2, hM2⟩ := hq543
  show WP l X _ md_L_law (546, _, [_, _], _) _
  refine x_icmp_eq (pc' := 549) rfl rfl (fun h546 => ?_) (fun h546 => absurd rfl h546)
  exact K w2 _ (CRel_9 hC1 f2) hM2 (send_V hV)
set_option maxRecDepth 20000 in
theorem w_recall {l : Launch} {X : XT} {d Lz : Nat} {w : WF} {a : AS} {i : Nat} {Q : Option AV → Mem → Prop} (hL : Lz ≤ 256) (hi : i + 4 ≤ Lz) (hC : CRel w a) (hM : MRel w a) (hV : AVl a) (K : ∀ (w' : WF) (a' : AS), CRel w' a' → MRel w' a' → AVl a' → WP l X (d + 9) md_L_law (1203, [some (.inr (.inr (13, 0, 0))), some (.inr (.inr (8, 0, 0))), some (.inr (.inr (9, 0, 0))), some (.inl (nI i))], [], mk Lz w') Q) : WP l X (d + 9) md_L_law (551, [some (.inr (.inr (13, 0, 0))), some (.inr (.inr (8, 0, 0))), some (.inr (.inr (9, 0, 0))), some (.inl (nI i))], [], mk Lz w) Q := by
  refine x_aload_n (pc' := 552) rfl rfl rfl (x_aload_n (pc' := 553) rfl rfl rfl (x_iload_n (pc' := 554) rfl rfl rfl (x_iconst (pc' := 555) rfl rfl (x_iaddN (pc' := 556) rfl rfl (x_iald (pc' := 557) (N := Lz) rfl rfl rfl rfl (by omega) (by omega) ?_)))))
  refine x_invQ2 (pc' := 560) rfl rfl rfl rfl (C_X8_recall hC hV _) (fun vq Mq hq557 => ?_)
  obtain ⟨rfl, w1, rfl, f1, hC1⟩ := hq557
  have hM1 := MRel_9 hV.1 hM f1
  have hs : ∀ q, w1 13 0 0 q = w 13 0 0 q := fun q => f1 13 0 0 q (by omega)
  show WP l X _ md_L_law (560, _, [_], _) _
  refine x_aload_n (pc' := 561) rfl rfl rfl (x_aload_n (pc' := 562) rfl rfl rfl (x_iload_n (pc' := 563) rfl rfl rfl (x_iconst (pc' := 564) rfl rfl (x_iaddN (pc' := 565) rfl rfl (x_iald (pc' := 566) (N := Lz) rfl rfl rfl rfl (by omega) (by omega) ?_)))))
  rw [hs]
  refine x_invQ2 (pc' := 569) rfl rfl rfl rfl (M_X9_recall hM1 hV _) (fun vq Mq hq566 => ?_)
  obtain ⟨rfl, w2, rfl, f2, hM2⟩ := hq566
  show WP l X _ md_L_law (569, _, [_, _], _) _
  refine x_icmp_eq (pc' := 572) rfl rfl (fun h569 => ?_) (fun h569 => absurd rfl h569)
  exact K w2 _ (CRel_9 hC1 f2) hM2 (recall_V hV)
set_option maxRecDepth 20000 in
theorem w_drift {l : Launch} {X : XT} {d Lz : Nat} {w : WF} {a : AS} {i : Nat} {Q : Option AV → Mem → Prop} (hL : Lz ≤ 256) (hi : i + 4 ≤ Lz) (hC : CRel w a) (hM : MRel w a) (hV : AVl a) (K : ∀ (w' : WF) (a' : AS), CRel w' a' → MRel w' a' → AVl a' → WP l X (d + 9) md_L_law (1203, [some (.inr (.inr (13, 0, 0))), some (.inr (.inr (8, 0, 0))), some (.inr (.inr (9, 0, 0))), some (.inl (nI i))], [], mk Lz w') Q) : WP l X (d + 9) md_L_law (574, [some (.inr (.inr (13, 0, 0))), some (.inr (.inr (8, 0, 0))), some (.inr (.inr (9, 0, 0))), some (.inl (nI i))], [], mk Lz w) Q := by
  refine x_aload_n (pc' := 575) rfl rfl rfl (x_aload_n (pc' := 576) rfl rfl rfl (x_iload_n (pc' := 577) rfl rfl rfl (x_iconst (pc' := 578) rfl rfl (x_iaddN (pc' := 579) rfl rfl (x_iald (pc' := 580) (N := Lz) rfl rfl rfl rfl (by omega) (by omega) ?_)))))
  refine x_invQ2 (pc' := 583) rfl rfl rfl rfl (C_X8_drift hC hV _) (fun vq Mq hq580 => ?_)
  obtain ⟨rfl, w1, rfl, f1, hC1⟩ := hq580
  have hM1 := MRel_9 hV.1 hM f1
  have hs : ∀ q, w1 13 0 0 q = w 13 0 0 q := fun q => f1 13 0 0 q (by omega)
  show WP l X _ md_L_law (583, _, [_], _) _
  refine x_aload_n (pc' := 584) rfl rfl rfl (x_aload_n (pc' := 585) rfl rfl rfl (x_iload_n (pc' := 586) rfl rfl rfl (x_iconst (pc' := 587) rfl rfl (x_iaddN (pc' := 588) rfl rfl (x_iald (pc' := 589) (N := Lz) rfl rfl rfl rfl (by omega) (by omega) ?_)))))
  rw [hs]
  refine x_invQ2 (pc' := 592) rfl rfl rfl rfl (M_X9_drift hM1 hV _) (fun vq Mq hq589 => ?_)
  obtain ⟨rfl, w2, rfl, f2, hM2⟩ := hq589
  show WP l X _ md_L_law (592, _, [_, _], _) _
  refine x_icmp_eq (pc' := 595) rfl rfl (fun h592 => ?_) (fun h592 => absurd rfl h592)
  exact K w2 _ (CRel_9 hC1 f2) hM2 (drift_V hV)
set_option maxRecDepth 20000 in
theorem w_undo {l : Launch} {X : XT} {d Lz : Nat} {w : WF} {a : AS} {i : Nat} {Q : Option AV → Mem → Prop} (hL : Lz ≤ 256) (hi : i + 4 ≤ Lz) (hC : CRel w a) (hM : MRel w a) (hV : AVl a) (K : ∀ (w' : WF) (a' : AS), CRel w' a' → MRel w' a' → AVl a' → WP l X (d + 9) md_L_law (1203, [some (.inr (.inr (13, 0, 0))), some (.inr (.inr (8, 0, 0))), some (.inr (.inr (9, 0, 0))), some (.inl (nI i))], [], mk Lz w') Q) : WP l X (d + 9) md_L_law (597, [some (.inr (.inr (13, 0, 0))), some (.inr (.inr (8, 0, 0))), some (.inr (.inr (9, 0, 0))), some (.inl (nI i))], [], mk Lz w) Q := by
  refine x_aload_n (pc' := 598) rfl rfl rfl (x_aload_n (pc' := 599) rfl rfl rfl (x_iload_n (pc' := 600) rfl rfl rfl (x_iconst (pc' := 601) rfl rfl (x_iaddN (pc' := 602) rfl rfl (x_iald (pc' := 603) (N := Lz) rfl rfl rfl rfl (by omega) (by omega) ?_)))))
  refine x_invQ2 (pc' := 606) rfl rfl rfl rfl (C_X8_undo hC hV _) (fun vq Mq hq603 => ?_)
  obtain ⟨rfl, w1, rfl, f1, hC1⟩ := hq603
  have hM1 := MRel_9 hV.1 hM f1
  have hs : ∀ q, w1 13 0 0 q = w 13 0 0 q := fun q => f1 13 0 0 q (by omega)
  show WP l X _ md_L_law (606, _, [_], _) _
  refine x_aload_n (pc' := 607) rfl rfl rfl (x_aload_n (pc' := 608) rfl rfl rfl (x_iload_n (pc' := 609) rfl rfl rfl (x_iconst (pc' := 610) rfl rfl (x_iaddN (pc' := 611) rfl rfl (x_iald (pc' := 612) (N := Lz) rfl rfl rfl rfl (by omega) (by omega) ?_)))))
  rw [hs]
  refine x_invQ2 (pc' := 615) rfl rfl rfl rfl (M_X9_undo hM1 hV _) (fun vq Mq hq612 => ?_)
  obtain ⟨rfl, w2, rfl, f2, hM2⟩ := hq612
  show WP l X _ md_L_law (615, _, [_, _], _) _
  refine x_icmp_eq (pc' := 618) rfl rfl (fun h615 => ?_) (fun h615 => absurd rfl h615)
  exact K w2 _ (CRel_9 hC1 f2) hM2 (undo_V hV)
set_option maxRecDepth 20000 in
theorem w_mark {l : Launch} {X : XT} {d Lz : Nat} {w : WF} {a : AS} {i : Nat} {Q : Option AV → Mem → Prop} (hL : Lz ≤ 256) (hi : i + 4 ≤ Lz) (hC : CRel w a) (hM : MRel w a) (hV : AVl a) (K : ∀ (w' : WF) (a' : AS), CRel w' a' → MRel w' a' → AVl a' → WP l X (d + 9) md_L_law (1203, [some (.inr (.inr (13, 0, 0))), some (.inr (.inr (8, 0, 0))), some (.inr (.inr (9, 0, 0))), some (.inl (nI i))], [], mk Lz w') Q) : WP l X (d + 9) md_L_law (620, [some (.inr (.inr (13, 0, 0))), some (.inr (.inr (8, 0, 0))), some (.inr (.inr (9, 0, 0))), some (.inl (nI i))], [], mk Lz w) Q := by
  refine x_aload_n (pc' := 621) rfl rfl rfl (x_aload_n (pc' := 622) rfl rfl rfl (x_iload_n (pc' := 623) rfl rfl rfl (x_iconst (pc' := 624) rfl rfl (x_iaddN (pc' := 625) rfl rfl (x_iald (pc' := 626) (N := Lz) rfl rfl rfl rfl (by omega) (by omega) ?_)))))
  refine x_aload_n (pc' := 627) rfl rfl rfl (x_iload_n (pc' := 628) rfl rfl rfl (x_iconst (pc' := 629) rfl rfl (x_iaddN (pc' := 630) rfl rfl (x_iald (pc' := 631) (N := Lz) rfl rfl rfl rfl (by omega) (by omega) (x_invQ3 (pc' := 634) rfl rfl rfl rfl rfl (C_X8_mark hC hV _ _) (fun vq Mq hq631 => ?_))))))
  obtain ⟨rfl, w1, rfl, f1, hC1⟩ := hq631
  have hM1 := MRel_9 hV.1 hM f1
  have hs : ∀ q, w1 13 0 0 q = w 13 0 0 q := fun q => f1 13 0 0 q (by omega)
  show WP l X _ md_L_law (634, _, [_], _) _
  refine x_aload_n (pc' := 635) rfl rfl rfl (x_aload_n (pc' := 636) rfl rfl rfl (x_iload_n (pc' := 637) rfl rfl rfl (x_iconst (pc' := 638) rfl rfl (x_iaddN (pc' := 639) rfl rfl (x_iald (pc' := 640) (N := Lz) rfl rfl rfl rfl (by omega) (by omega) ?_)))))
  rw [hs]
  refine x_aload_n (pc' := 641) rfl rfl rfl (x_iload_n (pc' := 642) rfl rfl rfl (x_iconst (pc' := 643) rfl rfl (x_iaddN (pc' := 644) rfl rfl (x_iald (pc' := 645) (N := Lz) rfl rfl rfl rfl (by omega) (by omega) ?_))))
  rw [hs]
  refine x_invQ3 (pc' := 648) rfl rfl rfl rfl rfl (M_X9_mark hM1 hV _ _) (fun vq Mq hq645 => ?_)
  obtain ⟨rfl, w2, rfl, f2, hM2⟩ := hq645
  show WP l X _ md_L_law (648, _, [_, _], _) _
  refine x_icmp_eq (pc' := 651) rfl rfl (fun h648 => ?_) (fun h648 => absurd rfl h648)
  exact K w2 _ (CRel_9 hC1 f2) hM2 hV
set_option maxRecDepth 20000 in
theorem w_place {l : Launch} {X : XT} {d Lz : Nat} {w : WF} {a : AS} {i : Nat} {Q : Option AV → Mem → Prop} (hL : Lz ≤ 256) (hi : i + 4 ≤ Lz) (hC : CRel w a) (hM : MRel w a) (hV : AVl a) (K : ∀ (w' : WF) (a' : AS), CRel w' a' → MRel w' a' → AVl a' → WP l X (d + 9) md_L_law (1203, [some (.inr (.inr (13, 0, 0))), some (.inr (.inr (8, 0, 0))), some (.inr (.inr (9, 0, 0))), some (.inl (nI i))], [], mk Lz w') Q) : WP l X (d + 9) md_L_law (653, [some (.inr (.inr (13, 0, 0))), some (.inr (.inr (8, 0, 0))), some (.inr (.inr (9, 0, 0))), some (.inl (nI i))], [], mk Lz w) Q := by
  refine x_aload_n (pc' := 654) rfl rfl rfl (x_aload_n (pc' := 655) rfl rfl rfl (x_iload_n (pc' := 656) rfl rfl rfl (x_iconst (pc' := 657) rfl rfl (x_iaddN (pc' := 658) rfl rfl (x_iald (pc' := 659) (N := Lz) rfl rfl rfl rfl (by omega) (by omega) ?_)))))
  refine x_aload_n (pc' := 660) rfl rfl rfl (x_iload_n (pc' := 661) rfl rfl rfl (x_iconst (pc' := 662) rfl rfl (x_iaddN (pc' := 663) rfl rfl (x_iald (pc' := 664) (N := Lz) rfl rfl rfl rfl (by omega) (by omega) (x_invQ3 (pc' := 667) rfl rfl rfl rfl rfl (C_X8_place hC hV _ _) (fun vq Mq hq664 => ?_))))))
  obtain ⟨rfl, w1, rfl, f1, hC1⟩ := hq664
  have hM1 := MRel_9 hV.1 hM f1
  have hs : ∀ q, w1 13 0 0 q = w 13 0 0 q := fun q => f1 13 0 0 q (by omega)
  show WP l X _ md_L_law (667, _, [_], _) _
  refine x_aload_n (pc' := 668) rfl rfl rfl (x_aload_n (pc' := 669) rfl rfl rfl (x_iload_n (pc' := 670) rfl rfl rfl (x_iconst (pc' := 671) rfl rfl (x_iaddN (pc' := 672) rfl rfl (x_iald (pc' := 673) (N := Lz) rfl rfl rfl rfl (by omega) (by omega) ?_)))))
  rw [hs]
  refine x_aload_n (pc' := 674) rfl rfl rfl (x_iload_n (pc' := 675) rfl rfl rfl (x_iconst (pc' := 676) rfl rfl (x_iaddN (pc' := 677) rfl rfl (x_iald (pc' := 678) (N := Lz) rfl rfl rfl rfl (by omega) (by omega) ?_))))
  rw [hs]
  refine x_invQ3 (pc' := 681) rfl rfl rfl rfl rfl (M_X9_place hM1 hV _ _) (fun vq Mq hq678 => ?_)
  obtain ⟨rfl, w2, rfl, f2, hM2⟩ := hq678
  show WP l X _ md_L_law (681, _, [_, _], _) _
  refine x_icmp_eq (pc' := 684) rfl rfl (fun h681 => ?_) (fun h681 => absurd rfl h681)
  exact K w2 _ (CRel_9 hC1 f2) hM2 hV
set_option maxRecDepth 20000 in
theorem w_wouldBe {l : Launch} {X : XT} {d Lz : Nat} {w : WF} {a : AS} {i : Nat} {Q : Option AV → Mem → Prop} (hL : Lz ≤ 256) (hi : i + 4 ≤ Lz) (hC : CRel w a) (hM : MRel w a) (hV : AVl a) (K : ∀ (w' : WF) (a' : AS), CRel w' a' → MRel w' a' → AVl a' → WP l X (d + 9) md_L_law (1203, [some (.inr (.inr (13, 0, 0))), some (.inr (.inr (8, 0, 0))), some (.inr (.inr (9, 0, 0))), some (.inl (nI i))], [], mk Lz w') Q) : WP l X (d + 9) md_L_law (686, [some (.inr (.inr (13, 0, 0))), some (.inr (.inr (8, 0, 0))), some (.inr (.inr (9, 0, 0))), some (.inl (nI i))], [], mk Lz w) Q := by
  refine x_aload_n (pc' := 687) rfl rfl rfl (x_aload_n (pc' := 688) rfl rfl rfl (x_iload_n (pc' := 689) rfl rfl rfl (x_iconst (pc' := 690) rfl rfl (x_iaddN (pc' := 691) rfl rfl (x_iald (pc' := 692) (N := Lz) rfl rfl rfl rfl (by omega) (by omega) ?_)))))
  refine x_aload_n (pc' := 693) rfl rfl rfl (x_iload_n (pc' := 694) rfl rfl rfl (x_iconst (pc' := 695) rfl rfl (x_iaddN (pc' := 696) rfl rfl (x_iald (pc' := 697) (N := Lz) rfl rfl rfl rfl (by omega) (by omega) (x_invQ3 (pc' := 700) rfl rfl rfl rfl rfl (C_X8_wouldBe hC hV _ _) (fun vq Mq hq697 => ?_))))))
  obtain ⟨rfl, w1, rfl, f1, hC1⟩ := hq697
  have hM1 := MRel_9 hV.1 hM f1
  have hs : ∀ q, w1 13 0 0 q = w 13 0 0 q := fun q => f1 13 0 0 q (by omega)
  show WP l X _ md_L_law (700, _, [_], _) _
  refine x_aload_n (pc' := 701) rfl rfl rfl (x_aload_n (pc' := 702) rfl rfl rfl (x_iload_n (pc' := 703) rfl rfl rfl (x_iconst (pc' := 704) rfl rfl (x_iaddN (pc' := 705) rfl rfl (x_iald (pc' := 706) (N := Lz) rfl rfl rfl rfl (by omega) (by omega) ?_)))))
  rw [hs]
  refine x_aload_n (pc' := 707) rfl rfl rfl (x_iload_n (pc' := 708) rfl rfl rfl (x_iconst (pc' := 709) rfl rfl (x_iaddN (pc' := 710) rfl rfl (x_iald (pc' := 711) (N := Lz) rfl rfl rfl rfl (by omega) (by omega) ?_))))
  rw [hs]
  refine x_invQ3 (pc' := 714) rfl rfl rfl rfl rfl (M_X9_wouldBe hM1 hV _ _) (fun vq Mq hq711 => ?_)
  obtain ⟨rfl, w2, rfl, f2, hM2⟩ := hq711
  show WP l X _ md_L_law (714, _, [_, _], _) _
  refine x_icmp_eq (pc' := 717) rfl rfl (fun h714 => ?_) (fun h714 => absurd rfl h714)
  exact K w2 _ (CRel_9 hC1 f2) hM2 hV
set_option maxRecDepth 20000 in
theorem w_holds {l : Launch} {X : XT} {d Lz : Nat} {w : WF} {a : AS} {i : Nat} {Q : Option AV → Mem → Prop} (hL : Lz ≤ 256) (hi : i + 4 ≤ Lz) (hC : CRel w a) (hM : MRel w a) (hV : AVl a) (K : ∀ (w' : WF) (a' : AS), CRel w' a' → MRel w' a' → AVl a' → WP l X (d + 9) md_L_law (1203, [some (.inr (.inr (13, 0, 0))), some (.inr (.inr (8, 0, 0))), some (.inr (.inr (9, 0, 0))), some (.inl (nI i))], [], mk Lz w') Q) : WP l X (d + 9) md_L_law (719, [some (.inr (.inr (13, 0, 0))), some (.inr (.inr (8, 0, 0))), some (.inr (.inr (9, 0, 0))), some (.inl (nI i))], [], mk Lz w) Q := by
  refine x_aload_n (pc' := 720) rfl rfl rfl (x_aload_n (pc' := 721) rfl rfl rfl (x_iload_n (pc' := 722) rfl rfl rfl (x_iconst (pc' := 723) rfl rfl (x_iaddN (pc' := 724) rfl rfl (x_iald (pc' := 725) (N := Lz) rfl rfl rfl rfl (by omega) (by omega) ?_)))))
  refine x_aload_n (pc' := 726) rfl rfl rfl (x_iload_n (pc' := 727) rfl rfl rfl (x_iconst (pc' := 728) rfl rfl (x_iaddN (pc' := 729) rfl rfl (x_iald (pc' := 730) (N := Lz) rfl rfl rfl rfl (by omega) (by omega) (x_invQ3 (pc' := 733) rfl rfl rfl rfl rfl (C_X8_holds hC hV _ _) (fun vq Mq hq730 => ?_))))))
  obtain ⟨rfl, w1, rfl, f1, hC1⟩ := hq730
  have hM1 := MRel_9 hV.1 hM f1
  have hs : ∀ q, w1 13 0 0 q = w 13 0 0 q := fun q => f1 13 0 0 q (by omega)
  show WP l X _ md_L_law (733, _, [_], _) _
  refine x_aload_n (pc' := 734) rfl rfl rfl (x_aload_n (pc' := 735) rfl rfl rfl (x_iload_n (pc' := 736) rfl rfl rfl (x_iconst (pc' := 737) rfl rfl (x_iaddN (pc' := 738) rfl rfl (x_iald (pc' := 739) (N := Lz) rfl rfl rfl rfl (by omega) (by omega) ?_)))))
  rw [hs]
  refine x_aload_n (pc' := 740) rfl rfl rfl (x_iload_n (pc' := 741) rfl rfl rfl (x_iconst (pc' := 742) rfl rfl (x_iaddN (pc' := 743) rfl rfl (x_iald (pc' := 744) (N := Lz) rfl rfl rfl rfl (by omega) (by omega) ?_))))
  rw [hs]
  refine x_invQ3 (pc' := 747) rfl rfl rfl rfl rfl (M_X9_holds hM1 hV _ _) (fun vq Mq hq744 => ?_)
  obtain ⟨rfl, w2, rfl, f2, hM2⟩ := hq744
  show WP l X _ md_L_law (747, _, [_, _], _) _
  refine x_icmp_eq (pc' := 750) rfl rfl (fun h747 => ?_) (fun h747 => absurd rfl h747)
  exact K w2 _ (CRel_9 hC1 f2) hM2 hV
set_option maxRecDepth 20000 in
theorem w_efforts {l : Launch} {X : XT} {d Lz : Nat} {w : WF} {a : AS} {i : Nat} {Q : Option AV → Mem → Prop} (hL : Lz ≤ 256) (hi : i + 4 ≤ Lz) (hC : CRel w a) (hM : MRel w a) (hV : AVl a) (K : ∀ (w' : WF) (a' : AS), CRel w' a' → MRel w' a' → AVl a' → WP l X (d + 9) md_L_law (1203, [some (.inr (.inr (13, 0, 0))), some (.inr (.inr (8, 0, 0))), some (.inr (.inr (9, 0, 0))), some (.inl (nI i))], [], mk Lz w') Q) : WP l X (d + 9) md_L_law (752, [some (.inr (.inr (13, 0, 0))), some (.inr (.inr (8, 0, 0))), some (.inr (.inr (9, 0, 0))), some (.inl (nI i))], [], mk Lz w) Q := by
  refine x_aload_n (pc' := 753) rfl rfl rfl (x_aload_n (pc' := 754) rfl rfl rfl (x_iload_n (pc' := 755) rfl rfl rfl (x_iconst (pc' := 756) rfl rfl (x_iaddN (pc' := 757) rfl rfl (x_iald (pc' := 758) (N := Lz) rfl rfl rfl rfl (by omega) (by omega) ?_)))))
  refine x_aload_n (pc' := 759) rfl rfl rfl (x_iload_n (pc' := 760) rfl rfl rfl (x_iconst (pc' := 761) rfl rfl (x_iaddN (pc' := 762) rfl rfl (x_iald (pc' := 763) (N := Lz) rfl rfl rfl rfl (by omega) (by omega) (x_invQ3 (pc' := 766) rfl rfl rfl rfl rfl (C_X8_efforts hC hV _ _) (fun vq Mq hq763 => ?_))))))
  obtain ⟨rfl, w1, rfl, f1, hC1⟩ := hq763
  have hM1 := MRel_9 hV.1 hM f1
  have hs : ∀ q, w1 13 0 0 q = w 13 0 0 q := fun q => f1 13 0 0 q (by omega)
  show WP l X _ md_L_law (766, _, [_], _) _
  refine x_aload_n (pc' := 767) rfl rfl rfl (x_aload_n (pc' := 768) rfl rfl rfl (x_iload_n (pc' := 769) rfl rfl rfl (x_iconst (pc' := 770) rfl rfl (x_iaddN (pc' := 771) rfl rfl (x_iald (pc' := 772) (N := Lz) rfl rfl rfl rfl (by omega) (by omega) ?_)))))
  rw [hs]
  refine x_aload_n (pc' := 773) rfl rfl rfl (x_iload_n (pc' := 774) rfl rfl rfl (x_iconst (pc' := 775) rfl rfl (x_iaddN (pc' := 776) rfl rfl (x_iald (pc' := 777) (N := Lz) rfl rfl rfl rfl (by omega) (by omega) ?_))))
  rw [hs]
  refine x_invQ3 (pc' := 780) rfl rfl rfl rfl rfl (M_X9_efforts hM1 hV _ _) (fun vq Mq hq777 => ?_)
  obtain ⟨rfl, w2, rfl, f2, hM2⟩ := hq777
  show WP l X _ md_L_law (780, _, [_, _], _) _
  refine x_icmp_eq (pc' := 783) rfl rfl (fun h780 => ?_) (fun h780 => absurd rfl h780)
  exact K w2 _ (CRel_9 hC1 f2) hM2 hV
set_option maxRecDepth 20000 in
theorem w_restless {l : Launch} {X : XT} {d Lz : Nat} {w : WF} {a : AS} {i : Nat} {Q : Option AV → Mem → Prop} (hL : Lz ≤ 256) (hi : i + 4 ≤ Lz) (hC : CRel w a) (hM : MRel w a) (hV : AVl a) (K : ∀ (w' : WF) (a' : AS), CRel w' a' → MRel w' a' → AVl a' → WP l X (d + 9) md_L_law (1203, [some (.inr (.inr (13, 0, 0))), some (.inr (.inr (8, 0, 0))), some (.inr (.inr (9, 0, 0))), some (.inl (nI i))], [], mk Lz w') Q) : WP l X (d + 9) md_L_law (785, [some (.inr (.inr (13, 0, 0))), some (.inr (.inr (8, 0, 0))), some (.inr (.inr (9, 0, 0))), some (.inl (nI i))], [], mk Lz w) Q := by
  refine x_aload_n (pc' := 786) rfl rfl rfl (x_aload_n (pc' := 787) rfl rfl rfl (x_iload_n (pc' := 788) rfl rfl rfl (x_iconst (pc' := 789) rfl rfl (x_iaddN (pc' := 790) rfl rfl (x_iald (pc' := 791) (N := Lz) rfl rfl rfl rfl (by omega) (by omega) ?_)))))
  refine x_invQ2 (pc' := 794) rfl rfl rfl rfl (C_X8_restless hC hV _) (fun vq Mq hq791 => ?_)
  obtain ⟨rfl, w1, rfl, f1, hC1⟩ := hq791
  have hM1 := MRel_9 hV.1 hM f1
  have hs : ∀ q, w1 13 0 0 q = w 13 0 0 q := fun q => f1 13 0 0 q (by omega)
  show WP l X _ md_L_law (794, _, [_], _) _
  refine x_aload_n (pc' := 795) rfl rfl rfl (x_aload_n (pc' := 796) rfl rfl rfl (x_iload_n (pc' := 797) rfl rfl rfl (x_iconst (pc' := 798) rfl rfl (x_iaddN (pc' := 799) rfl rfl (x_iald (pc' := 800) (N := Lz) rfl rfl rfl rfl (by omega) (by omega) ?_)))))
  rw [hs]
  refine x_invQ2 (pc' := 803) rfl rfl rfl rfl (M_X9_restless hM1 hV _) (fun vq Mq hq800 => ?_)
  obtain ⟨rfl, w2, rfl, f2, hM2⟩ := hq800
  show WP l X _ md_L_law (803, _, [_, _], _) _
  refine x_icmp_eq (pc' := 806) rfl rfl (fun h803 => ?_) (fun h803 => absurd rfl h803)
  exact K w2 _ (CRel_9 hC1 f2) hM2 hV
set_option maxRecDepth 20000 in
theorem w_letWin {l : Launch} {X : XT} {d Lz : Nat} {w : WF} {a : AS} {i : Nat} {Q : Option AV → Mem → Prop} (hL : Lz ≤ 256) (hi : i + 4 ≤ Lz) (hC : CRel w a) (hM : MRel w a) (hV : AVl a) (K : ∀ (w' : WF) (a' : AS), CRel w' a' → MRel w' a' → AVl a' → WP l X (d + 9) md_L_law (1203, [some (.inr (.inr (13, 0, 0))), some (.inr (.inr (8, 0, 0))), some (.inr (.inr (9, 0, 0))), some (.inl (nI i))], [], mk Lz w') Q) : WP l X (d + 9) md_L_law (808, [some (.inr (.inr (13, 0, 0))), some (.inr (.inr (8, 0, 0))), some (.inr (.inr (9, 0, 0))), some (.inl (nI i))], [], mk Lz w) Q := by
  refine x_aload_n (pc' := 809) rfl rfl rfl (x_aload_n (pc' := 810) rfl rfl rfl (x_iload_n (pc' := 811) rfl rfl rfl (x_iconst (pc' := 812) rfl rfl (x_iaddN (pc' := 813) rfl rfl (x_iald (pc' := 814) (N := Lz) rfl rfl rfl rfl (by omega) (by omega) ?_)))))
  refine x_aload_n (pc' := 815) rfl rfl rfl (x_iload_n (pc' := 816) rfl rfl rfl (x_iconst (pc' := 817) rfl rfl (x_iaddN (pc' := 818) rfl rfl (x_iald (pc' := 819) (N := Lz) rfl rfl rfl rfl (by omega) (by omega) (x_aload_n (pc' := 820) rfl rfl rfl ?_)))))
  refine x_iload_n (pc' := 821) rfl rfl rfl (x_iconst (pc' := 822) rfl rfl (x_iaddN (pc' := 823) rfl rfl (x_iald (pc' := 824) (N := Lz) rfl rfl rfl rfl (by omega) (by omega) (x_invQ4 (pc' := 827) rfl rfl rfl rfl rfl rfl (C_X8_letWin hC hV _ _ _) (fun vq Mq hq824 => ?_)))))
  obtain ⟨rfl, w1, rfl, f1, hC1⟩ := hq824
  have hM1 := MRel_9 hV.1 hM f1
  have hs : ∀ q, w1 13 0 0 q = w 13 0 0 q := fun q => f1 13 0 0 q (by omega)
  show WP l X _ md_L_law (827, _, [_], _) _
  refine x_aload_n (pc' := 828) rfl rfl rfl (x_aload_n (pc' := 829) rfl rfl rfl (x_iload_n (pc' := 830) rfl rfl rfl (x_iconst (pc' := 831) rfl rfl (x_iaddN (pc' := 832) rfl rfl (x_iald (pc' := 833) (N := Lz) rfl rfl rfl rfl (by omega) (by omega) ?_)))))
  rw [hs]
  refine x_aload_n (pc' := 834) rfl rfl rfl (x_iload_n (pc' := 835) rfl rfl rfl (x_iconst (pc' := 836) rfl rfl (x_iaddN (pc' := 837) rfl rfl (x_iald (pc' := 838) (N := Lz) rfl rfl rfl rfl (by omega) (by omega) ?_))))
  rw [hs]
  refine x_aload_n (pc' := 839) rfl rfl rfl (x_iload_n (pc' := 840) rfl rfl rfl (x_iconst (pc' := 841) rfl rfl (x_iaddN (pc' := 842) rfl rfl (x_iald (pc' := 843) (N := Lz) rfl rfl rfl rfl (by omega) (by omega) ?_))))
  rw [hs]
  refine x_invQ4 (pc' := 846) rfl rfl rfl rfl rfl rfl (M_X9_letWin hM1 hV _ _ _) (fun vq Mq hq843 => ?_)
  obtain ⟨rfl, w2, rfl, f2, hM2⟩ := hq843
  show WP l X _ md_L_law (846, _, [_, _], _) _
  refine x_icmp_eq (pc' := 849) rfl rfl (fun h846 => ?_) (fun h846 => absurd rfl h846)
  exact K w2 _ (CRel_9 hC1 f2) hM2 hV
set_option maxRecDepth 20000 in
theorem w_win {l : Launch} {X : XT} {d Lz : Nat} {w : WF} {a : AS} {i : Nat} {Q : Option AV → Mem → Prop} (hL : Lz ≤ 256) (hi : i + 4 ≤ Lz) (hC : CRel w a) (hM : MRel w a) (hV : AVl a) (K : ∀ (w' : WF) (a' : AS), CRel w' a' → MRel w' a' → AVl a' → WP l X (d + 9) md_L_law (1203, [some (.inr (.inr (13, 0, 0))), some (.inr (.inr (8, 0, 0))), some (.inr (.inr (9, 0, 0))), some (.inl (nI i))], [], mk Lz w') Q) : WP l X (d + 9) md_L_law (851, [some (.inr (.inr (13, 0, 0))), some (.inr (.inr (8, 0, 0))), some (.inr (.inr (9, 0, 0))), some (.inl (nI i))], [], mk Lz w) Q := by
  refine x_aload_n (pc' := 852) rfl rfl rfl (x_aload_n (pc' := 853) rfl rfl rfl (x_iload_n (pc' := 854) rfl rfl rfl (x_iconst (pc' := 855) rfl rfl (x_iaddN (pc' := 856) rfl rfl (x_iald (pc' := 857) (N := Lz) rfl rfl rfl rfl (by omega) (by omega) ?_)))))
  refine x_aload_n (pc' := 858) rfl rfl rfl (x_iload_n (pc' := 859) rfl rfl rfl (x_iconst (pc' := 860) rfl rfl (x_iaddN (pc' := 861) rfl rfl (x_iald (pc' := 862) (N := Lz) rfl rfl rfl rfl (by omega) (by omega) (x_aload_n (pc' := 863) rfl rfl rfl ?_)))))
  refine x_iload_n (pc' := 864) rfl rfl rfl (x_iconst (pc' := 865) rfl rfl (x_iaddN (pc' := 866) rfl rfl (x_iald (pc' := 867) (N := Lz) rfl rfl rfl rfl (by omega) (by omega) (x_invQ4 (pc' := 870) rfl rfl rfl rfl rfl rfl (C_X8_win hC hV _ _ _) (fun vq Mq hq867 => ?_)))))
  obtain ⟨rfl, w1, rfl, f1, hC1⟩ := hq867
  have hM1 := MRel_9 hV.1 hM f1
  have hs : ∀ q, w1 13 0 0 q = w 13 0 0 q := fun q => f1 13 0 0 q (by omega)
  show WP l X _ md_L_law (870, _, [_], _) _
  refine x_aload_n (pc' := 871) rfl rfl rfl (x_aload_n (pc' := 872) rfl rfl rfl (x_iload_n (pc' := 873) rfl rfl rfl (x_iconst (pc' := 874) rfl rfl (x_iaddN (pc' := 875) rfl rfl (x_iald (pc' := 876) (N := Lz) rfl rfl rfl rfl (by omega) (by omega) ?_)))))
  rw [hs]
  refine x_aload_n (pc' := 877) rfl rfl rfl (x_iload_n (pc' := 878) rfl rfl rfl (x_iconst (pc' := 879) rfl rfl (x_iaddN (pc' := 880) rfl rfl (x_iald (pc' := 881) (N := Lz) rfl rfl rfl rfl (by omega) (by omega) ?_))))
  rw [hs]
  refine x_aload_n (pc' := 882) rfl rfl rfl (x_iload_n (pc' := 883) rfl rfl rfl (x_iconst (pc' := 884) rfl rfl (x_iaddN (pc' := 885) rfl rfl (x_iald (pc' := 886) (N := Lz) rfl rfl rfl rfl (by omega) (by omega) ?_))))
  rw [hs]
  refine x_invQ4 (pc' := 889) rfl rfl rfl rfl rfl rfl (M_X9_win hM1 hV _ _ _) (fun vq Mq hq886 => ?_)
  obtain ⟨rfl, w2, rfl, f2, hM2⟩ := hq886
  show WP l X _ md_L_law (889, _, [_, _], _) _
  refine x_icmp_eq (pc' := 892) rfl rfl (fun h889 => ?_) (fun h889 => absurd rfl h889)
  exact K w2 _ (CRel_9 hC1 f2) hM2 hV
set_option maxRecDepth 20000 in
theorem w_next {l : Launch} {X : XT} {d Lz : Nat} {w : WF} {a : AS} {i : Nat} {Q : Option AV → Mem → Prop} (hL : Lz ≤ 256) (hi : i + 4 ≤ Lz) (hC : CRel w a) (hM : MRel w a) (hV : AVl a) (K : ∀ (w' : WF) (a' : AS), CRel w' a' → MRel w' a' → AVl a' → WP l X (d + 9) md_L_law (1203, [some (.inr (.inr (13, 0, 0))), some (.inr (.inr (8, 0, 0))), some (.inr (.inr (9, 0, 0))), some (.inl (nI i))], [], mk Lz w') Q) : WP l X (d + 9) md_L_law (894, [some (.inr (.inr (13, 0, 0))), some (.inr (.inr (8, 0, 0))), some (.inr (.inr (9, 0, 0))), some (.inl (nI i))], [], mk Lz w) Q := by
  refine x_aload_n (pc' := 895) rfl rfl rfl (x_aload_n (pc' := 896) rfl rfl rfl (x_iload_n (pc' := 897) rfl rfl rfl (x_iconst (pc' := 898) rfl rfl (x_iaddN (pc' := 899) rfl rfl (x_iald (pc' := 900) (N := Lz) rfl rfl rfl rfl (by omega) (by omega) ?_)))))
  refine x_invQ2 (pc' := 903) rfl rfl rfl rfl (C_X8_next hC hV _) (fun vq Mq hq900 => ?_)
  obtain ⟨rfl, w1, rfl, f1, hC1⟩ := hq900
  have hM1 := MRel_9 hV.1 hM f1
  have hs : ∀ q, w1 13 0 0 q = w 13 0 0 q := fun q => f1 13 0 0 q (by omega)
  show WP l X _ md_L_law (903, _, [_], _) _
  refine x_aload_n (pc' := 904) rfl rfl rfl (x_aload_n (pc' := 905) rfl rfl rfl (x_iload_n (pc' := 906) rfl rfl rfl (x_iconst (pc' := 907) rfl rfl (x_iaddN (pc' := 908) rfl rfl (x_iald (pc' := 909) (N := Lz) rfl rfl rfl rfl (by omega) (by omega) ?_)))))
  rw [hs]
  refine x_invQ2 (pc' := 912) rfl rfl rfl rfl (M_X9_next hM1 hV _) (fun vq Mq hq909 => ?_)
  obtain ⟨rfl, w2, rfl, f2, hM2⟩ := hq909
  show WP l X _ md_L_law (912, _, [_, _], _) _
  refine x_icmp_eq (pc' := 915) rfl rfl (fun h912 => ?_) (fun h912 => absurd rfl h912)
  exact K w2 _ (CRel_9 hC1 f2) hM2 hV
set_option maxRecDepth 20000 in
theorem w_beats {l : Launch} {X : XT} {d Lz : Nat} {w : WF} {a : AS} {i : Nat} {Q : Option AV → Mem → Prop} (hL : Lz ≤ 256) (hi : i + 4 ≤ Lz) (hC : CRel w a) (hM : MRel w a) (hV : AVl a) (K : ∀ (w' : WF) (a' : AS), CRel w' a' → MRel w' a' → AVl a' → WP l X (d + 9) md_L_law (1203, [some (.inr (.inr (13, 0, 0))), some (.inr (.inr (8, 0, 0))), some (.inr (.inr (9, 0, 0))), some (.inl (nI i))], [], mk Lz w') Q) : WP l X (d + 9) md_L_law (917, [some (.inr (.inr (13, 0, 0))), some (.inr (.inr (8, 0, 0))), some (.inr (.inr (9, 0, 0))), some (.inl (nI i))], [], mk Lz w) Q := by
  refine x_aload_n (pc' := 918) rfl rfl rfl (x_aload_n (pc' := 919) rfl rfl rfl (x_iload_n (pc' := 920) rfl rfl rfl (x_iconst (pc' := 921) rfl rfl (x_iaddN (pc' := 922) rfl rfl (x_iald (pc' := 923) (N := Lz) rfl rfl rfl rfl (by omega) (by omega) ?_)))))
  refine x_aload_n (pc' := 924) rfl rfl rfl (x_iload_n (pc' := 925) rfl rfl rfl (x_iconst (pc' := 926) rfl rfl (x_iaddN (pc' := 927) rfl rfl (x_iald (pc' := 928) (N := Lz) rfl rfl rfl rfl (by omega) (by omega) (x_invQ3 (pc' := 931) rfl rfl rfl rfl rfl (C_X8_beats hC hV _ _) (fun vq Mq hq928 => ?_))))))
  obtain ⟨rfl, w1, rfl, f1, hC1⟩ := hq928
  have hM1 := MRel_9 hV.1 hM f1
  have hs : ∀ q, w1 13 0 0 q = w 13 0 0 q := fun q => f1 13 0 0 q (by omega)
  show WP l X _ md_L_law (931, _, [_], _) _
  refine x_aload_n (pc' := 932) rfl rfl rfl (x_aload_n (pc' := 933) rfl rfl rfl (x_iload_n (pc' := 934) rfl rfl rfl (x_iconst (pc' := 935) rfl rfl (x_iaddN (pc' := 936) rfl rfl (x_iald (pc' := 937) (N := Lz) rfl rfl rfl rfl (by omega) (by omega) ?_)))))
  rw [hs]
  refine x_aload_n (pc' := 938) rfl rfl rfl (x_iload_n (pc' := 939) rfl rfl rfl (x_iconst (pc' := 940) rfl rfl (x_iaddN (pc' := 941) rfl rfl (x_iald (pc' := 942) (N := Lz) rfl rfl rfl rfl (by omega) (by omega) ?_))))
  rw [hs]
  refine x_invQ3 (pc' := 945) rfl rfl rfl rfl rfl (M_X9_beats hM1 hV _ _) (fun vq Mq hq942 => ?_)
  obtain ⟨rfl, w2, rfl, f2, hM2⟩ := hq942
  show WP l X _ md_L_law (945, _, [_, _], _) _
  refine x_icmp_eq (pc' := 948) rfl rfl (fun h945 => ?_) (fun h945 => absurd rfl h945)
  exact K w2 _ (CRel_9 hC1 f2) hM2 hV
set_option maxRecDepth 20000 in
theorem w_spread {l : Launch} {X : XT} {d Lz : Nat} {w : WF} {a : AS} {i : Nat} {Q : Option AV → Mem → Prop} (hL : Lz ≤ 256) (hi : i + 4 ≤ Lz) (hC : CRel w a) (hM : MRel w a) (hV : AVl a) (K : ∀ (w' : WF) (a' : AS), CRel w' a' → MRel w' a' → AVl a' → WP l X (d + 9) md_L_law (1203, [some (.inr (.inr (13, 0, 0))), some (.inr (.inr (8, 0, 0))), some (.inr (.inr (9, 0, 0))), some (.inl (nI i))], [], mk Lz w') Q) : WP l X (d + 9) md_L_law (950, [some (.inr (.inr (13, 0, 0))), some (.inr (.inr (8, 0, 0))), some (.inr (.inr (9, 0, 0))), some (.inl (nI i))], [], mk Lz w) Q := by
  refine x_aload_n (pc' := 951) rfl rfl rfl (x_aload_n (pc' := 952) rfl rfl rfl (x_iload_n (pc' := 953) rfl rfl rfl (x_iconst (pc' := 954) rfl rfl (x_iaddN (pc' := 955) rfl rfl (x_iald (pc' := 956) (N := Lz) rfl rfl rfl rfl (by omega) (by omega) ?_)))))
  refine x_invQ2 (pc' := 959) rfl rfl rfl rfl (C_X8_spread hC hV _) (fun vq Mq hq956 => ?_)
  obtain ⟨rfl, w1, rfl, f1, hC1⟩ := hq956
  have hM1 := MRel_9 hV.1 hM f1
  have hs : ∀ q, w1 13 0 0 q = w 13 0 0 q := fun q => f1 13 0 0 q (by omega)
  show WP l X _ md_L_law (959, _, [_], _) _
  refine x_aload_n (pc' := 960) rfl rfl rfl (x_aload_n (pc' := 961) rfl rfl rfl (x_iload_n (pc' := 962) rfl rfl rfl (x_iconst (pc' := 963) rfl rfl (x_iaddN (pc' := 964) rfl rfl (x_iald (pc' := 965) (N := Lz) rfl rfl rfl rfl (by omega) (by omega) ?_)))))
  rw [hs]
  refine x_invQ2 (pc' := 968) rfl rfl rfl rfl (M_X9_spread hM1 hV _) (fun vq Mq hq965 => ?_)
  obtain ⟨rfl, w2, rfl, f2, hM2⟩ := hq965
  show WP l X _ md_L_law (968, _, [_, _], _) _
  refine x_icmp_eq (pc' := 971) rfl rfl (fun h968 => ?_) (fun h968 => absurd rfl h968)
  exact K w2 _ (CRel_9 hC1 f2) hM2 hV
set_option maxRecDepth 20000 in
theorem w_dry {l : Launch} {X : XT} {d Lz : Nat} {w : WF} {a : AS} {i : Nat} {Q : Option AV → Mem → Prop} (hL : Lz ≤ 256) (hi : i + 4 ≤ Lz) (hC : CRel w a) (hM : MRel w a) (hV : AVl a) (K : ∀ (w' : WF) (a' : AS), CRel w' a' → MRel w' a' → AVl a' → WP l X (d + 9) md_L_law (1203, [some (.inr (.inr (13, 0, 0))), some (.inr (.inr (8, 0, 0))), some (.inr (.inr (9, 0, 0))), some (.inl (nI i))], [], mk Lz w') Q) : WP l X (d + 9) md_L_law (973, [some (.inr (.inr (13, 0, 0))), some (.inr (.inr (8, 0, 0))), some (.inr (.inr (9, 0, 0))), some (.inl (nI i))], [], mk Lz w) Q := by
  refine x_aload_n (pc' := 974) rfl rfl rfl (x_aload_n (pc' := 975) rfl rfl rfl (x_iload_n (pc' := 976) rfl rfl rfl (x_iconst (pc' := 977) rfl rfl (x_iaddN (pc' := 978) rfl rfl (x_iald (pc' := 979) (N := Lz) rfl rfl rfl rfl (by omega) (by omega) ?_)))))
  refine x_aload_n (pc' := 980) rfl rfl rfl (x_iload_n (pc' := 981) rfl rfl rfl (x_iconst (pc' := 982) rfl rfl (x_iaddN (pc' := 983) rfl rfl (x_iald (pc' := 984) (N := Lz) rfl rfl rfl rfl (by omega) (by omega) (x_invQ3 (pc' := 987) rfl rfl rfl rfl rfl (C_X8_dry hC hV _ _) (fun vq Mq hq984 => ?_))))))
  obtain ⟨rfl, w1, rfl, f1, hC1⟩ := hq984
  have hM1 := MRel_9 hV.1 hM f1
  have hs : ∀ q, w1 13 0 0 q = w 13 0 0 q := fun q => f1 13 0 0 q (by omega)
  show WP l X _ md_L_law (987, _, [_], _) _
  refine x_aload_n (pc' := 988) rfl rfl rfl (x_aload_n (pc' := 989) rfl rfl rfl (x_iload_n (pc' := 990) rfl rfl rfl (x_iconst (pc' := 991) rfl rfl (x_iaddN (pc' := 992) rfl rfl (x_iald (pc' := 993) (N := Lz) rfl rfl rfl rfl (by omega) (by omega) ?_)))))
  rw [hs]
  refine x_aload_n (pc' := 994) rfl rfl rfl (x_iload_n (pc' := 995) rfl rfl rfl (x_iconst (pc' := 996) rfl rfl (x_iaddN (pc' := 997) rfl rfl (x_iald (pc' := 998) (N := Lz) rfl rfl rfl rfl (by omega) (by omega) ?_))))
  rw [hs]
  refine x_invQ3 (pc' := 1001) rfl rfl rfl rfl rfl (M_X9_dry hM1 hV _ _) (fun vq Mq hq998 => ?_)
  obtain ⟨rfl, w2, rfl, f2, hM2⟩ := hq998
  show WP l X _ md_L_law (1001, _, [_, _], _) _
  refine x_icmp_eq (pc' := 1004) rfl rfl (fun h1001 => ?_) (fun h1001 => absurd rfl h1001)
  exact K w2 _ (CRel_9 hC1 f2) hM2 hV
set_option maxRecDepth 20000 in
theorem w_see {l : Launch} {X : XT} {d Lz : Nat} {w : WF} {a : AS} {i : Nat} {Q : Option AV → Mem → Prop} (hL : Lz ≤ 256) (hi : i + 4 ≤ Lz) (hC : CRel w a) (hM : MRel w a) (hV : AVl a) (K : ∀ (w' : WF) (a' : AS), CRel w' a' → MRel w' a' → AVl a' → WP l X (d + 9) md_L_law (1203, [some (.inr (.inr (13, 0, 0))), some (.inr (.inr (8, 0, 0))), some (.inr (.inr (9, 0, 0))), some (.inl (nI i))], [], mk Lz w') Q) : WP l X (d + 9) md_L_law (1006, [some (.inr (.inr (13, 0, 0))), some (.inr (.inr (8, 0, 0))), some (.inr (.inr (9, 0, 0))), some (.inl (nI i))], [], mk Lz w) Q := by
  refine x_aload_n (pc' := 1007) rfl rfl rfl (x_aload_n (pc' := 1008) rfl rfl rfl (x_iload_n (pc' := 1009) rfl rfl rfl (x_iconst (pc' := 1010) rfl rfl (x_iaddN (pc' := 1011) rfl rfl (x_iald (pc' := 1012) (N := Lz) rfl rfl rfl rfl (by omega) (by omega) ?_)))))
  refine x_aload_n (pc' := 1013) rfl rfl rfl (x_iload_n (pc' := 1014) rfl rfl rfl (x_iconst (pc' := 1015) rfl rfl (x_iaddN (pc' := 1016) rfl rfl (x_iald (pc' := 1017) (N := Lz) rfl rfl rfl rfl (by omega) (by omega) (x_invQ3 (pc' := 1020) rfl rfl rfl rfl rfl (C_X8_see hC hV _ _) (fun vq Mq hq1017 => ?_))))))
  obtain ⟨rfl, w1, rfl, f1, hC1⟩ := hq1017
  have hM1 := MRel_9 hV.1 hM f1
  have hs : ∀ q, w1 13 0 0 q = w 13 0 0 q := fun q => f1 13 0 0 q (by omega)
  show WP l X _ md_L_law (1020, _, [_], _) _
  refine x_aload_n (pc' := 1021) rfl rfl rfl (x_aload_n (pc' := 1022) rfl rfl rfl (x_iload_n (pc' := 1023) rfl rfl rfl (x_iconst (pc' := 1024) rfl rfl (x_iaddN (pc' := 1025) rfl rfl (x_iald (pc' := 1026) (N := Lz) rfl rfl rfl rfl (by omega) (by omega) ?_)))))
  rw [hs]
  refine x_aload_n (pc' := 1027) rfl rfl rfl (x_iload_n (pc' := 1028) rfl rfl rfl (x_iconst (pc' := 1029) rfl rfl (x_iaddN (pc' := 1030) rfl rfl (x_iald (pc' := 1031) (N := Lz) rfl rfl rfl rfl (by omega) (by omega) ?_))))
  rw [hs]
  refine x_invQ3 (pc' := 1034) rfl rfl rfl rfl rfl (M_X9_see hM1 hV _ _) (fun vq Mq hq1031 => ?_)
  obtain ⟨rfl, w2, rfl, f2, hM2⟩ := hq1031
  show WP l X _ md_L_law (1034, _, [_, _], _) _
  refine x_icmp_eq (pc' := 1037) rfl rfl (fun h1034 => ?_) (fun h1034 => absurd rfl h1034)
  exact K w2 _ (CRel_9 hC1 f2) hM2 (see_V hV)
set_option maxRecDepth 20000 in
theorem w_truly {l : Launch} {X : XT} {d Lz : Nat} {w : WF} {a : AS} {i : Nat} {Q : Option AV → Mem → Prop} (hL : Lz ≤ 256) (hi : i + 4 ≤ Lz) (hC : CRel w a) (hM : MRel w a) (hV : AVl a) (K : ∀ (w' : WF) (a' : AS), CRel w' a' → MRel w' a' → AVl a' → WP l X (d + 9) md_L_law (1203, [some (.inr (.inr (13, 0, 0))), some (.inr (.inr (8, 0, 0))), some (.inr (.inr (9, 0, 0))), some (.inl (nI i))], [], mk Lz w') Q) : WP l X (d + 9) md_L_law (1039, [some (.inr (.inr (13, 0, 0))), some (.inr (.inr (8, 0, 0))), some (.inr (.inr (9, 0, 0))), some (.inl (nI i))], [], mk Lz w) Q := by
  refine x_aload_n (pc' := 1040) rfl rfl rfl (x_aload_n (pc' := 1041) rfl rfl rfl (x_iload_n (pc' := 1042) rfl rfl rfl (x_iconst (pc' := 1043) rfl rfl (x_iaddN (pc' := 1044) rfl rfl (x_iald (pc' := 1045) (N := Lz) rfl rfl rfl rfl (by omega) (by omega) ?_)))))
  refine x_invQ2 (pc' := 1048) rfl rfl rfl rfl (C_X8_truly hC hV _) (fun vq Mq hq1045 => ?_)
  obtain ⟨rfl, w1, rfl, f1, hC1⟩ := hq1045
  have hM1 := MRel_9 hV.1 hM f1
  have hs : ∀ q, w1 13 0 0 q = w 13 0 0 q := fun q => f1 13 0 0 q (by omega)
  show WP l X _ md_L_law (1048, _, [_], _) _
  refine x_aload_n (pc' := 1049) rfl rfl rfl (x_aload_n (pc' := 1050) rfl rfl rfl (x_iload_n (pc' := 1051) rfl rfl rfl (x_iconst (pc' := 1052) rfl rfl (x_iaddN (pc' := 1053) rfl rfl (x_iald (pc' := 1054) (N := Lz) rfl rfl rfl rfl (by omega) (by omega) ?_)))))
  rw [hs]
  refine x_invQ2 (pc' := 1057) rfl rfl rfl rfl (M_X9_truly hM1 hV _) (fun vq Mq hq1054 => ?_)
  obtain ⟨rfl, w2, rfl, f2, hM2⟩ := hq1054
  show WP l X _ md_L_law (1057, _, [_, _], _) _
  refine x_icmp_eq (pc' := 1060) rfl rfl (fun h1057 => ?_) (fun h1057 => absurd rfl h1057)
  exact K w2 _ (CRel_9 hC1 f2) hM2 hV
set_option maxRecDepth 20000 in
theorem w_tryNext {l : Launch} {X : XT} {d Lz : Nat} {w : WF} {a : AS} {i : Nat} {Q : Option AV → Mem → Prop} (hL : Lz ≤ 256) (hi : i + 4 ≤ Lz) (hC : CRel w a) (hM : MRel w a) (hV : AVl a) (K : ∀ (w' : WF) (a' : AS), CRel w' a' → MRel w' a' → AVl a' → WP l X (d + 9) md_L_law (1203, [some (.inr (.inr (13, 0, 0))), some (.inr (.inr (8, 0, 0))), some (.inr (.inr (9, 0, 0))), some (.inl (nI i))], [], mk Lz w') Q) : WP l X (d + 9) md_L_law (1062, [some (.inr (.inr (13, 0, 0))), some (.inr (.inr (8, 0, 0))), some (.inr (.inr (9, 0, 0))), some (.inl (nI i))], [], mk Lz w) Q := by
  refine x_aload_n (pc' := 1063) rfl rfl rfl (x_invQ1 (pc' := 1066) rfl rfl rfl (C_X8_tryNext hC hV) (fun vq Mq hq1063 => ?_))
  obtain ⟨rfl, w1, rfl, f1, hC1⟩ := hq1063
  have hM1 := MRel_9 hV.1 hM f1
  have hs : ∀ q, w1 13 0 0 q = w 13 0 0 q := fun q => f1 13 0 0 q (by omega)
  show WP l X _ md_L_law (1066, _, [_], _) _
  refine x_aload_n (pc' := 1067) rfl rfl rfl (x_invQ1 (pc' := 1070) rfl rfl rfl (M_X9_tryNext hM1 hV) (fun vq Mq hq1067 => ?_))
  obtain ⟨rfl, w2, rfl, f2, hM2⟩ := hq1067
  show WP l X _ md_L_law (1070, _, [_, _], _) _
  refine x_icmp_eq (pc' := 1073) rfl rfl (fun h1070 => ?_) (fun h1070 => absurd rfl h1070)
  exact K w2 _ (CRel_9 hC1 f2) hM2 hV
set_option maxRecDepth 20000 in
theorem w_write {l : Launch} {X : XT} {d Lz : Nat} {w : WF} {a : AS} {i : Nat} {Q : Option AV → Mem → Prop} (hL : Lz ≤ 256) (hi : i + 4 ≤ Lz) (hC : CRel w a) (hM : MRel w a) (hV : AVl a) (K : ∀ (w' : WF) (a' : AS), CRel w' a' → MRel w' a' → AVl a' → WP l X (d + 9) md_L_law (1203, [some (.inr (.inr (13, 0, 0))), some (.inr (.inr (8, 0, 0))), some (.inr (.inr (9, 0, 0))), some (.inl (nI i))], [], mk Lz w') Q) : WP l X (d + 9) md_L_law (1075, [some (.inr (.inr (13, 0, 0))), some (.inr (.inr (8, 0, 0))), some (.inr (.inr (9, 0, 0))), some (.inl (nI i))], [], mk Lz w) Q := by
  refine x_aload_n (pc' := 1076) rfl rfl rfl (x_aload_n (pc' := 1077) rfl rfl rfl (x_iload_n (pc' := 1078) rfl rfl rfl (x_iconst (pc' := 1079) rfl rfl (x_iaddN (pc' := 1080) rfl rfl (x_iald (pc' := 1081) (N := Lz) rfl rfl rfl rfl (by omega) (by omega) ?_)))))
  refine x_aload_n (pc' := 1082) rfl rfl rfl (x_iload_n (pc' := 1083) rfl rfl rfl (x_iconst (pc' := 1084) rfl rfl (x_iaddN (pc' := 1085) rfl rfl (x_iald (pc' := 1086) (N := Lz) rfl rfl rfl rfl (by omega) (by omega) (x_invQ3 (pc' := 1089) rfl rfl rfl rfl rfl (C_X8_write hC hV _ _) (fun vq Mq hq1086 => ?_))))))
  obtain ⟨rfl, w1, rfl, f1, hC1⟩ := hq1086
  have hM1 := MRel_9 hV.1 hM f1
  have hs : ∀ q, w1 13 0 0 q = w 13 0 0 q := fun q => f1 13 0 0 q (by omega)
  show WP l X _ md_L_law (1089, _, [_], _) _
  refine x_aload_n (pc' := 1090) rfl rfl rfl (x_aload_n (pc' := 1091) rfl rfl rfl (x_iload_n (pc' := 1092) rfl rfl rfl (x_iconst (pc' := 1093) rfl rfl (x_iaddN (pc' := 1094) rfl rfl (x_iald (pc' := 1095) (N := Lz) rfl rfl rfl rfl (by omega) (by omega) ?_)))))
  rw [hs]
  refine x_aload_n (pc' := 1096) rfl rfl rfl (x_iload_n (pc' := 1097) rfl rfl rfl (x_iconst (pc' := 1098) rfl rfl (x_iaddN (pc' := 1099) rfl rfl (x_iald (pc' := 1100) (N := Lz) rfl rfl rfl rfl (by omega) (by omega) ?_))))
  rw [hs]
  refine x_invQ3 (pc' := 1103) rfl rfl rfl rfl rfl (M_X9_write hM1 hV _ _) (fun vq Mq hq1100 => ?_)
  obtain ⟨rfl, w2, rfl, f2, hM2⟩ := hq1100
  show WP l X _ md_L_law (1103, _, [_, _], _) _
  refine x_icmp_eq (pc' := 1106) rfl rfl (fun h1103 => ?_) (fun h1103 => absurd rfl h1103)
  exact K w2 _ (CRel_9 hC1 f2) hM2 (write_V hV)
set_option maxRecDepth 20000 in
theorem w_judge {l : Launch} {X : XT} {d Lz : Nat} {w : WF} {a : AS} {i : Nat} {Q : Option AV → Mem → Prop} (hL : Lz ≤ 256) (hi : i + 4 ≤ Lz) (hC : CRel w a) (hM : MRel w a) (hV : AVl a) (K : ∀ (w' : WF) (a' : AS), CRel w' a' → MRel w' a' → AVl a' → WP l X (d + 9) md_L_law (1203, [some (.inr (.inr (13, 0, 0))), some (.inr (.inr (8, 0, 0))), some (.inr (.inr (9, 0, 0))), some (.inl (nI i))], [], mk Lz w') Q) : WP l X (d + 9) md_L_law (1108, [some (.inr (.inr (13, 0, 0))), some (.inr (.inr (8, 0, 0))), some (.inr (.inr (9, 0, 0))), some (.inl (nI i))], [], mk Lz w) Q := by
  refine x_aload_n (pc' := 1109) rfl rfl rfl (x_invQ1 (pc' := 1112) rfl rfl rfl (C_X8_judge hC hV) (fun vq Mq hq1109 => ?_))
  obtain ⟨rfl, w1, rfl, f1, hC1⟩ := hq1109
  have hM1 := MRel_9 hV.1 hM f1
  have hs : ∀ q, w1 13 0 0 q = w 13 0 0 q := fun q => f1 13 0 0 q (by omega)
  show WP l X _ md_L_law (1112, _, [_], _) _
  refine x_aload_n (pc' := 1113) rfl rfl rfl (x_invQ1 (pc' := 1116) rfl rfl rfl (M_X9_judge hM1 hV) (fun vq Mq hq1113 => ?_))
  obtain ⟨rfl, w2, rfl, f2, hM2⟩ := hq1113
  show WP l X _ md_L_law (1116, _, [_, _], _) _
  refine x_icmp_eq (pc' := 1119) rfl rfl (fun h1116 => ?_) (fun h1116 => absurd rfl h1116)
  exact K w2 _ (CRel_9 hC1 f2) hM2 hV
set_option maxRecDepth 20000 in
theorem w_tear {l : Launch} {X : XT} {d Lz : Nat} {w : WF} {a : AS} {i : Nat} {Q : Option AV → Mem → Prop} (hL : Lz ≤ 256) (hi : i + 4 ≤ Lz) (hC : CRel w a) (hM : MRel w a) (hV : AVl a) (K : ∀ (w' : WF) (a' : AS), CRel w' a' → MRel w' a' → AVl a' → WP l X (d + 9) md_L_law (1203, [some (.inr (.inr (13, 0, 0))), some (.inr (.inr (8, 0, 0))), some (.inr (.inr (9, 0, 0))), some (.inl (nI i))], [], mk Lz w') Q) : WP l X (d + 9) md_L_law (1121, [some (.inr (.inr (13, 0, 0))), some (.inr (.inr (8, 0, 0))), some (.inr (.inr (9, 0, 0))), some (.inl (nI i))], [], mk Lz w) Q := by
  refine x_aload_n (pc' := 1122) rfl rfl rfl (x_invQ1 (pc' := 1125) rfl rfl rfl (C_X8_tear hC hV) (fun vq Mq hq1122 => ?_))
  obtain ⟨rfl, w1, rfl, f1, hC1⟩ := hq1122
  have hM1 := MRel_9 hV.1 hM f1
  have hs : ∀ q, w1 13 0 0 q = w 13 0 0 q := fun q => f1 13 0 0 q (by omega)
  show WP l X _ md_L_law (1125, _, [_], _) _
  refine x_aload_n (pc' := 1126) rfl rfl rfl (x_invQ1 (pc' := 1129) rfl rfl rfl (M_X9_tear hM1 hV) (fun vq Mq hq1126 => ?_))
  obtain ⟨rfl, w2, rfl, f2, hM2⟩ := hq1126
  show WP l X _ md_L_law (1129, _, [_, _], _) _
  refine x_icmp_eq (pc' := 1132) rfl rfl (fun h1129 => ?_) (fun h1129 => absurd rfl h1129)
  exact K w2 _ (CRel_9 hC1 f2) hM2 (tear_V hV)
set_option maxRecDepth 20000 in
theorem w_seed {l : Launch} {X : XT} {d Lz : Nat} {w : WF} {a : AS} {i : Nat} {Q : Option AV → Mem → Prop} (hL : Lz ≤ 256) (hi : i + 4 ≤ Lz) (hC : CRel w a) (hM : MRel w a) (hV : AVl a) (K : ∀ (w' : WF) (a' : AS), CRel w' a' → MRel w' a' → AVl a' → WP l X (d + 9) md_L_law (1203, [some (.inr (.inr (13, 0, 0))), some (.inr (.inr (8, 0, 0))), some (.inr (.inr (9, 0, 0))), some (.inl (nI i))], [], mk Lz w') Q) : WP l X (d + 9) md_L_law (1134, [some (.inr (.inr (13, 0, 0))), some (.inr (.inr (8, 0, 0))), some (.inr (.inr (9, 0, 0))), some (.inl (nI i))], [], mk Lz w) Q := by
  refine x_aload_n (pc' := 1135) rfl rfl rfl (x_aload_n (pc' := 1136) rfl rfl rfl (x_iload_n (pc' := 1137) rfl rfl rfl (x_iconst (pc' := 1138) rfl rfl (x_iaddN (pc' := 1139) rfl rfl (x_iald (pc' := 1140) (N := Lz) rfl rfl rfl rfl (by omega) (by omega) ?_)))))
  refine x_invQ2 (pc' := 1143) rfl rfl rfl rfl (C_X8_seed hC hV _) (fun vq Mq hq1140 => ?_)
  obtain ⟨rfl, w1, rfl, f1, hC1⟩ := hq1140
  have hM1 := MRel_9 hV.1 hM f1
  have hs : ∀ q, w1 13 0 0 q = w 13 0 0 q := fun q => f1 13 0 0 q (by omega)
  show WP l X _ md_L_law (1143, _, [_], _) _
  refine x_aload_n (pc' := 1144) rfl rfl rfl (x_aload_n (pc' := 1145) rfl rfl rfl (x_iload_n (pc' := 1146) rfl rfl rfl (x_iconst (pc' := 1147) rfl rfl (x_iaddN (pc' := 1148) rfl rfl (x_iald (pc' := 1149) (N := Lz) rfl rfl rfl rfl (by omega) (by omega) ?_)))))
  rw [hs]
  refine x_invQ2 (pc' := 1152) rfl rfl rfl rfl (M_X9_seed hM1 hV _) (fun vq Mq hq1149 => ?_)
  obtain ⟨rfl, w2, rfl, f2, hM2⟩ := hq1149
  show WP l X _ md_L_law (1152, _, [_, _], _) _
  refine x_icmp_eq (pc' := 1155) rfl rfl (fun h1152 => ?_) (fun h1152 => absurd rfl h1152)
  exact K w2 _ (CRel_9 hC1 f2) hM2 (seed_V hV)
set_option maxRecDepth 20000 in
theorem w_keep {l : Launch} {X : XT} {d Lz : Nat} {w : WF} {a : AS} {i : Nat} {Q : Option AV → Mem → Prop} (hL : Lz ≤ 256) (hi : i + 4 ≤ Lz) (hC : CRel w a) (hM : MRel w a) (hV : AVl a) (K : ∀ (w' : WF) (a' : AS), CRel w' a' → MRel w' a' → AVl a' → WP l X (d + 9) md_L_law (1203, [some (.inr (.inr (13, 0, 0))), some (.inr (.inr (8, 0, 0))), some (.inr (.inr (9, 0, 0))), some (.inl (nI i))], [], mk Lz w') Q) : WP l X (d + 9) md_L_law (1157, [some (.inr (.inr (13, 0, 0))), some (.inr (.inr (8, 0, 0))), some (.inr (.inr (9, 0, 0))), some (.inl (nI i))], [], mk Lz w) Q := by
  refine x_aload_n (pc' := 1158) rfl rfl rfl (x_aload_n (pc' := 1159) rfl rfl rfl (x_iload_n (pc' := 1160) rfl rfl rfl (x_iconst (pc' := 1161) rfl rfl (x_iaddN (pc' := 1162) rfl rfl (x_iald (pc' := 1163) (N := Lz) rfl rfl rfl rfl (by omega) (by omega) ?_)))))
  refine x_invQ2 (pc' := 1166) rfl rfl rfl rfl (C_X8_keep hC hV _) (fun vq Mq hq1163 => ?_)
  obtain ⟨rfl, w1, rfl, f1, hC1⟩ := hq1163
  have hM1 := MRel_9 hV.1 hM f1
  have hs : ∀ q, w1 13 0 0 q = w 13 0 0 q := fun q => f1 13 0 0 q (by omega)
  show WP l X _ md_L_law (1166, _, [_], _) _
  refine x_aload_n (pc' := 1167) rfl rfl rfl (x_aload_n (pc' := 1168) rfl rfl rfl (x_iload_n (pc' := 1169) rfl rfl rfl (x_iconst (pc' := 1170) rfl rfl (x_iaddN (pc' := 1171) rfl rfl (x_iald (pc' := 1172) (N := Lz) rfl rfl rfl rfl (by omega) (by omega) ?_)))))
  rw [hs]
  refine x_invQ2 (pc' := 1175) rfl rfl rfl rfl (M_X9_keep hM1 hV _) (fun vq Mq hq1172 => ?_)
  obtain ⟨rfl, w2, rfl, f2, hM2⟩ := hq1172
  show WP l X _ md_L_law (1175, _, [_, _], _) _
  refine x_icmp_eq (pc' := 1178) rfl rfl (fun h1175 => ?_) (fun h1175 => absurd rfl h1175)
  exact K w2 _ (CRel_9 hC1 f2) hM2 (keep_V hV)
set_option maxRecDepth 20000 in
theorem w_goBack {l : Launch} {X : XT} {d Lz : Nat} {w : WF} {a : AS} {i : Nat} {Q : Option AV → Mem → Prop} (hL : Lz ≤ 256) (hi : i + 4 ≤ Lz) (hC : CRel w a) (hM : MRel w a) (hV : AVl a) (K : ∀ (w' : WF) (a' : AS), CRel w' a' → MRel w' a' → AVl a' → WP l X (d + 9) md_L_law (1203, [some (.inr (.inr (13, 0, 0))), some (.inr (.inr (8, 0, 0))), some (.inr (.inr (9, 0, 0))), some (.inl (nI i))], [], mk Lz w') Q) : WP l X (d + 9) md_L_law (1180, [some (.inr (.inr (13, 0, 0))), some (.inr (.inr (8, 0, 0))), some (.inr (.inr (9, 0, 0))), some (.inl (nI i))], [], mk Lz w) Q := by
  refine x_aload_n (pc' := 1181) rfl rfl rfl (x_aload_n (pc' := 1182) rfl rfl rfl (x_iload_n (pc' := 1183) rfl rfl rfl (x_iconst (pc' := 1184) rfl rfl (x_iaddN (pc' := 1185) rfl rfl (x_iald (pc' := 1186) (N := Lz) rfl rfl rfl rfl (by omega) (by omega) ?_)))))
  refine x_invQ2 (pc' := 1189) rfl rfl rfl rfl (C_X8_goBack hC hV _) (fun vq Mq hq1186 => ?_)
  obtain ⟨rfl, w1, rfl, f1, hC1⟩ := hq1186
  have hM1 := MRel_9 hV.1 hM f1
  have hs : ∀ q, w1 13 0 0 q = w 13 0 0 q := fun q => f1 13 0 0 q (by omega)
  show WP l X _ md_L_law (1189, _, [_], _) _
  refine x_aload_n (pc' := 1190) rfl rfl rfl (x_aload_n (pc' := 1191) rfl rfl rfl (x_iload_n (pc' := 1192) rfl rfl rfl (x_iconst (pc' := 1193) rfl rfl (x_iaddN (pc' := 1194) rfl rfl (x_iald (pc' := 1195) (N := Lz) rfl rfl rfl rfl (by omega) (by omega) ?_)))))
  rw [hs]
  refine x_invQ2 (pc' := 1198) rfl rfl rfl rfl (M_X9_goBack hM1 hV _) (fun vq Mq hq1195 => ?_)
  obtain ⟨rfl, w2, rfl, f2, hM2⟩ := hq1195
  show WP l X _ md_L_law (1198, _, [_, _], _) _
  refine x_icmp_eq (pc' := 1201) rfl rfl (fun h1198 => ?_) (fun h1198 => absurd rfl h1198)
  exact K w2 _ (CRel_9 hC1 f2) hM2 (goBack_V hV)
theorem lw_cmp {Lz i : Nat} (hL : Lz ≤ 256) (hi : i ≤ 1000) : nI Lz - nI 4 < nI i ↔ Lz < i + 4 := by
  rw [Int32.lt_iff_toInt_lt, Int32.toInt_sub, nI_toInt (by omega), nI_toInt (by omega), nI_toInt (by omega), Int.bmod_eq_of_le (by omega) (by omega)]
  omega
set_option maxRecDepth 20000 in
theorem l_law {l : Launch} {X : XT} {d Lz : Nat} (hL : Lz ≤ 256) : ∀ (k i : Nat) (w : WF) (a : AS), CRel w a → MRel w a → AVl a → i ≤ Lz + 4 → Lz < i + 4 * k + 4 → WP l X (d + 9) md_L_law (18, [some (.inr (.inr (13, 0, 0))), some (.inr (.inr (8, 0, 0))), some (.inr (.inr (9, 0, 0))), some (.inl (nI i))], [], mk Lz w) (fun v M' => v = some (.inl (nI 1)) ∧ M'.1 ≤ 279) := by
  intro k
  induction k with
  | zero =>
    intro i w a hC hM hV hiL hk
    have hi : i ≤ 1000 := by omega
    refine x_iload_n (pc' := 19) rfl rfl rfl (x_aload_n (pc' := 20) rfl rfl rfl (x_alen (pc' := 21) rfl rfl (x_iconst (pc' := 22) rfl rfl (x_isub (pc' := 23) rfl rfl ?_))))
    refine x_icmp_gt (pc' := 26) rfl rfl (fun h23 => ?_) (fun h23 => absurd ((lw_cmp hL hi).mpr (by omega)) h23)
    refine x_iconst (pc' := 1210) rfl rfl ?_
    refine x_zret rfl rfl (by decide) ?_
    exact ⟨rfl, Nat.le_refl _⟩
  | succ k ih =>
    intro i w a hC hM hV hiL hk
    have hi : i ≤ 1000 := by omega
    refine x_iload_n (pc' := 19) rfl rfl rfl (x_aload_n (pc' := 20) rfl rfl rfl (x_alen (pc' := 21) rfl rfl (x_iconst (pc' := 22) rfl rfl (x_isub (pc' := 23) rfl rfl ?_))))
    refine x_icmp_gt (pc' := 26) rfl rfl (fun h23 => ?_) (fun h23 => ?_)
    · refine x_iconst (pc' := 1210) rfl rfl ?_
      refine x_zret rfl rfl (by decide) ?_
      exact ⟨rfl, Nat.le_refl _⟩
    · have hi4 : i + 4 ≤ Lz := by
        have e := mt (lw_cmp hL hi).mpr h23
        omega
      have K : ∀ (w' : WF) (a' : AS), CRel w' a' → MRel w' a' → AVl a' → WP l X (d + 9) md_L_law (1203, [some (.inr (.inr (13, 0, 0))), some (.inr (.inr (8, 0, 0))), some (.inr (.inr (9, 0, 0))), some (.inl (nI i))], [], mk Lz w') (fun v M' => v = some (.inl (nI 1)) ∧ M'.1 ≤ 279) := fun w' a' hC hM hV => by
        refine x_iinc3 (pc' := 1206) rfl rfl rfl (nI_add _ _) (x_goto rfl ?_)
        exact ih (i + 4) w' a' hC hM hV (by omega) (by omega)
      refine x_aload_n (pc' := 27) rfl rfl rfl (x_iload_n (pc' := 28) rfl rfl rfl (x_iald (pc' := 29) (N := Lz) rfl rfl rfl rfl (by omega) (by omega) (x_bipush (pc' := 31) rfl rfl (x_iand (pc' := 32) rfl rfl ?_))))
      refine x_tswG rfl ?_
      refine sw_c (fun h32_0 => ?_) (fun n32_0 => ?_)
      · exact w_feed hL hi4 hC hM hV K
      refine sw_c (fun h32_1 => ?_) (fun n32_1 => ?_)
      · exact w_kingdom hL hi4 hC hM hV K
      refine sw_c (fun h32_2 => ?_) (fun n32_2 => ?_)
      · exact w_fault hL hi4 hC hM hV K
      refine sw_c (fun h32_3 => ?_) (fun n32_3 => ?_)
      · exact w_told hL hi4 hC hM hV K
      refine sw_c (fun h32_4 => ?_) (fun n32_4 => ?_)
      · exact w_person hL hi4 hC hM hV K
      refine sw_c (fun h32_5 => ?_) (fun n32_5 => ?_)
      · exact w_office hL hi4 hC hM hV K
      refine sw_c (fun h32_6 => ?_) (fun n32_6 => ?_)
      · exact w_ahead hL hi4 hC hM hV K
      refine sw_c (fun h32_7 => ?_) (fun n32_7 => ?_)
      · exact w_logged hL hi4 hC hM hV K
      refine sw_c (fun h32_8 => ?_) (fun n32_8 => ?_)
      · exact w_day hL hi4 hC hM hV K
      refine sw_c (fun h32_9 => ?_) (fun n32_9 => ?_)
      · exact w_effort hL hi4 hC hM hV K
      refine sw_c (fun h32_10 => ?_) (fun n32_10 => ?_)
      · exact w_rain hL hi4 hC hM hV K
      refine sw_c (fun h32_11 => ?_) (fun n32_11 => ?_)
      · exact w_teach hL hi4 hC hM hV K
      refine sw_c (fun h32_12 => ?_) (fun n32_12 => ?_)
      · exact w_send hL hi4 hC hM hV K
      refine sw_c (fun h32_13 => ?_) (fun n32_13 => ?_)
      · exact w_recall hL hi4 hC hM hV K
      refine sw_c (fun h32_14 => ?_) (fun n32_14 => ?_)
      · exact w_drift hL hi4 hC hM hV K
      refine sw_c (fun h32_15 => ?_) (fun n32_15 => ?_)
      · exact w_undo hL hi4 hC hM hV K
      refine sw_c (fun h32_16 => ?_) (fun n32_16 => ?_)
      · exact w_mark hL hi4 hC hM hV K
      refine sw_c (fun h32_17 => ?_) (fun n32_17 => ?_)
      · exact w_place hL hi4 hC hM hV K
      refine sw_c (fun h32_18 => ?_) (fun n32_18 => ?_)
      · exact w_wouldBe hL hi4 hC hM hV K
      refine sw_c (fun h32_19 => ?_) (fun n32_19 => ?_)
      · exact w_holds hL hi4 hC hM hV K
      refine sw_c (fun h32_20 => ?_) (fun n32_20 => ?_)
      · exact w_efforts hL hi4 hC hM hV K
      refine sw_c (fun h32_21 => ?_) (fun n32_21 => ?_)
      · exact w_restless hL hi4 hC hM hV K
      refine sw_c (fun h32_22 => ?_) (fun n32_22 => ?_)
      · exact w_letWin hL hi4 hC hM hV K
      refine sw_c (fun h32_23 => ?_) (fun n32_23 => ?_)
      · exact w_win hL hi4 hC hM hV K
      refine sw_c (fun h32_24 => ?_) (fun n32_24 => ?_)
      · exact w_next hL hi4 hC hM hV K
      refine sw_c (fun h32_25 => ?_) (fun n32_25 => ?_)
      · exact w_beats hL hi4 hC hM hV K
      refine sw_c (fun h32_26 => ?_) (fun n32_26 => ?_)
      · exact w_spread hL hi4 hC hM hV K
      refine sw_c (fun h32_27 => ?_) (fun n32_27 => ?_)
      · exact w_dry hL hi4 hC hM hV K
      refine sw_c (fun h32_28 => ?_) (fun n32_28 => ?_)
      · exact w_see hL hi4 hC hM hV K
      refine sw_c (fun h32_29 => ?_) (fun n32_29 => ?_)
      · exact w_truly hL hi4 hC hM hV K
      refine sw_c (fun h32_30 => ?_) (fun n32_30 => ?_)
      · exact w_tryNext hL hi4 hC hM hV K
      refine sw_c (fun h32_31 => ?_) (fun n32_31 => ?_)
      · exact w_write hL hi4 hC hM hV K
      refine sw_c (fun h32_32 => ?_) (fun n32_32 => ?_)
      · exact w_judge hL hi4 hC hM hV K
      refine sw_c (fun h32_33 => ?_) (fun n32_33 => ?_)
      · exact w_tear hL hi4 hC hM hV K
      refine sw_c (fun h32_34 => ?_) (fun n32_34 => ?_)
      · exact w_seed hL hi4 hC hM hV K
      refine sw_c (fun h32_35 => ?_) (fun n32_35 => ?_)
      · exact w_keep hL hi4 hC hM hV K
      refine sw_c (fun h32_36 => ?_) (fun n32_36 => ?_)
      · exact w_goBack hL hi4 hC hM hV K
      refine sw_n ?_
      exact K w a hC hM hV
set_option maxRecDepth 20000 in
theorem c_L_law {l : Launch} {X : XT} {d Lz : Nat} {w : WF} {fl : Nat → Nat → Nat → Bool} (hL : Lz ≤ 256) (hz : ∀ c i o q, c < 10 → w c i o q = nI 0) : WP l X (d + 9) md_L_law (en md_L_law [.inr (.inr (13, 0, 0))] (0, fl, Lz, w)) (fun v M' => v = some (.inl (nI 1)) ∧ M'.1 ≤ 279) := by
  show WP l X _ md_L_law (0, [some (.inr (.inr (13, 0, 0))), none, none, none], [], _) _
  refine x_new (pc' := 3) rfl rfl (by decide +kernel) (x_dup (pc' := 4) rfl rfl rfl (x_spQ1 (pc' := 7) rfl rfl (by decide) rfl (c_X8_init hz) (fun vq Mq hq4 => ?_)))
  obtain ⟨rfl, f1, rfl, s1, g1, g2⟩ := hq4
  show WP l X _ md_L_law (7, _, [_], _) _
  refine x_astore_n1 (pc' := 8) rfl rfl rfl (x_new (pc' := 11) rfl rfl (by decide +kernel) (x_dup (pc' := 12) rfl rfl rfl (x_spQ1 (pc' := 15) rfl rfl (by decide) rfl (c_X9_init (fun i o q => by unfold wA; rw [u4_ne (by intro z; cases z), u4_ne (by intro z; cases z), u4_ne (by intro z; cases z), u4_ne (by intro z; cases z), u4_ne (by intro z; cases z), u4_ne (by intro z; cases z), u4_ne (by intro z; cases z)]; exact hz _ _ _ _ (by decide))) (fun vq Mq hq12 => ?_))))
  obtain ⟨rfl, f2, rfl, s2, g3⟩ := hq12
  show WP l X _ md_L_law (15, _, [_], _) _
  refine x_astore_n2 (pc' := 16) rfl rfl rfl (x_iconst (pc' := 17) rfl rfl (x_istore_n3 (pc' := 18) rfl rfl rfl ?_))
  exact wp_fl (fun c i k a b e => FL_1 (g1.m s2) (fun j hj => ⟨s2 _ _ _ (g2 j hj).1, (g2 j hj).2.1.m s2, (g2 j hj).2.2.m s2⟩) g3 a b e) (fun c i o j a b e => FL_2 (g1.m s2) (fun j hj => ⟨s2 _ _ _ (g2 j hj).1, (g2 j hj).2.1.m s2, (g2 j hj).2.2.m s2⟩) a b e) (l_law hL 64 0 (wB w) a0 (wB_C hz) (wB_M hz) a0_V (by omega) (by omega))
