/-! seen and told ones written down; seeds; images -/
theorem CRel_SB {w w2 : WF} {a : AS} (h : CRel w a) (hf : ∀ c i o q, c ≠ 0 → c ≠ 5 → w2 c i o q = w c i o q) {n n2 : Nat} {se sm bo : Nat → Nat} {bh : Nat → Int32} (hs : SeC w2 n se sm) (hb : BoC w2 n2 bo bh) : CRel w2 (a.1, a.2.1, a.2.2.1, a.2.2.2.1, a.2.2.2.2.1, (n, se, sm), (n2, bo, bh), a.2.2.2.2.2.2.2) := by
  obtain ⟨r1, r2, r3, r4, r5, r6, r7, r8, r9, r10⟩ := h
  exact ⟨D2_cg (fun q _ => hf 8 0 0 q (by omega) (by omega)) r1, KX_cg (fun i o q => hf 4 i o q (by omega) (by omega)) (hf 8 0 0 8 (by omega) (by omega)) r2, RC_cg (fun o q => hf 6 0 o q (by omega) (by omega)) r3, PaC_cg (fun q => hf 3 0 0 q (by omega) (by omega)) (fun i o q _ _ => hf 6 i o q (by omega) (by omega)) r4, ImC_cg (fun i o q => hf 2 i o q (by omega) (by omega)) (fun i o q _ => hf 6 i o q (by omega) (by omega)) r5, (hf 8 0 0 10 (by omega) (by omega)).trans r6, hs, hb, TxC_cg (fun o q => hf 7 0 o q (by omega) (by omega)) r9, (hf 7 0 0 4 (by omega) (by omega)).trans r10⟩
theorem MRel_SB {w w2 : WF} {a : AS} (hV : KV a.K) (h : MRel w a) (hf : ∀ i o q, ¬ (i = 0 ∧ (o = 15 ∨ o = 16 ∨ o = 18 ∨ o = 19 ∨ (o = 0 ∧ (q = 16 ∨ q = 19)))) → w2 9 i o q = w 9 i o q) {n n2 : Nat} {se sm bo : Nat → Nat} {bh : Nat → Int32} (hs : SeM w2 n se sm) (hb : BoM w2 n2 bo bh) : MRel w2 (a.1, a.2.1, a.2.2.1, a.2.2.2.1, a.2.2.2.2.1, (n, se, sm), (n2, bo, bh), a.2.2.2.2.2.2.2) := by
  obtain ⟨r1, r2, r3, r4, r5, r6, r7, r8, r9⟩ := h
  have e : ∀ o, o ≠ 0 → o < 15 → ∀ q, w2 9 0 o q = w 9 0 o q := fun o h0 h1 q => hf 0 o q (by omega)
  have e0 : ∀ q, q ≠ 16 → q ≠ 19 → w2 9 0 0 q = w 9 0 0 q := fun q hq hq2 => hf 0 0 q (by omega)
  have e1 := e 1 (by omega) (by omega)
  refine ⟨?_, RR_cg (fun q _ _ => e1 q) hV r2, PaM_cg (e0 9 (by omega) (by omega)) (fun q _ => e1 q) hV r3, ImM_cg (e0 10 (by omega) (by omega)) (fun q _ _ => e1 q) hV r4, (e1 129).trans r5, hs, hb, TxM_cg (e0 12 (by omega) (by omega)) (e 12 (by omega) (by omega)) r8, (e0 13 (by omega) (by omega)).trans r9⟩
  show KM w2 a.K
  unfold KM
  rw [e0 4 (by omega) (by omega), e0 5 (by omega) (by omega), e0 6 (by omega) (by omega), e0 8 (by omega) (by omega), e0 7 (by omega) (by omega)]
  simp only [e 2 (by omega) (by omega), e 3 (by omega) (by omega), e 4 (by omega) (by omega)]
  exact r1
set_option maxRecDepth 20000 in
theorem c_X5_append {l : Launch} {X : XT} {d Lz : Nat} {w : Nat → Nat → Nat → Nat → Int32} (n : Nat) (hn : w 5 0 0 3 = nI n) (hl : n < 6) (x y : Int32) : CT l X (d + 1) md_X5_append [.inr (.inr (5, 0, 0)), .inl (x), .inl (y)] (mk Lz w) (some (.inl (nI (n + 1)))) (mk Lz (u4 (u4 (u4 w 5 0 1 n x) 5 0 2 n y) 5 0 0 3 (nI (n + 1)))) := by
  show WP l X _ md_X5_append (0, [some (.inr (.inr (5, 0, 0))), some (.inl (x)), some (.inl (y))], [], _) _
  refine x_aload_n (pc' := 1) rfl rfl rfl (x_getI (pc' := 4) rfl rfl rfl ?_)
  rw [hn]
  refine x_bipush (pc' := 6) rfl rfl ?_
  refine x_icmp_geN (pc' := 9) rfl rfl (by omega) (by omega) (fun h6 => ?_) (fun h6 => ?_)
  · refine x_aload_n (pc' := 40) rfl rfl rfl (x_getI (pc' := 43) rfl rfl rfl ?_)
    refine x_iret rfl rfl ?_
    first | exact rI (u4_self _ _ _ _ _ _) | exact absurd hl (by omega)
  · refine x_aload_n (pc' := 10) rfl rfl rfl (x_getR (pc' := 13) (t := (5, _, 1)) rfl rfl rfl (x_aload_n (pc' := 14) rfl rfl rfl (x_getI (pc' := 17) rfl rfl rfl ?_)))
    rw [hn]
    refine x_iload_n (pc' := 18) rfl rfl rfl (x_iast (pc' := 19) (N := 6) rfl rfl rfl (by decide) rfl (by first | assumption | omega) (by decide) (x_aload_n (pc' := 20) rfl rfl rfl (x_getR (pc' := 23) (t := (5, _, 2)) rfl rfl rfl (x_aload_n (pc' := 24) rfl rfl rfl (x_getI (pc' := 27) rfl rfl rfl ?_)))))
    rw [u4_ne (by decide), hn]
    refine x_iload_n (pc' := 28) rfl rfl rfl (x_iast (pc' := 29) (N := 6) rfl rfl rfl (by decide) rfl (by first | assumption | omega) (by decide) (x_aload_n (pc' := 30) rfl rfl rfl (x_dup (pc' := 31) rfl rfl rfl (x_getI (pc' := 34) rfl rfl rfl ?_))))
    rw [u4_ne (by decide), u4_ne (by decide), hn]
    refine x_iconst (pc' := 35) rfl rfl (x_iaddN (pc' := 36) rfl rfl (x_putI (pc' := 39) rfl rfl rfl (x_aload_n (pc' := 40) rfl rfl rfl (x_getI (pc' := 43) rfl rfl rfl ?_))))
    refine x_iret rfl rfl ?_
    first | exact rI (u4_self _ _ _ _ _ _) | exact absurd hl (by omega)
set_option maxRecDepth 20000 in
theorem c_X0_append {l : Launch} {X : XT} {d Lz : Nat} {w : Nat → Nat → Nat → Nat → Int32} (n : Nat) (hn : w 0 0 0 2 = nI n) (hl : n < 20) (x y : Int32) : CT l X (d + 1) md_X0_append [.inr (.inr (0, 0, 0)), .inl (x), .inl (y)] (mk Lz w) (some (.inl (nI (n + 1)))) (mk Lz (u4 (u4 (u4 w 0 0 1 n x) 0 0 2 n y) 0 0 0 2 (nI (n + 1)))) := by
  show WP l X _ md_X0_append (0, [some (.inr (.inr (0, 0, 0))), some (.inl (x)), some (.inl (y))], [], _) _
  refine x_aload_n (pc' := 1) rfl rfl rfl (x_getI (pc' := 4) rfl rfl rfl ?_)
  rw [hn]
  refine x_bipush (pc' := 6) rfl rfl ?_
  refine x_icmp_geN (pc' := 9) rfl rfl (by omega) (by omega) (fun h6 => ?_) (fun h6 => ?_)
  · refine x_aload_n (pc' := 40) rfl rfl rfl (x_getI (pc' := 43) rfl rfl rfl ?_)
    refine x_iret rfl rfl ?_
    first | exact rI (u4_self _ _ _ _ _ _) | exact absurd hl (by omega)
  · refine x_aload_n (pc' := 10) rfl rfl rfl (x_getR (pc' := 13) (t := (0, _, 1)) rfl rfl rfl (x_aload_n (pc' := 14) rfl rfl rfl (x_getI (pc' := 17) rfl rfl rfl ?_)))
    rw [hn]
    refine x_iload_n (pc' := 18) rfl rfl rfl (x_iast (pc' := 19) (N := 20) rfl rfl rfl (by decide) rfl (by first | assumption | omega) (by decide) (x_aload_n (pc' := 20) rfl rfl rfl (x_getR (pc' := 23) (t := (0, _, 2)) rfl rfl rfl (x_aload_n (pc' := 24) rfl rfl rfl (x_getI (pc' := 27) rfl rfl rfl ?_)))))
    rw [u4_ne (by decide), hn]
    refine x_iload_n (pc' := 28) rfl rfl rfl (x_iast (pc' := 29) (N := 20) rfl rfl rfl (by decide) rfl (by first | assumption | omega) (by decide) (x_aload_n (pc' := 30) rfl rfl rfl (x_dup (pc' := 31) rfl rfl rfl (x_getI (pc' := 34) rfl rfl rfl ?_))))
    rw [u4_ne (by decide), u4_ne (by decide), hn]
    refine x_iconst (pc' := 35) rfl rfl (x_iaddN (pc' := 36) rfl rfl (x_putI (pc' := 39) rfl rfl rfl (x_aload_n (pc' := 40) rfl rfl rfl (x_getI (pc' := 43) rfl rfl rfl ?_))))
    refine x_iret rfl rfl ?_
    first | exact rI (u4_self _ _ _ _ _ _) | exact absurd hl (by omega)
set_option maxRecDepth 20000 in
theorem C_X8_see {l : Launch} {X : XT} {d Lz : Nat} {w : WF} {a : AS} (h : CRel w a) (hV : AVl a) (e : Int32) (m : Int32) : okC l X (d + 7) Lz md_X8_see [.inl (e), .inl (m)] w ((f_see a e m).1) ((f_see a e m).2) := by
  have hr := h
  obtain ⟨r1, r2, r3, r4, r5, r6, r7, r8, r9, r10⟩ := h
  have hK := hV.1
  have hv7 := hK.1
  have hv4 := hK.2.1
  have hs := hV.2.1
  have hnp := r2.2.2.1
  show WP l X _ md_X8_see (0, [some (.inr (.inr (8, 0, 0))), some (.inl (e)), some (.inl (m))], [], _) _
  refine x_iload_n (pc' := 1) rfl rfl rfl (x_iconst (pc' := 2) rfl rfl (x_bipush (pc' := 4) rfl rfl (x_invS3 (pc' := 7) rfl rfl rfl rfl rfl rfl (c_X8_isWithin _ _ _) ?_)))
  refine x_if_eq (pc' := 10) rfl rfl (fun h7 => ?_) (fun h7 => ?_)
  · refine x_ldc (pc' := 22) rfl rfl ?_
    refine x_iret rfl rfl ?_
    first | exact ok_id (by unfold f_see; rw [bI_eq0.mp h7]; rfl) (fun _ _ _ _ _ => rfl) (by unfold f_see; rw [bI_eq0.mp h7]; exact hr) | exact ok_id (by unfold f_see; rw [bq h7, bI_eq0.mp h17]; rfl) (fun _ _ _ _ _ => rfl) (by unfold f_see; rw [bq h7, bI_eq0.mp h17]; exact hr)
  · refine x_iload_n (pc' := 11) rfl rfl rfl (x_iconst (pc' := 12) rfl rfl (x_bipush (pc' := 14) rfl rfl (x_invS3 (pc' := 17) rfl rfl rfl rfl rfl rfl (c_X8_isWithin _ _ _) ?_)))
    refine x_if_ne (pc' := 20) rfl rfl (fun h17 => ?_) (fun h17 => ?_)
    · refine x_ldc (pc' := 22) rfl rfl ?_
      refine x_iret rfl rfl ?_
      first | exact ok_id (by unfold f_see; rw [bI_eq0.mp h7]; rfl) (fun _ _ _ _ _ => rfl) (by unfold f_see; rw [bI_eq0.mp h7]; exact hr) | exact ok_id (by unfold f_see; rw [bq h7, bI_eq0.mp h17]; rfl) (fun _ _ _ _ _ => rfl) (by unfold f_see; rw [bq h7, bI_eq0.mp h17]; exact hr)
    · obtain ⟨m, -, hm, rfl⟩ := in_num (by omega) (bq h7) (by omega)
      obtain ⟨m2, -, hm2, rfl⟩ := in_num (by omega) (bq h17) (by omega)
      have ht := hV.2.2.2.2.2.1.1
      refine x_aload_n (pc' := 24) rfl rfl rfl (x_getR (pc' := 27) (t := (5, 0, 0)) rfl rfl rfl (x_getI (pc' := 30) rfl rfl rfl ?_))
      rw [r7.1]
      refine x_bipush (pc' := 32) rfl rfl ?_
      refine x_icmp_ltN (pc' := 35) rfl rfl (by omega) (by omega) (fun h32 => ?_) (fun h32 => ?_)
      · refine x_aload_n (pc' := 39) rfl rfl rfl (x_getR (pc' := 42) (t := (5, 0, 0)) rfl rfl rfl (x_iload_n (pc' := 43) rfl rfl rfl (x_iload_n (pc' := 44) rfl rfl rfl (x_invI3 (pc' := 47) rfl rfl rfl rfl rfl (c_X5_append a.sn r7.1 (by omega) _ _) ?_))))
        refine x_iret rfl rfl ?_
        refine ok_id (by unfold f_see; rw [bq h7, bq h17, Bool.and_self, cond_true, if_pos (by omega)]) (fun c i o q hc => by rw [u4_ne (ne3 (by omega)), u4_ne (ne3 (by omega)), u4_ne (ne3 (by omega))]) ?_
        unfold f_see; rw [bq h7, bq h17, Bool.and_self, cond_true, if_pos (by omega), ix_nI (by omega), ix_nI (by omega)]
        refine CRel_SB hr (fun c i o q h0 h5 => by rw [u4_ne (ne3 (by omega)), u4_ne (ne3 (by omega)), u4_ne (ne3 (by omega))]) ⟨u4_self _ _ _ _ _ _, fun q hq => ⟨?_, ?_⟩⟩ (BoC_cg (fun o q => by rw [u4_ne (ne3 (by omega)), u4_ne (ne3 (by omega)), u4_ne (ne3 (by omega))]) r8)
        · rw [u4_ne (by decide), u4_ne (by decide), u4_at]
          show _ = nI (if q = a.sn then m else a.se q)
          by_cases z : q = a.sn
          · rw [if_pos z, if_pos z]
          · rw [if_neg z, if_neg z]; exact (r7.2 q (by omega)).1
        · rw [u4_ne (by decide), u4_at]
          show _ = nI (if q = a.sn then m2 else a.sm q)
          by_cases z : q = a.sn
          · rw [if_pos z, if_pos z]
          · rw [if_neg z, if_neg z, u4_ne (by decide)]; exact (r7.2 q (by omega)).2
      · refine x_ldc (pc' := 37) rfl rfl ?_
        refine x_iret rfl rfl ?_
        exact ok_id (by unfold f_see; rw [bq h7, bq h17, Bool.and_self, cond_true, if_neg (by omega)]) (fun _ _ _ _ _ => rfl) (by unfold f_see; rw [bq h7, bq h17, Bool.and_self, cond_true, if_neg (by omega)]; exact hr)
set_option maxRecDepth 20000 in
theorem C_X8_write {l : Launch} {X : XT} {d Lz : Nat} {w : WF} {a : AS} (h : CRel w a) (hV : AVl a) (o : Int32) (p : Int32) : okC l X (d + 7) Lz md_X8_write [.inl (o), .inl (p)] w ((f_write a o p).1) ((f_write a o p).2) := by
  have hr := h
  obtain ⟨r1, r2, r3, r4, r5, r6, r7, r8, r9, r10⟩ := h
  have hK := hV.1
  have hv7 := hK.1
  have hv4 := hK.2.1
  have hs := hV.2.1
  have hnp := r2.2.2.1
  show WP l X _ md_X8_write (0, [some (.inr (.inr (8, 0, 0))), some (.inl (o)), some (.inl (p))], [], _) _
  refine x_aload_n (pc' := 1) rfl rfl rfl (x_iload_n (pc' := 2) rfl rfl rfl (x_invI2 (pc' := 5) rfl rfl rfl rfl (p_X8_isOffice r2 _) ?_))
  refine x_if_eq (pc' := 8) rfl rfl (fun h5 => ?_) (fun h5 => ?_)
  · refine x_ldc (pc' := 23) rfl rfl ?_
    refine x_iret rfl rfl ?_
    first | exact ok_id (by unfold f_write; rw [bI_eq0.mp h5]; rfl) (fun _ _ _ _ _ => rfl) (by unfold f_write; rw [bI_eq0.mp h5]; exact hr) | exact ok_id (by unfold f_write; rw [bq h5, dF h10, bI_eq0.mp h18]; rfl) (fun _ _ _ _ _ => rfl) (by unfold f_write; rw [bq h5, dF h10, bI_eq0.mp h18]; exact hr)
  · refine x_iload_n (pc' := 9) rfl rfl rfl (x_iconst (pc' := 10) rfl rfl ?_)
    refine x_icmp_eq (pc' := 13) rfl rfl (fun h10 => ?_) (fun h10 => ?_)
    · have hg : (decide (p = -1) || isP a p) = true := by
        first | (rw [dT h10]; rfl) | (rw [bq h18]; simp)
      obtain ⟨m, hm, rfl⟩ := in_np (by omega) (bq h5)
      have ht := hV.2.2.2.2.2.2.1.1
      refine x_aload_n (pc' := 25) rfl rfl rfl (x_getR (pc' := 28) (t := (0, 0, 0)) rfl rfl rfl (x_getI (pc' := 31) rfl rfl rfl ?_))
      rw [r8.1]
      refine x_bipush (pc' := 33) rfl rfl ?_
      refine x_icmp_ltN (pc' := 36) rfl rfl (by omega) (by omega) (fun h33 => ?_) (fun h33 => ?_)
      · refine x_aload_n (pc' := 40) rfl rfl rfl (x_getR (pc' := 43) (t := (0, 0, 0)) rfl rfl rfl (x_iload_n (pc' := 44) rfl rfl rfl (x_iload_n (pc' := 45) rfl rfl rfl (x_invI3 (pc' := 48) rfl rfl rfl rfl rfl (c_X0_append a.bn r8.1 (by omega) _ _) ?_))))
        refine x_iret rfl rfl ?_
        refine ok_id (by unfold f_write; rw [bq h5, show (decide (p = -1) || isP a p) = true from hg, Bool.and_self, cond_true, if_pos (by omega)]) (fun c i o q hc => by rw [u4_ne (ne3 (by omega)), u4_ne (ne3 (by omega)), u4_ne (ne3 (by omega))]) ?_
        unfold f_write; rw [bq h5, show (decide (p = -1) || isP a p) = true from hg, Bool.and_self, cond_true, if_pos (by omega), ix_nI (by omega)]
        refine CRel_SB hr (fun c i o q h0 h5 => by rw [u4_ne (ne3 (by omega)), u4_ne (ne3 (by omega)), u4_ne (ne3 (by omega))]) (SeC_cg (fun o q _ => by rw [u4_ne (ne3 (by omega)), u4_ne (ne3 (by omega)), u4_ne (ne3 (by omega))]) r7) ⟨u4_self _ _ _ _ _ _, fun q hq => ⟨?_, ?_⟩⟩
        · rw [u4_ne (by decide), u4_ne (by decide), u4_at]
          show _ = nI (if q = a.bn then m else a.bo q)
          by_cases z : q = a.bn
          · rw [if_pos z, if_pos z]
          · rw [if_neg z, if_neg z]; exact (r8.2 q (by omega)).1
        · rw [u4_ne (by decide), u4_at]
          show _ = if q = a.bn then p else a.bh q
          by_cases z : q = a.bn
          · rw [if_pos z, if_pos z]
          · rw [if_neg z, if_neg z, u4_ne (by decide)]; exact (r8.2 q (by omega)).2
      · refine x_ldc (pc' := 38) rfl rfl ?_
        refine x_iret rfl rfl ?_
        exact ok_id (by unfold f_write; rw [bq h5, show (decide (p = -1) || isP a p) = true from hg, Bool.and_self, cond_true, if_neg (by omega)]) (fun _ _ _ _ _ => rfl) (by unfold f_write; rw [bq h5, show (decide (p = -1) || isP a p) = true from hg, Bool.and_self, cond_true, if_neg (by omega)]; exact hr)
    · refine x_aload_n (pc' := 14) rfl rfl rfl (x_iload_n (pc' := 15) rfl rfl rfl (x_invI2 (pc' := 18) rfl rfl rfl rfl (p_X8_isPerson r2 _) ?_))
      refine x_if_ne (pc' := 21) rfl rfl (fun h18 => ?_) (fun h18 => ?_)
      · refine x_ldc (pc' := 23) rfl rfl ?_
        refine x_iret rfl rfl ?_
        first | exact ok_id (by unfold f_write; rw [bI_eq0.mp h5]; rfl) (fun _ _ _ _ _ => rfl) (by unfold f_write; rw [bI_eq0.mp h5]; exact hr) | exact ok_id (by unfold f_write; rw [bq h5, dF h10, bI_eq0.mp h18]; rfl) (fun _ _ _ _ _ => rfl) (by unfold f_write; rw [bq h5, dF h10, bI_eq0.mp h18]; exact hr)
      · have hg : (decide (p = -1) || isP a p) = true := by
          first | (rw [dT h10]; rfl) | (rw [bq h18]; simp)
        obtain ⟨m, hm, rfl⟩ := in_np (by omega) (bq h5)
        have ht := hV.2.2.2.2.2.2.1.1
        refine x_aload_n (pc' := 25) rfl rfl rfl (x_getR (pc' := 28) (t := (0, 0, 0)) rfl rfl rfl (x_getI (pc' := 31) rfl rfl rfl ?_))
        rw [r8.1]
        refine x_bipush (pc' := 33) rfl rfl ?_
        refine x_icmp_ltN (pc' := 36) rfl rfl (by omega) (by omega) (fun h33 => ?_) (fun h33 => ?_)
        · refine x_aload_n (pc' := 40) rfl rfl rfl (x_getR (pc' := 43) (t := (0, 0, 0)) rfl rfl rfl (x_iload_n (pc' := 44) rfl rfl rfl (x_iload_n (pc' := 45) rfl rfl rfl (x_invI3 (pc' := 48) rfl rfl rfl rfl rfl (c_X0_append a.bn r8.1 (by omega) _ _) ?_))))
          refine x_iret rfl rfl ?_
          refine ok_id (by unfold f_write; rw [bq h5, show (decide (p = -1) || isP a p) = true from hg, Bool.and_self, cond_true, if_pos (by omega)]) (fun c i o q hc => by rw [u4_ne (ne3 (by omega)), u4_ne (ne3 (by omega)), u4_ne (ne3 (by omega))]) ?_
          unfold f_write; rw [bq h5, show (decide (p = -1) || isP a p) = true from hg, Bool.and_self, cond_true, if_pos (by omega), ix_nI (by omega)]
          refine CRel_SB hr (fun c i o q h0 h5 => by rw [u4_ne (ne3 (by omega)), u4_ne (ne3 (by omega)), u4_ne (ne3 (by omega))]) (SeC_cg (fun o q _ => by rw [u4_ne (ne3 (by omega)), u4_ne (ne3 (by omega)), u4_ne (ne3 (by omega))]) r7) ⟨u4_self _ _ _ _ _ _, fun q hq => ⟨?_, ?_⟩⟩
          · rw [u4_ne (by decide), u4_ne (by decide), u4_at]
            show _ = nI (if q = a.bn then m else a.bo q)
            by_cases z : q = a.bn
            · rw [if_pos z, if_pos z]
            · rw [if_neg z, if_neg z]; exact (r8.2 q (by omega)).1
          · rw [u4_ne (by decide), u4_at]
            show _ = if q = a.bn then p else a.bh q
            by_cases z : q = a.bn
            · rw [if_pos z, if_pos z]
            · rw [if_neg z, if_neg z, u4_ne (by decide)]; exact (r8.2 q (by omega)).2
        · refine x_ldc (pc' := 38) rfl rfl ?_
          refine x_iret rfl rfl ?_
          exact ok_id (by unfold f_write; rw [bq h5, show (decide (p = -1) || isP a p) = true from hg, Bool.and_self, cond_true, if_neg (by omega)]) (fun _ _ _ _ _ => rfl) (by unfold f_write; rw [bq h5, show (decide (p = -1) || isP a p) = true from hg, Bool.and_self, cond_true, if_neg (by omega)]; exact hr)
theorem jdF_t {s : Sa} {bo : Nat → Nat} {bh : Nat → Int32} {p m : Nat} (h : s.ho (bo p) = bh p) : jdF s bo bh p (m + 1) = jdF s bo bh (p + 1) m := by
  show (if _ then _ else _) = _
  rw [if_pos h]
theorem jdF_f {s : Sa} {bo : Nat → Nat} {bh : Nat → Int32} {p m : Nat} (h : ¬ s.ho (bo p) = bh p) : jdF s bo bh p (m + 1) = some p := by
  show (if _ then _ else _) = _
  rw [if_neg h]
set_option maxRecDepth 20000 in
theorem l_X0_firstWrong {l : Launch} {X : XT} {d Lz : Nat} {w : WF} {a : AS} (hK : KV a.K) (hb20 : a.bn ≤ 20 ∧ ∀ q, q < a.bn → a.bo q < a.K.no) (r3 : RC w a.K 0 a.s) (r8 : BoC w a.bn a.bo a.bh) : ∀ (kk n : Nat), jdF a.s a.bo a.bh 0 a.bn = jdF a.s a.bo a.bh n (a.bn - n) →  n ≤ a.bn → a.bn + 1 ≤ n + kk → WP l X (d + 1) md_X0_firstWrong (2, [some (.inr (.inr (0, 0, 0))), some (.inr (.inr (6, 0, 0))), some (.inl (nI n))], [], mk Lz w) (fun v M' => v = some (.inl (f_judge a)) ∧ M' = mk Lz w) := by
  intro kk
  induction kk with
  | zero =>
    intro n hL h1 h2
    exact absurd h2 (by omega)
  | succ kk ih =>
    intro n hL hi1 hi2
    have h4 := hK.2.1
    have h20 := hb20.1
    refine x_iload_n (pc' := 3) rfl rfl rfl (x_aload_n (pc' := 4) rfl rfl rfl (x_getI (pc' := 7) rfl rfl rfl ?_))
    rw [r8.1]
    refine x_icmp_geN (pc' := 10) rfl rfl (by omega) (by omega) (fun h7 => ?_) (fun h7 => ?_)
    · refine x_iconst (pc' := 39) rfl rfl ?_
      refine x_iret rfl rfl ?_
      have e : n = a.bn := by omega
      subst e
      exact rI (by unfold f_judge; rw [hL, Nat.sub_self]; rfl)
    · have hL2 := hL
      rw [show a.bn - n = a.bn - (n + 1) + 1 by omega] at hL2
      have hq := hb20.2 n (by omega)
      refine x_aload_n (pc' := 11) rfl rfl rfl (x_getR (pc' := 14) (t := (6, _, 5)) rfl rfl rfl (x_aload_n (pc' := 15) rfl rfl rfl (x_getR (pc' := 18) (t := (0, _, 1)) rfl rfl rfl (x_iload_n (pc' := 19) rfl rfl rfl (x_iald (pc' := 20) (N := 20) rfl rfl rfl rfl (by first | assumption | omega) (by decide) ?_)))))
      rw [(r8.2 n (by omega)).1]
      refine x_iald (pc' := 21) (N := 4) rfl rfl rfl rfl (by first | assumption | omega) (by decide) ?_
      rw [r3.2.2.2.2.1 _ hq]
      refine x_aload_n (pc' := 22) rfl rfl rfl (x_getR (pc' := 25) (t := (0, _, 2)) rfl rfl rfl (x_iload_n (pc' := 26) rfl rfl rfl (x_iald (pc' := 27) (N := 20) rfl rfl rfl rfl (by first | assumption | omega) (by decide) ?_)))
      rw [(r8.2 n (by omega)).2]
      refine x_icmp_eq (pc' := 30) rfl rfl (fun h27 => ?_) (fun h27 => ?_)
      · refine x_iinc2 (pc' := 35) rfl rfl rfl (nI_add _ _) (x_goto rfl ?_)
        exact ih (n + 1) (by rw [hL2, jdF_t h27]) (by omega) (by omega)
      · refine x_iload_n (pc' := 31) rfl rfl rfl ?_
        refine x_iret rfl rfl ?_
        exact rI (by unfold f_judge; rw [hL2, jdF_f h27]; rfl)
set_option maxRecDepth 20000 in
theorem c_X0_firstWrong {l : Launch} {X : XT} {d Lz : Nat} {w : WF} {a : AS} (hK : KV a.K) (hb20 : a.bn ≤ 20 ∧ ∀ q, q < a.bn → a.bo q < a.K.no) (r3 : RC w a.K 0 a.s) (r8 : BoC w a.bn a.bo a.bh) : CT l X (d + 1) md_X0_firstWrong [.inr (.inr (0, 0, 0)), .inr (.inr (6, 0, 0))] (mk Lz w) (some (.inl (f_judge a))) (mk Lz w) := by
  show WP l X _ md_X0_firstWrong (0, [some (.inr (.inr (0, 0, 0))), some (.inr (.inr (6, 0, 0))), none], [], _) _
  refine x_iconst (pc' := 1) rfl rfl (x_istore_n2 (pc' := 2) rfl rfl rfl ?_)
  exact l_X0_firstWrong hK hb20 r3 r8 (a.bn + 1) 0 rfl (by omega) (by omega)
set_option maxRecDepth 20000 in
theorem C_X8_judge {l : Launch} {X : XT} {d Lz : Nat} {w : WF} {a : AS} (h : CRel w a) (hV : AVl a) : okC l X (d + 7) Lz md_X8_judge [] w (f_judge a) (a) := by
  have hr := h
  obtain ⟨r1, r2, r3, r4, r5, r6, r7, r8, r9, r10⟩ := h
  have hK := hV.1
  have hv7 := hK.1
  have hv4 := hK.2.1
  have hs := hV.2.1
  have hnp := r2.2.2.1
  show WP l X _ md_X8_judge (0, [some (.inr (.inr (8, 0, 0)))], [], _) _
  refine x_aload_n (pc' := 1) rfl rfl rfl (x_getR (pc' := 4) (t := (0, 0, 0)) rfl rfl rfl (x_aload_n (pc' := 5) rfl rfl rfl (x_getR (pc' := 8) (t := (6, 0, 0)) rfl rfl rfl (x_invI2 (pc' := 11) rfl rfl rfl rfl (c_X0_firstWrong hK hV.2.2.2.2.2.2.1 r3 r8) ?_))))
  refine x_iret rfl rfl ?_
  exact ok_id (rfl) (fun _ _ _ _ _ => rfl) hr
set_option maxRecDepth 20000 in
theorem l_X9_judge {l : Launch} {X : XT} {d Lz : Nat} {w : WF} {a : AS} (hK : KV a.K) (hb20 : a.bn ≤ 20 ∧ ∀ q, q < a.bn → a.bo q < a.K.no) (hho : ∀ q, q < a.K.no → w 9 0 1 (42 + q) = a.s.ho q) (r7 : BoM w a.bn a.bo a.bh) : ∀ (kk n : Nat), jdF a.s a.bo a.bh 0 a.bn = jdF a.s a.bo a.bh n (a.bn - n) →  n ≤ a.bn → a.bn + 1 ≤ n + kk → WP l X (d + 1) md_X9_judge (2, [some (.inr (.inr (9, 0, 0))), some (.inl (nI n))], [], mk Lz w) (fun v M' => v = some (.inl (f_judge a)) ∧ M' = mk Lz w) := by
  intro kk
  induction kk with
  | zero =>
    intro n hL h1 h2
    exact absurd h2 (by omega)
  | succ kk ih =>
    intro n hL hi1 hi2
    have h4 := hK.2.1
    have h20 := hb20.1
    refine x_iload_n (pc' := 3) rfl rfl rfl (x_aload_n (pc' := 4) rfl rfl rfl (x_getI (pc' := 7) rfl rfl rfl ?_))
    rw [r7.1]
    refine x_icmp_geN (pc' := 10) rfl rfl (by omega) (by omega) (fun h7 => ?_) (fun h7 => ?_)
    · refine x_iconst (pc' := 42) rfl rfl ?_
      refine x_iret rfl rfl ?_
      have e : n = a.bn := by omega
      subst e
      exact rI (by unfold f_judge; rw [hL, Nat.sub_self]; rfl)
    · have hL2 := hL
      rw [show a.bn - n = a.bn - (n + 1) + 1 by omega] at hL2
      have hq := hb20.2 n (by omega)
      refine x_aload_n (pc' := 11) rfl rfl rfl (x_getR (pc' := 14) (t := (9, _, 1)) rfl rfl rfl (x_bipush (pc' := 16) rfl rfl (x_aload_n (pc' := 17) rfl rfl rfl (x_getR (pc' := 20) (t := (9, _, 18)) rfl rfl rfl (x_iload_n (pc' := 21) rfl rfl rfl ?_)))))
      refine x_iald (pc' := 22) (N := 20) rfl rfl rfl rfl (by first | assumption | omega) (by decide) ?_
      rw [(r7.2 n (by omega)).1]
      refine x_iaddN (pc' := 23) rfl rfl (x_iald (pc' := 24) (N := 4420) rfl rfl rfl rfl (by first | assumption | omega) (by decide) ?_)
      rw [hho _ hq]
      refine x_aload_n (pc' := 25) rfl rfl rfl (x_getR (pc' := 28) (t := (9, _, 19)) rfl rfl rfl (x_iload_n (pc' := 29) rfl rfl rfl (x_iald (pc' := 30) (N := 20) rfl rfl rfl rfl (by first | assumption | omega) (by decide) ?_)))
      rw [(r7.2 n (by omega)).2]
      refine x_icmp_eq (pc' := 33) rfl rfl (fun h30 => ?_) (fun h30 => ?_)
      · refine x_iinc1 (pc' := 38) rfl rfl rfl (nI_add _ _) (x_goto rfl ?_)
        exact ih (n + 1) (by rw [hL2, jdF_t h30]) (by omega) (by omega)
      · refine x_iload_n (pc' := 34) rfl rfl rfl ?_
        refine x_iret rfl rfl ?_
        exact rI (by unfold f_judge; rw [hL2, jdF_f h30]; rfl)
set_option maxRecDepth 20000 in
theorem M_X9_judge {l : Launch} {X : XT} {d Lz : Nat} {w : WF} {a : AS} (h : MRel w a) (hV : AVl a) : okM l X (d + 8) Lz md_X9_judge [] w (f_judge a) (a) := by
  have hr := h
  obtain ⟨r1, r2, r3, r4, r5, r6, r7, r8, r9⟩ := h
  have hK := hV.1
  have hv7 := hK.1
  have hv4 := hK.2.1
  have hs := hV.2.1
  have hnp := r1.2.2.1
  have hno := r1.2.2.2.2.1
  have hg : ∀ q, q < 21 → w 9 0 1 q = a.s.g q := fun q hq => by have := r2.1 q hq; rwa [Nat.zero_add] at this
  have he : ∀ q, q < a.K.np → w 9 0 1 (21 + q) = a.s.e q := fun q hq => r2.2.1 q hq
  have hco : ∀ q, q < a.K.np → w 9 0 1 (28 + q) = a.s.co q := fun q hq => r2.2.2.1 q hq
  have hti : ∀ q, q < a.K.np → w 9 0 1 (35 + q) = a.s.ti q := fun q hq => r2.2.2.2.1 q hq
  have hho : ∀ q, q < a.K.no → w 9 0 1 (42 + q) = a.s.ho q := fun q hq => r2.2.2.2.2.1 q hq
  have hrn : w 9 0 1 46 = a.s.rn := r2.2.2.2.2.2.1
  have hdd : w 9 0 1 47 = nI a.s.dd := r2.2.2.2.2.2.2.1
  have hlc : w 9 0 1 48 = nI (min a.s.cc 20) := r2.2.2.2.2.2.2.2.1
  have hr0 : w 9 0 1 (0 + 46) = 0 ∨ w 9 0 1 (0 + 46) = nI 1 := by rw [r2.2.2.2.2.2.1]; exact hs.1.1
  have hdl := hs.2
  show WP l X _ md_X9_judge (0, [some (.inr (.inr (9, 0, 0))), none], [], _) _
  refine x_iconst (pc' := 1) rfl rfl (x_istore_n1 (pc' := 2) rfl rfl rfl ?_)
  refine wp_cons (wp_mono (by omega) (l_X9_judge (d := d) hK hV.2.2.2.2.2.2.1 hho r7 (a.bn + 1) 0 rfl (by omega) (by omega))) (fun v M hq => ?_)
  obtain ⟨rfl, rfl⟩ := hq
  exact ok_id (rfl) (fun _ _ _ _ _ => rfl) hr
set_option maxRecDepth 20000 in
theorem C_X8_tear {l : Launch} {X : XT} {d Lz : Nat} {w : WF} {a : AS} (h : CRel w a) (hV : AVl a) : okC l X (d + 7) Lz md_X8_tear [] w (nI (a.sn + a.bn)) (a.tear) := by
  have hr := h
  obtain ⟨r1, r2, r3, r4, r5, r6, r7, r8, r9, r10⟩ := h
  have hK := hV.1
  have hv7 := hK.1
  have hv4 := hK.2.1
  have hs := hV.2.1
  have hnp := r2.2.2.1
  show WP l X _ md_X8_tear (0, [some (.inr (.inr (8, 0, 0))), none], [], _) _
  refine x_aload_n (pc' := 1) rfl rfl rfl (x_getR (pc' := 4) (t := (5, 0, 0)) rfl rfl rfl (x_getI (pc' := 7) rfl rfl rfl ?_))
  rw [r7.1]
  refine x_aload_n (pc' := 8) rfl rfl rfl (x_getR (pc' := 11) (t := (0, 0, 0)) rfl rfl rfl (x_getI (pc' := 14) rfl rfl rfl ?_))
  rw [r8.1]
  refine x_iaddN (pc' := 15) rfl rfl (x_istore_n1 (pc' := 16) rfl rfl rfl (x_aload_n (pc' := 17) rfl rfl rfl (x_getR (pc' := 20) (t := (5, 0, 0)) rfl rfl rfl (x_iconst (pc' := 21) rfl rfl (x_putI (pc' := 24) rfl rfl rfl ?_)))))
  refine x_aload_n (pc' := 25) rfl rfl rfl (x_getR (pc' := 28) (t := (0, 0, 0)) rfl rfl rfl (x_iconst (pc' := 29) rfl rfl (x_putI (pc' := 32) rfl rfl rfl (x_iload_n (pc' := 33) rfl rfl rfl ?_))))
  refine x_iret rfl rfl ?_
  refine ok_id rfl (fun c i o q hc => by rw [u4_ne (ne3 (by omega)), u4_ne (ne3 (by omega))]) ?_
  exact CRel_SB hr (fun c i o q h0 h5 => by rw [u4_ne (ne3 (by omega)), u4_ne (ne3 (by omega))]) ⟨by rw [u4_ne (by decide), u4_self], fun q hq => absurd hq (by omega)⟩ ⟨u4_self _ _ _ _ _ _, fun q hq => absurd hq (by omega)⟩
set_option maxRecDepth 20000 in
theorem M_X9_tear {l : Launch} {X : XT} {d Lz : Nat} {w : WF} {a : AS} (h : MRel w a) (hV : AVl a) : okM l X (d + 8) Lz md_X9_tear [] w (nI (a.sn + a.bn)) (a.tear) := by
  have hr := h
  obtain ⟨r1, r2, r3, r4, r5, r6, r7, r8, r9⟩ := h
  have hK := hV.1
  have hv7 := hK.1
  have hv4 := hK.2.1
  have hs := hV.2.1
  have hnp := r1.2.2.1
  have hno := r1.2.2.2.2.1
  show WP l X _ md_X9_tear (0, [some (.inr (.inr (9, 0, 0))), none], [], _) _
  refine x_aload_n (pc' := 1) rfl rfl rfl (x_getI (pc' := 4) rfl rfl rfl ?_)
  rw [r6.1]
  refine x_aload_n (pc' := 5) rfl rfl rfl (x_getI (pc' := 8) rfl rfl rfl ?_)
  rw [r7.1]
  refine x_iaddN (pc' := 9) rfl rfl (x_istore_n1 (pc' := 10) rfl rfl rfl (x_aload_n (pc' := 11) rfl rfl rfl (x_iconst (pc' := 12) rfl rfl (x_putI (pc' := 15) rfl rfl rfl (x_aload_n (pc' := 16) rfl rfl rfl ?_)))))
  refine x_iconst (pc' := 17) rfl rfl (x_putI (pc' := 20) rfl rfl rfl (x_iload_n (pc' := 21) rfl rfl rfl ?_))
  refine x_iret rfl rfl ?_
  refine ok_id rfl (fun c i o q hc => by rw [u4_ne (ne3 (by omega)), u4_ne (ne3 (by omega))]) ?_
  refine MRel_SB hK hr (fun i o q h0 => ?_) ⟨by rw [u4_k (by omega), u4_self], fun q hq => absurd hq (by omega)⟩ ⟨u4_self _ _ _ _ _ _, fun q hq => absurd hq (by omega)⟩
  unfold u4; rw [if_neg (by omega), if_neg (by omega)]
set_option maxRecDepth 20000 in
theorem M_X9_see {l : Launch} {X : XT} {d Lz : Nat} {w : WF} {a : AS} (h : MRel w a) (hV : AVl a) (e : Int32) (m : Int32) : okM l X (d + 8) Lz md_X9_see [.inl (e), .inl (m)] w ((f_see a e m).1) ((f_see a e m).2) := by
  have hr := h
  obtain ⟨r1, r2, r3, r4, r5, r6, r7, r8, r9⟩ := h
  have hK := hV.1
  have hv7 := hK.1
  have hv4 := hK.2.1
  have hs := hV.2.1
  have hnp := r1.2.2.1
  have hno := r1.2.2.2.2.1
  show WP l X _ md_X9_see (0, [some (.inr (.inr (9, 0, 0))), some (.inl (e)), some (.inl (m))], [], _) _
  refine x_iload_n (pc' := 1) rfl rfl rfl (x_iconst (pc' := 2) rfl rfl (x_bipush (pc' := 4) rfl rfl (x_invS3 (pc' := 7) rfl rfl rfl rfl rfl rfl (c_X9_in _ _ _) ?_)))
  refine x_if_eq (pc' := 10) rfl rfl (fun h7 => ?_) (fun h7 => ?_)
  · refine x_ldc (pc' := 22) rfl rfl ?_
    refine x_iret rfl rfl ?_
    first | exact ok_id (by unfold f_see; rw [bI_eq0.mp h7]; rfl) (fun _ _ _ _ _ => rfl) (by unfold f_see; rw [bI_eq0.mp h7]; exact hr) | exact ok_id (by unfold f_see; rw [bq h7, bI_eq0.mp h17]; rfl) (fun _ _ _ _ _ => rfl) (by unfold f_see; rw [bq h7, bI_eq0.mp h17]; exact hr)
  · refine x_iload_n (pc' := 11) rfl rfl rfl (x_iconst (pc' := 12) rfl rfl (x_bipush (pc' := 14) rfl rfl (x_invS3 (pc' := 17) rfl rfl rfl rfl rfl rfl (c_X9_in _ _ _) ?_)))
    refine x_if_ne (pc' := 20) rfl rfl (fun h17 => ?_) (fun h17 => ?_)
    · refine x_ldc (pc' := 22) rfl rfl ?_
      refine x_iret rfl rfl ?_
      first | exact ok_id (by unfold f_see; rw [bI_eq0.mp h7]; rfl) (fun _ _ _ _ _ => rfl) (by unfold f_see; rw [bI_eq0.mp h7]; exact hr) | exact ok_id (by unfold f_see; rw [bq h7, bI_eq0.mp h17]; rfl) (fun _ _ _ _ _ => rfl) (by unfold f_see; rw [bq h7, bI_eq0.mp h17]; exact hr)
    · obtain ⟨m, -, hm, rfl⟩ := in_num (by omega) (bq h7) (by omega)
      obtain ⟨m2, -, hm2, rfl⟩ := in_num (by omega) (bq h17) (by omega)
      have ht := hV.2.2.2.2.2.1.1
      refine x_aload_n (pc' := 24) rfl rfl rfl (x_getI (pc' := 27) rfl rfl rfl ?_)
      rw [r6.1]
      refine x_bipush (pc' := 29) rfl rfl ?_
      refine x_icmp_neN (pc' := 32) rfl rfl (by omega) (by omega) (fun h29 => ?_) (fun h29 => ?_)
      · refine x_ldc (pc' := 34) rfl rfl ?_
        refine x_iret rfl rfl ?_
        exact ok_id (by unfold f_see; rw [bq h7, bq h17, Bool.and_self, cond_true, if_neg (by omega)]) (fun _ _ _ _ _ => rfl) (by unfold f_see; rw [bq h7, bq h17, Bool.and_self, cond_true, if_neg (by omega)]; exact hr)
      · refine x_aload_n (pc' := 36) rfl rfl rfl (x_getR (pc' := 39) (t := (9, _, 15)) rfl rfl rfl (x_aload_n (pc' := 40) rfl rfl rfl (x_getI (pc' := 43) rfl rfl rfl ?_)))
        rw [r6.1]
        refine x_iload_n (pc' := 44) rfl rfl rfl (x_iast (pc' := 45) (N := 6) rfl rfl rfl (by decide) rfl (by omega) (by decide) (x_aload_n (pc' := 46) rfl rfl rfl (x_getR (pc' := 49) (t := (9, _, 16)) rfl rfl rfl (x_aload_n (pc' := 50) rfl rfl rfl (x_getI (pc' := 53) rfl rfl rfl ?_)))))
        rw [u4_ne (by decide), r6.1]
        refine x_iload_n (pc' := 54) rfl rfl rfl (x_iast (pc' := 55) (N := 6) rfl rfl rfl (by decide) rfl (by omega) (by decide) (x_aload_n (pc' := 56) rfl rfl rfl (x_dup (pc' := 57) rfl rfl rfl (x_getI (pc' := 60) rfl rfl rfl ?_))))
        rw [u4_ne (by decide), u4_ne (by decide), r6.1]
        refine x_iconst (pc' := 61) rfl rfl (x_iaddN (pc' := 62) rfl rfl (x_putI (pc' := 65) rfl rfl rfl (x_aload_n (pc' := 66) rfl rfl rfl (x_getI (pc' := 69) rfl rfl rfl ?_))))
        refine x_iret rfl rfl ?_
        refine ok_id (by unfold f_see; rw [bq h7, bq h17, Bool.and_self, cond_true, if_pos (by omega), u4_self]) (fun c i o q hc => by rw [u4_ne (ne3 (by omega)), u4_ne (ne3 (by omega)), u4_ne (ne3 (by omega))]) ?_
        unfold f_see; rw [bq h7, bq h17, Bool.and_self, cond_true, if_pos (by omega), ix_nI (by omega), ix_nI (by omega)]
        refine MRel_SB hK hr (fun i o q h0 => by unfold u4; rw [if_neg (by omega), if_neg (by omega), if_neg (by omega)]) ⟨u4_self _ _ _ _ _ _, fun q hq => ⟨?_, ?_⟩⟩ (BoM_cg (by unfold u4; rw [if_neg (by omega), if_neg (by omega), if_neg (by omega)]) (fun q => by rw [u4_ne (by decide), u4_ne (by decide), u4_ne (by decide)]) (fun q => by rw [u4_ne (by decide), u4_ne (by decide), u4_ne (by decide)]) r7)
        · rw [u4_ne (by decide), u4_ne (by decide), u4_at]
          show _ = nI (if q = a.sn then m else a.se q)
          by_cases z : q = a.sn
          · rw [if_pos z, if_pos z]
          · rw [if_neg z, if_neg z]; exact (r6.2 q (by omega)).1
        · rw [u4_ne (by decide), u4_at]
          show _ = nI (if q = a.sn then m2 else a.sm q)
          by_cases z : q = a.sn
          · rw [if_pos z, if_pos z]
          · rw [if_neg z, if_neg z, u4_ne (by decide)]; exact (r6.2 q (by omega)).2
set_option maxRecDepth 20000 in
theorem M_X9_write {l : Launch} {X : XT} {d Lz : Nat} {w : WF} {a : AS} (h : MRel w a) (hV : AVl a) (o : Int32) (p : Int32) : okM l X (d + 8) Lz md_X9_write [.inl (o), .inl (p)] w ((f_write a o p).1) ((f_write a o p).2) := by
  have hr := h
  obtain ⟨r1, r2, r3, r4, r5, r6, r7, r8, r9⟩ := h
  have hK := hV.1
  have hv7 := hK.1
  have hv4 := hK.2.1
  have hs := hV.2.1
  have hnp := r1.2.2.1
  have hno := r1.2.2.2.2.1
  show WP l X _ md_X9_write (0, [some (.inr (.inr (9, 0, 0))), some (.inl (o)), some (.inl (p))], [], _) _
  refine x_aload_n (pc' := 1) rfl rfl rfl (x_iload_n (pc' := 2) rfl rfl rfl (x_invI2 (pc' := 5) rfl rfl rfl rfl (p_X9_isOffice r1 _) ?_))
  refine x_if_eq (pc' := 8) rfl rfl (fun h5 => ?_) (fun h5 => ?_)
  · refine x_ldc (pc' := 23) rfl rfl ?_
    refine x_iret rfl rfl ?_
    first | exact ok_id (by unfold f_write; rw [bI_eq0.mp h5]; rfl) (fun _ _ _ _ _ => rfl) (by unfold f_write; rw [bI_eq0.mp h5]; exact hr) | exact ok_id (by unfold f_write; rw [bq h5, dF h10, bI_eq0.mp h18]; rfl) (fun _ _ _ _ _ => rfl) (by unfold f_write; rw [bq h5, dF h10, bI_eq0.mp h18]; exact hr)
  · refine x_iload_n (pc' := 9) rfl rfl rfl (x_iconst (pc' := 10) rfl rfl ?_)
    refine x_icmp_eq (pc' := 13) rfl rfl (fun h10 => ?_) (fun h10 => ?_)
    · have hg : (decide (p = -1) || isP a p) = true := by
        first | (rw [dT h10]; rfl) | (rw [bq h18]; simp)
      obtain ⟨m, hm, rfl⟩ := in_np (by omega) (bq h5)
      have ht := hV.2.2.2.2.2.2.1.1
      refine x_aload_n (pc' := 25) rfl rfl rfl (x_getI (pc' := 28) rfl rfl rfl ?_)
      rw [r7.1]
      refine x_bipush (pc' := 30) rfl rfl ?_
      refine x_icmp_neN (pc' := 33) rfl rfl (by omega) (by omega) (fun h30 => ?_) (fun h30 => ?_)
      · refine x_ldc (pc' := 35) rfl rfl ?_
        refine x_iret rfl rfl ?_
        exact ok_id (by unfold f_write; rw [bq h5, show (decide (p = -1) || isP a p) = true from hg, Bool.and_self, cond_true, if_neg (by omega)]) (fun _ _ _ _ _ => rfl) (by unfold f_write; rw [bq h5, show (decide (p = -1) || isP a p) = true from hg, Bool.and_self, cond_true, if_neg (by omega)]; exact hr)
      · refine x_aload_n (pc' := 37) rfl rfl rfl (x_getR (pc' := 40) (t := (9, _, 18)) rfl rfl rfl (x_aload_n (pc' := 41) rfl rfl rfl (x_getI (pc' := 44) rfl rfl rfl ?_)))
        rw [r7.1]
        refine x_iload_n (pc' := 45) rfl rfl rfl (x_iast (pc' := 46) (N := 20) rfl rfl rfl (by decide) rfl (by omega) (by decide) (x_aload_n (pc' := 47) rfl rfl rfl (x_getR (pc' := 50) (t := (9, _, 19)) rfl rfl rfl (x_aload_n (pc' := 51) rfl rfl rfl (x_getI (pc' := 54) rfl rfl rfl ?_)))))
        rw [u4_ne (by decide), r7.1]
        refine x_iload_n (pc' := 55) rfl rfl rfl (x_iast (pc' := 56) (N := 20) rfl rfl rfl (by decide) rfl (by omega) (by decide) (x_aload_n (pc' := 57) rfl rfl rfl (x_dup (pc' := 58) rfl rfl rfl (x_getI (pc' := 61) rfl rfl rfl ?_))))
        rw [u4_ne (by decide), u4_ne (by decide), r7.1]
        refine x_iconst (pc' := 62) rfl rfl (x_iaddN (pc' := 63) rfl rfl (x_putI (pc' := 66) rfl rfl rfl (x_aload_n (pc' := 67) rfl rfl rfl (x_getI (pc' := 70) rfl rfl rfl ?_))))
        refine x_iret rfl rfl ?_
        refine ok_id (by unfold f_write; rw [bq h5, show (decide (p = -1) || isP a p) = true from hg, Bool.and_self, cond_true, if_pos (by omega), u4_self]) (fun c i o q hc => by rw [u4_ne (ne3 (by omega)), u4_ne (ne3 (by omega)), u4_ne (ne3 (by omega))]) ?_
        unfold f_write; rw [bq h5, show (decide (p = -1) || isP a p) = true from hg, Bool.and_self, cond_true, if_pos (by omega), ix_nI (by omega)]
        refine MRel_SB hK hr (fun i o q h0 => by unfold u4; rw [if_neg (by omega), if_neg (by omega), if_neg (by omega)]) (SeM_cg (by unfold u4; rw [if_neg (by omega), if_neg (by omega), if_neg (by omega)]) (fun q => by rw [u4_ne (by decide), u4_ne (by decide), u4_ne (by decide)]) (fun q => by rw [u4_ne (by decide), u4_ne (by decide), u4_ne (by decide)]) r6) ⟨u4_self _ _ _ _ _ _, fun q hq => ⟨?_, ?_⟩⟩
        · rw [u4_ne (by decide), u4_ne (by decide), u4_at]
          show _ = nI (if q = a.bn then m else a.bo q)
          by_cases z : q = a.bn
          · rw [if_pos z, if_pos z]
          · rw [if_neg z, if_neg z]; exact (r7.2 q (by omega)).1
        · rw [u4_ne (by decide), u4_at]
          show _ = if q = a.bn then p else a.bh q
          by_cases z : q = a.bn
          · rw [if_pos z, if_pos z]
          · rw [if_neg z, if_neg z, u4_ne (by decide)]; exact (r7.2 q (by omega)).2
    · refine x_aload_n (pc' := 14) rfl rfl rfl (x_iload_n (pc' := 15) rfl rfl rfl (x_invI2 (pc' := 18) rfl rfl rfl rfl (p_X9_isPerson r1 _) ?_))
      refine x_if_ne (pc' := 21) rfl rfl (fun h18 => ?_) (fun h18 => ?_)
      · refine x_ldc (pc' := 23) rfl rfl ?_
        refine x_iret rfl rfl ?_
        first | exact ok_id (by unfold f_write; rw [bI_eq0.mp h5]; rfl) (fun _ _ _ _ _ => rfl) (by unfold f_write; rw [bI_eq0.mp h5]; exact hr) | exact ok_id (by unfold f_write; rw [bq h5, dF h10, bI_eq0.mp h18]; rfl) (fun _ _ _ _ _ => rfl) (by unfold f_write; rw [bq h5, dF h10, bI_eq0.mp h18]; exact hr)
      · have hg : (decide (p = -1) || isP a p) = true := by
          first | (rw [dT h10]; rfl) | (rw [bq h18]; simp)
        obtain ⟨m, hm, rfl⟩ := in_np (by omega) (bq h5)
        have ht := hV.2.2.2.2.2.2.1.1
        refine x_aload_n (pc' := 25) rfl rfl rfl (x_getI (pc' := 28) rfl rfl rfl ?_)
        rw [r7.1]
        refine x_bipush (pc' := 30) rfl rfl ?_
        refine x_icmp_neN (pc' := 33) rfl rfl (by omega) (by omega) (fun h30 => ?_) (fun h30 => ?_)
        · refine x_ldc (pc' := 35) rfl rfl ?_
          refine x_iret rfl rfl ?_
          exact ok_id (by unfold f_write; rw [bq h5, show (decide (p = -1) || isP a p) = true from hg, Bool.and_self, cond_true, if_neg (by omega)]) (fun _ _ _ _ _ => rfl) (by unfold f_write; rw [bq h5, show (decide (p = -1) || isP a p) = true from hg, Bool.and_self, cond_true, if_neg (by omega)]; exact hr)
        · refine x_aload_n (pc' := 37) rfl rfl rfl (x_getR (pc' := 40) (t := (9, _, 18)) rfl rfl rfl (x_aload_n (pc' := 41) rfl rfl rfl (x_getI (pc' := 44) rfl rfl rfl ?_)))
          rw [r7.1]
          refine x_iload_n (pc' := 45) rfl rfl rfl (x_iast (pc' := 46) (N := 20) rfl rfl rfl (by decide) rfl (by omega) (by decide) (x_aload_n (pc' := 47) rfl rfl rfl (x_getR (pc' := 50) (t := (9, _, 19)) rfl rfl rfl (x_aload_n (pc' := 51) rfl rfl rfl (x_getI (pc' := 54) rfl rfl rfl ?_)))))
          rw [u4_ne (by decide), r7.1]
          refine x_iload_n (pc' := 55) rfl rfl rfl (x_iast (pc' := 56) (N := 20) rfl rfl rfl (by decide) rfl (by omega) (by decide) (x_aload_n (pc' := 57) rfl rfl rfl (x_dup (pc' := 58) rfl rfl rfl (x_getI (pc' := 61) rfl rfl rfl ?_))))
          rw [u4_ne (by decide), u4_ne (by decide), r7.1]
          refine x_iconst (pc' := 62) rfl rfl (x_iaddN (pc' := 63) rfl rfl (x_putI (pc' := 66) rfl rfl rfl (x_aload_n (pc' := 67) rfl rfl rfl (x_getI (pc' := 70) rfl rfl rfl ?_))))
          refine x_iret rfl rfl ?_
          refine ok_id (by unfold f_write; rw [bq h5, show (decide (p = -1) || isP a p) = true from hg, Bool.and_self, cond_true, if_pos (by omega), u4_self]) (fun c i o q hc => by rw [u4_ne (ne3 (by omega)), u4_ne (ne3 (by omega)), u4_ne (ne3 (by omega))]) ?_
          unfold f_write; rw [bq h5, show (decide (p = -1) || isP a p) = true from hg, Bool.and_self, cond_true, if_pos (by omega), ix_nI (by omega)]
          refine MRel_SB hK hr (fun i o q h0 => by unfold u4; rw [if_neg (by omega), if_neg (by omega), if_neg (by omega)]) (SeM_cg (by unfold u4; rw [if_neg (by omega), if_neg (by omega), if_neg (by omega)]) (fun q => by rw [u4_ne (by decide), u4_ne (by decide), u4_ne (by decide)]) (fun q => by rw [u4_ne (by decide), u4_ne (by decide), u4_ne (by decide)]) r6) ⟨u4_self _ _ _ _ _ _, fun q hq => ⟨?_, ?_⟩⟩
          · rw [u4_ne (by decide), u4_ne (by decide), u4_at]
            show _ = nI (if q = a.bn then m else a.bo q)
            by_cases z : q = a.bn
            · rw [if_pos z, if_pos z]
            · rw [if_neg z, if_neg z]; exact (r7.2 q (by omega)).1
          · rw [u4_ne (by decide), u4_at]
            show _ = if q = a.bn then p else a.bh q
            by_cases z : q = a.bn
            · rw [if_pos z, if_pos z]
            · rw [if_neg z, if_neg z, u4_ne (by decide)]; exact (r7.2 q (by omega)).2
set_option maxRecDepth 20000 in
theorem C_X8_seed {l : Launch} {X : XT} {d Lz : Nat} {w : WF} {a : AS} (h : CRel w a) (hV : AVl a) (v : Int32) : okC l X (d + 7) Lz md_X8_seed [.inl (v)] w ((f_seed a v).1) ((f_seed a v).2) := by
  have hr := h
  obtain ⟨r1, r2, r3, r4, r5, r6, r7, r8, r9, r10⟩ := h
  have hK := hV.1
  have hv7 := hK.1
  have hv4 := hK.2.1
  have hs := hV.2.1
  have hnp := r2.2.2.1
  show WP l X _ md_X8_seed (0, [some (.inr (.inr (8, 0, 0))), some (.inl (v)), none], [], _) _
  refine x_iload_n (pc' := 1) rfl rfl rfl ?_
  refine x_if_ge (pc' := 4) rfl rfl (fun h1 => ?_) (fun h1 => ?_)
  · refine x_aload_n (pc' := 8) rfl rfl rfl (x_getI (pc' := 11) rfl rfl rfl ?_)
    rw [r6]
    refine x_istore_n2 (pc' := 12) rfl rfl rfl (x_aload_n (pc' := 13) rfl rfl rfl (x_iload_n (pc' := 14) rfl rfl rfl (x_putI (pc' := 17) rfl rfl rfl (x_iload_n (pc' := 18) rfl rfl rfl ?_))))
    refine x_iret rfl rfl ?_
    obtain ⟨m, hm, rfl⟩ := nI_of (Int32.not_lt.mpr h1)
    refine ok_id (by unfold f_seed; rw [if_neg (Int32.not_lt.mpr h1)]) (fun c i o q hc => by rw [u4_ne (ne3 (by omega))]) ?_
    unfold f_seed; rw [if_neg (Int32.not_lt.mpr h1), ix_nI hm]
    exact CRel_D hr (fun c i o q _ _ _ _ _ h6 => by unfold u4; rw [if_neg (by omega)]) (RC_cg (fun o q => by rw [u4_ne (by intro z; cases z)]) r3) (PaC_cg (fun q => by rw [u4_ne (by decide)]) (fun i o q _ _ => by rw [u4_ne (by intro z; cases z)]) r4) (u4_self _ _ _ _ _ _)
  · refine x_ldc (pc' := 6) rfl rfl ?_
    refine x_iret rfl rfl ?_
    exact ok_id (by unfold f_seed; rw [if_pos (Int32.not_le.mp h1)]) (fun _ _ _ _ _ => rfl) (by unfold f_seed; rw [if_pos (Int32.not_le.mp h1)]; exact hr)
set_option maxRecDepth 20000 in
theorem M_X9_seed {l : Launch} {X : XT} {d Lz : Nat} {w : WF} {a : AS} (h : MRel w a) (hV : AVl a) (v : Int32) : okM l X (d + 8) Lz md_X9_seed [.inl (v)] w ((f_seed a v).1) ((f_seed a v).2) := by
  have hr := h
  obtain ⟨r1, r2, r3, r4, r5, r6, r7, r8, r9⟩ := h
  have hK := hV.1
  have hv7 := hK.1
  have hv4 := hK.2.1
  have hs := hV.2.1
  have hnp := r1.2.2.1
  have hno := r1.2.2.2.2.1
  show WP l X _ md_X9_seed (0, [some (.inr (.inr (9, 0, 0))), some (.inl (v)), none], [], _) _
  refine x_iload_n (pc' := 1) rfl rfl rfl ?_
  refine x_if_ge (pc' := 4) rfl rfl (fun h1 => ?_) (fun h1 => ?_)
  · refine x_aload_n (pc' := 8) rfl rfl rfl (x_getR (pc' := 11) (t := (9, _, 1)) rfl rfl rfl (x_sipush (pc' := 14) rfl rfl (x_iald (pc' := 15) (N := 4420) rfl rfl rfl rfl (by first | assumption | omega) (by decide) ?_)))
    rw [r5]
    refine x_istore_n2 (pc' := 16) rfl rfl rfl (x_aload_n (pc' := 17) rfl rfl rfl (x_getR (pc' := 20) (t := (9, _, 1)) rfl rfl rfl (x_sipush (pc' := 23) rfl rfl (x_iload_n (pc' := 24) rfl rfl rfl (x_iast (pc' := 25) (N := 4420) rfl rfl rfl (by decide) rfl (by first | assumption | omega) (by decide) ?_)))))
    refine x_iload_n (pc' := 26) rfl rfl rfl ?_
    refine x_iret rfl rfl ?_
    obtain ⟨m, hm, rfl⟩ := nI_of (Int32.not_lt.mpr h1)
    refine ok_id (by unfold f_seed; rw [if_neg (Int32.not_lt.mpr h1)]) (fun c i o q hc => by rw [u4_ne (ne3 (by omega))]) ?_
    unfold f_seed; rw [if_neg (Int32.not_lt.mpr h1), ix_nI hm]
    exact MRel_D hK hr ⟨fun i o q h0 => by rw [u4_ne (ne3 (by omega))], fun q _ => by rw [u4_ne (by decide)], fun q h1 h2 => by rw [u4_k (by omega)]⟩ (RR_cg (fun q h1 h2 => by rw [u4_k (by omega)]) hK r2) (PaM_cg (by rw [u4_ne (by decide)]) (fun q hq => by rw [u4_k (by omega)]) hK r3) (u4_self _ _ _ _ _ _)
  · refine x_ldc (pc' := 6) rfl rfl ?_
    refine x_iret rfl rfl ?_
    exact ok_id (by unfold f_seed; rw [if_pos (Int32.not_le.mp h1)]) (fun _ _ _ _ _ => rfl) (by unfold f_seed; rw [if_pos (Int32.not_le.mp h1)]; exact hr)
