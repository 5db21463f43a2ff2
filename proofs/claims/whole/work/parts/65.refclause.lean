/-! the reference reads a clause -/
theorem claP_n {t : Nat → Nat} {n : Nat} {P : PS} (h : ¬ whyW (t P.1) P.2.2 = 0) : claP t n P = (P.1, blm P.2.1 (whyW (t P.1) P.2.2) P.1, P.2.2) := by
  unfold claP; rw [if_neg h]
theorem claP_F {t : Nat → Nat} {n : Nat} {P : PS} (h : whyW (t P.1) P.2.2 = 0) (hb : ¬ (bodP t n (t P.1) (P.1 + 1, P.2)).2.1.1 = 0) : (claP t n P).2.1 = (bodP t n (t P.1) (P.1 + 1, P.2)).2.1 := by
  rw [claP_0 h]
  show sgF t n (bodP t n (t P.1) (P.1 + 1, P.2)).1 (bodP t n (t P.1) (P.1 + 1, P.2)).2.1 = _
  unfold sgF
  cases nxt t n (bodP t n (t P.1) (P.1 + 1, P.2)).1 59
  · exact blm_n hb
  · rfl
set_option maxRecDepth 20000 in
theorem tB_X9_readClause {l : Launch} {X : XT} {d Lz : Nat} {w : Nat → Nat → Nat → Nat → Int32} {n : Nat} {t : Nat → Nat} (hn : n ≤ 240) (ht : ∀ q, q < n → t q < 256) (P : PS) (ha : P.1 < n) (hF0 : P.2.1.1 = 0) (hB : P.2.2.np ≤ 7 ∧ P.2.2.nt ≤ 12 ∧ P.2.2.no ≤ 4) (b : Nat) (w1 : WF) (hne : ¬ (claP t n P).2.1.1 = 0) (h1 : FM w1 n t b (claP t n P).2.1) (hf : frG w w1) (L1 L2 : Option AV) : WP l X (d + 5) md_X9_readClause (122, [some (.inr (.inr (9, 0, 0))), L1, L2], [], mk Lz w1) (fun v M' => v = none ∧ ∃ w', M' = mk Lz w' ∧ FM w' n t (claP t n P).1 (claP t n P).2.1 ∧ ((claP t n P).2.1.1 = 0 → DM w' (claP t n P).2.2 ((claP t n P).2.2.np * 3)) ∧ frG w w') := by
  refine x_aload_n (pc' := 123) rfl rfl rfl (x_invI1 (pc' := 126) rfl rfl rfl (c_X9_fine (claP t n P).2.1 (claP_3 (by omega)) h1.2.1) ?_)
  refine x_if_eq (pc' := 129) rfl rfl (fun h126 => ?_) (fun h126 => absurd (by rw [dF hne]; rfl) h126)
  refine x_aload_n (pc' := 148) rfl rfl rfl (x_dup (pc' := 149) rfl rfl rfl (x_getI (pc' := 152) rfl rfl rfl (x_iconst (pc' := 153) rfl rfl (x_iadd (pc' := 154) rfl rfl (x_putI (pc' := 157) rfl rfl rfl ?_)))))
  refine x_vret rfl rfl ?_
  exact ⟨rfl, _, rfl, FM_H (w := w1) (FM_b (b := (claP t n P).1) hne h1) ((show frH w1 w1 from fun _ _ _ _ _ => rfl).u _) (fun z => absurd z hne), fun z => absurd z hne, hf.u 0 20 (by omega) _⟩
set_option maxRecDepth 20000 in
theorem tA_X9_readClause {l : Launch} {X : XT} {d Lz : Nat} {w : Nat → Nat → Nat → Nat → Int32} {n : Nat} {t : Nat → Nat} (hn : n ≤ 240) (ht : ∀ q, q < n → t q < 256) (P : PS) (ha : P.1 < n) (hF0 : P.2.1.1 = 0) (hB : P.2.2.np ≤ 7 ∧ P.2.2.nt ≤ 12 ∧ P.2.2.no ≤ 4) (hz : whyW (t P.1) P.2.2 = 0) (w1 : WF) (h0 : (bodP t n (t P.1) (P.1 + 1, P.2)).2.1.1 = 0) (h1 : FM w1 n t (bodP t n (t P.1) (P.1 + 1, P.2)).1 (bodP t n (t P.1) (P.1 + 1, P.2)).2.1) (hD1 : DM w1 (bodP t n (t P.1) (P.1 + 1, P.2)).2.2 ((bodP t n (t P.1) (P.1 + 1, P.2)).2.2.np * 3)) (hf : frG w w1) (L1 L2 : Option AV) : WP l X (d + 5) md_X9_readClause (122, [some (.inr (.inr (9, 0, 0))), L1, L2], [], mk Lz w1) (fun v M' => v = none ∧ ∃ w', M' = mk Lz w' ∧ FM w' n t (claP t n P).1 (claP t n P).2.1 ∧ ((claP t n P).2.1.1 = 0 → DM w' (claP t n P).2.2 ((claP t n P).2.2.np * 3)) ∧ frG w w') := by
  have hA := (bodP_at (t := t) (c := t P.1) (P := (P.1 + 1, P.2)) ha).2
  refine x_aload_n (pc' := 123) rfl rfl rfl (x_invI1 (pc' := 126) rfl rfl rfl (c_X9_fine (bodP t n (t P.1) (P.1 + 1, P.2)).2.1 (by omega) h1.2.1) ?_)
  refine x_if_eq (pc' := 129) rfl rfl (fun h126 => absurd h126 (by rw [dT h0]; decide)) (fun h126 => ?_)
  refine x_aload_n (pc' := 130) rfl rfl rfl (x_invQ1 (pc' := 133) rfl rfl rfl (c_X9_here hn ht _ hA h1.1 (h1.2.2.2 h0)) (fun vq Mq hq130 => ?_))
  obtain ⟨rfl, w2, rfl, h20, hf2⟩ := hq130
  have hT2 := FM_H (b := skp t n (bodP t n (t P.1) (P.1 + 1, P.2)).1) h1 hf2 (fun _ => h20)
  show WP l X _ md_X9_readClause (133, _, [_], _) _
  refine x_bipush (pc' := 135) rfl rfl ?_
  refine x_icmp_eq (pc' := 138) rfl rfl (fun h135 => ?_) (fun h135 => ?_)
  · have hx : nxt t n (bodP t n (t P.1) (P.1 + 1, P.2)).1 59 = true := (hr_c ht (by decide)).mp h135
    refine x_aload_n (pc' := 148) rfl rfl rfl (x_dup (pc' := 149) rfl rfl rfl (x_getI (pc' := 152) rfl rfl rfl ?_))
    rw [h20]
    refine x_iconst (pc' := 153) rfl rfl (x_iaddN (pc' := 154) rfl rfl (x_putI (pc' := 157) rfl rfl rfl ?_))
    refine x_vret rfl rfl ?_
    rw [claP_0 hz]
    have e1 : nxA t n (bodP t n (t P.1) (P.1 + 1, P.2)).1 59 = skp t n (bodP t n (t P.1) (P.1 + 1, P.2)).1 + 1 := by unfold nxA; rw [hx]; rfl
    have e2 : sgF t n (bodP t n (t P.1) (P.1 + 1, P.2)).1 (bodP t n (t P.1) (P.1 + 1, P.2)).2.1 = (bodP t n (t P.1) (P.1 + 1, P.2)).2.1 := by unfold sgF; rw [hx]; rfl
    rw [e1, e2]
    exact ⟨rfl, _, rfl, FM_H (w := w2) hT2 ((show frH w2 w2 from fun _ _ _ _ _ => rfl).u _) (fun _ => u4_self _ _ _ _ _ _), fun _ => DM_Z (w := w2) ((frZ.rf w2).u 20 (by omega) _) (DM_Z hf2.z hD1), (hf.tr hf2.z.r).u 0 20 (by omega) _⟩
  · refine x_aload_n (pc' := 139) rfl rfl rfl (x_iconst (pc' := 140) rfl rfl (x_aload_n (pc' := 141) rfl rfl rfl (x_getI (pc' := 144) rfl rfl rfl ?_)))
    rw [h20]
    refine x_invQ3 (pc' := 147) rfl rfl rfl rfl rfl (c_X9_wrong (skp t n (bodP t n (t P.1) (P.1 + 1, P.2)).1) 0 1 (skp t n (bodP t n (t P.1) (P.1 + 1, P.2)).1) (by decide) (by omega) hT2) (fun vq Mq hq144 => ?_)
    obtain ⟨rfl, w3, rfl, h4, hf4⟩ := hq144
    show WP l X _ md_X9_readClause (147, _, [], _) _
    have hx : nxt t n (bodP t n (t P.1) (P.1 + 1, P.2)).1 59 = false := by
      cases y : nxt t n (bodP t n (t P.1) (P.1 + 1, P.2)).1 59 with
      | false => rfl
      | true => exact absurd ((hr_c ht (by decide)).mpr y) h135
    refine x_aload_n (pc' := 148) rfl rfl rfl (x_dup (pc' := 149) rfl rfl rfl (x_getI (pc' := 152) rfl rfl rfl (x_iconst (pc' := 153) rfl rfl (x_iadd (pc' := 154) rfl rfl (x_putI (pc' := 157) rfl rfl rfl ?_)))))
    refine x_vret rfl rfl ?_
    rw [claP_0 hz]
    have e2 : sgF t n (bodP t n (t P.1) (P.1 + 1, P.2)).1 (bodP t n (t P.1) (P.1 + 1, P.2)).2.1 = blm (bodP t n (t P.1) (P.1 + 1, P.2)).2.1 1 (skp t n (bodP t n (t P.1) (P.1 + 1, P.2)).1) := by unfold sgF; rw [hx]; rfl
    rw [e2]
    have hne : ¬ (blm (bodP t n (t P.1) (P.1 + 1, P.2)).2.1 1 (skp t n (bodP t n (t P.1) (P.1 + 1, P.2)).1)).1 = 0 := blm_0 (by decide)
    exact ⟨rfl, _, rfl, FM_H (w := w3) (FM_b (b := 0) hne h4) ((show frH w3 w3 from fun _ _ _ _ _ => rfl).u _) (fun z => absurd z hne), fun z => absurd z hne, ((hf.tr hf2.z.r).tr hf4.r).u 0 20 (by omega) _⟩
theorem tC_X9_readClause {l : Launch} {X : XT} {d Lz : Nat} {w : Nat → Nat → Nat → Nat → Int32} {n : Nat} {t : Nat → Nat} (hn : n ≤ 240) (ht : ∀ q, q < n → t q < 256) (P : PS) (ha : P.1 < n) (hF0 : P.2.1.1 = 0) (hB : P.2.2.np ≤ 7 ∧ P.2.2.nt ≤ 12 ∧ P.2.2.no ≤ 4) (hz : whyW (t P.1) P.2.2 = 0) (w1 : WF) (h1 : FM w1 n t (bodP t n (t P.1) (P.1 + 1, P.2)).1 (bodP t n (t P.1) (P.1 + 1, P.2)).2.1) (hD1 : (bodP t n (t P.1) (P.1 + 1, P.2)).2.1.1 = 0 → DM w1 (bodP t n (t P.1) (P.1 + 1, P.2)).2.2 ((bodP t n (t P.1) (P.1 + 1, P.2)).2.2.np * 3)) (hf : frG w w1) (L1 L2 : Option AV) : WP l X (d + 5) md_X9_readClause (122, [some (.inr (.inr (9, 0, 0))), L1, L2], [], mk Lz w1) (fun v M' => v = none ∧ ∃ w', M' = mk Lz w' ∧ FM w' n t (claP t n P).1 (claP t n P).2.1 ∧ ((claP t n P).2.1.1 = 0 → DM w' (claP t n P).2.2 ((claP t n P).2.2.np * 3)) ∧ frG w w') := by
  by_cases h0 : (bodP t n (t P.1) (P.1 + 1, P.2)).2.1.1 = 0
  · exact tA_X9_readClause hn ht P ha hF0 hB hz w1 h0 h1 (hD1 h0) hf L1 L2
  · have e := claP_F hz h0
    exact tB_X9_readClause hn ht P ha hF0 hB _ w1 (by rw [e]; exact h0) (by rw [e]; exact h1) hf L1 L2
theorem tD_X9_readClause {l : Launch} {X : XT} {d Lz : Nat} {w : Nat → Nat → Nat → Nat → Int32} {n : Nat} {t : Nat → Nat} (hn : n ≤ 240) (ht : ∀ q, q < n → t q < 256) (P : PS) (ha : P.1 < n) (hF0 : P.2.1.1 = 0) (hB : P.2.2.np ≤ 7 ∧ P.2.2.nt ≤ 12 ∧ P.2.2.no ≤ 4) (k : Nat) (hk : whyW (t P.1) P.2.2 = k) (hk0 : ¬ k = 0) (b : Nat) (w1 : WF) (h1 : FM w1 n t b (blm P.2.1 k P.1)) (hf : frG w w1) (L1 L2 : Option AV) : WP l X (d + 5) md_X9_readClause (122, [some (.inr (.inr (9, 0, 0))), L1, L2], [], mk Lz w1) (fun v M' => v = none ∧ ∃ w', M' = mk Lz w' ∧ FM w' n t (claP t n P).1 (claP t n P).2.1 ∧ ((claP t n P).2.1.1 = 0 → DM w' (claP t n P).2.2 ((claP t n P).2.2.np * 3)) ∧ frG w w') := by
  have e : (claP t n P).2.1 = blm P.2.1 k P.1 := by rw [claP_n (by omega), hk]
  exact tB_X9_readClause hn ht P ha hF0 hB b w1 (by rw [e]; exact blm_0 hk0) (by rw [e]; exact h1) hf L1 L2
theorem DM_m {w : WF} {m m2 : Nat} {D : Dr} (e : m2 = m) (h : DM w D m) : DM w D m2 := by rw [e]; exact h
set_option maxRecDepth 20000 in
theorem r_X9_readClause {l : Launch} {X : XT} {d Lz : Nat} {w : Nat → Nat → Nat → Nat → Int32} {n : Nat} {t : Nat → Nat} (hn : n ≤ 240) (ht : ∀ q, q < n → t q < 256) (P : PS) (ha : P.1 < n) (hF0 : P.2.1.1 = 0) (hB : P.2.2.np ≤ 7 ∧ P.2.2.nt ≤ 12 ∧ P.2.2.no ≤ 4) (w1 : WF) (hk : P.2.2.lw = -1 → t P.1 = 107) (h : FM w1 n t (P.1 + 1) P.2.1) (hD : DM w1 P.2.2 (P.2.2.np * 3)) (hf : frG w w1) : WP l X (d + 5) md_X9_readClause (41, [some (.inr (.inr (9, 0, 0))), some (.inl (nI (t P.1))), some (.inl (nI P.1))], [], mk Lz w1) (fun v M' => v = none ∧ ∃ w', M' = mk Lz w' ∧ FM w' n t (claP t n P).1 (claP t n P).2.1 ∧ ((claP t n P).2.1.1 = 0 → DM w' (claP t n P).2.2 ((claP t n P).2.2.np * 3)) ∧ frG w w') := by
  refine x_iload_n (pc' := 42) rfl rfl rfl ?_
  refine x_lswG rfl ?_
  refine sw_c (fun h42_0 => ?_) (fun n42_0 => ?_)
  · have ec : t P.1 = 100 := (nI_eq (by have := ht _ ha; omega) (by omega)).mp h42_0
    have hlw : ¬ P.2.2.lw = -1 := fun z => absurd (hk z) (by omega)
    by_cases hl : P.2.2.nt = 0
    · have hw : whyW (t P.1) P.2.2 = 0 := by rw [ec]; unfold whyW; rw [if_neg (by decide), if_neg hlw, if_neg (by decide), if_pos rfl, if_pos (by omega)]
      refine x_aload_n (pc' := 101) rfl rfl rfl (x_iload_n (pc' := 102) rfl rfl rfl (x_invQ2 (pc' := 105) rfl rfl rfl rfl (c_X9_readDays hn ht (P.2.2.np * 3) (P.1 + 1, P.2) ha hF0 _ hl h hD) (fun vq Mq hq102 => ?_)))
      obtain ⟨rfl, w3, rfl, h3, hf3⟩ := hq102
      show WP l X _ md_X9_readClause (105, _, [], _) _
      refine x_goto rfl ?_
      rcases h3 with ⟨h3, hD3⟩ | ⟨h3, hx, h5⟩
      · refine tC_X9_readClause hn ht P ha hF0 hB hw w3 ?_ ?_ (hf.tr hf3) _ _
        · rw [ec]; exact h3
        · rw [ec]; exact fun z => DM_m (show _ = _ by show (turP t n 12 (P.1 + 1, P.2)).2.2.np * 3 = _; rw [turP_np]) (hD3 z)
      · have hy : nxt t n (bodP t n (t P.1) (P.1 + 1, P.2)).1 59 = false := by rw [ec]; exact nxt_f2 (fun z => absurd ((nxt_lt hx).2.symm.trans z) (by decide))
        have e : (claP t n P).2.1 = (1, nI (skp t n (turP t n 12 (P.1 + 1, P.2)).1)) := by
          rw [claP_0 hw]; show sgF t n (bodP t n (t P.1) (P.1 + 1, P.2)).1 (bodP t n (t P.1) (P.1 + 1, P.2)).2.1 = _; unfold sgF; rw [hy]; show blm (bodP t n (t P.1) (P.1 + 1, P.2)).2.1 1 (skp t n (bodP t n (t P.1) (P.1 + 1, P.2)).1) = _; rw [ec]; exact blm_z h3
        exact tB_X9_readClause hn ht P ha hF0 hB n w3 (by rw [e]; exact (by decide : ¬ (1 : Nat) = 0)) (by rw [e]; exact h5) (hf.tr hf3) _ _
    · have hw : whyW (t P.1) P.2.2 = 3 := by rw [ec]; unfold whyW; rw [if_neg (by decide), if_neg hlw, if_neg (by decide), if_pos rfl, if_neg (by omega)]
      refine x_aload_n (pc' := 101) rfl rfl rfl (x_iload_n (pc' := 102) rfl rfl rfl (x_invQ2 (pc' := 105) rfl rfl rfl rfl (b_X9_readDays hn ht (P.2.2.np * 3) (P.1 + 1, P.2) ha hF0 P.1 (by show 0 < P.2.2.nt ∧ P.2.2.nt ≤ 12; omega) h hD) (fun vq Mq hq102 => ?_)))
      obtain ⟨rfl, w3, rfl, h3, hf3⟩ := hq102
      show WP l X _ md_X9_readClause (105, _, [], _) _
      refine x_goto rfl ?_
      exact tD_X9_readClause hn ht P ha hF0 hB 3 hw (by decide) _ w3 h3 (hf.tr hf3) _ _
  refine sw_c (fun h42_1 => ?_) (fun n42_1 => ?_)
  · have ec : t P.1 = 107 := (nI_eq (by have := ht _ ha; omega) (by omega)).mp h42_1
    by_cases hl : P.2.2.lw = -1
    · have hw : whyW (t P.1) P.2.2 = 0 := by rw [ec]; unfold whyW; rw [if_pos rfl, if_pos hl]
      refine x_aload_n (pc' := 85) rfl rfl rfl (x_iload_n (pc' := 86) rfl rfl rfl (x_invQ2 (pc' := 89) rfl rfl rfl rfl (c_X9_readLaw hn ht (P.2.2.np * 3) (P.1 + 1, P.2) ha hF0 _ hl h hD) (fun vq Mq hq86 => ?_)))
      obtain ⟨rfl, w3, rfl, h3, hD3, hf3⟩ := hq86
      show WP l X _ md_X9_readClause (89, _, [], _) _
      refine x_goto rfl ?_
      refine tC_X9_readClause hn ht P ha hF0 hB hw w3 ?_ ?_ (hf.tr hf3) _ _
      · rw [ec]; exact h3
      · rw [ec]; exact fun z => hD3 z
    · have hw : whyW (t P.1) P.2.2 = 3 := by rw [ec]; unfold whyW; rw [if_pos rfl, if_neg hl]
      refine x_aload_n (pc' := 85) rfl rfl rfl (x_iload_n (pc' := 86) rfl rfl rfl (x_invQ2 (pc' := 89) rfl rfl rfl rfl (b_X9_readLaw hn ht (P.2.2.np * 3) (P.1 + 1, P.2) ha hF0 P.1 hl h hD) (fun vq Mq hq86 => ?_)))
      obtain ⟨rfl, w3, rfl, h3, hf3⟩ := hq86
      show WP l X _ md_X9_readClause (89, _, [], _) _
      refine x_goto rfl ?_
      exact tD_X9_readClause hn ht P ha hF0 hB 3 hw (by decide) _ w3 h3 (hf.tr hf3) _ _
  refine sw_c (fun h42_2 => ?_) (fun n42_2 => ?_)
  · have ec : t P.1 = 111 := (nI_eq (by have := ht _ ha; omega) (by omega)).mp h42_2
    have hlw : ¬ P.2.2.lw = -1 := fun z => absurd (hk z) (by omega)
    by_cases hl : P.2.2.no < 4
    · have hw : whyW (t P.1) P.2.2 = 0 := by rw [ec]; unfold whyW; rw [if_neg (by decide), if_neg hlw, if_neg (by decide), if_neg (by decide), if_pos rfl, if_pos hl]
      refine x_aload_n (pc' := 109) rfl rfl rfl (x_iload_n (pc' := 110) rfl rfl rfl (x_invQ2 (pc' := 113) rfl rfl rfl rfl (c_X9_readOffice hn ht (P.2.2.np * 3) (P.1 + 1, P.2) ha hF0 _ hl h hD) (fun vq Mq hq110 => ?_)))
      obtain ⟨rfl, w3, rfl, h3, hD3, hf3⟩ := hq110
      show WP l X _ md_X9_readClause (113, _, [], _) _
      refine x_goto rfl ?_
      refine tC_X9_readClause hn ht P ha hF0 hB hw w3 ?_ ?_ (hf.tr hf3) _ _
      · rw [ec]; exact h3
      · rw [ec]; exact fun z => hD3 z
    · have hw : whyW (t P.1) P.2.2 = 3 := by rw [ec]; unfold whyW; rw [if_neg (by decide), if_neg hlw, if_neg (by decide), if_neg (by decide), if_pos rfl, if_neg hl]
      refine x_aload_n (pc' := 109) rfl rfl rfl (x_iload_n (pc' := 110) rfl rfl rfl (x_invQ2 (pc' := 113) rfl rfl rfl rfl (b_X9_readOffice hn ht (P.2.2.np * 3) (P.1 + 1, P.2) ha hF0 P.1 (by show P.2.2.no = 4; omega) h hD) (fun vq Mq hq110 => ?_)))
      obtain ⟨rfl, w3, rfl, h3, hf3⟩ := hq110
      show WP l X _ md_X9_readClause (113, _, [], _) _
      refine x_goto rfl ?_
      exact tD_X9_readClause hn ht P ha hF0 hB 3 hw (by decide) _ w3 h3 (hf.tr hf3) _ _
  refine sw_c (fun h42_3 => ?_) (fun n42_3 => ?_)
  · have ec : t P.1 = 112 := (nI_eq (by have := ht _ ha; omega) (by omega)).mp h42_3
    have hlw : ¬ P.2.2.lw = -1 := fun z => absurd (hk z) (by omega)
    by_cases hl : P.2.2.np < 7
    · have hw : whyW (t P.1) P.2.2 = 0 := by rw [ec]; unfold whyW; rw [if_neg (by decide), if_neg hlw, if_pos rfl, if_pos hl]
      refine x_aload_n (pc' := 93) rfl rfl rfl (x_iload_n (pc' := 94) rfl rfl rfl (x_invQ2 (pc' := 97) rfl rfl rfl rfl (c_X9_readPerson hn ht (P.2.2.np * 3) (P.1 + 1, P.2) ha hF0 _ hl h hD) (fun vq Mq hq94 => ?_)))
      obtain ⟨rfl, w3, rfl, h3, hD3, hf3⟩ := hq94
      show WP l X _ md_X9_readClause (97, _, [], _) _
      refine x_goto rfl ?_
      refine tC_X9_readClause hn ht P ha hF0 hB hw w3 ?_ ?_ (hf.tr hf3) _ _
      · rw [ec]; exact h3
      · rw [ec]; exact fun z => DM_m (show _ = _ by show (perL t n (P.1 + 1, P.2) 3).2.2.np.succ * 3 = P.2.2.np * 3 + 3; rw [perL_np]; exact Nat.succ_mul _ 3) (hD3 z)
    · have hw : whyW (t P.1) P.2.2 = 3 := by rw [ec]; unfold whyW; rw [if_neg (by decide), if_neg hlw, if_pos rfl, if_neg hl]
      refine x_aload_n (pc' := 93) rfl rfl rfl (x_iload_n (pc' := 94) rfl rfl rfl (x_invQ2 (pc' := 97) rfl rfl rfl rfl (b_X9_readPerson hn ht (P.2.2.np * 3) (P.1 + 1, P.2) ha hF0 P.1 (by show P.2.2.np = 7; omega) h hD) (fun vq Mq hq94 => ?_)))
      obtain ⟨rfl, w3, rfl, h3, hf3⟩ := hq94
      show WP l X _ md_X9_readClause (97, _, [], _) _
      refine x_goto rfl ?_
      exact tD_X9_readClause hn ht P ha hF0 hB 3 hw (by decide) _ w3 h3 (hf.tr hf3) _ _
  refine sw_n ?_
  have hlw : ¬ P.2.2.lw = -1 := fun z => n42_1 (by rw [hk z])
  have hw : whyW (t P.1) P.2.2 = 1 := by unfold whyW; rw [if_neg (fun z => n42_1 (by rw [z])), if_neg hlw, if_neg (fun z => n42_3 (by rw [z])), if_neg (fun z => n42_0 (by rw [z])), if_neg (fun z => n42_2 (by rw [z]))]
  refine x_aload_n (pc' := 117) rfl rfl rfl (x_iconst (pc' := 118) rfl rfl (x_iload_n (pc' := 119) rfl rfl rfl (x_invQ3 (pc' := 122) rfl rfl rfl rfl rfl (c_X9_wrong (P.1 + 1) 0 1 P.1 (by decide) (by omega) h) (fun vq Mq hq119 => ?_))))
  obtain ⟨rfl, w3, rfl, h3, hf3⟩ := hq119
  show WP l X _ md_X9_readClause (122, _, [], _) _
  exact tD_X9_readClause hn ht P ha hF0 hB 1 hw (by decide) _ w3 h3 (hf.tr hf3.r) _ _
set_option maxRecDepth 20000 in
theorem c_X9_readClause {l : Launch} {X : XT} {d Lz : Nat} {w : Nat → Nat → Nat → Nat → Int32} {n : Nat} {t : Nat → Nat} (hn : n ≤ 240) (ht : ∀ q, q < n → t q < 256) (P : PS) (ha : P.1 < n) (hF0 : P.2.1.1 = 0) (hB : P.2.2.np ≤ 7 ∧ P.2.2.nt ≤ 12 ∧ P.2.2.no ≤ 4) (hsk : skp t n P.1 = P.1) (h : FM w n t P.1 P.2.1) (hD : DM w P.2.2 (P.2.2.np * 3)) : WP l X (d + 5) md_X9_readClause (en md_X9_readClause [.inr (.inr (9, 0, 0))] (mk Lz w)) (fun v M' => v = none ∧ ∃ w', M' = mk Lz w' ∧ FM w' n t (claP t n P).1 (claP t n P).2.1 ∧ ((claP t n P).2.1.1 = 0 → DM w' (claP t n P).2.2 ((claP t n P).2.2.np * 3)) ∧ frG w w') := by
  show WP l X _ md_X9_readClause (0, [some (.inr (.inr (9, 0, 0))), none, none], [], _) _
  refine x_aload_n (pc' := 1) rfl rfl rfl (x_invQ1 (pc' := 4) rfl rfl rfl (c_X9_here hn ht P.1 (by omega) h.1 (h.2.2.2 hF0)) (fun vq Mq hq1 => ?_))
  obtain ⟨rfl, w1, rfl, h20, hf1⟩ := hq1
  have ew : hrV t n P.1 = nI (t P.1) := by unfold hrV; rw [hsk, if_pos ha]
  rw [hsk] at h20
  rw [ew]
  show WP l X _ md_X9_readClause (4, _, [_], _) _
  refine x_istore_n1 (pc' := 5) rfl rfl rfl (x_aload_n (pc' := 6) rfl rfl rfl (x_getI (pc' := 9) rfl rfl rfl ?_))
  rw [h20]
  refine x_istore_n2 (pc' := 10) rfl rfl rfl (x_aload_n (pc' := 11) rfl rfl rfl (x_dup (pc' := 12) rfl rfl rfl (x_getI (pc' := 15) rfl rfl rfl ?_)))
  rw [h20]
  refine x_iconst (pc' := 16) rfl rfl (x_iaddN (pc' := 17) rfl rfl (x_putI (pc' := 20) rfl rfl rfl ?_))
  have hb := ht _ ha
  have hT : FM (u4 w1 9 0 0 20 (nI (P.1 + 1))) n t (P.1 + 1) P.2.1 := FM_H h (hf1.u _) (fun _ => u4_self _ _ _ _ _ _)
  have hD1 : DM (u4 w1 9 0 0 20 (nI (P.1 + 1))) P.2.2 (P.2.2.np * 3) := DM_Z (hf1.u _).z hD
  refine x_aload_n (pc' := 21) rfl rfl rfl (x_getI (pc' := 24) rfl rfl rfl ?_)
  rw [u4_k (by omega), hf1 9 0 0 23 (by omega), hD.1]
  refine x_iconst (pc' := 25) rfl rfl ?_
  refine x_icmp_ne (pc' := 28) rfl rfl (fun h25 => ?_) (fun h25 => ?_)
  · refine x_iload_n (pc' := 29) rfl rfl rfl (x_bipush (pc' := 31) rfl rfl ?_)
    refine x_icmp_eqN (pc' := 34) rfl rfl (by omega) (by omega) (fun h31 => ?_) (fun h31 => ?_)
    · exact r_X9_readClause hn ht P ha hF0 hB _ (fun z => h31) hT hD1 (hf1.u _).z.r
    · refine x_aload_n (pc' := 35) rfl rfl rfl (x_iconst (pc' := 36) rfl rfl (x_iload_n (pc' := 37) rfl rfl rfl (x_invQ3 (pc' := 40) rfl rfl rfl rfl rfl (c_X9_wrong (P.1 + 1) 0 1 P.1 (by decide) (by omega) hT) (fun vq Mq hq37 => ?_))))
      obtain ⟨rfl, w3, rfl, h3, hf3⟩ := hq37
      show WP l X _ md_X9_readClause (40, _, [], _) _
      refine x_vret rfl rfl ?_
      have hw : whyW (t P.1) P.2.2 = 1 := by unfold whyW; rw [if_neg h31, if_pos h25]
      have e : (claP t n P).2.1 = blm P.2.1 1 P.1 := by rw [claP_n (by omega), hw]
      have hne : ¬ (claP t n P).2.1.1 = 0 := by rw [e]; exact blm_0 (by decide)
      exact ⟨rfl, _, rfl, FM_b hne (by rw [e]; exact h3), fun z => absurd z hne, (hf1.u _).z.r.tr hf3.r⟩
  · exact r_X9_readClause hn ht P ha hF0 hB _ (fun z => absurd z h25) hT hD1 (hf1.u _).z.r
