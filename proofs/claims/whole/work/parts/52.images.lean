/-! images -/
set_option maxRecDepth 20000 in
theorem C_X8_keep {l : Launch} {X : XT} {d Lz : Nat} {w : WF} {a : AS} (h : CRel w a) (hV : AVl a) (i : Int32) : okC l X (d + 7) Lz md_X8_keep [.inl (i)] w ((f_keep a i).1) ((f_keep a i).2) := by
  have hr := h
  obtain ⟨r1, r2, r3, r4, r5, r6, r7, r8, r9, r10⟩ := h
  have hK := hV.1
  have hv7 := hK.1
  have hv4 := hK.2.1
  have hs := hV.2.1
  have hnp := r2.2.2.1
  show WP l X _ md_X8_keep (0, [some (.inr (.inr (8, 0, 0))), some (.inl (i))], [], _) _
  refine x_iload_n (pc' := 1) rfl rfl rfl (x_iconst (pc' := 2) rfl rfl (x_iconst (pc' := 3) rfl rfl (x_invS3 (pc' := 6) rfl rfl rfl rfl rfl rfl (c_X8_isWithin _ _ _) ?_)))
  refine x_if_ne (pc' := 9) rfl rfl (fun h6 => ?_) (fun h6 => ?_)
  · refine x_ldc (pc' := 11) rfl rfl ?_
    refine x_iret rfl rfl ?_
    exact ok_id (by unfold f_keep; rw [bI_eq0.mp h6]; rfl) (fun _ _ _ _ _ => rfl) (by unfold f_keep; rw [bI_eq0.mp h6]; exact hr)
  · obtain ⟨m, -, hm, rfl⟩ := in_num (by omega) (bq h6) (by omega)
    have hz : w 6 0 0 8 = 0 ∨ w 6 0 0 8 = 1 := by rw [r3.2.2.2.2.2.1]; exact hs.1.1
    refine x_aload_n (pc' := 13) rfl rfl rfl (x_getR (pc' := 16) (t := (8, _, 6)) rfl rfl rfl (x_iload_n (pc' := 17) rfl rfl rfl (x_aald (pc' := 18) (N := 2) rfl rfl rfl (by decide) rfl rfl (by omega) (by decide) (x_iconst (pc' := 19) rfl rfl (x_putZ (pc' := 22) rfl rfl rfl (by decide) ?_)))))
    refine x_aload_n (pc' := 23) rfl rfl rfl (x_getR (pc' := 26) (t := (8, _, 6)) rfl rfl rfl (x_iload_n (pc' := 27) rfl rfl rfl (x_aald (pc' := 28) (N := 2) rfl rfl rfl (by decide) rfl rfl (by omega) (by decide) (x_getR (pc' := 31) (t := (6, _, 0)) rfl rfl rfl (x_aload_n (pc' := 32) rfl rfl rfl ?_)))))
    refine x_getR (pc' := 35) (t := (6, 0, 0)) rfl rfl rfl (x_invQ2 (pc' := 38) rfl rfl rfl rfl (c_X6_copyFrom (32 + m) 0 (by omega) (by rw [u4_ne (by intro z; cases z)]; exact hz)) (fun vq Mq hq35 => ?_))
    obtain ⟨rfl, w2, rfl, hc⟩ := hq35
    show WP l X _ md_X8_keep (38, _, [], _) _
    refine x_aload_n (pc' := 39) rfl rfl rfl (x_getR (pc' := 42) (t := (8, _, 6)) rfl rfl rfl (x_iload_n (pc' := 43) rfl rfl rfl (x_aald (pc' := 44) (N := 2) rfl rfl rfl (by decide) rfl rfl (by omega) (by decide) (x_aload_n (pc' := 45) rfl rfl rfl (x_getI (pc' := 48) rfl rfl rfl ?_)))))
    refine x_putI (pc' := 51) rfl rfl rfl (x_aload_n (pc' := 52) rfl rfl rfl (x_getR (pc' := 55) (t := (3, 0, 0)) rfl rfl rfl (x_iconst (pc' := 56) rfl rfl (x_putI (pc' := 59) rfl rfl rfl (x_iconst (pc' := 60) rfl rfl ?_)))))
    refine x_iret rfl rfl ?_
    have e : ∀ c i o q, ¬ (c = 2 ∧ i = m ∧ o = 0 ∧ (q = 1 ∨ q = 2)) → ¬ (c = 6 ∧ i = 32 + m) → ¬ (c = 3 ∧ i = 0 ∧ o = 0 ∧ q = 2) → u4 (u4 w2 2 m 0 1 (w2 8 0 0 10)) 3 0 0 2 (nI 0) c i o q = w c i o q := fun c i o q h1 h2 h3 => by
      have e1 : u4 (u4 w2 2 m 0 1 (w2 8 0 0 10)) 3 0 0 2 (nI 0) c i o q = w2 c i o q := by unfold u4; rw [if_neg (by omega), if_neg (by omega)]
      rw [e1, hc.2 c i o q h2]; unfold u4; rw [if_neg (by omega)]
    refine ok_id (by unfold f_keep; rw [bq h6]; rfl) (fun c i o q hc => e c i o q (by omega) (by omega) (by omega)) ?_
    unfold f_keep; rw [bq h6, ix_nI (by omega)]
    obtain ⟨p1, t, p2, p3, p4⟩ := r4
    have hrc : RC (u4 (u4 w2 2 m 0 1 (w2 8 0 0 10)) 3 0 0 2 (nI 0)) a.K (32 + m) a.s := by
      refine RC_cg (w := w2) (fun o q => by rw [u4_ne (by intro z; cases z), u4_ne (by intro z; cases z)]) ?_
      exact RC_cpy (RC_cg (fun o q => by rw [u4_ne (by intro z; cases z)]) r3) hc
    refine ⟨D2_cg (fun q _ => e 8 0 0 q (by omega) (by omega) (by omega)) r1, KX_cg (fun i o q => e 4 i o q (by omega) (by omega) (by omega)) (e 8 0 0 8 (by omega) (by omega) (by omega)) r2, RC_cg (fun o q => e 6 0 o q (by omega) (by omega) (by omega)) r3, ⟨u4_self _ _ _ _ _ _, t, p2, (e 3 0 0 1 (by omega) (by omega) (by omega)).trans p3, fun q hq => absurd hq (by show ¬ q < 0; omega)⟩, fun i hi => ?_, (e 8 0 0 10 (by omega) (by omega) (by omega)).trans r6, SeC_cg (fun o q _ => e 5 0 o q (by omega) (by omega) (by omega)) r7, BoC_cg (fun o q => e 0 0 o q (by omega) (by omega) (by omega)) r8, TxC_cg (fun o q => e 7 0 o q (by omega) (by omega) (by omega)) r9, (e 7 0 0 4 (by omega) (by omega) (by omega)).trans r10⟩
    show _ = bI (if i = m then true else a.kp i) ∧ ((if i = m then true else a.kp i) = true → _ = nI (if i = m then a.sd else a.is i) ∧ RC _ a.K (32 + i) (if i = m then a.s else a.im i))
    by_cases z : i = m
    · subst z
      rw [if_pos rfl, if_pos rfl, if_pos rfl]
      refine ⟨?_, fun _ => ⟨?_, hrc⟩⟩
      · rw [u4_ne (by intro z; cases z), u4_k (by omega), hc.2 2 i 0 2 (by omega), u4_self]; rfl
      · rw [u4_ne (by intro z; cases z), u4_self, hc.2 8 0 0 10 (by omega), u4_ne (by intro z; cases z)]; exact r6
    · rw [if_neg z, if_neg z, if_neg z]
      have hi2 := r5 i hi
      exact ⟨(e 2 i 0 2 (by omega) (by omega) (by omega)).trans hi2.1, fun hk => ⟨(e 2 i 0 1 (by omega) (by omega) (by omega)).trans (hi2.2 hk).1, RC_cg (fun o q => e 6 (32 + i) o q (by omega) (by omega) (by omega)) (hi2.2 hk).2⟩⟩
set_option maxRecDepth 20000 in
theorem C_X8_goBack {l : Launch} {X : XT} {d Lz : Nat} {w : WF} {a : AS} (h : CRel w a) (hV : AVl a) (i : Int32) : okC l X (d + 7) Lz md_X8_goBack [.inl (i)] w ((f_goBack a i).1) ((f_goBack a i).2) := by
  have hr := h
  obtain ⟨r1, r2, r3, r4, r5, r6, r7, r8, r9, r10⟩ := h
  have hK := hV.1
  have hv7 := hK.1
  have hv4 := hK.2.1
  have hs := hV.2.1
  have hnp := r2.2.2.1
  show WP l X _ md_X8_goBack (0, [some (.inr (.inr (8, 0, 0))), some (.inl (i))], [], _) _
  refine x_iload_n (pc' := 1) rfl rfl rfl (x_iconst (pc' := 2) rfl rfl (x_iconst (pc' := 3) rfl rfl (x_invS3 (pc' := 6) rfl rfl rfl rfl rfl rfl (c_X8_isWithin _ _ _) ?_)))
  refine x_if_ne (pc' := 9) rfl rfl (fun h6 => ?_) (fun h6 => ?_)
  · refine x_ldc (pc' := 11) rfl rfl ?_
    refine x_iret rfl rfl ?_
    exact ok_id (by unfold f_goBack; rw [bI_eq0.mp h6]; rfl) (fun _ _ _ _ _ => rfl) (by unfold f_goBack; rw [bI_eq0.mp h6]; exact hr)
  · obtain ⟨m, -, hm, rfl⟩ := in_num (by omega) (bq h6) (by omega)
    have hi2 := r5 m (by omega)
    refine x_aload_n (pc' := 13) rfl rfl rfl (x_getR (pc' := 16) (t := (8, _, 6)) rfl rfl rfl (x_iload_n (pc' := 17) rfl rfl rfl (x_aald (pc' := 18) (N := 2) rfl rfl rfl (by decide) rfl rfl (by omega) (by decide) (x_getI (pc' := 21) rfl rfl rfl ?_))))
    rw [hi2.1]
    refine x_if_ne (pc' := 24) rfl rfl (fun h21 => ?_) (fun h21 => ?_)
    · refine x_ldc (pc' := 26) rfl rfl ?_
      refine x_iret rfl rfl ?_
      exact ok_id (by unfold f_goBack; rw [bq h6, ix_nI (by omega), bI_eq0.mp h21]; rfl) (fun _ _ _ _ _ => rfl) (by unfold f_goBack; rw [bq h6, ix_nI (by omega), bI_eq0.mp h21]; exact hr)
    · have hk : a.kp m = true := bq h21
      have hrc := (hi2.2 hk).2
      have hsi := (hV.2.2.2.1 m (by omega) hk).1
      have hz : w 6 (32 + m) 0 8 = 0 ∨ w 6 (32 + m) 0 8 = 1 := by rw [hrc.2.2.2.2.2.1]; exact hsi.1.1
      refine x_aload_n (pc' := 28) rfl rfl rfl (x_getR (pc' := 31) (t := (6, 0, 0)) rfl rfl rfl (x_aload_n (pc' := 32) rfl rfl rfl (x_getR (pc' := 35) (t := (8, _, 6)) rfl rfl rfl (x_iload_n (pc' := 36) rfl rfl rfl (x_aald (pc' := 37) (N := 2) rfl rfl rfl (by decide) rfl rfl (by omega) (by decide) ?_)))))
      refine x_getR (pc' := 40) (t := (6, _, 0)) rfl rfl rfl (x_invQ2 (pc' := 43) rfl rfl rfl rfl (c_X6_copyFrom 0 (32 + m) (by omega) hz) (fun vq Mq hq40 => ?_))
      obtain ⟨rfl, w2, rfl, hc⟩ := hq40
      show WP l X _ md_X8_goBack (43, _, [], _) _
      refine x_aload_n (pc' := 44) rfl rfl rfl (x_aload_n (pc' := 45) rfl rfl rfl (x_getR (pc' := 48) (t := (8, _, 6)) rfl rfl rfl (x_iload_n (pc' := 49) rfl rfl rfl (x_aald (pc' := 50) (N := 2) rfl rfl rfl (by decide) rfl rfl (by omega) (by decide) (x_getI (pc' := 53) rfl rfl rfl ?_)))))
      refine x_putI (pc' := 56) rfl rfl rfl (x_aload_n (pc' := 57) rfl rfl rfl (x_getR (pc' := 60) (t := (3, 0, 0)) rfl rfl rfl (x_iconst (pc' := 61) rfl rfl (x_putI (pc' := 64) rfl rfl rfl (x_iconst (pc' := 65) rfl rfl ?_)))))
      refine x_iret rfl rfl ?_
      have e : ∀ c i o q, ¬ (c = 8 ∧ o = 0 ∧ q = 10) → ¬ (c = 6 ∧ i = 0) → ¬ (c = 3 ∧ i = 0 ∧ o = 0 ∧ q = 2) → u4 (u4 w2 8 0 0 10 (w2 2 m 0 1)) 3 0 0 2 (nI 0) c i o q = w c i o q := fun c i o q h1 h2 h3 => by
        have e1 : u4 (u4 w2 8 0 0 10 (w2 2 m 0 1)) 3 0 0 2 (nI 0) c i o q = w2 c i o q := by unfold u4; rw [if_neg (by omega), if_neg (by omega)]
        rw [e1, hc.2 c i o q h2]
      refine ok_id (by unfold f_goBack; rw [bq h6, ix_nI (by omega), hk]; rfl) (fun c i o q hc => e c i o q (by omega) (by omega) (by omega)) ?_
      unfold f_goBack; rw [bq h6, ix_nI (by omega), hk]
      obtain ⟨p1, t, p2, p3, p4⟩ := r4
      refine CRel_D hr (fun c i o q h1 h2 h3 h4 h5 h6 => e c i o q h6 (by omega) (by omega)) ?_ ⟨u4_self _ _ _ _ _ _, t, p2, (e 3 0 0 1 (by omega) (by omega) (by omega)).trans p3, fun q hq => absurd hq (by omega)⟩ ?_
      · exact RC_cg (w := w2) (fun o q => by rw [u4_ne (by intro z; cases z), u4_ne (by intro z; cases z)]) (RC_cpy hrc hc)
      · rw [u4_ne (by decide), u4_self, hc.2 2 m 0 1 (by omega)]; exact (hi2.2 hk).1
theorem enc_set {f : Nat → Bool} {m : Nat} (hm : m < 2) : enc f 2 ||| (nI 1 <<< (nI m &&& 31)) = enc (fun q => if q = m then true else f q) 2 := by
  rw [enc_one (n := 2) (by omega) hm, enc_or (by omega)]
  refine enc_congr 2 (fun p _ => ?_)
  by_cases z : p = m
  · rw [if_pos z, dT z]; simp
  · rw [if_neg z, dF z]; simp
set_option maxRecDepth 20000 in
theorem M_X9_keep {l : Launch} {X : XT} {d Lz : Nat} {w : WF} {a : AS} (h : MRel w a) (hV : AVl a) (i : Int32) : okM l X (d + 8) Lz md_X9_keep [.inl (i)] w ((f_keep a i).1) ((f_keep a i).2) := by
  have hr := h
  obtain ⟨r1, r2, r3, r4, r5, r6, r7, r8, r9⟩ := h
  have hK := hV.1
  have hv7 := hK.1
  have hv4 := hK.2.1
  have hs := hV.2.1
  have hnp := r1.2.2.1
  have hno := r1.2.2.2.2.1
  show WP l X _ md_X9_keep (0, [some (.inr (.inr (9, 0, 0))), some (.inl (i))], [], _) _
  refine x_iload_n (pc' := 1) rfl rfl rfl (x_iconst (pc' := 2) rfl rfl (x_iconst (pc' := 3) rfl rfl (x_invS3 (pc' := 6) rfl rfl rfl rfl rfl rfl (c_X9_in _ _ _) ?_)))
  refine x_if_ne (pc' := 9) rfl rfl (fun h6 => ?_) (fun h6 => ?_)
  · refine x_ldc (pc' := 11) rfl rfl ?_
    refine x_iret rfl rfl ?_
    exact ok_id (by unfold f_keep; rw [bI_eq0.mp h6]; rfl) (fun _ _ _ _ _ => rfl) (by unfold f_keep; rw [bI_eq0.mp h6]; exact hr)
  · obtain ⟨m, -, hm, rfl⟩ := in_num (by omega) (bq h6) (by omega)
    refine x_aload_n (pc' := 13) rfl rfl rfl (x_iconst (pc' := 14) rfl rfl (x_sipush (pc' := 17) rfl rfl (x_sipush (pc' := 20) rfl rfl (x_iload_n (pc' := 21) rfl rfl rfl (x_imulN (pc' := 22) rfl rfl ?_)))))
    refine x_iaddN (pc' := 23) rfl rfl (x_invQ3 (pc' := 26) rfl rfl rfl rfl rfl (c_X9_copyRow 0 (260 + 130 * m) (by omega) (by omega) (by omega)) (fun vq Mq hq23 => ?_))
    obtain ⟨rfl, w2, rfl, hc⟩ := hq23
    show WP l X _ md_X9_keep (26, _, [], _) _
    refine x_aload_n (pc' := 27) rfl rfl rfl (x_dup (pc' := 28) rfl rfl rfl (x_getI (pc' := 31) rfl rfl rfl ?_))
    rw [hc.1 9 0 0 10 (by omega), r4.1]
    refine x_iconst (pc' := 32) rfl rfl (x_iload_n (pc' := 33) rfl rfl rfl (x_ishl (pc' := 34) rfl rfl (x_ior (pc' := 35) rfl rfl ?_)))
    rw [enc_set (by omega)]
    refine x_putI (pc' := 38) rfl rfl rfl (x_aload_n (pc' := 39) rfl rfl rfl (x_iconst (pc' := 40) rfl rfl (x_putI (pc' := 43) rfl rfl rfl (x_iconst (pc' := 44) rfl rfl ?_))))
    refine x_iret rfl rfl ?_
    have e0 : ∀ q, q ≠ 9 → q ≠ 10 → u4 (u4 w2 9 0 0 10 (enc (fun q => if q = m then true else a.kp q) 2)) 9 0 0 9 (nI 0) 9 0 0 q = w 9 0 0 q := fun q h1 h2 => by rw [u4_k h1, u4_k h2]; exact hc.1 9 0 0 q (by omega)
    have eo : ∀ c i o q, ¬ (c = 9 ∧ i = 0 ∧ o = 0) → u4 (u4 w2 9 0 0 10 (enc (fun q => if q = m then true else a.kp q) 2)) 9 0 0 9 (nI 0) c i o q = w2 c i o q := fun c i o q h1 => by rw [u4_ne (ne3 h1), u4_ne (ne3 h1)]
    have e : ∀ o, 2 ≤ o → ∀ q, u4 (u4 w2 9 0 0 10 (enc (fun q => if q = m then true else a.kp q) 2)) 9 0 0 9 (nI 0) 9 0 o q = w 9 0 o q := fun o ho q => (eo 9 0 o q (by omega)).trans (hc.1 9 0 o q (by omega))
    have e1 : ∀ q, ¬ (260 + 130 * m ≤ q ∧ q < 260 + 130 * m + 130) → u4 (u4 w2 9 0 0 10 (enc (fun q => if q = m then true else a.kp q) 2)) 9 0 0 9 (nI 0) 9 0 1 q = w 9 0 1 q := fun q hq => (eo 9 0 1 q (by omega)).trans (hc.2.1 q hq)
    have e2 : ∀ q, q < 130 → u4 (u4 w2 9 0 0 10 (enc (fun q => if q = m then true else a.kp q) 2)) 9 0 0 9 (nI 0) 9 0 1 (260 + 130 * m + q) = w 9 0 1 (0 + q) := fun q hq => (eo 9 0 1 _ (by omega)).trans (hc.2.2 q hq)
    refine ok_id (by unfold f_keep; rw [bq h6]; rfl) (fun c i o q h9 => (eo c i o q (by omega)).trans (hc.1 c i o q (by omega))) ?_
    unfold f_keep; rw [bq h6, ix_nI (by omega)]
    refine ⟨?_, RR_cg (fun q h1 h2 => e1 q (by omega)) hK r2, ⟨u4_self _ _ _ _ _ _, fun q hq => absurd hq (by show ¬ q < 0; omega)⟩, ⟨by rw [u4_k (by omega), u4_self]; rfl, fun i hi hk => ?_⟩, (e1 129 (by omega)).trans r5, SeM_cg (e0 16 (by omega) (by omega)) (e 15 (by omega)) (e 16 (by omega)) r6, BoM_cg (e0 19 (by omega) (by omega)) (e 18 (by omega)) (e 19 (by omega)) r7, TxM_cg (e0 12 (by omega) (by omega)) (e 12 (by omega)) r8, (e0 13 (by omega) (by omega)).trans r9⟩
    · show KM _ a.K
      unfold KM
      rw [e0 4 (by omega) (by omega), e0 5 (by omega) (by omega), e0 6 (by omega) (by omega), e0 8 (by omega) (by omega), e0 7 (by omega) (by omega)]
      simp only [e 2 (by omega), e 3 (by omega), e 4 (by omega)]
      exact r1
    · change (if i = m then true else a.kp i) = true at hk
      show RR _ a.K _ (if i = m then a.s else a.im i) ∧ _ = nI (if i = m then a.sd else a.is i)
      by_cases z : i = m
      · subst z
        rw [if_pos rfl, if_pos rfl]
        exact ⟨RR_cp (fun q hq => e2 q (by omega)) hK r2, (e2 129 (by omega)).trans r5⟩
      · rw [if_neg z] at hk
        rw [if_neg z, if_neg z]
        have hi2 := r4.2 i hi hk
        exact ⟨RR_cg (fun q h1 h2 => e1 q (by omega)) hK hi2.1, (e1 _ (by omega)).trans hi2.2⟩
set_option maxRecDepth 20000 in
theorem M_X9_goBack {l : Launch} {X : XT} {d Lz : Nat} {w : WF} {a : AS} (h : MRel w a) (hV : AVl a) (i : Int32) : okM l X (d + 8) Lz md_X9_goBack [.inl (i)] w ((f_goBack a i).1) ((f_goBack a i).2) := by
  have hr := h
  obtain ⟨r1, r2, r3, r4, r5, r6, r7, r8, r9⟩ := h
  have hK := hV.1
  have hv7 := hK.1
  have hv4 := hK.2.1
  have hs := hV.2.1
  have hnp := r1.2.2.1
  have hno := r1.2.2.2.2.1
  show WP l X _ md_X9_goBack (0, [some (.inr (.inr (9, 0, 0))), some (.inl (i))], [], _) _
  refine x_iload_n (pc' := 1) rfl rfl rfl (x_iconst (pc' := 2) rfl rfl (x_iconst (pc' := 3) rfl rfl (x_invS3 (pc' := 6) rfl rfl rfl rfl rfl rfl (c_X9_in _ _ _) ?_)))
  refine x_if_ne (pc' := 9) rfl rfl (fun h6 => ?_) (fun h6 => ?_)
  · refine x_ldc (pc' := 11) rfl rfl ?_
    refine x_iret rfl rfl ?_
    exact ok_id (by unfold f_goBack; rw [bI_eq0.mp h6]; rfl) (fun _ _ _ _ _ => rfl) (by unfold f_goBack; rw [bI_eq0.mp h6]; exact hr)
  · obtain ⟨m, -, hm, rfl⟩ := in_num (by omega) (bq h6) (by omega)
    refine x_aload_n (pc' := 13) rfl rfl rfl (x_getI (pc' := 16) rfl rfl rfl ?_)
    rw [r4.1]
    refine x_iload_n (pc' := 17) rfl rfl rfl (x_invS2 (pc' := 20) rfl rfl rfl rfl rfl (c_X9_has _ _) ?_)
    rw [has_enc (by omega) (by omega)]
    refine x_if_ne (pc' := 23) rfl rfl (fun h20 => ?_) (fun h20 => ?_)
    · refine x_ldc (pc' := 25) rfl rfl ?_
      refine x_iret rfl rfl ?_
      exact ok_id (by unfold f_goBack; rw [bq h6, ix_nI (by omega), bI_eq0.mp h20]; rfl) (fun _ _ _ _ _ => rfl) (by unfold f_goBack; rw [bq h6, ix_nI (by omega), bI_eq0.mp h20]; exact hr)
    · have hk : a.kp m = true := bq h20
      have hi2 := r4.2 m (by omega) hk
      refine x_aload_n (pc' := 27) rfl rfl rfl (x_sipush (pc' := 30) rfl rfl (x_sipush (pc' := 33) rfl rfl (x_iload_n (pc' := 34) rfl rfl rfl (x_imulN (pc' := 35) rfl rfl (x_iaddN (pc' := 36) rfl rfl ?_)))))
      refine x_iconst (pc' := 37) rfl rfl (x_invQ3 (pc' := 40) rfl rfl rfl rfl rfl (c_X9_copyRow (260 + 130 * m) 0 (by omega) (by omega) (by omega)) (fun vq Mq hq37 => ?_))
      obtain ⟨rfl, w2, rfl, hc⟩ := hq37
      show WP l X _ md_X9_goBack (40, _, [], _) _
      refine x_aload_n (pc' := 41) rfl rfl rfl (x_iconst (pc' := 42) rfl rfl (x_putI (pc' := 45) rfl rfl rfl (x_iconst (pc' := 46) rfl rfl ?_)))
      refine x_iret rfl rfl ?_
      have e0 : ∀ q, q ≠ 9 → u4 w2 9 0 0 9 (nI 0) 9 0 0 q = w 9 0 0 q := fun q h1 => by rw [u4_k h1]; exact hc.1 9 0 0 q (by omega)
      have eo : ∀ c i o q, ¬ (c = 9 ∧ i = 0 ∧ o = 0) → u4 w2 9 0 0 9 (nI 0) c i o q = w2 c i o q := fun c i o q h1 => by rw [u4_ne (ne3 h1)]
      have e1 : ∀ q, 130 ≤ q → u4 w2 9 0 0 9 (nI 0) 9 0 1 q = w 9 0 1 q := fun q hq => (eo 9 0 1 q (by omega)).trans (hc.2.1 q (by omega))
      have e2 : ∀ q, q < 130 → u4 w2 9 0 0 9 (nI 0) 9 0 1 (0 + q) = w 9 0 1 (260 + 130 * m + q) := fun q hq => (eo 9 0 1 _ (by omega)).trans (hc.2.2 q hq)
      refine ok_id (by unfold f_goBack; rw [bq h6, ix_nI (by omega), hk]; rfl) (fun c i o q h9 => (eo c i o q (by omega)).trans (hc.1 c i o q (by omega))) ?_
      unfold f_goBack; rw [bq h6, ix_nI (by omega), hk]
      exact MRel_D hK hr ⟨fun i o q h0 => (eo 9 i o q (by omega)).trans (hc.1 9 i o q (by omega)), e0, fun q h1 h2 => e1 q (by omega)⟩ (RR_cp (fun q hq => e2 q (by omega)) hK hi2.1) ⟨u4_self _ _ _ _ _ _, fun q hq => absurd hq (by omega)⟩ ((e2 129 (by omega)).trans hi2.2)
