/-! questions, to the reference -/
theorem in_lt {m n : Nat} (hn : n < 2 ^ 31) (h : m < n) : inB (nI m) (nI 0) (nI n - nI 1) = true := by
  have e : nI n - nI 1 = nI (n - 1) := by
    have e2 : nI n = nI (n - 1) + nI 1 := by rw [nI_add, show n - 1 + 1 = n by omega]
    rw [e2]; exact Int32.add_sub_cancel _ _
  simp only [inB, Bool.and_eq_true, decide_eq_true_eq]
  rw [e]
  exact ⟨(nI_leI (by omega) (by omega)).mpr (by omega), (nI_leI (by omega) (by omega)).mpr (by omega)⟩
theorem lgE_row {w : WF} {K : Kg} {s : Sa} (h : RR w K 0 s) {p m : Nat} (hp : p < min s.cc 20) (hm : m < 4) : w 9 0 1 (49 + 4 * (min s.cc 20 - 1 - p) + m) = lgE s (nI p) m := by
  unfold lgE
  rw [if_pos (show (0 : Int32) ≤ nI p ∧ nI p < nI (min s.cc 20) from ⟨show nI 0 ≤ nI p from (nI_leI (by decide) (by omega)).mpr (Nat.zero_le p), (nI_ltI (by omega) (by omega)).mpr hp⟩), nI_clamp (by omega)]
  have hz := h.2.2.2.2.2.2.2.2 (s.cc - 1 - p) m (by omega) (by omega) hm
  rw [show 0 + 49 + (4 * (s.cc - 1 - p - (s.cc - 20)) + m) = 49 + 4 * (min s.cc 20 - 1 - p) + m by omega] at hz
  exact hz
theorem lgE_out {s : Sa} {i : Int32} {m : Nat} (h : bI (inB i (nI 0) (nI (min s.cc 20) - nI 1)) = 0) : -1 = lgE s i m := by
  unfold lgE
  rw [if_neg]
  intro y
  obtain ⟨q, hq, e⟩ := nI_of (Int32.not_lt.mpr y.1)
  rw [e] at y h
  have hz := in_lt (by omega) ((nI_ltI hq (by omega)).mp y.2)
  rw [hz] at h
  exact absurd h (by decide)
set_option maxRecDepth 20000 in
theorem M_X9_fault {l : Launch} {X : XT} {d Lz : Nat} {w : WF} {a : AS} (h : MRel w a) (hV : AVl a) : okM l X (d + 8) Lz md_X9_fault [] w (a.fl) (a) := by
  have hr := h
  obtain ⟨r1, r2, r3, r4, r5, r6, r7, r8, r9⟩ := h
  have hK := hV.1
  have hv7 := hK.1
  have hv4 := hK.2.1
  have hs := hV.2.1
  have hnp := r1.2.2.1
  have hno := r1.2.2.2.2.1
  show WP l X _ md_X9_fault (0, [some (.inr (.inr (9, 0, 0)))], [], _) _
  refine x_aload_n (pc' := 1) rfl rfl rfl (x_getI (pc' := 4) rfl rfl rfl ?_)
  refine x_iret rfl rfl ?_
  exact ok_id (r9) (fun _ _ _ _ _ => rfl) hr
set_option maxRecDepth 20000 in
theorem M_X9_told {l : Launch} {X : XT} {d Lz : Nat} {w : WF} {a : AS} (h : MRel w a) (hV : AVl a) (x : Int32) : okM l X (d + 8) Lz md_X9_told [.inl (x)] w (f_told a x) (a) := by
  have hr := h
  obtain ⟨r1, r2, r3, r4, r5, r6, r7, r8, r9⟩ := h
  have hK := hV.1
  have hv7 := hK.1
  have hv4 := hK.2.1
  have hs := hV.2.1
  have hnp := r1.2.2.1
  have hno := r1.2.2.2.2.1
  have hg : ∀ q, q < 21 → w 9 0 1 q = a.s.g q := fun q hq => by have := r2.1 q hq; rwa [Nat.zero_add] at this
  have he : ∀ q, q < a.K.np → w 9 0 1 (21 + q) = a.s.e q := fun q hq => r2.2.1 q hq
  have hco : ∀ q, q < a.K.np → w 9 0 1 (28 + q) = a.s.co q := fun q hq => r2.2.2.1 q hq
  have hti : ∀ q, q < a.K.np → w 9 0 1 (35 + q) = a.s.ti q := fun q hq => r2.2.2.2.1 q hq
  have hho : ∀ q, q < a.K.no → w 9 0 1 (42 + q) = a.s.ho q := fun q hq => r2.2.2.2.2.1 q hq
  have hrn : w 9 0 1 46 = a.s.rn := r2.2.2.2.2.2.1
  have hdd : w 9 0 1 47 = nI a.s.dd := r2.2.2.2.2.2.2.1
  have hlc : w 9 0 1 48 = nI (min a.s.cc 20) := r2.2.2.2.2.2.2.2.1
  have hr0 : w 9 0 1 (0 + 46) = 0 ∨ w 9 0 1 (0 + 46) = nI 1 := by rw [r2.2.2.2.2.2.1]; exact hs.1.1
  have hdl := hs.2
  show WP l X _ md_X9_told (0, [some (.inr (.inr (9, 0, 0))), some (.inl (x))], [], _) _
  refine x_iload_n (pc' := 1) rfl rfl rfl ?_
  refine x_tswG rfl ?_
  refine sw_c (fun h1_0 => ?_) (fun n1_0 => ?_)
  · refine x_aload_n (pc' := 85) rfl rfl rfl (x_getI (pc' := 88) rfl rfl rfl ?_)
    refine x_iret rfl rfl ?_
    subst h1_0
    exact ok_id (r1.1) (fun _ _ _ _ _ => rfl) hr
  refine sw_c (fun h1_1 => ?_) (fun n1_1 => ?_)
  · refine x_aload_n (pc' := 90) rfl rfl rfl (x_getI (pc' := 93) rfl rfl rfl ?_)
    refine x_iret rfl rfl ?_
    subst h1_1
    exact ok_id (r1.2.1) (fun _ _ _ _ _ => rfl) hr
  refine sw_c (fun h1_2 => ?_) (fun n1_2 => ?_)
  · refine x_aload_n (pc' := 95) rfl rfl rfl (x_getI (pc' := 98) rfl rfl rfl ?_)
    refine x_iret rfl rfl ?_
    subst h1_2
    exact ok_id (hnp) (fun _ _ _ _ _ => rfl) hr
  refine sw_c (fun h1_3 => ?_) (fun n1_3 => ?_)
  · refine x_aload_n (pc' := 100) rfl rfl rfl (x_getI (pc' := 103) rfl rfl rfl ?_)
    refine x_iret rfl rfl ?_
    subst h1_3
    exact ok_id (hno) (fun _ _ _ _ _ => rfl) hr
  refine sw_c (fun h1_4 => ?_) (fun n1_4 => ?_)
  · refine x_aload_n (pc' := 105) rfl rfl rfl (x_getI (pc' := 108) rfl rfl rfl ?_)
    refine x_iret rfl rfl ?_
    subst h1_4
    exact ok_id (r1.2.2.2.1) (fun _ _ _ _ _ => rfl) hr
  refine sw_c (fun h1_5 => ?_) (fun n1_5 => ?_)
  · refine x_aload_n (pc' := 110) rfl rfl rfl (x_getI (pc' := 113) rfl rfl rfl ?_)
    refine x_iret rfl rfl ?_
    subst h1_5
    exact ok_id (r8.1) (fun _ _ _ _ _ => rfl) hr
  refine sw_c (fun h1_6 => ?_) (fun n1_6 => ?_)
  · refine x_aload_n (pc' := 115) rfl rfl rfl (x_getR (pc' := 118) (t := (9, _, 1)) rfl rfl rfl (x_bipush (pc' := 120) rfl rfl (x_iald (pc' := 121) (N := 4420) rfl rfl rfl rfl (by first | assumption | omega) (by decide) ?_)))
    refine x_iret rfl rfl ?_
    subst h1_6
    exact ok_id (hdd) (fun _ _ _ _ _ => rfl) hr
  refine sw_c (fun h1_7 => ?_) (fun n1_7 => ?_)
  · refine x_aload_n (pc' := 123) rfl rfl rfl (x_getR (pc' := 126) (t := (9, _, 1)) rfl rfl rfl (x_bipush (pc' := 128) rfl rfl (x_iald (pc' := 129) (N := 4420) rfl rfl rfl rfl (by first | assumption | omega) (by decide) ?_)))
    refine x_iret rfl rfl ?_
    subst h1_7
    exact ok_id (hrn) (fun _ _ _ _ _ => rfl) hr
  refine sw_c (fun h1_8 => ?_) (fun n1_8 => ?_)
  · refine x_aload_n (pc' := 131) rfl rfl rfl (x_iconst (pc' := 132) rfl rfl (x_invI2 (pc' := 135) rfl rfl rfl rfl (c_X9_courtIn 0 (by omega) _ hnp hv7) ?_))
    refine x_iret rfl rfl ?_
    subst h1_8
    exact ok_id (enc_congr (g := coA a.s) _ (fun p hp => r2.co p hp)) (fun _ _ _ _ _ => rfl) hr
  refine sw_c (fun h1_9 => ?_) (fun n1_9 => ?_)
  · refine x_aload_n (pc' := 137) rfl rfl rfl (x_invI1 (pc' := 140) rfl rfl rfl (c_X9_vacant hK r1 r2) ?_)
    refine x_iret rfl rfl ?_
    subst h1_9
    exact ok_id (rfl) (fun _ _ _ _ _ => rfl) hr
  refine sw_c (fun h1_10 => ?_) (fun n1_10 => ?_)
  · refine x_aload_n (pc' := 142) rfl rfl rfl (x_invI1 (pc' := 145) rfl rfl rfl (c_X9_nearly hK r1 r2) ?_)
    refine x_iret rfl rfl ?_
    subst h1_10
    exact ok_id (rfl) (fun _ _ _ _ _ => rfl) hr
  refine sw_c (fun h1_11 => ?_) (fun n1_11 => ?_)
  · refine x_aload_n (pc' := 147) rfl rfl rfl (x_invI1 (pc' := 150) rfl rfl rfl (c_X9_rings hK r1 r2) ?_)
    refine x_iret rfl rfl ?_
    subst h1_11
    exact ok_id (rfl) (fun _ _ _ _ _ => rfl) hr
  refine sw_c (fun h1_12 => ?_) (fun n1_12 => ?_)
  · refine x_aload_n (pc' := 152) rfl rfl rfl (x_invI1 (pc' := 155) rfl rfl rfl (c_X9_brilliant hK r1 r2) ?_)
    refine x_iret rfl rfl ?_
    subst h1_12
    exact ok_id (rfl) (fun _ _ _ _ _ => rfl) hr
  refine sw_c (fun h1_13 => ?_) (fun n1_13 => ?_)
  · refine x_aload_n (pc' := 157) rfl rfl rfl (x_getR (pc' := 160) (t := (9, _, 1)) rfl rfl rfl (x_bipush (pc' := 162) rfl rfl (x_iald (pc' := 163) (N := 4420) rfl rfl rfl rfl (by first | assumption | omega) (by decide) ?_)))
    refine x_iret rfl rfl ?_
    subst h1_13
    exact ok_id (hlc) (fun _ _ _ _ _ => rfl) hr
  refine sw_c (fun h1_14 => ?_) (fun n1_14 => ?_)
  · refine x_aload_n (pc' := 165) rfl rfl rfl (x_getI (pc' := 168) rfl rfl rfl ?_)
    refine x_iret rfl rfl ?_
    subst h1_14
    exact ok_id (r6.1) (fun _ _ _ _ _ => rfl) hr
  refine sw_c (fun h1_15 => ?_) (fun n1_15 => ?_)
  · refine x_aload_n (pc' := 170) rfl rfl rfl (x_getI (pc' := 173) rfl rfl rfl ?_)
    refine x_iret rfl rfl ?_
    subst h1_15
    exact ok_id (r7.1) (fun _ _ _ _ _ => rfl) hr
  refine sw_c (fun h1_16 => ?_) (fun n1_16 => ?_)
  · refine x_aload_n (pc' := 175) rfl rfl rfl (x_getI (pc' := 178) rfl rfl rfl ?_)
    refine x_iret rfl rfl ?_
    subst h1_16
    exact ok_id (r3.1) (fun _ _ _ _ _ => rfl) hr
  refine sw_n ?_
  refine x_ldc (pc' := 181) rfl rfl ?_
  refine x_iret rfl rfl ?_
  exact ok_id (by unfold f_told; rw [if_neg n1_0, if_neg n1_1, if_neg n1_2, if_neg n1_3, if_neg n1_4, if_neg n1_5, if_neg n1_6, if_neg n1_7, if_neg n1_8, if_neg n1_9, if_neg n1_10, if_neg n1_11, if_neg n1_12, if_neg n1_13, if_neg n1_14, if_neg n1_15, if_neg n1_16]) (fun _ _ _ _ _ => rfl) hr
set_option maxRecDepth 20000 in
theorem M_X9_person {l : Launch} {X : XT} {d Lz : Nat} {w : WF} {a : AS} (h : MRel w a) (hV : AVl a) (p : Int32) (x : Int32) : okM l X (d + 8) Lz md_X9_person [.inl (p), .inl (x)] w (f_person a p x) (a) := by
  have hr := h
  obtain ⟨r1, r2, r3, r4, r5, r6, r7, r8, r9⟩ := h
  have hK := hV.1
  have hv7 := hK.1
  have hv4 := hK.2.1
  have hs := hV.2.1
  have hnp := r1.2.2.1
  have hno := r1.2.2.2.2.1
  have hg : ∀ q, q < 21 → w 9 0 1 q = a.s.g q := fun q hq => by have := r2.1 q hq; rwa [Nat.zero_add] at this
  have he : ∀ q, q < a.K.np → w 9 0 1 (21 + q) = a.s.e q := fun q hq => r2.2.1 q hq
  have hco : ∀ q, q < a.K.np → w 9 0 1 (28 + q) = a.s.co q := fun q hq => r2.2.2.1 q hq
  have hti : ∀ q, q < a.K.np → w 9 0 1 (35 + q) = a.s.ti q := fun q hq => r2.2.2.2.1 q hq
  have hho : ∀ q, q < a.K.no → w 9 0 1 (42 + q) = a.s.ho q := fun q hq => r2.2.2.2.2.1 q hq
  have hrn : w 9 0 1 46 = a.s.rn := r2.2.2.2.2.2.1
  have hdd : w 9 0 1 47 = nI a.s.dd := r2.2.2.2.2.2.2.1
  have hlc : w 9 0 1 48 = nI (min a.s.cc 20) := r2.2.2.2.2.2.2.2.1
  have hr0 : w 9 0 1 (0 + 46) = 0 ∨ w 9 0 1 (0 + 46) = nI 1 := by rw [r2.2.2.2.2.2.1]; exact hs.1.1
  have hdl := hs.2
  show WP l X _ md_X9_person (0, [some (.inr (.inr (9, 0, 0))), some (.inl (p)), some (.inl (x))], [], _) _
  refine x_aload_n (pc' := 1) rfl rfl rfl (x_iload_n (pc' := 2) rfl rfl rfl (x_invI2 (pc' := 5) rfl rfl rfl rfl (p_X9_isPerson r1 _) ?_))
  refine x_if_ne (pc' := 8) rfl rfl (fun h5 => ?_) (fun h5 => ?_)
  · refine x_ldc (pc' := 10) rfl rfl ?_
    refine x_iret rfl rfl ?_
    exact ok_id (by unfold f_person; rw [bI_eq0.mp h5]; rfl) (fun _ _ _ _ _ => rfl) hr
  · obtain ⟨p2, hp, rfl⟩ := in_np (by omega) (bq h5)
    refine x_iload_n (pc' := 12) rfl rfl rfl ?_
    refine x_tswG rfl ?_
    refine sw_c (fun h12_0 => ?_) (fun n12_0 => ?_)
    · subst h12_0
      refine x_aload_n (pc' := 61) rfl rfl rfl (x_getR (pc' := 64) (t := (9, _, 1)) rfl rfl rfl (x_iconst (pc' := 65) rfl rfl (x_iload_n (pc' := 66) rfl rfl rfl (x_imulN (pc' := 67) rfl rfl (x_iald (pc' := 68) (N := 4420) rfl rfl rfl rfl (by first | assumption | omega) (by decide) ?_)))))
      refine x_iret rfl rfl ?_
      exact ok_id (by unfold f_person; rw [bq h5, ix_nI (by omega), hg _ (by omega), show 3 * p2 = p2 * 3 + 0 by omega]; rfl) (fun _ _ _ _ _ => rfl) hr
    refine sw_c (fun h12_1 => ?_) (fun n12_1 => ?_)
    · subst h12_1
      refine x_aload_n (pc' := 70) rfl rfl rfl (x_getR (pc' := 73) (t := (9, _, 1)) rfl rfl rfl (x_iconst (pc' := 74) rfl rfl (x_iload_n (pc' := 75) rfl rfl rfl (x_imulN (pc' := 76) rfl rfl (x_iconst (pc' := 77) rfl rfl ?_)))))
      refine x_iaddN (pc' := 78) rfl rfl (x_iald (pc' := 79) (N := 4420) rfl rfl rfl rfl (by first | assumption | omega) (by decide) ?_)
      refine x_iret rfl rfl ?_
      exact ok_id (by unfold f_person; rw [bq h5, ix_nI (by omega), hg _ (by omega), show 3 * p2 + 1 = p2 * 3 + 1 by omega]; rfl) (fun _ _ _ _ _ => rfl) hr
    refine sw_c (fun h12_2 => ?_) (fun n12_2 => ?_)
    · subst h12_2
      refine x_aload_n (pc' := 81) rfl rfl rfl (x_getR (pc' := 84) (t := (9, _, 1)) rfl rfl rfl (x_iconst (pc' := 85) rfl rfl (x_iload_n (pc' := 86) rfl rfl rfl (x_imulN (pc' := 87) rfl rfl (x_iconst (pc' := 88) rfl rfl ?_)))))
      refine x_iaddN (pc' := 89) rfl rfl (x_iald (pc' := 90) (N := 4420) rfl rfl rfl rfl (by first | assumption | omega) (by decide) ?_)
      refine x_iret rfl rfl ?_
      exact ok_id (by unfold f_person; rw [bq h5, ix_nI (by omega), hg _ (by omega), show 3 * p2 + 2 = p2 * 3 + 2 by omega]; rfl) (fun _ _ _ _ _ => rfl) hr
    refine sw_c (fun h12_3 => ?_) (fun n12_3 => ?_)
    · subst h12_3
      refine x_aload_n (pc' := 92) rfl rfl rfl (x_getR (pc' := 95) (t := (9, _, 2)) rfl rfl rfl (x_iload_n (pc' := 96) rfl rfl rfl (x_iald (pc' := 97) (N := 7) rfl rfl rfl rfl (by first | assumption | omega) (by decide) ?_)))
      refine x_iret rfl rfl ?_
      exact ok_id (by unfold f_person; rw [bq h5, ix_nI (by omega)]; exact r1.2.2.2.2.2.1 _ hp) (fun _ _ _ _ _ => rfl) hr
    refine sw_c (fun h12_4 => ?_) (fun n12_4 => ?_)
    · subst h12_4
      refine x_aload_n (pc' := 99) rfl rfl rfl (x_getR (pc' := 102) (t := (9, _, 1)) rfl rfl rfl (x_bipush (pc' := 104) rfl rfl (x_iload_n (pc' := 105) rfl rfl rfl (x_iaddN (pc' := 106) rfl rfl (x_iald (pc' := 107) (N := 4420) rfl rfl rfl rfl (by first | assumption | omega) (by decide) ?_)))))
      refine x_iret rfl rfl ?_
      exact ok_id (by unfold f_person; rw [bq h5, ix_nI (by omega)]; exact he _ hp) (fun _ _ _ _ _ => rfl) hr
    refine sw_c (fun h12_5 => ?_) (fun n12_5 => ?_)
    · subst h12_5
      refine x_aload_n (pc' := 109) rfl rfl rfl (x_getR (pc' := 112) (t := (9, _, 1)) rfl rfl rfl (x_bipush (pc' := 114) rfl rfl (x_iload_n (pc' := 115) rfl rfl rfl (x_iaddN (pc' := 116) rfl rfl (x_iald (pc' := 117) (N := 4420) rfl rfl rfl rfl (by first | assumption | omega) (by decide) ?_)))))
      refine x_iret rfl rfl ?_
      exact ok_id (by unfold f_person; rw [bq h5, ix_nI (by omega)]; exact hco _ hp) (fun _ _ _ _ _ => rfl) hr
    refine sw_c (fun h12_6 => ?_) (fun n12_6 => ?_)
    · subst h12_6
      refine x_aload_n (pc' := 119) rfl rfl rfl (x_getR (pc' := 122) (t := (9, _, 1)) rfl rfl rfl (x_bipush (pc' := 124) rfl rfl (x_iload_n (pc' := 125) rfl rfl rfl (x_iaddN (pc' := 126) rfl rfl (x_iald (pc' := 127) (N := 4420) rfl rfl rfl rfl (by first | assumption | omega) (by decide) ?_)))))
      refine x_iret rfl rfl ?_
      exact ok_id (by unfold f_person; rw [bq h5, ix_nI (by omega)]; exact hti _ hp) (fun _ _ _ _ _ => rfl) hr
    refine sw_c (fun h12_7 => ?_) (fun n12_7 => ?_)
    · subst h12_7
      refine x_aload_n (pc' := 129) rfl rfl rfl (x_iload_n (pc' := 130) rfl rfl rfl (x_invI2 (pc' := 133) rfl rfl rfl rfl (c_X9_heldBy hK r1 r2 _) ?_))
      refine x_iret rfl rfl ?_
      exact ok_id (by unfold f_person; rw [bq h5]; rfl) (fun _ _ _ _ _ => rfl) hr
    refine sw_n ?_
    refine x_ldc (pc' := 136) rfl rfl ?_
    refine x_iret rfl rfl ?_
    exact ok_id (by unfold f_person; rw [bq h5, if_neg n12_0, if_neg n12_1, if_neg n12_2, if_neg n12_3, if_neg n12_4, if_neg n12_5, if_neg n12_6, if_neg n12_7]; rfl) (fun _ _ _ _ _ => rfl) hr
set_option maxRecDepth 20000 in
theorem M_X9_office {l : Launch} {X : XT} {d Lz : Nat} {w : WF} {a : AS} (h : MRel w a) (hV : AVl a) (p : Int32) (x : Int32) : okM l X (d + 8) Lz md_X9_office [.inl (p), .inl (x)] w (f_office a p x) (a) := by
  have hr := h
  obtain ⟨r1, r2, r3, r4, r5, r6, r7, r8, r9⟩ := h
  have hK := hV.1
  have hv7 := hK.1
  have hv4 := hK.2.1
  have hs := hV.2.1
  have hnp := r1.2.2.1
  have hno := r1.2.2.2.2.1
  have hg : ∀ q, q < 21 → w 9 0 1 q = a.s.g q := fun q hq => by have := r2.1 q hq; rwa [Nat.zero_add] at this
  have he : ∀ q, q < a.K.np → w 9 0 1 (21 + q) = a.s.e q := fun q hq => r2.2.1 q hq
  have hco : ∀ q, q < a.K.np → w 9 0 1 (28 + q) = a.s.co q := fun q hq => r2.2.2.1 q hq
  have hti : ∀ q, q < a.K.np → w 9 0 1 (35 + q) = a.s.ti q := fun q hq => r2.2.2.2.1 q hq
  have hho : ∀ q, q < a.K.no → w 9 0 1 (42 + q) = a.s.ho q := fun q hq => r2.2.2.2.2.1 q hq
  have hrn : w 9 0 1 46 = a.s.rn := r2.2.2.2.2.2.1
  have hdd : w 9 0 1 47 = nI a.s.dd := r2.2.2.2.2.2.2.1
  have hlc : w 9 0 1 48 = nI (min a.s.cc 20) := r2.2.2.2.2.2.2.2.1
  have hr0 : w 9 0 1 (0 + 46) = 0 ∨ w 9 0 1 (0 + 46) = nI 1 := by rw [r2.2.2.2.2.2.1]; exact hs.1.1
  have hdl := hs.2
  show WP l X _ md_X9_office (0, [some (.inr (.inr (9, 0, 0))), some (.inl (p)), some (.inl (x))], [], _) _
  refine x_aload_n (pc' := 1) rfl rfl rfl (x_iload_n (pc' := 2) rfl rfl rfl (x_invI2 (pc' := 5) rfl rfl rfl rfl (p_X9_isOffice r1 _) ?_))
  refine x_if_ne (pc' := 8) rfl rfl (fun h5 => ?_) (fun h5 => ?_)
  · refine x_ldc (pc' := 10) rfl rfl ?_
    refine x_iret rfl rfl ?_
    exact ok_id (by unfold f_office; rw [bI_eq0.mp h5]; rfl) (fun _ _ _ _ _ => rfl) hr
  · obtain ⟨p2, hp, rfl⟩ := in_np (by omega) (bq h5)
    refine x_iload_n (pc' := 12) rfl rfl rfl ?_
    refine x_if_ne (pc' := 15) rfl rfl (fun h12 => ?_) (fun h12 => ?_)
    · refine x_aload_n (pc' := 16) rfl rfl rfl (x_getR (pc' := 19) (t := (9, _, 3)) rfl rfl rfl (x_iload_n (pc' := 20) rfl rfl rfl (x_iald (pc' := 21) (N := 4) rfl rfl rfl rfl (by first | assumption | omega) (by decide) (x_goto rfl ?_))))
      refine x_iret rfl rfl ?_
      first | exact ok_id (by unfold f_office; rw [bq h5, if_pos (show x = nI 0 from h12), ix_nI (by omega)]; exact r1.2.2.2.2.2.2.2 _ hp) (fun _ _ _ _ _ => rfl) hr | exact ok_id (by unfold f_office; rw [bq h5, if_neg (show ¬ x = nI 0 from h12), if_pos h26, ix_nI (by omega)]; exact hho _ hp) (fun _ _ _ _ _ => rfl) hr | exact ok_id (by unfold f_office; rw [bq h5, if_neg (show ¬ x = nI 0 from h12), if_neg h26]; rfl) (fun _ _ _ _ _ => rfl) hr
    · refine x_iload_n (pc' := 25) rfl rfl rfl (x_iconst (pc' := 26) rfl rfl ?_)
      refine x_icmp_ne (pc' := 29) rfl rfl (fun h26 => ?_) (fun h26 => ?_)
      · refine x_aload_n (pc' := 30) rfl rfl rfl (x_getR (pc' := 33) (t := (9, _, 1)) rfl rfl rfl (x_bipush (pc' := 35) rfl rfl (x_iload_n (pc' := 36) rfl rfl rfl (x_iaddN (pc' := 37) rfl rfl (x_iald (pc' := 38) (N := 4420) rfl rfl rfl rfl (by first | assumption | omega) (by decide) ?_)))))
        refine x_goto rfl ?_
        refine x_iret rfl rfl ?_
        first | exact ok_id (by unfold f_office; rw [bq h5, if_pos (show x = nI 0 from h12), ix_nI (by omega)]; exact r1.2.2.2.2.2.2.2 _ hp) (fun _ _ _ _ _ => rfl) hr | exact ok_id (by unfold f_office; rw [bq h5, if_neg (show ¬ x = nI 0 from h12), if_pos h26, ix_nI (by omega)]; exact hho _ hp) (fun _ _ _ _ _ => rfl) hr | exact ok_id (by unfold f_office; rw [bq h5, if_neg (show ¬ x = nI 0 from h12), if_neg h26]; rfl) (fun _ _ _ _ _ => rfl) hr
      · refine x_ldc (pc' := 43) rfl rfl ?_
        refine x_iret rfl rfl ?_
        first | exact ok_id (by unfold f_office; rw [bq h5, if_pos (show x = nI 0 from h12), ix_nI (by omega)]; exact r1.2.2.2.2.2.2.2 _ hp) (fun _ _ _ _ _ => rfl) hr | exact ok_id (by unfold f_office; rw [bq h5, if_neg (show ¬ x = nI 0 from h12), if_pos h26, ix_nI (by omega)]; exact hho _ hp) (fun _ _ _ _ _ => rfl) hr | exact ok_id (by unfold f_office; rw [bq h5, if_neg (show ¬ x = nI 0 from h12), if_neg h26]; rfl) (fun _ _ _ _ _ => rfl) hr
set_option maxRecDepth 20000 in
theorem M_X9_ahead {l : Launch} {X : XT} {d Lz : Nat} {w : WF} {a : AS} (h : MRel w a) (hV : AVl a) (x : Int32) : okM l X (d + 8) Lz md_X9_ahead [.inl (x)] w (f_ahead a x) (a) := by
  have hr := h
  obtain ⟨r1, r2, r3, r4, r5, r6, r7, r8, r9⟩ := h
  have hK := hV.1
  have hv7 := hK.1
  have hv4 := hK.2.1
  have hs := hV.2.1
  have hnp := r1.2.2.1
  have hno := r1.2.2.2.2.1
  have hg : ∀ q, q < 21 → w 9 0 1 q = a.s.g q := fun q hq => by have := r2.1 q hq; rwa [Nat.zero_add] at this
  have he : ∀ q, q < a.K.np → w 9 0 1 (21 + q) = a.s.e q := fun q hq => r2.2.1 q hq
  have hco : ∀ q, q < a.K.np → w 9 0 1 (28 + q) = a.s.co q := fun q hq => r2.2.2.1 q hq
  have hti : ∀ q, q < a.K.np → w 9 0 1 (35 + q) = a.s.ti q := fun q hq => r2.2.2.2.1 q hq
  have hho : ∀ q, q < a.K.no → w 9 0 1 (42 + q) = a.s.ho q := fun q hq => r2.2.2.2.2.1 q hq
  have hrn : w 9 0 1 46 = a.s.rn := r2.2.2.2.2.2.1
  have hdd : w 9 0 1 47 = nI a.s.dd := r2.2.2.2.2.2.2.1
  have hlc : w 9 0 1 48 = nI (min a.s.cc 20) := r2.2.2.2.2.2.2.2.1
  have hr0 : w 9 0 1 (0 + 46) = 0 ∨ w 9 0 1 (0 + 46) = nI 1 := by rw [r2.2.2.2.2.2.1]; exact hs.1.1
  have hdl := hs.2
  show WP l X _ md_X9_ahead (0, [some (.inr (.inr (9, 0, 0))), some (.inl (x))], [], _) _
  refine x_iload_n (pc' := 1) rfl rfl rfl (x_iconst (pc' := 2) rfl rfl (x_bipush (pc' := 4) rfl rfl (x_invS3 (pc' := 7) rfl rfl rfl rfl rfl rfl (c_X9_in _ _ _) ?_)))
  refine x_if_ne (pc' := 10) rfl rfl (fun h7 => ?_) (fun h7 => ?_)
  · refine x_ldc (pc' := 12) rfl rfl ?_
    refine x_iret rfl rfl ?_
    exact ok_id (by unfold f_ahead; rw [bI_eq0.mp h7]; rfl) (fun _ _ _ _ _ => rfl) hr
  · obtain ⟨m, -, hm, rfl⟩ := in_num (by omega) (bq h7) (by omega)
    refine x_aload_n (pc' := 14) rfl rfl rfl (x_getI (pc' := 17) rfl rfl rfl ?_)
    rw [r1.1]
    refine x_iconst (pc' := 18) rfl rfl ?_
    refine x_icmp_ne (pc' := 21) rfl rfl (fun h18 => ?_) (fun h18 => ?_)
    · refine x_ldc (pc' := 23) rfl rfl (x_goto rfl ?_)
      refine x_iret rfl rfl ?_
      first | exact ok_id (by unfold f_ahead; rw [bq h7, ix_nI (by omega), if_neg h18]; rfl) (fun _ _ _ _ _ => rfl) hr | exact ok_id (by unfold f_ahead; rw [bq h7, if_pos h18]; rfl) (fun _ _ _ _ _ => rfl) hr
    · refine x_aload_n (pc' := 27) rfl rfl rfl (x_aload_n (pc' := 28) rfl rfl rfl (x_getR (pc' := 31) (t := (9, _, 1)) rfl rfl rfl (x_bipush (pc' := 33) rfl rfl (x_iald (pc' := 34) (N := 4420) rfl rfl rfl rfl (by first | assumption | omega) (by decide) ?_))))
      rw [hdd]
      refine x_iload_n (pc' := 35) rfl rfl rfl (x_iaddN (pc' := 36) rfl rfl (x_invI2 (pc' := 39) rfl rfl rfl rfl (c_X9_kindOf a.K.nt (a.s.dd + m) r1.2.2.2.1 hK.2.2.1 (by omega)) ?_))
      rw [r1.kd]
      refine x_iret rfl rfl ?_
      first | exact ok_id (by unfold f_ahead; rw [bq h7, ix_nI (by omega), if_neg h18]; rfl) (fun _ _ _ _ _ => rfl) hr | exact ok_id (by unfold f_ahead; rw [bq h7, if_pos h18]; rfl) (fun _ _ _ _ _ => rfl) hr
set_option maxRecDepth 20000 in
theorem M_X9_logged {l : Launch} {X : XT} {d Lz : Nat} {w : WF} {a : AS} (h : MRel w a) (hV : AVl a) (i : Int32) (x : Int32) : okM l X (d + 8) Lz md_X9_logged [.inl (i), .inl (x)] w (f_logged a i x) (a) := by
  have hr := h
  obtain ⟨r1, r2, r3, r4, r5, r6, r7, r8, r9⟩ := h
  have hK := hV.1
  have hv7 := hK.1
  have hv4 := hK.2.1
  have hs := hV.2.1
  have hnp := r1.2.2.1
  have hno := r1.2.2.2.2.1
  have hg : ∀ q, q < 21 → w 9 0 1 q = a.s.g q := fun q hq => by have := r2.1 q hq; rwa [Nat.zero_add] at this
  have he : ∀ q, q < a.K.np → w 9 0 1 (21 + q) = a.s.e q := fun q hq => r2.2.1 q hq
  have hco : ∀ q, q < a.K.np → w 9 0 1 (28 + q) = a.s.co q := fun q hq => r2.2.2.1 q hq
  have hti : ∀ q, q < a.K.np → w 9 0 1 (35 + q) = a.s.ti q := fun q hq => r2.2.2.2.1 q hq
  have hho : ∀ q, q < a.K.no → w 9 0 1 (42 + q) = a.s.ho q := fun q hq => r2.2.2.2.2.1 q hq
  have hrn : w 9 0 1 46 = a.s.rn := r2.2.2.2.2.2.1
  have hdd : w 9 0 1 47 = nI a.s.dd := r2.2.2.2.2.2.2.1
  have hlc : w 9 0 1 48 = nI (min a.s.cc 20) := r2.2.2.2.2.2.2.2.1
  have hr0 : w 9 0 1 (0 + 46) = 0 ∨ w 9 0 1 (0 + 46) = nI 1 := by rw [r2.2.2.2.2.2.1]; exact hs.1.1
  have hdl := hs.2
  show WP l X _ md_X9_logged (0, [some (.inr (.inr (9, 0, 0))), some (.inl (i)), some (.inl (x))], [], _) _
  refine x_iload_n (pc' := 1) rfl rfl rfl (x_iconst (pc' := 2) rfl rfl (x_iconst (pc' := 3) rfl rfl (x_invS3 (pc' := 6) rfl rfl rfl rfl rfl rfl (c_X9_in _ _ _) ?_)))
  refine x_if_ne (pc' := 9) rfl rfl (fun h6 => ?_) (fun h6 => ?_)
  · refine x_ldc (pc' := 11) rfl rfl ?_
    refine x_iret rfl rfl ?_
    exact ok_id (by unfold f_logged; rw [bI_eq0.mp h6]; rfl) (fun _ _ _ _ _ => rfl) hr
  · obtain ⟨m, -, hm, rfl⟩ := in_num (by omega) (bq h6) (by omega)
    refine x_iload_n (pc' := 13) rfl rfl rfl (x_iconst (pc' := 14) rfl rfl (x_aload_n (pc' := 15) rfl rfl rfl (x_getR (pc' := 18) (t := (9, _, 1)) rfl rfl rfl (x_bipush (pc' := 20) rfl rfl (x_iald (pc' := 21) (N := 4420) rfl rfl rfl rfl (by first | assumption | omega) (by decide) ?_)))))
    rw [hlc]
    refine x_iconst (pc' := 22) rfl rfl (x_isub (pc' := 23) rfl rfl (x_invS3 (pc' := 26) rfl rfl rfl rfl rfl rfl (c_X9_in _ _ _) ?_))
    refine x_if_eq (pc' := 29) rfl rfl (fun h26 => ?_) (fun h26 => ?_)
    · refine x_iconst (pc' := 56) rfl rfl ?_
      refine x_iret rfl rfl ?_
      first | exact ok_id (by unfold f_logged; rw [bq h6, ix_nI (by omega)]; exact lgE_row r2 hp (by omega)) (fun _ _ _ _ _ => rfl) hr | exact ok_id (by unfold f_logged; rw [bq h6]; exact lgE_out h26) (fun _ _ _ _ _ => rfl) hr
    · obtain ⟨p2, hp, rfl⟩ := in_np (by omega) (bq h26)
      refine x_aload_n (pc' := 30) rfl rfl rfl (x_getR (pc' := 33) (t := (9, _, 1)) rfl rfl rfl (x_bipush (pc' := 35) rfl rfl (x_iconst (pc' := 36) rfl rfl (x_aload_n (pc' := 37) rfl rfl rfl (x_getR (pc' := 40) (t := (9, _, 1)) rfl rfl rfl ?_)))))
      refine x_bipush (pc' := 42) rfl rfl (x_iald (pc' := 43) (N := 4420) rfl rfl rfl rfl (by first | assumption | omega) (by decide) ?_)
      rw [hlc]
      refine x_iconst (pc' := 44) rfl rfl (x_isubN (pc' := 45) rfl rfl (by first | assumption | omega) (x_iload_n (pc' := 46) rfl rfl rfl (x_isubN (pc' := 47) rfl rfl (by first | assumption | omega) (x_imulN (pc' := 48) rfl rfl (x_iaddN (pc' := 49) rfl rfl ?_)))))
      refine x_iload_n (pc' := 50) rfl rfl rfl (x_iaddN (pc' := 51) rfl rfl (x_iald (pc' := 52) (N := 4420) rfl rfl rfl rfl (by omega) (by decide) (x_goto rfl ?_)))
      refine x_iret rfl rfl ?_
      first | exact ok_id (by unfold f_logged; rw [bq h6, ix_nI (by omega)]; exact lgE_row r2 hp (by omega)) (fun _ _ _ _ _ => rfl) hr | exact ok_id (by unfold f_logged; rw [bq h6]; exact lgE_out h26) (fun _ _ _ _ _ => rfl) hr
set_option maxRecDepth 20000 in
theorem M_X9_mark {l : Launch} {X : XT} {d Lz : Nat} {w : WF} {a : AS} (h : MRel w a) (hV : AVl a) (p : Int32) (k : Int32) : okM l X (d + 8) Lz md_X9_mark [.inl (p), .inl (k)] w (f_mark a p k) (a) := by
  have hr := h
  obtain ⟨r1, r2, r3, r4, r5, r6, r7, r8, r9⟩ := h
  have hK := hV.1
  have hv7 := hK.1
  have hv4 := hK.2.1
  have hs := hV.2.1
  have hnp := r1.2.2.1
  have hno := r1.2.2.2.2.1
  have hg : ∀ q, q < 21 → w 9 0 1 q = a.s.g q := fun q hq => by have := r2.1 q hq; rwa [Nat.zero_add] at this
  have he : ∀ q, q < a.K.np → w 9 0 1 (21 + q) = a.s.e q := fun q hq => r2.2.1 q hq
  have hco : ∀ q, q < a.K.np → w 9 0 1 (28 + q) = a.s.co q := fun q hq => r2.2.2.1 q hq
  have hti : ∀ q, q < a.K.np → w 9 0 1 (35 + q) = a.s.ti q := fun q hq => r2.2.2.2.1 q hq
  have hho : ∀ q, q < a.K.no → w 9 0 1 (42 + q) = a.s.ho q := fun q hq => r2.2.2.2.2.1 q hq
  have hrn : w 9 0 1 46 = a.s.rn := r2.2.2.2.2.2.1
  have hdd : w 9 0 1 47 = nI a.s.dd := r2.2.2.2.2.2.2.1
  have hlc : w 9 0 1 48 = nI (min a.s.cc 20) := r2.2.2.2.2.2.2.2.1
  have hr0 : w 9 0 1 (0 + 46) = 0 ∨ w 9 0 1 (0 + 46) = nI 1 := by rw [r2.2.2.2.2.2.1]; exact hs.1.1
  have hdl := hs.2
  show WP l X _ md_X9_mark (0, [some (.inr (.inr (9, 0, 0))), some (.inl (p)), some (.inl (k))], [], _) _
  refine x_aload_n (pc' := 1) rfl rfl rfl (x_iload_n (pc' := 2) rfl rfl rfl (x_invI2 (pc' := 5) rfl rfl rfl rfl (p_X9_isPerson r1 _) ?_))
  refine x_if_ne (pc' := 8) rfl rfl (fun h5 => ?_) (fun h5 => ?_)
  · refine x_ldc (pc' := 10) rfl rfl ?_
    refine x_iret rfl rfl ?_
    exact ok_id (by unfold f_mark; rw [bI_eq0.mp h5]; rfl) (fun _ _ _ _ _ => rfl) hr
  · obtain ⟨p2, hp, rfl⟩ := in_np (by omega) (bq h5)
    refine x_iload_n (pc' := 12) rfl rfl rfl (x_invS1 (pc' := 15) rfl rfl rfl rfl (c_X9_isKind _) ?_)
    refine x_if_eq (pc' := 18) rfl rfl (fun h15 => ?_) (fun h15 => ?_)
    · refine x_ldc (pc' := 30) rfl rfl ?_
      refine x_iret rfl rfl ?_
      first | exact ok_id (by unfold f_mark isKd; rw [bq h5, bq h15, ix_nI (by omega), ix_nI (by omega)]; exact r2.mk hK r1 (by omega) _ hp) (fun _ _ _ _ _ => rfl) hr | exact ok_id (by unfold f_mark isKd; rw [bq h5, bI_eq0.mp h15]; rfl) (fun _ _ _ _ _ => rfl) hr
    · obtain ⟨k2, -, hk2, rfl⟩ := in_num (by omega) (bq h15) (by omega)
      refine x_aload_n (pc' := 19) rfl rfl rfl (x_iconst (pc' := 20) rfl rfl (x_iload_n (pc' := 21) rfl rfl rfl (x_iload_n (pc' := 22) rfl rfl rfl (x_invI4 (pc' := 25) rfl rfl rfl rfl rfl rfl (c_X9_markIn 0 (by omega) p2 k2 (by omega) (by omega) hr0) ?_))))
      refine x_goto rfl ?_
      refine x_iret rfl rfl ?_
      first | exact ok_id (by unfold f_mark isKd; rw [bq h5, bq h15, ix_nI (by omega), ix_nI (by omega)]; exact r2.mk hK r1 (by omega) _ hp) (fun _ _ _ _ _ => rfl) hr | exact ok_id (by unfold f_mark isKd; rw [bq h5, bI_eq0.mp h15]; rfl) (fun _ _ _ _ _ => rfl) hr
theorem plc_6 {K : Kg} {s : Sa} {k p q : Nat} (h : bI (coA s q && !fsA K s k q) = 0) : plc K s k p q = false := by
  have h2 := bI_eq0.mp h
  unfold plc
  cases hc : coA s q
  · rfl
  · cases hf : fsA K s k q
    · rw [hc, hf] at h2; cases h2
    · rfl
theorem plc_7 {K : Kg} {s : Sa} {k p q : Nat} (h : ¬ bI (coA s q && !fsA K s k q) = 0) (h3 : ¬ q = p) (h4 : ¬ bI (ahd K.law K.dr (mkA K s k) q p) = 0) : plc K s k p q = true := by
  have h2 := bq h
  unfold plc
  cases hc : coA s q
  · rw [hc] at h2; cases h2
  · cases hf : fsA K s k q
    · rw [dT h3, bq h4]; rfl
    · rw [hc, hf] at h2; cases h2
set_option maxRecDepth 20000 in
theorem l_X9_place0 {l : Launch} {X : XT} {d Lz : Nat} {w : WF} {a : AS} (hK : KV a.K) (r1 : KM w a.K) (r2 : RR w a.K 0 a.s) (hr0 : w 9 0 1 (0 + 46) = 0 ∨ w 9 0 1 (0 + 46) = nI 1) (p k : Nat) (hk : k < 3) (hp : p < a.K.np) (hf : fsA a.K a.s k p = true) : ∀ (kk n : Nat),  n ≤ a.K.np → a.K.np + 1 ≤ n + kk → WP l X (d + 3) md_X9_place (68, [some (.inr (.inr (9, 0, 0))), some (.inl (nI p)), some (.inl (nI k)), some (.inl (enc (FSM w 0 k a.K.np) a.K.np)), some (.inl (enc (cM w 0) a.K.np &&& (enc (FSM w 0 k a.K.np) a.K.np ^^^ -1))), some (.inl (nI 0)), some (.inl (nI n))], [], mk Lz w) (fun v M' => v = some (.inl (bif fsA a.K a.s k p then nI 0 else plA a.K a.s k p a.K.np)) ∧ M' = mk Lz w) := by
  intro kk
  induction kk with
  | zero =>
    intro n h1 h2
    exact absurd h2 (by omega)
  | succ kk ih =>
    intro n hi1 hi2
    have hv7 := hK.1
    have hnp := r1.2.2.1
    have hF : ∀ q, q < a.K.np → has (enc (FSM w 0 k a.K.np) a.K.np) q = fsA a.K a.s k q := fun q hq => by rw [has_enc (by omega) hq]; exact r2.fs hK r1 hk q hq
    have hO : ∀ q, q < a.K.np → has (enc (cM w 0) a.K.np &&& (enc (FSM w 0 k a.K.np) a.K.np ^^^ -1)) q = (coA a.s q && !fsA a.K a.s k q) := fun q hq => by rw [enc_diff (by omega), has_enc (by omega) hq, r2.co q hq, r2.fs hK r1 hk q hq]
    have hA : ∀ q, q < a.K.np → aM w 0 k q p = ahd a.K.law a.K.dr (mkA a.K a.s k) q p := fun q hq => by unfold aM; rw [r1.1]; exact ahd_congr (r1.2.2.2.2.2.1 q hq) (r1.2.2.2.2.2.1 p hp) (r2.mk hK r1 hk q hq) (r2.mk hK r1 hk p hp)
    refine x_iload (pc' := 70) rfl rfl rfl (x_aload_n (pc' := 71) rfl rfl rfl (x_getI (pc' := 74) rfl rfl rfl ?_))
    rw [hnp]
    refine x_icmp_geN (pc' := 77) rfl rfl (by omega) (by omega) (fun h74 => ?_) (fun h74 => ?_)
    · refine x_iload (pc' := 131) rfl rfl rfl ?_
      refine x_iret rfl rfl ?_
      exact rI (by rw [hf]; rfl)
    · refine x_iload (pc' := 79) rfl rfl rfl (x_iload_n (pc' := 80) rfl rfl rfl (x_iload_n (pc' := 81) rfl rfl rfl (x_invS2 (pc' := 84) rfl rfl rfl rfl rfl (c_X9_has _ _) ?_)))
      rw [hF p hp]
      refine x_if_ne (pc' := 87) rfl rfl (fun h84 => absurd h84 (by rw [hf]; decide)) (fun h84 => ?_)
      refine x_iconst (pc' := 120) rfl rfl (x_iaddE (pc' := 121) rfl rfl (add_0 _) (x_istore5 (pc' := 123) rfl rfl rfl (x_iinc6 (pc' := 126) rfl rfl rfl (nI_add _ _) (x_goto rfl ?_))))
      exact ih (n + 1) (by omega) (by omega)
set_option maxRecDepth 20000 in
theorem l_X9_place1 {l : Launch} {X : XT} {d Lz : Nat} {w : WF} {a : AS} (hK : KV a.K) (r1 : KM w a.K) (r2 : RR w a.K 0 a.s) (hr0 : w 9 0 1 (0 + 46) = 0 ∨ w 9 0 1 (0 + 46) = nI 1) (p k : Nat) (hk : k < 3) (hp : p < a.K.np) (hf : fsA a.K a.s k p = false) : ∀ (kk n : Nat),  n ≤ a.K.np → a.K.np + 1 ≤ n + kk → WP l X (d + 3) md_X9_place (68, [some (.inr (.inr (9, 0, 0))), some (.inl (nI p)), some (.inl (nI k)), some (.inl (enc (FSM w 0 k a.K.np) a.K.np)), some (.inl (enc (cM w 0) a.K.np &&& (enc (FSM w 0 k a.K.np) a.K.np ^^^ -1))), some (.inl (plA a.K a.s k p n)), some (.inl (nI n))], [], mk Lz w) (fun v M' => v = some (.inl (bif fsA a.K a.s k p then nI 0 else plA a.K a.s k p a.K.np)) ∧ M' = mk Lz w) := by
  intro kk
  induction kk with
  | zero =>
    intro n h1 h2
    exact absurd h2 (by omega)
  | succ kk ih =>
    intro n hi1 hi2
    have hv7 := hK.1
    have hnp := r1.2.2.1
    have hF : ∀ q, q < a.K.np → has (enc (FSM w 0 k a.K.np) a.K.np) q = fsA a.K a.s k q := fun q hq => by rw [has_enc (by omega) hq]; exact r2.fs hK r1 hk q hq
    have hO : ∀ q, q < a.K.np → has (enc (cM w 0) a.K.np &&& (enc (FSM w 0 k a.K.np) a.K.np ^^^ -1)) q = (coA a.s q && !fsA a.K a.s k q) := fun q hq => by rw [enc_diff (by omega), has_enc (by omega) hq, r2.co q hq, r2.fs hK r1 hk q hq]
    have hA : ∀ q, q < a.K.np → aM w 0 k q p = ahd a.K.law a.K.dr (mkA a.K a.s k) q p := fun q hq => by unfold aM; rw [r1.1]; exact ahd_congr (r1.2.2.2.2.2.1 q hq) (r1.2.2.2.2.2.1 p hp) (r2.mk hK r1 hk q hq) (r2.mk hK r1 hk p hp)
    refine x_iload (pc' := 70) rfl rfl rfl (x_aload_n (pc' := 71) rfl rfl rfl (x_getI (pc' := 74) rfl rfl rfl ?_))
    rw [hnp]
    refine x_icmp_geN (pc' := 77) rfl rfl (by omega) (by omega) (fun h74 => ?_) (fun h74 => ?_)
    · refine x_iload (pc' := 131) rfl rfl rfl ?_
      refine x_iret rfl rfl ?_
      have e : n = a.K.np := by omega
      subst e
      exact rI (by rw [hf]; rfl)
    · refine x_iload (pc' := 79) rfl rfl rfl (x_iload_n (pc' := 80) rfl rfl rfl (x_iload_n (pc' := 81) rfl rfl rfl (x_invS2 (pc' := 84) rfl rfl rfl rfl rfl (c_X9_has _ _) ?_)))
      rw [hF p hp]
      refine x_if_ne (pc' := 87) rfl rfl (fun h84 => ?_) (fun h84 => absurd (by rw [hf]; rfl) h84)
      refine x_iload (pc' := 89) rfl rfl rfl (x_iload_n (pc' := 90) rfl rfl rfl ?_)
      refine x_icmp_eqN (pc' := 93) rfl rfl (by omega) (by omega) (fun h90 => ?_) (fun h90 => ?_)
      · refine x_iconst (pc' := 120) rfl rfl (x_iadd (pc' := 121) rfl rfl (x_istore5 (pc' := 123) rfl rfl rfl (x_iinc6 (pc' := 126) rfl rfl rfl (nI_add _ _) (x_goto rfl ?_))))
        exact WPc (ih (n + 1) (by omega) (by omega)) (by first | rw [← plA_f (plc_3 h90), add_0] | rw [← plA_f (plc_6 h100), add_0] | rw [← plA_f (plc_4 h112), add_0] | rw [← plA_t (plc_7 h100 h90 h112)]) rfl
      · refine x_iload (pc' := 95) rfl rfl rfl (x_iload (pc' := 97) rfl rfl rfl (x_invS2 (pc' := 100) rfl rfl rfl rfl rfl (c_X9_has _ _) ?_))
        rw [hO n (by omega)]
        refine x_if_eq (pc' := 103) rfl rfl (fun h100 => ?_) (fun h100 => ?_)
        · refine x_iconst (pc' := 120) rfl rfl (x_iadd (pc' := 121) rfl rfl (x_istore5 (pc' := 123) rfl rfl rfl (x_iinc6 (pc' := 126) rfl rfl rfl (nI_add _ _) (x_goto rfl ?_))))
          exact WPc (ih (n + 1) (by omega) (by omega)) (by first | rw [← plA_f (plc_3 h90), add_0] | rw [← plA_f (plc_6 h100), add_0] | rw [← plA_f (plc_4 h112), add_0] | rw [← plA_t (plc_7 h100 h90 h112)]) rfl
        · refine x_aload_n (pc' := 104) rfl rfl rfl (x_iconst (pc' := 105) rfl rfl (x_iload (pc' := 107) rfl rfl rfl (x_iload_n (pc' := 108) rfl rfl rfl (x_iload_n (pc' := 109) rfl rfl rfl (x_invI5 (pc' := 112) rfl rfl rfl rfl rfl rfl rfl (c_X9_isAhead 0 (by omega) _ _ _ (by omega) (by omega) hk hr0) ?_)))))
          rw [hA n (by omega)]
          refine x_if_eq (pc' := 115) rfl rfl (fun h112 => ?_) (fun h112 => ?_)
          · refine x_iconst (pc' := 120) rfl rfl (x_iadd (pc' := 121) rfl rfl (x_istore5 (pc' := 123) rfl rfl rfl (x_iinc6 (pc' := 126) rfl rfl rfl (nI_add _ _) (x_goto rfl ?_))))
            exact WPc (ih (n + 1) (by omega) (by omega)) (by first | rw [← plA_f (plc_3 h90), add_0] | rw [← plA_f (plc_6 h100), add_0] | rw [← plA_f (plc_4 h112), add_0] | rw [← plA_t (plc_7 h100 h90 h112)]) rfl
          · refine x_iconst (pc' := 116) rfl rfl (x_goto rfl (x_iadd (pc' := 121) rfl rfl (x_istore5 (pc' := 123) rfl rfl rfl (x_iinc6 (pc' := 126) rfl rfl rfl (nI_add _ _) (x_goto rfl ?_)))))
            exact WPc (ih (n + 1) (by omega) (by omega)) (by first | rw [← plA_f (plc_3 h90), add_0] | rw [← plA_f (plc_6 h100), add_0] | rw [← plA_f (plc_4 h112), add_0] | rw [← plA_t (plc_7 h100 h90 h112)]) rfl
set_option maxRecDepth 20000 in
theorem M_X9_place {l : Launch} {X : XT} {d Lz : Nat} {w : WF} {a : AS} (h : MRel w a) (hV : AVl a) (p : Int32) (k : Int32) : okM l X (d + 8) Lz md_X9_place [.inl (p), .inl (k)] w (f_place a p k) (a) := by
  have hr := h
  obtain ⟨r1, r2, r3, r4, r5, r6, r7, r8, r9⟩ := h
  have hK := hV.1
  have hv7 := hK.1
  have hv4 := hK.2.1
  have hs := hV.2.1
  have hnp := r1.2.2.1
  have hno := r1.2.2.2.2.1
  have hg : ∀ q, q < 21 → w 9 0 1 q = a.s.g q := fun q hq => by have := r2.1 q hq; rwa [Nat.zero_add] at this
  have he : ∀ q, q < a.K.np → w 9 0 1 (21 + q) = a.s.e q := fun q hq => r2.2.1 q hq
  have hco : ∀ q, q < a.K.np → w 9 0 1 (28 + q) = a.s.co q := fun q hq => r2.2.2.1 q hq
  have hti : ∀ q, q < a.K.np → w 9 0 1 (35 + q) = a.s.ti q := fun q hq => r2.2.2.2.1 q hq
  have hho : ∀ q, q < a.K.no → w 9 0 1 (42 + q) = a.s.ho q := fun q hq => r2.2.2.2.2.1 q hq
  have hrn : w 9 0 1 46 = a.s.rn := r2.2.2.2.2.2.1
  have hdd : w 9 0 1 47 = nI a.s.dd := r2.2.2.2.2.2.2.1
  have hlc : w 9 0 1 48 = nI (min a.s.cc 20) := r2.2.2.2.2.2.2.2.1
  have hr0 : w 9 0 1 (0 + 46) = 0 ∨ w 9 0 1 (0 + 46) = nI 1 := by rw [r2.2.2.2.2.2.1]; exact hs.1.1
  have hdl := hs.2
  show WP l X _ md_X9_place (0, [some (.inr (.inr (9, 0, 0))), some (.inl (p)), some (.inl (k)), none, none, none, none], [], _) _
  refine x_aload_n (pc' := 1) rfl rfl rfl (x_iload_n (pc' := 2) rfl rfl rfl (x_invI2 (pc' := 5) rfl rfl rfl rfl (p_X9_isPerson r1 _) ?_))
  refine x_if_ne (pc' := 8) rfl rfl (fun h5 => ?_) (fun h5 => ?_)
  · refine x_ldc (pc' := 10) rfl rfl ?_
    refine x_iret rfl rfl ?_
    exact ok_id (by unfold f_place; rw [bI_eq0.mp h5]; rfl) (fun _ _ _ _ _ => rfl) hr
  · obtain ⟨p2, hp, rfl⟩ := in_np (by omega) (bq h5)
    refine x_iload_n (pc' := 12) rfl rfl rfl (x_invS1 (pc' := 15) rfl rfl rfl rfl (c_X9_isKind _) ?_)
    refine x_if_ne (pc' := 18) rfl rfl (fun h15 => ?_) (fun h15 => ?_)
    · refine x_ldc (pc' := 20) rfl rfl ?_
      refine x_iret rfl rfl ?_
      exact ok_id (by unfold f_place isKd; rw [bq h5, bI_eq0.mp h15]; rfl) (fun _ _ _ _ _ => rfl) hr
    · obtain ⟨k2, -, hk2, rfl⟩ := in_num (by omega) (bq h15) (by omega)
      refine x_aload_n (pc' := 22) rfl rfl rfl (x_iconst (pc' := 23) rfl rfl (x_iload_n (pc' := 24) rfl rfl rfl (x_invI3 (pc' := 27) rfl rfl rfl rfl rfl (c_X9_isAtCourt 0 (by omega) _ (by omega)) ?_)))
      rw [r2.co p2 hp]
      refine x_if_ne (pc' := 30) rfl rfl (fun h27 => ?_) (fun h27 => ?_)
      · refine x_iconst (pc' := 31) rfl rfl ?_
        refine x_iret rfl rfl ?_
        exact ok_id (by unfold f_place isKd; rw [bq h5, bq h15, ix_nI (by omega), bI_eq0.mp h27]; rfl) (fun _ _ _ _ _ => rfl) hr
      · refine x_aload_n (pc' := 33) rfl rfl rfl (x_iconst (pc' := 34) rfl rfl (x_iload_n (pc' := 35) rfl rfl rfl (x_invI3 (pc' := 38) rfl rfl rfl rfl rfl (c_X9_firstOnes 0 (by omega) k2 (by omega) hr0 _ hnp hv7) ?_)))
        refine x_istore_n3 (pc' := 39) rfl rfl rfl (x_aload_n (pc' := 40) rfl rfl rfl (x_iconst (pc' := 41) rfl rfl (x_invI2 (pc' := 44) rfl rfl rfl rfl (c_X9_courtIn 0 (by omega) _ hnp hv7) ?_)))
        refine x_iload_n (pc' := 45) rfl rfl rfl (x_iconst (pc' := 46) rfl rfl (x_ixor (pc' := 47) rfl rfl (x_iand (pc' := 48) rfl rfl (x_istore4 (pc' := 50) rfl rfl rfl (x_iload_n (pc' := 51) rfl rfl rfl ?_)))))
        refine x_iload_n (pc' := 52) rfl rfl rfl (x_invS2 (pc' := 55) rfl rfl rfl rfl rfl (c_X9_has _ _) ?_)
        rw [has_enc (by omega) hp, r2.fs hK r1 (by omega) p2 hp]
        refine x_if_eq (pc' := 58) rfl rfl (fun h55 => ?_) (fun h55 => ?_)
        · refine x_iconst (pc' := 63) rfl rfl (x_istore5 (pc' := 65) rfl rfl rfl (x_iconst (pc' := 66) rfl rfl (x_istore6 (pc' := 68) rfl rfl rfl ?_)))
          first
            | refine wp_cons (l_X9_place0 (d := d + 5) hK r1 r2 hr0 p2 k2 (by omega) hp (bq h55) (a.K.np + 1) 0 (by omega) (by omega)) (fun v M hq => ?_)
            | refine wp_cons (l_X9_place1 (d := d + 5) hK r1 r2 hr0 p2 k2 (by omega) hp (bI_eq0.mp h55) (a.K.np + 1) 0 (by omega) (by omega)) (fun v M hq => ?_)
          obtain ⟨rfl, rfl⟩ := hq
          exact ok_id (by unfold f_place isKd; rw [bq h5, bq h15, ix_nI (by omega), bq h27, ix_nI (by omega)]; rfl) (fun _ _ _ _ _ => rfl) hr
        · refine x_iconst (pc' := 59) rfl rfl (x_goto rfl (x_istore5 (pc' := 65) rfl rfl rfl (x_iconst (pc' := 66) rfl rfl (x_istore6 (pc' := 68) rfl rfl rfl ?_))))
          first
            | refine wp_cons (l_X9_place0 (d := d + 5) hK r1 r2 hr0 p2 k2 (by omega) hp (bq h55) (a.K.np + 1) 0 (by omega) (by omega)) (fun v M hq => ?_)
            | refine wp_cons (l_X9_place1 (d := d + 5) hK r1 r2 hr0 p2 k2 (by omega) hp (bI_eq0.mp h55) (a.K.np + 1) 0 (by omega) (by omega)) (fun v M hq => ?_)
          obtain ⟨rfl, rfl⟩ := hq
          exact ok_id (by unfold f_place isKd; rw [bq h5, bq h15, ix_nI (by omega), bq h27, ix_nI (by omega)]; rfl) (fun _ _ _ _ _ => rfl) hr
set_option maxRecDepth 20000 in
theorem M_X9_wouldBe {l : Launch} {X : XT} {d Lz : Nat} {w : WF} {a : AS} (h : MRel w a) (hV : AVl a) (k : Int32) (x : Int32) : okM l X (d + 8) Lz md_X9_wouldBe [.inl (k), .inl (x)] w (f_wouldBe a k x) (a) := by
  have hr := h
  obtain ⟨r1, r2, r3, r4, r5, r6, r7, r8, r9⟩ := h
  have hK := hV.1
  have hv7 := hK.1
  have hv4 := hK.2.1
  have hs := hV.2.1
  have hnp := r1.2.2.1
  have hno := r1.2.2.2.2.1
  have hg : ∀ q, q < 21 → w 9 0 1 q = a.s.g q := fun q hq => by have := r2.1 q hq; rwa [Nat.zero_add] at this
  have he : ∀ q, q < a.K.np → w 9 0 1 (21 + q) = a.s.e q := fun q hq => r2.2.1 q hq
  have hco : ∀ q, q < a.K.np → w 9 0 1 (28 + q) = a.s.co q := fun q hq => r2.2.2.1 q hq
  have hti : ∀ q, q < a.K.np → w 9 0 1 (35 + q) = a.s.ti q := fun q hq => r2.2.2.2.1 q hq
  have hho : ∀ q, q < a.K.no → w 9 0 1 (42 + q) = a.s.ho q := fun q hq => r2.2.2.2.2.1 q hq
  have hrn : w 9 0 1 46 = a.s.rn := r2.2.2.2.2.2.1
  have hdd : w 9 0 1 47 = nI a.s.dd := r2.2.2.2.2.2.2.1
  have hlc : w 9 0 1 48 = nI (min a.s.cc 20) := r2.2.2.2.2.2.2.2.1
  have hr0 : w 9 0 1 (0 + 46) = 0 ∨ w 9 0 1 (0 + 46) = nI 1 := by rw [r2.2.2.2.2.2.1]; exact hs.1.1
  have hdl := hs.2
  show WP l X _ md_X9_wouldBe (0, [some (.inr (.inr (9, 0, 0))), some (.inl (k)), some (.inl (x))], [], _) _
  refine x_iload_n (pc' := 1) rfl rfl rfl (x_invS1 (pc' := 4) rfl rfl rfl rfl (c_X9_isKind _) ?_)
  refine x_if_eq (pc' := 7) rfl rfl (fun h4 => ?_) (fun h4 => ?_)
  · refine x_ldc (pc' := 18) rfl rfl ?_
    refine x_iret rfl rfl ?_
    first | exact ok_id (by unfold f_wouldBe isKd; rw [bI_eq0.mp h4]; rfl) (fun _ _ _ _ _ => rfl) hr | exact ok_id (by unfold f_wouldBe isKd; rw [bq h4, bI_eq0.mp h13]; rfl) (fun _ _ _ _ _ => rfl) hr
  · refine x_iload_n (pc' := 8) rfl rfl rfl (x_iconst (pc' := 9) rfl rfl (x_iconst (pc' := 10) rfl rfl (x_invS3 (pc' := 13) rfl rfl rfl rfl rfl rfl (c_X9_in _ _ _) ?_)))
    refine x_if_ne (pc' := 16) rfl rfl (fun h13 => ?_) (fun h13 => ?_)
    · refine x_ldc (pc' := 18) rfl rfl ?_
      refine x_iret rfl rfl ?_
      first | exact ok_id (by unfold f_wouldBe isKd; rw [bI_eq0.mp h4]; rfl) (fun _ _ _ _ _ => rfl) hr | exact ok_id (by unfold f_wouldBe isKd; rw [bq h4, bI_eq0.mp h13]; rfl) (fun _ _ _ _ _ => rfl) hr
    · obtain ⟨k2, -, hk2, rfl⟩ := in_num (by omega) (bq h4) (by omega)
      refine x_iload_n (pc' := 20) rfl rfl rfl ?_
      refine x_if_ne (pc' := 23) rfl rfl (fun h20 => ?_) (fun h20 => ?_)
      · refine x_aload_n (pc' := 24) rfl rfl rfl (x_iconst (pc' := 25) rfl rfl (x_iload_n (pc' := 26) rfl rfl rfl (x_invI3 (pc' := 29) rfl rfl rfl rfl rfl (c_X9_firstOnes 0 (by omega) k2 (by omega) hr0 _ hnp hv7) ?_)))
        refine x_goto rfl ?_
        refine x_iret rfl rfl ?_
        first | exact ok_id (by unfold f_wouldBe isKd; rw [bq h4, bq h13, if_pos h20, ix_nI (by omega)]; exact enc_congr _ (r2.fs hK r1 (by omega))) (fun _ _ _ _ _ => rfl) hr | exact ok_id (by unfold f_wouldBe isKd; rw [bq h4, bq h13, if_neg h20, ix_nI (by omega), r2.sn hK r1 (by omega)]; rfl) (fun _ _ _ _ _ => rfl) hr
      · refine x_aload_n (pc' := 33) rfl rfl rfl (x_iconst (pc' := 34) rfl rfl (x_iload_n (pc' := 35) rfl rfl rfl (x_invI3 (pc' := 38) rfl rfl rfl rfl rfl (c_X9_secondOne 0 (by omega) k2 (by omega) hr0 _ hnp hv7) ?_)))
        refine x_iret rfl rfl ?_
        first | exact ok_id (by unfold f_wouldBe isKd; rw [bq h4, bq h13, if_pos h20, ix_nI (by omega)]; exact enc_congr _ (r2.fs hK r1 (by omega))) (fun _ _ _ _ _ => rfl) hr | exact ok_id (by unfold f_wouldBe isKd; rw [bq h4, bq h13, if_neg h20, ix_nI (by omega), r2.sn hK r1 (by omega)]; rfl) (fun _ _ _ _ _ => rfl) hr
set_option maxRecDepth 20000 in
theorem l_X9_next {l : Launch} {X : XT} {d Lz : Nat} {w : WF} {a : AS} (hK : KV a.K) (r1 : KM w a.K) (r2 : RR w a.K 0 a.s) (hr0 : w 9 0 1 (0 + 46) = 0 ∨ w 9 0 1 (0 + 46) = nI 1) (p2 : Nat) : ∀ (kk n : Nat),  n ≤ 3 → 3 + 1 ≤ n + kk → WP l X (d + 6) md_X9_next (15, [some (.inr (.inr (9, 0, 0))), some (.inl (nI p2)), some (.inl (enc (fun k => decide (oI (snA a.K a.s k) = nI p2)) n)), some (.inl (nI n))], [], mk Lz w) (fun v M' => v = some (.inl (enc (fun k => decide (oI (snA a.K a.s k) = nI p2)) 3)) ∧ M' = mk Lz w) := by
  intro kk
  induction kk with
  | zero =>
    intro n h1 h2
    exact absurd h2 (by omega)
  | succ kk ih =>
    intro n hi1 hi2
    have hv7 := hK.1
    have hnp := r1.2.2.1
    refine x_iload_n (pc' := 16) rfl rfl rfl (x_iconst (pc' := 17) rfl rfl ?_)
    refine x_icmp_geN (pc' := 20) rfl rfl (by omega) (by omega) (fun h17 => ?_) (fun h17 => ?_)
    · refine x_iload_n (pc' := 47) rfl rfl rfl ?_
      refine x_iret rfl rfl ?_
      have e : n = 3 := by omega
      subst e
      exact rI rfl
    · refine x_iload_n (pc' := 21) rfl rfl rfl (x_aload_n (pc' := 22) rfl rfl rfl (x_iconst (pc' := 23) rfl rfl (x_iload_n (pc' := 24) rfl rfl rfl (x_invI3 (pc' := 27) rfl rfl rfl rfl rfl (c_X9_secondOne 0 (by omega) n (by omega) hr0 _ hnp hv7) ?_))))
      rw [r2.sn hK r1 (by omega)]
      refine x_iload_n (pc' := 28) rfl rfl rfl ?_
      refine x_icmp_ne (pc' := 31) rfl rfl (fun h28 => ?_) (fun h28 => ?_)
      · refine x_iconst (pc' := 32) rfl rfl (x_iload_n (pc' := 33) rfl rfl rfl (x_ishl (pc' := 34) rfl rfl (x_goto rfl (x_ior (pc' := 39) rfl rfl (x_istore_n2 (pc' := 40) rfl rfl rfl ?_)))))
        refine x_iinc3 (pc' := 43) rfl rfl rfl (nI_add _ _) (x_goto rfl ?_)
        exact WPc (ih (n + 1) (by omega) (by omega)) (by first | rw [← enc_t (f := fun k => decide (oI (snA a.K a.s k) = nI p2)) (dT h28)] | rw [← enc_f (f := fun k => decide (oI (snA a.K a.s k) = nI p2)) (dF h28), or_0]) rfl
      · refine x_iconst (pc' := 38) rfl rfl (x_ior (pc' := 39) rfl rfl (x_istore_n2 (pc' := 40) rfl rfl rfl (x_iinc3 (pc' := 43) rfl rfl rfl (nI_add _ _) (x_goto rfl ?_))))
        exact WPc (ih (n + 1) (by omega) (by omega)) (by first | rw [← enc_t (f := fun k => decide (oI (snA a.K a.s k) = nI p2)) (dT h28)] | rw [← enc_f (f := fun k => decide (oI (snA a.K a.s k) = nI p2)) (dF h28), or_0]) rfl
set_option maxRecDepth 20000 in
theorem M_X9_next {l : Launch} {X : XT} {d Lz : Nat} {w : WF} {a : AS} (h : MRel w a) (hV : AVl a) (p : Int32) : okM l X (d + 8) Lz md_X9_next [.inl (p)] w (f_next a p) (a) := by
  have hr := h
  obtain ⟨r1, r2, r3, r4, r5, r6, r7, r8, r9⟩ := h
  have hK := hV.1
  have hv7 := hK.1
  have hv4 := hK.2.1
  have hs := hV.2.1
  have hnp := r1.2.2.1
  have hno := r1.2.2.2.2.1
  have hg : ∀ q, q < 21 → w 9 0 1 q = a.s.g q := fun q hq => by have := r2.1 q hq; rwa [Nat.zero_add] at this
  have he : ∀ q, q < a.K.np → w 9 0 1 (21 + q) = a.s.e q := fun q hq => r2.2.1 q hq
  have hco : ∀ q, q < a.K.np → w 9 0 1 (28 + q) = a.s.co q := fun q hq => r2.2.2.1 q hq
  have hti : ∀ q, q < a.K.np → w 9 0 1 (35 + q) = a.s.ti q := fun q hq => r2.2.2.2.1 q hq
  have hho : ∀ q, q < a.K.no → w 9 0 1 (42 + q) = a.s.ho q := fun q hq => r2.2.2.2.2.1 q hq
  have hrn : w 9 0 1 46 = a.s.rn := r2.2.2.2.2.2.1
  have hdd : w 9 0 1 47 = nI a.s.dd := r2.2.2.2.2.2.2.1
  have hlc : w 9 0 1 48 = nI (min a.s.cc 20) := r2.2.2.2.2.2.2.2.1
  have hr0 : w 9 0 1 (0 + 46) = 0 ∨ w 9 0 1 (0 + 46) = nI 1 := by rw [r2.2.2.2.2.2.1]; exact hs.1.1
  have hdl := hs.2
  show WP l X _ md_X9_next (0, [some (.inr (.inr (9, 0, 0))), some (.inl (p)), none, none], [], _) _
  refine x_aload_n (pc' := 1) rfl rfl rfl (x_iload_n (pc' := 2) rfl rfl rfl (x_invI2 (pc' := 5) rfl rfl rfl rfl (p_X9_isPerson r1 _) ?_))
  refine x_if_ne (pc' := 8) rfl rfl (fun h5 => ?_) (fun h5 => ?_)
  · refine x_ldc (pc' := 10) rfl rfl ?_
    refine x_iret rfl rfl ?_
    exact ok_id (by unfold f_next; rw [bI_eq0.mp h5]; rfl) (fun _ _ _ _ _ => rfl) hr
  · obtain ⟨p2, hp, rfl⟩ := in_np (by omega) (bq h5)
    refine x_iconst (pc' := 12) rfl rfl (x_istore_n2 (pc' := 13) rfl rfl rfl (x_iconst (pc' := 14) rfl rfl (x_istore_n3 (pc' := 15) rfl rfl rfl ?_)))
    refine wp_cons (l_X9_next (d := d + 2) hK r1 r2 hr0 p2 4 0 (by omega) (by omega)) (fun v M hq => ?_)
    obtain ⟨rfl, rfl⟩ := hq
    exact ok_id (by unfold f_next; rw [bq h5]; rfl) (fun _ _ _ _ _ => rfl) hr
set_option maxRecDepth 20000 in
theorem M_X9_beats {l : Launch} {X : XT} {d Lz : Nat} {w : WF} {a : AS} (h : MRel w a) (hV : AVl a) (p : Int32) (q : Int32) : okM l X (d + 8) Lz md_X9_beats [.inl (p), .inl (q)] w (f_beats a p q) (a) := by
  have hr := h
  obtain ⟨r1, r2, r3, r4, r5, r6, r7, r8, r9⟩ := h
  have hK := hV.1
  have hv7 := hK.1
  have hv4 := hK.2.1
  have hs := hV.2.1
  have hnp := r1.2.2.1
  have hno := r1.2.2.2.2.1
  show WP l X _ md_X9_beats (0, [some (.inr (.inr (9, 0, 0))), some (.inl (p)), some (.inl (q))], [], _) _
  refine x_aload_n (pc' := 1) rfl rfl rfl (x_iload_n (pc' := 2) rfl rfl rfl (x_invI2 (pc' := 5) rfl rfl rfl rfl (p_X9_isPerson r1 _) ?_))
  refine x_if_eq (pc' := 8) rfl rfl (fun h5 => ?_) (fun h5 => ?_)
  · refine x_ldc (pc' := 23) rfl rfl ?_
    refine x_iret rfl rfl ?_
    first | exact ok_id (by unfold f_beats; rw [bI_eq0.mp h5]; rfl) (fun _ _ _ _ _ => rfl) hr | exact ok_id (by unfold f_beats; rw [bq h5, bI_eq0.mp h13]; rfl) (fun _ _ _ _ _ => rfl) hr | exact ok_id (by unfold f_beats; rw [bq h5, bq h13, dT h18]; rfl) (fun _ _ _ _ _ => rfl) hr
  · refine x_aload_n (pc' := 9) rfl rfl rfl (x_iload_n (pc' := 10) rfl rfl rfl (x_invI2 (pc' := 13) rfl rfl rfl rfl (p_X9_isPerson r1 _) ?_))
    refine x_if_eq (pc' := 16) rfl rfl (fun h13 => ?_) (fun h13 => ?_)
    · refine x_ldc (pc' := 23) rfl rfl ?_
      refine x_iret rfl rfl ?_
      first | exact ok_id (by unfold f_beats; rw [bI_eq0.mp h5]; rfl) (fun _ _ _ _ _ => rfl) hr | exact ok_id (by unfold f_beats; rw [bq h5, bI_eq0.mp h13]; rfl) (fun _ _ _ _ _ => rfl) hr | exact ok_id (by unfold f_beats; rw [bq h5, bq h13, dT h18]; rfl) (fun _ _ _ _ _ => rfl) hr
    · refine x_iload_n (pc' := 17) rfl rfl rfl (x_iload_n (pc' := 18) rfl rfl rfl ?_)
      refine x_icmp_ne (pc' := 21) rfl rfl (fun h18 => ?_) (fun h18 => ?_)
      · refine x_ldc (pc' := 23) rfl rfl ?_
        refine x_iret rfl rfl ?_
        first | exact ok_id (by unfold f_beats; rw [bI_eq0.mp h5]; rfl) (fun _ _ _ _ _ => rfl) hr | exact ok_id (by unfold f_beats; rw [bq h5, bI_eq0.mp h13]; rfl) (fun _ _ _ _ _ => rfl) hr | exact ok_id (by unfold f_beats; rw [bq h5, bq h13, dT h18]; rfl) (fun _ _ _ _ _ => rfl) hr
      · obtain ⟨p2, hp, rfl⟩ := in_np (by omega) (bq h5)
        obtain ⟨q2, hq, rfl⟩ := in_np (by omega) (bq h13)
        refine x_aload_n (pc' := 25) rfl rfl rfl (x_iload_n (pc' := 26) rfl rfl rfl (x_iload_n (pc' := 27) rfl rfl rfl (x_invI3 (pc' := 30) rfl rfl rfl rfl rfl (c_X9_doesBeat hK r1 r2 _ _ hp hq) ?_)))
        refine x_if_eq (pc' := 33) rfl rfl (fun h30 => ?_) (fun h30 => ?_)
        · refine x_iconst (pc' := 38) rfl rfl ?_
          refine x_iret rfl rfl ?_
          have hv := show f_beats a (nI p2) (nI q2) = bI (btA a.s.g p2 q2) from by unfold f_beats; rw [bq h5, bq h13, dF h18, ix_nI (by omega), ix_nI (by omega)]; rfl
          first | exact ok_id (by rw [hv, bq h30]; rfl) (fun _ _ _ _ _ => rfl) hr | exact ok_id (by rw [hv, bI_eq0.mp h30]; rfl) (fun _ _ _ _ _ => rfl) hr
        · refine x_iconst (pc' := 34) rfl rfl (x_goto rfl ?_)
          refine x_iret rfl rfl ?_
          have hv := show f_beats a (nI p2) (nI q2) = bI (btA a.s.g p2 q2) from by unfold f_beats; rw [bq h5, bq h13, dF h18, ix_nI (by omega), ix_nI (by omega)]; rfl
          first | exact ok_id (by rw [hv, bq h30]; rfl) (fun _ _ _ _ _ => rfl) hr | exact ok_id (by rw [hv, bI_eq0.mp h30]; rfl) (fun _ _ _ _ _ => rfl) hr
theorem mx_0 {x : Int32} {v : Nat} (hv : v ≤ 9) (h : x = nI v) : (x ≤ nI 0 → nI 0 = x) ∧ (nI 9 ≤ x → nI 9 = x) := by
  subst h
  have h9 : ∀ v, v ≤ 9 → ((nI v ≤ nI 0 → nI 0 = nI v) ∧ (nI 9 ≤ nI v → nI 9 = nI v)) := by decide
  exact h9 v hv
theorem mxI_f {x y : Int32} (h : ¬ y ≤ x) : mxI x y = y := by unfold mxI; rw [if_pos (Int32.not_le.mp h)]
theorem mxI_t {x y : Int32} (h : y ≤ x) : mxI x y = x := by unfold mxI; rw [if_neg (Int32.not_lt.mpr h)]
theorem mnI_f {x y : Int32} (h : ¬ x ≤ y) : mnI x y = y := by unfold mnI; rw [if_pos (Int32.not_le.mp h)]
theorem mnI_t {x y : Int32} (h : x ≤ y) : mnI x y = x := by unfold mnI; rw [if_neg (Int32.not_lt.mpr h)]
set_option maxRecDepth 20000 in
theorem l_X9_spread {l : Launch} {X : XT} {d Lz : Nat} {w : WF} {a : AS} (hK : KV a.K) (r1 : KM w a.K) (hg : ∀ q, q < 21 → w 9 0 1 q = a.s.g q) (k : Nat) (hk : k < 3) (h1 : 1 ≤ a.K.np) : ∀ (kk n : Nat), ∀ (z : Option AV),  n ≤ (a.K.np - 1) → (a.K.np - 1) + 1 ≤ n + kk → WP l X (d + 1) md_X9_spread (29, [some (.inr (.inr (9, 0, 0))), some (.inl (nI k)), some (.inl (mxS a.s.g k n)), some (.inl (mnS a.s.g k n)), some (.inl (nI (n + 1))), z], [], mk Lz w) (fun v M' => v = some (.inl (spA a.s.g k a.K.np)) ∧ M' = mk Lz w) := by
  intro kk
  induction kk with
  | zero =>
    intro n z h1 h2
    exact absurd h2 (by omega)
  | succ kk ih =>
    intro n z hi1 hi2
    have hv7 := hK.1
    have hnp := r1.2.2.1
    refine x_iload (pc' := 31) rfl rfl rfl (x_aload_n (pc' := 32) rfl rfl rfl (x_getI (pc' := 35) rfl rfl rfl ?_))
    rw [hnp]
    refine x_icmp_geN (pc' := 38) rfl rfl (by omega) (by omega) (fun h35 => ?_) (fun h35 => ?_)
    · refine x_iload_n (pc' := 84) rfl rfl rfl (x_iload_n (pc' := 85) rfl rfl rfl (x_isub (pc' := 86) rfl rfl ?_))
      refine x_iret rfl rfl ?_
      have e : n = a.K.np - 1 := by omega
      subst e
      exact rI (by unfold spA; rw [if_neg (by omega)])
    · refine x_aload_n (pc' := 39) rfl rfl rfl (x_getR (pc' := 42) (t := (9, _, 1)) rfl rfl rfl (x_iconst (pc' := 43) rfl rfl (x_iload (pc' := 45) rfl rfl rfl (x_imulN (pc' := 46) rfl rfl (x_iload_n (pc' := 47) rfl rfl rfl ?_)))))
      refine x_iaddN (pc' := 48) rfl rfl (x_iald (pc' := 49) (N := 4420) rfl rfl rfl rfl (by first | assumption | omega) (by decide) ?_)
      rw [hg _ (by omega), show 3 * (n + 1) + k = (n + 1) * 3 + k by omega]
      refine x_istore5 (pc' := 51) rfl rfl rfl (x_iload (pc' := 53) rfl rfl rfl (x_iload_n (pc' := 54) rfl rfl rfl ?_))
      refine x_icmp_le (pc' := 57) rfl rfl (fun h54 => ?_) (fun h54 => ?_)
      · refine x_iload_n (pc' := 63) rfl rfl rfl (x_istore_n2 (pc' := 64) rfl rfl rfl (x_iload (pc' := 66) rfl rfl rfl (x_iload_n (pc' := 67) rfl rfl rfl ?_)))
        refine x_icmp_ge (pc' := 70) rfl rfl (fun h67 => ?_) (fun h67 => ?_)
        · refine x_iload_n (pc' := 76) rfl rfl rfl (x_istore_n3 (pc' := 77) rfl rfl rfl (x_iinc4 (pc' := 80) rfl rfl rfl (nI_add _ _) (x_goto rfl ?_)))
          exact WPc (ih (n + 1) _ (by omega) (by omega)) (by first | rw [show mxS a.s.g k (n + 1) = mxS a.s.g k n from mxI_t h54, show mnS a.s.g k (n + 1) = mnS a.s.g k n from mnI_t h67] | rw [show mxS a.s.g k (n + 1) = mxS a.s.g k n from mxI_t h54, show mnS a.s.g k (n + 1) = a.s.g ((n + 1) * 3 + k) from mnI_f h67] | rw [show mxS a.s.g k (n + 1) = a.s.g ((n + 1) * 3 + k) from mxI_f h54, show mnS a.s.g k (n + 1) = mnS a.s.g k n from mnI_t h67] | rw [show mxS a.s.g k (n + 1) = a.s.g ((n + 1) * 3 + k) from mxI_f h54, show mnS a.s.g k (n + 1) = a.s.g ((n + 1) * 3 + k) from mnI_f h67]) rfl
        · refine x_iload (pc' := 72) rfl rfl rfl (x_goto rfl (x_istore_n3 (pc' := 77) rfl rfl rfl (x_iinc4 (pc' := 80) rfl rfl rfl (nI_add _ _) (x_goto rfl ?_))))
          exact WPc (ih (n + 1) _ (by omega) (by omega)) (by first | rw [show mxS a.s.g k (n + 1) = mxS a.s.g k n from mxI_t h54, show mnS a.s.g k (n + 1) = mnS a.s.g k n from mnI_t h67] | rw [show mxS a.s.g k (n + 1) = mxS a.s.g k n from mxI_t h54, show mnS a.s.g k (n + 1) = a.s.g ((n + 1) * 3 + k) from mnI_f h67] | rw [show mxS a.s.g k (n + 1) = a.s.g ((n + 1) * 3 + k) from mxI_f h54, show mnS a.s.g k (n + 1) = mnS a.s.g k n from mnI_t h67] | rw [show mxS a.s.g k (n + 1) = a.s.g ((n + 1) * 3 + k) from mxI_f h54, show mnS a.s.g k (n + 1) = a.s.g ((n + 1) * 3 + k) from mnI_f h67]) rfl
      · refine x_iload (pc' := 59) rfl rfl rfl (x_goto rfl (x_istore_n2 (pc' := 64) rfl rfl rfl (x_iload (pc' := 66) rfl rfl rfl (x_iload_n (pc' := 67) rfl rfl rfl ?_))))
        refine x_icmp_ge (pc' := 70) rfl rfl (fun h67 => ?_) (fun h67 => ?_)
        · refine x_iload_n (pc' := 76) rfl rfl rfl (x_istore_n3 (pc' := 77) rfl rfl rfl (x_iinc4 (pc' := 80) rfl rfl rfl (nI_add _ _) (x_goto rfl ?_)))
          exact WPc (ih (n + 1) _ (by omega) (by omega)) (by first | rw [show mxS a.s.g k (n + 1) = mxS a.s.g k n from mxI_t h54, show mnS a.s.g k (n + 1) = mnS a.s.g k n from mnI_t h67] | rw [show mxS a.s.g k (n + 1) = mxS a.s.g k n from mxI_t h54, show mnS a.s.g k (n + 1) = a.s.g ((n + 1) * 3 + k) from mnI_f h67] | rw [show mxS a.s.g k (n + 1) = a.s.g ((n + 1) * 3 + k) from mxI_f h54, show mnS a.s.g k (n + 1) = mnS a.s.g k n from mnI_t h67] | rw [show mxS a.s.g k (n + 1) = a.s.g ((n + 1) * 3 + k) from mxI_f h54, show mnS a.s.g k (n + 1) = a.s.g ((n + 1) * 3 + k) from mnI_f h67]) rfl
        · refine x_iload (pc' := 72) rfl rfl rfl (x_goto rfl (x_istore_n3 (pc' := 77) rfl rfl rfl (x_iinc4 (pc' := 80) rfl rfl rfl (nI_add _ _) (x_goto rfl ?_))))
          exact WPc (ih (n + 1) _ (by omega) (by omega)) (by first | rw [show mxS a.s.g k (n + 1) = mxS a.s.g k n from mxI_t h54, show mnS a.s.g k (n + 1) = mnS a.s.g k n from mnI_t h67] | rw [show mxS a.s.g k (n + 1) = mxS a.s.g k n from mxI_t h54, show mnS a.s.g k (n + 1) = a.s.g ((n + 1) * 3 + k) from mnI_f h67] | rw [show mxS a.s.g k (n + 1) = a.s.g ((n + 1) * 3 + k) from mxI_f h54, show mnS a.s.g k (n + 1) = mnS a.s.g k n from mnI_t h67] | rw [show mxS a.s.g k (n + 1) = a.s.g ((n + 1) * 3 + k) from mxI_f h54, show mnS a.s.g k (n + 1) = a.s.g ((n + 1) * 3 + k) from mnI_f h67]) rfl
set_option maxRecDepth 20000 in
theorem r_X9_spread {l : Launch} {X : XT} {d Lz : Nat} {w : WF} {a : AS} (hK : KV a.K) (r1 : KM w a.K) (hg : ∀ q, q < 21 → w 9 0 1 q = a.s.g q) (k : Nat) (hk : k < 3) (hs : SV a.s) (h1 : 1 ≤ a.K.np) (z : Option AV) : WP l X (d + 1) md_X9_spread (29, [some (.inr (.inr (9, 0, 0))), some (.inl (nI k)), some (.inl (nI 0)), some (.inl (nI 9)), some (.inl (nI 0)), z], [], mk Lz w) (fun v M' => v = some (.inl (spA a.s.g k a.K.np)) ∧ M' = mk Lz w) := by
  have hv7 := hK.1
  have hnp := r1.2.2.1
  obtain ⟨v, hv, hgv⟩ := hs.2.1 (0 * 3 + k) (by omega)
  have hm := mx_0 hv hgv
  refine x_iload (pc' := 31) rfl rfl rfl (x_aload_n (pc' := 32) rfl rfl rfl (x_getI (pc' := 35) rfl rfl rfl ?_))
  rw [hnp]
  refine x_icmp_geN (pc' := 38) rfl rfl (by omega) (by omega) (fun h35 => ?_) (fun h35 => ?_)
  · refine x_iload_n (pc' := 84) rfl rfl rfl (x_iload_n (pc' := 85) rfl rfl rfl (x_isub (pc' := 86) rfl rfl ?_))
    refine x_iret rfl rfl ?_
    exact absurd h35 (by omega)
  · refine x_aload_n (pc' := 39) rfl rfl rfl (x_getR (pc' := 42) (t := (9, _, 1)) rfl rfl rfl (x_iconst (pc' := 43) rfl rfl (x_iload (pc' := 45) rfl rfl rfl (x_imulN (pc' := 46) rfl rfl (x_iload_n (pc' := 47) rfl rfl rfl ?_)))))
    refine x_iaddN (pc' := 48) rfl rfl (x_iald (pc' := 49) (N := 4420) rfl rfl rfl rfl (by first | assumption | omega) (by decide) ?_)
    rw [hg _ (by omega), show 3 * 0 + k = 0 * 3 + k by omega]
    refine x_istore5 (pc' := 51) rfl rfl rfl (x_iload (pc' := 53) rfl rfl rfl (x_iload_n (pc' := 54) rfl rfl rfl ?_))
    refine x_icmp_le (pc' := 57) rfl rfl (fun h54 => ?_) (fun h54 => ?_)
    · refine x_iload_n (pc' := 63) rfl rfl rfl (x_istore_n2 (pc' := 64) rfl rfl rfl (x_iload (pc' := 66) rfl rfl rfl (x_iload_n (pc' := 67) rfl rfl rfl ?_)))
      refine x_icmp_ge (pc' := 70) rfl rfl (fun h67 => ?_) (fun h67 => ?_)
      · refine x_iload_n (pc' := 76) rfl rfl rfl (x_istore_n3 (pc' := 77) rfl rfl rfl (x_iinc4 (pc' := 80) rfl rfl rfl (nI_add _ _) (x_goto rfl ?_)))
        first | exact WPc (l_X9_spread hK r1 hg k hk (by omega) (a.K.np + 1) 0 (some (.inl (a.s.g (0 * 3 + k)))) (by omega) (by omega)) (by rw [hm.1 h54, hm.2 h67]; rfl) rfl | exact WPc (l_X9_spread hK r1 hg k hk (by omega) (a.K.np + 1) 0 (some (.inl (a.s.g (0 * 3 + k)))) (by omega) (by omega)) (by rw [hm.1 h54]; rfl) rfl | exact WPc (l_X9_spread hK r1 hg k hk (by omega) (a.K.np + 1) 0 (some (.inl (a.s.g (0 * 3 + k)))) (by omega) (by omega)) (by rw [hm.2 h67]; rfl) rfl | exact l_X9_spread hK r1 hg k hk (by omega) (a.K.np + 1) 0 (some (.inl (a.s.g (0 * 3 + k)))) (by omega) (by omega)
      · refine x_iload (pc' := 72) rfl rfl rfl (x_goto rfl (x_istore_n3 (pc' := 77) rfl rfl rfl (x_iinc4 (pc' := 80) rfl rfl rfl (nI_add _ _) (x_goto rfl ?_))))
        first | exact WPc (l_X9_spread hK r1 hg k hk (by omega) (a.K.np + 1) 0 (some (.inl (a.s.g (0 * 3 + k)))) (by omega) (by omega)) (by rw [hm.1 h54, hm.2 h67]; rfl) rfl | exact WPc (l_X9_spread hK r1 hg k hk (by omega) (a.K.np + 1) 0 (some (.inl (a.s.g (0 * 3 + k)))) (by omega) (by omega)) (by rw [hm.1 h54]; rfl) rfl | exact WPc (l_X9_spread hK r1 hg k hk (by omega) (a.K.np + 1) 0 (some (.inl (a.s.g (0 * 3 + k)))) (by omega) (by omega)) (by rw [hm.2 h67]; rfl) rfl | exact l_X9_spread hK r1 hg k hk (by omega) (a.K.np + 1) 0 (some (.inl (a.s.g (0 * 3 + k)))) (by omega) (by omega)
    · refine x_iload (pc' := 59) rfl rfl rfl (x_goto rfl (x_istore_n2 (pc' := 64) rfl rfl rfl (x_iload (pc' := 66) rfl rfl rfl (x_iload_n (pc' := 67) rfl rfl rfl ?_))))
      refine x_icmp_ge (pc' := 70) rfl rfl (fun h67 => ?_) (fun h67 => ?_)
      · refine x_iload_n (pc' := 76) rfl rfl rfl (x_istore_n3 (pc' := 77) rfl rfl rfl (x_iinc4 (pc' := 80) rfl rfl rfl (nI_add _ _) (x_goto rfl ?_)))
        first | exact WPc (l_X9_spread hK r1 hg k hk (by omega) (a.K.np + 1) 0 (some (.inl (a.s.g (0 * 3 + k)))) (by omega) (by omega)) (by rw [hm.1 h54, hm.2 h67]; rfl) rfl | exact WPc (l_X9_spread hK r1 hg k hk (by omega) (a.K.np + 1) 0 (some (.inl (a.s.g (0 * 3 + k)))) (by omega) (by omega)) (by rw [hm.1 h54]; rfl) rfl | exact WPc (l_X9_spread hK r1 hg k hk (by omega) (a.K.np + 1) 0 (some (.inl (a.s.g (0 * 3 + k)))) (by omega) (by omega)) (by rw [hm.2 h67]; rfl) rfl | exact l_X9_spread hK r1 hg k hk (by omega) (a.K.np + 1) 0 (some (.inl (a.s.g (0 * 3 + k)))) (by omega) (by omega)
      · refine x_iload (pc' := 72) rfl rfl rfl (x_goto rfl (x_istore_n3 (pc' := 77) rfl rfl rfl (x_iinc4 (pc' := 80) rfl rfl rfl (nI_add _ _) (x_goto rfl ?_))))
        first | exact WPc (l_X9_spread hK r1 hg k hk (by omega) (a.K.np + 1) 0 (some (.inl (a.s.g (0 * 3 + k)))) (by omega) (by omega)) (by rw [hm.1 h54, hm.2 h67]; rfl) rfl | exact WPc (l_X9_spread hK r1 hg k hk (by omega) (a.K.np + 1) 0 (some (.inl (a.s.g (0 * 3 + k)))) (by omega) (by omega)) (by rw [hm.1 h54]; rfl) rfl | exact WPc (l_X9_spread hK r1 hg k hk (by omega) (a.K.np + 1) 0 (some (.inl (a.s.g (0 * 3 + k)))) (by omega) (by omega)) (by rw [hm.2 h67]; rfl) rfl | exact l_X9_spread hK r1 hg k hk (by omega) (a.K.np + 1) 0 (some (.inl (a.s.g (0 * 3 + k)))) (by omega) (by omega)
set_option maxRecDepth 20000 in
theorem M_X9_spread {l : Launch} {X : XT} {d Lz : Nat} {w : WF} {a : AS} (h : MRel w a) (hV : AVl a) (k : Int32) : okM l X (d + 8) Lz md_X9_spread [.inl (k)] w (f_spread a k) (a) := by
  have hr := h
  obtain ⟨r1, r2, r3, r4, r5, r6, r7, r8, r9⟩ := h
  have hK := hV.1
  have hv7 := hK.1
  have hv4 := hK.2.1
  have hs := hV.2.1
  have hnp := r1.2.2.1
  have hno := r1.2.2.2.2.1
  have hg : ∀ q, q < 21 → w 9 0 1 q = a.s.g q := fun q hq => by have := r2.1 q hq; rwa [Nat.zero_add] at this
  have he : ∀ q, q < a.K.np → w 9 0 1 (21 + q) = a.s.e q := fun q hq => r2.2.1 q hq
  have hco : ∀ q, q < a.K.np → w 9 0 1 (28 + q) = a.s.co q := fun q hq => r2.2.2.1 q hq
  have hti : ∀ q, q < a.K.np → w 9 0 1 (35 + q) = a.s.ti q := fun q hq => r2.2.2.2.1 q hq
  have hho : ∀ q, q < a.K.no → w 9 0 1 (42 + q) = a.s.ho q := fun q hq => r2.2.2.2.2.1 q hq
  have hrn : w 9 0 1 46 = a.s.rn := r2.2.2.2.2.2.1
  have hdd : w 9 0 1 47 = nI a.s.dd := r2.2.2.2.2.2.2.1
  have hlc : w 9 0 1 48 = nI (min a.s.cc 20) := r2.2.2.2.2.2.2.2.1
  have hr0 : w 9 0 1 (0 + 46) = 0 ∨ w 9 0 1 (0 + 46) = nI 1 := by rw [r2.2.2.2.2.2.1]; exact hs.1.1
  have hdl := hs.2
  show WP l X _ md_X9_spread (0, [some (.inr (.inr (9, 0, 0))), some (.inl (k)), none, none, none, none], [], _) _
  refine x_iload_n (pc' := 1) rfl rfl rfl (x_invS1 (pc' := 4) rfl rfl rfl rfl (c_X9_isKind _) ?_)
  refine x_if_ne (pc' := 7) rfl rfl (fun h4 => ?_) (fun h4 => ?_)
  · refine x_ldc (pc' := 9) rfl rfl ?_
    refine x_iret rfl rfl ?_
    exact ok_id (by unfold f_spread isKd; rw [bI_eq0.mp h4]; rfl) (fun _ _ _ _ _ => rfl) hr
  · obtain ⟨k2, -, hk2, rfl⟩ := in_num (by omega) (bq h4) (by omega)
    refine x_iconst (pc' := 11) rfl rfl (x_istore_n2 (pc' := 12) rfl rfl rfl (x_aload_n (pc' := 13) rfl rfl rfl (x_getI (pc' := 16) rfl rfl rfl ?_)))
    rw [hnp]
    refine x_if_ne (pc' := 19) rfl rfl (fun h16 => ?_) (fun h16 => ?_)
    · refine x_iconst (pc' := 20) rfl rfl (x_goto rfl (x_istore_n3 (pc' := 26) rfl rfl rfl (x_iconst (pc' := 27) rfl rfl (x_istore4 (pc' := 29) rfl rfl rfl ?_))))
      have h0 := z0 h16 (by omega)
      refine x_iload (pc' := 31) rfl rfl rfl (x_aload_n (pc' := 32) rfl rfl rfl (x_getI (pc' := 35) rfl rfl rfl ?_))
      rw [hnp, h0]
      refine x_icmp_ge (pc' := 38) rfl rfl (fun h35 => ?_) (fun h35 => absurd (Int32.le_refl _) h35)
      refine x_iload_n (pc' := 84) rfl rfl rfl (x_iload_n (pc' := 85) rfl rfl rfl (x_isub (pc' := 86) rfl rfl ?_))
      refine x_iret rfl rfl ?_
      exact ok_id (by unfold f_spread isKd spA; rw [bq h4, ix_nI (by omega), h0]; rfl) (fun _ _ _ _ _ => rfl) hr
    · refine x_bipush (pc' := 25) rfl rfl (x_istore_n3 (pc' := 26) rfl rfl rfl (x_iconst (pc' := 27) rfl rfl (x_istore4 (pc' := 29) rfl rfl rfl ?_)))
      have h0 := z1 h16
      refine wp_cons (r_X9_spread (d := d + 7) hK r1 hg k2 (by omega) hs.1 (by omega) _) (fun v M hq => ?_)
      obtain ⟨rfl, rfl⟩ := hq
      exact ok_id (by unfold f_spread isKd; rw [bq h4, ix_nI (by omega)]; rfl) (fun _ _ _ _ _ => rfl) hr
theorem MRel_tx {w w2 : WF} {a : AS} (hV : KV a.K) (h : MRel w a) (hf : ∀ i o q, ¬ (i = 0 ∧ o = 12) → ¬ (i = 0 ∧ o = 0 ∧ q = 12) → w2 9 i o q = w 9 i o q) {n : Nat} {tx : Nat → Nat} (ht : TxM w2 n tx) : MRel w2 (a.1, a.2.1, a.2.2.1, a.2.2.2.1, a.2.2.2.2.1, a.2.2.2.2.2.1, a.2.2.2.2.2.2.1, (n, tx), a.fl) := by
  obtain ⟨r1, r2, r3, r4, r5, r6, r7, r8, r9⟩ := h
  have e : ∀ o, o ≠ 0 → o ≠ 12 → ∀ q, w2 9 0 o q = w 9 0 o q := fun o h0 h1 q => hf 0 o q (by omega) (by omega)
  have e0 : ∀ q, q ≠ 12 → w2 9 0 0 q = w 9 0 0 q := fun q hq => hf 0 0 q (by omega) (by omega)
  have e1 := e 1 (by omega) (by omega)
  refine ⟨?_, RR_cg (fun q _ _ => e1 q) hV r2, PaM_cg (e0 9 (by omega)) (fun q _ => e1 q) hV r3, ImM_cg (e0 10 (by omega)) (fun q _ _ => e1 q) hV r4, (e1 129).trans r5, SeM_cg (e0 16 (by omega)) (e 15 (by omega) (by omega)) (e 16 (by omega) (by omega)) r6, BoM_cg (e0 19 (by omega)) (e 18 (by omega) (by omega)) (e 19 (by omega) (by omega)) r7, ht, (e0 13 (by omega)).trans r9⟩
  show KM w2 a.K
  unfold KM
  rw [e0 4 (by omega), e0 5 (by omega), e0 6 (by omega), e0 8 (by omega), e0 7 (by omega)]
  simp only [e 2 (by omega) (by omega), e 3 (by omega) (by omega), e 4 (by omega) (by omega)]
  exact r1
set_option maxRecDepth 20000 in
theorem M_X9_feed {l : Launch} {X : XT} {d Lz : Nat} {w : WF} {a : AS} (h : MRel w a) (hV : AVl a) (x : Int32) : okM l X (d + 8) Lz md_X9_feed [.inl (x)] w ((f_feed a x).1) ((f_feed a x).2) := by
  have hr := h
  obtain ⟨r1, r2, r3, r4, r5, r6, r7, r8, r9⟩ := h
  have hK := hV.1
  have hv7 := hK.1
  have hv4 := hK.2.1
  have hs := hV.2.1
  have hnp := r1.2.2.1
  have hno := r1.2.2.2.2.1
  show WP l X _ md_X9_feed (0, [some (.inr (.inr (9, 0, 0))), some (.inl (x))], [], _) _
  refine x_iload_n (pc' := 1) rfl rfl rfl (x_iconst (pc' := 2) rfl rfl (x_sipush (pc' := 5) rfl rfl (x_invS3 (pc' := 8) rfl rfl rfl rfl rfl rfl (c_X9_in _ _ _) ?_)))
  refine x_if_ne (pc' := 11) rfl rfl (fun h8 => ?_) (fun h8 => ?_)
  · refine x_ldc (pc' := 13) rfl rfl ?_
    refine x_iret rfl rfl ?_
    exact ok_id (by unfold f_feed; rw [bI_eq0.mp h8]; rfl) (fun _ _ _ _ _ => rfl) (by unfold f_feed; rw [bI_eq0.mp h8]; exact hr)
  · obtain ⟨m, -, hm, rfl⟩ := in_num (by omega) (bq h8) (by omega)
    have ht := hV.2.2.2.2.2.2.2.1
    refine x_aload_n (pc' := 15) rfl rfl rfl (x_getI (pc' := 18) rfl rfl rfl ?_)
    rw [r8.1]
    refine x_sipush (pc' := 21) rfl rfl ?_
    refine x_icmp_neN (pc' := 24) rfl rfl (by omega) (by omega) (fun h21 => ?_) (fun h21 => ?_)
    · refine x_ldc (pc' := 26) rfl rfl ?_
      refine x_iret rfl rfl ?_
      exact ok_id (by unfold f_feed; rw [bq h8, if_neg (by omega)]; rfl) (fun _ _ _ _ _ => rfl) (by unfold f_feed; rw [bq h8, if_neg (by omega)]; exact hr)
    · refine x_aload_n (pc' := 28) rfl rfl rfl (x_getR (pc' := 31) (t := (9, _, 12)) rfl rfl rfl (x_aload_n (pc' := 32) rfl rfl rfl (x_getI (pc' := 35) rfl rfl rfl ?_)))
      rw [r8.1]
      refine x_iload_n (pc' := 36) rfl rfl rfl (x_iast (pc' := 37) (N := 240) rfl rfl rfl (by decide) rfl (by omega) (by decide) (x_aload_n (pc' := 38) rfl rfl rfl (x_dup (pc' := 39) rfl rfl rfl (x_getI (pc' := 42) rfl rfl rfl ?_))))
      rw [u4_ne (by decide), r8.1]
      refine x_iconst (pc' := 43) rfl rfl (x_iaddN (pc' := 44) rfl rfl (x_putI (pc' := 47) rfl rfl rfl (x_aload_n (pc' := 48) rfl rfl rfl (x_getI (pc' := 51) rfl rfl rfl ?_))))
      refine x_iret rfl rfl ?_
      refine ok_id (by unfold f_feed; rw [bq h8, if_pos (by omega), u4_self]; rfl) (fun c i o q hc => ?_) ?_
      · rw [u4_ne (ne3 (by omega)), u4_ne (ne3 (by omega))]
      · unfold f_feed; rw [bq h8, if_pos (by omega), ix_nI (by omega)]
        refine MRel_tx hK hr (fun i o q h1 h2 => ?_) ⟨u4_self _ _ _ _ _ _, fun q hq => ?_⟩
        · have e1 : u4 (u4 w 9 0 12 a.tn (nI m)) 9 0 0 12 (nI (a.tn + 1)) 9 i o q = u4 w 9 0 12 a.tn (nI m) 9 i o q := by unfold u4; rw [if_neg (by omega)]
          rw [e1, u4_ne (ne3 (by omega))]
        · rw [u4_ne (by decide), u4_at]
          show _ = nI (if q = a.tn then m else a.tx q)
          by_cases z : q = a.tn
          · rw [if_pos z, if_pos z]
          · rw [if_neg z, if_neg z]; exact r8.2 q (by omega)
