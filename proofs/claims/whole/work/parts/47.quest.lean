/-! questions, to the object -/
set_option maxRecDepth 20000 in
theorem C_X8_fault {l : Launch} {X : XT} {d Lz : Nat} {w : WF} {a : AS} (h : CRel w a) (hV : AVl a) : okC l X (d + 7) Lz md_X8_fault [] w (a.fl) (a) := by
  have hr := h
  obtain ⟨r1, r2, r3, r4, r5, r6, r7, r8, r9, r10⟩ := h
  have hK := hV.1
  have hv7 := hK.1
  have hv4 := hK.2.1
  have hs := hV.2.1
  have hnp := r2.2.2.1
  show WP l X _ md_X8_fault (0, [some (.inr (.inr (8, 0, 0)))], [], _) _
  refine x_aload_n (pc' := 1) rfl rfl rfl (x_getR (pc' := 4) (t := (7, 0, 0)) rfl rfl rfl (x_getI (pc' := 7) rfl rfl rfl ?_))
  refine x_iret rfl rfl ?_
  exact ok_id (r10) (fun _ _ _ _ _ => rfl) hr
set_option maxRecDepth 20000 in
theorem C_X8_told {l : Launch} {X : XT} {d Lz : Nat} {w : WF} {a : AS} (h : CRel w a) (hV : AVl a) (x : Int32) : okC l X (d + 7) Lz md_X8_told [.inl (x)] w (f_told a x) (a) := by
  have hr := h
  obtain ⟨r1, r2, r3, r4, r5, r6, r7, r8, r9, r10⟩ := h
  have hK := hV.1
  have hv7 := hK.1
  have hv4 := hK.2.1
  have hs := hV.2.1
  have hnp := r2.2.2.1
  show WP l X _ md_X8_told (0, [some (.inr (.inr (8, 0, 0))), some (.inl (x))], [], _) _
  refine x_iload_n (pc' := 1) rfl rfl rfl ?_
  refine x_tswG rfl ?_
  refine sw_c (fun h1_0 => ?_) (fun n1_0 => ?_)
  · refine x_aload_n (pc' := 85) rfl rfl rfl (x_getR5 (pc' := 88) rfl rfl rfl (x_getI (pc' := 91) rfl rfl rfl ?_))
    refine x_iret rfl rfl ?_
    subst h1_0
    exact ok_id (r2.1) (fun _ _ _ _ _ => rfl) hr
  refine sw_c (fun h1_1 => ?_) (fun n1_1 => ?_)
  · refine x_aload_n (pc' := 93) rfl rfl rfl (x_getR5 (pc' := 96) rfl rfl rfl (x_getI (pc' := 99) rfl rfl rfl ?_))
    refine x_iret rfl rfl ?_
    subst h1_1
    exact ok_id (r2.2.1) (fun _ _ _ _ _ => rfl) hr
  refine sw_c (fun h1_2 => ?_) (fun n1_2 => ?_)
  · refine x_aload_n (pc' := 101) rfl rfl rfl (x_getR5 (pc' := 104) rfl rfl rfl (x_getI (pc' := 107) rfl rfl rfl ?_))
    refine x_iret rfl rfl ?_
    subst h1_2
    exact ok_id (hnp) (fun _ _ _ _ _ => rfl) hr
  refine sw_c (fun h1_3 => ?_) (fun n1_3 => ?_)
  · refine x_aload_n (pc' := 109) rfl rfl rfl (x_getR5 (pc' := 112) rfl rfl rfl (x_getI (pc' := 115) rfl rfl rfl ?_))
    refine x_iret rfl rfl ?_
    subst h1_3
    exact ok_id (r2.2.2.2.2.1) (fun _ _ _ _ _ => rfl) hr
  refine sw_c (fun h1_4 => ?_) (fun n1_4 => ?_)
  · refine x_aload_n (pc' := 117) rfl rfl rfl (x_getR5 (pc' := 120) rfl rfl rfl (x_getI (pc' := 123) rfl rfl rfl ?_))
    refine x_iret rfl rfl ?_
    subst h1_4
    exact ok_id (r2.2.2.2.1) (fun _ _ _ _ _ => rfl) hr
  refine sw_c (fun h1_5 => ?_) (fun n1_5 => ?_)
  · refine x_aload_n (pc' := 125) rfl rfl rfl (x_getR (pc' := 128) (t := (7, 0, 0)) rfl rfl rfl (x_getI (pc' := 131) rfl rfl rfl ?_))
    refine x_iret rfl rfl ?_
    subst h1_5
    exact ok_id (r9.1) (fun _ _ _ _ _ => rfl) hr
  refine sw_c (fun h1_6 => ?_) (fun n1_6 => ?_)
  · refine x_aload_n (pc' := 133) rfl rfl rfl (x_getR (pc' := 136) (t := (6, 0, 0)) rfl rfl rfl (x_getI (pc' := 139) rfl rfl rfl ?_))
    refine x_iret rfl rfl ?_
    subst h1_6
    exact ok_id (r3.2.2.2.2.2.2.1) (fun _ _ _ _ _ => rfl) hr
  refine sw_c (fun h1_7 => ?_) (fun n1_7 => ?_)
  · refine x_aload_n (pc' := 141) rfl rfl rfl (x_getR (pc' := 144) (t := (6, 0, 0)) rfl rfl rfl (x_getI (pc' := 147) rfl rfl rfl ?_))
    refine x_if_eq (pc' := 150) rfl rfl (fun h147 => ?_) (fun h147 => ?_)
    · refine x_iconst (pc' := 155) rfl rfl ?_
      refine x_iret rfl rfl ?_
      subst h1_7
      first | exact ok_id (by rw [r3.2.2.2.2.2.1] at h147; exact h147.symm) (fun _ _ _ _ _ => rfl) hr | exact ok_id (by rw [r3.2.2.2.2.2.1] at h147; exact (hs.1.1.resolve_left h147).symm) (fun _ _ _ _ _ => rfl) hr
    · refine x_iconst (pc' := 151) rfl rfl (x_goto rfl ?_)
      refine x_iret rfl rfl ?_
      subst h1_7
      first | exact ok_id (by rw [r3.2.2.2.2.2.1] at h147; exact h147.symm) (fun _ _ _ _ _ => rfl) hr | exact ok_id (by rw [r3.2.2.2.2.2.1] at h147; exact (hs.1.1.resolve_left h147).symm) (fun _ _ _ _ _ => rfl) hr
  refine sw_c (fun h1_8 => ?_) (fun n1_8 => ?_)
  · refine x_aload_n (pc' := 157) rfl rfl rfl (x_getR (pc' := 160) (t := (6, 0, 0)) rfl rfl rfl (x_aload_n (pc' := 161) rfl rfl rfl (x_getR5 (pc' := 164) rfl rfl rfl (x_invI2 (pc' := 167) rfl rfl rfl rfl (c_X6_courtOf 0 _ _ hnp hv7) ?_))))
    refine x_iret rfl rfl ?_
    subst h1_8
    exact ok_id (enc_congr (g := coA a.s) _ (fun p hp => r3.co p hp)) (fun _ _ _ _ _ => rfl) hr
  refine sw_c (fun h1_9 => ?_) (fun n1_9 => ?_)
  · refine x_aload_n (pc' := 169) rfl rfl rfl (x_getR (pc' := 172) (t := (6, 0, 0)) rfl rfl rfl (x_aload_n (pc' := 173) rfl rfl rfl (x_getR5 (pc' := 176) rfl rfl rfl (x_iconst (pc' := 177) rfl rfl (x_invI3 (pc' := 180) rfl rfl rfl rfl rfl (c_X6_officesOf 0 (-1) _ _ r2.2.2.2.2.1 hv4) ?_)))))
    refine x_iret rfl rfl ?_
    subst h1_9
    exact ok_id (enc_congr (g := fun o => decide (a.s.ho o = -1)) _ (fun q hq => by show decide (w 6 0 5 q = -1) = _; rw [r3.2.2.2.2.1 q hq])) (fun _ _ _ _ _ => rfl) hr
  refine sw_c (fun h1_10 => ?_) (fun n1_10 => ?_)
  · refine x_aload_n (pc' := 182) rfl rfl rfl (x_getR (pc' := 185) (t := (6, 0, 0)) rfl rfl rfl (x_aload_n (pc' := 186) rfl rfl rfl (x_getR5 (pc' := 189) rfl rfl rfl (x_invI2 (pc' := 192) rfl rfl rfl rfl (c_X6_nearlyOf 0 _ hK r2 r3) ?_))))
    refine x_iret rfl rfl ?_
    subst h1_10
    exact ok_id (rfl) (fun _ _ _ _ _ => rfl) hr
  refine sw_c (fun h1_11 => ?_) (fun n1_11 => ?_)
  · refine x_aload_n (pc' := 194) rfl rfl rfl (x_invI1 (pc' := 197) rfl rfl rfl (c_X8_countRings r2 hK r3) ?_)
    refine x_iret rfl rfl ?_
    subst h1_11
    exact ok_id (rfl) (fun _ _ _ _ _ => rfl) hr
  refine sw_c (fun h1_12 => ?_) (fun n1_12 => ?_)
  · refine x_aload_n (pc' := 199) rfl rfl rfl (x_getR (pc' := 202) (t := (6, 0, 0)) rfl rfl rfl (x_aload_n (pc' := 203) rfl rfl rfl (x_getR5 (pc' := 206) rfl rfl rfl (x_invI2 (pc' := 209) rfl rfl rfl rfl (c_X6_brillianceOf 0 _ hK r2 r3) ?_))))
    refine x_iret rfl rfl ?_
    subst h1_12
    exact ok_id (rfl) (fun _ _ _ _ _ => rfl) hr
  refine sw_c (fun h1_13 => ?_) (fun n1_13 => ?_)
  · refine x_aload_n (pc' := 211) rfl rfl rfl (x_getR (pc' := 214) (t := (6, 0, 0)) rfl rfl rfl (x_invI1 (pc' := 217) rfl rfl rfl (c_X6_logSize 0 a.s.cc r3.2.2.2.2.2.2.2.1 (by have := hs.1.2.2; have := hs.2; omega)) ?_))
    refine x_iret rfl rfl ?_
    subst h1_13
    exact ok_id (rfl) (fun _ _ _ _ _ => rfl) hr
  refine sw_c (fun h1_14 => ?_) (fun n1_14 => ?_)
  · refine x_aload_n (pc' := 219) rfl rfl rfl (x_getR (pc' := 222) (t := (5, 0, 0)) rfl rfl rfl (x_getI (pc' := 225) rfl rfl rfl ?_))
    refine x_iret rfl rfl ?_
    subst h1_14
    exact ok_id (r7.1) (fun _ _ _ _ _ => rfl) hr
  refine sw_c (fun h1_15 => ?_) (fun n1_15 => ?_)
  · refine x_aload_n (pc' := 227) rfl rfl rfl (x_getR (pc' := 230) (t := (0, 0, 0)) rfl rfl rfl (x_getI (pc' := 233) rfl rfl rfl ?_))
    refine x_iret rfl rfl ?_
    subst h1_15
    exact ok_id (r8.1) (fun _ _ _ _ _ => rfl) hr
  refine sw_c (fun h1_16 => ?_) (fun n1_16 => ?_)
  · refine x_aload_n (pc' := 235) rfl rfl rfl (x_getR (pc' := 238) (t := (3, 0, 0)) rfl rfl rfl (x_getI (pc' := 241) rfl rfl rfl ?_))
    refine x_iret rfl rfl ?_
    subst h1_16
    exact ok_id (r4.1) (fun _ _ _ _ _ => rfl) hr
  refine sw_n ?_
  refine x_ldc (pc' := 244) rfl rfl ?_
  refine x_iret rfl rfl ?_
  exact ok_id (by unfold f_told; rw [if_neg n1_0, if_neg n1_1, if_neg n1_2, if_neg n1_3, if_neg n1_4, if_neg n1_5, if_neg n1_6, if_neg n1_7, if_neg n1_8, if_neg n1_9, if_neg n1_10, if_neg n1_11, if_neg n1_12, if_neg n1_13, if_neg n1_14, if_neg n1_15, if_neg n1_16]) (fun _ _ _ _ _ => rfl) hr
set_option maxRecDepth 20000 in
theorem C_X8_person {l : Launch} {X : XT} {d Lz : Nat} {w : WF} {a : AS} (h : CRel w a) (hV : AVl a) (p : Int32) (x : Int32) : okC l X (d + 7) Lz md_X8_person [.inl (p), .inl (x)] w (f_person a p x) (a) := by
  have hr := h
  obtain ⟨r1, r2, r3, r4, r5, r6, r7, r8, r9, r10⟩ := h
  have hK := hV.1
  have hv7 := hK.1
  have hv4 := hK.2.1
  have hs := hV.2.1
  have hnp := r2.2.2.1
  show WP l X _ md_X8_person (0, [some (.inr (.inr (8, 0, 0))), some (.inl (p)), some (.inl (x))], [], _) _
  refine x_aload_n (pc' := 1) rfl rfl rfl (x_iload_n (pc' := 2) rfl rfl rfl (x_invI2 (pc' := 5) rfl rfl rfl rfl (p_X8_isPerson r2 _) ?_))
  refine x_if_ne (pc' := 8) rfl rfl (fun h5 => ?_) (fun h5 => ?_)
  · refine x_ldc (pc' := 10) rfl rfl ?_
    refine x_iret rfl rfl ?_
    exact ok_id (by unfold f_person; rw [bI_eq0.mp h5]; rfl) (fun _ _ _ _ _ => rfl) hr
  · obtain ⟨p2, hp, rfl⟩ := in_np (by omega) (bq h5)
    refine x_iload_n (pc' := 12) rfl rfl rfl ?_
    refine x_tswG rfl ?_
    refine sw_c (fun h12_0 => ?_) (fun n12_0 => ?_)
    · first | subst h12_0 | subst h12_1 | subst h12_2
      refine x_aload_n (pc' := 61) rfl rfl rfl (x_getR (pc' := 64) (t := (6, 0, 0)) rfl rfl rfl (x_iload_n (pc' := 65) rfl rfl rfl (x_iload_n (pc' := 66) rfl rfl rfl (x_invI3 (pc' := 69) rfl rfl rfl rfl rfl (c_X6_giftOf _ _ _ (by omega)) ?_))))
      refine x_iret rfl rfl ?_
      exact ok_id (by unfold f_person; rw [bq h5, ix_nI (by omega)]; exact r3.1 _ (by omega)) (fun _ _ _ _ _ => rfl) hr
    refine sw_c (fun h12_1 => ?_) (fun n12_1 => ?_)
    · first | subst h12_0 | subst h12_1 | subst h12_2
      refine x_aload_n (pc' := 61) rfl rfl rfl (x_getR (pc' := 64) (t := (6, 0, 0)) rfl rfl rfl (x_iload_n (pc' := 65) rfl rfl rfl (x_iload_n (pc' := 66) rfl rfl rfl (x_invI3 (pc' := 69) rfl rfl rfl rfl rfl (c_X6_giftOf _ _ _ (by omega)) ?_))))
      refine x_iret rfl rfl ?_
      exact ok_id (by unfold f_person; rw [bq h5, ix_nI (by omega)]; exact r3.1 _ (by omega)) (fun _ _ _ _ _ => rfl) hr
    refine sw_c (fun h12_2 => ?_) (fun n12_2 => ?_)
    · first | subst h12_0 | subst h12_1 | subst h12_2
      refine x_aload_n (pc' := 61) rfl rfl rfl (x_getR (pc' := 64) (t := (6, 0, 0)) rfl rfl rfl (x_iload_n (pc' := 65) rfl rfl rfl (x_iload_n (pc' := 66) rfl rfl rfl (x_invI3 (pc' := 69) rfl rfl rfl rfl rfl (c_X6_giftOf _ _ _ (by omega)) ?_))))
      refine x_iret rfl rfl ?_
      exact ok_id (by unfold f_person; rw [bq h5, ix_nI (by omega)]; exact r3.1 _ (by omega)) (fun _ _ _ _ _ => rfl) hr
    refine sw_c (fun h12_3 => ?_) (fun n12_3 => ?_)
    · subst h12_3
      refine x_aload_n (pc' := 71) rfl rfl rfl (x_getR5 (pc' := 74) rfl rfl rfl (x_getR (pc' := 77) (t := (4, _, 2)) rfl rfl rfl (x_iload_n (pc' := 78) rfl rfl rfl (x_iald (pc' := 79) (N := 7) rfl rfl rfl rfl (by first | assumption | omega) (by decide) ?_))))
      refine x_iret rfl rfl ?_
      exact ok_id (by unfold f_person; rw [bq h5, ix_nI (by omega)]; exact r2.2.2.2.2.2.1 _ hp) (fun _ _ _ _ _ => rfl) hr
    refine sw_c (fun h12_4 => ?_) (fun n12_4 => ?_)
    · subst h12_4
      refine x_aload_n (pc' := 81) rfl rfl rfl (x_getR (pc' := 84) (t := (6, 0, 0)) rfl rfl rfl (x_getR (pc' := 87) (t := (6, _, 2)) rfl rfl rfl (x_iload_n (pc' := 88) rfl rfl rfl (x_iald (pc' := 89) (N := 7) rfl rfl rfl rfl (by first | assumption | omega) (by decide) ?_))))
      refine x_iret rfl rfl ?_
      exact ok_id (by unfold f_person; rw [bq h5, ix_nI (by omega)]; exact r3.2.1 _ hp) (fun _ _ _ _ _ => rfl) hr
    refine sw_c (fun h12_5 => ?_) (fun n12_5 => ?_)
    · subst h12_5
      refine x_aload_n (pc' := 91) rfl rfl rfl (x_getR (pc' := 94) (t := (6, 0, 0)) rfl rfl rfl (x_getR (pc' := 97) (t := (6, _, 3)) rfl rfl rfl (x_iload_n (pc' := 98) rfl rfl rfl (x_iald (pc' := 99) (N := 7) rfl rfl rfl rfl (by first | assumption | omega) (by decide) ?_))))
      refine x_iret rfl rfl ?_
      exact ok_id (by unfold f_person; rw [bq h5, ix_nI (by omega)]; exact r3.2.2.1 _ hp) (fun _ _ _ _ _ => rfl) hr
    refine sw_c (fun h12_6 => ?_) (fun n12_6 => ?_)
    · subst h12_6
      refine x_aload_n (pc' := 101) rfl rfl rfl (x_getR (pc' := 104) (t := (6, 0, 0)) rfl rfl rfl (x_getR (pc' := 107) (t := (6, _, 4)) rfl rfl rfl (x_iload_n (pc' := 108) rfl rfl rfl (x_iald (pc' := 109) (N := 7) rfl rfl rfl rfl (by first | assumption | omega) (by decide) ?_))))
      refine x_iret rfl rfl ?_
      exact ok_id (by unfold f_person; rw [bq h5, ix_nI (by omega)]; exact r3.2.2.2.1 _ hp) (fun _ _ _ _ _ => rfl) hr
    refine sw_c (fun h12_7 => ?_) (fun n12_7 => ?_)
    · subst h12_7
      refine x_aload_n (pc' := 111) rfl rfl rfl (x_getR (pc' := 114) (t := (6, 0, 0)) rfl rfl rfl (x_aload_n (pc' := 115) rfl rfl rfl (x_getR5 (pc' := 118) rfl rfl rfl (x_iload_n (pc' := 119) rfl rfl rfl (x_invI3 (pc' := 122) rfl rfl rfl rfl rfl (c_X6_officesOf 0 _ _ _ r2.2.2.2.2.1 hv4) ?_)))))
      refine x_iret rfl rfl ?_
      exact ok_id (by unfold f_person; rw [bq h5]; exact enc_congr (g := fun o => decide (a.s.ho o = nI p2)) _ (fun q hq => by show decide (w 6 0 5 q = _) = _; rw [r3.2.2.2.2.1 q hq])) (fun _ _ _ _ _ => rfl) hr
    refine sw_n ?_
    refine x_ldc (pc' := 125) rfl rfl ?_
    refine x_iret rfl rfl ?_
    exact ok_id (by unfold f_person; rw [bq h5, if_neg n12_0, if_neg n12_1, if_neg n12_2, if_neg n12_3, if_neg n12_4, if_neg n12_5, if_neg n12_6, if_neg n12_7]; rfl) (fun _ _ _ _ _ => rfl) hr
set_option maxRecDepth 20000 in
theorem C_X8_office {l : Launch} {X : XT} {d Lz : Nat} {w : WF} {a : AS} (h : CRel w a) (hV : AVl a) (p : Int32) (x : Int32) : okC l X (d + 7) Lz md_X8_office [.inl (p), .inl (x)] w (f_office a p x) (a) := by
  have hr := h
  obtain ⟨r1, r2, r3, r4, r5, r6, r7, r8, r9, r10⟩ := h
  have hK := hV.1
  have hv7 := hK.1
  have hv4 := hK.2.1
  have hs := hV.2.1
  have hnp := r2.2.2.1
  show WP l X _ md_X8_office (0, [some (.inr (.inr (8, 0, 0))), some (.inl (p)), some (.inl (x))], [], _) _
  refine x_aload_n (pc' := 1) rfl rfl rfl (x_iload_n (pc' := 2) rfl rfl rfl (x_invI2 (pc' := 5) rfl rfl rfl rfl (p_X8_isOffice r2 _) ?_))
  refine x_if_ne (pc' := 8) rfl rfl (fun h5 => ?_) (fun h5 => ?_)
  · refine x_ldc (pc' := 10) rfl rfl ?_
    refine x_iret rfl rfl ?_
    exact ok_id (by unfold f_office; rw [bI_eq0.mp h5]; rfl) (fun _ _ _ _ _ => rfl) hr
  · obtain ⟨p2, hp, rfl⟩ := in_np (by omega) (bq h5)
    refine x_iload_n (pc' := 12) rfl rfl rfl ?_
    refine x_lswG rfl ?_
    refine sw_c (fun h12_0 => ?_) (fun n12_0 => ?_)
    · subst h12_0
      refine x_aload_n (pc' := 41) rfl rfl rfl (x_getR5 (pc' := 44) rfl rfl rfl (x_getR (pc' := 47) (t := (4, _, 4)) rfl rfl rfl (x_iload_n (pc' := 48) rfl rfl rfl (x_iald (pc' := 49) (N := 4) rfl rfl rfl rfl (by first | assumption | omega) (by decide) ?_))))
      refine x_iret rfl rfl ?_
      exact ok_id (by unfold f_office; rw [bq h5, ix_nI (by omega)]; exact r2.2.2.2.2.2.2.2 _ hp) (fun _ _ _ _ _ => rfl) hr
    refine sw_c (fun h12_1 => ?_) (fun n12_1 => ?_)
    · subst h12_1
      refine x_aload_n (pc' := 51) rfl rfl rfl (x_getR (pc' := 54) (t := (6, 0, 0)) rfl rfl rfl (x_getR (pc' := 57) (t := (6, _, 5)) rfl rfl rfl (x_iload_n (pc' := 58) rfl rfl rfl (x_iald (pc' := 59) (N := 4) rfl rfl rfl rfl (by first | assumption | omega) (by decide) ?_))))
      refine x_iret rfl rfl ?_
      exact ok_id (by unfold f_office; rw [bq h5, ix_nI (by omega)]; exact r3.2.2.2.2.1 _ hp) (fun _ _ _ _ _ => rfl) hr
    refine sw_n ?_
    refine x_ldc (pc' := 62) rfl rfl ?_
    refine x_iret rfl rfl ?_
    exact ok_id (by unfold f_office; rw [bq h5, if_neg n12_0, if_neg n12_1]; rfl) (fun _ _ _ _ _ => rfl) hr
set_option maxRecDepth 20000 in
theorem C_X8_ahead {l : Launch} {X : XT} {d Lz : Nat} {w : WF} {a : AS} (h : CRel w a) (hV : AVl a) (x : Int32) : okC l X (d + 7) Lz md_X8_ahead [.inl (x)] w (f_ahead a x) (a) := by
  have hr := h
  obtain ⟨r1, r2, r3, r4, r5, r6, r7, r8, r9, r10⟩ := h
  have hK := hV.1
  have hv7 := hK.1
  have hv4 := hK.2.1
  have hs := hV.2.1
  have hnp := r2.2.2.1
  show WP l X _ md_X8_ahead (0, [some (.inr (.inr (8, 0, 0))), some (.inl (x))], [], _) _
  refine x_iload_n (pc' := 1) rfl rfl rfl (x_iconst (pc' := 2) rfl rfl (x_bipush (pc' := 4) rfl rfl (x_invS3 (pc' := 7) rfl rfl rfl rfl rfl rfl (c_X8_isWithin _ _ _) ?_)))
  refine x_if_ne (pc' := 10) rfl rfl (fun h7 => ?_) (fun h7 => ?_)
  · refine x_ldc (pc' := 12) rfl rfl ?_
    refine x_iret rfl rfl ?_
    exact ok_id (by unfold f_ahead; rw [bI_eq0.mp h7]; rfl) (fun _ _ _ _ _ => rfl) hr
  · obtain ⟨m, -, hm, rfl⟩ := in_num (by omega) (bq h7) (by omega)
    refine x_aload_n (pc' := 14) rfl rfl rfl (x_getR5 (pc' := 17) rfl rfl rfl (x_invI1 (pc' := 20) rfl rfl rfl (c_X4_isThere _) ?_))
    rw [r2.1]
    refine x_if_eq (pc' := 23) rfl rfl (fun h20 => ?_) (fun h20 => ?_)
    · refine x_ldc (pc' := 44) rfl rfl ?_
      refine x_iret rfl rfl ?_
      first | exact ok_id (by unfold f_ahead; rw [bq h7, ix_nI (by omega), if_neg (of_decide_eq_true (bq h20))]; rfl) (fun _ _ _ _ _ => rfl) hr | exact ok_id (by unfold f_ahead; rw [bq h7, if_pos (Decidable.not_not.mp (of_decide_eq_false (bI_eq0.mp h20)))]; rfl) (fun _ _ _ _ _ => rfl) hr
    · refine x_aload_n (pc' := 24) rfl rfl rfl (x_getR5 (pc' := 27) rfl rfl rfl (x_aload_n (pc' := 28) rfl rfl rfl (x_getR (pc' := 31) (t := (6, 0, 0)) rfl rfl rfl (x_getI (pc' := 34) rfl rfl rfl ?_))))
      rw [r3.2.2.2.2.2.2.1]
      refine x_iload_n (pc' := 35) rfl rfl rfl (x_iaddN (pc' := 36) rfl rfl (x_invI2 (pc' := 39) rfl rfl rfl rfl (c_X4_kindOfDay _ a.K.nt (a.s.dd + m) r2.2.2.2.1 hK.2.2.1 (by have := hs.2; omega)) ?_))
      rw [(show KC w _ a.K from r2).kd]
      refine x_goto rfl ?_
      refine x_iret rfl rfl ?_
      first | exact ok_id (by unfold f_ahead; rw [bq h7, ix_nI (by omega), if_neg (of_decide_eq_true (bq h20))]; rfl) (fun _ _ _ _ _ => rfl) hr | exact ok_id (by unfold f_ahead; rw [bq h7, if_pos (Decidable.not_not.mp (of_decide_eq_false (bI_eq0.mp h20)))]; rfl) (fun _ _ _ _ _ => rfl) hr
set_option maxRecDepth 20000 in
theorem C_X8_logged {l : Launch} {X : XT} {d Lz : Nat} {w : WF} {a : AS} (h : CRel w a) (hV : AVl a) (i : Int32) (x : Int32) : okC l X (d + 7) Lz md_X8_logged [.inl (i), .inl (x)] w (f_logged a i x) (a) := by
  have hr := h
  obtain ⟨r1, r2, r3, r4, r5, r6, r7, r8, r9, r10⟩ := h
  have hK := hV.1
  have hv7 := hK.1
  have hv4 := hK.2.1
  have hs := hV.2.1
  have hnp := r2.2.2.1
  show WP l X _ md_X8_logged (0, [some (.inr (.inr (8, 0, 0))), some (.inl (i)), some (.inl (x))], [], _) _
  refine x_iload_n (pc' := 1) rfl rfl rfl (x_iconst (pc' := 2) rfl rfl (x_iconst (pc' := 3) rfl rfl (x_invS3 (pc' := 6) rfl rfl rfl rfl rfl rfl (c_X8_isWithin _ _ _) ?_)))
  refine x_if_ne (pc' := 9) rfl rfl (fun h6 => ?_) (fun h6 => ?_)
  · refine x_ldc (pc' := 11) rfl rfl ?_
    refine x_iret rfl rfl ?_
    exact ok_id (by unfold f_logged; rw [bI_eq0.mp h6]; rfl) (fun _ _ _ _ _ => rfl) hr
  · obtain ⟨m, -, hm, rfl⟩ := in_num (by omega) (bq h6) (by omega)
    refine x_aload_n (pc' := 13) rfl rfl rfl (x_getR (pc' := 16) (t := (6, 0, 0)) rfl rfl rfl (x_iload_n (pc' := 17) rfl rfl rfl (x_iload_n (pc' := 18) rfl rfl rfl (x_invI3 (pc' := 21) rfl rfl rfl rfl rfl (c_X6_logEntry 0 r3 hs.1 (by have := hs.2; omega) _ m (by omega)) ?_))))
    refine x_iret rfl rfl ?_
    exact ok_id (by unfold f_logged; rw [bq h6, ix_nI (by omega)]; rfl) (fun _ _ _ _ _ => rfl) hr
set_option maxRecDepth 20000 in
theorem C_X8_mark {l : Launch} {X : XT} {d Lz : Nat} {w : WF} {a : AS} (h : CRel w a) (hV : AVl a) (p : Int32) (k : Int32) : okC l X (d + 7) Lz md_X8_mark [.inl (p), .inl (k)] w (f_mark a p k) (a) := by
  have hr := h
  obtain ⟨r1, r2, r3, r4, r5, r6, r7, r8, r9, r10⟩ := h
  have hK := hV.1
  have hv7 := hK.1
  have hv4 := hK.2.1
  have hs := hV.2.1
  have hnp := r2.2.2.1
  show WP l X _ md_X8_mark (0, [some (.inr (.inr (8, 0, 0))), some (.inl (p)), some (.inl (k))], [], _) _
  refine x_aload_n (pc' := 1) rfl rfl rfl (x_iload_n (pc' := 2) rfl rfl rfl (x_invI2 (pc' := 5) rfl rfl rfl rfl (p_X8_isPerson r2 _) ?_))
  refine x_if_ne (pc' := 8) rfl rfl (fun h5 => ?_) (fun h5 => ?_)
  · refine x_ldc (pc' := 10) rfl rfl ?_
    refine x_iret rfl rfl ?_
    exact ok_id (by unfold f_mark; rw [bI_eq0.mp h5]; rfl) (fun _ _ _ _ _ => rfl) hr
  · obtain ⟨p2, hp, rfl⟩ := in_np (by omega) (bq h5)
    refine x_iload_n (pc' := 12) rfl rfl rfl (x_invS1 (pc' := 15) rfl rfl rfl rfl (c_X8_isKind _) ?_)
    refine x_if_eq (pc' := 18) rfl rfl (fun h15 => ?_) (fun h15 => ?_)
    · refine x_ldc (pc' := 36) rfl rfl ?_
      refine x_iret rfl rfl ?_
      first | exact ok_id (by unfold f_mark isKd; rw [bq h5, bq h15, ix_nI (by omega), ix_nI (by omega)]; exact r3.mk r2 (by omega) _ hp) (fun _ _ _ _ _ => rfl) hr | exact ok_id (by unfold f_mark isKd; rw [bq h5, bI_eq0.mp h15]; rfl) (fun _ _ _ _ _ => rfl) hr
    · obtain ⟨k2, -, hk2, rfl⟩ := in_num (by omega) (bq h15) (by omega)
      refine x_aload_n (pc' := 19) rfl rfl rfl (x_getR (pc' := 22) (t := (6, 0, 0)) rfl rfl rfl (x_aload_n (pc' := 23) rfl rfl rfl (x_getR5 (pc' := 26) rfl rfl rfl (x_iload_n (pc' := 27) rfl rfl rfl (x_iload_n (pc' := 28) rfl rfl rfl ?_)))))
      refine x_invI4 (pc' := 31) rfl rfl rfl rfl rfl rfl (c_X6_markOf 0 _ p2 k2 (by omega) (by omega)) ?_
      refine x_goto rfl ?_
      refine x_iret rfl rfl ?_
      first | exact ok_id (by unfold f_mark isKd; rw [bq h5, bq h15, ix_nI (by omega), ix_nI (by omega)]; exact r3.mk r2 (by omega) _ hp) (fun _ _ _ _ _ => rfl) hr | exact ok_id (by unfold f_mark isKd; rw [bq h5, bI_eq0.mp h15]; rfl) (fun _ _ _ _ _ => rfl) hr
set_option maxRecDepth 20000 in
theorem C_X8_place {l : Launch} {X : XT} {d Lz : Nat} {w : WF} {a : AS} (h : CRel w a) (hV : AVl a) (p : Int32) (k : Int32) : okC l X (d + 7) Lz md_X8_place [.inl (p), .inl (k)] w (f_place a p k) (a) := by
  have hr := h
  obtain ⟨r1, r2, r3, r4, r5, r6, r7, r8, r9, r10⟩ := h
  have hK := hV.1
  have hv7 := hK.1
  have hv4 := hK.2.1
  have hs := hV.2.1
  have hnp := r2.2.2.1
  show WP l X _ md_X8_place (0, [some (.inr (.inr (8, 0, 0))), some (.inl (p)), some (.inl (k))], [], _) _
  refine x_aload_n (pc' := 1) rfl rfl rfl (x_iload_n (pc' := 2) rfl rfl rfl (x_invI2 (pc' := 5) rfl rfl rfl rfl (p_X8_isPerson r2 _) ?_))
  refine x_if_ne (pc' := 8) rfl rfl (fun h5 => ?_) (fun h5 => ?_)
  · refine x_ldc (pc' := 10) rfl rfl ?_
    refine x_iret rfl rfl ?_
    exact ok_id (by unfold f_place; rw [bI_eq0.mp h5]; rfl) (fun _ _ _ _ _ => rfl) hr
  · obtain ⟨p2, hp, rfl⟩ := in_np (by omega) (bq h5)
    refine x_iload_n (pc' := 12) rfl rfl rfl (x_invS1 (pc' := 15) rfl rfl rfl rfl (c_X8_isKind _) ?_)
    refine x_if_ne (pc' := 18) rfl rfl (fun h15 => ?_) (fun h15 => ?_)
    · refine x_ldc (pc' := 20) rfl rfl ?_
      refine x_iret rfl rfl ?_
      exact ok_id (by unfold f_place isKd; rw [bq h5, bI_eq0.mp h15]; rfl) (fun _ _ _ _ _ => rfl) hr
    · obtain ⟨k2, -, hk2, rfl⟩ := in_num (by omega) (bq h15) (by omega)
      refine x_aload_n (pc' := 22) rfl rfl rfl (x_getR (pc' := 25) (t := (6, 0, 0)) rfl rfl rfl (x_iload_n (pc' := 26) rfl rfl rfl (x_invI2 (pc' := 29) rfl rfl rfl rfl (c_X6_isAtCourt _ _ (by omega)) ?_)))
      rw [show decide (w 6 0 3 p2 = 0) = coA a.s p2 from r3.co p2 hp]
      refine x_if_ne (pc' := 32) rfl rfl (fun h29 => ?_) (fun h29 => ?_)
      · refine x_iconst (pc' := 33) rfl rfl ?_
        refine x_iret rfl rfl ?_
        exact ok_id (by unfold f_place isKd; rw [bq h5, bq h15, ix_nI (by omega), bI_eq0.mp h29]; rfl) (fun _ _ _ _ _ => rfl) hr
      · refine x_aload_n (pc' := 35) rfl rfl rfl (x_getR (pc' := 38) (t := (1, 0, 0)) rfl rfl rfl (x_aload_n (pc' := 39) rfl rfl rfl (x_getR5 (pc' := 42) rfl rfl rfl (x_aload_n (pc' := 43) rfl rfl rfl (x_getR (pc' := 46) (t := (6, 0, 0)) rfl rfl rfl ?_)))))
        refine x_iload_n (pc' := 47) rfl rfl rfl (x_invQ4 (pc' := 50) rfl rfl rfl rfl rfl rfl (c_X1_rank 0 k2 (by omega) _ _ hnp hv7) (fun vq Mq hq47 => ?_))
        obtain ⟨rfl, w1, rfl, hrk⟩ := hq47
        have e8 : w1 8 0 0 8 = w 8 0 0 8 := hrk.1 8 0 0 8 (by decide)
        show WP l X _ md_X8_place (50, _, [], _) _
        refine x_aload_n (pc' := 51) rfl rfl rfl (x_getR (pc' := 54) (t := (1, 0, 0)) rfl rfl rfl (x_aload_n (pc' := 55) rfl rfl rfl (x_getR5 (pc' := 58) rfl rfl rfl ?_)))
        rw [e8]
        refine x_aload_n (pc' := 59) rfl rfl rfl (x_getR (pc' := 62) (t := (6, 0, 0)) rfl rfl rfl (x_iload_n (pc' := 63) rfl rfl rfl (x_invI4 (pc' := 66) rfl rfl rfl rfl rfl rfl (c_X1_placeOf _ 0 k2 p2 (by omega) hK (KC_fr (i := 0) r2 (frS.of1 hrk.1)) (RC_cg (fun o q => hrk.1 6 0 o q (by decide)) r3) w r2 r3 hrk hp) ?_)))
        refine x_iret rfl rfl ?_
        exact ok_id (by unfold f_place isKd; rw [bq h5, bq h15, ix_nI (by omega), bq h29, ix_nI (by omega)]; rfl) (fun c i o q hc => hrk.1 c i o q (by omega)) (CRel_Q hr (fun c i o q h1 _ _ _ => hrk.1 c i o q h1))
set_option maxRecDepth 20000 in
theorem C_X8_wouldBe {l : Launch} {X : XT} {d Lz : Nat} {w : WF} {a : AS} (h : CRel w a) (hV : AVl a) (k : Int32) (x : Int32) : okC l X (d + 7) Lz md_X8_wouldBe [.inl (k), .inl (x)] w (f_wouldBe a k x) (a) := by
  have hr := h
  obtain ⟨r1, r2, r3, r4, r5, r6, r7, r8, r9, r10⟩ := h
  have hK := hV.1
  have hv7 := hK.1
  have hv4 := hK.2.1
  have hs := hV.2.1
  have hnp := r2.2.2.1
  show WP l X _ md_X8_wouldBe (0, [some (.inr (.inr (8, 0, 0))), some (.inl (k)), some (.inl (x))], [], _) _
  refine x_iload_n (pc' := 1) rfl rfl rfl (x_invS1 (pc' := 4) rfl rfl rfl rfl (c_X8_isKind _) ?_)
  refine x_if_eq (pc' := 7) rfl rfl (fun h4 => ?_) (fun h4 => ?_)
  · refine x_ldc (pc' := 18) rfl rfl ?_
    refine x_iret rfl rfl ?_
    first | exact ok_id (by unfold f_wouldBe isKd; rw [bI_eq0.mp h4]; rfl) (fun _ _ _ _ _ => rfl) hr | exact ok_id (by unfold f_wouldBe isKd; rw [bq h4, bI_eq0.mp h13]; rfl) (fun _ _ _ _ _ => rfl) hr
  · refine x_iload_n (pc' := 8) rfl rfl rfl (x_iconst (pc' := 9) rfl rfl (x_iconst (pc' := 10) rfl rfl (x_invS3 (pc' := 13) rfl rfl rfl rfl rfl rfl (c_X8_isWithin _ _ _) ?_)))
    refine x_if_ne (pc' := 16) rfl rfl (fun h13 => ?_) (fun h13 => ?_)
    · refine x_ldc (pc' := 18) rfl rfl ?_
      refine x_iret rfl rfl ?_
      first | exact ok_id (by unfold f_wouldBe isKd; rw [bI_eq0.mp h4]; rfl) (fun _ _ _ _ _ => rfl) hr | exact ok_id (by unfold f_wouldBe isKd; rw [bq h4, bI_eq0.mp h13]; rfl) (fun _ _ _ _ _ => rfl) hr
    · obtain ⟨k2, -, hk2, rfl⟩ := in_num (by omega) (bq h4) (by omega)
      refine x_aload_n (pc' := 20) rfl rfl rfl (x_getR (pc' := 23) (t := (1, 0, 0)) rfl rfl rfl (x_aload_n (pc' := 24) rfl rfl rfl (x_getR5 (pc' := 27) rfl rfl rfl (x_aload_n (pc' := 28) rfl rfl rfl (x_getR (pc' := 31) (t := (6, 0, 0)) rfl rfl rfl ?_)))))
      refine x_iload_n (pc' := 32) rfl rfl rfl (x_invQ4 (pc' := 35) rfl rfl rfl rfl rfl rfl (c_X1_rank 0 k2 (by omega) _ _ hnp hv7) (fun vq Mq hq32 => ?_))
      obtain ⟨rfl, w1, rfl, hrk⟩ := hq32
      show WP l X _ md_X8_wouldBe (35, _, [], _) _
      refine x_iload_n (pc' := 36) rfl rfl rfl ?_
      refine x_if_ne (pc' := 39) rfl rfl (fun h36 => ?_) (fun h36 => ?_)
      · refine x_aload_n (pc' := 40) rfl rfl rfl (x_getR (pc' := 43) (t := (1, 0, 0)) rfl rfl rfl (x_getI (pc' := 46) rfl rfl rfl (x_goto rfl ?_)))
        refine x_iret rfl rfl ?_
        first | exact ok_id (by unfold f_wouldBe isKd; rw [bq h4, bq h13, if_pos h36, hrk.2.1, ix_nI (by omega)]; exact enc_congr _ (r3.fs r2 (by omega))) (fun c i o q hc => hrk.1 c i o q (by omega)) (CRel_Q hr (fun c i o q h1 _ _ _ => hrk.1 c i o q h1)) | exact ok_id (by unfold f_wouldBe isKd; rw [bq h4, bq h13, if_neg h36, hrk.2.2.2.1, ix_nI (by omega), r3.sn r2 (by omega)]; rfl) (fun c i o q hc => hrk.1 c i o q (by omega)) (CRel_Q hr (fun c i o q h1 _ _ _ => hrk.1 c i o q h1))
      · refine x_aload_n (pc' := 50) rfl rfl rfl (x_getR (pc' := 53) (t := (1, 0, 0)) rfl rfl rfl (x_getI (pc' := 56) rfl rfl rfl ?_))
        refine x_iret rfl rfl ?_
        first | exact ok_id (by unfold f_wouldBe isKd; rw [bq h4, bq h13, if_pos h36, hrk.2.1, ix_nI (by omega)]; exact enc_congr _ (r3.fs r2 (by omega))) (fun c i o q hc => hrk.1 c i o q (by omega)) (CRel_Q hr (fun c i o q h1 _ _ _ => hrk.1 c i o q h1)) | exact ok_id (by unfold f_wouldBe isKd; rw [bq h4, bq h13, if_neg h36, hrk.2.2.2.1, ix_nI (by omega), r3.sn r2 (by omega)]; rfl) (fun c i o q hc => hrk.1 c i o q (by omega)) (CRel_Q hr (fun c i o q h1 _ _ _ => hrk.1 c i o q h1))
set_option maxRecDepth 20000 in
theorem c_X8_secondIn {l : Launch} {X : XT} {d Lz : Nat} {w : Nat → Nat → Nat → Nat → Int32} {K : Kg} {s : Sa} (i k : Nat) (hk : k < 3) (hV : KV K) (hK : KX w K) (h : RC w K i s) : WP l X (d + 4) md_X8_secondIn (en md_X8_secondIn [.inr (.inr (8, 0, 0)), .inr (.inr (6, i, 0)), .inl (nI k)] (mk Lz w)) (fun v M' => v = some (.inl (oI (snA K s k))) ∧ ∃ w', M' = mk Lz w' ∧ fr1 w w') := by
  show WP l X _ md_X8_secondIn (0, [some (.inr (.inr (8, 0, 0))), some (.inr (.inr (6, i, 0))), some (.inl (nI k))], [], _) _
  refine x_aload_n (pc' := 1) rfl rfl rfl (x_getR (pc' := 4) (t := (1, 0, 0)) rfl rfl rfl (x_aload_n (pc' := 5) rfl rfl rfl (x_getR5 (pc' := 8) rfl rfl rfl (x_aload_n (pc' := 9) rfl rfl rfl (x_iload_n (pc' := 10) rfl rfl rfl ?_)))))
  refine x_invQ4 (pc' := 13) rfl rfl rfl rfl rfl rfl (c_X1_rank i k hk _ _ hK.2.2.1 hV.1) (fun vq Mq hq10 => ?_)
  obtain ⟨rfl, w1, rfl, hrk⟩ := hq10
  show WP l X _ md_X8_secondIn (13, _, [], _) _
  refine x_aload_n (pc' := 14) rfl rfl rfl (x_getR (pc' := 17) (t := (1, 0, 0)) rfl rfl rfl (x_getI (pc' := 20) rfl rfl rfl ?_))
  refine x_iret rfl rfl ?_
  exact ⟨by rw [hrk.2.2.2.1, h.sn hK hk], w1, rfl, hrk.1⟩
theorem KX_1 {w w2 : WF} {K : Kg} (h : KX w K) (hf : fr1 w w2) : KX w2 K := KX_cg (fun i o q => hf 4 i o q (by decide)) (hf 8 0 0 8 (by decide)) h
theorem RC_1 {w w2 : WF} {K : Kg} {i : Nat} {s : Sa} (h : RC w K i s) (hf : fr1 w w2) : RC w2 K i s := RC_cg (fun o q => hf 6 i o q (by decide)) h
theorem frQ_1 {w w2 : WF} (hf : fr1 w w2) : frQ w w2 := fun c i o q h1 _ _ _ => hf c i o q h1
set_option maxRecDepth 20000 in
theorem l_X8_next {l : Launch} {X : XT} {d Lz : Nat} {w : WF} {a : AS} (hV : KV a.K) (hK : KX w a.K) (h : RC w a.K 0 a.s) (p2 : Nat) : ∀ (kk n : Nat), ∀ (wn : WF), fr1 w wn →  n ≤ 3 → 3 + 1 ≤ n + kk → WP l X (d + 5) md_X8_next (15, [some (.inr (.inr (8, 0, 0))), some (.inl (nI p2)), some (.inl (enc (fun k => decide (oI (snA a.K a.s k) = nI p2)) n)), some (.inl (nI n))], [], mk Lz wn) (fun v M' => v = some (.inl (enc (fun k => decide (oI (snA a.K a.s k) = nI p2)) 3)) ∧ ∃ w', M' = mk Lz w' ∧ fr1 w w') := by
  intro kk
  induction kk with
  | zero =>
    intro n wn hf h1 h2
    exact absurd h2 (by omega)
  | succ kk ih =>
    intro n wn hf hi1 hi2
    refine x_iload_n (pc' := 16) rfl rfl rfl (x_iconst (pc' := 17) rfl rfl ?_)
    refine x_icmp_geN (pc' := 20) rfl rfl (by omega) (by omega) (fun h17 => ?_) (fun h17 => ?_)
    · refine x_iload_n (pc' := 46) rfl rfl rfl ?_
      refine x_iret rfl rfl ?_
      have e : n = 3 := by omega
      subst e
      exact ⟨rfl, _, rfl, hf⟩
    · refine x_aload_n (pc' := 21) rfl rfl rfl (x_aload_n (pc' := 22) rfl rfl rfl (x_getR (pc' := 25) (t := (6, 0, 0)) rfl rfl rfl (x_iload_n (pc' := 26) rfl rfl rfl (x_invQ3 (pc' := 29) rfl rfl rfl rfl rfl (c_X8_secondIn 0 n (by omega) hV (KX_1 hK hf) (RC_1 h hf)) (fun vq Mq hq26 => ?_)))))
      obtain ⟨rfl, w2, rfl, hf2⟩ := hq26
      show WP l X _ md_X8_next (29, _, [.inl (oI (snA a.K a.s n))], _) _
      refine x_iload_n (pc' := 30) rfl rfl rfl ?_
      refine x_icmp_ne (pc' := 33) rfl rfl (fun h30 => ?_) (fun h30 => ?_)
      · refine x_iload_n (pc' := 34) rfl rfl rfl (x_iconst (pc' := 35) rfl rfl (x_iload_n (pc' := 36) rfl rfl rfl (x_ishl (pc' := 37) rfl rfl (x_ior (pc' := 38) rfl rfl (x_istore_n2 (pc' := 39) rfl rfl rfl ?_)))))
        refine x_iinc3 (pc' := 42) rfl rfl rfl (nI_add _ _) (x_goto rfl ?_)
        exact WPc (ih (n + 1) _ (hf.tr hf2) (by omega) (by omega)) (by first | rw [← enc_t (f := fun k => decide (oI (snA a.K a.s k) = nI p2)) (dT h30)] | rw [← enc_f (f := fun k => decide (oI (snA a.K a.s k) = nI p2)) (dF h30)]) rfl
      · refine x_iinc3 (pc' := 42) rfl rfl rfl (nI_add _ _) (x_goto rfl ?_)
        exact WPc (ih (n + 1) _ (hf.tr hf2) (by omega) (by omega)) (by first | rw [← enc_t (f := fun k => decide (oI (snA a.K a.s k) = nI p2)) (dT h30)] | rw [← enc_f (f := fun k => decide (oI (snA a.K a.s k) = nI p2)) (dF h30)]) rfl
set_option maxRecDepth 20000 in
theorem C_X8_next {l : Launch} {X : XT} {d Lz : Nat} {w : WF} {a : AS} (h : CRel w a) (hV : AVl a) (p : Int32) : okC l X (d + 7) Lz md_X8_next [.inl (p)] w (f_next a p) (a) := by
  have hr := h
  obtain ⟨r1, r2, r3, r4, r5, r6, r7, r8, r9, r10⟩ := h
  have hK := hV.1
  have hv7 := hK.1
  have hv4 := hK.2.1
  have hs := hV.2.1
  have hnp := r2.2.2.1
  show WP l X _ md_X8_next (0, [some (.inr (.inr (8, 0, 0))), some (.inl (p)), none, none], [], _) _
  refine x_aload_n (pc' := 1) rfl rfl rfl (x_iload_n (pc' := 2) rfl rfl rfl (x_invI2 (pc' := 5) rfl rfl rfl rfl (p_X8_isPerson r2 _) ?_))
  refine x_if_ne (pc' := 8) rfl rfl (fun h5 => ?_) (fun h5 => ?_)
  · refine x_ldc (pc' := 10) rfl rfl ?_
    refine x_iret rfl rfl ?_
    exact ok_id (by unfold f_next; rw [bI_eq0.mp h5]; rfl) (fun _ _ _ _ _ => rfl) hr
  · obtain ⟨p2, hp, rfl⟩ := in_np (by omega) (bq h5)
    refine x_iconst (pc' := 12) rfl rfl (x_istore_n2 (pc' := 13) rfl rfl rfl (x_iconst (pc' := 14) rfl rfl (x_istore_n3 (pc' := 15) rfl rfl rfl ?_)))
    refine wp_cons (l_X8_next (d := d + 2) hK r2 r3 p2 4 0 _ (fr1.rf w) (by omega) (by omega)) (fun v M hq => ?_)
    obtain ⟨rfl, w2, rfl, hf⟩ := hq
    exact ok_id (by unfold f_next; rw [bq h5]; rfl) (fun c i o q hc => hf c i o q (by omega)) (CRel_Q hr (frQ_1 hf))
set_option maxRecDepth 20000 in
theorem C_X8_beats {l : Launch} {X : XT} {d Lz : Nat} {w : WF} {a : AS} (h : CRel w a) (hV : AVl a) (p : Int32) (q : Int32) : okC l X (d + 7) Lz md_X8_beats [.inl (p), .inl (q)] w (f_beats a p q) (a) := by
  have hr := h
  obtain ⟨r1, r2, r3, r4, r5, r6, r7, r8, r9, r10⟩ := h
  have hK := hV.1
  have hv7 := hK.1
  have hv4 := hK.2.1
  have hs := hV.2.1
  have hnp := r2.2.2.1
  show WP l X _ md_X8_beats (0, [some (.inr (.inr (8, 0, 0))), some (.inl (p)), some (.inl (q))], [], _) _
  refine x_aload_n (pc' := 1) rfl rfl rfl (x_iload_n (pc' := 2) rfl rfl rfl (x_invI2 (pc' := 5) rfl rfl rfl rfl (p_X8_isPerson r2 _) ?_))
  refine x_if_eq (pc' := 8) rfl rfl (fun h5 => ?_) (fun h5 => ?_)
  · refine x_ldc (pc' := 23) rfl rfl ?_
    refine x_iret rfl rfl ?_
    first | exact ok_id (by unfold f_beats; rw [bI_eq0.mp h5]; rfl) (fun _ _ _ _ _ => rfl) hr | exact ok_id (by unfold f_beats; rw [bq h5, bI_eq0.mp h13]; rfl) (fun _ _ _ _ _ => rfl) hr | exact ok_id (by unfold f_beats; rw [bq h5, bq h13, dT h18]; rfl) (fun _ _ _ _ _ => rfl) hr
  · refine x_aload_n (pc' := 9) rfl rfl rfl (x_iload_n (pc' := 10) rfl rfl rfl (x_invI2 (pc' := 13) rfl rfl rfl rfl (p_X8_isPerson r2 _) ?_))
    refine x_if_eq (pc' := 16) rfl rfl (fun h13 => ?_) (fun h13 => ?_)
    · refine x_ldc (pc' := 23) rfl rfl ?_
      refine x_iret rfl rfl ?_
      first | exact ok_id (by unfold f_beats; rw [bI_eq0.mp h5]; rfl) (fun _ _ _ _ _ => rfl) hr | exact ok_id (by unfold f_beats; rw [bq h5, bI_eq0.mp h13]; rfl) (fun _ _ _ _ _ => rfl) hr | exact ok_id (by unfold f_beats; rw [bq h5, bq h13, dT h18]; rfl) (fun _ _ _ _ _ => rfl) hr
    · refine x_iload_n (pc' := 17) rfl rfl rfl (x_iload_n (pc' := 18) rfl rfl rfl ?_)
      refine x_icmp_ne (pc' := 21) rfl rfl (fun h18 => ?_) (fun h18 => ?_)
      · refine x_ldc (pc' := 23) rfl rfl ?_
        refine x_iret rfl rfl ?_
        first | exact ok_id (by unfold f_beats; rw [bI_eq0.mp h5]; rfl) (fun _ _ _ _ _ => rfl) hr | exact ok_id (by unfold f_beats; rw [bq h5, bI_eq0.mp h13]; rfl) (fun _ _ _ _ _ => rfl) hr | exact ok_id (by unfold f_beats; rw [bq h5, bq h13, dT h18]; rfl) (fun _ _ _ _ _ => rfl) hr
      · obtain ⟨p2, hp, rfl⟩ := in_np (by omega) (bq h5)
        obtain ⟨q2, hq, rfl⟩ := in_np (by omega) (bq h13)
        refine x_aload_n (pc' := 25) rfl rfl rfl (x_getR (pc' := 28) (t := (6, 0, 0)) rfl rfl rfl (x_iload_n (pc' := 29) rfl rfl rfl (x_iload_n (pc' := 30) rfl rfl rfl (x_invI3 (pc' := 33) rfl rfl rfl rfl rfl (c_X6_hasMoreGifts 0 hK r3 _ _ hp hq) ?_))))
        refine x_if_eq (pc' := 36) rfl rfl (fun h33 => ?_) (fun h33 => ?_)
        · refine x_iconst (pc' := 41) rfl rfl ?_
          refine x_iret rfl rfl ?_
          have hv := show f_beats a (nI p2) (nI q2) = bI (btA a.s.g p2 q2) from by unfold f_beats; rw [bq h5, bq h13, dF h18, ix_nI (by omega), ix_nI (by omega)]; rfl
          first | exact ok_id (by rw [hv, bq h33]; rfl) (fun _ _ _ _ _ => rfl) hr | exact ok_id (by rw [hv, bI_eq0.mp h33]; rfl) (fun _ _ _ _ _ => rfl) hr
        · refine x_iconst (pc' := 37) rfl rfl (x_goto rfl ?_)
          refine x_iret rfl rfl ?_
          have hv := show f_beats a (nI p2) (nI q2) = bI (btA a.s.g p2 q2) from by unfold f_beats; rw [bq h5, bq h13, dF h18, ix_nI (by omega), ix_nI (by omega)]; rfl
          first | exact ok_id (by rw [hv, bq h33]; rfl) (fun _ _ _ _ _ => rfl) hr | exact ok_id (by rw [hv, bI_eq0.mp h33]; rfl) (fun _ _ _ _ _ => rfl) hr
set_option maxRecDepth 20000 in
theorem C_X8_spread {l : Launch} {X : XT} {d Lz : Nat} {w : WF} {a : AS} (h : CRel w a) (hV : AVl a) (k : Int32) : okC l X (d + 7) Lz md_X8_spread [.inl (k)] w (f_spread a k) (a) := by
  have hr := h
  obtain ⟨r1, r2, r3, r4, r5, r6, r7, r8, r9, r10⟩ := h
  have hK := hV.1
  have hv7 := hK.1
  have hv4 := hK.2.1
  have hs := hV.2.1
  have hnp := r2.2.2.1
  show WP l X _ md_X8_spread (0, [some (.inr (.inr (8, 0, 0))), some (.inl (k))], [], _) _
  refine x_iload_n (pc' := 1) rfl rfl rfl (x_invS1 (pc' := 4) rfl rfl rfl rfl (c_X8_isKind _) ?_)
  refine x_if_eq (pc' := 7) rfl rfl (fun h4 => ?_) (fun h4 => ?_)
  · refine x_ldc (pc' := 24) rfl rfl ?_
    refine x_iret rfl rfl ?_
    first | exact ok_id (by unfold f_spread isKd; rw [bq h4, ix_nI (by omega)]; rfl) (fun _ _ _ _ _ => rfl) hr | exact ok_id (by unfold f_spread isKd; rw [bI_eq0.mp h4]; rfl) (fun _ _ _ _ _ => rfl) hr
  · obtain ⟨k2, -, hk2, rfl⟩ := in_num (by omega) (bq h4) (by omega)
    refine x_aload_n (pc' := 8) rfl rfl rfl (x_getR (pc' := 11) (t := (6, 0, 0)) rfl rfl rfl (x_aload_n (pc' := 12) rfl rfl rfl (x_getR5 (pc' := 15) rfl rfl rfl (x_iload_n (pc' := 16) rfl rfl rfl (x_invI3 (pc' := 19) rfl rfl rfl rfl rfl (c_X6_spreadOf 0 _ hK r2 r3 k2 (by omega)) ?_)))))
    refine x_goto rfl ?_
    refine x_iret rfl rfl ?_
    first | exact ok_id (by unfold f_spread isKd; rw [bq h4, ix_nI (by omega)]; rfl) (fun _ _ _ _ _ => rfl) hr | exact ok_id (by unfold f_spread isKd; rw [bI_eq0.mp h4]; rfl) (fun _ _ _ _ _ => rfl) hr
theorem c_X7_append {l : Launch} {X : XT} {d Lz : Nat} {w : WF} (n : Nat) (hn : w 7 0 0 1 = nI n) (hl : n < 240) (x : Int32) : CT l X (d + 1) md_X7_append [.inr (.inr (7, 0, 0)), .inl x] (mk Lz w) (some (.inl (nI (n + 1)))) (mk Lz (u4 (u4 w 7 0 1 n x) 7 0 0 1 (nI (n + 1)))) := by
  show WP l X _ md_X7_append (0, [some (.inr (.inr (7, 0, 0))), some (.inl x)], [], _) _
  refine x_aload_n (pc' := 1) rfl rfl rfl (x_getI (pc' := 4) rfl rfl rfl ?_)
  rw [hn]
  refine x_sipush (pc' := 7) rfl rfl ?_
  refine x_icmp_geN (pc' := 10) rfl rfl (by omega) (by omega) (fun h7 => ?_) (fun h7 => ?_)
  · refine x_aload_n (pc' := 31) rfl rfl rfl (x_getI (pc' := 34) rfl rfl rfl ?_)
    refine x_iret rfl rfl ?_
    first | exact rI (u4_self _ _ _ _ _ _) | exact absurd hl (by omega)
  · refine x_aload_n (pc' := 11) rfl rfl rfl (x_getR (pc' := 14) (t := (7, _, 1)) rfl rfl rfl (x_aload_n (pc' := 15) rfl rfl rfl (x_getI (pc' := 18) rfl rfl rfl ?_)))
    rw [hn]
    refine x_iload_n (pc' := 19) rfl rfl rfl (x_iast (pc' := 20) (N := 240) rfl rfl rfl (by decide) rfl (by first | assumption | omega) (by decide) (x_aload_n (pc' := 21) rfl rfl rfl (x_dup (pc' := 22) rfl rfl rfl (x_getI (pc' := 25) rfl rfl rfl ?_))))
    rw [u4_ne (by decide), hn]
    refine x_iconst (pc' := 26) rfl rfl (x_iaddN (pc' := 27) rfl rfl (x_putI (pc' := 30) rfl rfl rfl (x_aload_n (pc' := 31) rfl rfl rfl (x_getI (pc' := 34) rfl rfl rfl ?_))))
    refine x_iret rfl rfl ?_
    first | exact rI (u4_self _ _ _ _ _ _) | exact absurd hl (by omega)
theorem CRel_tx {w w2 : WF} {a : AS} (h : CRel w a) (hf : ∀ c i o q, c ≠ 7 → w2 c i o q = w c i o q) (h4 : w2 7 0 0 4 = w 7 0 0 4) {n : Nat} {tx : Nat → Nat} (ht : TxC w2 n tx) : CRel w2 (a.1, a.2.1, a.2.2.1, a.2.2.2.1, a.2.2.2.2.1, a.2.2.2.2.2.1, a.2.2.2.2.2.2.1, (n, tx), a.fl) := by
  obtain ⟨r1, r2, r3, r4, r5, r6, r7, r8, r9, r10⟩ := h
  exact ⟨D2_cg (fun q _ => hf 8 0 0 q (by omega)) r1, KX_cg (fun i o q => hf 4 i o q (by omega)) (hf 8 0 0 8 (by omega)) r2, RC_cg (fun o q => hf 6 0 o q (by omega)) r3, PaC_cg (fun q => hf 3 0 0 q (by omega)) (fun i o q _ _ => hf 6 i o q (by omega)) r4, ImC_cg (fun i o q => hf 2 i o q (by omega)) (fun i o q _ => hf 6 i o q (by omega)) r5, (hf 8 0 0 10 (by omega)).trans r6, SeC_cg (fun o q _ => hf 5 0 o q (by omega)) r7, BoC_cg (fun o q => hf 0 0 o q (by omega)) r8, ht, h4.trans r10⟩
set_option maxRecDepth 20000 in
theorem C_X8_feed {l : Launch} {X : XT} {d Lz : Nat} {w : WF} {a : AS} (h : CRel w a) (hV : AVl a) (x : Int32) : okC l X (d + 7) Lz md_X8_feed [.inl (x)] w ((f_feed a x).1) ((f_feed a x).2) := by
  have hr := h
  obtain ⟨r1, r2, r3, r4, r5, r6, r7, r8, r9, r10⟩ := h
  have hK := hV.1
  have hv7 := hK.1
  have hv4 := hK.2.1
  have hs := hV.2.1
  have hnp := r2.2.2.1
  show WP l X _ md_X8_feed (0, [some (.inr (.inr (8, 0, 0))), some (.inl (x))], [], _) _
  refine x_iload_n (pc' := 1) rfl rfl rfl (x_iconst (pc' := 2) rfl rfl (x_sipush (pc' := 5) rfl rfl (x_invS3 (pc' := 8) rfl rfl rfl rfl rfl rfl (c_X8_isWithin _ _ _) ?_)))
  refine x_if_ne (pc' := 11) rfl rfl (fun h8 => ?_) (fun h8 => ?_)
  · refine x_ldc (pc' := 13) rfl rfl ?_
    refine x_iret rfl rfl ?_
    exact ok_id (by unfold f_feed; rw [bI_eq0.mp h8]; rfl) (fun _ _ _ _ _ => rfl) (by unfold f_feed; rw [bI_eq0.mp h8]; exact hr)
  · obtain ⟨m, -, hm, rfl⟩ := in_num (by omega) (bq h8) (by omega)
    have ht := hV.2.2.2.2.2.2.2.1
    refine x_aload_n (pc' := 15) rfl rfl rfl (x_getR (pc' := 18) (t := (7, 0, 0)) rfl rfl rfl (x_getI (pc' := 21) rfl rfl rfl ?_))
    rw [r9.1]
    refine x_sipush (pc' := 24) rfl rfl ?_
    refine x_icmp_ltN (pc' := 27) rfl rfl (by omega) (by omega) (fun h24 => ?_) (fun h24 => ?_)
    · refine x_aload_n (pc' := 31) rfl rfl rfl (x_getR (pc' := 34) (t := (7, 0, 0)) rfl rfl rfl (x_iload_n (pc' := 35) rfl rfl rfl (x_invI2 (pc' := 38) rfl rfl rfl rfl (c_X7_append a.tn r9.1 (by omega) _) ?_)))
      refine x_iret rfl rfl ?_
      refine ok_id (by unfold f_feed; rw [bq h8, if_pos (by omega)]; rfl) (fun c i o q hc => ?_) ?_
      · rw [u4_ne (ne3 (by omega)), u4_ne (ne3 (by omega))]
      · unfold f_feed; rw [bq h8, if_pos (by omega), ix_nI (by omega)]
        refine CRel_tx hr (fun c i o q hc => ?_) ?_ ⟨u4_self _ _ _ _ _ _, fun q hq => ?_⟩
        · rw [u4_ne (ne3 (by omega)), u4_ne (ne3 (by omega))]
        · rw [u4_k (by omega), u4_ne (by decide)]
        · rw [u4_ne (by decide), u4_at]
          show _ = nI (if q = a.tn then m else a.tx q)
          by_cases z : q = a.tn
          · rw [if_pos z, if_pos z]
          · rw [if_neg z, if_neg z]; exact r9.2 q (by omega)
    · refine x_ldc (pc' := 29) rfl rfl ?_
      refine x_iret rfl rfl ?_
      exact ok_id (by unfold f_feed; rw [bq h8, if_neg (by omega)]; rfl) (fun _ _ _ _ _ => rfl) (by unfold f_feed; rw [bq h8, if_neg (by omega)]; exact hr)
