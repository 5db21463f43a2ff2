/-! single deeds -/
theorem CRel_now {w1 w2 : WF} {a : AS} {s s' : Sa} {sd : Nat} (h1 : CRel w1 (a.rem s sd)) (hf : ∀ c i o q, ¬ (c = 6 ∧ i = 0) → w2 c i o q = w1 c i o q) (h0 : RC w2 a.K 0 s') : CRel w2 (a.rem s' sd) :=
  CRel_D (a := a.rem s sd) h1 (fun c i o q _ _ h3 _ _ _ => hf c i o q (by omega)) h0 (PaC_cg (fun q => hf 3 0 0 q (by omega)) (fun i o q _ _ => hf 6 i o q (by omega)) h1.2.2.2.1) ((hf 8 0 0 10 (by omega)).trans h1.2.2.2.2.2.1)
theorem MRel_now {w1 w2 : WF} {a : AS} {s s' : Sa} {sd : Nat} (hK : KV a.K) (h1 : MRel w1 (a.rem s sd)) (hf : fr9 w1 w2) (hf2 : ∀ q, 129 ≤ q → w2 9 0 1 q = w1 9 0 1 q) (h0 : RR w2 a.K 0 s') : MRel w2 (a.rem s' sd) :=
  MRel_D (a := a.rem s sd) hK h1 ⟨fun i o q hn => hf 9 i o q (by omega), fun q _ => hf 9 0 0 q (by omega), fun q hq _ => hf2 q (by omega)⟩ h0 (PaM_cg (hf 9 0 0 9 (by omega)) (fun q hq => hf2 q (by omega)) hK h1.2.2.1) ((hf2 129 (by omega)).trans h1.2.2.2.2.1)
set_option maxRecDepth 20000 in
theorem C_X8_effort {l : Launch} {X : XT} {d Lz : Nat} {w : WF} {a : AS} (h : CRel w a) (hV : AVl a) (p : Int32) (e : Int32) : okC l X (d + 7) Lz md_X8_effort [.inl (p), .inl (e)] w ((f_effort a p e).1) ((f_effort a p e).2) := by
  have hr := h
  obtain ⟨r1, r2, r3, r4, r5, r6, r7, r8, r9, r10⟩ := h
  have hK := hV.1
  have hv7 := hK.1
  have hv4 := hK.2.1
  have hs := hV.2.1
  have hnp := r2.2.2.1
  show WP l X _ md_X8_effort (0, [some (.inr (.inr (8, 0, 0))), some (.inl (p)), some (.inl (e)), none], [], _) _
  refine x_aload_n (pc' := 1) rfl rfl rfl (x_iload_n (pc' := 2) rfl rfl rfl (x_invI2 (pc' := 5) rfl rfl rfl rfl (p_X8_isPerson r2 _) ?_))
  refine x_if_ne (pc' := 8) rfl rfl (fun h5 => ?_) (fun h5 => ?_)
  · refine x_ldc (pc' := 10) rfl rfl ?_
    refine x_iret rfl rfl ?_
    exact ok_id (by unfold f_effort; rw [bI_eq0.mp h5]; rfl) (fun _ _ _ _ _ => rfl) (by unfold f_effort; rw [bI_eq0.mp h5]; exact hr)
  · obtain ⟨p2, hp, rfl⟩ := in_np (by omega) (bq h5)
    refine x_iload_n (pc' := 12) rfl rfl rfl (x_iconst (pc' := 13) rfl rfl (x_bipush (pc' := 15) rfl rfl (x_invS3 (pc' := 18) rfl rfl rfl rfl rfl rfl (c_X8_isWithin _ _ _) ?_)))
    refine x_if_ne (pc' := 21) rfl rfl (fun h18 => ?_) (fun h18 => ?_)
    · refine x_ldc (pc' := 23) rfl rfl ?_
      refine x_iret rfl rfl ?_
      exact ok_id (by unfold f_effort; rw [bq h5, bI_eq0.mp h18]; rfl) (fun _ _ _ _ _ => rfl) (by unfold f_effort; rw [bq h5, bI_eq0.mp h18]; exact hr)
    · refine x_aload_n (pc' := 25) rfl rfl rfl (x_getR (pc' := 28) (t := (3, 0, 0)) rfl rfl rfl (x_aload_n (pc' := 29) rfl rfl rfl (x_getR (pc' := 32) (t := (6, 0, 0)) rfl rfl rfl (x_invQ2 (pc' := 35) rfl rfl rfl rfl (rem_C hr hs.1 hV.2.2.1.1) (fun vq Mq hq32 => ?_)))))
      obtain ⟨rfl, w1, rfl, h1, hx⟩ := hq32
      have q3 : RC w1 a.K 0 a.s := h1.2.2.1
      have q2 : KX w1 a.K := h1.2.1
      show WP l X _ md_X8_effort (35, _, [], _) _
      refine x_aload_n (pc' := 36) rfl rfl rfl (x_getR (pc' := 39) (t := (6, 0, 0)) rfl rfl rfl (x_getR (pc' := 42) (t := (6, _, 2)) rfl rfl rfl (x_iload_n (pc' := 43) rfl rfl rfl (x_iald (pc' := 44) (N := 7) rfl rfl rfl rfl (by first | assumption | omega) (by decide) ?_))))
      rw [q3.2.1 _ hp]
      refine x_istore_n3 (pc' := 45) rfl rfl rfl (x_aload_n (pc' := 46) rfl rfl rfl (x_getR (pc' := 49) (t := (6, 0, 0)) rfl rfl rfl (x_getR (pc' := 52) (t := (6, _, 2)) rfl rfl rfl (x_iload_n (pc' := 53) rfl rfl rfl (x_iload_n (pc' := 54) rfl rfl rfl ?_)))))
      refine x_iast (pc' := 55) (N := 7) rfl rfl rfl (by decide) rfl (by first | assumption | omega) (by decide) (x_iload_n (pc' := 56) rfl rfl rfl ?_)
      refine x_iret rfl rfl ?_
      refine ok_id (by unfold f_effort; rw [bq h5, bq h18, ix_nI (by omega)]; rfl) (fun c i o q hc => by rw [u4_ne (ne3 (by omega))]; exact hx c i o q hc) ?_
      unfold f_effort; rw [bq h5, bq h18, ix_nI (by omega)]
      exact CRel_now h1 (fun c i o q hc => by rw [u4_ne (ne3 (by omega))]) (RC_setE q3)
set_option maxRecDepth 20000 in
theorem M_X9_effort {l : Launch} {X : XT} {d Lz : Nat} {w : WF} {a : AS} (h : MRel w a) (hV : AVl a) (p : Int32) (e : Int32) : okM l X (d + 8) Lz md_X9_effort [.inl (p), .inl (e)] w ((f_effort a p e).1) ((f_effort a p e).2) := by
  have hr := h
  obtain ⟨r1, r2, r3, r4, r5, r6, r7, r8, r9⟩ := h
  have hK := hV.1
  have hv7 := hK.1
  have hv4 := hK.2.1
  have hs := hV.2.1
  have hnp := r1.2.2.1
  have hno := r1.2.2.2.2.1
  show WP l X _ md_X9_effort (0, [some (.inr (.inr (9, 0, 0))), some (.inl (p)), some (.inl (e)), none], [], _) _
  refine x_aload_n (pc' := 1) rfl rfl rfl (x_iload_n (pc' := 2) rfl rfl rfl (x_invI2 (pc' := 5) rfl rfl rfl rfl (p_X9_isPerson r1 _) ?_))
  refine x_if_ne (pc' := 8) rfl rfl (fun h5 => ?_) (fun h5 => ?_)
  · refine x_ldc (pc' := 10) rfl rfl ?_
    refine x_iret rfl rfl ?_
    exact ok_id (by unfold f_effort; rw [bI_eq0.mp h5]; rfl) (fun _ _ _ _ _ => rfl) (by unfold f_effort; rw [bI_eq0.mp h5]; exact hr)
  · obtain ⟨p2, hp, rfl⟩ := in_np (by omega) (bq h5)
    refine x_iload_n (pc' := 12) rfl rfl rfl (x_iconst (pc' := 13) rfl rfl (x_bipush (pc' := 15) rfl rfl (x_invS3 (pc' := 18) rfl rfl rfl rfl rfl rfl (c_X9_in _ _ _) ?_)))
    refine x_if_ne (pc' := 21) rfl rfl (fun h18 => ?_) (fun h18 => ?_)
    · refine x_ldc (pc' := 23) rfl rfl ?_
      refine x_iret rfl rfl ?_
      exact ok_id (by unfold f_effort; rw [bq h5, bI_eq0.mp h18]; rfl) (fun _ _ _ _ _ => rfl) (by unfold f_effort; rw [bq h5, bI_eq0.mp h18]; exact hr)
    · refine x_aload_n (pc' := 25) rfl rfl rfl (x_invQ1 (pc' := 28) rfl rfl rfl (rem_M hr hK hV.2.2.1.1) (fun vq Mq hq25 => ?_))
      obtain ⟨rfl, w1, rfl, h1, hx⟩ := hq25
      have q2 : RR w1 a.K 0 a.s := h1.2.1
      have q1 : KM w1 a.K := h1.1
      show WP l X _ md_X9_effort (28, _, [], _) _
      refine x_aload_n (pc' := 29) rfl rfl rfl (x_getR (pc' := 32) (t := (9, _, 1)) rfl rfl rfl (x_bipush (pc' := 34) rfl rfl (x_iload_n (pc' := 35) rfl rfl rfl (x_iaddN (pc' := 36) rfl rfl (x_iald (pc' := 37) (N := 4420) rfl rfl rfl rfl (by first | assumption | omega) (by decide) ?_)))))
      rw [show w1 9 0 1 (21 + p2) = a.s.e p2 from q2.2.1 _ hp]
      refine x_istore_n3 (pc' := 38) rfl rfl rfl (x_aload_n (pc' := 39) rfl rfl rfl (x_getR (pc' := 42) (t := (9, _, 1)) rfl rfl rfl (x_bipush (pc' := 44) rfl rfl (x_iload_n (pc' := 45) rfl rfl rfl (x_iaddN (pc' := 46) rfl rfl ?_)))))
      refine x_iload_n (pc' := 47) rfl rfl rfl (x_iast (pc' := 48) (N := 4420) rfl rfl rfl (by decide) rfl (by first | assumption | omega) (by decide) (x_iload_n (pc' := 49) rfl rfl rfl ?_))
      refine x_iret rfl rfl ?_
      refine ok_id (by unfold f_effort; rw [bq h5, bq h18, ix_nI (by omega)]; rfl) (fun c i o q hc => by rw [u4_ne (ne3 (by omega))]; exact hx c i o q hc) ?_
      unfold f_effort; rw [bq h5, bq h18, ix_nI (by omega)]
      have hz := RR_setE (v := e) hK q2 (show p2 < 7 by omega)
      rw [show 0 + 21 + p2 = 21 + p2 by omega] at hz
      exact MRel_now hK h1 ((fr9.rf w1).u _ _) (fun q hq => by rw [u4_k (by omega)]) hz
set_option maxRecDepth 20000 in
theorem C_X8_rain {l : Launch} {X : XT} {d Lz : Nat} {w : WF} {a : AS} (h : CRel w a) (hV : AVl a) (v : Int32) (hv : v = 0 ∨ v = 1) : okC l X (d + 7) Lz md_X8_rain [.inl (v)] w ((f_rain a v).1) ((f_rain a v).2) := by
  have hr := h
  obtain ⟨r1, r2, r3, r4, r5, r6, r7, r8, r9, r10⟩ := h
  have hK := hV.1
  have hv7 := hK.1
  have hv4 := hK.2.1
  have hs := hV.2.1
  have hnp := r2.2.2.1
  show WP l X _ md_X8_rain (0, [some (.inr (.inr (8, 0, 0))), some (.inl (v)), none], [], _) _
  refine x_aload_n (pc' := 1) rfl rfl rfl (x_getR5 (pc' := 4) rfl rfl rfl (x_invI1 (pc' := 7) rfl rfl rfl (c_X4_isThere _) ?_))
  rw [r2.1]
  refine x_if_ne (pc' := 10) rfl rfl (fun h7 => ?_) (fun h7 => ?_)
  · refine x_ldc (pc' := 12) rfl rfl ?_
    refine x_iret rfl rfl ?_
    have hl := Decidable.not_not.mp (of_decide_eq_false (bI_eq0.mp h7))
    exact ok_id (by unfold f_rain; rw [if_pos hl]) (fun _ _ _ _ _ => rfl) (by unfold f_rain; rw [if_pos hl]; exact hr)
  · refine x_aload_n (pc' := 14) rfl rfl rfl (x_getR (pc' := 17) (t := (3, 0, 0)) rfl rfl rfl (x_aload_n (pc' := 18) rfl rfl rfl (x_getR (pc' := 21) (t := (6, 0, 0)) rfl rfl rfl (x_invQ2 (pc' := 24) rfl rfl rfl rfl (rem_C hr hs.1 hV.2.2.1.1) (fun vq Mq hq21 => ?_)))))
    obtain ⟨rfl, w1, rfl, h1, hx⟩ := hq21
    have q3 : RC w1 a.K 0 a.s := h1.2.2.1
    have q2 : KX w1 a.K := h1.2.1
    show WP l X _ md_X8_rain (24, _, [], _) _
    refine x_aload_n (pc' := 25) rfl rfl rfl (x_getR (pc' := 28) (t := (6, 0, 0)) rfl rfl rfl (x_getI (pc' := 31) rfl rfl rfl ?_))
    rw [q3.2.2.2.2.2.1]
    refine x_if_eq (pc' := 34) rfl rfl (fun h31 => ?_) (fun h31 => ?_)
    · refine x_iconst (pc' := 39) rfl rfl (x_istore_n2 (pc' := 40) rfl rfl rfl (x_aload_n (pc' := 41) rfl rfl rfl (x_getR (pc' := 44) (t := (6, 0, 0)) rfl rfl rfl (x_iload_n (pc' := 45) rfl rfl rfl (x_putZ (pc' := 48) rfl rfl rfl hv ?_)))))
      refine x_iload_n (pc' := 49) rfl rfl rfl ?_
      refine x_iret rfl rfl ?_
      have hl := of_decide_eq_true (bq h7)
      refine ok_id (by unfold f_rain; rw [if_neg hl]; first | exact h31.symm | exact (hs.1.1.resolve_left h31).symm) (fun c i o q hc => by rw [u4_ne (ne3 (by omega))]; exact hx c i o q hc) ?_
      unfold f_rain; rw [if_neg hl]
      exact CRel_now h1 (fun c i o q hc => by rw [u4_ne (ne3 (by omega))]) (RC_setR q3)
    · refine x_iconst (pc' := 35) rfl rfl (x_goto rfl (x_istore_n2 (pc' := 40) rfl rfl rfl (x_aload_n (pc' := 41) rfl rfl rfl (x_getR (pc' := 44) (t := (6, 0, 0)) rfl rfl rfl (x_iload_n (pc' := 45) rfl rfl rfl ?_)))))
      refine x_putZ (pc' := 48) rfl rfl rfl hv (x_iload_n (pc' := 49) rfl rfl rfl ?_)
      refine x_iret rfl rfl ?_
      have hl := of_decide_eq_true (bq h7)
      refine ok_id (by unfold f_rain; rw [if_neg hl]; first | exact h31.symm | exact (hs.1.1.resolve_left h31).symm) (fun c i o q hc => by rw [u4_ne (ne3 (by omega))]; exact hx c i o q hc) ?_
      unfold f_rain; rw [if_neg hl]
      exact CRel_now h1 (fun c i o q hc => by rw [u4_ne (ne3 (by omega))]) (RC_setR q3)
set_option maxRecDepth 20000 in
theorem M_X9_rain {l : Launch} {X : XT} {d Lz : Nat} {w : WF} {a : AS} (h : MRel w a) (hV : AVl a) (v : Int32) (hv : v = 0 ∨ v = 1) : okM l X (d + 8) Lz md_X9_rain [.inl (v)] w ((f_rain a v).1) ((f_rain a v).2) := by
  have hr := h
  obtain ⟨r1, r2, r3, r4, r5, r6, r7, r8, r9⟩ := h
  have hK := hV.1
  have hv7 := hK.1
  have hv4 := hK.2.1
  have hs := hV.2.1
  have hnp := r1.2.2.1
  have hno := r1.2.2.2.2.1
  show WP l X _ md_X9_rain (0, [some (.inr (.inr (9, 0, 0))), some (.inl (v)), none], [], _) _
  refine x_aload_n (pc' := 1) rfl rfl rfl (x_getI (pc' := 4) rfl rfl rfl ?_)
  rw [r1.1]
  refine x_iconst (pc' := 5) rfl rfl ?_
  refine x_icmp_ne (pc' := 8) rfl rfl (fun h5 => ?_) (fun h5 => ?_)
  · refine x_ldc (pc' := 10) rfl rfl ?_
    refine x_iret rfl rfl ?_
    exact ok_id (by unfold f_rain; rw [if_pos h5]) (fun _ _ _ _ _ => rfl) (by unfold f_rain; rw [if_pos h5]; exact hr)
  · refine x_aload_n (pc' := 12) rfl rfl rfl (x_invQ1 (pc' := 15) rfl rfl rfl (rem_M hr hK hV.2.2.1.1) (fun vq Mq hq12 => ?_))
    obtain ⟨rfl, w1, rfl, h1, hx⟩ := hq12
    have q2 : RR w1 a.K 0 a.s := h1.2.1
    have q1 : KM w1 a.K := h1.1
    show WP l X _ md_X9_rain (15, _, [], _) _
    refine x_aload_n (pc' := 16) rfl rfl rfl (x_getR (pc' := 19) (t := (9, _, 1)) rfl rfl rfl (x_bipush (pc' := 21) rfl rfl (x_iald (pc' := 22) (N := 4420) rfl rfl rfl rfl (by first | assumption | omega) (by decide) ?_)))
    rw [show w1 9 0 1 46 = a.s.rn from q2.2.2.2.2.2.1]
    refine x_istore_n2 (pc' := 23) rfl rfl rfl (x_aload_n (pc' := 24) rfl rfl rfl (x_getR (pc' := 27) (t := (9, _, 1)) rfl rfl rfl (x_bipush (pc' := 29) rfl rfl (x_iload_n (pc' := 30) rfl rfl rfl ?_))))
    refine x_if_eq (pc' := 33) rfl rfl (fun h30 => ?_) (fun h30 => ?_)
    · refine x_iconst (pc' := 38) rfl rfl (x_iast (pc' := 39) (N := 4420) rfl rfl rfl (by decide) rfl (by first | assumption | omega) (by decide) (x_iload_n (pc' := 40) rfl rfl rfl ?_))
      refine x_iret rfl rfl ?_
      refine ok_id (by unfold f_rain; rw [if_neg h5]) (fun c i o q hc => by rw [u4_ne (ne3 (by omega))]; exact hx c i o q hc) ?_
      unfold f_rain; rw [if_neg h5]
      have hz := RR_setR (v := v) hK q2
      first | (rw [h30] at hz ⊢; exact MRel_now hK h1 ((fr9.rf w1).u _ _) (fun q hq => by rw [u4_k (by omega)]) hz) | (rw [hv.resolve_left h30] at hz ⊢; exact MRel_now hK h1 ((fr9.rf w1).u _ _) (fun q hq => by rw [u4_k (by omega)]) hz)
    · refine x_iconst (pc' := 34) rfl rfl (x_goto rfl (x_iast (pc' := 39) (N := 4420) rfl rfl rfl (by decide) rfl (by first | assumption | omega) (by decide) (x_iload_n (pc' := 40) rfl rfl rfl ?_)))
      refine x_iret rfl rfl ?_
      refine ok_id (by unfold f_rain; rw [if_neg h5]) (fun c i o q hc => by rw [u4_ne (ne3 (by omega))]; exact hx c i o q hc) ?_
      unfold f_rain; rw [if_neg h5]
      have hz := RR_setR (v := v) hK q2
      first | (rw [h30] at hz ⊢; exact MRel_now hK h1 ((fr9.rf w1).u _ _) (fun q hq => by rw [u4_k (by omega)]) hz) | (rw [hv.resolve_left h30] at hz ⊢; exact MRel_now hK h1 ((fr9.rf w1).u _ _) (fun q hq => by rw [u4_k (by omega)]) hz)
set_option maxRecDepth 20000 in
theorem C_X8_teach {l : Launch} {X : XT} {d Lz : Nat} {w : WF} {a : AS} (h : CRel w a) (hV : AVl a) (p : Int32) (k : Int32) (v : Int32) : okC l X (d + 7) Lz md_X8_teach [.inl (p), .inl (k), .inl (v)] w ((f_teach a p k v).1) ((f_teach a p k v).2) := by
  have hr := h
  obtain ⟨r1, r2, r3, r4, r5, r6, r7, r8, r9, r10⟩ := h
  have hK := hV.1
  have hv7 := hK.1
  have hv4 := hK.2.1
  have hs := hV.2.1
  have hnp := r2.2.2.1
  show WP l X _ md_X8_teach (0, [some (.inr (.inr (8, 0, 0))), some (.inl (p)), some (.inl (k)), some (.inl (v)), none], [], _) _
  refine x_aload_n (pc' := 1) rfl rfl rfl (x_iload_n (pc' := 2) rfl rfl rfl (x_invI2 (pc' := 5) rfl rfl rfl rfl (p_X8_isPerson r2 _) ?_))
  refine x_if_ne (pc' := 8) rfl rfl (fun h5 => ?_) (fun h5 => ?_)
  · refine x_ldc (pc' := 10) rfl rfl ?_
    refine x_iret rfl rfl ?_
    exact ok_id (by unfold f_teach; rw [bI_eq0.mp h5]; rfl) (fun _ _ _ _ _ => rfl) (by unfold f_teach; rw [bI_eq0.mp h5]; exact hr)
  · obtain ⟨p2, hp, rfl⟩ := in_np (by omega) (bq h5)
    refine x_iload_n (pc' := 12) rfl rfl rfl (x_invS1 (pc' := 15) rfl rfl rfl rfl (c_X8_isKind _) ?_)
    refine x_if_eq (pc' := 18) rfl rfl (fun h15 => ?_) (fun h15 => ?_)
    · refine x_ldc (pc' := 30) rfl rfl ?_
      refine x_iret rfl rfl ?_
      first | exact ok_id (by unfold f_teach; rw [bq h5, show isKd k = false from bI_eq0.mp h15]; rfl) (fun _ _ _ _ _ => rfl) (by unfold f_teach; rw [bq h5, show isKd k = false from bI_eq0.mp h15]; exact hr) | exact ok_id (by unfold f_teach; rw [bq h5, show isKd k = true from bq h15, bI_eq0.mp h25]; rfl) (fun _ _ _ _ _ => rfl) (by unfold f_teach; rw [bq h5, show isKd k = true from bq h15, bI_eq0.mp h25]; exact hr)
    · refine x_iload_n (pc' := 19) rfl rfl rfl (x_iconst (pc' := 20) rfl rfl (x_bipush (pc' := 22) rfl rfl (x_invS3 (pc' := 25) rfl rfl rfl rfl rfl rfl (c_X8_isWithin _ _ _) ?_)))
      refine x_if_ne (pc' := 28) rfl rfl (fun h25 => ?_) (fun h25 => ?_)
      · refine x_ldc (pc' := 30) rfl rfl ?_
        refine x_iret rfl rfl ?_
        first | exact ok_id (by unfold f_teach; rw [bq h5, show isKd k = false from bI_eq0.mp h15]; rfl) (fun _ _ _ _ _ => rfl) (by unfold f_teach; rw [bq h5, show isKd k = false from bI_eq0.mp h15]; exact hr) | exact ok_id (by unfold f_teach; rw [bq h5, show isKd k = true from bq h15, bI_eq0.mp h25]; rfl) (fun _ _ _ _ _ => rfl) (by unfold f_teach; rw [bq h5, show isKd k = true from bq h15, bI_eq0.mp h25]; exact hr)
      · obtain ⟨k2, -, hk2, rfl⟩ := in_num (by omega) (bq h15) (by omega)
        refine x_aload_n (pc' := 32) rfl rfl rfl (x_getR (pc' := 35) (t := (3, 0, 0)) rfl rfl rfl (x_aload_n (pc' := 36) rfl rfl rfl (x_getR (pc' := 39) (t := (6, 0, 0)) rfl rfl rfl (x_invQ2 (pc' := 42) rfl rfl rfl rfl (rem_C hr hs.1 hV.2.2.1.1) (fun vq Mq hq39 => ?_)))))
        obtain ⟨rfl, w1, rfl, h1, hx⟩ := hq39
        have q3 : RC w1 a.K 0 a.s := h1.2.2.1
        have q2 : KX w1 a.K := h1.2.1
        show WP l X _ md_X8_teach (42, _, [], _) _
        refine x_aload_n (pc' := 43) rfl rfl rfl (x_getR (pc' := 46) (t := (6, 0, 0)) rfl rfl rfl (x_iload_n (pc' := 47) rfl rfl rfl (x_iload_n (pc' := 48) rfl rfl rfl (x_invI3 (pc' := 51) rfl rfl rfl rfl rfl (c_X6_giftOf _ _ _ (by omega)) ?_))))
        rw [q3.1 _ (by omega)]
        refine x_istore4 (pc' := 53) rfl rfl rfl (x_aload_n (pc' := 54) rfl rfl rfl (x_getR (pc' := 57) (t := (6, 0, 0)) rfl rfl rfl (x_iload_n (pc' := 58) rfl rfl rfl (x_iload_n (pc' := 59) rfl rfl rfl (x_iload_n (pc' := 60) rfl rfl rfl ?_)))))
        refine x_invV4 (pc' := 63) rfl rfl rfl rfl rfl rfl (c_X6_setGift _ _ _ _ (by omega)) ?_
        refine x_iload (pc' := 65) rfl rfl rfl ?_
        refine x_iret rfl rfl ?_
        refine ok_id (by unfold f_teach isKd; rw [bq h5, bq h15, bq h25, ix_nI (by omega), ix_nI (by omega)]; rfl) (fun c i o q hc => by rw [u4_ne (ne3 (by omega))]; exact hx c i o q hc) ?_
        unfold f_teach isKd; rw [bq h5, bq h15, bq h25, ix_nI (by omega), ix_nI (by omega)]
        exact CRel_now h1 (fun c i o q hc => by rw [u4_ne (ne3 (by omega))]) (RC_setG q3)
set_option maxRecDepth 20000 in
theorem M_X9_teach {l : Launch} {X : XT} {d Lz : Nat} {w : WF} {a : AS} (h : MRel w a) (hV : AVl a) (p : Int32) (k : Int32) (v : Int32) : okM l X (d + 8) Lz md_X9_teach [.inl (p), .inl (k), .inl (v)] w ((f_teach a p k v).1) ((f_teach a p k v).2) := by
  have hr := h
  obtain ⟨r1, r2, r3, r4, r5, r6, r7, r8, r9⟩ := h
  have hK := hV.1
  have hv7 := hK.1
  have hv4 := hK.2.1
  have hs := hV.2.1
  have hnp := r1.2.2.1
  have hno := r1.2.2.2.2.1
  show WP l X _ md_X9_teach (0, [some (.inr (.inr (9, 0, 0))), some (.inl (p)), some (.inl (k)), some (.inl (v)), none], [], _) _
  refine x_aload_n (pc' := 1) rfl rfl rfl (x_iload_n (pc' := 2) rfl rfl rfl (x_invI2 (pc' := 5) rfl rfl rfl rfl (p_X9_isPerson r1 _) ?_))
  refine x_if_ne (pc' := 8) rfl rfl (fun h5 => ?_) (fun h5 => ?_)
  · refine x_ldc (pc' := 10) rfl rfl ?_
    refine x_iret rfl rfl ?_
    exact ok_id (by unfold f_teach; rw [bI_eq0.mp h5]; rfl) (fun _ _ _ _ _ => rfl) (by unfold f_teach; rw [bI_eq0.mp h5]; exact hr)
  · obtain ⟨p2, hp, rfl⟩ := in_np (by omega) (bq h5)
    refine x_iload_n (pc' := 12) rfl rfl rfl (x_iconst (pc' := 13) rfl rfl (x_iconst (pc' := 14) rfl rfl (x_invS3 (pc' := 17) rfl rfl rfl rfl rfl rfl (c_X9_in _ _ _) ?_)))
    refine x_if_eq (pc' := 20) rfl rfl (fun h17 => ?_) (fun h17 => ?_)
    · refine x_ldc (pc' := 32) rfl rfl ?_
      refine x_iret rfl rfl ?_
      first | exact ok_id (by unfold f_teach; rw [bq h5, show isKd k = false from bI_eq0.mp h17]; rfl) (fun _ _ _ _ _ => rfl) (by unfold f_teach; rw [bq h5, show isKd k = false from bI_eq0.mp h17]; exact hr) | exact ok_id (by unfold f_teach; rw [bq h5, show isKd k = true from bq h17, bI_eq0.mp h27]; rfl) (fun _ _ _ _ _ => rfl) (by unfold f_teach; rw [bq h5, show isKd k = true from bq h17, bI_eq0.mp h27]; exact hr)
    · refine x_iload_n (pc' := 21) rfl rfl rfl (x_iconst (pc' := 22) rfl rfl (x_bipush (pc' := 24) rfl rfl (x_invS3 (pc' := 27) rfl rfl rfl rfl rfl rfl (c_X9_in _ _ _) ?_)))
      refine x_if_ne (pc' := 30) rfl rfl (fun h27 => ?_) (fun h27 => ?_)
      · refine x_ldc (pc' := 32) rfl rfl ?_
        refine x_iret rfl rfl ?_
        first | exact ok_id (by unfold f_teach; rw [bq h5, show isKd k = false from bI_eq0.mp h17]; rfl) (fun _ _ _ _ _ => rfl) (by unfold f_teach; rw [bq h5, show isKd k = false from bI_eq0.mp h17]; exact hr) | exact ok_id (by unfold f_teach; rw [bq h5, show isKd k = true from bq h17, bI_eq0.mp h27]; rfl) (fun _ _ _ _ _ => rfl) (by unfold f_teach; rw [bq h5, show isKd k = true from bq h17, bI_eq0.mp h27]; exact hr)
      · obtain ⟨k2, -, hk2, rfl⟩ := in_num (by omega) (bq h17) (by omega)
        refine x_aload_n (pc' := 34) rfl rfl rfl (x_invQ1 (pc' := 37) rfl rfl rfl (rem_M hr hK hV.2.2.1.1) (fun vq Mq hq34 => ?_))
        obtain ⟨rfl, w1, rfl, h1, hx⟩ := hq34
        have q2 : RR w1 a.K 0 a.s := h1.2.1
        have q1 : KM w1 a.K := h1.1
        show WP l X _ md_X9_teach (37, _, [], _) _
        refine x_aload_n (pc' := 38) rfl rfl rfl (x_getR (pc' := 41) (t := (9, _, 1)) rfl rfl rfl (x_iconst (pc' := 42) rfl rfl (x_iload_n (pc' := 43) rfl rfl rfl (x_imulN (pc' := 44) rfl rfl (x_iload_n (pc' := 45) rfl rfl rfl ?_)))))
        refine x_iaddN (pc' := 46) rfl rfl (x_iald (pc' := 47) (N := 4420) rfl rfl rfl rfl (by first | assumption | omega) (by decide) ?_)
        have hgv : w1 9 0 1 (3 * p2 + k2) = a.s.g (p2 * 3 + k2) := by
          have hz := q2.1 (p2 * 3 + k2) (by omega)
          rwa [show 0 + (p2 * 3 + k2) = 3 * p2 + k2 by omega] at hz
        rw [hgv]
        refine x_istore4 (pc' := 49) rfl rfl rfl (x_aload_n (pc' := 50) rfl rfl rfl (x_getR (pc' := 53) (t := (9, _, 1)) rfl rfl rfl (x_iconst (pc' := 54) rfl rfl (x_iload_n (pc' := 55) rfl rfl rfl (x_imulN (pc' := 56) rfl rfl ?_)))))
        refine x_iload_n (pc' := 57) rfl rfl rfl (x_iaddN (pc' := 58) rfl rfl (x_iload_n (pc' := 59) rfl rfl rfl (x_iast (pc' := 60) (N := 4420) rfl rfl rfl (by decide) rfl (by first | assumption | omega) (by decide) (x_iload (pc' := 62) rfl rfl rfl ?_))))
        refine x_iret rfl rfl ?_
        refine ok_id (by unfold f_teach isKd; rw [bq h5, bq h17, bq h27, ix_nI (by omega), ix_nI (by omega)]; rfl) (fun c i o q hc => by rw [u4_ne (ne3 (by omega))]; exact hx c i o q hc) ?_
        unfold f_teach isKd; rw [bq h5, bq h17, bq h27, ix_nI (by omega), ix_nI (by omega)]
        have hz := RR_setG (v := v) hK q2 (show p2 * 3 + k2 < 21 by omega)
        rw [show 0 + (p2 * 3 + k2) = 3 * p2 + k2 by omega] at hz
        exact MRel_now hK h1 ((fr9.rf w1).u _ _) (fun q hq => by rw [u4_k (by omega)]) hz
set_option maxRecDepth 20000 in
theorem C_X8_send {l : Launch} {X : XT} {d Lz : Nat} {w : WF} {a : AS} (h : CRel w a) (hV : AVl a) (p : Int32) : okC l X (d + 7) Lz md_X8_send [.inl (p)] w ((f_send a p).1) ((f_send a p).2) := by
  have hr := h
  obtain ⟨r1, r2, r3, r4, r5, r6, r7, r8, r9, r10⟩ := h
  have hK := hV.1
  have hv7 := hK.1
  have hv4 := hK.2.1
  have hs := hV.2.1
  have hnp := r2.2.2.1
  show WP l X _ md_X8_send (0, [some (.inr (.inr (8, 0, 0))), some (.inl (p))], [], _) _
  refine x_aload_n (pc' := 1) rfl rfl rfl (x_iload_n (pc' := 2) rfl rfl rfl (x_invI2 (pc' := 5) rfl rfl rfl rfl (p_X8_isPerson r2 _) ?_))
  refine x_if_ne (pc' := 8) rfl rfl (fun h5 => ?_) (fun h5 => ?_)
  · refine x_ldc (pc' := 10) rfl rfl ?_
    refine x_iret rfl rfl ?_
    exact ok_id (by unfold f_send; rw [bI_eq0.mp h5]; rfl) (fun _ _ _ _ _ => rfl) (by unfold f_send; rw [bI_eq0.mp h5]; exact hr)
  · obtain ⟨p2, hp, rfl⟩ := in_np (by omega) (bq h5)
    refine x_aload_n (pc' := 12) rfl rfl rfl (x_getR (pc' := 15) (t := (6, 0, 0)) rfl rfl rfl (x_iload_n (pc' := 16) rfl rfl rfl (x_invI2 (pc' := 19) rfl rfl rfl rfl (c_X6_isAtCourt _ _ (by omega)) ?_)))
    rw [show decide (w 6 0 3 p2 = 0) = coA a.s p2 from r3.co p2 hp]
    refine x_if_ne (pc' := 22) rfl rfl (fun h19 => ?_) (fun h19 => ?_)
    · refine x_ldc (pc' := 24) rfl rfl ?_
      refine x_iret rfl rfl ?_
      exact ok_id (by unfold f_send; rw [bq h5, ix_nI (by omega), bI_eq0.mp h19]; rfl) (fun _ _ _ _ _ => rfl) (by unfold f_send; rw [bq h5, ix_nI (by omega), bI_eq0.mp h19]; exact hr)
    · refine x_aload_n (pc' := 26) rfl rfl rfl (x_getR (pc' := 29) (t := (3, 0, 0)) rfl rfl rfl (x_aload_n (pc' := 30) rfl rfl rfl (x_getR (pc' := 33) (t := (6, 0, 0)) rfl rfl rfl (x_invQ2 (pc' := 36) rfl rfl rfl rfl (rem_C hr hs.1 hV.2.2.1.1) (fun vq Mq hq33 => ?_)))))
      obtain ⟨rfl, w1, rfl, h1, hx⟩ := hq33
      have q3 : RC w1 a.K 0 a.s := h1.2.2.1
      have q2 : KX w1 a.K := h1.2.1
      show WP l X _ md_X8_send (36, _, [], _) _
      refine x_aload_n (pc' := 37) rfl rfl rfl (x_getR (pc' := 40) (t := (6, 0, 0)) rfl rfl rfl (x_aload_n (pc' := 41) rfl rfl rfl (x_getR5 (pc' := 44) rfl rfl rfl (x_iload_n (pc' := 45) rfl rfl rfl (x_invQ3 (pc' := 48) rfl rfl rfl rfl rfl (c_X6_toCoast 0 _ p2 (by omega) a.K.no q2.2.2.2.2.1 hv4) (fun vq Mq hq45 => ?_))))))
      obtain ⟨rfl, w2, rfl, ht⟩ := hq45
      rw [q2.2.1] at ht
      have q4 := RC_off q3 ht
      have hfa : ∀ c i o q, ¬ (c = 6 ∧ i = 0) → w2 c i o q = w1 c i o q := fun c i o q hc => ht.1 c i o q (by omega)
      have k2 : KX w2 a.K := KX_cg (fun i o q => hfa 4 i o q (by omega)) (hfa 8 0 0 8 (by omega)) q2
      show WP l X _ md_X8_send (48, _, [], _) _
      refine x_aload_n (pc' := 49) rfl rfl rfl (x_getR (pc' := 52) (t := (6, 0, 0)) rfl rfl rfl (x_aload_n (pc' := 53) rfl rfl rfl (x_getR5 (pc' := 56) rfl rfl rfl (x_invI2 (pc' := 59) rfl rfl rfl rfl (c_X6_courtOf 0 _ _ k2.2.2.1 hv7) ?_))))
      refine x_invS1 (pc' := 62) rfl rfl rfl rfl (c_J6_bitCount_0f7a4 _) ?_
      refine x_iret rfl rfl ?_
      refine ok_id (by unfold f_send; rw [bq h5, ix_nI (by omega), bq h19, enc_congr (g := coA (a.s.off a.K.term p2)) _ (fun p hp => q4.co p hp)]; rfl) (fun c i o q hc => (hfa c i o q (by omega)).trans (hx c i o q hc)) ?_
      unfold f_send; rw [bq h5, ix_nI (by omega), bq h19]
      exact CRel_now h1 hfa q4
set_option maxRecDepth 20000 in
theorem M_X9_send {l : Launch} {X : XT} {d Lz : Nat} {w : WF} {a : AS} (h : MRel w a) (hV : AVl a) (p : Int32) : okM l X (d + 8) Lz md_X9_send [.inl (p)] w ((f_send a p).1) ((f_send a p).2) := by
  have hr := h
  obtain ⟨r1, r2, r3, r4, r5, r6, r7, r8, r9⟩ := h
  have hK := hV.1
  have hv7 := hK.1
  have hv4 := hK.2.1
  have hs := hV.2.1
  have hnp := r1.2.2.1
  have hno := r1.2.2.2.2.1
  show WP l X _ md_X9_send (0, [some (.inr (.inr (9, 0, 0))), some (.inl (p))], [], _) _
  refine x_aload_n (pc' := 1) rfl rfl rfl (x_iload_n (pc' := 2) rfl rfl rfl (x_invI2 (pc' := 5) rfl rfl rfl rfl (p_X9_isPerson r1 _) ?_))
  refine x_if_ne (pc' := 8) rfl rfl (fun h5 => ?_) (fun h5 => ?_)
  · refine x_ldc (pc' := 10) rfl rfl ?_
    refine x_iret rfl rfl ?_
    exact ok_id (by unfold f_send; rw [bI_eq0.mp h5]; rfl) (fun _ _ _ _ _ => rfl) (by unfold f_send; rw [bI_eq0.mp h5]; exact hr)
  · obtain ⟨p2, hp, rfl⟩ := in_np (by omega) (bq h5)
    refine x_aload_n (pc' := 12) rfl rfl rfl (x_iconst (pc' := 13) rfl rfl (x_iload_n (pc' := 14) rfl rfl rfl (x_invI3 (pc' := 17) rfl rfl rfl rfl rfl (c_X9_isAtCourt 0 (by omega) _ (by omega)) ?_)))
    rw [r2.co p2 hp]
    refine x_if_ne (pc' := 20) rfl rfl (fun h17 => ?_) (fun h17 => ?_)
    · refine x_ldc (pc' := 22) rfl rfl ?_
      refine x_iret rfl rfl ?_
      exact ok_id (by unfold f_send; rw [bq h5, ix_nI (by omega), bI_eq0.mp h17]; rfl) (fun _ _ _ _ _ => rfl) (by unfold f_send; rw [bq h5, ix_nI (by omega), bI_eq0.mp h17]; exact hr)
    · refine x_aload_n (pc' := 24) rfl rfl rfl (x_invQ1 (pc' := 27) rfl rfl rfl (rem_M hr hK hV.2.2.1.1) (fun vq Mq hq24 => ?_))
      obtain ⟨rfl, w1, rfl, h1, hx⟩ := hq24
      have q2 : RR w1 a.K 0 a.s := h1.2.1
      have q1 : KM w1 a.K := h1.1
      show WP l X _ md_X9_send (27, _, [], _) _
      refine x_aload_n (pc' := 28) rfl rfl rfl (x_iconst (pc' := 29) rfl rfl (x_iload_n (pc' := 30) rfl rfl rfl (x_invQ3 (pc' := 33) rfl rfl rfl rfl rfl (c_X9_goOff 0 (by omega) p2 (by omega) a.K.no q1.2.2.2.2.1 hv4) (fun vq Mq hq30 => ?_))))
      obtain ⟨rfl, w2, rfl, ht⟩ := hq30
      rw [q1.2.1] at ht
      have q4 := RR_off hK q2 ht
      have k2 : KM w2 a.K := KM_fr9 q1 ht.1
      show WP l X _ md_X9_send (33, _, [], _) _
      refine x_aload_n (pc' := 34) rfl rfl rfl (x_iconst (pc' := 35) rfl rfl (x_invI2 (pc' := 38) rfl rfl rfl rfl (c_X9_courtIn 0 (by omega) _ k2.2.2.1 hv7) ?_))
      refine x_invS1 (pc' := 41) rfl rfl rfl rfl (c_X9_bits _) ?_
      refine x_iret rfl rfl ?_
      refine ok_id (by unfold f_send; rw [bq h5, ix_nI (by omega), bq h17, bt_enc hv7, enc_congr (g := coA (a.s.off a.K.term p2)) _ (fun p hp => q4.co p hp)]; rfl) (fun c i o q hc => (ht.1 c i o q (by omega)).trans (hx c i o q hc)) ?_
      unfold f_send; rw [bq h5, ix_nI (by omega), bq h17]
      exact MRel_now hK h1 ht.1 (fun q hq => ht.2.1 q (by omega) (by omega)) q4
set_option maxRecDepth 20000 in
theorem C_X8_recall {l : Launch} {X : XT} {d Lz : Nat} {w : WF} {a : AS} (h : CRel w a) (hV : AVl a) (p : Int32) : okC l X (d + 7) Lz md_X8_recall [.inl (p)] w ((f_recall a p).1) ((f_recall a p).2) := by
  have hr := h
  obtain ⟨r1, r2, r3, r4, r5, r6, r7, r8, r9, r10⟩ := h
  have hK := hV.1
  have hv7 := hK.1
  have hv4 := hK.2.1
  have hs := hV.2.1
  have hnp := r2.2.2.1
  show WP l X _ md_X8_recall (0, [some (.inr (.inr (8, 0, 0))), some (.inl (p))], [], _) _
  refine x_aload_n (pc' := 1) rfl rfl rfl (x_iload_n (pc' := 2) rfl rfl rfl (x_invI2 (pc' := 5) rfl rfl rfl rfl (p_X8_isPerson r2 _) ?_))
  refine x_if_ne (pc' := 8) rfl rfl (fun h5 => ?_) (fun h5 => ?_)
  · refine x_ldc (pc' := 10) rfl rfl ?_
    refine x_iret rfl rfl ?_
    exact ok_id (by unfold f_recall; rw [bI_eq0.mp h5]; rfl) (fun _ _ _ _ _ => rfl) (by unfold f_recall; rw [bI_eq0.mp h5]; exact hr)
  · obtain ⟨p2, hp, rfl⟩ := in_np (by omega) (bq h5)
    refine x_aload_n (pc' := 12) rfl rfl rfl (x_getR (pc' := 15) (t := (6, 0, 0)) rfl rfl rfl (x_iload_n (pc' := 16) rfl rfl rfl (x_invI2 (pc' := 19) rfl rfl rfl rfl (c_X6_isAtCourt _ _ (by omega)) ?_)))
    rw [show decide (w 6 0 3 p2 = 0) = coA a.s p2 from r3.co p2 hp]
    refine x_if_eq (pc' := 22) rfl rfl (fun h19 => ?_) (fun h19 => ?_)
    · refine x_aload_n (pc' := 26) rfl rfl rfl (x_getR (pc' := 29) (t := (3, 0, 0)) rfl rfl rfl (x_aload_n (pc' := 30) rfl rfl rfl (x_getR (pc' := 33) (t := (6, 0, 0)) rfl rfl rfl (x_invQ2 (pc' := 36) rfl rfl rfl rfl (rem_C hr hs.1 hV.2.2.1.1) (fun vq Mq hq33 => ?_)))))
      obtain ⟨rfl, w1, rfl, h1, hx⟩ := hq33
      have q3 : RC w1 a.K 0 a.s := h1.2.2.1
      have q2 : KX w1 a.K := h1.2.1
      show WP l X _ md_X8_recall (36, _, [], _) _
      refine x_aload_n (pc' := 37) rfl rfl rfl (x_getR (pc' := 40) (t := (6, 0, 0)) rfl rfl rfl (x_getR (pc' := 43) (t := (6, _, 3)) rfl rfl rfl (x_iload_n (pc' := 44) rfl rfl rfl (x_iconst (pc' := 45) rfl rfl (x_iast (pc' := 46) (N := 7) rfl rfl rfl (by decide) rfl (by first | assumption | omega) (by decide) ?_)))))
      have q4 := RC_setC (p := p2) (v := nI 0) q3
      have k2 : KX (u4 w1 6 0 3 p2 (nI 0)) a.K := KX_cg (fun i o q => by rw [u4_ne (by intro z; cases z)]) (by rw [u4_ne (by decide)]) q2
      refine x_aload_n (pc' := 47) rfl rfl rfl (x_getR (pc' := 50) (t := (6, 0, 0)) rfl rfl rfl (x_aload_n (pc' := 51) rfl rfl rfl (x_getR5 (pc' := 54) rfl rfl rfl (x_invI2 (pc' := 57) rfl rfl rfl rfl (c_X6_courtOf 0 _ _ k2.2.2.1 hv7) ?_))))
      refine x_invS1 (pc' := 60) rfl rfl rfl rfl (c_J6_bitCount_0f7a4 _) ?_
      refine x_iret rfl rfl ?_
      refine ok_id (by unfold f_recall; rw [bq h5, ix_nI (by omega), bI_eq0.mp h19, enc_congr (g := coA (a.s.setC p2 (nI 0))) _ (fun p hp => q4.co p hp)]; rfl) (fun c i o q hc => by rw [u4_ne (ne3 (by omega))]; exact hx c i o q hc) ?_
      unfold f_recall; rw [bq h5, ix_nI (by omega), bI_eq0.mp h19]
      exact CRel_now h1 (fun c i o q hc => by rw [u4_ne (ne3 (by omega))]) q4
    · refine x_ldc (pc' := 24) rfl rfl ?_
      refine x_iret rfl rfl ?_
      exact ok_id (by unfold f_recall; rw [bq h5, ix_nI (by omega), bq h19]; rfl) (fun _ _ _ _ _ => rfl) (by unfold f_recall; rw [bq h5, ix_nI (by omega), bq h19]; exact hr)
set_option maxRecDepth 20000 in
theorem M_X9_recall {l : Launch} {X : XT} {d Lz : Nat} {w : WF} {a : AS} (h : MRel w a) (hV : AVl a) (p : Int32) : okM l X (d + 8) Lz md_X9_recall [.inl (p)] w ((f_recall a p).1) ((f_recall a p).2) := by
  have hr := h
  obtain ⟨r1, r2, r3, r4, r5, r6, r7, r8, r9⟩ := h
  have hK := hV.1
  have hv7 := hK.1
  have hv4 := hK.2.1
  have hs := hV.2.1
  have hnp := r1.2.2.1
  have hno := r1.2.2.2.2.1
  show WP l X _ md_X9_recall (0, [some (.inr (.inr (9, 0, 0))), some (.inl (p))], [], _) _
  refine x_aload_n (pc' := 1) rfl rfl rfl (x_iload_n (pc' := 2) rfl rfl rfl (x_invI2 (pc' := 5) rfl rfl rfl rfl (p_X9_isPerson r1 _) ?_))
  refine x_if_ne (pc' := 8) rfl rfl (fun h5 => ?_) (fun h5 => ?_)
  · refine x_ldc (pc' := 10) rfl rfl ?_
    refine x_iret rfl rfl ?_
    exact ok_id (by unfold f_recall; rw [bI_eq0.mp h5]; rfl) (fun _ _ _ _ _ => rfl) (by unfold f_recall; rw [bI_eq0.mp h5]; exact hr)
  · obtain ⟨p2, hp, rfl⟩ := in_np (by omega) (bq h5)
    refine x_aload_n (pc' := 12) rfl rfl rfl (x_iconst (pc' := 13) rfl rfl (x_iload_n (pc' := 14) rfl rfl rfl (x_invI3 (pc' := 17) rfl rfl rfl rfl rfl (c_X9_isAtCourt 0 (by omega) _ (by omega)) ?_)))
    rw [r2.co p2 hp]
    refine x_if_eq (pc' := 20) rfl rfl (fun h17 => ?_) (fun h17 => ?_)
    · refine x_aload_n (pc' := 24) rfl rfl rfl (x_invQ1 (pc' := 27) rfl rfl rfl (rem_M hr hK hV.2.2.1.1) (fun vq Mq hq24 => ?_))
      obtain ⟨rfl, w1, rfl, h1, hx⟩ := hq24
      have q2 : RR w1 a.K 0 a.s := h1.2.1
      have q1 : KM w1 a.K := h1.1
      show WP l X _ md_X9_recall (27, _, [], _) _
      refine x_aload_n (pc' := 28) rfl rfl rfl (x_getR (pc' := 31) (t := (9, _, 1)) rfl rfl rfl (x_bipush (pc' := 33) rfl rfl (x_iload_n (pc' := 34) rfl rfl rfl (x_iaddN (pc' := 35) rfl rfl (x_iconst (pc' := 36) rfl rfl ?_)))))
      refine x_iast (pc' := 37) (N := 4420) rfl rfl rfl (by decide) rfl (by first | assumption | omega) (by decide) ?_
      have q4 := RR_setC (v := nI 0) hK q2 (show p2 < 7 by omega)
      rw [show 0 + 28 + p2 = 28 + p2 by omega] at q4
      have k2 : KM (u4 w1 9 0 1 (28 + p2) (nI 0)) a.K := KM_fr9 q1 ((fr9.rf w1).u _ _)
      refine x_aload_n (pc' := 38) rfl rfl rfl (x_iconst (pc' := 39) rfl rfl (x_invI2 (pc' := 42) rfl rfl rfl rfl (c_X9_courtIn 0 (by omega) _ k2.2.2.1 hv7) ?_))
      refine x_invS1 (pc' := 45) rfl rfl rfl rfl (c_X9_bits _) ?_
      refine x_iret rfl rfl ?_
      refine ok_id (by unfold f_recall; rw [bq h5, ix_nI (by omega), bI_eq0.mp h17, bt_enc hv7, enc_congr (g := coA (a.s.setC p2 (nI 0))) _ (fun p hp => q4.co p hp)]; rfl) (fun c i o q hc => by rw [u4_ne (ne3 (by omega))]; exact hx c i o q hc) ?_
      unfold f_recall; rw [bq h5, ix_nI (by omega), bI_eq0.mp h17]
      exact MRel_now hK h1 ((fr9.rf w1).u _ _) (fun q hq => by rw [u4_k (by omega)]) q4
    · refine x_ldc (pc' := 22) rfl rfl ?_
      refine x_iret rfl rfl ?_
      exact ok_id (by unfold f_recall; rw [bq h5, ix_nI (by omega), bq h17]; rfl) (fun _ _ _ _ _ => rfl) (by unfold f_recall; rw [bq h5, ix_nI (by omega), bq h17]; exact hr)
set_option maxRecDepth 20000 in
theorem C_X8_undo {l : Launch} {X : XT} {d Lz : Nat} {w : WF} {a : AS} (h : CRel w a) (hV : AVl a) (n : Int32) : okC l X (d + 7) Lz md_X8_undo [.inl (n)] w ((f_undo a n).1) ((f_undo a n).2) := by
  have hr := h
  obtain ⟨r1, r2, r3, r4, r5, r6, r7, r8, r9, r10⟩ := h
  have hK := hV.1
  have hv7 := hK.1
  have hv4 := hK.2.1
  have hs := hV.2.1
  have hnp := r2.2.2.1
  show WP l X _ md_X8_undo (0, [some (.inr (.inr (8, 0, 0))), some (.inl (n))], [], _) _
  refine x_iload_n (pc' := 1) rfl rfl rfl (x_iconst (pc' := 2) rfl rfl (x_bipush (pc' := 4) rfl rfl (x_invS3 (pc' := 7) rfl rfl rfl rfl rfl rfl (c_X8_isWithin _ _ _) ?_)))
  refine x_if_ne (pc' := 10) rfl rfl (fun h7 => ?_) (fun h7 => ?_)
  · refine x_ldc (pc' := 12) rfl rfl ?_
    refine x_iret rfl rfl ?_
    exact ok_id (by unfold f_undo; rw [bI_eq0.mp h7]; rfl) (fun _ _ _ _ _ => rfl) (by unfold f_undo; rw [bI_eq0.mp h7]; exact hr)
  · obtain ⟨m, hm1, hm, rfl⟩ := in_num (by omega) (bq h7) (by omega)
    have h30 := hV.2.2.1.1
    refine x_iload_n (pc' := 14) rfl rfl rfl (x_aload_n (pc' := 15) rfl rfl rfl (x_getR (pc' := 18) (t := (3, 0, 0)) rfl rfl rfl (x_getI (pc' := 21) rfl rfl rfl ?_)))
    rw [r4.1]
    refine x_icmp_leN (pc' := 24) rfl rfl (by omega) (by omega) (fun h21 => ?_) (fun h21 => ?_)
    · refine x_aload_n (pc' := 28) rfl rfl rfl (x_getR (pc' := 31) (t := (3, 0, 0)) rfl rfl rfl (x_aload_n (pc' := 32) rfl rfl rfl (x_getR (pc' := 35) (t := (6, 0, 0)) rfl rfl rfl (x_iload_n (pc' := 36) rfl rfl rfl (x_invQ3 (pc' := 39) rfl rfl rfl rfl rfl (c_X3_takeBack a.n m a.pa (hV.2.2.1.2 _ (by omega)).1 r4 h30 hm1 h21) (fun vq Mq hq36 => ?_))))))
      obtain ⟨rfl, w1, rfl, h0, hp, hf⟩ := hq36
      show WP l X _ md_X8_undo (39, _, [], _) _
      refine x_aload_n (pc' := 40) rfl rfl rfl (x_getR (pc' := 43) (t := (6, 0, 0)) rfl rfl rfl (x_getI (pc' := 46) rfl rfl rfl ?_))
      rw [h0.2.2.2.2.2.2.1]
      refine x_iret rfl rfl ?_
      have hn : ix (nI m) ≤ a.n := by rw [ix_nI (by omega)]; omega
      refine ok_id (by unfold f_undo; rw [bq h7, if_pos hn, ix_nI (by omega)]; rfl) (fun c i o q hc => hf c i o q (by omega) (by omega)) ?_
      unfold f_undo; rw [bq h7, if_pos hn, ix_nI (by omega)]
      exact CRel_D hr (fun c i o q _ _ h3 h4 _ _ => hf c i o q h4 (by omega)) h0 hp ((hf 8 0 0 10 (by omega) (by omega)).trans r6)
    · refine x_ldc (pc' := 26) rfl rfl ?_
      refine x_iret rfl rfl ?_
      have hn : ¬ ix (nI m) ≤ a.n := by rw [ix_nI (by omega)]; omega
      exact ok_id (by unfold f_undo; rw [bq h7, if_neg hn]; rfl) (fun _ _ _ _ _ => rfl) (by unfold f_undo; rw [bq h7, if_neg hn]; exact hr)
set_option maxRecDepth 20000 in
theorem M_X9_undo {l : Launch} {X : XT} {d Lz : Nat} {w : WF} {a : AS} (h : MRel w a) (hV : AVl a) (n : Int32) : okM l X (d + 8) Lz md_X9_undo [.inl (n)] w ((f_undo a n).1) ((f_undo a n).2) := by
  have hr := h
  obtain ⟨r1, r2, r3, r4, r5, r6, r7, r8, r9⟩ := h
  have hK := hV.1
  have hv7 := hK.1
  have hv4 := hK.2.1
  have hs := hV.2.1
  have hnp := r1.2.2.1
  have hno := r1.2.2.2.2.1
  show WP l X _ md_X9_undo (0, [some (.inr (.inr (9, 0, 0))), some (.inl (n)), none], [], _) _
  refine x_iload_n (pc' := 1) rfl rfl rfl (x_iconst (pc' := 2) rfl rfl (x_bipush (pc' := 4) rfl rfl (x_invS3 (pc' := 7) rfl rfl rfl rfl rfl rfl (c_X9_in _ _ _) ?_)))
  refine x_if_ne (pc' := 10) rfl rfl (fun h7 => ?_) (fun h7 => ?_)
  · refine x_ldc (pc' := 12) rfl rfl ?_
    refine x_iret rfl rfl ?_
    exact ok_id (by unfold f_undo; rw [bI_eq0.mp h7]; rfl) (fun _ _ _ _ _ => rfl) (by unfold f_undo; rw [bI_eq0.mp h7]; exact hr)
  · obtain ⟨m, hm1, hm, rfl⟩ := in_num (by omega) (bq h7) (by omega)
    have h30 := hV.2.2.1.1
    refine x_iload_n (pc' := 14) rfl rfl rfl (x_aload_n (pc' := 15) rfl rfl rfl (x_getI (pc' := 18) rfl rfl rfl ?_))
    rw [r3.1]
    refine x_icmp_leN (pc' := 21) rfl rfl (by omega) (by omega) (fun h18 => ?_) (fun h18 => ?_)
    · have hrow := r3.2 (a.n - m) (by omega)
      refine x_aload_n (pc' := 25) rfl rfl rfl (x_dup (pc' := 26) rfl rfl rfl (x_getI (pc' := 29) rfl rfl rfl ?_))
      rw [r3.1]
      refine x_iload_n (pc' := 30) rfl rfl rfl (x_isubN (pc' := 31) rfl rfl (by first | assumption | omega) (x_putI (pc' := 34) rfl rfl rfl (x_aload_n (pc' := 35) rfl rfl rfl (x_getR (pc' := 38) (t := (9, _, 1)) rfl rfl rfl (x_sipush (pc' := 41) rfl rfl ?_)))))
      refine x_iald (pc' := 42) (N := 4420) rfl rfl rfl rfl (by first | assumption | omega) (by decide) ?_
      rw [u4_ne (by decide), r5]
      refine x_istore_n2 (pc' := 43) rfl rfl rfl (x_aload_n (pc' := 44) rfl rfl rfl (x_sipush (pc' := 47) rfl rfl (x_sipush (pc' := 50) rfl rfl (x_aload_n (pc' := 51) rfl rfl rfl (x_getI (pc' := 54) rfl rfl rfl ?_)))))
      rw [u4_self]
      refine x_imulN (pc' := 55) rfl rfl (x_iaddN (pc' := 56) rfl rfl (x_iconst (pc' := 57) rfl rfl (x_invQ3 (pc' := 60) rfl rfl rfl rfl rfl (c_X9_copyRow (520 + 130 * (a.n - m)) 0 (by omega) (by omega) (by omega)) (fun vq Mq hq57 => ?_))))
      obtain ⟨rfl, w1, rfl, hc⟩ := hq57
      show WP l X _ md_X9_undo (60, _, [], _) _
      refine x_aload_n (pc' := 61) rfl rfl rfl (x_getR (pc' := 64) (t := (9, _, 1)) rfl rfl rfl (x_sipush (pc' := 67) rfl rfl (x_iload_n (pc' := 68) rfl rfl rfl (x_iast (pc' := 69) (N := 4420) rfl rfl rfl (by decide) rfl (by first | assumption | omega) (by decide) (x_aload_n (pc' := 70) rfl rfl rfl ?_)))))
      refine x_getR (pc' := 73) (t := (9, _, 1)) rfl rfl rfl (x_bipush (pc' := 75) rfl rfl (x_iald (pc' := 76) (N := 4420) rfl rfl rfl rfl (by first | assumption | omega) (by decide) ?_))
      have hd0 : u4 w1 9 0 1 129 (nI a.sd) 9 0 1 47 = nI (a.pa (a.n - m)).dd := by
        rw [u4_k (by omega), show (47 : Nat) = 0 + 47 from rfl, hc.2.2 47 (by omega), u4_ne (by decide)]; exact hrow.2.2.2.2.2.2.1
      rw [hd0]
      refine x_iret rfl rfl ?_
      have hn : ix (nI m) ≤ a.n := by rw [ix_nI (by omega)]; omega
      refine ok_id (by unfold f_undo; rw [bq h7, if_pos hn, ix_nI (by omega)]; rfl) (fun c i o q h9 => by rw [u4_ne (ne3 (by omega)), hc.1 c i o q (by omega), u4_ne (ne3 (by omega))]) ?_
      unfold f_undo; rw [bq h7, if_pos hn, ix_nI (by omega)]
      refine MRel_D hK hr ⟨fun i o q h0 => by rw [u4_ne (ne3 (by omega)), hc.1 9 i o q (by omega), u4_ne (ne3 (by omega))], fun q hq => by rw [u4_ne (by decide), hc.1 9 0 0 q (by omega), u4_k hq], fun q q1 q2 => by rw [u4_k (by omega), hc.2.1 q (by omega), u4_ne (by decide)]⟩ ?_ ⟨by rw [u4_ne (by decide), hc.1 9 0 0 9 (by omega), u4_self], fun k hk => ?_⟩ (u4_self _ _ _ _ _ _)
      · exact RR_cp (w := w) (fun q hq => by rw [u4_k (by omega), hc.2.2 q (by omega), u4_ne (by decide)]) hK hrow
      · exact RR_cg (w := w) (fun q q1 q2 => by rw [u4_k (by omega), hc.2.1 q (by omega), u4_ne (by decide)]) hK (r3.2 k (by omega))
    · refine x_ldc (pc' := 23) rfl rfl ?_
      refine x_iret rfl rfl ?_
      have hn : ¬ ix (nI m) ≤ a.n := by rw [ix_nI (by omega)]; omega
      exact ok_id (by unfold f_undo; rw [bq h7, if_neg hn]; rfl) (fun _ _ _ _ _ => rfl) (by unfold f_undo; rw [bq h7, if_neg hn]; exact hr)
