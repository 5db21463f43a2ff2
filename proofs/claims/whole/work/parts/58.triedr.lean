/-! what is tried, with the reference -/
theorem frT.rf (w : WF) : frT w w := ⟨fr9.rf w, fun _ _ => rfl⟩
theorem frT.tr {a b c : WF} (h : frT a b) (h2 : frT b c) : frT a c := ⟨h.1.tr h2.1, fun q hq => (h2.2 q hq).trans (h.2 q hq)⟩
theorem frT.u {a b : WF} (h : frT a b) (k : Nat) (hk : 130 ≤ k ∧ k < 260) (v : Int32) : frT a (u4 b 9 0 1 k v) := ⟨h.1.u _ _, fun q hq => by rw [u4_k (by omega)]; exact h.2 q hq⟩
theorem frT.R {a b : WF} (h : frR 130 a b) : frT a b := ⟨h.1, fun q hq => h.2 q (by omega)⟩
theorem frT.C {a b : WF} (h : CRi a 0 130 130 b) : frT a b := ⟨h.1, fun q hq => h.2.1 q (by omega)⟩
theorem RR_T {w w2 : WF} {K : Kg} {s : Sa} (hV : KV K) (h : RR w K 0 s) (hf : frT w w2) : RR w2 K 0 s := RR_cg (fun q _ hq => hf.2 q (by omega)) hV h
theorem RR_cR {w w2 : WF} {K : Kg} {s : Sa} (hV : KV K) (h : RR w K 0 s) (hc : CRi w 0 130 130 w2) : RR w2 K 130 s := RR_cp (fun q hq => hc.2.2 q (by omega)) hV h
theorem frT_9 {w w2 : WF} (hf : frT w w2) : ∀ c i o q, c ≠ 9 → w2 c i o q = w c i o q := fun c i o q hc => hf.1 c i o q (by omega)
theorem setE_self (s : Sa) (p : Nat) : s.setE p (s.e p) = s := by
  show ((s.1, (fun q => if q = p then s.e p else s.e q), s.2.2) : Sa) = s
  have e : (fun q => if q = p then s.e p else s.e q) = s.2.1 := by
    funext q
    by_cases z : q = p
    · rw [if_pos z, z]; rfl
    · rw [if_neg z]; rfl
  rw [e]
def fwN (b : Option Nat) : Nat := match b with
  | none => 8
  | some b => pop 7 b
theorem fwr_t {m : Nat} {b : Option Nat} (h : pop 7 m < fwN b) : fwr m b = true := by
  cases b with
  | none => rfl
  | some b => exact dT h
theorem fwr_f {m : Nat} {b : Option Nat} (h : fwN b ≤ pop 7 m) : fwr m b = false := by
  cases b with
  | none => exact absurd h (by have := pop_le 7 m; show ¬ 8 ≤ pop 7 m; omega)
  | some b => exact dF (by have h2 : pop 7 b ≤ pop 7 m := h; omega)
theorem fwN_le (b : Option Nat) : fwN b ≤ 8 := by
  cases b with
  | none => exact Nat.le_refl 8
  | some b => exact Nat.le_trans (pop_le 7 b) (by decide)
theorem shl_pow : ∀ n, n ≤ 7 → nI 1 <<< (nI n &&& 31) = nI (2 ^ n) := by decide
set_option maxRecDepth 20000 in
theorem l_X9_holds {l : Launch} {X : XT} {d Lz : Nat} {w : Nat → Nat → Nat → Nat → Int32} {K : Kg} {s : Sa} (hV : KV K) (hK : KM w K) (h : RR w K 0 s) (hs : SV s) (o m : Nat) (ho : o < K.no) (hd : s.dd + m < 2 ^ 30) : ∀ (kk n : Nat), ∀ (wn : WF), RR wn K 130 (daysA K n s) → frT w wn →  n ≤ m → m + 1 ≤ n + kk → WP l X (d + 8) md_X9_holds (34, [some (.inr (.inr (9, 0, 0))), some (.inl (nI o)), some (.inl (nI m)), some (.inl (nI n))], [], mk Lz wn) (fun v M' => v = some (.inl ((daysA K m s).ho o)) ∧ ∃ w', M' = mk Lz w' ∧ frT w w') := by
  intro kk
  induction kk with
  | zero =>
    intro n wn hi hf h1 h2
    exact absurd h2 (by omega)
  | succ kk ih =>
    intro n wn hi hf hi1 hi2
    have hv4 := hV.2.1
    refine x_iload_n (pc' := 35) rfl rfl rfl (x_iload_n (pc' := 36) rfl rfl rfl ?_)
    refine x_icmp_geN (pc' := 39) rfl rfl (by omega) (by omega) (fun h36 => ?_) (fun h36 => ?_)
    · refine x_aload_n (pc' := 53) rfl rfl rfl (x_getR (pc' := 56) (t := (9, _, 1)) rfl rfl rfl (x_sipush (pc' := 59) rfl rfl (x_iload_n (pc' := 60) rfl rfl rfl (x_iaddN (pc' := 61) rfl rfl (x_iald (pc' := 62) (N := 4420) rfl rfl rfl rfl (by omega) (by decide) ?_)))))
      rw [show wn 9 0 1 (172 + o) = (daysA K n s).ho o from hi.2.2.2.2.1 o ho]
      refine x_iret rfl rfl ?_
      have e : n = m := by omega
      subst e
      exact ⟨rfl, _, rfl, hf⟩
    · refine x_aload_n (pc' := 40) rfl rfl rfl (x_sipush (pc' := 43) rfl rfl (x_invQ2 (pc' := 46) rfl rfl rfl rfl (a_X9_dayIn 130 (by omega) hV (KM_fr9 hK hf.1) hi (SV_days hs n) (by rw [daysA_dd]; omega)) (fun vq Mq hq43 => ?_)))
      obtain ⟨rfl, w2, rfl, q4, hf2⟩ := hq43
      show WP l X _ md_X9_holds (46, _, [], _) _
      refine x_iinc3 (pc' := 49) rfl rfl rfl (nI_add _ _) (x_goto rfl ?_)
      exact ih (n + 1) w2 q4 (hf.tr (frT.R hf2)) (by omega) (by omega)
set_option maxRecDepth 20000 in
theorem M_X9_holds {l : Launch} {X : XT} {d Lz : Nat} {w : WF} {a : AS} (h : MRel w a) (hV : AVl a) (o : Int32) (n : Int32) : okM l X (d + 8) Lz md_X9_holds [.inl (o), .inl (n)] w (f_holds a o n) (a) := by
  have hr := h
  obtain ⟨r1, r2, r3, r4, r5, r6, r7, r8, r9⟩ := h
  have hK := hV.1
  have hv7 := hK.1
  have hv4 := hK.2.1
  have hs := hV.2.1
  have hnp := r1.2.2.1
  have hno := r1.2.2.2.2.1
  show WP l X _ md_X9_holds (0, [some (.inr (.inr (9, 0, 0))), some (.inl (o)), some (.inl (n)), none], [], _) _
  refine x_aload_n (pc' := 1) rfl rfl rfl (x_iload_n (pc' := 2) rfl rfl rfl (x_invI2 (pc' := 5) rfl rfl rfl rfl (p_X9_isOffice r1 _) ?_))
  refine x_if_ne (pc' := 8) rfl rfl (fun h5 => ?_) (fun h5 => ?_)
  · refine x_ldc (pc' := 10) rfl rfl ?_
    refine x_iret rfl rfl ?_
    exact ok_id (by unfold f_holds; rw [bI_eq0.mp h5]; rfl) (fun _ _ _ _ _ => rfl) hr
  · obtain ⟨o2, ho, rfl⟩ := in_np (by omega) (bq h5)
    refine x_iload_n (pc' := 12) rfl rfl rfl (x_iconst (pc' := 13) rfl rfl (x_bipush (pc' := 15) rfl rfl (x_invS3 (pc' := 18) rfl rfl rfl rfl rfl rfl (c_X9_in _ _ _) ?_)))
    refine x_if_ne (pc' := 21) rfl rfl (fun h18 => ?_) (fun h18 => ?_)
    · refine x_ldc (pc' := 23) rfl rfl ?_
      refine x_iret rfl rfl ?_
      exact ok_id (by unfold f_holds; rw [bq h5, bI_eq0.mp h18]; rfl) (fun _ _ _ _ _ => rfl) hr
    · obtain ⟨m, -, hm, rfl⟩ := in_num (by omega) (bq h18) (by omega)
      refine x_aload_n (pc' := 25) rfl rfl rfl (x_iconst (pc' := 26) rfl rfl (x_sipush (pc' := 29) rfl rfl (x_invQ3 (pc' := 32) rfl rfl rfl rfl rfl (c_X9_copyRow 0 130 (by omega) (by omega) (by omega)) (fun vq Mq hq29 => ?_))))
      obtain ⟨rfl, w1, rfl, hc⟩ := hq29
      show WP l X _ md_X9_holds (32, _, [], _) _
      refine x_iconst (pc' := 33) rfl rfl (x_istore_n3 (pc' := 34) rfl rfl rfl ?_)
      refine wp_cons (l_X9_holds (d := d) hK r1 r2 hs.1 o2 m ho (by have := hs.2; omega) (m + 1) 0 w1 (RR_cR hK r2 hc) (frT.C hc) (by omega) (by omega)) (fun v M hq => ?_)
      obtain ⟨rfl, w2, rfl, hf⟩ := hq
      exact ok_id (by unfold f_holds; rw [bq h5, bq h18, ix_nI (by omega), ix_nI (by omega)]; rfl) (frT_9 hf) (MRel_Q hK hr hf)
set_option maxRecDepth 20000 in
theorem l_X9_win1 {l : Launch} {X : XT} {d Lz : Nat} {w : Nat → Nat → Nat → Nat → Int32} {K : Kg} {s : Sa} (hV : KV K) (hK : KM w K) (h : RR w K 0 s) (hs : SV s) (p o m : Nat) (hp : p < K.np) (ho : o < K.no) (hm : m ≤ 60) (hd : s.dd ≤ 90030) (e : Nat) (s1 : Sa) (hs1 : SV s1) (hd1 : s1.dd = s.dd) {Q : Option AV → Mem → Prop} (hQ : ∀ wn : WF, RR wn K 130 (daysA K m s1) → frT w wn → WP l X (d + 8) md_X9_win (84, [some (.inr (.inr (9, 0, 0))), some (.inl (nI p)), some (.inl (nI o)), some (.inl (nI m)), some (.inl (nI e)), some (.inl (nI m))], [], mk Lz wn) Q) : ∀ (kk n : Nat), ∀ (wn : WF), RR wn K 130 (daysA K n s1) → frT w wn →  n ≤ m → m + 1 ≤ n + kk → WP l X (d + 8) md_X9_win (65, [some (.inr (.inr (9, 0, 0))), some (.inl (nI p)), some (.inl (nI o)), some (.inl (nI m)), some (.inl (nI e)), some (.inl (nI n))], [], mk Lz wn) (Q) := by
  intro kk
  induction kk with
  | zero =>
    intro n wn hi hf h1 h2
    exact absurd h2 (by omega)
  | succ kk ih =>
    intro n wn hi hf hi1 hi2
    refine x_iload (pc' := 67) rfl rfl rfl (x_iload_n (pc' := 68) rfl rfl rfl ?_)
    refine x_icmp_geN (pc' := 71) rfl rfl (by omega) (by omega) (fun h68 => ?_) (fun h68 => ?_)
    · have e1 : n = m := by omega
      subst e1
      exact hQ wn hi hf
    · refine x_aload_n (pc' := 72) rfl rfl rfl (x_sipush (pc' := 75) rfl rfl (x_invQ2 (pc' := 78) rfl rfl rfl rfl (a_X9_dayIn 130 (by omega) hV (KM_fr9 hK hf.1) hi (SV_days hs1 n) (by rw [daysA_dd]; omega)) (fun vq Mq hq75 => ?_)))
      obtain ⟨rfl, w2, rfl, q4, hf2⟩ := hq75
      show WP l X _ md_X9_win (78, _, [], _) _
      refine x_iinc5 (pc' := 81) rfl rfl rfl (nI_add _ _) (x_goto rfl ?_)
      exact ih (n + 1) w2 q4 (hf.tr (frT.R hf2)) (by omega) (by omega)
set_option maxRecDepth 20000 in
theorem l_X9_win {l : Launch} {X : XT} {d Lz : Nat} {w : Nat → Nat → Nat → Nat → Int32} {K : Kg} {s : Sa} (hV : KV K) (hK : KM w K) (h : RR w K 0 s) (hs : SV s) (p o m : Nat) (hp : p < K.np) (ho : o < K.no) (hm : m ≤ 60) (hd : s.dd ≤ 90030) : ∀ (kk n : Nat), ∀ (wn : WF) (z : Option AV), frT w wn → wnF K s p o m 0 10 = wnF K s p o m n (10 - n) →  n ≤ 10 → 10 + 1 ≤ n + kk → WP l X (d + 8) md_X9_win (35, [some (.inr (.inr (9, 0, 0))), some (.inl (nI p)), some (.inl (nI o)), some (.inl (nI m)), some (.inl (nI n)), z], [], mk Lz wn) (fun v M' => v = some (.inl (oI (wnF K s p o m 0 10))) ∧ ∃ w', M' = mk Lz w' ∧ frT w w') := by
  intro kk
  induction kk with
  | zero =>
    intro n wn z hf hL h1 h2
    exact absurd h2 (by omega)
  | succ kk ih =>
    intro n wn z hf hL hi1 hi2
    have hv7 := hV.1
    have hv4 := hV.2.1
    refine x_iload (pc' := 37) rfl rfl rfl (x_bipush (pc' := 39) rfl rfl ?_)
    refine x_icmp_geN (pc' := 42) rfl rfl (by omega) (by omega) (fun h39 => ?_) (fun h39 => ?_)
    · refine x_iconst (pc' := 108) rfl rfl ?_
      refine x_iret rfl rfl ?_
      have e : n = 10 := by omega
      subst e
      exact ⟨by rw [hL]; rfl, _, rfl, hf⟩
    · refine x_aload_n (pc' := 43) rfl rfl rfl (x_iconst (pc' := 44) rfl rfl (x_sipush (pc' := 47) rfl rfl (x_invQ3 (pc' := 50) rfl rfl rfl rfl rfl (c_X9_copyRow 0 130 (by omega) (by omega) (by omega)) (fun vq Mq hq47 => ?_))))
      obtain ⟨rfl, w1, rfl, hc⟩ := hq47
      have hc1 := RR_setE (p := p) (v := nI n) hV (RR_cR hV (RR_T hV h hf) hc) (by omega)
      rw [show 130 + 21 + p = 151 + p by omega] at hc1
      have hf1 := (hf.tr (frT.C hc)).u (151 + p) (by omega) (nI n)
      have hL2 := hL
      rw [show 10 - n = 10 - (n + 1) + 1 by omega] at hL2
      show WP l X _ md_X9_win (50, _, [], _) _
      refine x_aload_n (pc' := 51) rfl rfl rfl (x_getR (pc' := 54) (t := (9, _, 1)) rfl rfl rfl (x_sipush (pc' := 57) rfl rfl (x_iload_n (pc' := 58) rfl rfl rfl (x_iaddN (pc' := 59) rfl rfl (x_iload (pc' := 61) rfl rfl rfl ?_)))))
      refine x_iast (pc' := 62) (N := 4420) rfl rfl rfl (by decide) rfl (by omega) (by decide) (x_iconst (pc' := 63) rfl rfl (x_istore5 (pc' := 65) rfl rfl rfl ?_))
      refine l_X9_win1 hV hK h hs p o m hp ho hm hd n (s.setE p (nI n)) ⟨hs.1, hs.2.1, hs.2.2⟩ rfl (fun w3 hi3 hf3 => ?_) (m + 1) 0 _ hc1 hf1 (by omega) (by omega)
      refine x_aload_n (pc' := 85) rfl rfl rfl (x_getR (pc' := 88) (t := (9, _, 1)) rfl rfl rfl (x_sipush (pc' := 91) rfl rfl (x_iload_n (pc' := 92) rfl rfl rfl (x_iaddN (pc' := 93) rfl rfl (x_iald (pc' := 94) (N := 4420) rfl rfl rfl rfl (by omega) (by decide) ?_)))))
      rw [show w3 9 0 1 (172 + o) = (daysA K m (s.setE p (nI n))).ho o from hi3.2.2.2.2.1 o ho]
      refine x_iload_n (pc' := 95) rfl rfl rfl ?_
      refine x_icmp_ne (pc' := 98) rfl rfl (fun h95 => ?_) (fun h95 => ?_)
      · refine x_iload (pc' := 100) rfl rfl rfl ?_
        refine x_iret rfl rfl ?_
        exact ⟨by rw [hL2, wnF_t h95]; rfl, _, rfl, hf3⟩
      · refine x_iinc4 (pc' := 104) rfl rfl rfl (nI_add _ _) (x_goto rfl ?_)
        exact ih (n + 1) w3 _ hf3 (by rw [hL2, wnF_f h95]) (by omega) (by omega)
set_option maxRecDepth 20000 in
theorem M_X9_win {l : Launch} {X : XT} {d Lz : Nat} {w : WF} {a : AS} (h : MRel w a) (hV : AVl a) (p : Int32) (o : Int32) (n : Int32) : okM l X (d + 8) Lz md_X9_win [.inl (p), .inl (o), .inl (n)] w (f_win a p o n) (a) := by
  have hr := h
  obtain ⟨r1, r2, r3, r4, r5, r6, r7, r8, r9⟩ := h
  have hK := hV.1
  have hv7 := hK.1
  have hv4 := hK.2.1
  have hs := hV.2.1
  have hnp := r1.2.2.1
  have hno := r1.2.2.2.2.1
  show WP l X _ md_X9_win (0, [some (.inr (.inr (9, 0, 0))), some (.inl (p)), some (.inl (o)), some (.inl (n)), none, none], [], _) _
  refine x_aload_n (pc' := 1) rfl rfl rfl (x_iload_n (pc' := 2) rfl rfl rfl (x_invI2 (pc' := 5) rfl rfl rfl rfl (p_X9_isPerson r1 _) ?_))
  refine x_if_eq (pc' := 8) rfl rfl (fun h5 => ?_) (fun h5 => ?_)
  · refine x_ldc (pc' := 18) rfl rfl ?_
    refine x_iret rfl rfl ?_
    first | exact ok_id (by unfold f_win; rw [bI_eq0.mp h5]; rfl) (fun _ _ _ _ _ => rfl) hr | exact ok_id (by unfold f_win; rw [bq h5, bI_eq0.mp h13]; rfl) (fun _ _ _ _ _ => rfl) hr
  · refine x_aload_n (pc' := 9) rfl rfl rfl (x_iload_n (pc' := 10) rfl rfl rfl (x_invI2 (pc' := 13) rfl rfl rfl rfl (p_X9_isOffice r1 _) ?_))
    refine x_if_ne (pc' := 16) rfl rfl (fun h13 => ?_) (fun h13 => ?_)
    · refine x_ldc (pc' := 18) rfl rfl ?_
      refine x_iret rfl rfl ?_
      first | exact ok_id (by unfold f_win; rw [bI_eq0.mp h5]; rfl) (fun _ _ _ _ _ => rfl) hr | exact ok_id (by unfold f_win; rw [bq h5, bI_eq0.mp h13]; rfl) (fun _ _ _ _ _ => rfl) hr
    · obtain ⟨p2, hp, rfl⟩ := in_np (by omega) (bq h5)
      obtain ⟨o2, ho, rfl⟩ := in_np (by omega) (bq h13)
      refine x_iload_n (pc' := 20) rfl rfl rfl (x_iconst (pc' := 21) rfl rfl (x_bipush (pc' := 23) rfl rfl (x_invS3 (pc' := 26) rfl rfl rfl rfl rfl rfl (c_X9_in _ _ _) ?_)))
      refine x_if_ne (pc' := 29) rfl rfl (fun h26 => ?_) (fun h26 => ?_)
      · refine x_ldc (pc' := 31) rfl rfl ?_
        refine x_iret rfl rfl ?_
        exact ok_id (by unfold f_win; rw [bq h5, bq h13, bI_eq0.mp h26]; rfl) (fun _ _ _ _ _ => rfl) hr
      · obtain ⟨m, -, hm, rfl⟩ := in_num (by omega) (bq h26) (by omega)
        refine x_iconst (pc' := 33) rfl rfl (x_istore4 (pc' := 35) rfl rfl rfl ?_)
        refine wp_cons (l_X9_win (d := d) hK r1 r2 hs.1 p2 o2 m hp ho hm hs.2 11 0 w _ (frT.rf w) rfl (by omega) (by omega)) (fun v M hq => ?_)
        obtain ⟨rfl, w2, rfl, hf⟩ := hq
        exact ok_id (by unfold f_win; rw [bq h5, bq h13, bq h26, ix_nI (by omega), ix_nI (by omega), ix_nI (by omega)]; rfl) (frT_9 hf) (MRel_Q hK hr hf)
set_option maxRecDepth 20000 in
theorem l_X9_effortsOf {l : Launch} {X : XT} {d Lz : Nat} {w : Nat → Nat → Nat → Nat → Int32} {K : Kg} {s : Sa} (hV : KV K) (hK : KM w K) (h : RR w K 0 s) (hs : SV s) (p k : Nat) (hk : k < 3) (hp : p < K.np) : ∀ (kk n : Nat), ∀ (wn : WF) (s1 : Sa), RR wn K 130 s1 → (∀ v, s1.setE p v = s.setE p v) → frT w wn →  n ≤ 10 → 10 + 1 ≤ n + kk → WP l X (d + 6) md_X9_effortsOf (13, [some (.inr (.inr (9, 0, 0))), some (.inl (nI p)), some (.inl (nI k)), some (.inl (enc (efB K s p k) n)), some (.inl (nI n))], [], mk Lz wn) (fun v M' => v = some (.inl (enc (efB K s p k) 10)) ∧ ∃ w', M' = mk Lz w' ∧ frT w w') := by
  intro kk
  induction kk with
  | zero =>
    intro n wn s1 hi hx hf h1 h2
    exact absurd h2 (by omega)
  | succ kk ih =>
    intro n wn s1 hi hx hf hi1 hi2
    have hv7 := hV.1
    refine x_iload (pc' := 15) rfl rfl rfl (x_bipush (pc' := 17) rfl rfl ?_)
    refine x_icmp_geN (pc' := 20) rfl rfl (by omega) (by omega) (fun h17 => ?_) (fun h17 => ?_)
    · refine x_iload_n (pc' := 62) rfl rfl rfl ?_
      refine x_iret rfl rfl ?_
      have e : n = 10 := by omega
      subst e
      exact ⟨rfl, _, rfl, hf⟩
    · have hc1 : RR (u4 wn 9 0 1 (151 + p) (nI n)) K 130 (s.setE p (nI n)) := by
        rw [← hx (nI n)]
        have hz := RR_setE (p := p) (v := nI n) hV hi (by omega)
        rwa [show 130 + 21 + p = 151 + p by omega] at hz
      have hf1 := hf.u (151 + p) (by omega) (nI n)
      have k1 := KM_fr9 hK hf1.1
      refine x_aload_n (pc' := 21) rfl rfl rfl (x_getR (pc' := 24) (t := (9, _, 1)) rfl rfl rfl (x_sipush (pc' := 27) rfl rfl (x_iload_n (pc' := 28) rfl rfl rfl (x_iaddN (pc' := 29) rfl rfl (x_iload (pc' := 31) rfl rfl rfl ?_)))))
      refine x_iast (pc' := 32) (N := 4420) rfl rfl rfl (by decide) rfl (by omega) (by decide) (x_iload_n (pc' := 33) rfl rfl rfl (x_aload_n (pc' := 34) rfl rfl rfl (x_sipush (pc' := 37) rfl rfl (x_iload_n (pc' := 38) rfl rfl rfl (x_invI3 (pc' := 41) rfl rfl rfl rfl rfl (c_X9_secondOne 130 (by omega) k hk (by rw [hc1.2.2.2.2.2.1]; exact hs.1) _ k1.2.2.1 hV.1) ?_)))))
      rw [hc1.sn hV k1 hk]
      refine x_iload_n (pc' := 42) rfl rfl rfl ?_
      refine x_icmp_ne (pc' := 45) rfl rfl (fun h42 => ?_) (fun h42 => ?_)
      · refine x_iconst (pc' := 46) rfl rfl (x_iload (pc' := 48) rfl rfl rfl (x_ishl (pc' := 49) rfl rfl (x_goto rfl (x_ior (pc' := 54) rfl rfl (x_istore_n3 (pc' := 55) rfl rfl rfl ?_)))))
        refine x_iinc4 (pc' := 58) rfl rfl rfl (nI_add _ _) (x_goto rfl ?_)
        exact WPc (ih (n + 1) _ (s.setE p (nI n)) hc1 (fun v => setE_setE s p (nI n) v) hf1 (by omega) (by omega)) (by first | rw [← enc_t (f := efB K s p k) (dT h42)] | rw [← enc_f (f := efB K s p k) (dF h42), or_0]) rfl
      · refine x_iconst (pc' := 53) rfl rfl (x_ior (pc' := 54) rfl rfl (x_istore_n3 (pc' := 55) rfl rfl rfl (x_iinc4 (pc' := 58) rfl rfl rfl (nI_add _ _) (x_goto rfl ?_))))
        exact WPc (ih (n + 1) _ (s.setE p (nI n)) hc1 (fun v => setE_setE s p (nI n) v) hf1 (by omega) (by omega)) (by first | rw [← enc_t (f := efB K s p k) (dT h42)] | rw [← enc_f (f := efB K s p k) (dF h42), or_0]) rfl
set_option maxRecDepth 20000 in
theorem c_X9_effortsOf {l : Launch} {X : XT} {d Lz : Nat} {w : Nat → Nat → Nat → Nat → Int32} {K : Kg} {s : Sa} (hV : KV K) (hK : KM w K) (h : RR w K 0 s) (hs : SV s) (p k : Nat) (hk : k < 3) (hp : p < K.np) : WP l X (d + 6) md_X9_effortsOf (en md_X9_effortsOf [.inr (.inr (9, 0, 0)), .inl (nI p), .inl (nI k)] (mk Lz w)) (fun v M' => v = some (.inl (enc (efB K s p k) 10)) ∧ ∃ w', M' = mk Lz w' ∧ frT w w') := by
  show WP l X _ md_X9_effortsOf (0, [some (.inr (.inr (9, 0, 0))), some (.inl (nI p)), some (.inl (nI k)), none, none], [], _) _
  refine x_iconst (pc' := 1) rfl rfl (x_istore_n3 (pc' := 2) rfl rfl rfl (x_aload_n (pc' := 3) rfl rfl rfl (x_iconst (pc' := 4) rfl rfl (x_sipush (pc' := 7) rfl rfl (x_invQ3 (pc' := 10) rfl rfl rfl rfl rfl (c_X9_copyRow 0 130 (by omega) (by omega) (by omega)) (fun vq Mq hq7 => ?_))))))
  obtain ⟨rfl, w1, rfl, hc⟩ := hq7
  show WP l X _ md_X9_effortsOf (10, _, [], _) _
  refine x_iconst (pc' := 11) rfl rfl (x_istore4 (pc' := 13) rfl rfl rfl ?_)
  exact l_X9_effortsOf hV hK h hs p k hk hp 11 0 w1 s (RR_cR hV h hc) (fun _ => rfl) (frT.C hc) (by omega) (by omega)
set_option maxRecDepth 20000 in
theorem M_X9_efforts {l : Launch} {X : XT} {d Lz : Nat} {w : WF} {a : AS} (h : MRel w a) (hV : AVl a) (p : Int32) (k : Int32) : okM l X (d + 8) Lz md_X9_efforts [.inl (p), .inl (k)] w (f_efforts a p k) (a) := by
  have hr := h
  obtain ⟨r1, r2, r3, r4, r5, r6, r7, r8, r9⟩ := h
  have hK := hV.1
  have hv7 := hK.1
  have hv4 := hK.2.1
  have hs := hV.2.1
  have hnp := r1.2.2.1
  have hno := r1.2.2.2.2.1
  show WP l X _ md_X9_efforts (0, [some (.inr (.inr (9, 0, 0))), some (.inl (p)), some (.inl (k))], [], _) _
  refine x_aload_n (pc' := 1) rfl rfl rfl (x_iload_n (pc' := 2) rfl rfl rfl (x_invI2 (pc' := 5) rfl rfl rfl rfl (p_X9_isPerson r1 _) ?_))
  refine x_if_ne (pc' := 8) rfl rfl (fun h5 => ?_) (fun h5 => ?_)
  · refine x_ldc (pc' := 10) rfl rfl ?_
    refine x_iret rfl rfl ?_
    exact ok_id (by unfold f_efforts; rw [bI_eq0.mp h5]; rfl) (fun _ _ _ _ _ => rfl) hr
  · obtain ⟨p2, hp, rfl⟩ := in_np (by omega) (bq h5)
    refine x_iload_n (pc' := 12) rfl rfl rfl (x_invS1 (pc' := 15) rfl rfl rfl rfl (c_X9_isKind _) ?_)
    refine x_if_ne (pc' := 18) rfl rfl (fun h15 => ?_) (fun h15 => ?_)
    · refine x_ldc (pc' := 20) rfl rfl ?_
      refine x_iret rfl rfl ?_
      exact ok_id (by unfold f_efforts isKd; rw [bq h5, bI_eq0.mp h15]; rfl) (fun _ _ _ _ _ => rfl) hr
    · obtain ⟨k2, -, hk2, rfl⟩ := in_num (by omega) (bq h15) (by omega)
      refine x_aload_n (pc' := 22) rfl rfl rfl (x_iconst (pc' := 23) rfl rfl (x_iload_n (pc' := 24) rfl rfl rfl (x_invI3 (pc' := 27) rfl rfl rfl rfl rfl (c_X9_isAtCourt 0 (by omega) _ (by omega)) ?_)))
      rw [r2.co p2 hp]
      refine x_if_eq (pc' := 30) rfl rfl (fun h27 => ?_) (fun h27 => ?_)
      · refine x_ldc (pc' := 41) rfl rfl ?_
        refine x_iret rfl rfl ?_
        exact ok_id (by unfold f_efforts isKd; rw [bq h5, bq h15, ix_nI (by omega), bI_eq0.mp h27]; rfl) (fun _ _ _ _ _ => rfl) hr
      · refine x_aload_n (pc' := 31) rfl rfl rfl (x_iload_n (pc' := 32) rfl rfl rfl (x_iload_n (pc' := 33) rfl rfl rfl (x_invQ3 (pc' := 36) rfl rfl rfl rfl rfl (c_X9_effortsOf hK r1 r2 hs.1 p2 k2 (by omega) hp) (fun vq Mq hq33 => ?_))))
        obtain ⟨rfl, w2, rfl, hf⟩ := hq33
        show WP l X _ md_X9_efforts (36, _, [.inl (enc (efB a.K a.s p2 k2) 10)], _) _
        refine x_goto rfl ?_
        refine x_iret rfl rfl ?_
        exact ok_id (by unfold f_efforts isKd; rw [bq h5, bq h15, ix_nI (by omega), bq h27, ix_nI (by omega)]; rfl) (frT_9 hf) (MRel_Q hK hr hf)
section
variable {K : Kg} {s : Sa} {k p : Nat}
theorem rs_1 (h : bI (coA s p) = 0) : rsA K s k p = false := by unfold rsA; rw [bI_eq0.mp h]; rfl
theorem rs_2 (h : nI p = oI (snA K s k)) : rsA K s k p = false := by unfold rsA; rw [dT h.symm]; simp
theorem rs_3 (h : enc (efB K s p k) 10 = 0) : rsA K s k p = false := by unfold rsA; rw [dT h]; simp
theorem rs_4 (h : ¬ bI (coA s p) = 0) (h2 : ¬ nI p = oI (snA K s k)) (h3 : ¬ enc (efB K s p k) 10 = 0) : rsA K s k p = true := by unfold rsA; rw [bq h, dF (fun e => h2 e.symm), dF h3]; rfl
end
set_option maxRecDepth 20000 in
theorem l_X9_restless {l : Launch} {X : XT} {d Lz : Nat} {w : Nat → Nat → Nat → Nat → Int32} {K : Kg} {s : Sa} (hV : KV K) (hK : KM w K) (h : RR w K 0 s) (hs : SV s) (k : Nat) (hk : k < 3) : ∀ (kk n : Nat), ∀ (wn : WF), frT w wn →  n ≤ K.np → K.np + 1 ≤ n + kk → WP l X (d + 7) md_X9_restless (22, [some (.inr (.inr (9, 0, 0))), some (.inl (nI k)), some (.inl (enc (rsA K s k) n)), some (.inl (oI (snA K s k))), some (.inl (nI n))], [], mk Lz wn) (fun v M' => v = some (.inl (enc (rsA K s k) K.np)) ∧ ∃ w', M' = mk Lz w' ∧ frT w w') := by
  intro kk
  induction kk with
  | zero =>
    intro n wn hf h1 h2
    exact absurd h2 (by omega)
  | succ kk ih =>
    intro n wn hf hi1 hi2
    have hv7 := hV.1
    refine x_iload (pc' := 24) rfl rfl rfl (x_aload_n (pc' := 25) rfl rfl rfl (x_getI (pc' := 28) rfl rfl rfl ?_))
    rw [(KM_fr9 hK hf.1).2.2.1]
    refine x_icmp_geN (pc' := 31) rfl rfl (by omega) (by omega) (fun h28 => ?_) (fun h28 => ?_)
    · refine x_iload_n (pc' := 75) rfl rfl rfl ?_
      refine x_iret rfl rfl ?_
      have e : n = K.np := by omega
      subst e
      exact ⟨rfl, _, rfl, hf⟩
    · refine x_iload_n (pc' := 32) rfl rfl rfl (x_aload_n (pc' := 33) rfl rfl rfl (x_iconst (pc' := 34) rfl rfl (x_iload (pc' := 36) rfl rfl rfl (x_invI3 (pc' := 39) rfl rfl rfl rfl rfl (c_X9_isAtCourt 0 (by omega) _ (by omega)) ?_))))
      rw [(RR_T hV h hf).co n (by omega)]
      refine x_if_eq (pc' := 42) rfl rfl (fun h39 => ?_) (fun h39 => ?_)
      · refine x_iconst (pc' := 66) rfl rfl (x_ior (pc' := 67) rfl rfl (x_istore_n2 (pc' := 68) rfl rfl rfl (x_iinc4 (pc' := 71) rfl rfl rfl (nI_add _ _) (x_goto rfl ?_))))
        exact WPc (ih (n + 1) wn hf (by omega) (by omega)) (by rw [← enc_f (f := rsA K s k) (rs_1 h39), or_0]) rfl
      · refine x_iload (pc' := 44) rfl rfl rfl (x_iload_n (pc' := 45) rfl rfl rfl ?_)
        refine x_icmp_eq (pc' := 48) rfl rfl (fun h45 => ?_) (fun h45 => ?_)
        · refine x_iconst (pc' := 66) rfl rfl (x_ior (pc' := 67) rfl rfl (x_istore_n2 (pc' := 68) rfl rfl rfl (x_iinc4 (pc' := 71) rfl rfl rfl (nI_add _ _) (x_goto rfl ?_))))
          exact WPc (ih (n + 1) wn hf (by omega) (by omega)) (by rw [← enc_f (f := rsA K s k) (rs_2 h45), or_0]) rfl
        · refine x_aload_n (pc' := 49) rfl rfl rfl (x_iload (pc' := 51) rfl rfl rfl (x_iload_n (pc' := 52) rfl rfl rfl (x_invQ3 (pc' := 55) rfl rfl rfl rfl rfl (c_X9_effortsOf hV (KM_fr9 hK hf.1) (RR_T hV h hf) hs n k hk h28) (fun vq Mq hq52 => ?_))))
          obtain ⟨rfl, w2, rfl, hf2⟩ := hq52
          show WP l X _ md_X9_restless (55, _, [.inl (enc (efB K s n k) 10), .inl (enc (rsA K s k) n)], _) _
          refine x_if_eq (pc' := 58) rfl rfl (fun h55 => ?_) (fun h55 => ?_)
          · refine x_iconst (pc' := 66) rfl rfl (x_ior (pc' := 67) rfl rfl (x_istore_n2 (pc' := 68) rfl rfl rfl (x_iinc4 (pc' := 71) rfl rfl rfl (nI_add _ _) (x_goto rfl ?_))))
            exact WPc (ih (n + 1) w2 (hf.tr hf2) (by omega) (by omega)) (by rw [← enc_f (f := rsA K s k) (rs_3 h55), or_0]) rfl
          · refine x_iconst (pc' := 59) rfl rfl (x_iload (pc' := 61) rfl rfl rfl (x_ishl (pc' := 62) rfl rfl (x_goto rfl (x_ior (pc' := 67) rfl rfl (x_istore_n2 (pc' := 68) rfl rfl rfl ?_)))))
            refine x_iinc4 (pc' := 71) rfl rfl rfl (nI_add _ _) (x_goto rfl ?_)
            exact WPc (ih (n + 1) w2 (hf.tr hf2) (by omega) (by omega)) (by rw [← enc_t (f := rsA K s k) (rs_4 h39 h45 h55)]) rfl
set_option maxRecDepth 20000 in
theorem M_X9_restless {l : Launch} {X : XT} {d Lz : Nat} {w : WF} {a : AS} (h : MRel w a) (hV : AVl a) (k : Int32) : okM l X (d + 8) Lz md_X9_restless [.inl (k)] w (f_restless a k) (a) := by
  have hr := h
  obtain ⟨r1, r2, r3, r4, r5, r6, r7, r8, r9⟩ := h
  have hK := hV.1
  have hv7 := hK.1
  have hv4 := hK.2.1
  have hs := hV.2.1
  have hnp := r1.2.2.1
  have hno := r1.2.2.2.2.1
  have hg : ∀ q, q < 21 → w 9 0 1 q = a.s.g q := fun q hq => by have := r2.1 q hq; rwa [Nat.zero_add] at this
  have he : ∀ q, q < a.K.np → w 9 0 1 (21 + q) = a.s.e q := fun q hq => r2.2.1 q hq
  have hco : ∀ q, q < a.K.np → w 9 0 1 (28 + q) = a.s.co q := fun q hq => r2.2.2.1 q hq
  have hti : ∀ q, q < a.K.np → w 9 0 1 (35 + q) = a.s.ti q := fun q hq => r2.2.2.2.1 q hq
  have hho : ∀ q, q < a.K.no → w 9 0 1 (42 + q) = a.s.ho q := fun q hq => r2.2.2.2.2.1 q hq
  have hrn : w 9 0 1 46 = a.s.rn := r2.2.2.2.2.2.1
  have hdd : w 9 0 1 47 = nI a.s.dd := r2.2.2.2.2.2.2.1
  have hlc : w 9 0 1 48 = nI (min a.s.cc 20) := r2.2.2.2.2.2.2.2.1
  have hr0 : w 9 0 1 (0 + 46) = 0 ∨ w 9 0 1 (0 + 46) = nI 1 := by rw [r2.2.2.2.2.2.1]; exact hs.1.1
  have hdl := hs.2
  show WP l X _ md_X9_restless (0, [some (.inr (.inr (9, 0, 0))), some (.inl (k)), none, none, none], [], _) _
  refine x_iload_n (pc' := 1) rfl rfl rfl (x_invS1 (pc' := 4) rfl rfl rfl rfl (c_X9_isKind _) ?_)
  refine x_if_ne (pc' := 7) rfl rfl (fun h4 => ?_) (fun h4 => ?_)
  · refine x_ldc (pc' := 9) rfl rfl ?_
    refine x_iret rfl rfl ?_
    exact ok_id (by unfold f_restless isKd; rw [bI_eq0.mp h4]; rfl) (fun _ _ _ _ _ => rfl) hr
  · obtain ⟨k2, -, hk2, rfl⟩ := in_num (by omega) (bq h4) (by omega)
    refine x_iconst (pc' := 11) rfl rfl (x_istore_n2 (pc' := 12) rfl rfl rfl (x_aload_n (pc' := 13) rfl rfl rfl (x_iconst (pc' := 14) rfl rfl (x_iload_n (pc' := 15) rfl rfl rfl (x_invI3 (pc' := 18) rfl rfl rfl rfl rfl (c_X9_secondOne 0 (by omega) k2 (by omega) hr0 _ hnp hv7) ?_)))))
    rw [r2.sn hK r1 (by omega)]
    refine x_istore_n3 (pc' := 19) rfl rfl rfl (x_iconst (pc' := 20) rfl rfl (x_istore4 (pc' := 22) rfl rfl rfl ?_))
    refine wp_cons (wp_mono (by omega) (l_X9_restless (d := d) hK r1 r2 hs.1 k2 (by omega) (a.K.np + 1) 0 w (frT.rf w) (by omega) (by omega))) (fun v M hq => ?_)
    obtain ⟨rfl, w2, rfl, hf⟩ := hq
    exact ok_id (by unfold f_restless isKd; rw [bq h4, ix_nI (by omega)]; rfl) (frT_9 hf) (MRel_Q hK hr hf)
set_option maxRecDepth 20000 in
theorem l_X9_winsIf {l : Launch} {X : XT} {d Lz : Nat} {w : Nat → Nat → Nat → Nat → Int32} {K : Kg} {s : Sa} (hV : KV K) (hK : KM w K) (h : RR w K 0 s) (hs : SV s) (p k : Nat) (x : Int32) (hk : k < 3) : ∀ (kk n : Nat), ∀ (wn : WF), RR wn K 130 (idA s x n) → frT w wn →  n ≤ K.np → K.np + 1 ≤ n + kk → WP l X (d + 6) md_X9_winsIf (11, [some (.inr (.inr (9, 0, 0))), some (.inl (nI p)), some (.inl (nI k)), some (.inl (x)), some (.inl (nI n))], [], mk Lz wn) (fun v M' => v = some (.inl (bI (lwA K s p k x))) ∧ ∃ w', M' = mk Lz w' ∧ frT w w') := by
  intro kk
  induction kk with
  | zero =>
    intro n wn hi hf h1 h2
    exact absurd h2 (by omega)
  | succ kk ih =>
    intro n wn hi hf hi1 hi2
    have hv7 := hV.1
    refine x_iload (pc' := 13) rfl rfl rfl (x_aload_n (pc' := 14) rfl rfl rfl (x_getI (pc' := 17) rfl rfl rfl ?_))
    rw [(KM_fr9 hK hf.1).2.2.1]
    refine x_icmp_geN (pc' := 20) rfl rfl (by omega) (by omega) (fun h17 => ?_) (fun h17 => ?_)
    · have e : n = K.np := by omega
      have hi2 : RR wn K 130 (idA s x K.np) := by rw [← e]; exact hi
      have k1 := KM_fr9 hK hf.1
      refine x_aload_n (pc' := 62) rfl rfl rfl (x_sipush (pc' := 65) rfl rfl (x_iload_n (pc' := 66) rfl rfl rfl (x_invI3 (pc' := 69) rfl rfl rfl rfl rfl (c_X9_secondOne 130 (by omega) k hk (by rw [hi2.2.2.2.2.2.1]; exact hs.1) _ k1.2.2.1 hV.1) ?_)))
      rw [hi2.sn hV k1 hk]
      refine x_iload_n (pc' := 70) rfl rfl rfl ?_
      refine x_icmp_ne (pc' := 73) rfl rfl (fun h70 => ?_) (fun h70 => ?_)
      · refine x_iconst (pc' := 74) rfl rfl (x_goto rfl ?_)
        refine x_zret rfl rfl (by decide) ?_
        first | exact ⟨by unfold lwA; rw [dT h70]; rfl, _, rfl, hf⟩ | exact ⟨by unfold lwA; rw [dF h70]; rfl, _, rfl, hf⟩
      · refine x_iconst (pc' := 78) rfl rfl ?_
        refine x_zret rfl rfl (by decide) ?_
        first | exact ⟨by unfold lwA; rw [dT h70]; rfl, _, rfl, hf⟩ | exact ⟨by unfold lwA; rw [dF h70]; rfl, _, rfl, hf⟩
    · refine x_aload_n (pc' := 21) rfl rfl rfl (x_getR (pc' := 24) (t := (9, _, 1)) rfl rfl rfl (x_sipush (pc' := 27) rfl rfl (x_iload (pc' := 29) rfl rfl rfl (x_iaddN (pc' := 30) rfl rfl (x_iload_n (pc' := 31) rfl rfl rfl ?_)))))
      refine x_iload (pc' := 33) rfl rfl rfl (x_invS2 (pc' := 36) rfl rfl rfl rfl rfl (c_X9_has _ _) ?_)
      refine x_if_eq (pc' := 39) rfl rfl (fun h36 => ?_) (fun h36 => ?_)
      · refine x_aload_n (pc' := 44) rfl rfl rfl (x_getR (pc' := 47) (t := (9, _, 1)) rfl rfl rfl (x_sipush (pc' := 50) rfl rfl (x_iload (pc' := 52) rfl rfl rfl (x_iaddN (pc' := 53) rfl rfl (x_iald (pc' := 54) (N := 4420) rfl rfl rfl rfl (by omega) (by decide) ?_)))))
        rw [show wn 9 0 1 (151 + n) = (idA s x n).e n from hi.2.1 n (by omega)]
        refine x_iast (pc' := 55) (N := 4420) rfl rfl rfl (by decide) rfl (by omega) (by decide) (x_iinc4 (pc' := 58) rfl rfl rfl (nI_add _ _) (x_goto rfl ?_))
        have hz := RR_setE (p := n) (v := (idA s x n).e n) hV hi (by omega)
        rw [show 130 + 21 + n = 151 + n by omega] at hz
        exact ih (n + 1) _ (by rw [← idA_f (bI_eq0.mp h36)]; rw [setE_self] at hz; exact hz) (hf.u (151 + n) (by omega) _) (by omega) (by omega)
      · refine x_iconst (pc' := 40) rfl rfl (x_goto rfl (x_iast (pc' := 55) (N := 4420) rfl rfl rfl (by decide) rfl (by omega) (by decide) (x_iinc4 (pc' := 58) rfl rfl rfl (nI_add _ _) (x_goto rfl ?_))))
        have hz := RR_setE (p := n) (v := nI 0) hV hi (by omega)
        rw [show 130 + 21 + n = 151 + n by omega] at hz
        exact ih (n + 1) _ (by rw [← idA_t (bq h36)]; exact hz) (hf.u (151 + n) (by omega) _) (by omega) (by omega)
set_option maxRecDepth 20000 in
theorem c_X9_winsIf {l : Launch} {X : XT} {d Lz : Nat} {w : Nat → Nat → Nat → Nat → Int32} {K : Kg} {s : Sa} (hV : KV K) (hK : KM w K) (h : RR w K 0 s) (hs : SV s) (p k : Nat) (x : Int32) (hk : k < 3) : WP l X (d + 6) md_X9_winsIf (en md_X9_winsIf [.inr (.inr (9, 0, 0)), .inl (nI p), .inl (nI k), .inl (x)] (mk Lz w)) (fun v M' => v = some (.inl (bI (lwA K s p k x))) ∧ ∃ w', M' = mk Lz w' ∧ frT w w') := by
  show WP l X _ md_X9_winsIf (0, [some (.inr (.inr (9, 0, 0))), some (.inl (nI p)), some (.inl (nI k)), some (.inl (x)), none], [], _) _
  refine x_aload_n (pc' := 1) rfl rfl rfl (x_iconst (pc' := 2) rfl rfl (x_sipush (pc' := 5) rfl rfl (x_invQ3 (pc' := 8) rfl rfl rfl rfl rfl (c_X9_copyRow 0 130 (by omega) (by omega) (by omega)) (fun vq Mq hq5 => ?_))))
  obtain ⟨rfl, w1, rfl, hc⟩ := hq5
  show WP l X _ md_X9_winsIf (8, _, [], _) _
  refine x_iconst (pc' := 9) rfl rfl (x_istore4 (pc' := 11) rfl rfl rfl ?_)
  exact l_X9_winsIf hV hK h hs p k x hk (K.np + 1) 0 w1 (by rw [idA_0]; exact RR_cR hV h hc) (frT.C hc) (by omega) (by omega)
set_option maxRecDepth 20000 in
theorem l_X9_letWin {l : Launch} {X : XT} {d Lz : Nat} {w : Nat → Nat → Nat → Nat → Int32} {K : Kg} {s : Sa} (hV : KV K) (hK : KM w K) (h : RR w K 0 s) (hs : SV s) (p k x ot : Nat) (hk : k < 3) (hx : x < 2) (hot : otA K s p = nI ot) : ∀ (kk n : Nat), ∀ (wn : WF) (b : Option Nat), lwf K s p k n = b → frT w wn →  n ≤ (2 ^ K.np) → (2 ^ K.np) + 1 ≤ n + kk → WP l X (d + 7) md_X9_letWin (65, [some (.inr (.inr (9, 0, 0))), some (.inl (nI p)), some (.inl (nI k)), some (.inl (nI x)), some (.inl (nI ot)), some (.inl (oI b)), some (.inl (nI (fwN b))), some (.inl (nI n))], [], mk Lz wn) (fun v M' => v = some (.inl (match lwf K s p k (2 ^ K.np) with | none => -1 | some m => if nI x = nI 0 then nI (pop 7 m) else nI m)) ∧ ∃ w', M' = mk Lz w' ∧ frT w w') := by
  intro kk
  induction kk with
  | zero =>
    intro n wn b hb hf h1 h2
    exact absurd h2 (by omega)
  | succ kk ih =>
    intro n wn b hb hf hi1 hi2
    have hv7 := hV.1
    have g4 : 2 ^ K.np ≤ 128 := Nat.pow_le_pow_right (by decide) hv7
    refine x_iload (pc' := 67) rfl rfl rfl (x_iconst (pc' := 68) rfl rfl (x_aload_n (pc' := 69) rfl rfl rfl (x_getI (pc' := 72) rfl rfl rfl ?_)))
    rw [(KM_fr9 hK hf.1).2.2.1]
    refine x_ishl (pc' := 73) rfl rfl ?_
    rw [shl_pow K.np hv7]
    refine x_icmp_geN (pc' := 76) rfl rfl (by omega) (by omega) (fun h73 => ?_) (fun h73 => ?_)
    · have e : n = 2 ^ K.np := by omega
      subst e
      cases b with
      | none =>
        show WP l X _ md_X9_letWin (124, [some (.inr (.inr (9, 0, 0))), some (.inl (nI p)), some (.inl (nI k)), some (.inl (nI x)), some (.inl (nI ot)), some (.inl (-1)), some (.inl (nI (fwN none))), some (.inl (nI (2 ^ K.np)))], [], _) _
        refine x_iload (pc' := 126) rfl rfl rfl (x_iconst (pc' := 127) rfl rfl ?_)
        refine x_icmp_ne (pc' := 130) rfl rfl (fun h127 => ?_) (fun h127 => absurd rfl h127)
        refine x_iconst (pc' := 131) rfl rfl (x_goto rfl ?_)
        refine x_iret rfl rfl ?_
        exact ⟨by rw [hb], _, rfl, hf⟩
      | some b =>
        have hbl := lwf_lt _ b hb
        show WP l X _ md_X9_letWin (124, [some (.inr (.inr (9, 0, 0))), some (.inl (nI p)), some (.inl (nI k)), some (.inl (nI x)), some (.inl (nI ot)), some (.inl (nI b)), some (.inl (nI (pop 7 b))), some (.inl (nI (2 ^ K.np)))], [], _) _
        refine x_iload (pc' := 126) rfl rfl rfl (x_iconst (pc' := 127) rfl rfl ?_)
        refine x_icmp_ne (pc' := 130) rfl rfl (fun h127 => absurd h127 (nI_ne1 (by omega))) (fun h127 => ?_)
        refine x_iload_n (pc' := 135) rfl rfl rfl ?_
        refine x_if_ne (pc' := 138) rfl rfl (fun h135 => ?_) (fun h135 => ?_)
        · refine x_iload (pc' := 140) rfl rfl rfl (x_goto rfl ?_)
          refine x_iret rfl rfl ?_
          exact ⟨by rw [hb]; show _ = some (Sum.inl (if nI x = nI 0 then nI (pop 7 b) else nI b)); rw [if_pos (show nI x = nI 0 from h135)], _, rfl, hf⟩
        · refine x_iload (pc' := 145) rfl rfl rfl ?_
          refine x_iret rfl rfl ?_
          exact ⟨by rw [hb]; show _ = some (Sum.inl (if nI x = nI 0 then nI (pop 7 b) else nI b)); rw [if_neg (show ¬ nI x = nI 0 from h135)], _, rfl, hf⟩
    · have hp1 := pop_le 7 n
      have hp2 := fwN_le b
      refine x_iload (pc' := 78) rfl rfl rfl (x_iload (pc' := 80) rfl rfl rfl (x_iconst (pc' := 81) rfl rfl (x_ixor (pc' := 82) rfl rfl (x_iand (pc' := 83) rfl rfl ?_))))
      refine x_if_ne (pc' := 86) rfl rfl (fun h83 => ?_) (fun h83 => ?_)
      · refine x_iload (pc' := 88) rfl rfl rfl (x_invS1 (pc' := 91) rfl rfl rfl rfl (c_X9_bits _) ?_)
        rw [bt_pop n (by omega)]
        refine x_iload (pc' := 93) rfl rfl rfl ?_
        refine x_icmp_geN (pc' := 96) rfl rfl (by omega) (by omega) (fun h93 => ?_) (fun h93 => ?_)
        · refine x_iinc7 (pc' := 121) rfl rfl rfl (nI_add _ _) (x_goto rfl ?_)
          exact ih (n + 1) wn b (lwf_f hb (lwC_2 (fwr_f h93))) hf (by omega) (by omega)
        · refine x_aload_n (pc' := 97) rfl rfl rfl (x_iload_n (pc' := 98) rfl rfl rfl (x_iload_n (pc' := 99) rfl rfl rfl (x_iload (pc' := 101) rfl rfl rfl (x_invQ4 (pc' := 104) rfl rfl rfl rfl rfl rfl (c_X9_winsIf hV (KM_fr9 hK hf.1) (RR_T hV h hf) hs p k (nI n) hk) (fun vq Mq hq101 => ?_)))))
          obtain ⟨rfl, w2, rfl, hf2⟩ := hq101
          show WP l X _ md_X9_letWin (104, _, [.inl (bI (lwA K s p k (nI n)))], _) _
          refine x_if_eq (pc' := 107) rfl rfl (fun h104 => ?_) (fun h104 => ?_)
          · refine x_iinc7 (pc' := 121) rfl rfl rfl (nI_add _ _) (x_goto rfl ?_)
            exact ih (n + 1) w2 b (lwf_f hb (lwC_3 h104)) (hf.tr hf2) (by omega) (by omega)
          · refine x_iload (pc' := 109) rfl rfl rfl (x_istore5 (pc' := 111) rfl rfl rfl (x_iload (pc' := 113) rfl rfl rfl (x_invS1 (pc' := 116) rfl rfl rfl rfl (c_X9_bits _) ?_)))
            rw [bt_pop n (by omega)]
            refine x_istore6 (pc' := 118) rfl rfl rfl (x_iinc7 (pc' := 121) rfl rfl rfl (nI_add _ _) (x_goto rfl ?_))
            exact ih (n + 1) w2 (some n) (lwf_t hb (lwC_4 (by rw [hot]; exact h83) (fwr_t h93) h104)) (hf.tr hf2) (by omega) (by omega)
      · refine x_iinc7 (pc' := 121) rfl rfl rfl (nI_add _ _) (x_goto rfl ?_)
        exact ih (n + 1) wn b (lwf_f hb (lwC_1 (by rw [hot]; exact h83))) hf (by omega) (by omega)
set_option maxRecDepth 20000 in
theorem M_X9_letWin {l : Launch} {X : XT} {d Lz : Nat} {w : WF} {a : AS} (h : MRel w a) (hV : AVl a) (p : Int32) (k : Int32) (x : Int32) : okM l X (d + 8) Lz md_X9_letWin [.inl (p), .inl (k), .inl (x)] w (f_letWin a p k x) (a) := by
  have hr := h
  obtain ⟨r1, r2, r3, r4, r5, r6, r7, r8, r9⟩ := h
  have hK := hV.1
  have hv7 := hK.1
  have hv4 := hK.2.1
  have hs := hV.2.1
  have hnp := r1.2.2.1
  have hno := r1.2.2.2.2.1
  show WP l X _ md_X9_letWin (0, [some (.inr (.inr (9, 0, 0))), some (.inl (p)), some (.inl (k)), some (.inl (x)), none, none, none, none], [], _) _
  refine x_aload_n (pc' := 1) rfl rfl rfl (x_iload_n (pc' := 2) rfl rfl rfl (x_invI2 (pc' := 5) rfl rfl rfl rfl (p_X9_isPerson r1 _) ?_))
  refine x_if_ne (pc' := 8) rfl rfl (fun h5 => ?_) (fun h5 => ?_)
  · refine x_ldc (pc' := 10) rfl rfl ?_
    refine x_iret rfl rfl ?_
    exact ok_id (by unfold f_letWin; rw [bI_eq0.mp h5]; rfl) (fun _ _ _ _ _ => rfl) hr
  · obtain ⟨p2, hp, rfl⟩ := in_np (by omega) (bq h5)
    refine x_iload_n (pc' := 12) rfl rfl rfl (x_invS1 (pc' := 15) rfl rfl rfl rfl (c_X9_isKind _) ?_)
    refine x_if_eq (pc' := 18) rfl rfl (fun h15 => ?_) (fun h15 => ?_)
    · refine x_ldc (pc' := 29) rfl rfl ?_
      refine x_iret rfl rfl ?_
      first | exact ok_id (by unfold f_letWin isKd; rw [bq h5, bI_eq0.mp h15]; rfl) (fun _ _ _ _ _ => rfl) hr | exact ok_id (by unfold f_letWin isKd; rw [bq h5, bq h15, bI_eq0.mp h24]; rfl) (fun _ _ _ _ _ => rfl) hr
    · refine x_iload_n (pc' := 19) rfl rfl rfl (x_iconst (pc' := 20) rfl rfl (x_iconst (pc' := 21) rfl rfl (x_invS3 (pc' := 24) rfl rfl rfl rfl rfl rfl (c_X9_in _ _ _) ?_)))
      refine x_if_ne (pc' := 27) rfl rfl (fun h24 => ?_) (fun h24 => ?_)
      · refine x_ldc (pc' := 29) rfl rfl ?_
        refine x_iret rfl rfl ?_
        first | exact ok_id (by unfold f_letWin isKd; rw [bq h5, bI_eq0.mp h15]; rfl) (fun _ _ _ _ _ => rfl) hr | exact ok_id (by unfold f_letWin isKd; rw [bq h5, bq h15, bI_eq0.mp h24]; rfl) (fun _ _ _ _ _ => rfl) hr
      · obtain ⟨k2, -, hk2, rfl⟩ := in_num (by omega) (bq h15) (by omega)
        obtain ⟨x2, -, hx2, rfl⟩ := in_num (by omega) (bq h24) (by omega)
        refine x_aload_n (pc' := 31) rfl rfl rfl (x_iconst (pc' := 32) rfl rfl (x_iload_n (pc' := 33) rfl rfl rfl (x_invI3 (pc' := 36) rfl rfl rfl rfl rfl (c_X9_isAtCourt 0 (by omega) _ (by omega)) ?_)))
        rw [r2.co p2 hp]
        refine x_if_ne (pc' := 39) rfl rfl (fun h36 => ?_) (fun h36 => ?_)
        · refine x_ldc (pc' := 41) rfl rfl ?_
          refine x_iret rfl rfl ?_
          exact ok_id (by unfold f_letWin isKd; rw [bq h5, bq h15, bq h24, ix_nI (by omega), bI_eq0.mp h36]; rfl) (fun _ _ _ _ _ => rfl) hr
        · obtain ⟨ot, g1, g2, g3⟩ := otA_num hK a.s hp
          refine x_aload_n (pc' := 43) rfl rfl rfl (x_iconst (pc' := 44) rfl rfl (x_invI2 (pc' := 47) rfl rfl rfl rfl (c_X9_courtIn 0 (by omega) _ hnp hv7) ?_))
          rw [enc_congr (g := coA a.s) _ (fun q hq => r2.co q hq)]
          refine x_iconst (pc' := 48) rfl rfl (x_iload_n (pc' := 49) rfl rfl rfl (x_ishl (pc' := 50) rfl rfl (x_iconst (pc' := 51) rfl rfl (x_ixor (pc' := 52) rfl rfl (x_iand (pc' := 53) rfl rfl ?_)))))
          rw [show enc (coA a.s) a.K.np &&& ((nI 1 <<< (nI p2 &&& 31)) ^^^ -1) = nI ot from g2]
          refine x_istore4 (pc' := 55) rfl rfl rfl (x_iconst (pc' := 56) rfl rfl (x_istore5 (pc' := 58) rfl rfl rfl (x_bipush (pc' := 60) rfl rfl (x_istore6 (pc' := 62) rfl rfl rfl (x_iconst (pc' := 63) rfl rfl ?_)))))
          refine x_istore7 (pc' := 65) rfl rfl rfl ?_
          refine wp_cons (wp_mono (by omega) (l_X9_letWin (d := d) hK r1 r2 hs.1 p2 k2 x2 ot (by omega) (by omega) g2 (2 ^ a.K.np + 1) 0 w none rfl (frT.rf w) (by omega) (by omega))) (fun v M hq => ?_)
          obtain ⟨rfl, w2, rfl, hf⟩ := hq
          exact ok_id (by unfold f_letWin isKd; rw [bq h5, bq h15, bq h24, ix_nI (by omega), bq h36, ix_nI (by omega)]; rfl) (frT_9 hf) (MRel_Q hK hr hf)
