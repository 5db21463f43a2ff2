/-! the reference: dayIn, rows copied -/
def MIDm (w : WF) (x k np no lc : Nat) (w' : WF) : Prop := fr9 w w' ∧ (∀ q, q < x ∨ x + 129 ≤ q → w' 9 0 1 q = w 9 0 1 q) ∧ (∀ q, q < 7 → w' 9 0 1 (x + 21 + q) = w 9 0 1 (x + 21 + q)) ∧ (∀ q, q < 7 → w' 9 0 1 (x + 28 + q) = if q < np ∧ FSM w x k np q = true then w 9 0 0 5 else w 9 0 1 (x + 28 + q)) ∧ (∀ q, q < 7 → w' 9 0 1 (x + 35 + q) = if SNM w x k np = some q then w 9 0 1 (x + 35 + q) + nI 1 else w 9 0 1 (x + 35 + q)) ∧ (∀ q, q < 21 → w' 9 0 1 (x + q) = gf2 (fun q => w 9 0 1 (x + q)) (SNM w x k np) k q) ∧ (∀ q, q < no → w' 9 0 1 (x + 42 + q) = ho2 (fun q => w 9 0 1 (x + 42 + q)) (w 9 0 3) (FSM w x k np) (SNM w x k np) k np q) ∧ w' 9 0 1 (x + 46) = w 9 0 1 (x + 46) ∧ w' 9 0 1 (x + 47) = w 9 0 1 (x + 47) ∧ (LDM w x k np = none → w' 9 0 1 (x + 48) = w 9 0 1 (x + 48) ∧ ∀ q, q < 80 → w' 9 0 1 (x + 49 + q) = w 9 0 1 (x + 49 + q)) ∧ (∀ L, LDM w x k np = some L → w' 9 0 1 (x + 48) = nI (lcn lc + 1) ∧ (∀ q, q < 4 * lcn lc → w' 9 0 1 (x + 49 + q) = w 9 0 1 (x + 49 + (if lc = 20 then q + 4 else q))) ∧ w' 9 0 1 (x + 49 + 4 * lcn lc) = w 9 0 1 (x + 47) ∧ w' 9 0 1 (x + 49 + (4 * lcn lc + 1)) = nI k ∧ w' 9 0 1 (x + 49 + (4 * lcn lc + 2)) = nI L ∧ w' 9 0 1 (x + 49 + (4 * lcn lc + 3)) = oI (SNM w x k np))
theorem MIDm_none {w : WF} {x k np no lc : Nat} (h : LDM w x k np = none) : MIDm w x k np no lc w := by
  have h1 : ∀ p, FSM w x k np p = false := fun p => fst_none h p
  have h2 : SNM w x k np = none := snd_none h
  refine ⟨fr9.rf w, fun _ _ => rfl, fun _ _ => rfl, fun q _ => ?_, fun q _ => ?_, fun q _ => ?_, fun q _ => ?_, rfl, rfl, fun _ => ⟨rfl, fun _ _ => rfl⟩, fun L z => by rw [h] at z; cases z⟩
  · rw [if_neg (fun y => by rw [h1 q] at y; cases y.2)]
  · rw [h2, if_neg (by intro z; cases z)]
  · rw [h2]; rfl
  · rw [h2]
    exact (ho1_no (h := fun q => w 9 0 1 (x + 42 + q)) h1 np q).symm
theorem MIDm_some {w w2 : WF} {x k np no lc L : Nat} (h : LDM w x k np = some L) (hs : SEm w x k np no lc (FSM w x k np) (nI L) (oI (SNM w x k np)) (SNM w x k np) w2) : MIDm w x k np no lc w2 := by
  obtain ⟨s1, s2, s3, s4, s5, s6, s7, s8, s9, s10⟩ := hs
  refine ⟨s1, s2, s3, s4, s5, s6, s7, s8, s9, ?_, ?_⟩
  · intro z
    rw [h] at z
    cases z
  · intro L' hL
    rw [h] at hL
    cases hL
    exact s10
def DMi (w2 : WF) (x : Nat) (co : Nat → Bool) (n : Nat) (w' : WF) : Prop := fr9 w2 w' ∧ (∀ q, ¬ (x + 28 ≤ q ∧ q < x + 35) → w' 9 0 1 q = w2 9 0 1 q) ∧ (∀ q, q < 7 → w' 9 0 1 (x + 28 + q) = if q < n ∧ co q = false then w2 9 0 1 (x + 28 + q) - nI 1 else w2 9 0 1 (x + 28 + q))
theorem DMi_0 (w : WF) (x : Nat) (co : Nat → Bool) : DMi w x co 0 w := ⟨fr9.rf w, fun _ _ => rfl, fun q _ => by rw [if_neg (by omega)]⟩
theorem DMi_t {w2 w' : WF} {x n : Nat} {co : Nat → Bool} (hn : n < 7) (h : DMi w2 x co n w') (hc : co n = false) : DMi w2 x co (n + 1) (u4 w' 9 0 1 (x + 28 + n) (w' 9 0 1 (x + 28 + n) - nI 1)) := by
  obtain ⟨h1, h2, h3⟩ := h
  refine ⟨h1.u _ _, fun q hq => by rw [u4_k (by omega)]; exact h2 q hq, fun q hq => ?_⟩
  rw [u4_at]
  by_cases z : q = n
  · subst z; rw [if_pos rfl, if_pos ⟨by omega, hc⟩, h3 q hq, if_neg (by omega)]
  · rw [if_neg (by omega), h3 q hq]
    by_cases z2 : q < n ∧ co q = false
    · rw [if_pos z2, if_pos ⟨by omega, z2.2⟩]
    · rw [if_neg z2, if_neg (fun y => z2 ⟨by omega, y.2⟩)]
theorem sub_nI0 (x : Int32) : x - nI 0 = x := Int32.sub_zero x
theorem DMi_f {w2 w' : WF} {x n : Nat} {co : Nat → Bool} (hn : n < 7) (h : DMi w2 x co n w') (hc : co n = true) : DMi w2 x co (n + 1) (u4 w' 9 0 1 (x + 28 + n) (w' 9 0 1 (x + 28 + n) - nI 0)) := by
  obtain ⟨h1, h2, h3⟩ := h
  refine ⟨h1.u _ _, fun q hq => by rw [u4_k (by omega)]; exact h2 q hq, fun q hq => ?_⟩
  rw [u4_at, sub_nI0]
  by_cases z : q = n
  · subst z; rw [if_pos rfl, if_neg (fun y => by rw [hc] at y; cases y.2), h3 q hq, if_neg (by omega)]
  · rw [if_neg (by omega), h3 q hq]
    by_cases z2 : q < n ∧ co q = false
    · rw [if_pos z2, if_pos ⟨by omega, z2.2⟩]
    · rw [if_neg z2, if_neg (fun y => z2 ⟨by omega, y.2⟩)]
/-- what a day leaves in a row -/
def DYm (w : WF) (x k np no lc dd : Nat) (w' : WF) : Prop := ∃ w2, MIDm w x k np no lc w2 ∧ fr9 w2 w' ∧ (∀ q, ¬ (x + 28 ≤ q ∧ q < x + 35) → q ≠ x + 47 → w' 9 0 1 q = w2 9 0 1 q) ∧ w' 9 0 1 (x + 47) = nI (dd + 1) ∧ (∀ q, q < 7 → w' 9 0 1 (x + 28 + q) = if q < np ∧ cM w x q = false then w2 9 0 1 (x + 28 + q) - nI 1 else w2 9 0 1 (x + 28 + q))
theorem DYm_of {w w2 wn : WF} {x k np no lc dd : Nat} (hm : MIDm w x k np no lc w2) (hi : DMi w2 x (cM w x) np wn) : DYm w x k np no lc dd (u4 wn 9 0 1 (x + 47) (nI (dd + 1))) := by
  obtain ⟨h1, h2, h3⟩ := hi
  exact ⟨w2, hm, h1.u _ _, fun q a b => by rw [u4_k b]; exact h2 q a, u4_self _ _ _ _ _ _, fun q hq => by rw [u4_k (by omega)]; exact h3 q hq⟩
set_option maxRecDepth 20000 in
theorem l_X9_dayIn {l : Launch} {X : XT} {d Lz : Nat} {w : Nat → Nat → Nat → Nat → Int32} (x : Nat) (hx : x + 130 ≤ 4420) (k : Nat) (hk : k < 3) (hr : w 9 0 1 (x + 46) = 0 ∨ w 9 0 1 (x + 46) = nI 1) (np : Nat) (hnp : w 9 0 0 6 = nI np) (hn7 : np ≤ 7) (no : Nat) (hno : w 9 0 0 7 = nI no) (hn4 : no ≤ 4) (lc : Nat) (hlc : w 9 0 1 (x + 48) = nI lc) (hl : lc ≤ 20) (hg : ∀ q, q < 21 → ∃ v, v ≤ 9 ∧ w 9 0 1 (x + q) = nI v) (dd : Nat) (hdd : w 9 0 1 (x + 47) = nI dd) (hd : dd < 2 ^ 30) (nt : Nat) (hnt : w 9 0 0 8 = nI nt) (h12 : nt ≤ 12) (hkd : kdV (w 9 0 4) nt dd = nI k) (w2 : WF) (hm : MIDm w x k np no lc w2) : ∀ (kk n : Nat), ∀ (wn : WF), DMi w2 x (cM w x) n wn →  n ≤ np → np + 1 ≤ n + kk → WP l X (d + 2) md_X9_dayIn (36, [some (.inr (.inr (9, 0, 0))), some (.inl (nI x)), some (.inl (enc (cM w x) np ^^^ -1)), some (.inl (nI n))], [], mk Lz wn) (fun v M' => v = none ∧ ∃ w', M' = mk Lz w' ∧ DYm w x k np no lc dd w') := by
  intro kk
  induction kk with
  | zero =>
    intro n wn hi h1 h2
    exact absurd h2 (by omega)
  | succ kk ih =>
    intro n wn hi hi1 hi2
    refine x_iload_n (pc' := 37) rfl rfl rfl (x_aload_n (pc' := 38) rfl rfl rfl (x_getI (pc' := 41) rfl rfl rfl ?_))
    rw [hi.1 9 0 0 6 (by omega), hm.1 9 0 0 6 (by omega), hnp]
    refine x_icmp_geN (pc' := 44) rfl rfl (by omega) (by omega) (fun h41 => ?_) (fun h41 => ?_)
    · refine x_aload_n (pc' := 78) rfl rfl rfl (x_getR (pc' := 81) (t := (9, _, 1)) rfl rfl rfl (x_iload_n (pc' := 82) rfl rfl rfl (x_bipush (pc' := 84) rfl rfl (x_iaddN (pc' := 85) rfl rfl (x_dup2 (pc' := 86) rfl rfl rfl ?_)))))
      refine x_iald (pc' := 87) (N := 4420) rfl rfl rfl rfl (by first | assumption | omega) (by decide) ?_
      rw [hi.2.1 _ (by omega), hm.2.2.2.2.2.2.2.2.1, hdd]
      refine x_iconst (pc' := 88) rfl rfl (x_iaddN (pc' := 89) rfl rfl (x_iast (pc' := 90) (N := 4420) rfl rfl rfl (by decide) rfl (by first | assumption | omega) (by decide) ?_))
      refine x_vret rfl rfl ?_
      have e : n = np := by omega
      subst e
      exact ⟨rfl, _, rfl, DYm_of hm hi⟩
    · refine x_aload_n (pc' := 45) rfl rfl rfl (x_getR (pc' := 48) (t := (9, _, 1)) rfl rfl rfl (x_iload_n (pc' := 49) rfl rfl rfl (x_bipush (pc' := 51) rfl rfl (x_iaddN (pc' := 52) rfl rfl (x_iload_n (pc' := 53) rfl rfl rfl ?_)))))
      refine x_iaddN (pc' := 54) rfl rfl (x_dup2 (pc' := 55) rfl rfl rfl (x_iald (pc' := 56) (N := 4420) rfl rfl rfl rfl (by first | assumption | omega) (by decide) (x_iload_n (pc' := 57) rfl rfl rfl (x_iload_n (pc' := 58) rfl rfl rfl (x_invS2 (pc' := 61) rfl rfl rfl rfl rfl (c_X9_has _ _) ?_)))))
      rw [has_not (by omega), has_enc (by omega) (by omega)]
      refine x_if_eq (pc' := 64) rfl rfl (fun h61 => ?_) (fun h61 => ?_)
      · refine x_iconst (pc' := 69) rfl rfl (x_isub (pc' := 70) rfl rfl (x_iast (pc' := 71) (N := 4420) rfl rfl rfl (by decide) rfl (by first | assumption | omega) (by decide) (x_iinc3 (pc' := 74) rfl rfl rfl (nI_add _ _) (x_goto rfl ?_))))
        first | exact ih (n + 1) _ (DMi_t (by omega) hi (by have z := bq h61; simpa using z)) (by omega) (by omega) | exact ih (n + 1) _ (DMi_f (by omega) hi (by have z := bI_eq0.mp h61; simpa using z)) (by omega) (by omega)
      · refine x_iconst (pc' := 65) rfl rfl (x_goto rfl (x_isub (pc' := 70) rfl rfl (x_iast (pc' := 71) (N := 4420) rfl rfl rfl (by decide) rfl (by first | assumption | omega) (by decide) (x_iinc3 (pc' := 74) rfl rfl rfl (nI_add _ _) (x_goto rfl ?_)))))
        first | exact ih (n + 1) _ (DMi_t (by omega) hi (by have z := bq h61; simpa using z)) (by omega) (by omega) | exact ih (n + 1) _ (DMi_f (by omega) hi (by have z := bI_eq0.mp h61; simpa using z)) (by omega) (by omega)
set_option maxRecDepth 20000 in
theorem c_X9_dayIn {l : Launch} {X : XT} {d Lz : Nat} {w : Nat → Nat → Nat → Nat → Int32} (x : Nat) (hx : x + 130 ≤ 4420) (k : Nat) (hk : k < 3) (hr : w 9 0 1 (x + 46) = 0 ∨ w 9 0 1 (x + 46) = nI 1) (np : Nat) (hnp : w 9 0 0 6 = nI np) (hn7 : np ≤ 7) (no : Nat) (hno : w 9 0 0 7 = nI no) (hn4 : no ≤ 4) (lc : Nat) (hlc : w 9 0 1 (x + 48) = nI lc) (hl : lc ≤ 20) (hg : ∀ q, q < 21 → ∃ v, v ≤ 9 ∧ w 9 0 1 (x + q) = nI v) (dd : Nat) (hdd : w 9 0 1 (x + 47) = nI dd) (hd : dd < 2 ^ 30) (nt : Nat) (hnt : w 9 0 0 8 = nI nt) (h12 : nt ≤ 12) (hkd : kdV (w 9 0 4) nt dd = nI k) : WP l X (d + 7) md_X9_dayIn (en md_X9_dayIn [.inr (.inr (9, 0, 0)), .inl (nI x)] (mk Lz w)) (fun v M' => v = none ∧ ∃ w', M' = mk Lz w' ∧ DYm w x k np no lc dd w') := by
  show WP l X _ md_X9_dayIn (0, [some (.inr (.inr (9, 0, 0))), some (.inl (nI x)), none, none], [], _) _
  refine x_aload_n (pc' := 1) rfl rfl rfl (x_iload_n (pc' := 2) rfl rfl rfl (x_invI2 (pc' := 5) rfl rfl rfl rfl (c_X9_courtIn x hx np hnp hn7) ?_))
  refine x_iconst (pc' := 6) rfl rfl (x_ixor (pc' := 7) rfl rfl (x_istore_n2 (pc' := 8) rfl rfl rfl (x_aload_n (pc' := 9) rfl rfl rfl (x_iload_n (pc' := 10) rfl rfl rfl (x_invI2 (pc' := 13) rfl rfl rfl rfl (c_X9_courtIn x hx np hnp hn7) ?_)))))
  refine x_if_eq (pc' := 16) rfl rfl (fun h13 => ?_) (fun h13 => ?_)
  · refine x_iconst (pc' := 35) rfl rfl (x_istore_n3 (pc' := 36) rfl rfl rfl ?_)
    first | exact wp_mono (by omega) (l_X9_dayIn (d := d) x hx k hk hr np hnp hn7 no hno hn4 lc hlc hl hg dd hdd hd nt hnt h12 hkd _ (MIDm_none (bst_nobody np (fun p hp => (enc_0 (by omega)).mp h13 p hp))) (np + 1) 0 _ (DMi_0 _ x _) (by omega) (by omega)) | exact wp_mono (by omega) (l_X9_dayIn (d := d) x hx k hk hr np hnp hn7 no hno hn4 lc hlc hl hg dd hdd hd nt hnt h12 hkd _ (MIDm_some hL hse) (np + 1) 0 _ (DMi_0 _ x _) (by omega) (by omega))
  · have hcs : ∃ L, LDM w x k np = some L := by
      cases hL : LDM w x k np with
      | none => exact absurd ((enc_0 (by omega)).mpr (fun p hp => bst_some np hL p hp)) h13
      | some L => exact ⟨L, rfl⟩
    obtain ⟨L, hL⟩ := hcs
    refine x_aload_n (pc' := 17) rfl rfl rfl (x_iload_n (pc' := 18) rfl rfl rfl (x_aload_n (pc' := 19) rfl rfl rfl (x_aload_n (pc' := 20) rfl rfl rfl (x_getR (pc' := 23) (t := (9, _, 1)) rfl rfl rfl (x_iload_n (pc' := 24) rfl rfl rfl ?_)))))
    refine x_bipush (pc' := 26) rfl rfl (x_iaddN (pc' := 27) rfl rfl (x_iald (pc' := 28) (N := 4420) rfl rfl rfl rfl (by first | assumption | omega) (by decide) ?_))
    rw [hdd]
    refine x_invI2 (pc' := 31) rfl rfl rfl rfl (c_X9_kindOf nt dd hnt h12 (by omega)) ?_
    rw [hkd]
    refine x_invQ3 (pc' := 34) rfl rfl rfl rfl rfl (c_X9_contestIn x hx k hk hr np hnp hn7 no hno hn4 lc hlc hl hg L hL) (fun vq Mq hq31 => ?_)
    obtain ⟨rfl, w2, rfl, hse⟩ := hq31
    show WP l X _ md_X9_dayIn (34, _, [], _) _
    refine x_iconst (pc' := 35) rfl rfl (x_istore_n3 (pc' := 36) rfl rfl rfl ?_)
    first | exact wp_mono (by omega) (l_X9_dayIn (d := d) x hx k hk hr np hnp hn7 no hno hn4 lc hlc hl hg dd hdd hd nt hnt h12 hkd _ (MIDm_none (bst_nobody np (fun p hp => (enc_0 (by omega)).mp h13 p hp))) (np + 1) 0 _ (DMi_0 _ x _) (by omega) (by omega)) | exact wp_mono (by omega) (l_X9_dayIn (d := d) x hx k hk hr np hnp hn7 no hno hn4 lc hlc hl hg dd hdd hd nt hnt h12 hkd _ (MIDm_some hL hse) (np + 1) 0 _ (DMi_0 _ x _) (by omega) (by omega))
/-- a row is copied -/
def CRi (w : WF) (x y n : Nat) (w' : WF) : Prop := fr9 w w' ∧ (∀ q, ¬ (y ≤ q ∧ q < y + n) → w' 9 0 1 q = w 9 0 1 q) ∧ (∀ q, q < n → w' 9 0 1 (y + q) = w 9 0 1 (x + q))
theorem CRi_0 (w : WF) (x y : Nat) : CRi w x y 0 w := ⟨fr9.rf w, fun _ _ => rfl, fun q hq => absurd hq (by omega)⟩
theorem CRi_s {w w' : WF} {x y n : Nat} (hxy : x + 130 ≤ y ∨ y + 130 ≤ x) (hn : n < 130) (h : CRi w x y n w') : CRi w x y (n + 1) (u4 w' 9 0 1 (y + n) (w' 9 0 1 (x + n))) := by
  obtain ⟨h1, h2, h3⟩ := h
  refine ⟨h1.u _ _, fun q hq => by rw [u4_k (by omega)]; exact h2 q (by omega), fun q hq => ?_⟩
  rw [u4_at]
  by_cases z : q = n
  · subst z; rw [if_pos rfl]; exact h2 _ (by omega)
  · rw [if_neg (by omega)]; exact h3 q (by omega)
set_option maxRecDepth 20000 in
theorem l_X9_copyRow {l : Launch} {X : XT} {d Lz : Nat} {w : Nat → Nat → Nat → Nat → Int32} (x y : Nat) (hx : x + 130 ≤ 4420) (hy : y + 130 ≤ 4420) (hxy : x + 130 ≤ y ∨ y + 130 ≤ x) : ∀ (kk n : Nat), ∀ (wn : WF), CRi w x y n wn →  n ≤ 130 → 130 + 1 ≤ n + kk → WP l X (d + 1) md_X9_copyRow (2, [some (.inr (.inr (9, 0, 0))), some (.inl (nI x)), some (.inl (nI y)), some (.inl (nI n))], [], mk Lz wn) (fun v M' => v = none ∧ ∃ w', M' = mk Lz w' ∧ CRi w x y 130 w') := by
  intro kk
  induction kk with
  | zero =>
    intro n wn hi h1 h2
    exact absurd h2 (by omega)
  | succ kk ih =>
    intro n wn hi hi1 hi2
    refine x_iload_n (pc' := 3) rfl rfl rfl (x_sipush (pc' := 6) rfl rfl ?_)
    refine x_icmp_geN (pc' := 9) rfl rfl (by omega) (by omega) (fun h6 => ?_) (fun h6 => ?_)
    · refine x_vret rfl rfl ?_
      have e : n = 130 := by omega
      subst e
      exact ⟨rfl, _, rfl, hi⟩
    · refine x_aload_n (pc' := 10) rfl rfl rfl (x_getR (pc' := 13) (t := (9, _, 1)) rfl rfl rfl (x_iload_n (pc' := 14) rfl rfl rfl (x_iload_n (pc' := 15) rfl rfl rfl (x_iaddN (pc' := 16) rfl rfl (x_aload_n (pc' := 17) rfl rfl rfl ?_)))))
      refine x_getR (pc' := 20) (t := (9, _, 1)) rfl rfl rfl (x_iload_n (pc' := 21) rfl rfl rfl (x_iload_n (pc' := 22) rfl rfl rfl (x_iaddN (pc' := 23) rfl rfl (x_iald (pc' := 24) (N := 4420) rfl rfl rfl rfl (by first | assumption | omega) (by decide) (x_iast (pc' := 25) (N := 4420) rfl rfl rfl (by decide) rfl (by first | assumption | omega) (by decide) ?_)))))
      refine x_iinc3 (pc' := 28) rfl rfl rfl (nI_add _ _) (x_goto rfl ?_)
      exact ih (n + 1) _ (CRi_s hxy (by omega) hi) (by omega) (by omega)
set_option maxRecDepth 20000 in
theorem c_X9_copyRow {l : Launch} {X : XT} {d Lz : Nat} {w : Nat → Nat → Nat → Nat → Int32} (x y : Nat) (hx : x + 130 ≤ 4420) (hy : y + 130 ≤ 4420) (hxy : x + 130 ≤ y ∨ y + 130 ≤ x) : WP l X (d + 1) md_X9_copyRow (en md_X9_copyRow [.inr (.inr (9, 0, 0)), .inl (nI x), .inl (nI y)] (mk Lz w)) (fun v M' => v = none ∧ ∃ w', M' = mk Lz w' ∧ CRi w x y 130 w') := by
  show WP l X _ md_X9_copyRow (0, [some (.inr (.inr (9, 0, 0))), some (.inl (nI x)), some (.inl (nI y)), none], [], _) _
  refine x_iconst (pc' := 1) rfl rfl (x_istore_n3 (pc' := 2) rfl rfl rfl ?_)
  exact l_X9_copyRow x y hx hy hxy 131 0 _ (CRi_0 w x y) (by omega) (by omega)
