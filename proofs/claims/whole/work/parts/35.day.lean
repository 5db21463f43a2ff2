/-! a day -/
theorem u4_at (w : WF) (c i o k : Nat) (x : Int32) (q : Nat) : u4 w c i o k x c i o q = if q = k then x else w c i o q := by
  by_cases h : q = k
  · subst h; rw [u4_self, if_pos rfl]
  · rw [u4_k h, if_neg h]
theorem ne3 {c i o c' i' o' : Nat} (h : ¬ (c' = c ∧ i' = i ∧ o' = o)) : (c', i', o') ≠ (c, i, o) := fun e => h (by cases e; exact ⟨rfl, rfl, rfl⟩)
def TCi (w : WF) (i p : Nat) (tm : Int32) (n : Nat) (w' : WF) : Prop := (∀ c i' o q, ¬ (c = 6 ∧ i' = i ∧ (o = 3 ∨ o = 5)) → w' c i' o q = w c i' o q) ∧ (∀ q, w' 6 i 3 q = if q = p then tm else w 6 i 3 q) ∧ (∀ q, q < n → w' 6 i 5 q = if w 6 i 5 q = nI p then -1 else w 6 i 5 q) ∧ (∀ q, n ≤ q → w' 6 i 5 q = w 6 i 5 q)
theorem TCi_0 (w : WF) (i p : Nat) (tm : Int32) : TCi w i p tm 0 (u4 w 6 i 3 p tm) :=
  ⟨fun c i' o q h => u4_ne (ne3 (fun z => h ⟨z.1, z.2.1, Or.inl z.2.2⟩)) q, fun q => u4_at w 6 i 3 p tm q, fun q hq => absurd hq (by omega), fun q _ => u4_ne (ne3 (by omega)) q⟩
theorem TCi_t {w w' : WF} {i p n : Nat} {tm : Int32} (h : TCi w i p tm n w') (e : w' 6 i 5 n = nI p) : TCi w i p tm (n + 1) (u4 w' 6 i 5 n (-1)) := by
  obtain ⟨h1, h2, h3, h4⟩ := h
  refine ⟨fun c i' o q hc => ?_, fun q => ?_, fun q hq => ?_, fun q hq => ?_⟩
  · rw [u4_ne (ne3 (fun z => hc ⟨z.1, z.2.1, Or.inr z.2.2⟩)) q]; exact h1 c i' o q hc
  · rw [u4_ne (ne3 (by omega)) q]; exact h2 q
  · rw [u4_at]
    by_cases z : q = n
    · subst z; rw [if_pos rfl, if_pos (by rw [← h4 q (Nat.le_refl _)]; exact e)]
    · rw [if_neg z]; exact h3 q (by omega)
  · rw [u4_at, if_neg (by omega)]; exact h4 q (by omega)
theorem TCi_f {w w' : WF} {i p n : Nat} {tm : Int32} (h : TCi w i p tm n w') (e : ¬ w' 6 i 5 n = nI p) : TCi w i p tm (n + 1) w' := by
  obtain ⟨h1, h2, h3, h4⟩ := h
  refine ⟨h1, h2, fun q hq => ?_, fun q hq => h4 q (by omega)⟩
  by_cases z : q = n
  · subst z; rw [if_neg (by rw [← h4 q (Nat.le_refl _)]; exact e)]; exact h4 q (Nat.le_refl _)
  · exact h3 q (by omega)
set_option maxRecDepth 20000 in
theorem l_X6_toCoast {l : Launch} {X : XT} {d Lz : Nat} {w : Nat → Nat → Nat → Nat → Int32} (i j p : Nat) (tm : Int32) (no : Nat) (hno : w 4 j 0 8 = nI no) (hn4 : no ≤ 4) : ∀ (k n : Nat), ∀ (wn : WF), TCi w i p tm n wn →  n ≤ no → no + 1 ≤ n + k → WP l X (d + 1) md_X6_toCoast (12, [some (.inr (.inr (6, i, 0))), some (.inr (.inr (4, j, 0))), some (.inl (nI p)), some (.inl (nI n))], [], mk Lz wn) (fun v M' => v = none ∧ ∃ w', M' = mk Lz w' ∧ TCi w i p tm no w') := by
  intro k
  induction k with
  | zero =>
    intro n wn hi h1 h2
    exact absurd h2 (by omega)
  | succ k ih =>
    intro n wn hi hi1 hi2
    refine x_iload_n (pc' := 13) rfl rfl rfl (x_aload_n (pc' := 14) rfl rfl rfl (x_getI (pc' := 17) rfl rfl rfl ?_))
    rw [hi.1 4 j 0 8 (by omega), hno]
    refine x_icmp_geN (pc' := 20) rfl rfl (by omega) (by omega) (fun h17 => ?_) (fun h17 => ?_)
    · refine x_vret rfl rfl ?_
      have e : n = no := by omega
      subst e
      exact ⟨rfl, _, rfl, hi⟩
    · refine x_aload_n (pc' := 21) rfl rfl rfl (x_getR (pc' := 24) (t := (6, _, 5)) rfl rfl rfl (x_iload_n (pc' := 25) rfl rfl rfl (x_iald (pc' := 26) (N := 4) rfl rfl rfl rfl (by first | assumption | omega) (by decide) (x_iload_n (pc' := 27) rfl rfl rfl ?_))))
      refine x_icmp_ne (pc' := 30) rfl rfl (fun h27 => ?_) (fun h27 => ?_)
      · refine x_aload_n (pc' := 31) rfl rfl rfl (x_getR (pc' := 34) (t := (6, _, 5)) rfl rfl rfl (x_iload_n (pc' := 35) rfl rfl rfl (x_iconst (pc' := 36) rfl rfl (x_iast (pc' := 37) (N := 4) rfl rfl rfl (by decide) rfl (by first | assumption | omega) (by decide) (x_iinc3 (pc' := 40) rfl rfl rfl (nI_add _ _) ?_)))))
        refine x_goto rfl ?_
        first | exact ih (n + 1) _ (TCi_t hi h27) (by omega) (by omega) | exact ih (n + 1) _ (TCi_f hi h27) (by omega) (by omega)
      · refine x_iinc3 (pc' := 40) rfl rfl rfl (nI_add _ _) (x_goto rfl ?_)
        first | exact ih (n + 1) _ (TCi_t hi h27) (by omega) (by omega) | exact ih (n + 1) _ (TCi_f hi h27) (by omega) (by omega)
set_option maxRecDepth 20000 in
theorem c_X6_toCoast {l : Launch} {X : XT} {d Lz : Nat} {w : Nat → Nat → Nat → Nat → Int32} (i j p : Nat) (hp : p < 7) (no : Nat) (hno : w 4 j 0 8 = nI no) (hn4 : no ≤ 4) : WP l X (d + 1) md_X6_toCoast (en md_X6_toCoast [.inr (.inr (6, i, 0)), .inr (.inr (4, j, 0)), .inl (nI p)] (mk Lz w)) (fun v M' => v = none ∧ ∃ w', M' = mk Lz w' ∧ TCi w i p (w 4 j 0 5) no w') := by
  show WP l X _ md_X6_toCoast (0, [some (.inr (.inr (6, i, 0))), some (.inr (.inr (4, j, 0))), some (.inl (nI p)), none], [], _) _
  refine x_aload_n (pc' := 1) rfl rfl rfl (x_getR (pc' := 4) (t := (6, _, 3)) rfl rfl rfl (x_iload_n (pc' := 5) rfl rfl rfl (x_aload_n (pc' := 6) rfl rfl rfl (x_getI (pc' := 9) rfl rfl rfl (x_iast (pc' := 10) (N := 7) rfl rfl rfl (by decide) rfl (by first | assumption | omega) (by decide) ?_)))))
  refine x_iconst (pc' := 11) rfl rfl (x_istore_n3 (pc' := 12) rfl rfl rfl ?_)
  exact l_X6_toCoast i j p (w 4 j 0 5) no hno hn4 (no + 1) 0 _ (TCi_0 w i p _) (by omega) (by omega)
def PMi (w : WF) (i j p k n : Nat) (w' : WF) : Prop := (∀ c i' o q, ¬ (c = 6 ∧ i' = i ∧ o = 5) → w' c i' o q = w c i' o q) ∧ (∀ q, q < n → w' 6 i 5 q = if w 4 j 4 q = nI k then nI p else w 6 i 5 q) ∧ (∀ q, n ≤ q → w' 6 i 5 q = w 6 i 5 q)
theorem PMi_0 (w : WF) (i j p k : Nat) : PMi w i j p k 0 w := ⟨fun _ _ _ _ _ => rfl, fun q hq => absurd hq (by omega), fun _ _ => rfl⟩
theorem PMi_t {w w' : WF} {i j p k n : Nat} (h : PMi w i j p k n w') (e : w' 4 j 4 n = nI k) : PMi w i j p k (n + 1) (u4 w' 6 i 5 n (nI p)) := by
  obtain ⟨h1, h3, h4⟩ := h
  refine ⟨fun c i' o q hc => ?_, fun q hq => ?_, fun q hq => ?_⟩
  · rw [u4_ne (ne3 hc) q]; exact h1 c i' o q hc
  · rw [u4_at]
    by_cases z : q = n
    · subst z; rw [if_pos rfl, if_pos (by rw [← h1 4 j 4 q (by omega)]; exact e)]
    · rw [if_neg z]; exact h3 q (by omega)
  · rw [u4_at, if_neg (by omega)]; exact h4 q (by omega)
theorem PMi_f {w w' : WF} {i j p k n : Nat} (h : PMi w i j p k n w') (e : ¬ w' 4 j 4 n = nI k) : PMi w i j p k (n + 1) w' := by
  obtain ⟨h1, h3, h4⟩ := h
  refine ⟨h1, fun q hq => ?_, fun q hq => h4 q (by omega)⟩
  by_cases z : q = n
  · subst z; rw [if_neg (by rw [← h1 4 j 4 q (by omega)]; exact e)]; exact h4 q (Nat.le_refl _)
  · exact h3 q (by omega)
/-- what being made leaves -/
def PM (w : WF) (i j p k no : Nat) (w' : WF) : Prop := (∀ c i' o q, ¬ (c = 6 ∧ i' = i ∧ (o = 1 ∨ o = 4 ∨ o = 5)) → w' c i' o q = w c i' o q) ∧ (∀ q, q < no → w' 6 i 5 q = if w 4 j 4 q = nI k then nI p else w 6 i 5 q) ∧ (∀ q, w' 6 i 4 q = if q = p then w 6 i 4 p + nI 1 else w 6 i 4 q) ∧ (∀ q, w' 6 i 1 q = if q = p * 3 + k then mxI (nI 0) (w 6 i 1 (p * 3 + k) - nI 1) else w 6 i 1 q)
theorem PM_of {w wn : WF} {i j p k no : Nat} (h : PMi w i j p k no wn) : PM w i j p k no (u4 (u4 wn 6 i 4 p (wn 6 i 4 p + nI 1)) 6 i 1 (p * 3 + k) (mxI (nI 0) (u4 wn 6 i 4 p (wn 6 i 4 p + nI 1) 6 i 1 (p * 3 + k) - nI 1))) := by
  obtain ⟨h1, h3, h4⟩ := h
  refine ⟨fun c i' o q hc => ?_, fun q hq => ?_, fun q => ?_, fun q => ?_⟩
  · rw [u4_ne (ne3 (by omega)) q, u4_ne (ne3 (by omega)) q]; exact h1 c i' o q (by omega)
  · rw [u4_ne (ne3 (by omega)) q, u4_ne (ne3 (by omega)) q]; exact h3 q hq
  · rw [u4_ne (ne3 (by omega)) q, u4_at, h1 6 i 4 p (by omega), h1 6 i 4 q (by omega)]
  · rw [u4_at, u4_ne (ne3 (by omega)), u4_ne (ne3 (by omega)), h1 6 i 1 _ (by omega), h1 6 i 1 q (by omega)]
set_option maxRecDepth 20000 in
theorem l_X6_promote {l : Launch} {X : XT} {d Lz : Nat} {w : Nat → Nat → Nat → Nat → Int32} (i j p k : Nat) (hp : p < 7) (hk : k < 3) (no : Nat) (hno : w 4 j 0 8 = nI no) (hn4 : no ≤ 4) : ∀ (kk n : Nat), ∀ (wn : WF), PMi w i j p k n wn →  n ≤ no → no + 1 ≤ n + kk → WP l X (d + 2) md_X6_promote (3, [some (.inr (.inr (6, i, 0))), some (.inr (.inr (4, j, 0))), some (.inl (nI p)), some (.inl (nI k)), some (.inl (nI n))], [], mk Lz wn) (fun v M' => v = none ∧ ∃ w', M' = mk Lz w' ∧ PM w i j p k no w') := by
  intro kk
  induction kk with
  | zero =>
    intro n wn hi h1 h2
    exact absurd h2 (by omega)
  | succ kk ih =>
    intro n wn hi hi1 hi2
    refine x_iload (pc' := 5) rfl rfl rfl (x_aload_n (pc' := 6) rfl rfl rfl (x_getI (pc' := 9) rfl rfl rfl ?_))
    rw [hi.1 4 j 0 8 (by omega), hno]
    refine x_icmp_geN (pc' := 12) rfl rfl (by omega) (by omega) (fun h9 => ?_) (fun h9 => ?_)
    · refine x_aload_n (pc' := 38) rfl rfl rfl (x_getR (pc' := 41) (t := (6, _, 4)) rfl rfl rfl (x_iload_n (pc' := 42) rfl rfl rfl (x_dup2 (pc' := 43) rfl rfl rfl (x_iald (pc' := 44) (N := 7) rfl rfl rfl rfl (by first | assumption | omega) (by decide) (x_iconst (pc' := 45) rfl rfl ?_)))))
      refine x_iadd (pc' := 46) rfl rfl (x_iast (pc' := 47) (N := 7) rfl rfl rfl (by decide) rfl (by first | assumption | omega) (by decide) (x_aload_n (pc' := 48) rfl rfl rfl (x_iload_n (pc' := 49) rfl rfl rfl (x_iload_n (pc' := 50) rfl rfl rfl (x_iconst (pc' := 51) rfl rfl ?_)))))
      refine x_aload_n (pc' := 52) rfl rfl rfl (x_iload_n (pc' := 53) rfl rfl rfl (x_iload_n (pc' := 54) rfl rfl rfl (x_invI3 (pc' := 57) rfl rfl rfl rfl rfl (c_X6_giftOf _ _ _ (by omega)) ?_)))
      refine x_iconst (pc' := 58) rfl rfl (x_isub (pc' := 59) rfl rfl (x_invS2 (pc' := 62) rfl rfl rfl rfl rfl (c_J9_max_7cf53 _ _) ?_))
      refine x_invV4 (pc' := 65) rfl rfl rfl rfl rfl rfl (c_X6_setGift _ _ _ _ (by omega)) ?_
      refine x_vret rfl rfl ?_
      have e : n = no := by omega
      subst e
      exact ⟨rfl, _, rfl, PM_of hi⟩
    · refine x_aload_n (pc' := 13) rfl rfl rfl (x_getR (pc' := 16) (t := (4, _, 4)) rfl rfl rfl (x_iload (pc' := 18) rfl rfl rfl (x_iald (pc' := 19) (N := 4) rfl rfl rfl rfl (by first | assumption | omega) (by decide) (x_iload_n (pc' := 20) rfl rfl rfl ?_))))
      refine x_icmp_ne (pc' := 23) rfl rfl (fun h20 => ?_) (fun h20 => ?_)
      · refine x_aload_n (pc' := 24) rfl rfl rfl (x_getR (pc' := 27) (t := (6, _, 5)) rfl rfl rfl (x_iload (pc' := 29) rfl rfl rfl (x_iload_n (pc' := 30) rfl rfl rfl (x_iast (pc' := 31) (N := 4) rfl rfl rfl (by decide) rfl (by first | assumption | omega) (by decide) (x_iinc4 (pc' := 34) rfl rfl rfl (nI_add _ _) ?_)))))
        refine x_goto rfl ?_
        first | exact ih (n + 1) _ (PMi_t hi h20) (by omega) (by omega) | exact ih (n + 1) _ (PMi_f hi h20) (by omega) (by omega)
      · refine x_iinc4 (pc' := 34) rfl rfl rfl (nI_add _ _) (x_goto rfl ?_)
        first | exact ih (n + 1) _ (PMi_t hi h20) (by omega) (by omega) | exact ih (n + 1) _ (PMi_f hi h20) (by omega) (by omega)
set_option maxRecDepth 20000 in
theorem c_X6_promote {l : Launch} {X : XT} {d Lz : Nat} {w : Nat → Nat → Nat → Nat → Int32} (i j p k : Nat) (hp : p < 7) (hk : k < 3) (no : Nat) (hno : w 4 j 0 8 = nI no) (hn4 : no ≤ 4) : WP l X (d + 2) md_X6_promote (en md_X6_promote [.inr (.inr (6, i, 0)), .inr (.inr (4, j, 0)), .inl (nI p), .inl (nI k)] (mk Lz w)) (fun v M' => v = none ∧ ∃ w', M' = mk Lz w' ∧ PM w i j p k no w') := by
  show WP l X _ md_X6_promote (0, [some (.inr (.inr (6, i, 0))), some (.inr (.inr (4, j, 0))), some (.inl (nI p)), some (.inl (nI k)), none], [], _) _
  refine x_iconst (pc' := 1) rfl rfl (x_istore4 (pc' := 3) rfl rfl rfl ?_)
  exact l_X6_promote i j p k hp hk no hno hn4 (no + 1) 0 _ (PMi_0 w i j p k) (by omega) (by omega)
/-- what a log entry leaves -/
def LG (w : WF) (i cc : Nat) (kd : Int32) (w' : WF) : Prop := (∀ c i' o q, ¬ (c = 6 ∧ i' = i ∧ (o = 6 ∨ (o = 0 ∧ q = 6))) → w' c i' o q = w c i' o q) ∧ w' 6 i 0 6 = nI (cc + 1) ∧ (∀ q, w' 6 i 6 q = if q = cc % 20 * 4 + 3 then w 1 0 0 3 else if q = cc % 20 * 4 + 2 then w 1 0 0 2 else if q = cc % 20 * 4 + 1 then kd else if q = cc % 20 * 4 then w 6 i 0 7 else w 6 i 6 q)
set_option maxRecDepth 20000 in
theorem c_X6_logContest {l : Launch} {X : XT} {d Lz : Nat} {w : Nat → Nat → Nat → Nat → Int32} (i cc : Nat) (kd : Int32) (hcc : w 6 i 0 6 = nI cc) (hc : cc < 2 ^ 30) : WP l X (d + 1) md_X6_logContest (en md_X6_logContest [.inr (.inr (6, i, 0)), .inl (kd), .inr (.inr (1, 0, 0))] (mk Lz w)) (fun v M' => v = none ∧ ∃ w', M' = mk Lz w' ∧ LG w i cc kd w') := by
  show WP l X _ md_X6_logContest (0, [some (.inr (.inr (6, i, 0))), some (.inl (kd)), some (.inr (.inr (1, 0, 0))), none], [], _) _
  refine x_aload_n (pc' := 1) rfl rfl rfl (x_getI (pc' := 4) rfl rfl rfl ?_)
  rw [hcc]
  refine x_bipush (pc' := 6) rfl rfl (x_iremN (pc' := 7) rfl rfl (by decide) (by omega) (by decide) (x_iconst (pc' := 8) rfl rfl (x_imulN (pc' := 9) rfl rfl (x_istore_n3 (pc' := 10) rfl rfl rfl (x_aload_n (pc' := 11) rfl rfl rfl ?_)))))
  refine x_getR (pc' := 14) (t := (6, _, 6)) rfl rfl rfl (x_iload_n (pc' := 15) rfl rfl rfl (x_aload_n (pc' := 16) rfl rfl rfl (x_getI (pc' := 19) rfl rfl rfl (x_iast (pc' := 20) (N := 80) rfl rfl rfl (by decide) rfl (by have := Nat.mod_lt cc (show 0 < 20 by decide); omega) (by decide) (x_aload_n (pc' := 21) rfl rfl rfl ?_)))))
  refine x_getR (pc' := 24) (t := (6, _, 6)) rfl rfl rfl (x_iload_n (pc' := 25) rfl rfl rfl (x_iconst (pc' := 26) rfl rfl (x_iaddN (pc' := 27) rfl rfl (x_iload_n (pc' := 28) rfl rfl rfl (x_iast (pc' := 29) (N := 80) rfl rfl rfl (by decide) rfl (by have := Nat.mod_lt cc (show 0 < 20 by decide); omega) (by decide) ?_)))))
  refine x_aload_n (pc' := 30) rfl rfl rfl (x_getR (pc' := 33) (t := (6, _, 6)) rfl rfl rfl (x_iload_n (pc' := 34) rfl rfl rfl (x_iconst (pc' := 35) rfl rfl (x_iaddN (pc' := 36) rfl rfl (x_aload_n (pc' := 37) rfl rfl rfl ?_)))))
  refine x_getI (pc' := 40) rfl rfl rfl (x_iast (pc' := 41) (N := 80) rfl rfl rfl (by decide) rfl (by have := Nat.mod_lt cc (show 0 < 20 by decide); omega) (by decide) (x_aload_n (pc' := 42) rfl rfl rfl (x_getR (pc' := 45) (t := (6, _, 6)) rfl rfl rfl (x_iload_n (pc' := 46) rfl rfl rfl (x_iconst (pc' := 47) rfl rfl ?_)))))
  refine x_iaddN (pc' := 48) rfl rfl (x_aload_n (pc' := 49) rfl rfl rfl (x_getI (pc' := 52) rfl rfl rfl (x_iast (pc' := 53) (N := 80) rfl rfl rfl (by decide) rfl (by have := Nat.mod_lt cc (show 0 < 20 by decide); omega) (by decide) (x_aload_n (pc' := 54) rfl rfl rfl (x_dup (pc' := 55) rfl rfl rfl ?_)))))
  refine x_getI (pc' := 58) rfl rfl rfl ?_
  rw [u4_ne (ne3 (by omega)), u4_ne (ne3 (by omega)), u4_ne (ne3 (by omega)), u4_ne (ne3 (by omega)), hcc]
  refine x_iconst (pc' := 59) rfl rfl (x_iaddN (pc' := 60) rfl rfl (x_putI (pc' := 63) rfl rfl rfl ?_))
  refine x_vret rfl rfl ?_
  refine ⟨rfl, _, rfl, fun c i2 o2 q hc => ?_, ?_, fun q => ?_⟩
  · by_cases h6 : c = 6 ∧ i2 = i ∧ o2 = 0
    · obtain ⟨rfl, rfl, rfl⟩ := h6
      rw [u4_k (by omega), u4_ne (ne3 (by omega)), u4_ne (ne3 (by omega)), u4_ne (ne3 (by omega)), u4_ne (ne3 (by omega))]
    · rw [u4_ne (ne3 h6), u4_ne (ne3 (by omega)), u4_ne (ne3 (by omega)), u4_ne (ne3 (by omega)), u4_ne (ne3 (by omega))]
  · rw [u4_self]
  · rw [u4_ne (ne3 (by omega)), u4_at, u4_at, u4_at, u4_at, u4_ne (ne3 (by omega)), u4_ne (ne3 (by omega)), u4_ne (ne3 (by omega)), u4_ne (ne3 (by omega)), u4_ne (ne3 (by omega))]
