/-! the reference: a day -/
/-- all but the reference's long row is as it was -/
def fr9 (w w' : WF) : Prop := ∀ c i o q, ¬ (c = 9 ∧ i = 0 ∧ o = 1) → w' c i o q = w c i o q
theorem fr9.rf (w : WF) : fr9 w w := fun _ _ _ _ _ => rfl
theorem fr9.u {w w' : WF} (h : fr9 w w') (k : Nat) (v : Int32) : fr9 w (u4 w' 9 0 1 k v) := fun c i o q hq => by rw [u4_ne (ne3 hq)]; exact h c i o q hq
theorem fr9.tr {a b c : WF} (h : fr9 a b) (h2 : fr9 b c) : fr9 a c := fun x i o q hq => (h2 x i o q hq).trans (h x i o q hq)
def GOi (w : WF) (x p : Nat) (tm : Int32) (n : Nat) (w' : WF) : Prop := fr9 w w' ∧ (∀ q, ¬ (x + 28 ≤ q ∧ q < x + 35) → ¬ (x + 42 ≤ q ∧ q < x + 46) → w' 9 0 1 q = w 9 0 1 q) ∧ (∀ q, q < 7 → w' 9 0 1 (x + 28 + q) = if q = p then tm else w 9 0 1 (x + 28 + q)) ∧ (∀ q, q < n → w' 9 0 1 (x + 42 + q) = if w 9 0 1 (x + 42 + q) = nI p then -1 else w 9 0 1 (x + 42 + q)) ∧ (∀ q, n ≤ q → w' 9 0 1 (x + 42 + q) = w 9 0 1 (x + 42 + q))
theorem GOi_0 (w : WF) (x p : Nat) (hp : p < 7) (tm : Int32) : GOi w x p tm 0 (u4 w 9 0 1 (x + 28 + p) tm) := by
  refine ⟨(fr9.rf w).u _ _, fun q h1 h2 => ?_, fun q hq => ?_, fun q hq => absurd hq (by omega), fun q _ => ?_⟩
  · rw [u4_k (by omega)]
  · rw [u4_at]
    by_cases e : q = p
    · subst e; simp
    · rw [if_neg (by omega), if_neg e]
  · rw [u4_k (by omega)]
theorem GOi_s {w w' : WF} {x p n : Nat} {tm v : Int32} (hn : n < 4) (h : GOi w x p tm n w') (hv : v = if w 9 0 1 (x + 42 + n) = nI p then -1 else w 9 0 1 (x + 42 + n)) : GOi w x p tm (n + 1) (u4 w' 9 0 1 (x + 42 + n) v) := by
  obtain ⟨h1, h2, h3, h4, h5⟩ := h
  refine ⟨h1.u _ _, fun q a b => ?_, fun q hq => ?_, fun q hq => ?_, fun q hq => ?_⟩
  · rw [u4_k (by omega)]; exact h2 q a b
  · rw [u4_k (by omega)]; exact h3 q hq
  · rw [u4_at]
    by_cases e : q = n
    · subst e; rw [if_pos rfl]; exact hv
    · rw [if_neg (by omega)]; exact h4 q (by omega)
  · rw [u4_k (by omega)]; exact h5 q (by omega)
set_option maxRecDepth 20000 in
theorem l_X9_goOff {l : Launch} {X : XT} {d Lz : Nat} {w : Nat → Nat → Nat → Nat → Int32} (x : Nat) (hx : x + 130 ≤ 4420) (p : Nat) (hp : p < 7) (tm : Int32) (no : Nat) (hno : w 9 0 0 7 = nI no) (hn4 : no ≤ 4) : ∀ (kk n : Nat), ∀ (wn : WF), GOi w x p tm n wn →  n ≤ no → no + 1 ≤ n + kk → WP l X (d + 1) md_X9_goOff (17, [some (.inr (.inr (9, 0, 0))), some (.inl (nI x)), some (.inl (nI p)), some (.inl (nI n))], [], mk Lz wn) (fun v M' => v = none ∧ ∃ w', M' = mk Lz w' ∧ GOi w x p tm no w') := by
  intro kk
  induction kk with
  | zero =>
    intro n wn hi h1 h2
    exact absurd h2 (by omega)
  | succ kk ih =>
    intro n wn hi hi1 hi2
    refine x_iload_n (pc' := 18) rfl rfl rfl (x_aload_n (pc' := 19) rfl rfl rfl (x_getI (pc' := 22) rfl rfl rfl ?_))
    rw [hi.1 9 0 0 7 (by omega), hno]
    refine x_icmp_geN (pc' := 25) rfl rfl (by omega) (by omega) (fun h22 => ?_) (fun h22 => ?_)
    · refine x_vret rfl rfl ?_
      have e : n = no := by omega
      subst e
      exact ⟨rfl, _, rfl, hi⟩
    · refine x_aload_n (pc' := 26) rfl rfl rfl (x_getR (pc' := 29) (t := (9, _, 1)) rfl rfl rfl (x_iload_n (pc' := 30) rfl rfl rfl (x_bipush (pc' := 32) rfl rfl (x_iaddN (pc' := 33) rfl rfl (x_iload_n (pc' := 34) rfl rfl rfl ?_)))))
      refine x_iaddN (pc' := 35) rfl rfl (x_aload_n (pc' := 36) rfl rfl rfl (x_getR (pc' := 39) (t := (9, _, 1)) rfl rfl rfl (x_iload_n (pc' := 40) rfl rfl rfl (x_bipush (pc' := 42) rfl rfl (x_iaddN (pc' := 43) rfl rfl ?_)))))
      refine x_iload_n (pc' := 44) rfl rfl rfl (x_iaddN (pc' := 45) rfl rfl (x_iald (pc' := 46) (N := 4420) rfl rfl rfl rfl (by first | assumption | omega) (by decide) ?_))
      rw [hi.2.2.2.2 n (Nat.le_refl n)]
      refine x_iload_n (pc' := 47) rfl rfl rfl ?_
      refine x_icmp_ne (pc' := 50) rfl rfl (fun h47 => ?_) (fun h47 => ?_)
      · refine x_iconst (pc' := 51) rfl rfl (x_goto rfl (x_iast (pc' := 66) (N := 4420) rfl rfl rfl (by decide) rfl (by first | assumption | omega) (by decide) (x_iinc3 (pc' := 69) rfl rfl rfl (nI_add _ _) (x_goto rfl ?_))))
        first | exact ih (n + 1) _ (GOi_s (by omega) hi (by rw [if_pos h47])) (by omega) (by omega) | exact ih (n + 1) _ (GOi_s (by omega) hi (by rw [if_neg h47])) (by omega) (by omega)
      · refine x_aload_n (pc' := 55) rfl rfl rfl (x_getR (pc' := 58) (t := (9, _, 1)) rfl rfl rfl (x_iload_n (pc' := 59) rfl rfl rfl (x_bipush (pc' := 61) rfl rfl (x_iaddN (pc' := 62) rfl rfl (x_iload_n (pc' := 63) rfl rfl rfl ?_)))))
        refine x_iaddN (pc' := 64) rfl rfl (x_iald (pc' := 65) (N := 4420) rfl rfl rfl rfl (by first | assumption | omega) (by decide) ?_)
        rw [hi.2.2.2.2 n (Nat.le_refl n)]
        refine x_iast (pc' := 66) (N := 4420) rfl rfl rfl (by decide) rfl (by first | assumption | omega) (by decide) (x_iinc3 (pc' := 69) rfl rfl rfl (nI_add _ _) (x_goto rfl ?_))
        first | exact ih (n + 1) _ (GOi_s (by omega) hi (by rw [if_pos h47])) (by omega) (by omega) | exact ih (n + 1) _ (GOi_s (by omega) hi (by rw [if_neg h47])) (by omega) (by omega)
set_option maxRecDepth 20000 in
theorem c_X9_goOff {l : Launch} {X : XT} {d Lz : Nat} {w : Nat → Nat → Nat → Nat → Int32} (x : Nat) (hx : x + 130 ≤ 4420) (p : Nat) (hp : p < 7) (no : Nat) (hno : w 9 0 0 7 = nI no) (hn4 : no ≤ 4) : WP l X (d + 1) md_X9_goOff (en md_X9_goOff [.inr (.inr (9, 0, 0)), .inl (nI x), .inl (nI p)] (mk Lz w)) (fun v M' => v = none ∧ ∃ w', M' = mk Lz w' ∧ GOi w x p (w 9 0 0 5) no w') := by
  show WP l X _ md_X9_goOff (0, [some (.inr (.inr (9, 0, 0))), some (.inl (nI x)), some (.inl (nI p)), none], [], _) _
  refine x_aload_n (pc' := 1) rfl rfl rfl (x_getR (pc' := 4) (t := (9, _, 1)) rfl rfl rfl (x_iload_n (pc' := 5) rfl rfl rfl (x_bipush (pc' := 7) rfl rfl (x_iaddN (pc' := 8) rfl rfl (x_iload_n (pc' := 9) rfl rfl rfl ?_)))))
  refine x_iaddN (pc' := 10) rfl rfl (x_aload_n (pc' := 11) rfl rfl rfl (x_getI (pc' := 14) rfl rfl rfl (x_iast (pc' := 15) (N := 4420) rfl rfl rfl (by decide) rfl (by first | assumption | omega) (by decide) (x_iconst (pc' := 16) rfl rfl (x_istore_n3 (pc' := 17) rfl rfl rfl ?_)))))
  exact l_X9_goOff x hx p hp (w 9 0 0 5) no hno hn4 (no + 1) 0 _ (GOi_0 w x p hp _) (by omega) (by omega)
set_option maxRecDepth 20000 in
theorem l_X9_least {l : Launch} {X : XT} {d : Nat} {M : Mem} (F : Nat → Bool) (np lp : Nat) (hn7 : np ≤ 7) (hl : lp < np) (hF : F lp = true) (hm : ∀ q, q < lp → F q = false) : ∀ (kk n : Nat),  n ≤ lp → lp + 1 ≤ n + kk → WP l X (d + 2) md_X9_least (2, [some (.inl (enc F np)), some (.inl (nI n))], [], M) (fun v M' => v = some (.inl (nI lp)) ∧ M' = M) := by
  intro kk
  induction kk with
  | zero =>
    intro n h1 h2
    exact absurd h2 (by omega)
  | succ kk ih =>
    intro n hi1 hi2
    refine x_iload_n (pc' := 3) rfl rfl rfl (x_iload_n (pc' := 4) rfl rfl rfl (x_invS2 (pc' := 7) rfl rfl rfl rfl rfl (c_X9_has _ _) ?_))
    rw [has_enc (by omega) (by omega)]
    refine x_if_ne (pc' := 10) rfl rfl (fun h7 => ?_) (fun h7 => ?_)
    · refine x_iinc1 (pc' := 13) rfl rfl rfl (nI_add _ _) (x_goto rfl ?_)
      have hlt : n < lp := by rcases Nat.lt_or_ge n lp with z | z; exact z; exact absurd (show F n = true by rw [show n = lp by omega]; exact hF) (by rw [bI_eq0.mp h7]; decide)
      exact ih (n + 1) (by omega) (by omega)
    · refine x_iload_n (pc' := 17) rfl rfl rfl ?_
      refine x_iret rfl rfl ?_
      exact rI (by rw [show n = lp by rcases Nat.lt_or_ge n lp with z | z; exact absurd (hm n z) (by rw [bq h7]; decide); omega])
set_option maxRecDepth 20000 in
theorem c_X9_least {l : Launch} {X : XT} {d : Nat} {M : Mem} (F : Nat → Bool) (np lp : Nat) (hn7 : np ≤ 7) (hl : lp < np) (hF : F lp = true) (hm : ∀ q, q < lp → F q = false) : CT l X (d + 2) md_X9_least [.inl (enc F np)] (M) (some (.inl (nI lp))) (M) := by
  show WP l X _ md_X9_least (0, [some (.inl (enc F np)), none], [], _) _
  refine x_iconst (pc' := 1) rfl rfl (x_istore_n1 (pc' := 2) rfl rfl rfl ?_)
  exact l_X9_least F np lp hn7 hl hF hm (lp + 1) 0 (by omega) (by omega)
theorem z0 {n : Nat} (h : nI n = 0) (h12 : n ≤ 12) : n = 0 := by
  rcases Nat.eq_zero_or_pos n with e | e
  · exact e
  · exact absurd h (nI_ne0 e (by omega))
theorem z1 {n : Nat} (h : ¬ nI n = 0) : ¬ n = 0 := fun e => h (by rw [e]; rfl)
set_option maxRecDepth 20000 in
theorem c_X9_kindOf {l : Launch} {X : XT} {d Lz : Nat} {w : Nat → Nat → Nat → Nat → Int32} (nt kk : Nat) (hnt : w 9 0 0 8 = nI nt) (h12 : nt ≤ 12) (hkk : kk < 2 ^ 31) : CT l X (d + 1) md_X9_kindOf [.inr (.inr (9, 0, 0)), .inl (nI kk)] (mk Lz w) (some (.inl (kdV (w 9 0 4) nt kk))) (mk Lz w) := by
  show WP l X _ md_X9_kindOf (0, [some (.inr (.inr (9, 0, 0))), some (.inl (nI kk))], [], _) _
  refine x_aload_n (pc' := 1) rfl rfl rfl (x_getI (pc' := 4) rfl rfl rfl ?_)
  rw [hnt]
  refine x_if_ne (pc' := 7) rfl rfl (fun h4 => ?_) (fun h4 => ?_)
  · refine x_iconst (pc' := 8) rfl rfl (x_goto rfl ?_)
    refine x_iret rfl rfl ?_
    exact rI (by unfold kdV; first | rw [if_pos (z0 h4 h12)] | rw [if_neg (z1 h4)])
  · refine x_aload_n (pc' := 12) rfl rfl rfl (x_getR (pc' := 15) (t := (9, _, 4)) rfl rfl rfl (x_iload_n (pc' := 16) rfl rfl rfl (x_aload_n (pc' := 17) rfl rfl rfl (x_getI (pc' := 20) rfl rfl rfl ?_))))
    rw [hnt]
    refine x_iremN (pc' := 21) rfl rfl (by have := z1 h4; omega) (by omega) (by omega) (x_iald (pc' := 22) (N := 12) rfl rfl rfl rfl (by have := Nat.mod_lt kk (show 0 < nt by have := z1 h4; omega); omega) (by decide) ?_)
    refine x_iret rfl rfl ?_
    exact rI (by unfold kdV; first | rw [if_pos (z0 h4 h12)] | rw [if_neg (z1 h4)])
def LSi (w : WF) (x n : Nat) (w' : WF) : Prop := fr9 w w' ∧ (∀ q, ¬ (x + 49 ≤ q ∧ q < x + 129) → w' 9 0 1 q = w 9 0 1 q) ∧ (∀ q, q + 4 < n → w' 9 0 1 (x + 49 + q) = w 9 0 1 (x + 49 + (q + 4))) ∧ (∀ q, n ≤ q + 4 → w' 9 0 1 (x + 49 + q) = w 9 0 1 (x + 49 + q))
theorem LSi_0 (w : WF) (x : Nat) : LSi w x 4 w := ⟨fr9.rf w, fun _ _ => rfl, fun q hq => absurd hq (by omega), fun _ _ => rfl⟩
theorem LSi_s {w w' : WF} {x n : Nat} (h4 : 4 ≤ n) (h80 : n < 80) (h : LSi w x n w') : LSi w x (n + 1) (u4 w' 9 0 1 (x + 49 + n - 4) (w' 9 0 1 (x + 49 + n))) := by
  obtain ⟨h1, h2, h3, h5⟩ := h
  refine ⟨h1.u _ _, fun q hq => ?_, fun q hq => ?_, fun q hq => ?_⟩
  · rw [u4_k (by omega)]; exact h2 q hq
  · rw [u4_at]
    by_cases e : q + 4 = n
    · rw [if_pos (by omega), h5 n (by omega)]; rw [← e]
    · rw [if_neg (by omega)]; exact h3 q (by omega)
  · rw [u4_k (by omega)]; exact h5 q (by omega)
/-- where a new entry goes: all entries, when there are 20 -/
def lcn (lc : Nat) : Nat := if lc = 20 then 19 else lc
/-- what an entry leaves -/
def LGM (w : WF) (x lc : Nat) (dy kd a b : Int32) (w' : WF) : Prop := fr9 w w' ∧ (∀ q, ¬ (x + 48 ≤ q ∧ q < x + 129) → w' 9 0 1 q = w 9 0 1 q) ∧ w' 9 0 1 (x + 48) = nI (lcn lc + 1) ∧ (∀ q, q < 4 * lcn lc → w' 9 0 1 (x + 49 + q) = w 9 0 1 (x + 49 + (if lc = 20 then q + 4 else q))) ∧ w' 9 0 1 (x + 49 + 4 * lcn lc) = dy ∧ w' 9 0 1 (x + 49 + (4 * lcn lc + 1)) = kd ∧ w' 9 0 1 (x + 49 + (4 * lcn lc + 2)) = a ∧ w' 9 0 1 (x + 49 + (4 * lcn lc + 3)) = b
theorem LGM_of {w wn : WF} {x lc : Nat} {dy kd a b : Int32} (hl : lc ≤ 20) (hf : fr9 w wn) (h48 : wn 9 0 1 (x + 48) = nI (lcn lc)) (hq : ∀ q, ¬ (x + 48 ≤ q ∧ q < x + 129) → wn 9 0 1 q = w 9 0 1 q) (he : ∀ q, q < 4 * lcn lc → wn 9 0 1 (x + 49 + q) = w 9 0 1 (x + 49 + (if lc = 20 then q + 4 else q))) : LGM w x lc dy kd a b (u4 (u4 (u4 (u4 (u4 wn 9 0 1 (x + 49 + 4 * lcn lc) dy) 9 0 1 (x + 49 + 4 * lcn lc + 1) kd) 9 0 1 (x + 49 + 4 * lcn lc + 2) a) 9 0 1 (x + 49 + 4 * lcn lc + 3) b) 9 0 1 (x + 48) (nI (lcn lc + 1))) := by
  have hc : lcn lc ≤ 19 := by unfold lcn; split <;> omega
  refine ⟨((((hf.u _ _).u _ _).u _ _).u _ _).u _ _, fun q h => ?_, u4_self _ _ _ _ _ _, fun q h => ?_, ?_, ?_, ?_, ?_⟩
  · rw [u4_k (by omega), u4_k (by omega), u4_k (by omega), u4_k (by omega), u4_k (by omega)]; exact hq q h
  · rw [u4_k (by omega), u4_k (by omega), u4_k (by omega), u4_k (by omega), u4_k (by omega)]; exact he q h
  · rw [u4_k (by omega), u4_k (by omega), u4_k (by omega), u4_k (by omega), u4_self]
  · rw [u4_k (by omega), u4_k (by omega), u4_k (by omega), show x + 49 + (4 * lcn lc + 1) = x + 49 + 4 * lcn lc + 1 by omega, u4_self]
  · rw [u4_k (by omega), u4_k (by omega), show x + 49 + (4 * lcn lc + 2) = x + 49 + 4 * lcn lc + 2 by omega, u4_self]
  · rw [u4_k (by omega), show x + 49 + (4 * lcn lc + 3) = x + 49 + 4 * lcn lc + 3 by omega, u4_self]
set_option maxRecDepth 20000 in
theorem r_X9_logIn {l : Launch} {X : XT} {d Lz : Nat} {w : Nat → Nat → Nat → Nat → Int32} (x : Nat) (hx : x + 130 ≤ 4420) (lc : Nat) (hlc : w 9 0 1 (x + 48) = nI lc) (hl : lc ≤ 20) (kd a b : Int32) (wn : WF) (hf : fr9 w wn) (h48 : wn 9 0 1 (x + 48) = nI (lcn lc)) (hq : ∀ q, ¬ (x + 48 ≤ q ∧ q < x + 129) → wn 9 0 1 q = w 9 0 1 q) (he : ∀ q, q < 4 * lcn lc → wn 9 0 1 (x + 49 + q) = w 9 0 1 (x + 49 + (if lc = 20 then q + 4 else q))) (z : Option AV) : WP l X (d + 1) md_X9_logIn (69, [some (.inr (.inr (9, 0, 0))), some (.inl (nI x)), some (.inl (kd)), some (.inl (a)), some (.inl (b)), z], [], mk Lz wn) (fun v M' => v = none ∧ ∃ w', M' = mk Lz w' ∧ LGM w x lc (w 9 0 1 (x + 47)) kd a b w') := by
  have hc : lcn lc ≤ 19 := by unfold lcn; split <;> omega
  refine x_iload_n (pc' := 70) rfl rfl rfl (x_bipush (pc' := 72) rfl rfl (x_iaddN (pc' := 73) rfl rfl (x_iconst (pc' := 74) rfl rfl (x_aload_n (pc' := 75) rfl rfl rfl (x_getR (pc' := 78) (t := (9, _, 1)) rfl rfl rfl ?_)))))
  refine x_iload_n (pc' := 79) rfl rfl rfl (x_bipush (pc' := 81) rfl rfl (x_iaddN (pc' := 82) rfl rfl (x_iald (pc' := 83) (N := 4420) rfl rfl rfl rfl (by first | assumption | omega) (by decide) ?_)))
  rw [h48]
  refine x_imulN (pc' := 84) rfl rfl (x_iaddN (pc' := 85) rfl rfl (x_istore5 (pc' := 87) rfl rfl rfl (x_aload_n (pc' := 88) rfl rfl rfl (x_getR (pc' := 91) (t := (9, _, 1)) rfl rfl rfl (x_iload (pc' := 93) rfl rfl rfl ?_)))))
  refine x_aload_n (pc' := 94) rfl rfl rfl (x_getR (pc' := 97) (t := (9, _, 1)) rfl rfl rfl (x_iload_n (pc' := 98) rfl rfl rfl (x_bipush (pc' := 100) rfl rfl (x_iaddN (pc' := 101) rfl rfl (x_iald (pc' := 102) (N := 4420) rfl rfl rfl rfl (by first | assumption | omega) (by decide) ?_)))))
  rw [hq (x + 47) (by omega)]
  refine x_iast (pc' := 103) (N := 4420) rfl rfl rfl (by decide) rfl (by first | assumption | omega) (by decide) (x_aload_n (pc' := 104) rfl rfl rfl (x_getR (pc' := 107) (t := (9, _, 1)) rfl rfl rfl (x_iload (pc' := 109) rfl rfl rfl (x_iconst (pc' := 110) rfl rfl (x_iaddN (pc' := 111) rfl rfl ?_)))))
  refine x_iload_n (pc' := 112) rfl rfl rfl (x_iast (pc' := 113) (N := 4420) rfl rfl rfl (by decide) rfl (by first | assumption | omega) (by decide) (x_aload_n (pc' := 114) rfl rfl rfl (x_getR (pc' := 117) (t := (9, _, 1)) rfl rfl rfl (x_iload (pc' := 119) rfl rfl rfl (x_iconst (pc' := 120) rfl rfl ?_)))))
  refine x_iaddN (pc' := 121) rfl rfl (x_iload_n (pc' := 122) rfl rfl rfl (x_iast (pc' := 123) (N := 4420) rfl rfl rfl (by decide) rfl (by first | assumption | omega) (by decide) (x_aload_n (pc' := 124) rfl rfl rfl (x_getR (pc' := 127) (t := (9, _, 1)) rfl rfl rfl (x_iload (pc' := 129) rfl rfl rfl ?_)))))
  refine x_iconst (pc' := 130) rfl rfl (x_iaddN (pc' := 131) rfl rfl (x_iload (pc' := 133) rfl rfl rfl (x_iast (pc' := 134) (N := 4420) rfl rfl rfl (by decide) rfl (by first | assumption | omega) (by decide) (x_aload_n (pc' := 135) rfl rfl rfl (x_getR (pc' := 138) (t := (9, _, 1)) rfl rfl rfl ?_)))))
  refine x_iload_n (pc' := 139) rfl rfl rfl (x_bipush (pc' := 141) rfl rfl (x_iaddN (pc' := 142) rfl rfl (x_dup2 (pc' := 143) rfl rfl rfl (x_iald (pc' := 144) (N := 4420) rfl rfl rfl rfl (by first | assumption | omega) (by decide) ?_))))
  rw [u4_k (by omega), u4_k (by omega), u4_k (by omega), u4_k (by omega), h48]
  refine x_iconst (pc' := 145) rfl rfl (x_iaddN (pc' := 146) rfl rfl (x_iast (pc' := 147) (N := 4420) rfl rfl rfl (by decide) rfl (by first | assumption | omega) (by decide) ?_))
  refine x_vret rfl rfl ?_
  exact ⟨rfl, _, rfl, LGM_of hl hf h48 hq he⟩
set_option maxRecDepth 20000 in
theorem l_X9_logIn {l : Launch} {X : XT} {d Lz : Nat} {w : Nat → Nat → Nat → Nat → Int32} (x : Nat) (hx : x + 130 ≤ 4420) (lc : Nat) (hlc : w 9 0 1 (x + 48) = nI lc) (hl : lc ≤ 20) (kd a b : Int32) (h20 : lc = 20) : ∀ (kk n : Nat), ∀ (wn : WF), LSi w x n wn → 4 ≤ n →  n ≤ 80 → 80 + 1 ≤ n + kk → WP l X (d + 1) md_X9_logIn (17, [some (.inr (.inr (9, 0, 0))), some (.inl (nI x)), some (.inl (kd)), some (.inl (a)), some (.inl (b)), some (.inl (nI n))], [], mk Lz wn) (fun v M' => v = none ∧ ∃ w', M' = mk Lz w' ∧ LGM w x lc (w 9 0 1 (x + 47)) kd a b w') := by
  intro kk
  induction kk with
  | zero =>
    intro n wn hi h4 h1 h2
    exact absurd h2 (by omega)
  | succ kk ih =>
    intro n wn hi h4 hi1 hi2
    refine x_iload (pc' := 19) rfl rfl rfl (x_bipush (pc' := 21) rfl rfl ?_)
    refine x_icmp_geN (pc' := 24) rfl rfl (by omega) (by omega) (fun h21 => ?_) (fun h21 => ?_)
    · refine x_aload_n (pc' := 57) rfl rfl rfl (x_getR (pc' := 60) (t := (9, _, 1)) rfl rfl rfl (x_iload_n (pc' := 61) rfl rfl rfl (x_bipush (pc' := 63) rfl rfl (x_iaddN (pc' := 64) rfl rfl (x_dup2 (pc' := 65) rfl rfl rfl ?_)))))
      refine x_iald (pc' := 66) (N := 4420) rfl rfl rfl rfl (by first | assumption | omega) (by decide) ?_
      rw [hi.2.1 (x + 48) (by omega), show w 9 0 1 (x + 48) = nI 20 by rw [hlc, h20]]
      refine x_iconst (pc' := 67) rfl rfl (x_isubN (pc' := 68) rfl rfl (by first | assumption | omega) (x_iast (pc' := 69) (N := 4420) rfl rfl rfl (by decide) rfl (by first | assumption | omega) (by decide) ?_))
      have e : n = 80 := by omega
      subst e
      have hcn : lcn lc = 19 := by unfold lcn; rw [if_pos h20]
      refine r_X9_logIn x hx lc hlc hl kd a b _ (hi.1.u _ _) (by rw [u4_self, hcn]) (fun q h => ?_) (fun q h => ?_) _
      · rw [u4_k (by omega)]; exact hi.2.1 q (by omega)
      · rw [u4_k (by omega), if_pos h20]; exact hi.2.2.1 q (by omega)
    · refine x_aload_n (pc' := 25) rfl rfl rfl (x_getR (pc' := 28) (t := (9, _, 1)) rfl rfl rfl (x_iload_n (pc' := 29) rfl rfl rfl (x_bipush (pc' := 31) rfl rfl (x_iaddN (pc' := 32) rfl rfl (x_iload (pc' := 34) rfl rfl rfl ?_)))))
      refine x_iaddN (pc' := 35) rfl rfl (x_iconst (pc' := 36) rfl rfl (x_isubN (pc' := 37) rfl rfl (by first | assumption | omega) (x_aload_n (pc' := 38) rfl rfl rfl (x_getR (pc' := 41) (t := (9, _, 1)) rfl rfl rfl (x_iload_n (pc' := 42) rfl rfl rfl ?_)))))
      refine x_bipush (pc' := 44) rfl rfl (x_iaddN (pc' := 45) rfl rfl (x_iload (pc' := 47) rfl rfl rfl (x_iaddN (pc' := 48) rfl rfl (x_iald (pc' := 49) (N := 4420) rfl rfl rfl rfl (by first | assumption | omega) (by decide) (x_iast (pc' := 50) (N := 4420) rfl rfl rfl (by decide) rfl (by first | assumption | omega) (by decide) ?_)))))
      refine x_iinc5 (pc' := 53) rfl rfl rfl (nI_add _ _) (x_goto rfl ?_)
      exact ih (n + 1) _ (LSi_s (by omega) (by omega) hi) (by omega) (by omega) (by omega)
set_option maxRecDepth 20000 in
theorem c_X9_logIn {l : Launch} {X : XT} {d Lz : Nat} {w : Nat → Nat → Nat → Nat → Int32} (x : Nat) (hx : x + 130 ≤ 4420) (lc : Nat) (hlc : w 9 0 1 (x + 48) = nI lc) (hl : lc ≤ 20) (kd a b : Int32) : WP l X (d + 1) md_X9_logIn (en md_X9_logIn [.inr (.inr (9, 0, 0)), .inl (nI x), .inl (kd), .inl (a), .inl (b)] (mk Lz w)) (fun v M' => v = none ∧ ∃ w', M' = mk Lz w' ∧ LGM w x lc (w 9 0 1 (x + 47)) kd a b w') := by
  show WP l X _ md_X9_logIn (0, [some (.inr (.inr (9, 0, 0))), some (.inl (nI x)), some (.inl (kd)), some (.inl (a)), some (.inl (b)), none], [], _) _
  refine x_aload_n (pc' := 1) rfl rfl rfl (x_getR (pc' := 4) (t := (9, _, 1)) rfl rfl rfl (x_iload_n (pc' := 5) rfl rfl rfl (x_bipush (pc' := 7) rfl rfl (x_iaddN (pc' := 8) rfl rfl (x_iald (pc' := 9) (N := 4420) rfl rfl rfl rfl (by first | assumption | omega) (by decide) ?_)))))
  rw [hlc]
  refine x_bipush (pc' := 11) rfl rfl ?_
  refine x_icmp_neN (pc' := 14) rfl rfl (by omega) (by omega) (fun h11 => ?_) (fun h11 => ?_)
  · refine x_iconst (pc' := 15) rfl rfl (x_istore5 (pc' := 17) rfl rfl rfl ?_)
    exact l_X9_logIn x hx lc hlc hl kd a b h11 80 4 _ (LSi_0 w x) (by omega) (by omega) (by omega)
  · have hcn : lcn lc = lc := by unfold lcn; rw [if_neg h11]
    exact r_X9_logIn x hx lc hlc hl kd a b w (fr9.rf w) (by rw [hcn]; exact hlc) (fun _ _ => rfl) (fun q _ => by rw [if_neg h11]) _
