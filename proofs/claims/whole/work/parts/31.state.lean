/-! what methods answer, in words of our own -/
def oI : Option Nat → Int32
  | none => -1
  | some p => nI p
theorem nI_ne1 {n : Nat} (h : n < 2 ^ 31) : ¬ nI n = -1 := by
  intro e
  have h1 := nI_toInt h
  rw [e] at h1
  have h2 : (-1 : Int32).toInt = -1 := by decide
  omega
theorem oI_none {a : Option Nat} (h : ∀ p, a = some p → p < 2 ^ 31) : oI a = -1 ↔ a = none := by
  cases a with
  | none => exact ⟨fun _ => rfl, fun _ => rfl⟩
  | some p => exact ⟨fun e => absurd e (nI_ne1 (h p rfl)), fun e => by cases e⟩
/-- a set as an int -/
def enc (f : Nat → Bool) : Nat → Int32
  | 0 => nI 0
  | n + 1 => bif f n then enc f n ||| (nI 1 <<< (nI n &&& 31)) else enc f n
theorem enc_congr {f g : Nat → Bool} : ∀ n, (∀ p, p < n → f p = g p) → enc f n = enc g n
  | 0, _ => rfl
  | n + 1, h => by
    show (bif f n then _ else _) = (bif g n then _ else _)
    rw [h n (by omega), enc_congr n (fun p hp => h p (by omega))]
theorem enc_t {f : Nat → Bool} {n : Nat} (h : f n = true) : enc f n ||| (nI 1 <<< (nI n &&& 31)) = enc f (n + 1) := by
  show _ = (bif f n then _ else _)
  rw [h]; rfl
theorem enc_f {f : Nat → Bool} {n : Nat} (h : f n = false) : enc f n = enc f (n + 1) := by
  show _ = (bif f n then _ else _)
  rw [h]; rfl
def mkV (g e dr : Nat → Int32) (rn : Int32) (k p : Nat) : Int32 := g (p * 3 + k) * e p + (if rn = 0 then dr p else dr p / nI 2)
def kdV (f : Nat → Int32) (nt kk : Nat) : Int32 := if nt = 0 then nI 0 else f (kk % nt)
theorem dT {p : Prop} [Decidable p] (h : p) : decide p = true := decide_eq_true h
theorem dF {p : Prop} [Decidable p] (h : ¬ p) : decide p = false := decide_eq_false h
theorem rI {x y : Int32} {M : Mem} (h : x = y) : some (Sum.inl x) = (some (Sum.inl y) : Option AV) ∧ M = M := ⟨by rw [h], rfl⟩
theorem rM {x y : Int32} {M M1 : Mem} (h : x = y) (h2 : M = M1) : some (Sum.inl x) = (some (Sum.inl y) : Option AV) ∧ M = M1 := ⟨by rw [h], h2⟩
theorem WPc {l : Launch} {X : XT} {d : Nat} {md : MD} {pc : Nat} {L L' : List (Option AV)} {st : List AV} {M M' : Mem} {Q : Option AV → Mem → Prop} (h : WP l X d md (pc, L', st, M') Q) (e1 : L = L') (e2 : M = M') : WP l X d md (pc, L, st, M) Q := by rw [e1, e2]; exact h
set_option maxRecDepth 20000 in
theorem c_X6_giftOf {l : Launch} {X : XT} {d Lz : Nat} {w : Nat → Nat → Nat → Nat → Int32} (i p k : Nat) (hk : p * 3 + k < 21) : CT l X (d + 1) md_X6_giftOf [.inr (.inr (6, i, 0)), .inl (nI p), .inl (nI k)] (mk Lz w) (some (.inl (w 6 i 1 (p * 3 + k)))) (mk Lz w) := by
  show WP l X _ md_X6_giftOf (0, [some (.inr (.inr (6, i, 0))), some (.inl (nI p)), some (.inl (nI k))], [], _) _
  refine x_aload_n (pc' := 1) rfl rfl rfl (x_getR (pc' := 4) (t := (6, _, 1)) rfl rfl rfl (x_iload_n (pc' := 5) rfl rfl rfl (x_iconst (pc' := 6) rfl rfl (x_imulN (pc' := 7) rfl rfl (x_iload_n (pc' := 8) rfl rfl rfl ?_)))))
  refine x_iaddN (pc' := 9) rfl rfl (x_iald (pc' := 10) (N := 21) rfl rfl rfl rfl (by first | assumption | omega) (by decide) ?_)
  refine x_iret rfl rfl ?_
  exact rI rfl
set_option maxRecDepth 20000 in
theorem c_X6_setGift {l : Launch} {X : XT} {d Lz : Nat} {w : Nat → Nat → Nat → Nat → Int32} (i p k : Nat) (v : Int32) (hk : p * 3 + k < 21) : CT l X (d + 1) md_X6_setGift [.inr (.inr (6, i, 0)), .inl (nI p), .inl (nI k), .inl (v)] (mk Lz w) (none) (mk Lz (u4 w 6 i 1 (p * 3 + k) v)) := by
  show WP l X _ md_X6_setGift (0, [some (.inr (.inr (6, i, 0))), some (.inl (nI p)), some (.inl (nI k)), some (.inl (v))], [], _) _
  refine x_aload_n (pc' := 1) rfl rfl rfl (x_getR (pc' := 4) (t := (6, _, 1)) rfl rfl rfl (x_iload_n (pc' := 5) rfl rfl rfl (x_iconst (pc' := 6) rfl rfl (x_imulN (pc' := 7) rfl rfl (x_iload_n (pc' := 8) rfl rfl rfl ?_)))))
  refine x_iaddN (pc' := 9) rfl rfl (x_iload_n (pc' := 10) rfl rfl rfl (x_iast (pc' := 11) (N := 21) rfl rfl rfl (by decide) rfl (by first | assumption | omega) (by decide) ?_))
  refine x_vret rfl rfl ?_
  exact ⟨rfl, rfl⟩
set_option maxRecDepth 20000 in
theorem c_X6_isAtCourt {l : Launch} {X : XT} {d Lz : Nat} {w : Nat → Nat → Nat → Nat → Int32} (i p : Nat) (hp : p < 7) : CT l X (d + 1) md_X6_isAtCourt [.inr (.inr (6, i, 0)), .inl (nI p)] (mk Lz w) (some (.inl (bI (decide (w 6 i 3 p = 0))))) (mk Lz w) := by
  show WP l X _ md_X6_isAtCourt (0, [some (.inr (.inr (6, i, 0))), some (.inl (nI p))], [], _) _
  refine x_aload_n (pc' := 1) rfl rfl rfl (x_getR (pc' := 4) (t := (6, _, 3)) rfl rfl rfl (x_iload_n (pc' := 5) rfl rfl rfl (x_iald (pc' := 6) (N := 7) rfl rfl rfl rfl (by first | assumption | omega) (by decide) ?_)))
  refine x_if_ne (pc' := 9) rfl rfl (fun h6 => ?_) (fun h6 => ?_)
  · refine x_iconst (pc' := 10) rfl rfl (x_goto rfl ?_)
    refine x_zret rfl rfl (by decide) ?_
    first | exact rI (bI_t (dT h6)).symm | exact rI (bI_f (dF h6)).symm
  · refine x_iconst (pc' := 14) rfl rfl ?_
    refine x_zret rfl rfl (by decide) ?_
    first | exact rI (bI_t (dT h6)).symm | exact rI (bI_f (dF h6)).symm
def cC (w : Nat → Nat → Nat → Nat → Int32) (i : Nat) : Nat → Bool := fun p => decide (w 6 i 3 p = 0)
theorem bq {b : Bool} (h : ¬ bI b = 0) : b = true := by
  cases b
  · exact absurd rfl h
  · rfl
set_option maxRecDepth 20000 in
theorem l_X6_courtOf {l : Launch} {X : XT} {d Lz : Nat} {w : Nat → Nat → Nat → Nat → Int32} (i : Nat) (j np : Nat) (hnp : w 4 j 0 6 = nI np) (hn7 : np ≤ 7) : ∀ (k n : Nat),  n ≤ np → np + 1 ≤ n + k → WP l X (d + 2) md_X6_courtOf (4, [some (.inr (.inr (6, i, 0))), some (.inr (.inr (4, j, 0))), some (.inl (enc (cC w i) n)), some (.inl (nI n))], [], mk Lz w) (fun v M' => v = some (.inl (enc (cC w i) np)) ∧ M' = mk Lz w) := by
  intro k
  induction k with
  | zero =>
    intro n h1 h2
    exact absurd h2 (by omega)
  | succ k ih =>
    intro n hi1 hi2
    refine x_iload_n (pc' := 5) rfl rfl rfl (x_aload_n (pc' := 6) rfl rfl rfl (x_getI (pc' := 9) rfl rfl rfl ?_))
    rw [hnp]
    refine x_icmp_geN (pc' := 12) rfl rfl (by omega) (by omega) (fun h9 => ?_) (fun h9 => ?_)
    · refine x_iload_n (pc' := 33) rfl rfl rfl ?_
      refine x_iret rfl rfl ?_
      have e : n = np := by omega
      subst e
      exact rI rfl
    · refine x_aload_n (pc' := 13) rfl rfl rfl (x_iload_n (pc' := 14) rfl rfl rfl (x_invI2 (pc' := 17) rfl rfl rfl rfl (c_X6_isAtCourt _ _ (by omega)) ?_))
      refine x_if_eq (pc' := 20) rfl rfl (fun h17 => ?_) (fun h17 => ?_)
      · refine x_iinc3 (pc' := 29) rfl rfl rfl (nI_add _ _) (x_goto rfl ?_)
        exact WPc (ih (n + 1) (by omega) (by omega)) (by first | rw [← enc_t (bq h17)] | rw [← enc_f (bI_eq0.mp h17)]) rfl
      · refine x_iload_n (pc' := 21) rfl rfl rfl (x_iconst (pc' := 22) rfl rfl (x_iload_n (pc' := 23) rfl rfl rfl (x_ishl (pc' := 24) rfl rfl (x_ior (pc' := 25) rfl rfl (x_istore_n2 (pc' := 26) rfl rfl rfl ?_)))))
        refine x_iinc3 (pc' := 29) rfl rfl rfl (nI_add _ _) (x_goto rfl ?_)
        exact WPc (ih (n + 1) (by omega) (by omega)) (by first | rw [← enc_t (bq h17)] | rw [← enc_f (bI_eq0.mp h17)]) rfl
set_option maxRecDepth 20000 in
theorem c_X6_courtOf {l : Launch} {X : XT} {d Lz : Nat} {w : Nat → Nat → Nat → Nat → Int32} (i : Nat) (j np : Nat) (hnp : w 4 j 0 6 = nI np) (hn7 : np ≤ 7) : CT l X (d + 2) md_X6_courtOf [.inr (.inr (6, i, 0)), .inr (.inr (4, j, 0))] (mk Lz w) (some (.inl (enc (cC w i) np))) (mk Lz w) := by
  show WP l X _ md_X6_courtOf (0, [some (.inr (.inr (6, i, 0))), some (.inr (.inr (4, j, 0))), none, none], [], _) _
  refine x_iconst (pc' := 1) rfl rfl (x_istore_n2 (pc' := 2) rfl rfl rfl (x_iconst (pc' := 3) rfl rfl (x_istore_n3 (pc' := 4) rfl rfl rfl ?_)))
  exact l_X6_courtOf i j np hnp hn7 (np + 1) 0 (by omega) (by omega)
def hC (w : Nat → Nat → Nat → Nat → Int32) (i : Nat) (h : Int32) : Nat → Bool := fun p => decide (w 6 i 5 p = h)
set_option maxRecDepth 20000 in
theorem l_X6_officesOf {l : Launch} {X : XT} {d Lz : Nat} {w : Nat → Nat → Nat → Nat → Int32} (i : Nat) (h : Int32) (j no : Nat) (hno : w 4 j 0 8 = nI no) (hn4 : no ≤ 4) : ∀ (k n : Nat),  n ≤ no → no + 1 ≤ n + k → WP l X (d + 1) md_X6_officesOf (5, [some (.inr (.inr (6, i, 0))), some (.inr (.inr (4, j, 0))), some (.inl (h)), some (.inl (enc (hC w i h) n)), some (.inl (nI n))], [], mk Lz w) (fun v M' => v = some (.inl (enc (hC w i h) no)) ∧ M' = mk Lz w) := by
  intro k
  induction k with
  | zero =>
    intro n h1 h2
    exact absurd h2 (by omega)
  | succ k ih =>
    intro n hi1 hi2
    refine x_iload (pc' := 7) rfl rfl rfl (x_aload_n (pc' := 8) rfl rfl rfl (x_getI (pc' := 11) rfl rfl rfl ?_))
    rw [hno]
    refine x_icmp_geN (pc' := 14) rfl rfl (by omega) (by omega) (fun h11 => ?_) (fun h11 => ?_)
    · refine x_iload_n (pc' := 39) rfl rfl rfl ?_
      refine x_iret rfl rfl ?_
      have e : n = no := by omega
      subst e
      exact rI rfl
    · refine x_aload_n (pc' := 15) rfl rfl rfl (x_getR (pc' := 18) (t := (6, _, 5)) rfl rfl rfl (x_iload (pc' := 20) rfl rfl rfl (x_iald (pc' := 21) (N := 4) rfl rfl rfl rfl (by first | assumption | omega) (by decide) (x_iload_n (pc' := 22) rfl rfl rfl ?_))))
      refine x_icmp_ne (pc' := 25) rfl rfl (fun h22 => ?_) (fun h22 => ?_)
      · refine x_iload_n (pc' := 26) rfl rfl rfl (x_iconst (pc' := 27) rfl rfl (x_iload (pc' := 29) rfl rfl rfl (x_ishl (pc' := 30) rfl rfl (x_ior (pc' := 31) rfl rfl (x_istore_n3 (pc' := 32) rfl rfl rfl ?_)))))
        refine x_iinc4 (pc' := 35) rfl rfl rfl (nI_add _ _) (x_goto rfl ?_)
        exact WPc (ih (n + 1) (by omega) (by omega)) (by first | rw [← enc_t (dT h22)] | rw [← enc_f (dF h22)]) rfl
      · refine x_iinc4 (pc' := 35) rfl rfl rfl (nI_add _ _) (x_goto rfl ?_)
        exact WPc (ih (n + 1) (by omega) (by omega)) (by first | rw [← enc_t (dT h22)] | rw [← enc_f (dF h22)]) rfl
set_option maxRecDepth 20000 in
theorem c_X6_officesOf {l : Launch} {X : XT} {d Lz : Nat} {w : Nat → Nat → Nat → Nat → Int32} (i : Nat) (h : Int32) (j no : Nat) (hno : w 4 j 0 8 = nI no) (hn4 : no ≤ 4) : CT l X (d + 1) md_X6_officesOf [.inr (.inr (6, i, 0)), .inr (.inr (4, j, 0)), .inl (h)] (mk Lz w) (some (.inl (enc (hC w i h) no))) (mk Lz w) := by
  show WP l X _ md_X6_officesOf (0, [some (.inr (.inr (6, i, 0))), some (.inr (.inr (4, j, 0))), some (.inl (h)), none, none], [], _) _
  refine x_iconst (pc' := 1) rfl rfl (x_istore_n3 (pc' := 2) rfl rfl rfl (x_iconst (pc' := 3) rfl rfl (x_istore4 (pc' := 5) rfl rfl rfl ?_)))
  exact l_X6_officesOf i h j no hno hn4 (no + 1) 0 (by omega) (by omega)
def mC (w : Nat → Nat → Nat → Nat → Int32) (i j k : Nat) : Nat → Int32 := mkV (w 6 i 1) (w 6 i 2) (w 4 j 2) (w 6 i 0 8) k
set_option maxRecDepth 20000 in
theorem c_X6_markOf {l : Launch} {X : XT} {d Lz : Nat} {w : Nat → Nat → Nat → Nat → Int32} (i j p k : Nat) (hp : p < 7) (hk : k < 3) : CT l X (d + 2) md_X6_markOf [.inr (.inr (6, i, 0)), .inr (.inr (4, j, 0)), .inl (nI p), .inl (nI k)] (mk Lz w) (some (.inl (mC w i j k p))) (mk Lz w) := by
  show WP l X _ md_X6_markOf (0, [some (.inr (.inr (6, i, 0))), some (.inr (.inr (4, j, 0))), some (.inl (nI p)), some (.inl (nI k)), none], [], _) _
  refine x_aload_n (pc' := 1) rfl rfl rfl (x_getR (pc' := 4) (t := (4, _, 2)) rfl rfl rfl (x_iload_n (pc' := 5) rfl rfl rfl (x_iald (pc' := 6) (N := 7) rfl rfl rfl rfl (by first | assumption | omega) (by decide) (x_istore4 (pc' := 8) rfl rfl rfl (x_aload_n (pc' := 9) rfl rfl rfl ?_)))))
  refine x_iload_n (pc' := 10) rfl rfl rfl (x_iload_n (pc' := 11) rfl rfl rfl (x_invI3 (pc' := 14) rfl rfl rfl rfl rfl (c_X6_giftOf _ _ _ (by omega)) ?_))
  refine x_aload_n (pc' := 15) rfl rfl rfl (x_getR (pc' := 18) (t := (6, _, 2)) rfl rfl rfl (x_iload_n (pc' := 19) rfl rfl rfl (x_iald (pc' := 20) (N := 7) rfl rfl rfl rfl (by first | assumption | omega) (by decide) (x_imul (pc' := 21) rfl rfl (x_aload_n (pc' := 22) rfl rfl rfl ?_)))))
  refine x_getI (pc' := 25) rfl rfl rfl ?_
  refine x_if_eq (pc' := 28) rfl rfl (fun h25 => ?_) (fun h25 => ?_)
  · refine x_iload (pc' := 37) rfl rfl rfl (x_iadd (pc' := 38) rfl rfl ?_)
    refine x_iret rfl rfl ?_
    exact rI (by unfold mC mkV; first | rw [if_pos h25] | rw [if_neg h25])
  · refine x_iload (pc' := 30) rfl rfl rfl (x_iconst (pc' := 31) rfl rfl (x_idivE (pc' := 32) rfl rfl (by decide) rfl (x_goto rfl (x_iadd (pc' := 38) rfl rfl ?_))))
    refine x_iret rfl rfl ?_
    exact rI (by unfold mC mkV; first | rw [if_pos h25] | rw [if_neg h25])
set_option maxRecDepth 20000 in
theorem c_X4_isThere {l : Launch} {X : XT} {d Lz : Nat} {w : Nat → Nat → Nat → Nat → Int32} (j : Nat) : CT l X (d + 1) md_X4_isThere [.inr (.inr (4, j, 0))] (mk Lz w) (some (.inl (bI (decide (¬ w 4 j 0 4 = -1))))) (mk Lz w) := by
  show WP l X _ md_X4_isThere (0, [some (.inr (.inr (4, j, 0)))], [], _) _
  refine x_aload_n (pc' := 1) rfl rfl rfl (x_getI (pc' := 4) rfl rfl rfl (x_iconst (pc' := 5) rfl rfl ?_))
  refine x_icmp_eq (pc' := 8) rfl rfl (fun h5 => ?_) (fun h5 => ?_)
  · refine x_iconst (pc' := 13) rfl rfl ?_
    refine x_zret rfl rfl (by decide) ?_
    first | exact rI (bI_f (by simp [h5])).symm | exact rI (bI_t (by simp [h5])).symm
  · refine x_iconst (pc' := 9) rfl rfl (x_goto rfl ?_)
    refine x_zret rfl rfl (by decide) ?_
    first | exact rI (bI_f (by simp [h5])).symm | exact rI (bI_t (by simp [h5])).symm
set_option maxRecDepth 20000 in
theorem c_X4_kindOfDay {l : Launch} {X : XT} {d Lz : Nat} {w : Nat → Nat → Nat → Nat → Int32} (j nt kk : Nat) (hnt : w 4 j 0 7 = nI nt) (h12 : nt ≤ 12) (hkk : kk < 2 ^ 31) : CT l X (d + 1) md_X4_kindOfDay [.inr (.inr (4, j, 0)), .inl (nI kk)] (mk Lz w) (some (.inl (kdV (w 4 j 3) nt kk))) (mk Lz w) := by
  show WP l X _ md_X4_kindOfDay (0, [some (.inr (.inr (4, j, 0))), some (.inl (nI kk))], [], _) _
  refine x_aload_n (pc' := 1) rfl rfl rfl (x_getI (pc' := 4) rfl rfl rfl ?_)
  rw [hnt]
  refine x_iconst (pc' := 5) rfl rfl ?_
  refine x_icmp_geN (pc' := 8) rfl rfl (by omega) (by omega) (fun h5 => ?_) (fun h5 => ?_)
  · refine x_aload_n (pc' := 13) rfl rfl rfl (x_getR (pc' := 16) (t := (4, _, 3)) rfl rfl rfl (x_iload_n (pc' := 17) rfl rfl rfl (x_aload_n (pc' := 18) rfl rfl rfl (x_getI (pc' := 21) rfl rfl rfl ?_))))
    rw [hnt]
    refine x_iremN (pc' := 22) rfl rfl (by omega) (by omega) (by omega) (x_iald (pc' := 23) (N := 12) rfl rfl rfl rfl (by have := Nat.mod_lt kk (show 0 < nt by omega); omega) (by decide) ?_)
    refine x_iret rfl rfl ?_
    exact rI (by unfold kdV; first | rw [if_pos (by omega)] | rw [if_neg (by omega)])
  · refine x_iconst (pc' := 9) rfl rfl (x_goto rfl ?_)
    refine x_iret rfl rfl ?_
    exact rI (by unfold kdV; first | rw [if_pos (by omega)] | rw [if_neg (by omega)])
set_option maxRecDepth 20000 in
theorem c_X4_clear {l : Launch} {X : XT} {d Lz : Nat} {w : Nat → Nat → Nat → Nat → Int32} (j : Nat) : CT l X (d + 1) md_X4_clear [.inr (.inr (4, j, 0))] (mk Lz w) (none) (mk Lz (u4 (u4 (u4 (u4 (u4 w 4 j 0 4 (-1)) 4 j 0 5 (nI 0)) 4 j 0 6 (nI 0)) 4 j 0 7 (nI 0)) 4 j 0 8 (nI 0))) := by
  show WP l X _ md_X4_clear (0, [some (.inr (.inr (4, j, 0)))], [], _) _
  refine x_aload_n (pc' := 1) rfl rfl rfl (x_iconst (pc' := 2) rfl rfl (x_putI (pc' := 5) rfl rfl rfl (x_aload_n (pc' := 6) rfl rfl rfl (x_iconst (pc' := 7) rfl rfl (x_putI (pc' := 10) rfl rfl rfl ?_)))))
  refine x_aload_n (pc' := 11) rfl rfl rfl (x_iconst (pc' := 12) rfl rfl (x_putI (pc' := 15) rfl rfl rfl (x_aload_n (pc' := 16) rfl rfl rfl (x_iconst (pc' := 17) rfl rfl (x_putI (pc' := 20) rfl rfl rfl ?_)))))
  refine x_aload_n (pc' := 21) rfl rfl rfl (x_iconst (pc' := 22) rfl rfl (x_putI (pc' := 25) rfl rfl rfl ?_))
  refine x_vret rfl rfl ?_
  exact ⟨rfl, rfl⟩
