/-! the reference: contests -/
def cM (w : WF) (x : Nat) : Nat → Bool := fun p => decide (w 9 0 1 (x + 28 + p) = 0)
def mM (w : WF) (x k : Nat) : Nat → Int32 := mkV (fun q => w 9 0 1 (x + q)) (fun p => w 9 0 1 (x + 21 + p)) (w 9 0 2) (w 9 0 1 (x + 46)) k
theorem i3 (x p k : Nat) : x + 3 * p + k = x + (p * 3 + k) := by omega
theorem mM_ret1 {w : WF} {x k p : Nat} (hr : w 9 0 1 (x + 46) = 0 ∨ w 9 0 1 (x + 46) = nI 1) (h : w 9 0 1 (x + 46) = nI 1) : w 9 0 1 (x + 3 * p + k) * w 9 0 1 (x + 21 + p) + w 9 0 2 p / nI 2 = mM w x k p := by
  unfold mM mkV
  rw [i3, h, if_neg (by decide)]
theorem mM_ret2 {w : WF} {x k p : Nat} (hr : w 9 0 1 (x + 46) = 0 ∨ w 9 0 1 (x + 46) = nI 1) (h : ¬ w 9 0 1 (x + 46) = nI 1) : w 9 0 1 (x + 3 * p + k) * w 9 0 1 (x + 21 + p) + w 9 0 2 p = mM w x k p := by
  unfold mM mkV
  rcases hr with e | e
  · rw [i3, e, if_pos rfl]
  · exact absurd e h
set_option maxRecDepth 20000 in
theorem c_X9_markIn {l : Launch} {X : XT} {d Lz : Nat} {w : Nat → Nat → Nat → Nat → Int32} (x : Nat) (hx : x + 130 ≤ 4420) (p k : Nat) (hp : p < 7) (hk : k < 3) (hr : w 9 0 1 (x + 46) = 0 ∨ w 9 0 1 (x + 46) = nI 1) : CT l X (d + 1) md_X9_markIn [.inr (.inr (9, 0, 0)), .inl (nI x), .inl (nI p), .inl (nI k)] (mk Lz w) (some (.inl (mM w x k p))) (mk Lz w) := by
  show WP l X _ md_X9_markIn (0, [some (.inr (.inr (9, 0, 0))), some (.inl (nI x)), some (.inl (nI p)), some (.inl (nI k)), none], [], _) _
  refine x_aload_n (pc' := 1) rfl rfl rfl (x_getR (pc' := 4) (t := (9, _, 1)) rfl rfl rfl (x_iload_n (pc' := 5) rfl rfl rfl (x_bipush (pc' := 7) rfl rfl (x_iaddN (pc' := 8) rfl rfl (x_iald (pc' := 9) (N := 4420) rfl rfl rfl rfl (by first | assumption | omega) (by decide) ?_)))))
  refine x_iconst (pc' := 10) rfl rfl ?_
  refine x_icmp_ne (pc' := 13) rfl rfl (fun h10 => ?_) (fun h10 => ?_)
  · refine x_aload_n (pc' := 14) rfl rfl rfl (x_getR (pc' := 17) (t := (9, _, 2)) rfl rfl rfl (x_iload_n (pc' := 18) rfl rfl rfl (x_iald (pc' := 19) (N := 7) rfl rfl rfl rfl (by first | assumption | omega) (by decide) (x_iconst (pc' := 20) rfl rfl (x_idivE (pc' := 21) rfl rfl (by decide) rfl ?_)))))
    refine x_goto rfl (x_istore4 (pc' := 32) rfl rfl rfl (x_aload_n (pc' := 33) rfl rfl rfl (x_getR (pc' := 36) (t := (9, _, 1)) rfl rfl rfl (x_iload_n (pc' := 37) rfl rfl rfl (x_iconst (pc' := 38) rfl rfl ?_)))))
    refine x_iload_n (pc' := 39) rfl rfl rfl (x_imulN (pc' := 40) rfl rfl (x_iaddN (pc' := 41) rfl rfl (x_iload_n (pc' := 42) rfl rfl rfl (x_iaddN (pc' := 43) rfl rfl (x_iald (pc' := 44) (N := 4420) rfl rfl rfl rfl (by first | assumption | omega) (by decide) ?_)))))
    refine x_aload_n (pc' := 45) rfl rfl rfl (x_getR (pc' := 48) (t := (9, _, 1)) rfl rfl rfl (x_iload_n (pc' := 49) rfl rfl rfl (x_bipush (pc' := 51) rfl rfl (x_iaddN (pc' := 52) rfl rfl (x_iload_n (pc' := 53) rfl rfl rfl ?_)))))
    refine x_iaddN (pc' := 54) rfl rfl (x_iald (pc' := 55) (N := 4420) rfl rfl rfl rfl (by first | assumption | omega) (by decide) (x_imul (pc' := 56) rfl rfl (x_iload (pc' := 58) rfl rfl rfl (x_iadd (pc' := 59) rfl rfl ?_))))
    refine x_iret rfl rfl ?_
    first | exact rI (mM_ret1 hr h10) | exact rI (mM_ret2 hr h10)
  · refine x_aload_n (pc' := 25) rfl rfl rfl (x_getR (pc' := 28) (t := (9, _, 2)) rfl rfl rfl (x_iload_n (pc' := 29) rfl rfl rfl (x_iald (pc' := 30) (N := 7) rfl rfl rfl rfl (by first | assumption | omega) (by decide) (x_istore4 (pc' := 32) rfl rfl rfl (x_aload_n (pc' := 33) rfl rfl rfl ?_)))))
    refine x_getR (pc' := 36) (t := (9, _, 1)) rfl rfl rfl (x_iload_n (pc' := 37) rfl rfl rfl (x_iconst (pc' := 38) rfl rfl (x_iload_n (pc' := 39) rfl rfl rfl (x_imulN (pc' := 40) rfl rfl (x_iaddN (pc' := 41) rfl rfl ?_)))))
    refine x_iload_n (pc' := 42) rfl rfl rfl (x_iaddN (pc' := 43) rfl rfl (x_iald (pc' := 44) (N := 4420) rfl rfl rfl rfl (by first | assumption | omega) (by decide) (x_aload_n (pc' := 45) rfl rfl rfl (x_getR (pc' := 48) (t := (9, _, 1)) rfl rfl rfl (x_iload_n (pc' := 49) rfl rfl rfl ?_)))))
    refine x_bipush (pc' := 51) rfl rfl (x_iaddN (pc' := 52) rfl rfl (x_iload_n (pc' := 53) rfl rfl rfl (x_iaddN (pc' := 54) rfl rfl (x_iald (pc' := 55) (N := 4420) rfl rfl rfl rfl (by first | assumption | omega) (by decide) (x_imul (pc' := 56) rfl rfl ?_)))))
    refine x_iload (pc' := 58) rfl rfl rfl (x_iadd (pc' := 59) rfl rfl ?_)
    refine x_iret rfl rfl ?_
    first | exact rI (mM_ret1 hr h10) | exact rI (mM_ret2 hr h10)
set_option maxRecDepth 20000 in
theorem c_X9_isAtCourt {l : Launch} {X : XT} {d Lz : Nat} {w : Nat → Nat → Nat → Nat → Int32} (x : Nat) (hx : x + 130 ≤ 4420) (p : Nat) (hp : p < 7) : CT l X (d + 1) md_X9_isAtCourt [.inr (.inr (9, 0, 0)), .inl (nI x), .inl (nI p)] (mk Lz w) (some (.inl (bI (cM w x p)))) (mk Lz w) := by
  show WP l X _ md_X9_isAtCourt (0, [some (.inr (.inr (9, 0, 0))), some (.inl (nI x)), some (.inl (nI p))], [], _) _
  refine x_aload_n (pc' := 1) rfl rfl rfl (x_getR (pc' := 4) (t := (9, _, 1)) rfl rfl rfl (x_iload_n (pc' := 5) rfl rfl rfl (x_bipush (pc' := 7) rfl rfl (x_iaddN (pc' := 8) rfl rfl (x_iload_n (pc' := 9) rfl rfl rfl ?_)))))
  refine x_iaddN (pc' := 10) rfl rfl (x_iald (pc' := 11) (N := 4420) rfl rfl rfl rfl (by first | assumption | omega) (by decide) ?_)
  refine x_if_ne (pc' := 14) rfl rfl (fun h11 => ?_) (fun h11 => ?_)
  · refine x_iconst (pc' := 15) rfl rfl (x_goto rfl ?_)
    refine x_zret rfl rfl (by decide) ?_
    first | exact rI (bI_t (dT h11)).symm | exact rI (bI_f (dF h11)).symm
  · refine x_iconst (pc' := 19) rfl rfl ?_
    refine x_zret rfl rfl (by decide) ?_
    first | exact rI (bI_t (dT h11)).symm | exact rI (bI_f (dF h11)).symm
theorem or_0 (x : Int32) : x ||| nI 0 = x := by
  apply i32_ext
  intro i hi
  rw [or_bit, z_bit i hi]; simp
set_option maxRecDepth 20000 in
theorem l_X9_courtIn {l : Launch} {X : XT} {d Lz : Nat} {w : Nat → Nat → Nat → Nat → Int32} (x : Nat) (hx : x + 130 ≤ 4420) (np : Nat) (hnp : w 9 0 0 6 = nI np) (hn7 : np ≤ 7) : ∀ (k n : Nat),  n ≤ np → np + 1 ≤ n + k → WP l X (d + 2) md_X9_courtIn (4, [some (.inr (.inr (9, 0, 0))), some (.inl (nI x)), some (.inl (enc (cM w x) n)), some (.inl (nI n))], [], mk Lz w) (fun v M' => v = some (.inl (enc (cM w x) np)) ∧ M' = mk Lz w) := by
  intro k
  induction k with
  | zero =>
    intro n h1 h2
    exact absurd h2 (by omega)
  | succ k ih =>
    intro n hi1 hi2
    refine x_iload_n (pc' := 5) rfl rfl rfl (x_aload_n (pc' := 6) rfl rfl rfl (x_getI (pc' := 9) rfl rfl rfl ?_))
    rw [hnp]
    refine x_icmp_geN (pc' := 12) rfl rfl (by omega) (by omega) (fun h9 => ?_) (fun h9 => ?_)
    · refine x_iload_n (pc' := 38) rfl rfl rfl ?_
      refine x_iret rfl rfl ?_
      have e : n = np := by omega
      subst e
      exact rI rfl
    · refine x_iload_n (pc' := 13) rfl rfl rfl (x_aload_n (pc' := 14) rfl rfl rfl (x_iload_n (pc' := 15) rfl rfl rfl (x_iload_n (pc' := 16) rfl rfl rfl (x_invI3 (pc' := 19) rfl rfl rfl rfl rfl (c_X9_isAtCourt x hx n (by omega)) ?_))))
      refine x_if_eq (pc' := 22) rfl rfl (fun h19 => ?_) (fun h19 => ?_)
      · refine x_iconst (pc' := 29) rfl rfl (x_ior (pc' := 30) rfl rfl (x_istore_n2 (pc' := 31) rfl rfl rfl (x_iinc3 (pc' := 34) rfl rfl rfl (nI_add _ _) (x_goto rfl ?_))))
        first | exact WPc (ih (n + 1) (by omega) (by omega)) (by rw [← enc_t (bq h19)]) rfl | exact WPc (ih (n + 1) (by omega) (by omega)) (by rw [← enc_f (bI_eq0.mp h19), or_0]) rfl
      · refine x_iconst (pc' := 23) rfl rfl (x_iload_n (pc' := 24) rfl rfl rfl (x_ishl (pc' := 25) rfl rfl (x_goto rfl (x_ior (pc' := 30) rfl rfl (x_istore_n2 (pc' := 31) rfl rfl rfl ?_)))))
        refine x_iinc3 (pc' := 34) rfl rfl rfl (nI_add _ _) (x_goto rfl ?_)
        first | exact WPc (ih (n + 1) (by omega) (by omega)) (by rw [← enc_t (bq h19)]) rfl | exact WPc (ih (n + 1) (by omega) (by omega)) (by rw [← enc_f (bI_eq0.mp h19), or_0]) rfl
set_option maxRecDepth 20000 in
theorem c_X9_courtIn {l : Launch} {X : XT} {d Lz : Nat} {w : Nat → Nat → Nat → Nat → Int32} (x : Nat) (hx : x + 130 ≤ 4420) (np : Nat) (hnp : w 9 0 0 6 = nI np) (hn7 : np ≤ 7) : CT l X (d + 2) md_X9_courtIn [.inr (.inr (9, 0, 0)), .inl (nI x)] (mk Lz w) (some (.inl (enc (cM w x) np))) (mk Lz w) := by
  show WP l X _ md_X9_courtIn (0, [some (.inr (.inr (9, 0, 0))), some (.inl (nI x)), none, none], [], _) _
  refine x_iconst (pc' := 1) rfl rfl (x_istore_n2 (pc' := 2) rfl rfl rfl (x_iconst (pc' := 3) rfl rfl (x_istore_n3 (pc' := 4) rfl rfl rfl ?_)))
  exact l_X9_courtIn x hx np hnp hn7 (np + 1) 0 (by omega) (by omega)
abbrev aM (w : WF) (x k : Nat) : Nat → Nat → Bool := ahd (w 9 0 0 4) (w 9 0 2) (mM w x k)
set_option maxRecDepth 20000 in
theorem c_X9_isAhead {l : Launch} {X : XT} {d Lz : Nat} {w : Nat → Nat → Nat → Nat → Int32} (x : Nat) (hx : x + 130 ≤ 4420) (p q k : Nat) (hp : p < 7) (hq : q < 7) (hk : k < 3) (hr : w 9 0 1 (x + 46) = 0 ∨ w 9 0 1 (x + 46) = nI 1) : CT l X (d + 2) md_X9_isAhead [.inr (.inr (9, 0, 0)), .inl (nI x), .inl (nI p), .inl (nI q), .inl (nI k)] (mk Lz w) (some (.inl (bI (aM w x k p q)))) (mk Lz w) := by
  show WP l X _ md_X9_isAhead (0, [some (.inr (.inr (9, 0, 0))), some (.inl (nI x)), some (.inl (nI p)), some (.inl (nI q)), some (.inl (nI k)), none, none], [], _) _
  refine x_aload_n (pc' := 1) rfl rfl rfl (x_iload_n (pc' := 2) rfl rfl rfl (x_iload_n (pc' := 3) rfl rfl rfl (x_iload (pc' := 5) rfl rfl rfl (x_invI4 (pc' := 8) rfl rfl rfl rfl rfl rfl (c_X9_markIn x hx p k hp hk hr) ?_))))
  refine x_istore5 (pc' := 10) rfl rfl rfl (x_aload_n (pc' := 11) rfl rfl rfl (x_iload_n (pc' := 12) rfl rfl rfl (x_iload_n (pc' := 13) rfl rfl rfl (x_iload (pc' := 15) rfl rfl rfl (x_invI4 (pc' := 18) rfl rfl rfl rfl rfl rfl (c_X9_markIn x hx q k hq hk hr) ?_)))))
  refine x_istore6 (pc' := 20) rfl rfl rfl (x_iload (pc' := 22) rfl rfl rfl (x_iload (pc' := 24) rfl rfl rfl ?_))
  refine x_icmp_eq (pc' := 27) rfl rfl (fun h24 => ?_) (fun h24 => ?_)
  · refine x_aload_n (pc' := 41) rfl rfl rfl (x_getI (pc' := 44) rfl rfl rfl (x_iconst (pc' := 45) rfl rfl ?_))
    refine x_icmp_ne (pc' := 48) rfl rfl (fun h45 => ?_) (fun h45 => ?_)
    · refine x_aload_n (pc' := 49) rfl rfl rfl (x_getR (pc' := 52) (t := (9, _, 2)) rfl rfl rfl (x_iload_n (pc' := 53) rfl rfl rfl (x_iald (pc' := 54) (N := 7) rfl rfl rfl rfl (by first | assumption | omega) (by decide) (x_aload_n (pc' := 55) rfl rfl rfl (x_getR (pc' := 58) (t := (9, _, 2)) rfl rfl rfl ?_)))))
      refine x_iload_n (pc' := 59) rfl rfl rfl (x_iald (pc' := 60) (N := 7) rfl rfl rfl rfl (by first | assumption | omega) (by decide) ?_)
      refine x_icmp_eq (pc' := 63) rfl rfl (fun h60 => ?_) (fun h60 => ?_)
      · refine x_iload_n (pc' := 87) rfl rfl rfl (x_iload_n (pc' := 88) rfl rfl rfl ?_)
        refine x_icmp_geN (pc' := 91) rfl rfl (by omega) (by omega) (fun h88 => ?_) (fun h88 => ?_)
        · refine x_iconst (pc' := 96) rfl rfl ?_
          refine x_zret rfl rfl (by decide) ?_
          exact rI (by unfold aM ahd; first | (rw [if_neg h24, dF (Int32.not_lt.mpr h31)]; rfl) | (rw [if_neg h24, dT (Int32.not_le.mp h31)]; rfl) | (rw [if_pos h24, if_pos h45, if_neg h60, dF (Int32.not_lt.mpr h75)]; rfl) | (rw [if_pos h24, if_pos h45, if_neg h60, dT (Int32.not_le.mp h75)]; rfl) | (rw [if_pos h24, if_pos h45, if_pos h60, dF (by omega)]; rfl) | (rw [if_pos h24, if_pos h45, if_pos h60, dT (by omega)]; rfl) | (rw [if_pos h24, if_neg h45, dF (by omega)]; rfl) | (rw [if_pos h24, if_neg h45, dT (by omega)]; rfl))
        · refine x_iconst (pc' := 92) rfl rfl (x_goto rfl ?_)
          refine x_zret rfl rfl (by decide) ?_
          exact rI (by unfold aM ahd; first | (rw [if_neg h24, dF (Int32.not_lt.mpr h31)]; rfl) | (rw [if_neg h24, dT (Int32.not_le.mp h31)]; rfl) | (rw [if_pos h24, if_pos h45, if_neg h60, dF (Int32.not_lt.mpr h75)]; rfl) | (rw [if_pos h24, if_pos h45, if_neg h60, dT (Int32.not_le.mp h75)]; rfl) | (rw [if_pos h24, if_pos h45, if_pos h60, dF (by omega)]; rfl) | (rw [if_pos h24, if_pos h45, if_pos h60, dT (by omega)]; rfl) | (rw [if_pos h24, if_neg h45, dF (by omega)]; rfl) | (rw [if_pos h24, if_neg h45, dT (by omega)]; rfl))
      · refine x_aload_n (pc' := 64) rfl rfl rfl (x_getR (pc' := 67) (t := (9, _, 2)) rfl rfl rfl (x_iload_n (pc' := 68) rfl rfl rfl (x_iald (pc' := 69) (N := 7) rfl rfl rfl rfl (by first | assumption | omega) (by decide) (x_aload_n (pc' := 70) rfl rfl rfl (x_getR (pc' := 73) (t := (9, _, 2)) rfl rfl rfl ?_)))))
        refine x_iload_n (pc' := 74) rfl rfl rfl (x_iald (pc' := 75) (N := 7) rfl rfl rfl rfl (by first | assumption | omega) (by decide) ?_)
        refine x_icmp_le (pc' := 78) rfl rfl (fun h75 => ?_) (fun h75 => ?_)
        · refine x_iconst (pc' := 83) rfl rfl (x_goto rfl ?_)
          refine x_zret rfl rfl (by decide) ?_
          exact rI (by unfold aM ahd; first | (rw [if_neg h24, dF (Int32.not_lt.mpr h31)]; rfl) | (rw [if_neg h24, dT (Int32.not_le.mp h31)]; rfl) | (rw [if_pos h24, if_pos h45, if_neg h60, dF (Int32.not_lt.mpr h75)]; rfl) | (rw [if_pos h24, if_pos h45, if_neg h60, dT (Int32.not_le.mp h75)]; rfl) | (rw [if_pos h24, if_pos h45, if_pos h60, dF (by omega)]; rfl) | (rw [if_pos h24, if_pos h45, if_pos h60, dT (by omega)]; rfl) | (rw [if_pos h24, if_neg h45, dF (by omega)]; rfl) | (rw [if_pos h24, if_neg h45, dT (by omega)]; rfl))
        · refine x_iconst (pc' := 79) rfl rfl (x_goto rfl ?_)
          refine x_zret rfl rfl (by decide) ?_
          exact rI (by unfold aM ahd; first | (rw [if_neg h24, dF (Int32.not_lt.mpr h31)]; rfl) | (rw [if_neg h24, dT (Int32.not_le.mp h31)]; rfl) | (rw [if_pos h24, if_pos h45, if_neg h60, dF (Int32.not_lt.mpr h75)]; rfl) | (rw [if_pos h24, if_pos h45, if_neg h60, dT (Int32.not_le.mp h75)]; rfl) | (rw [if_pos h24, if_pos h45, if_pos h60, dF (by omega)]; rfl) | (rw [if_pos h24, if_pos h45, if_pos h60, dT (by omega)]; rfl) | (rw [if_pos h24, if_neg h45, dF (by omega)]; rfl) | (rw [if_pos h24, if_neg h45, dT (by omega)]; rfl))
    · refine x_iload_n (pc' := 87) rfl rfl rfl (x_iload_n (pc' := 88) rfl rfl rfl ?_)
      refine x_icmp_geN (pc' := 91) rfl rfl (by omega) (by omega) (fun h88 => ?_) (fun h88 => ?_)
      · refine x_iconst (pc' := 96) rfl rfl ?_
        refine x_zret rfl rfl (by decide) ?_
        exact rI (by unfold aM ahd; first | (rw [if_neg h24, dF (Int32.not_lt.mpr h31)]; rfl) | (rw [if_neg h24, dT (Int32.not_le.mp h31)]; rfl) | (rw [if_pos h24, if_pos h45, if_neg h60, dF (Int32.not_lt.mpr h75)]; rfl) | (rw [if_pos h24, if_pos h45, if_neg h60, dT (Int32.not_le.mp h75)]; rfl) | (rw [if_pos h24, if_pos h45, if_pos h60, dF (by omega)]; rfl) | (rw [if_pos h24, if_pos h45, if_pos h60, dT (by omega)]; rfl) | (rw [if_pos h24, if_neg h45, dF (by omega)]; rfl) | (rw [if_pos h24, if_neg h45, dT (by omega)]; rfl))
      · refine x_iconst (pc' := 92) rfl rfl (x_goto rfl ?_)
        refine x_zret rfl rfl (by decide) ?_
        exact rI (by unfold aM ahd; first | (rw [if_neg h24, dF (Int32.not_lt.mpr h31)]; rfl) | (rw [if_neg h24, dT (Int32.not_le.mp h31)]; rfl) | (rw [if_pos h24, if_pos h45, if_neg h60, dF (Int32.not_lt.mpr h75)]; rfl) | (rw [if_pos h24, if_pos h45, if_neg h60, dT (Int32.not_le.mp h75)]; rfl) | (rw [if_pos h24, if_pos h45, if_pos h60, dF (by omega)]; rfl) | (rw [if_pos h24, if_pos h45, if_pos h60, dT (by omega)]; rfl) | (rw [if_pos h24, if_neg h45, dF (by omega)]; rfl) | (rw [if_pos h24, if_neg h45, dT (by omega)]; rfl))
  · refine x_iload (pc' := 29) rfl rfl rfl (x_iload (pc' := 31) rfl rfl rfl ?_)
    refine x_icmp_le (pc' := 34) rfl rfl (fun h31 => ?_) (fun h31 => ?_)
    · refine x_iconst (pc' := 39) rfl rfl ?_
      refine x_zret rfl rfl (by decide) ?_
      exact rI (by unfold aM ahd; first | (rw [if_neg h24, dF (Int32.not_lt.mpr h31)]; rfl) | (rw [if_neg h24, dT (Int32.not_le.mp h31)]; rfl) | (rw [if_pos h24, if_pos h45, if_neg h60, dF (Int32.not_lt.mpr h75)]; rfl) | (rw [if_pos h24, if_pos h45, if_neg h60, dT (Int32.not_le.mp h75)]; rfl) | (rw [if_pos h24, if_pos h45, if_pos h60, dF (by omega)]; rfl) | (rw [if_pos h24, if_pos h45, if_pos h60, dT (by omega)]; rfl) | (rw [if_pos h24, if_neg h45, dF (by omega)]; rfl) | (rw [if_pos h24, if_neg h45, dT (by omega)]; rfl))
    · refine x_iconst (pc' := 35) rfl rfl (x_goto rfl ?_)
      refine x_zret rfl rfl (by decide) ?_
      exact rI (by unfold aM ahd; first | (rw [if_neg h24, dF (Int32.not_lt.mpr h31)]; rfl) | (rw [if_neg h24, dT (Int32.not_le.mp h31)]; rfl) | (rw [if_pos h24, if_pos h45, if_neg h60, dF (Int32.not_lt.mpr h75)]; rfl) | (rw [if_pos h24, if_pos h45, if_neg h60, dT (Int32.not_le.mp h75)]; rfl) | (rw [if_pos h24, if_pos h45, if_pos h60, dF (by omega)]; rfl) | (rw [if_pos h24, if_pos h45, if_pos h60, dT (by omega)]; rfl) | (rw [if_pos h24, if_neg h45, dF (by omega)]; rfl) | (rw [if_pos h24, if_neg h45, dT (by omega)]; rfl))
set_option maxRecDepth 20000 in
theorem l_X9_bestOf {l : Launch} {X : XT} {d Lz : Nat} {w : Nat → Nat → Nat → Nat → Int32} (x : Nat) (hx : x + 130 ≤ 4420) (s : Int32) (k : Nat) (hk : k < 3) (hr : w 9 0 1 (x + 46) = 0 ∨ w 9 0 1 (x + 46) = nI 1) (np : Nat) (hnp : w 9 0 0 6 = nI np) (hn7 : np ≤ 7) : ∀ (kk n : Nat),  n ≤ np → np + 1 ≤ n + kk → WP l X (d + 3) md_X9_bestOf (6, [some (.inr (.inr (9, 0, 0))), some (.inl (nI x)), some (.inl (s)), some (.inl (nI k)), some (.inl (oI (bst (has s) (aM w x k) n))), some (.inl (nI n))], [], mk Lz w) (fun v M' => v = some (.inl (oI (bst (has s) (aM w x k) np))) ∧ M' = mk Lz w) := by
  intro kk
  induction kk with
  | zero =>
    intro n h1 h2
    exact absurd h2 (by omega)
  | succ kk ih =>
    intro n hi1 hi2
    cases hb : bst (has s) (aM w x k) n with
    | none =>
      show WP l X _ md_X9_bestOf (6, [some (.inr (.inr (9, 0, 0))), some (.inl (nI x)), some (.inl (s)), some (.inl (nI k)), some (.inl (-1)), some (.inl (nI n))], [], _) _
      refine x_iload (pc' := 8) rfl rfl rfl (x_aload_n (pc' := 9) rfl rfl rfl (x_getI (pc' := 12) rfl rfl rfl ?_))
      rw [hnp]
      refine x_icmp_geN (pc' := 15) rfl rfl (by omega) (by omega) (fun h12 => ?_) (fun h12 => ?_)
      · refine x_iload (pc' := 55) rfl rfl rfl ?_
        refine x_iret rfl rfl ?_
        have e : n = np := by omega
        subst e
        rw [hb]
        exact rI rfl
      · refine x_iload_n (pc' := 16) rfl rfl rfl (x_iload (pc' := 18) rfl rfl rfl (x_invS2 (pc' := 21) rfl rfl rfl rfl rfl (c_X9_has _ _) ?_))
        refine x_if_eq (pc' := 24) rfl rfl (fun h21 => ?_) (fun h21 => ?_)
        · refine x_iinc5 (pc' := 50) rfl rfl rfl (nI_add _ _) (x_goto rfl ?_)
          first | exact WPc (ih (n + 1) (by omega) (by omega)) (by rw [bst_new hb (bq h21)]; rfl) rfl | exact WPc (ih (n + 1) (by omega) (by omega)) (by rw [bst_no (bI_eq0.mp h21), hb]; rfl) rfl
        · refine x_iload (pc' := 26) rfl rfl rfl (x_iconst (pc' := 27) rfl rfl ?_)
          refine x_icmp_eq (pc' := 30) rfl rfl (fun h27 => ?_) (fun h27 => absurd rfl h27)
          refine x_iload (pc' := 45) rfl rfl rfl (x_istore4 (pc' := 47) rfl rfl rfl (x_iinc5 (pc' := 50) rfl rfl rfl (nI_add _ _) (x_goto rfl ?_)))
          first | exact WPc (ih (n + 1) (by omega) (by omega)) (by rw [bst_new hb (bq h21)]; rfl) rfl | exact WPc (ih (n + 1) (by omega) (by omega)) (by rw [bst_no (bI_eq0.mp h21), hb]; rfl) rfl
    | some b =>
      have hbl := (bst_lt n b hb).1
      show WP l X _ md_X9_bestOf (6, [some (.inr (.inr (9, 0, 0))), some (.inl (nI x)), some (.inl (s)), some (.inl (nI k)), some (.inl (nI b)), some (.inl (nI n))], [], _) _
      refine x_iload (pc' := 8) rfl rfl rfl (x_aload_n (pc' := 9) rfl rfl rfl (x_getI (pc' := 12) rfl rfl rfl ?_))
      rw [hnp]
      refine x_icmp_geN (pc' := 15) rfl rfl (by omega) (by omega) (fun h12 => ?_) (fun h12 => ?_)
      · refine x_iload (pc' := 55) rfl rfl rfl ?_
        refine x_iret rfl rfl ?_
        have e : n = np := by omega
        subst e
        rw [hb]
        exact rI rfl
      · refine x_iload_n (pc' := 16) rfl rfl rfl (x_iload (pc' := 18) rfl rfl rfl (x_invS2 (pc' := 21) rfl rfl rfl rfl rfl (c_X9_has _ _) ?_))
        refine x_if_eq (pc' := 24) rfl rfl (fun h21 => ?_) (fun h21 => ?_)
        · refine x_iinc5 (pc' := 50) rfl rfl rfl (nI_add _ _) (x_goto rfl ?_)
          first | exact WPc (ih (n + 1) (by omega) (by omega)) (by rw [bst_up hb (bq h21) (bq h40)]; rfl) rfl | exact WPc (ih (n + 1) (by omega) (by omega)) (by rw [bst_keep hb (bI_eq0.mp h40)]; rfl) rfl | exact WPc (ih (n + 1) (by omega) (by omega)) (by rw [bst_no (bI_eq0.mp h21), hb]; rfl) rfl
        · refine x_iload (pc' := 26) rfl rfl rfl (x_iconst (pc' := 27) rfl rfl ?_)
          refine x_icmp_eq (pc' := 30) rfl rfl (fun h27 => absurd h27 (nI_ne1 (by omega))) (fun h27 => ?_)
          refine x_aload_n (pc' := 31) rfl rfl rfl (x_iload_n (pc' := 32) rfl rfl rfl (x_iload (pc' := 34) rfl rfl rfl (x_iload (pc' := 36) rfl rfl rfl (x_iload_n (pc' := 37) rfl rfl rfl (x_invI5 (pc' := 40) rfl rfl rfl rfl rfl rfl rfl (c_X9_isAhead x hx n b k (by omega) (by omega) hk hr) ?_)))))
          refine x_if_eq (pc' := 43) rfl rfl (fun h40 => ?_) (fun h40 => ?_)
          · refine x_iinc5 (pc' := 50) rfl rfl rfl (nI_add _ _) (x_goto rfl ?_)
            first | exact WPc (ih (n + 1) (by omega) (by omega)) (by rw [bst_up hb (bq h21) (bq h40)]; rfl) rfl | exact WPc (ih (n + 1) (by omega) (by omega)) (by rw [bst_keep hb (bI_eq0.mp h40)]; rfl) rfl | exact WPc (ih (n + 1) (by omega) (by omega)) (by rw [bst_no (bI_eq0.mp h21), hb]; rfl) rfl
          · refine x_iload (pc' := 45) rfl rfl rfl (x_istore4 (pc' := 47) rfl rfl rfl (x_iinc5 (pc' := 50) rfl rfl rfl (nI_add _ _) (x_goto rfl ?_)))
            first | exact WPc (ih (n + 1) (by omega) (by omega)) (by rw [bst_up hb (bq h21) (bq h40)]; rfl) rfl | exact WPc (ih (n + 1) (by omega) (by omega)) (by rw [bst_keep hb (bI_eq0.mp h40)]; rfl) rfl | exact WPc (ih (n + 1) (by omega) (by omega)) (by rw [bst_no (bI_eq0.mp h21), hb]; rfl) rfl
set_option maxRecDepth 20000 in
theorem c_X9_bestOf {l : Launch} {X : XT} {d Lz : Nat} {w : Nat → Nat → Nat → Nat → Int32} (x : Nat) (hx : x + 130 ≤ 4420) (s : Int32) (k : Nat) (hk : k < 3) (hr : w 9 0 1 (x + 46) = 0 ∨ w 9 0 1 (x + 46) = nI 1) (np : Nat) (hnp : w 9 0 0 6 = nI np) (hn7 : np ≤ 7) : CT l X (d + 3) md_X9_bestOf [.inr (.inr (9, 0, 0)), .inl (nI x), .inl (s), .inl (nI k)] (mk Lz w) (some (.inl (oI (bst (has s) (aM w x k) np)))) (mk Lz w) := by
  show WP l X _ md_X9_bestOf (0, [some (.inr (.inr (9, 0, 0))), some (.inl (nI x)), some (.inl (s)), some (.inl (nI k)), none, none], [], _) _
  refine x_iconst (pc' := 1) rfl rfl (x_istore4 (pc' := 3) rfl rfl rfl (x_iconst (pc' := 4) rfl rfl (x_istore5 (pc' := 6) rfl rfl rfl ?_)))
  exact l_X9_bestOf x hx s k hk hr np hnp hn7 (np + 1) 0 (by omega) (by omega)
abbrev LDM (w : WF) (x k np : Nat) : Option Nat := ldr (cM w x) (w 9 0 0 4) (w 9 0 2) (mM w x k) np
abbrev FSM (w : WF) (x k np : Nat) : Nat → Bool := fst' (cM w x) (w 9 0 0 4) (w 9 0 2) (mM w x k) np
abbrev SNM (w : WF) (x k np : Nat) : Option Nat := snd' (cM w x) (w 9 0 0 4) (w 9 0 2) (mM w x k) np
abbrev lkM (w : WF) (x k b : Nat) : Nat → Bool := fun p => cM w x p && decide (mM w x k p = mM w x k b)
theorem best_ld {w : WF} {x k np : Nat} (hn7 : np ≤ 7) : bst (has (enc (cM w x) np)) (aM w x k) np = LDM w x k np := bst_congr np (fun p hp => has_enc (by omega) hp) (fun _ _ _ _ => rfl)
theorem or_as (a b c : Int32) : a ||| b ||| c = a ||| (b ||| c) := by
  apply i32_ext
  intro i _
  rw [or_bit, or_bit, or_bit, or_bit, Bool.or_assoc]
theorem FSM_2 {w : WF} {x k np b : Nat} (hn7 : np ≤ 7) (hl : LDM w x k np = some b) (h2 : w 9 0 0 4 = nI 2) : (nI 1 <<< (nI b &&& 31)) ||| enc (lkM w x k b) np = enc (FSM w x k np) np := by
  have hb := bst_lt np b hl
  rw [enc_one (n := np) (by omega) hb.1, enc_or (by omega)]
  apply enc_congr
  intro p hp
  show (decide (p = b) || (cM w x p && decide (mM w x k p = mM w x k b))) = (match LDM w x k np with | none => false | some b => if w 9 0 0 4 = nI 2 then cM w x p && decide (mM w x k p = mM w x k b) else decide (p = b))
  rw [hl]
  show _ = (if w 9 0 0 4 = nI 2 then _ else _)
  rw [if_pos h2]
  by_cases e : p = b
  · subst e; rw [hb.2]; simp
  · simp [e]
theorem FSM_1 {w : WF} {x k np b : Nat} (hn7 : np ≤ 7) (hl : LDM w x k np = some b) (h2 : ¬ w 9 0 0 4 = nI 2) : (nI 1 <<< (nI b &&& 31)) = enc (FSM w x k np) np := by
  have hb := bst_lt np b hl
  rw [enc_one (n := np) (by omega) hb.1]
  apply enc_congr
  intro p hp
  show _ = (match LDM w x k np with | none => false | some b => if w 9 0 0 4 = nI 2 then cM w x p && decide (mM w x k p = mM w x k b) else decide (p = b))
  rw [hl]
  show _ = (if w 9 0 0 4 = nI 2 then _ else _)
  rw [if_neg h2]
theorem FSM_0 {w : WF} {x k np : Nat} (hl : LDM w x k np = none) : nI 0 = enc (FSM w x k np) np := by
  rw [← enc_none np]
  exact enc_congr np (fun p _ => (fst_none hl p).symm)
set_option maxRecDepth 20000 in
theorem l_X9_firstOnes0 {l : Launch} {X : XT} {d Lz : Nat} {w : Nat → Nat → Nat → Nat → Int32} (x : Nat) (hx : x + 130 ≤ 4420) (k : Nat) (hk : k < 3) (hr : w 9 0 1 (x + 46) = 0 ∨ w 9 0 1 (x + 46) = nI 1) (np : Nat) (hnp : w 9 0 0 6 = nI np) (hn7 : np ≤ 7) (hl : LDM w x k np = none) : ∀ (kk n : Nat),  n ≤ np → np + 1 ≤ n + kk → WP l X (d + 4) md_X9_firstOnes (34, [some (.inr (.inr (9, 0, 0))), some (.inl (nI x)), some (.inl (nI k)), some (.inl (enc (cM w x) np)), some (.inl (-1)), some (.inl (nI 0)), some (.inl (nI n))], [], mk Lz w) (fun v M' => v = some (.inl (enc (FSM w x k np) np)) ∧ M' = mk Lz w) := by
  intro kk
  induction kk with
  | zero =>
    intro n h1 h2
    exact absurd h2 (by omega)
  | succ kk ih =>
    intro n hi1 hi2
    refine x_iload (pc' := 36) rfl rfl rfl (x_aload_n (pc' := 37) rfl rfl rfl (x_getI (pc' := 40) rfl rfl rfl ?_))
    rw [hnp]
    refine x_icmp_geN (pc' := 43) rfl rfl (by omega) (by omega) (fun h40 => ?_) (fun h40 => ?_)
    · refine x_iload (pc' := 100) rfl rfl rfl ?_
      refine x_iret rfl rfl ?_
      exact rI (FSM_0 hl)
    · refine x_aload_n (pc' := 44) rfl rfl rfl (x_getI (pc' := 47) rfl rfl rfl (x_iconst (pc' := 48) rfl rfl ?_))
      refine x_icmp_ne (pc' := 51) rfl rfl (fun h48 => ?_) (fun h48 => ?_)
      · refine x_iload (pc' := 53) rfl rfl rfl (x_iload_n (pc' := 54) rfl rfl rfl (x_iload (pc' := 56) rfl rfl rfl (x_invS2 (pc' := 59) rfl rfl rfl rfl rfl (c_X9_has _ _) ?_)))
        rw [has_enc (by omega) (by omega), bst_some np hl n (by omega)]
        refine x_if_eq (pc' := 62) rfl rfl (fun h59 => ?_) (fun h59 => absurd rfl h59)
        refine x_iconst (pc' := 89) rfl rfl (x_ior (pc' := 90) rfl rfl (x_istore5 (pc' := 92) rfl rfl rfl (x_iinc6 (pc' := 95) rfl rfl rfl (nI_add _ _) (x_goto rfl ?_))))
        exact WPc (ih (n + 1) (by omega) (by omega)) (by rw [or_0]) rfl
      · refine x_iload (pc' := 100) rfl rfl rfl ?_
        refine x_iret rfl rfl ?_
        exact rI (FSM_0 hl)
set_option maxRecDepth 20000 in
theorem l_X9_firstOnes2 {l : Launch} {X : XT} {d Lz : Nat} {w : Nat → Nat → Nat → Nat → Int32} (x : Nat) (hx : x + 130 ≤ 4420) (k : Nat) (hk : k < 3) (hr : w 9 0 1 (x + 46) = 0 ∨ w 9 0 1 (x + 46) = nI 1) (np : Nat) (hnp : w 9 0 0 6 = nI np) (hn7 : np ≤ 7) (b : Nat) (hl : LDM w x k np = some b) (hb : b < np) (h2 : w 9 0 0 4 = nI 2) : ∀ (kk n : Nat),  n ≤ np → np + 1 ≤ n + kk → WP l X (d + 4) md_X9_firstOnes (34, [some (.inr (.inr (9, 0, 0))), some (.inl (nI x)), some (.inl (nI k)), some (.inl (enc (cM w x) np)), some (.inl (nI b)), some (.inl ((nI 1 <<< (nI b &&& 31)) ||| enc (lkM w x k b) n)), some (.inl (nI n))], [], mk Lz w) (fun v M' => v = some (.inl (enc (FSM w x k np) np)) ∧ M' = mk Lz w) := by
  intro kk
  induction kk with
  | zero =>
    intro n h1 h2
    exact absurd h2 (by omega)
  | succ kk ih =>
    intro n hi1 hi2
    refine x_iload (pc' := 36) rfl rfl rfl (x_aload_n (pc' := 37) rfl rfl rfl (x_getI (pc' := 40) rfl rfl rfl ?_))
    rw [hnp]
    refine x_icmp_geN (pc' := 43) rfl rfl (by omega) (by omega) (fun h40 => ?_) (fun h40 => ?_)
    · refine x_iload (pc' := 100) rfl rfl rfl ?_
      refine x_iret rfl rfl ?_
      first | exact rI (by rw [show n = np by omega]; exact FSM_2 hn7 hl h2) | exact absurd h2 h48
    · refine x_aload_n (pc' := 44) rfl rfl rfl (x_getI (pc' := 47) rfl rfl rfl (x_iconst (pc' := 48) rfl rfl ?_))
      refine x_icmp_ne (pc' := 51) rfl rfl (fun h48 => ?_) (fun h48 => ?_)
      · refine x_iload (pc' := 53) rfl rfl rfl (x_iload_n (pc' := 54) rfl rfl rfl (x_iload (pc' := 56) rfl rfl rfl (x_invS2 (pc' := 59) rfl rfl rfl rfl rfl (c_X9_has _ _) ?_)))
        rw [has_enc (by omega) (by omega)]
        refine x_if_eq (pc' := 62) rfl rfl (fun h59 => ?_) (fun h59 => ?_)
        · refine x_iconst (pc' := 89) rfl rfl (x_ior (pc' := 90) rfl rfl (x_istore5 (pc' := 92) rfl rfl rfl (x_iinc6 (pc' := 95) rfl rfl rfl (nI_add _ _) (x_goto rfl ?_))))
          first | exact WPc (ih (n + 1) (by omega) (by omega)) (by rw [or_as, enc_t (f := lkM w x k b) (n := n) (by show (_ && decide _) = true; rw [bq h59, dT h78]; rfl)]) rfl | exact WPc (ih (n + 1) (by omega) (by omega)) (by rw [or_0, enc_f (f := lkM w x k b) (n := n) (by show (cM w x n && _) = false; rw [bI_eq0.mp h59]; rfl)]) rfl | exact WPc (ih (n + 1) (by omega) (by omega)) (by rw [or_0, enc_f (f := lkM w x k b) (n := n) (by show (_ && decide (mM w x k n = mM w x k b)) = false; rw [dF h78]; simp)]) rfl
        · refine x_aload_n (pc' := 63) rfl rfl rfl (x_iload_n (pc' := 64) rfl rfl rfl (x_iload (pc' := 66) rfl rfl rfl (x_iload_n (pc' := 67) rfl rfl rfl (x_invI4 (pc' := 70) rfl rfl rfl rfl rfl rfl (c_X9_markIn x hx n k (by omega) hk hr) ?_))))
          refine x_aload_n (pc' := 71) rfl rfl rfl (x_iload_n (pc' := 72) rfl rfl rfl (x_iload (pc' := 74) rfl rfl rfl (x_iload_n (pc' := 75) rfl rfl rfl (x_invI4 (pc' := 78) rfl rfl rfl rfl rfl rfl (c_X9_markIn x hx b k (by omega) hk hr) ?_))))
          refine x_icmp_ne (pc' := 81) rfl rfl (fun h78 => ?_) (fun h78 => ?_)
          · refine x_iconst (pc' := 82) rfl rfl (x_iload (pc' := 84) rfl rfl rfl (x_ishl (pc' := 85) rfl rfl (x_goto rfl (x_ior (pc' := 90) rfl rfl (x_istore5 (pc' := 92) rfl rfl rfl ?_)))))
            refine x_iinc6 (pc' := 95) rfl rfl rfl (nI_add _ _) (x_goto rfl ?_)
            first | exact WPc (ih (n + 1) (by omega) (by omega)) (by rw [or_as, enc_t (f := lkM w x k b) (n := n) (by show (_ && decide _) = true; rw [bq h59, dT h78]; rfl)]) rfl | exact WPc (ih (n + 1) (by omega) (by omega)) (by rw [or_0, enc_f (f := lkM w x k b) (n := n) (by show (cM w x n && _) = false; rw [bI_eq0.mp h59]; rfl)]) rfl | exact WPc (ih (n + 1) (by omega) (by omega)) (by rw [or_0, enc_f (f := lkM w x k b) (n := n) (by show (_ && decide (mM w x k n = mM w x k b)) = false; rw [dF h78]; simp)]) rfl
          · refine x_iconst (pc' := 89) rfl rfl (x_ior (pc' := 90) rfl rfl (x_istore5 (pc' := 92) rfl rfl rfl (x_iinc6 (pc' := 95) rfl rfl rfl (nI_add _ _) (x_goto rfl ?_))))
            first | exact WPc (ih (n + 1) (by omega) (by omega)) (by rw [or_as, enc_t (f := lkM w x k b) (n := n) (by show (_ && decide _) = true; rw [bq h59, dT h78]; rfl)]) rfl | exact WPc (ih (n + 1) (by omega) (by omega)) (by rw [or_0, enc_f (f := lkM w x k b) (n := n) (by show (cM w x n && _) = false; rw [bI_eq0.mp h59]; rfl)]) rfl | exact WPc (ih (n + 1) (by omega) (by omega)) (by rw [or_0, enc_f (f := lkM w x k b) (n := n) (by show (_ && decide (mM w x k n = mM w x k b)) = false; rw [dF h78]; simp)]) rfl
      · refine x_iload (pc' := 100) rfl rfl rfl ?_
        refine x_iret rfl rfl ?_
        first | exact rI (by rw [show n = np by omega]; exact FSM_2 hn7 hl h2) | exact absurd h2 h48
set_option maxRecDepth 20000 in
theorem c_X9_firstOnes {l : Launch} {X : XT} {d Lz : Nat} {w : Nat → Nat → Nat → Nat → Int32} (x : Nat) (hx : x + 130 ≤ 4420) (k : Nat) (hk : k < 3) (hr : w 9 0 1 (x + 46) = 0 ∨ w 9 0 1 (x + 46) = nI 1) (np : Nat) (hnp : w 9 0 0 6 = nI np) (hn7 : np ≤ 7) : CT l X (d + 4) md_X9_firstOnes [.inr (.inr (9, 0, 0)), .inl (nI x), .inl (nI k)] (mk Lz w) (some (.inl (enc (FSM w x k np) np))) (mk Lz w) := by
  cases hl : LDM w x k np with
  | none =>
    show WP l X _ md_X9_firstOnes (0, [some (.inr (.inr (9, 0, 0))), some (.inl (nI x)), some (.inl (nI k)), none, none, none, none], [], _) _
    refine x_aload_n (pc' := 1) rfl rfl rfl (x_iload_n (pc' := 2) rfl rfl rfl (x_invI2 (pc' := 5) rfl rfl rfl rfl (c_X9_courtIn x hx np hnp hn7) ?_))
    refine x_istore_n3 (pc' := 6) rfl rfl rfl (x_aload_n (pc' := 7) rfl rfl rfl (x_iload_n (pc' := 8) rfl rfl rfl (x_iload_n (pc' := 9) rfl rfl rfl (x_iload_n (pc' := 10) rfl rfl rfl (x_invI4 (pc' := 13) rfl rfl rfl rfl rfl rfl (c_X9_bestOf x hx _ k hk hr np hnp hn7) ?_)))))
    rw [best_ld hn7, hl]
    refine x_istore4 (pc' := 15) rfl rfl rfl (x_iload (pc' := 17) rfl rfl rfl (x_iconst (pc' := 18) rfl rfl ?_))
    refine x_icmp_ne (pc' := 21) rfl rfl (fun h18 => ?_) (fun h18 => absurd rfl h18)
    refine x_iconst (pc' := 22) rfl rfl (x_goto rfl (x_istore5 (pc' := 31) rfl rfl rfl (x_iconst (pc' := 32) rfl rfl (x_istore6 (pc' := 34) rfl rfl rfl ?_))))
    exact l_X9_firstOnes0 x hx k hk hr np hnp hn7 hl (np + 1) 0 (by omega) (by omega)
  | some b =>
    have hb := (bst_lt np b hl).1
    by_cases h2 : w 9 0 0 4 = nI 2
    · show WP l X _ md_X9_firstOnes (0, [some (.inr (.inr (9, 0, 0))), some (.inl (nI x)), some (.inl (nI k)), none, none, none, none], [], _) _
      refine x_aload_n (pc' := 1) rfl rfl rfl (x_iload_n (pc' := 2) rfl rfl rfl (x_invI2 (pc' := 5) rfl rfl rfl rfl (c_X9_courtIn x hx np hnp hn7) ?_))
      refine x_istore_n3 (pc' := 6) rfl rfl rfl (x_aload_n (pc' := 7) rfl rfl rfl (x_iload_n (pc' := 8) rfl rfl rfl (x_iload_n (pc' := 9) rfl rfl rfl (x_iload_n (pc' := 10) rfl rfl rfl (x_invI4 (pc' := 13) rfl rfl rfl rfl rfl rfl (c_X9_bestOf x hx _ k hk hr np hnp hn7) ?_)))))
      rw [best_ld hn7, hl]
      refine x_istore4 (pc' := 15) rfl rfl rfl (x_iload (pc' := 17) rfl rfl rfl (x_iconst (pc' := 18) rfl rfl ?_))
      refine x_icmp_ne (pc' := 21) rfl rfl (fun h18 => absurd h18 (nI_ne1 (by omega))) (fun h18 => ?_)
      refine x_iconst (pc' := 26) rfl rfl (x_iload (pc' := 28) rfl rfl rfl (x_ishl (pc' := 29) rfl rfl (x_istore5 (pc' := 31) rfl rfl rfl (x_iconst (pc' := 32) rfl rfl (x_istore6 (pc' := 34) rfl rfl rfl ?_)))))
      exact WPc (l_X9_firstOnes2 x hx k hk hr np hnp hn7 b hl hb h2 (np + 1) 0 (by omega) (by omega)) (by rw [show enc (lkM w x k b) 0 = nI 0 from rfl, or_0]; rfl) rfl
    · show WP l X _ md_X9_firstOnes (0, [some (.inr (.inr (9, 0, 0))), some (.inl (nI x)), some (.inl (nI k)), none, none, none, none], [], _) _
      refine x_aload_n (pc' := 1) rfl rfl rfl (x_iload_n (pc' := 2) rfl rfl rfl (x_invI2 (pc' := 5) rfl rfl rfl rfl (c_X9_courtIn x hx np hnp hn7) ?_))
      refine x_istore_n3 (pc' := 6) rfl rfl rfl (x_aload_n (pc' := 7) rfl rfl rfl (x_iload_n (pc' := 8) rfl rfl rfl (x_iload_n (pc' := 9) rfl rfl rfl (x_iload_n (pc' := 10) rfl rfl rfl (x_invI4 (pc' := 13) rfl rfl rfl rfl rfl rfl (c_X9_bestOf x hx _ k hk hr np hnp hn7) ?_)))))
      rw [best_ld hn7, hl]
      refine x_istore4 (pc' := 15) rfl rfl rfl (x_iload (pc' := 17) rfl rfl rfl (x_iconst (pc' := 18) rfl rfl ?_))
      refine x_icmp_ne (pc' := 21) rfl rfl (fun h18 => absurd h18 (nI_ne1 (by omega))) (fun h18 => ?_)
      refine x_iconst (pc' := 26) rfl rfl (x_iload (pc' := 28) rfl rfl rfl (x_ishl (pc' := 29) rfl rfl (x_istore5 (pc' := 31) rfl rfl rfl (x_iconst (pc' := 32) rfl rfl (x_istore6 (pc' := 34) rfl rfl rfl ?_)))))
      refine x_iload (pc' := 36) rfl rfl rfl (x_aload_n (pc' := 37) rfl rfl rfl (x_getI (pc' := 40) rfl rfl rfl ?_))
      rw [hnp]
      refine x_icmp_ge (pc' := 43) rfl rfl (fun h40 => absurd h40 (by intro z; exact nI_ge (show 0 < np by omega) (by omega) z)) (fun h40 => ?_)
      refine x_aload_n (pc' := 44) rfl rfl rfl (x_getI (pc' := 47) rfl rfl rfl (x_iconst (pc' := 48) rfl rfl ?_))
      refine x_icmp_ne (pc' := 51) rfl rfl (fun h48 => absurd h48 h2) (fun h48 => ?_)
      refine x_iload (pc' := 100) rfl rfl rfl ?_
      refine x_iret rfl rfl ?_
      exact rI (FSM_1 hn7 hl h2)
set_option maxRecDepth 20000 in
theorem c_X9_secondOne {l : Launch} {X : XT} {d Lz : Nat} {w : Nat → Nat → Nat → Nat → Int32} (x : Nat) (hx : x + 130 ≤ 4420) (k : Nat) (hk : k < 3) (hr : w 9 0 1 (x + 46) = 0 ∨ w 9 0 1 (x + 46) = nI 1) (np : Nat) (hnp : w 9 0 0 6 = nI np) (hn7 : np ≤ 7) : CT l X (d + 5) md_X9_secondOne [.inr (.inr (9, 0, 0)), .inl (nI x), .inl (nI k)] (mk Lz w) (some (.inl (oI (SNM w x k np)))) (mk Lz w) := by
  show WP l X _ md_X9_secondOne (0, [some (.inr (.inr (9, 0, 0))), some (.inl (nI x)), some (.inl (nI k))], [], _) _
  refine x_aload_n (pc' := 1) rfl rfl rfl (x_iload_n (pc' := 2) rfl rfl rfl (x_aload_n (pc' := 3) rfl rfl rfl (x_iload_n (pc' := 4) rfl rfl rfl (x_invI2 (pc' := 7) rfl rfl rfl rfl (c_X9_courtIn x hx np hnp hn7) ?_))))
  refine x_aload_n (pc' := 8) rfl rfl rfl (x_iload_n (pc' := 9) rfl rfl rfl (x_iload_n (pc' := 10) rfl rfl rfl (x_invI3 (pc' := 13) rfl rfl rfl rfl rfl (c_X9_firstOnes x hx k hk hr np hnp hn7) ?_)))
  refine x_iconst (pc' := 14) rfl rfl (x_ixor (pc' := 15) rfl rfl (x_iand (pc' := 16) rfl rfl ?_))
  rw [enc_diff (by omega)]
  refine x_iload_n (pc' := 17) rfl rfl rfl (x_invI4 (pc' := 20) rfl rfl rfl rfl rfl rfl (c_X9_bestOf x hx _ k hk hr np hnp hn7) ?_)
  refine x_iret rfl rfl ?_
  exact rI (by rw [show bst (has (enc (fun p => cM w x p && !FSM w x k np p) np)) (aM w x k) np = SNM w x k np from bst_congr np (fun p hp => has_enc (by omega) hp) (fun _ _ _ _ => rfl)])
