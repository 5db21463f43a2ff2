/-! small methods -/
def bI (b : Bool) : Int32 := bif b then nI 1 else nI 0
theorem bI_t {b : Bool} (h : b = true) : bI b = nI 1 := by rw [h]; rfl
theorem bI_f {b : Bool} (h : b = false) : bI b = nI 0 := by rw [h]; rfl
theorem bI_eq0 {b : Bool} : bI b = 0 ↔ b = false := by cases b <;> decide
theorem bI_01 (b : Bool) : bI b = 0 ∨ bI b = 1 := by cases b <;> decide
def inB (v lo hi : Int32) : Bool := decide (lo ≤ v) && decide (v ≤ hi)
theorem inB_t {v lo hi : Int32} (h1 : ¬ v < lo) (h2 : ¬ hi < v) : inB v lo hi = true := by
  simp only [inB, Bool.and_eq_true, decide_eq_true_eq]
  exact ⟨Int32.not_lt.mp h1, Int32.not_lt.mp h2⟩
theorem inB_f1 {v lo hi : Int32} (h1 : v < lo) : inB v lo hi = false := by
  simp only [inB, Bool.and_eq_false_iff, decide_eq_false_iff_not]
  exact Or.inl (Int32.not_le.mpr h1)
theorem inB_f2 {v lo hi : Int32} (h1 : hi < v) : inB v lo hi = false := by
  simp only [inB, Bool.and_eq_false_iff, decide_eq_false_iff_not]
  exact Or.inr (Int32.not_le.mpr h1)
theorem sI {x y : Int32} {M : Mem} (h : x = y) : some (Sum.inl x) = (some (Sum.inl y) : Option AV) ∧ M = M := ⟨by rw [h], rfl⟩
theorem sM {x y : Int32} {M M1 : Mem} (h : x = y) (h2 : M = M1) : some (Sum.inl x) = (some (Sum.inl y) : Option AV) ∧ M = M1 := ⟨by rw [h], h2⟩
set_option maxRecDepth 20000 in
theorem c_X8_isWithin {l : Launch} {X : XT} {d : Nat} {M : Mem} (v lo hi : Int32) : CT l X (d + 1) md_X8_isWithin [.inl v, .inl lo, .inl hi] (M) (some (.inl (bI (inB v lo hi)))) (M) := by
  show WP l X _ md_X8_isWithin (0, [some (.inl v), some (.inl lo), some (.inl hi)], [], _) _
  refine x_iload_n (pc' := 1) rfl rfl rfl (x_iload_n (pc' := 2) rfl rfl rfl ?_)
  refine x_icmp_lt (pc' := 5) rfl rfl (fun h2 => ?_) (fun h2 => ?_)
  · refine x_iconst (pc' := 15) rfl rfl ?_
    refine x_zret rfl rfl (by decide) ?_
    exact sI (by first | exact (bI_t (inB_t h2 h7)).symm | exact (bI_f (inB_f1 h2)).symm | exact (bI_f (inB_f2 h7)).symm)
  · refine x_iload_n (pc' := 6) rfl rfl rfl (x_iload_n (pc' := 7) rfl rfl rfl ?_)
    refine x_icmp_gt (pc' := 10) rfl rfl (fun h7 => ?_) (fun h7 => ?_)
    · refine x_iconst (pc' := 15) rfl rfl ?_
      refine x_zret rfl rfl (by decide) ?_
      exact sI (by first | exact (bI_t (inB_t h2 h7)).symm | exact (bI_f (inB_f1 h2)).symm | exact (bI_f (inB_f2 h7)).symm)
    · refine x_iconst (pc' := 11) rfl rfl (x_goto rfl ?_)
      refine x_zret rfl rfl (by decide) ?_
      exact sI (by first | exact (bI_t (inB_t h2 h7)).symm | exact (bI_f (inB_f1 h2)).symm | exact (bI_f (inB_f2 h7)).symm)
set_option maxRecDepth 20000 in
theorem c_X9_in {l : Launch} {X : XT} {d : Nat} {M : Mem} (v lo hi : Int32) : CT l X (d + 1) md_X9_in [.inl v, .inl lo, .inl hi] (M) (some (.inl (bI (inB v lo hi)))) (M) := by
  show WP l X _ md_X9_in (0, [some (.inl v), some (.inl lo), some (.inl hi)], [], _) _
  refine x_iload_n (pc' := 1) rfl rfl rfl (x_iload_n (pc' := 2) rfl rfl rfl ?_)
  refine x_icmp_lt (pc' := 5) rfl rfl (fun h2 => ?_) (fun h2 => ?_)
  · refine x_iconst (pc' := 15) rfl rfl ?_
    refine x_zret rfl rfl (by decide) ?_
    exact sI (by first | exact (bI_t (inB_t h2 h7)).symm | exact (bI_f (inB_f1 h2)).symm | exact (bI_f (inB_f2 h7)).symm)
  · refine x_iload_n (pc' := 6) rfl rfl rfl (x_iload_n (pc' := 7) rfl rfl rfl ?_)
    refine x_icmp_gt (pc' := 10) rfl rfl (fun h7 => ?_) (fun h7 => ?_)
    · refine x_iconst (pc' := 15) rfl rfl ?_
      refine x_zret rfl rfl (by decide) ?_
      exact sI (by first | exact (bI_t (inB_t h2 h7)).symm | exact (bI_f (inB_f1 h2)).symm | exact (bI_f (inB_f2 h7)).symm)
    · refine x_iconst (pc' := 11) rfl rfl (x_goto rfl ?_)
      refine x_zret rfl rfl (by decide) ?_
      exact sI (by first | exact (bI_t (inB_t h2 h7)).symm | exact (bI_f (inB_f1 h2)).symm | exact (bI_f (inB_f2 h7)).symm)
set_option maxRecDepth 20000 in
theorem c_X8_isKind {l : Launch} {X : XT} {d : Nat} {M : Mem} (v : Int32) : CT l X (d + 2) md_X8_isKind [.inl v] (M) (some (.inl (bI (inB v (nI 0) (nI 2))))) (M) := by
  show WP l X _ md_X8_isKind (0, [some (.inl v)], [], _) _
  refine x_iload_n (pc' := 1) rfl rfl rfl (x_iconst (pc' := 2) rfl rfl (x_iconst (pc' := 3) rfl rfl (x_invS3 (pc' := 6) rfl rfl rfl rfl rfl rfl (c_X8_isWithin _ _ _) ?_)))
  refine x_zret rfl rfl (bI_01 _) ?_
  exact sI rfl
set_option maxRecDepth 20000 in
theorem c_X9_isKind {l : Launch} {X : XT} {d : Nat} {M : Mem} (v : Int32) : CT l X (d + 2) md_X9_isKind [.inl v] (M) (some (.inl (bI (inB v (nI 0) (nI 2))))) (M) := by
  show WP l X _ md_X9_isKind (0, [some (.inl v)], [], _) _
  refine x_iload_n (pc' := 1) rfl rfl rfl (x_iconst (pc' := 2) rfl rfl (x_iconst (pc' := 3) rfl rfl (x_invS3 (pc' := 6) rfl rfl rfl rfl rfl rfl (c_X9_in _ _ _) ?_)))
  refine x_zret rfl rfl (bI_01 _) ?_
  exact sI rfl
set_option maxRecDepth 20000 in
theorem c_X8_isPerson {l : Launch} {X : XT} {d Lz : Nat} {w : Nat → Nat → Nat → Nat → Int32} (v : Int32) : CT l X (d + 2) md_X8_isPerson [.inr (.inr (8, 0, 0)), .inl v] (mk Lz w) (some (.inl (bI (inB v (nI 0) (w 4 (w 8 0 0 8).toNatClampNeg 0 6 - nI 1))))) (mk Lz w) := by
  show WP l X _ md_X8_isPerson (0, [some (.inr (.inr (8, 0, 0))), some (.inl v)], [], _) _
  refine x_iload_n (pc' := 1) rfl rfl rfl (x_iconst (pc' := 2) rfl rfl (x_aload_n (pc' := 3) rfl rfl rfl (x_getR (pc' := 6) (t := (4, _, 0)) rfl rfl rfl (x_getI (pc' := 9) rfl rfl rfl (x_iconst (pc' := 10) rfl rfl ?_)))))
  refine x_isub (pc' := 11) rfl rfl (x_invS3 (pc' := 14) rfl rfl rfl rfl rfl rfl (c_X8_isWithin _ _ _) ?_)
  refine x_zret rfl rfl (bI_01 _) ?_
  exact sI rfl
set_option maxRecDepth 20000 in
theorem c_X8_isOffice {l : Launch} {X : XT} {d Lz : Nat} {w : Nat → Nat → Nat → Nat → Int32} (v : Int32) : CT l X (d + 2) md_X8_isOffice [.inr (.inr (8, 0, 0)), .inl v] (mk Lz w) (some (.inl (bI (inB v (nI 0) (w 4 (w 8 0 0 8).toNatClampNeg 0 8 - nI 1))))) (mk Lz w) := by
  show WP l X _ md_X8_isOffice (0, [some (.inr (.inr (8, 0, 0))), some (.inl v)], [], _) _
  refine x_iload_n (pc' := 1) rfl rfl rfl (x_iconst (pc' := 2) rfl rfl (x_aload_n (pc' := 3) rfl rfl rfl (x_getR (pc' := 6) (t := (4, _, 0)) rfl rfl rfl (x_getI (pc' := 9) rfl rfl rfl (x_iconst (pc' := 10) rfl rfl ?_)))))
  refine x_isub (pc' := 11) rfl rfl (x_invS3 (pc' := 14) rfl rfl rfl rfl rfl rfl (c_X8_isWithin _ _ _) ?_)
  refine x_zret rfl rfl (bI_01 _) ?_
  exact sI rfl
set_option maxRecDepth 20000 in
theorem c_X9_isPerson {l : Launch} {X : XT} {d Lz : Nat} {w : Nat → Nat → Nat → Nat → Int32} (v : Int32) : CT l X (d + 2) md_X9_isPerson [.inr (.inr (9, 0, 0)), .inl v] (mk Lz w) (some (.inl (bI (inB v (nI 0) (w 9 0 0 6 - nI 1))))) (mk Lz w) := by
  show WP l X _ md_X9_isPerson (0, [some (.inr (.inr (9, 0, 0))), some (.inl v)], [], _) _
  refine x_iload_n (pc' := 1) rfl rfl rfl (x_iconst (pc' := 2) rfl rfl (x_aload_n (pc' := 3) rfl rfl rfl (x_getI (pc' := 6) rfl rfl rfl (x_iconst (pc' := 7) rfl rfl (x_isub (pc' := 8) rfl rfl ?_)))))
  refine x_invS3 (pc' := 11) rfl rfl rfl rfl rfl rfl (c_X9_in _ _ _) ?_
  refine x_zret rfl rfl (bI_01 _) ?_
  exact sI rfl
set_option maxRecDepth 20000 in
theorem c_X9_isOffice {l : Launch} {X : XT} {d Lz : Nat} {w : Nat → Nat → Nat → Nat → Int32} (v : Int32) : CT l X (d + 2) md_X9_isOffice [.inr (.inr (9, 0, 0)), .inl v] (mk Lz w) (some (.inl (bI (inB v (nI 0) (w 9 0 0 7 - nI 1))))) (mk Lz w) := by
  show WP l X _ md_X9_isOffice (0, [some (.inr (.inr (9, 0, 0))), some (.inl v)], [], _) _
  refine x_iload_n (pc' := 1) rfl rfl rfl (x_iconst (pc' := 2) rfl rfl (x_aload_n (pc' := 3) rfl rfl rfl (x_getI (pc' := 6) rfl rfl rfl (x_iconst (pc' := 7) rfl rfl (x_isub (pc' := 8) rfl rfl ?_)))))
  refine x_invS3 (pc' := 11) rfl rfl rfl rfl rfl rfl (c_X9_in _ _ _) ?_
  refine x_zret rfl rfl (bI_01 _) ?_
  exact sI rfl
def mxI (x y : Int32) : Int32 := if x < y then y else x
def mnI (x y : Int32) : Int32 := if y < x then y else x
def cpI (x y : Int32) : Int32 := if y ≤ x then (if x = y then nI 0 else nI 1) else -1
set_option maxRecDepth 20000 in
theorem c_J9_max_7cf53 {l : Launch} {X : XT} {d : Nat} {M : Mem} (x y : Int32) : CT l X (d + 1) md_J9_max_7cf53 [.inl x, .inl y] (M) (some (.inl (mxI x y))) (M) := by
  show WP l X _ md_J9_max_7cf53 (0, [some (.inl x), some (.inl y)], [], _) _
  refine x_iload_n (pc' := 1) rfl rfl rfl (x_iload_n (pc' := 2) rfl rfl rfl ?_)
  refine x_icmp_lt (pc' := 5) rfl rfl (fun h2 => ?_) (fun h2 => ?_)
  · refine x_iload_n (pc' := 10) rfl rfl rfl ?_
    refine x_iret rfl rfl ?_
    exact sI (by simp only [mxI]; first | rw [if_pos h2] | rw [if_neg h2])
  · refine x_iload_n (pc' := 6) rfl rfl rfl (x_goto rfl ?_)
    refine x_iret rfl rfl ?_
    exact sI (by simp only [mxI]; first | rw [if_pos h2] | rw [if_neg h2])
set_option maxRecDepth 20000 in
theorem c_J9_min_7cf53 {l : Launch} {X : XT} {d : Nat} {M : Mem} (x y : Int32) : CT l X (d + 1) md_J9_min_7cf53 [.inl x, .inl y] (M) (some (.inl (mnI x y))) (M) := by
  show WP l X _ md_J9_min_7cf53 (0, [some (.inl x), some (.inl y)], [], _) _
  refine x_iload_n (pc' := 1) rfl rfl rfl (x_iload_n (pc' := 2) rfl rfl rfl ?_)
  refine x_icmp_gt (pc' := 5) rfl rfl (fun h2 => ?_) (fun h2 => ?_)
  · refine x_iload_n (pc' := 10) rfl rfl rfl ?_
    refine x_iret rfl rfl ?_
    exact sI (by simp only [mnI]; first | rw [if_pos h2] | rw [if_neg h2])
  · refine x_iload_n (pc' := 6) rfl rfl rfl (x_goto rfl ?_)
    refine x_iret rfl rfl ?_
    exact sI (by simp only [mnI]; first | rw [if_pos h2] | rw [if_neg h2])
set_option maxRecDepth 20000 in
theorem c_J6_compare_7cf53 {l : Launch} {X : XT} {d : Nat} {M : Mem} (x y : Int32) : CT l X (d + 1) md_J6_compare_7cf53 [.inl x, .inl y] (M) (some (.inl (cpI x y))) (M) := by
  show WP l X _ md_J6_compare_7cf53 (0, [some (.inl x), some (.inl y)], [], _) _
  refine x_iload_n (pc' := 1) rfl rfl rfl (x_iload_n (pc' := 2) rfl rfl rfl ?_)
  refine x_icmp_ge (pc' := 5) rfl rfl (fun h2 => ?_) (fun h2 => ?_)
  · refine x_iload_n (pc' := 10) rfl rfl rfl (x_iload_n (pc' := 11) rfl rfl rfl ?_)
    refine x_icmp_ne (pc' := 14) rfl rfl (fun h11 => ?_) (fun h11 => ?_)
    · refine x_iconst (pc' := 15) rfl rfl (x_goto rfl ?_)
      refine x_iret rfl rfl ?_
      exact sI (by simp only [cpI]; first | rw [if_neg h2] | rw [if_pos h2, if_pos h11] | rw [if_pos h2, if_neg h11])
    · refine x_iconst (pc' := 19) rfl rfl ?_
      refine x_iret rfl rfl ?_
      exact sI (by simp only [cpI]; first | rw [if_neg h2] | rw [if_pos h2, if_pos h11] | rw [if_pos h2, if_neg h11])
  · refine x_iconst (pc' := 6) rfl rfl (x_goto rfl ?_)
    refine x_iret rfl rfl ?_
    exact sI (by simp only [cpI]; first | rw [if_neg h2] | rw [if_pos h2, if_pos h11] | rw [if_pos h2, if_neg h11])
