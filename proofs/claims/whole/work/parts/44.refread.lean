/-! what is read from a row; counts -/
theorem add_0 (x : Int32) : x + nI 0 = x := Int32.add_zero x
def bcV (x0 : Int32) : Int32 :=
  let us := fun (x y : Int32) => (x.toUInt32 >>> (y.toUInt32 &&& Int32.toUInt32 31)).toInt32
  let x1 := x0 - (us x0 (nI 1) &&& nI 1431655765)
  let x2 := (x1 &&& nI 858993459) + (us x1 (nI 2) &&& nI 858993459)
  let x3 := (x2 + us x2 (nI 4)) &&& nI 252645135
  let x4 := x3 + us x3 (nI 8)
  let x5 := x4 + us x4 (nI 16)
  x5 &&& nI 63
def btV (x : Int32) : Nat → Int32
  | 0 => nI 0
  | n + 1 => btV x n + ((x >>> (nI n &&& 31)) &&& nI 1)
def pop : Nat → Nat → Nat
  | 0, _ => 0
  | n + 1, m => m % 2 + pop n (m / 2)
theorem bc_pop : ∀ m, m < 128 → bcV (nI m) = nI (pop 7 m) := by decide +kernel
theorem bt_pop : ∀ m, m < 128 → btV (nI m) 7 = nI (pop 7 m) := by decide +kernel
theorem pop_le : ∀ n m, pop n m ≤ n
  | 0, _ => Nat.le_refl 0
  | n + 1, m => by
    have := pop_le n (m / 2)
    show m % 2 + pop n (m / 2) ≤ n + 1
    omega
theorem enc_num {f : Nat → Bool} {n : Nat} (hn : n ≤ 7) : ∃ m, m < 2 ^ n ∧ enc f n = nI m ∧ ∀ i, m.testBit i = (decide (i < n) && f i) := by
  have hb : ∀ i, (enc f n).toBitVec.toNat.testBit i = (decide (i < n) && f i) := by
    intro i
    show (enc f n).toBitVec.getLsbD i = _
    by_cases z : i < 32
    · exact enc_bit n (by omega) i z
    · rw [BitVec.getLsbD_of_ge _ _ (by omega)]
      have : ¬ i < n := by omega
      simp [this]
  refine ⟨(enc f n).toBitVec.toNat, ?_, ?_, hb⟩
  · apply Nat.lt_pow_two_of_testBit
    intro i hi
    rw [hb i]
    have : ¬ i < n := by omega
    simp [this]
  · apply i32_ext
    intro i hi
    show _ = (Int32.ofNat (enc f n).toBitVec.toNat).toBitVec.getLsbD i
    rw [Int32.toBitVec_ofNat']
    simp
set_option maxRecDepth 20000 in
theorem c_J6_bitCount_0f7a4 {l : Launch} {X : XT} {d : Nat} {M : Mem} (x : Int32) : CT l X (d + 1) md_J6_bitCount_0f7a4 [.inl (x)] (M) (some (.inl (bcV x))) (M) := by
  show WP l X _ md_J6_bitCount_0f7a4 (0, [some (.inl (x))], [], _) _
  refine x_iload_n (pc' := 1) rfl rfl rfl (x_iload_n (pc' := 2) rfl rfl rfl (x_iconst (pc' := 3) rfl rfl (x_iushr (pc' := 4) rfl rfl (x_ldc_w (pc' := 7) rfl rfl (x_iand (pc' := 8) rfl rfl ?_)))))
  refine x_isub (pc' := 9) rfl rfl (x_istore_n0 (pc' := 10) rfl rfl (x_iload_n (pc' := 11) rfl rfl rfl (x_ldc_w (pc' := 14) rfl rfl (x_iand (pc' := 15) rfl rfl (x_iload_n (pc' := 16) rfl rfl rfl ?_)))))
  refine x_iconst (pc' := 17) rfl rfl (x_iushr (pc' := 18) rfl rfl (x_ldc_w (pc' := 21) rfl rfl (x_iand (pc' := 22) rfl rfl (x_iadd (pc' := 23) rfl rfl (x_istore_n0 (pc' := 24) rfl rfl ?_)))))
  refine x_iload_n (pc' := 25) rfl rfl rfl (x_iload_n (pc' := 26) rfl rfl rfl (x_iconst (pc' := 27) rfl rfl (x_iushr (pc' := 28) rfl rfl (x_iadd (pc' := 29) rfl rfl (x_ldc_w (pc' := 32) rfl rfl ?_)))))
  refine x_iand (pc' := 33) rfl rfl (x_istore_n0 (pc' := 34) rfl rfl (x_iload_n (pc' := 35) rfl rfl rfl (x_iload_n (pc' := 36) rfl rfl rfl (x_bipush (pc' := 38) rfl rfl (x_iushr (pc' := 39) rfl rfl ?_)))))
  refine x_iadd (pc' := 40) rfl rfl (x_istore_n0 (pc' := 41) rfl rfl (x_iload_n (pc' := 42) rfl rfl rfl (x_iload_n (pc' := 43) rfl rfl rfl (x_bipush (pc' := 45) rfl rfl (x_iushr (pc' := 46) rfl rfl ?_)))))
  refine x_iadd (pc' := 47) rfl rfl (x_istore_n0 (pc' := 48) rfl rfl (x_iload_n (pc' := 49) rfl rfl rfl (x_bipush (pc' := 51) rfl rfl (x_iand (pc' := 52) rfl rfl ?_))))
  refine x_iret rfl rfl ?_
  exact rI rfl
set_option maxRecDepth 20000 in
theorem l_X9_bits {l : Launch} {X : XT} {d : Nat} {M : Mem} (x : Int32) : ∀ (k n : Nat),  n ≤ 7 → 7 + 1 ≤ n + k → WP l X (d + 1) md_X9_bits (4, [some (.inl (x)), some (.inl (btV x n)), some (.inl (nI n))], [], M) (fun v M' => v = some (.inl (btV x 7)) ∧ M' = M) := by
  intro k
  induction k with
  | zero =>
    intro n h1 h2
    exact absurd h2 (by omega)
  | succ k ih =>
    intro n hi1 hi2
    refine x_iload_n (pc' := 5) rfl rfl rfl (x_bipush (pc' := 7) rfl rfl ?_)
    refine x_icmp_geN (pc' := 10) rfl rfl (by omega) (by omega) (fun h7 => ?_) (fun h7 => ?_)
    · refine x_iload_n (pc' := 25) rfl rfl rfl ?_
      refine x_iret rfl rfl ?_
      have e : n = 7 := by omega
      subst e
      exact rI rfl
    · refine x_iload_n (pc' := 11) rfl rfl rfl (x_iload_n (pc' := 12) rfl rfl rfl (x_iload_n (pc' := 13) rfl rfl rfl (x_ishr (pc' := 14) rfl rfl (x_iconst (pc' := 15) rfl rfl (x_iand (pc' := 16) rfl rfl ?_)))))
      refine x_iadd (pc' := 17) rfl rfl (x_istore_n1 (pc' := 18) rfl rfl rfl (x_iinc2 (pc' := 21) rfl rfl rfl (nI_add _ _) (x_goto rfl ?_)))
      exact ih (n + 1) (by omega) (by omega)
set_option maxRecDepth 20000 in
theorem c_X9_bits {l : Launch} {X : XT} {d : Nat} {M : Mem} (x : Int32) : CT l X (d + 1) md_X9_bits [.inl (x)] (M) (some (.inl (btV x 7))) (M) := by
  show WP l X _ md_X9_bits (0, [some (.inl (x)), none, none], [], _) _
  refine x_iconst (pc' := 1) rfl rfl (x_istore_n1 (pc' := 2) rfl rfl rfl (x_iconst (pc' := 3) rfl rfl (x_istore_n2 (pc' := 4) rfl rfl rfl ?_)))
  exact l_X9_bits x 8 0 (by omega) (by omega)
set_option maxRecDepth 20000 in
theorem l_X9_nearly {l : Launch} {X : XT} {d Lz : Nat} {w : Nat → Nat → Nat → Nat → Int32} {K : Kg} {s : Sa} (hV : KV K) (hK : KM w K) (h : RR w K 0 s) : ∀ (kk n : Nat), ∀ (f b : Option Nat), nrl s.ti n = (f, b) →  n ≤ K.np → K.np + 1 ≤ n + kk → WP l X (d + 1) md_X9_nearly (6, [some (.inr (.inr (9, 0, 0))), some (.inl (oI f)), some (.inl (oI b)), some (.inl (nI n))], [], mk Lz w) (fun v M' => v = some (.inl (oI (nrl s.ti K.np).2)) ∧ M' = mk Lz w) := by
  intro kk
  induction kk with
  | zero =>
    intro n f b hfb h1 h2
    exact absurd h2 (by omega)
  | succ kk ih =>
    intro n f b hfb hi1 hi2
    have hv7 := hV.1
    have hv4 := hV.2.1
    have hnp := hK.2.2.1
    have hno := hK.2.2.2.2.1
    have hg : ∀ q, q < 21 → w 9 0 1 q = s.g q := fun q hq => by have := h.1 q hq; rwa [Nat.zero_add] at this
    have ht : ∀ q, q < K.np → w 9 0 1 (35 + q) = s.ti q := fun q hq => h.2.2.2.1 q hq
    have hh : ∀ q, q < K.no → w 9 0 1 (42 + q) = s.ho q := fun q hq => h.2.2.2.2.1 q hq
    have hcm : ∀ q, q < K.np → cM w 0 q = coA s q := h.co
    have hlt := nrl_lt (t := s.ti) n
    rw [hfb] at hlt
    cases f with
    | none =>
      show WP l X _ md_X9_nearly (6, [some (.inr (.inr (9, 0, 0))), some (.inl (-1)), some (.inl (oI b)), some (.inl (nI n))], [], _) _
      refine x_iload_n (pc' := 7) rfl rfl rfl (x_aload_n (pc' := 8) rfl rfl rfl (x_getI (pc' := 11) rfl rfl rfl ?_))
      rw [hnp]
      refine x_icmp_geN (pc' := 14) rfl rfl (by omega) (by omega) (fun h11 => ?_) (fun h11 => ?_)
      · refine x_iload_n (pc' := 82) rfl rfl rfl ?_
        refine x_iret rfl rfl ?_
        have e : n = K.np := by omega
        subst e
        exact rI (by rw [hfb] <;> rfl)
      · refine x_iload_n (pc' := 15) rfl rfl rfl (x_iconst (pc' := 16) rfl rfl ?_)
        refine x_icmp_eq (pc' := 19) rfl rfl (fun h16 => ?_) (fun h16 => absurd rfl h16)
        refine x_iload_n (pc' := 41) rfl rfl rfl (x_istore_n2 (pc' := 42) rfl rfl rfl (x_iload_n (pc' := 43) rfl rfl rfl (x_istore_n1 (pc' := 44) rfl rfl rfl (x_goto rfl (x_iinc3 (pc' := 78) rfl rfl rfl (nI_add _ _) ?_)))))
        refine x_goto rfl ?_
        exact ih (n + 1) (some n) none (nrl_s hfb (by simp only [nrs])) (by omega) (by omega)
    | some f =>
      have hf := hlt.1 f rfl
      cases b with
      | none =>
        show WP l X _ md_X9_nearly (6, [some (.inr (.inr (9, 0, 0))), some (.inl (nI f)), some (.inl (-1)), some (.inl (nI n))], [], _) _
        refine x_iload_n (pc' := 7) rfl rfl rfl (x_aload_n (pc' := 8) rfl rfl rfl (x_getI (pc' := 11) rfl rfl rfl ?_))
        rw [hnp]
        refine x_icmp_geN (pc' := 14) rfl rfl (by omega) (by omega) (fun h11 => ?_) (fun h11 => ?_)
        · refine x_iload_n (pc' := 82) rfl rfl rfl ?_
          refine x_iret rfl rfl ?_
          have e : n = K.np := by omega
          subst e
          exact rI (by rw [hfb] <;> rfl)
        · refine x_iload_n (pc' := 15) rfl rfl rfl (x_iconst (pc' := 16) rfl rfl ?_)
          refine x_icmp_eq (pc' := 19) rfl rfl (fun h16 => absurd h16 (nI_ne1 (by omega))) (fun h16 => ?_)
          refine x_aload_n (pc' := 20) rfl rfl rfl (x_getR (pc' := 23) (t := (9, _, 1)) rfl rfl rfl (x_bipush (pc' := 25) rfl rfl (x_iload_n (pc' := 26) rfl rfl rfl (x_iaddN (pc' := 27) rfl rfl (x_iald (pc' := 28) (N := 4420) rfl rfl rfl rfl (by first | assumption | omega) (by decide) ?_)))))
          rw [ht n (by omega)]
          refine x_aload_n (pc' := 29) rfl rfl rfl (x_getR (pc' := 32) (t := (9, _, 1)) rfl rfl rfl (x_bipush (pc' := 34) rfl rfl (x_iload_n (pc' := 35) rfl rfl rfl (x_iaddN (pc' := 36) rfl rfl (x_iald (pc' := 37) (N := 4420) rfl rfl rfl rfl (by first | assumption | omega) (by decide) ?_)))))
          rw [ht f (by omega)]
          refine x_icmp_le (pc' := 40) rfl rfl (fun h37 => ?_) (fun h37 => ?_)
          · refine x_iload_n (pc' := 48) rfl rfl rfl (x_iconst (pc' := 49) rfl rfl ?_)
            refine x_icmp_eq (pc' := 52) rfl rfl (fun h49 => ?_) (fun h49 => absurd rfl h49)
            refine x_iload_n (pc' := 74) rfl rfl rfl (x_istore_n2 (pc' := 75) rfl rfl rfl (x_iinc3 (pc' := 78) rfl rfl rfl (nI_add _ _) (x_goto rfl ?_)))
            first | exact ih (n + 1) (some n) (some f) (nrl_s hfb (by simp only [nrs, if_neg h37])) (by omega) (by omega) | exact ih (n + 1) (some f) (some n) (nrl_s hfb (by simp only [nrs, if_pos h37])) (by omega) (by omega)
          · refine x_iload_n (pc' := 41) rfl rfl rfl (x_istore_n2 (pc' := 42) rfl rfl rfl (x_iload_n (pc' := 43) rfl rfl rfl (x_istore_n1 (pc' := 44) rfl rfl rfl (x_goto rfl (x_iinc3 (pc' := 78) rfl rfl rfl (nI_add _ _) ?_)))))
            refine x_goto rfl ?_
            first | exact ih (n + 1) (some n) (some f) (nrl_s hfb (by simp only [nrs, if_neg h37])) (by omega) (by omega) | exact ih (n + 1) (some f) (some n) (nrl_s hfb (by simp only [nrs, if_pos h37])) (by omega) (by omega)
      | some b =>
        have hb := hlt.2 b rfl
        show WP l X _ md_X9_nearly (6, [some (.inr (.inr (9, 0, 0))), some (.inl (nI f)), some (.inl (nI b)), some (.inl (nI n))], [], _) _
        refine x_iload_n (pc' := 7) rfl rfl rfl (x_aload_n (pc' := 8) rfl rfl rfl (x_getI (pc' := 11) rfl rfl rfl ?_))
        rw [hnp]
        refine x_icmp_geN (pc' := 14) rfl rfl (by omega) (by omega) (fun h11 => ?_) (fun h11 => ?_)
        · refine x_iload_n (pc' := 82) rfl rfl rfl ?_
          refine x_iret rfl rfl ?_
          have e : n = K.np := by omega
          subst e
          exact rI (by rw [hfb] <;> rfl)
        · refine x_iload_n (pc' := 15) rfl rfl rfl (x_iconst (pc' := 16) rfl rfl ?_)
          refine x_icmp_eq (pc' := 19) rfl rfl (fun h16 => absurd h16 (nI_ne1 (by omega))) (fun h16 => ?_)
          refine x_aload_n (pc' := 20) rfl rfl rfl (x_getR (pc' := 23) (t := (9, _, 1)) rfl rfl rfl (x_bipush (pc' := 25) rfl rfl (x_iload_n (pc' := 26) rfl rfl rfl (x_iaddN (pc' := 27) rfl rfl (x_iald (pc' := 28) (N := 4420) rfl rfl rfl rfl (by first | assumption | omega) (by decide) ?_)))))
          rw [ht n (by omega)]
          refine x_aload_n (pc' := 29) rfl rfl rfl (x_getR (pc' := 32) (t := (9, _, 1)) rfl rfl rfl (x_bipush (pc' := 34) rfl rfl (x_iload_n (pc' := 35) rfl rfl rfl (x_iaddN (pc' := 36) rfl rfl (x_iald (pc' := 37) (N := 4420) rfl rfl rfl rfl (by first | assumption | omega) (by decide) ?_)))))
          rw [ht f (by omega)]
          refine x_icmp_le (pc' := 40) rfl rfl (fun h37 => ?_) (fun h37 => ?_)
          · refine x_iload_n (pc' := 48) rfl rfl rfl (x_iconst (pc' := 49) rfl rfl ?_)
            refine x_icmp_eq (pc' := 52) rfl rfl (fun h49 => absurd h49 (nI_ne1 (by omega))) (fun h49 => ?_)
            refine x_aload_n (pc' := 53) rfl rfl rfl (x_getR (pc' := 56) (t := (9, _, 1)) rfl rfl rfl (x_bipush (pc' := 58) rfl rfl (x_iload_n (pc' := 59) rfl rfl rfl (x_iaddN (pc' := 60) rfl rfl (x_iald (pc' := 61) (N := 4420) rfl rfl rfl rfl (by first | assumption | omega) (by decide) ?_)))))
            rw [ht n (by omega)]
            refine x_aload_n (pc' := 62) rfl rfl rfl (x_getR (pc' := 65) (t := (9, _, 1)) rfl rfl rfl (x_bipush (pc' := 67) rfl rfl (x_iload_n (pc' := 68) rfl rfl rfl (x_iaddN (pc' := 69) rfl rfl (x_iald (pc' := 70) (N := 4420) rfl rfl rfl rfl (by first | assumption | omega) (by decide) ?_)))))
            rw [ht b (by omega)]
            refine x_icmp_le (pc' := 73) rfl rfl (fun h70 => ?_) (fun h70 => ?_)
            · refine x_iinc3 (pc' := 78) rfl rfl rfl (nI_add _ _) (x_goto rfl ?_)
              first | exact ih (n + 1) (some n) (some f) (nrl_s hfb (by simp only [nrs, if_neg h37])) (by omega) (by omega) | exact ih (n + 1) (some f) (some n) (nrl_s hfb (by simp only [nrs, if_pos h37, if_neg h70])) (by omega) (by omega) | exact ih (n + 1) (some f) (some b) (nrl_s hfb (by simp only [nrs, if_pos h37, if_pos h70])) (by omega) (by omega)
            · refine x_iload_n (pc' := 74) rfl rfl rfl (x_istore_n2 (pc' := 75) rfl rfl rfl (x_iinc3 (pc' := 78) rfl rfl rfl (nI_add _ _) (x_goto rfl ?_)))
              first | exact ih (n + 1) (some n) (some f) (nrl_s hfb (by simp only [nrs, if_neg h37])) (by omega) (by omega) | exact ih (n + 1) (some f) (some n) (nrl_s hfb (by simp only [nrs, if_pos h37, if_neg h70])) (by omega) (by omega) | exact ih (n + 1) (some f) (some b) (nrl_s hfb (by simp only [nrs, if_pos h37, if_pos h70])) (by omega) (by omega)
          · refine x_iload_n (pc' := 41) rfl rfl rfl (x_istore_n2 (pc' := 42) rfl rfl rfl (x_iload_n (pc' := 43) rfl rfl rfl (x_istore_n1 (pc' := 44) rfl rfl rfl (x_goto rfl (x_iinc3 (pc' := 78) rfl rfl rfl (nI_add _ _) ?_)))))
            refine x_goto rfl ?_
            first | exact ih (n + 1) (some n) (some f) (nrl_s hfb (by simp only [nrs, if_neg h37])) (by omega) (by omega) | exact ih (n + 1) (some f) (some n) (nrl_s hfb (by simp only [nrs, if_pos h37, if_neg h70])) (by omega) (by omega) | exact ih (n + 1) (some f) (some b) (nrl_s hfb (by simp only [nrs, if_pos h37, if_pos h70])) (by omega) (by omega)
set_option maxRecDepth 20000 in
theorem c_X9_nearly {l : Launch} {X : XT} {d Lz : Nat} {w : Nat → Nat → Nat → Nat → Int32} {K : Kg} {s : Sa} (hV : KV K) (hK : KM w K) (h : RR w K 0 s) : CT l X (d + 1) md_X9_nearly [.inr (.inr (9, 0, 0))] (mk Lz w) (some (.inl (oI (nrl s.ti K.np).2))) (mk Lz w) := by
  show WP l X _ md_X9_nearly (0, [some (.inr (.inr (9, 0, 0))), none, none, none], [], _) _
  refine x_iconst (pc' := 1) rfl rfl (x_istore_n1 (pc' := 2) rfl rfl rfl (x_iconst (pc' := 3) rfl rfl (x_istore_n2 (pc' := 4) rfl rfl rfl (x_iconst (pc' := 5) rfl rfl (x_istore_n3 (pc' := 6) rfl rfl rfl ?_)))))
  exact l_X9_nearly hV hK h (K.np + 1) 0 none none rfl (by omega) (by omega)
set_option maxRecDepth 20000 in
theorem l_X9_doesBeat {l : Launch} {X : XT} {d Lz : Nat} {w : Nat → Nat → Nat → Nat → Int32} {K : Kg} {s : Sa} (hV : KV K) (hK : KM w K) (h : RR w K 0 s) (p q : Nat) (hp : p < K.np) (hq : q < K.np) : ∀ (kk n : Nat), ∀ (z1 z2 : Option AV),  n ≤ 3 → 3 + 1 ≤ n + kk → WP l X (d + 1) md_X9_doesBeat (5, [some (.inr (.inr (9, 0, 0))), some (.inl (nI p)), some (.inl (nI q)), some (.inl (cps s.g p q n)), some (.inl (nI n)), z1, z2], [], mk Lz w) (fun v M' => v = some (.inl (bI (btA s.g p q))) ∧ M' = mk Lz w) := by
  intro kk
  induction kk with
  | zero =>
    intro n z1 z2 h1 h2
    exact absurd h2 (by omega)
  | succ kk ih =>
    intro n z1 z2 hi1 hi2
    have hv7 := hV.1
    have hv4 := hV.2.1
    have hnp := hK.2.2.1
    have hno := hK.2.2.2.2.1
    have hg : ∀ q, q < 21 → w 9 0 1 q = s.g q := fun q hq => by have := h.1 q hq; rwa [Nat.zero_add] at this
    have ht : ∀ q, q < K.np → w 9 0 1 (35 + q) = s.ti q := fun q hq => h.2.2.2.1 q hq
    have hh : ∀ q, q < K.no → w 9 0 1 (42 + q) = s.ho q := fun q hq => h.2.2.2.2.1 q hq
    have hcm : ∀ q, q < K.np → cM w 0 q = coA s q := h.co
    refine x_iload (pc' := 7) rfl rfl rfl (x_iconst (pc' := 8) rfl rfl ?_)
    refine x_icmp_geN (pc' := 11) rfl rfl (by omega) (by omega) (fun h8 => ?_) (fun h8 => ?_)
    · refine x_iload_n (pc' := 70) rfl rfl rfl ?_
      refine x_if_le (pc' := 73) rfl rfl (fun h70 => ?_) (fun h70 => ?_)
      · refine x_iconst (pc' := 78) rfl rfl ?_
        refine x_zret rfl rfl (by decide) ?_
        have e : n = 3 := by omega
        subst e
        first | exact rI (bI_f (dF (fun z => z h70))).symm | exact rI (bI_t (dT h70)).symm
      · refine x_iconst (pc' := 74) rfl rfl (x_goto rfl ?_)
        refine x_zret rfl rfl (by decide) ?_
        have e : n = 3 := by omega
        subst e
        first | exact rI (bI_f (dF (fun z => z h70))).symm | exact rI (bI_t (dT h70)).symm
    · refine x_aload_n (pc' := 12) rfl rfl rfl (x_getR (pc' := 15) (t := (9, _, 1)) rfl rfl rfl (x_iconst (pc' := 16) rfl rfl (x_iload_n (pc' := 17) rfl rfl rfl (x_imulN (pc' := 18) rfl rfl (x_iload (pc' := 20) rfl rfl rfl ?_)))))
      refine x_iaddN (pc' := 21) rfl rfl (x_iald (pc' := 22) (N := 4420) rfl rfl rfl rfl (by first | assumption | omega) (by decide) ?_)
      rw [hg _ (by omega), Nat.mul_comm 3 p]
      refine x_istore5 (pc' := 24) rfl rfl rfl (x_aload_n (pc' := 25) rfl rfl rfl (x_getR (pc' := 28) (t := (9, _, 1)) rfl rfl rfl (x_iconst (pc' := 29) rfl rfl (x_iload_n (pc' := 30) rfl rfl rfl (x_imulN (pc' := 31) rfl rfl ?_)))))
      refine x_iload (pc' := 33) rfl rfl rfl (x_iaddN (pc' := 34) rfl rfl (x_iald (pc' := 35) (N := 4420) rfl rfl rfl rfl (by first | assumption | omega) (by decide) ?_))
      rw [hg _ (by omega), Nat.mul_comm 3 q]
      refine x_istore6 (pc' := 37) rfl rfl rfl (x_iload_n (pc' := 38) rfl rfl rfl (x_iload (pc' := 40) rfl rfl rfl (x_iload (pc' := 42) rfl rfl rfl ?_)))
      refine x_icmp_le (pc' := 45) rfl rfl (fun h42 => ?_) (fun h42 => ?_)
      · refine x_iload (pc' := 51) rfl rfl rfl (x_iload (pc' := 53) rfl rfl rfl ?_)
        refine x_icmp_ge (pc' := 56) rfl rfl (fun h53 => ?_) (fun h53 => ?_)
        · refine x_iconst (pc' := 61) rfl rfl (x_iadd (pc' := 62) rfl rfl (x_istore_n3 (pc' := 63) rfl rfl rfl (x_iinc4 (pc' := 66) rfl rfl rfl (nI_add _ _) (x_goto rfl ?_))))
          first | exact WPc (ih (n + 1) _ _ (by omega) (by omega)) (by rw [show cps s.g p q (n + 1) = cps s.g p q n + cpI (s.g (p * 3 + n)) (s.g (q * 3 + n)) from rfl, cp_1 h42]) rfl | exact WPc (ih (n + 1) _ _ (by omega) (by omega)) (by rw [show cps s.g p q (n + 1) = cps s.g p q n + cpI (s.g (p * 3 + n)) (s.g (q * 3 + n)) from rfl, cp_m h53]) rfl | exact WPc (ih (n + 1) _ _ (by omega) (by omega)) (by rw [show cps s.g p q (n + 1) = cps s.g p q n + cpI (s.g (p * 3 + n)) (s.g (q * 3 + n)) from rfl, cp_0 h42 h53]) rfl
        · refine x_iconst (pc' := 57) rfl rfl (x_goto rfl (x_iadd (pc' := 62) rfl rfl (x_istore_n3 (pc' := 63) rfl rfl rfl (x_iinc4 (pc' := 66) rfl rfl rfl (nI_add _ _) (x_goto rfl ?_)))))
          first | exact WPc (ih (n + 1) _ _ (by omega) (by omega)) (by rw [show cps s.g p q (n + 1) = cps s.g p q n + cpI (s.g (p * 3 + n)) (s.g (q * 3 + n)) from rfl, cp_1 h42]) rfl | exact WPc (ih (n + 1) _ _ (by omega) (by omega)) (by rw [show cps s.g p q (n + 1) = cps s.g p q n + cpI (s.g (p * 3 + n)) (s.g (q * 3 + n)) from rfl, cp_m h53]) rfl | exact WPc (ih (n + 1) _ _ (by omega) (by omega)) (by rw [show cps s.g p q (n + 1) = cps s.g p q n + cpI (s.g (p * 3 + n)) (s.g (q * 3 + n)) from rfl, cp_0 h42 h53]) rfl
      · refine x_iconst (pc' := 46) rfl rfl (x_goto rfl (x_iadd (pc' := 62) rfl rfl (x_istore_n3 (pc' := 63) rfl rfl rfl (x_iinc4 (pc' := 66) rfl rfl rfl (nI_add _ _) (x_goto rfl ?_)))))
        first | exact WPc (ih (n + 1) _ _ (by omega) (by omega)) (by rw [show cps s.g p q (n + 1) = cps s.g p q n + cpI (s.g (p * 3 + n)) (s.g (q * 3 + n)) from rfl, cp_1 h42]) rfl | exact WPc (ih (n + 1) _ _ (by omega) (by omega)) (by rw [show cps s.g p q (n + 1) = cps s.g p q n + cpI (s.g (p * 3 + n)) (s.g (q * 3 + n)) from rfl, cp_m h53]) rfl | exact WPc (ih (n + 1) _ _ (by omega) (by omega)) (by rw [show cps s.g p q (n + 1) = cps s.g p q n + cpI (s.g (p * 3 + n)) (s.g (q * 3 + n)) from rfl, cp_0 h42 h53]) rfl
set_option maxRecDepth 20000 in
theorem c_X9_doesBeat {l : Launch} {X : XT} {d Lz : Nat} {w : Nat → Nat → Nat → Nat → Int32} {K : Kg} {s : Sa} (hV : KV K) (hK : KM w K) (h : RR w K 0 s) (p q : Nat) (hp : p < K.np) (hq : q < K.np) : CT l X (d + 1) md_X9_doesBeat [.inr (.inr (9, 0, 0)), .inl (nI p), .inl (nI q)] (mk Lz w) (some (.inl (bI (btA s.g p q)))) (mk Lz w) := by
  show WP l X _ md_X9_doesBeat (0, [some (.inr (.inr (9, 0, 0))), some (.inl (nI p)), some (.inl (nI q)), none, none, none, none], [], _) _
  refine x_iconst (pc' := 1) rfl rfl (x_istore_n3 (pc' := 2) rfl rfl rfl (x_iconst (pc' := 3) rfl rfl (x_istore4 (pc' := 5) rfl rfl rfl ?_)))
  exact l_X9_doesBeat hV hK h p q hp hq 4 0 _ _ (by omega) (by omega)
set_option maxRecDepth 20000 in
theorem l_X9_vacant {l : Launch} {X : XT} {d Lz : Nat} {w : Nat → Nat → Nat → Nat → Int32} {K : Kg} {s : Sa} (hV : KV K) (hK : KM w K) (h : RR w K 0 s) : ∀ (kk n : Nat),  n ≤ K.no → K.no + 1 ≤ n + kk → WP l X (d + 1) md_X9_vacant (4, [some (.inr (.inr (9, 0, 0))), some (.inl (enc (fun o => decide (s.ho o = -1)) n)), some (.inl (nI n))], [], mk Lz w) (fun v M' => v = some (.inl (enc (fun o => decide (s.ho o = -1)) K.no)) ∧ M' = mk Lz w) := by
  intro kk
  induction kk with
  | zero =>
    intro n h1 h2
    exact absurd h2 (by omega)
  | succ kk ih =>
    intro n hi1 hi2
    have hv7 := hV.1
    have hv4 := hV.2.1
    have hnp := hK.2.2.1
    have hno := hK.2.2.2.2.1
    have hg : ∀ q, q < 21 → w 9 0 1 q = s.g q := fun q hq => by have := h.1 q hq; rwa [Nat.zero_add] at this
    have ht : ∀ q, q < K.np → w 9 0 1 (35 + q) = s.ti q := fun q hq => h.2.2.2.1 q hq
    have hh : ∀ q, q < K.no → w 9 0 1 (42 + q) = s.ho q := fun q hq => h.2.2.2.2.1 q hq
    have hcm : ∀ q, q < K.np → cM w 0 q = coA s q := h.co
    refine x_iload_n (pc' := 5) rfl rfl rfl (x_aload_n (pc' := 6) rfl rfl rfl (x_getI (pc' := 9) rfl rfl rfl ?_))
    rw [hno]
    refine x_icmp_geN (pc' := 12) rfl rfl (by omega) (by omega) (fun h9 => ?_) (fun h9 => ?_)
    · refine x_iload_n (pc' := 42) rfl rfl rfl ?_
      refine x_iret rfl rfl ?_
      have e : n = K.no := by omega
      subst e
      exact rI rfl
    · refine x_iload_n (pc' := 13) rfl rfl rfl (x_aload_n (pc' := 14) rfl rfl rfl (x_getR (pc' := 17) (t := (9, _, 1)) rfl rfl rfl (x_bipush (pc' := 19) rfl rfl (x_iload_n (pc' := 20) rfl rfl rfl (x_iaddN (pc' := 21) rfl rfl ?_)))))
      refine x_iald (pc' := 22) (N := 4420) rfl rfl rfl rfl (by first | assumption | omega) (by decide) ?_
      rw [hh n (by omega)]
      refine x_iconst (pc' := 23) rfl rfl ?_
      refine x_icmp_ne (pc' := 26) rfl rfl (fun h23 => ?_) (fun h23 => ?_)
      · refine x_iconst (pc' := 27) rfl rfl (x_iload_n (pc' := 28) rfl rfl rfl (x_ishl (pc' := 29) rfl rfl (x_goto rfl (x_ior (pc' := 34) rfl rfl (x_istore_n1 (pc' := 35) rfl rfl rfl ?_)))))
        refine x_iinc2 (pc' := 38) rfl rfl rfl (nI_add _ _) (x_goto rfl ?_)
        exact WPc (ih (n + 1) (by omega) (by omega)) (by first | rw [← enc_t (f := fun o => decide (s.ho o = -1)) (dT h23)] | rw [← enc_f (f := fun o => decide (s.ho o = -1)) (dF h23), or_0]) rfl
      · refine x_iconst (pc' := 33) rfl rfl (x_ior (pc' := 34) rfl rfl (x_istore_n1 (pc' := 35) rfl rfl rfl (x_iinc2 (pc' := 38) rfl rfl rfl (nI_add _ _) (x_goto rfl ?_))))
        exact WPc (ih (n + 1) (by omega) (by omega)) (by first | rw [← enc_t (f := fun o => decide (s.ho o = -1)) (dT h23)] | rw [← enc_f (f := fun o => decide (s.ho o = -1)) (dF h23), or_0]) rfl
set_option maxRecDepth 20000 in
theorem c_X9_vacant {l : Launch} {X : XT} {d Lz : Nat} {w : Nat → Nat → Nat → Nat → Int32} {K : Kg} {s : Sa} (hV : KV K) (hK : KM w K) (h : RR w K 0 s) : CT l X (d + 1) md_X9_vacant [.inr (.inr (9, 0, 0))] (mk Lz w) (some (.inl (enc (fun o => decide (s.ho o = -1)) K.no))) (mk Lz w) := by
  show WP l X _ md_X9_vacant (0, [some (.inr (.inr (9, 0, 0))), none, none], [], _) _
  refine x_iconst (pc' := 1) rfl rfl (x_istore_n1 (pc' := 2) rfl rfl rfl (x_iconst (pc' := 3) rfl rfl (x_istore_n2 (pc' := 4) rfl rfl rfl ?_)))
  exact l_X9_vacant hV hK h (K.no + 1) 0 (by omega) (by omega)
set_option maxRecDepth 20000 in
theorem l_X9_heldBy {l : Launch} {X : XT} {d Lz : Nat} {w : Nat → Nat → Nat → Nat → Int32} {K : Kg} {s : Sa} (hV : KV K) (hK : KM w K) (h : RR w K 0 s) (vv : Int32) : ∀ (kk n : Nat),  n ≤ K.no → K.no + 1 ≤ n + kk → WP l X (d + 1) md_X9_heldBy (4, [some (.inr (.inr (9, 0, 0))), some (.inl (vv)), some (.inl (enc (fun o => decide (s.ho o = vv)) n)), some (.inl (nI n))], [], mk Lz w) (fun v M' => v = some (.inl (enc (fun o => decide (s.ho o = vv)) K.no)) ∧ M' = mk Lz w) := by
  intro kk
  induction kk with
  | zero =>
    intro n h1 h2
    exact absurd h2 (by omega)
  | succ kk ih =>
    intro n hi1 hi2
    have hv7 := hV.1
    have hv4 := hV.2.1
    have hnp := hK.2.2.1
    have hno := hK.2.2.2.2.1
    have hg : ∀ q, q < 21 → w 9 0 1 q = s.g q := fun q hq => by have := h.1 q hq; rwa [Nat.zero_add] at this
    have ht : ∀ q, q < K.np → w 9 0 1 (35 + q) = s.ti q := fun q hq => h.2.2.2.1 q hq
    have hh : ∀ q, q < K.no → w 9 0 1 (42 + q) = s.ho q := fun q hq => h.2.2.2.2.1 q hq
    have hcm : ∀ q, q < K.np → cM w 0 q = coA s q := h.co
    refine x_iload_n (pc' := 5) rfl rfl rfl (x_aload_n (pc' := 6) rfl rfl rfl (x_getI (pc' := 9) rfl rfl rfl ?_))
    rw [hno]
    refine x_icmp_geN (pc' := 12) rfl rfl (by omega) (by omega) (fun h9 => ?_) (fun h9 => ?_)
    · refine x_iload_n (pc' := 42) rfl rfl rfl ?_
      refine x_iret rfl rfl ?_
      have e : n = K.no := by omega
      subst e
      exact rI rfl
    · refine x_iload_n (pc' := 13) rfl rfl rfl (x_aload_n (pc' := 14) rfl rfl rfl (x_getR (pc' := 17) (t := (9, _, 1)) rfl rfl rfl (x_bipush (pc' := 19) rfl rfl (x_iload_n (pc' := 20) rfl rfl rfl (x_iaddN (pc' := 21) rfl rfl ?_)))))
      refine x_iald (pc' := 22) (N := 4420) rfl rfl rfl rfl (by first | assumption | omega) (by decide) ?_
      rw [hh n (by omega)]
      refine x_iload_n (pc' := 23) rfl rfl rfl ?_
      refine x_icmp_ne (pc' := 26) rfl rfl (fun h23 => ?_) (fun h23 => ?_)
      · refine x_iconst (pc' := 27) rfl rfl (x_iload_n (pc' := 28) rfl rfl rfl (x_ishl (pc' := 29) rfl rfl (x_goto rfl (x_ior (pc' := 34) rfl rfl (x_istore_n2 (pc' := 35) rfl rfl rfl ?_)))))
        refine x_iinc3 (pc' := 38) rfl rfl rfl (nI_add _ _) (x_goto rfl ?_)
        exact WPc (ih (n + 1) (by omega) (by omega)) (by first | rw [← enc_t (f := fun o => decide (s.ho o = vv)) (dT h23)] | rw [← enc_f (f := fun o => decide (s.ho o = vv)) (dF h23), or_0]) rfl
      · refine x_iconst (pc' := 33) rfl rfl (x_ior (pc' := 34) rfl rfl (x_istore_n2 (pc' := 35) rfl rfl rfl (x_iinc3 (pc' := 38) rfl rfl rfl (nI_add _ _) (x_goto rfl ?_))))
        exact WPc (ih (n + 1) (by omega) (by omega)) (by first | rw [← enc_t (f := fun o => decide (s.ho o = vv)) (dT h23)] | rw [← enc_f (f := fun o => decide (s.ho o = vv)) (dF h23), or_0]) rfl
set_option maxRecDepth 20000 in
theorem c_X9_heldBy {l : Launch} {X : XT} {d Lz : Nat} {w : Nat → Nat → Nat → Nat → Int32} {K : Kg} {s : Sa} (hV : KV K) (hK : KM w K) (h : RR w K 0 s) (vv : Int32) : CT l X (d + 1) md_X9_heldBy [.inr (.inr (9, 0, 0)), .inl (vv)] (mk Lz w) (some (.inl (enc (fun o => decide (s.ho o = vv)) K.no))) (mk Lz w) := by
  show WP l X _ md_X9_heldBy (0, [some (.inr (.inr (9, 0, 0))), some (.inl (vv)), none, none], [], _) _
  refine x_iconst (pc' := 1) rfl rfl (x_istore_n2 (pc' := 2) rfl rfl rfl (x_iconst (pc' := 3) rfl rfl (x_istore_n3 (pc' := 4) rfl rfl rfl ?_)))
  exact l_X9_heldBy hV hK h vv (K.no + 1) 0 (by omega) (by omega)
set_option maxRecDepth 20000 in
theorem l_X9_brilliantt {l : Launch} {X : XT} {d Lz : Nat} {w : Nat → Nat → Nat → Nat → Int32} {K : Kg} {s : Sa} (hV : KV K) (hK : KM w K) (h : RR w K 0 s) (R : Int32) (p : Nat) (hp : p < K.np) (hco : cM w 0 p = true) {Q : Option AV → Mem → Prop} (hQ : WP l X (d + 2) md_X9_brilliant (51, [some (.inr (.inr (9, 0, 0))), some (.inl (R)), some (.inl (nI p)), some (.inl (nI 3))], [], mk Lz w) Q) : ∀ (kk n : Nat),  n ≤ 3 → 3 + 1 ≤ n + kk → WP l X (d + 2) md_X9_brilliant (14, [some (.inr (.inr (9, 0, 0))), some (.inl (R)), some (.inl (nI p)), some (.inl (nI n))], [], mk Lz w) (Q) := by
  intro kk
  induction kk with
  | zero =>
    intro n h1 h2
    exact absurd h2 (by omega)
  | succ kk ih =>
    intro n hi1 hi2
    have hv7 := hV.1
    have hv4 := hV.2.1
    have hnp := hK.2.2.1
    have hno := hK.2.2.2.2.1
    have hg : ∀ q, q < 21 → w 9 0 1 q = s.g q := fun q hq => by have := h.1 q hq; rwa [Nat.zero_add] at this
    have ht : ∀ q, q < K.np → w 9 0 1 (35 + q) = s.ti q := fun q hq => h.2.2.2.1 q hq
    have hh : ∀ q, q < K.no → w 9 0 1 (42 + q) = s.ho q := fun q hq => h.2.2.2.2.1 q hq
    have hcm : ∀ q, q < K.np → cM w 0 q = coA s q := h.co
    refine x_iload_n (pc' := 15) rfl rfl rfl (x_iconst (pc' := 16) rfl rfl ?_)
    refine x_icmp_geN (pc' := 19) rfl rfl (by omega) (by omega) (fun h16 => ?_) (fun h16 => ?_)
    · have e : n = 3 := by omega
      subst e
      exact hQ
    · refine x_iload_n (pc' := 20) rfl rfl rfl (x_aload_n (pc' := 21) rfl rfl rfl (x_iconst (pc' := 22) rfl rfl (x_iload_n (pc' := 23) rfl rfl rfl (x_invI3 (pc' := 26) rfl rfl rfl rfl rfl (c_X9_isAtCourt 0 (by omega) _ (by omega)) ?_))))
      refine x_if_eq (pc' := 29) rfl rfl (fun h26 => absurd h26 (fun z => by rw [hco] at z; exact absurd z (by decide))) (fun h26 => ?_)
      refine x_iconst (pc' := 30) rfl rfl (x_goto rfl (x_iaddE (pc' := 44) rfl rfl (add_0 _) (x_istore_n1 (pc' := 45) rfl rfl rfl (x_iinc3 (pc' := 48) rfl rfl rfl (nI_add _ _) (x_goto rfl ?_)))))
      exact ih (n + 1) (by omega) (by omega)
set_option maxRecDepth 20000 in
theorem l_X9_brilliantf {l : Launch} {X : XT} {d Lz : Nat} {w : Nat → Nat → Nat → Nat → Int32} {K : Kg} {s : Sa} (hV : KV K) (hK : KM w K) (h : RR w K 0 s) (R : Int32) (p : Nat) (hp : p < K.np) (hco : cM w 0 p = false) {Q : Option AV → Mem → Prop} (hQ : WP l X (d + 2) md_X9_brilliant (51, [some (.inr (.inr (9, 0, 0))), some (.inl (brk s.g p R 3)), some (.inl (nI p)), some (.inl (nI 3))], [], mk Lz w) Q) : ∀ (kk n : Nat),  n ≤ 3 → 3 + 1 ≤ n + kk → WP l X (d + 2) md_X9_brilliant (14, [some (.inr (.inr (9, 0, 0))), some (.inl (brk s.g p R n)), some (.inl (nI p)), some (.inl (nI n))], [], mk Lz w) (Q) := by
  intro kk
  induction kk with
  | zero =>
    intro n h1 h2
    exact absurd h2 (by omega)
  | succ kk ih =>
    intro n hi1 hi2
    have hv7 := hV.1
    have hv4 := hV.2.1
    have hnp := hK.2.2.1
    have hno := hK.2.2.2.2.1
    have hg : ∀ q, q < 21 → w 9 0 1 q = s.g q := fun q hq => by have := h.1 q hq; rwa [Nat.zero_add] at this
    have ht : ∀ q, q < K.np → w 9 0 1 (35 + q) = s.ti q := fun q hq => h.2.2.2.1 q hq
    have hh : ∀ q, q < K.no → w 9 0 1 (42 + q) = s.ho q := fun q hq => h.2.2.2.2.1 q hq
    have hcm : ∀ q, q < K.np → cM w 0 q = coA s q := h.co
    refine x_iload_n (pc' := 15) rfl rfl rfl (x_iconst (pc' := 16) rfl rfl ?_)
    refine x_icmp_geN (pc' := 19) rfl rfl (by omega) (by omega) (fun h16 => ?_) (fun h16 => ?_)
    · have e : n = 3 := by omega
      subst e
      exact hQ
    · refine x_iload_n (pc' := 20) rfl rfl rfl (x_aload_n (pc' := 21) rfl rfl rfl (x_iconst (pc' := 22) rfl rfl (x_iload_n (pc' := 23) rfl rfl rfl (x_invI3 (pc' := 26) rfl rfl rfl rfl rfl (c_X9_isAtCourt 0 (by omega) _ (by omega)) ?_))))
      refine x_if_eq (pc' := 29) rfl rfl (fun h26 => ?_) (fun h26 => absurd (bI_eq0.mpr hco) h26)
      refine x_aload_n (pc' := 34) rfl rfl rfl (x_getR (pc' := 37) (t := (9, _, 1)) rfl rfl rfl (x_iconst (pc' := 38) rfl rfl (x_iload_n (pc' := 39) rfl rfl rfl (x_imulN (pc' := 40) rfl rfl (x_iload_n (pc' := 41) rfl rfl rfl ?_)))))
      refine x_iaddN (pc' := 42) rfl rfl (x_iald (pc' := 43) (N := 4420) rfl rfl rfl rfl (by first | assumption | omega) (by decide) ?_)
      rw [hg _ (by omega), Nat.mul_comm 3 p]
      refine x_iadd (pc' := 44) rfl rfl (x_istore_n1 (pc' := 45) rfl rfl rfl (x_iinc3 (pc' := 48) rfl rfl rfl (nI_add _ _) (x_goto rfl ?_)))
      exact ih (n + 1) (by omega) (by omega)
set_option maxRecDepth 20000 in
theorem l_X9_brilliant {l : Launch} {X : XT} {d Lz : Nat} {w : Nat → Nat → Nat → Nat → Int32} {K : Kg} {s : Sa} (hV : KV K) (hK : KM w K) (h : RR w K 0 s) : ∀ (k n : Nat), ∀ (z : Option AV),  n ≤ K.np → K.np + 1 ≤ n + k → WP l X (d + 2) md_X9_brilliant (4, [some (.inr (.inr (9, 0, 0))), some (.inl (brl s n)), some (.inl (nI n)), z], [], mk Lz w) (fun v M' => v = some (.inl (brl s K.np)) ∧ M' = mk Lz w) := by
  intro k
  induction k with
  | zero =>
    intro n z h1 h2
    exact absurd h2 (by omega)
  | succ k ih =>
    intro n z hi1 hi2
    have hv7 := hV.1
    have hv4 := hV.2.1
    have hnp := hK.2.2.1
    have hno := hK.2.2.2.2.1
    have hg : ∀ q, q < 21 → w 9 0 1 q = s.g q := fun q hq => by have := h.1 q hq; rwa [Nat.zero_add] at this
    have ht : ∀ q, q < K.np → w 9 0 1 (35 + q) = s.ti q := fun q hq => h.2.2.2.1 q hq
    have hh : ∀ q, q < K.no → w 9 0 1 (42 + q) = s.ho q := fun q hq => h.2.2.2.2.1 q hq
    have hcm : ∀ q, q < K.np → cM w 0 q = coA s q := h.co
    refine x_iload_n (pc' := 5) rfl rfl rfl (x_aload_n (pc' := 6) rfl rfl rfl (x_getI (pc' := 9) rfl rfl rfl ?_))
    rw [hnp]
    refine x_icmp_geN (pc' := 12) rfl rfl (by omega) (by omega) (fun h9 => ?_) (fun h9 => ?_)
    · refine x_iload_n (pc' := 58) rfl rfl rfl ?_
      refine x_iret rfl rfl ?_
      have e : n = K.np := by omega
      subst e
      exact rI rfl
    · refine x_iconst (pc' := 13) rfl rfl (x_istore_n3 (pc' := 14) rfl rfl rfl ?_)
      cases hco : cM w 0 n with
      | false =>
        refine l_X9_brilliantf hV hK h _ n h9 hco ?_ 4 0 (by omega) (by omega)
        refine x_iinc2 (pc' := 54) rfl rfl rfl (nI_add _ _) (x_goto rfl ?_)
        exact WPc (ih (n + 1) _ (by omega) (by omega)) (by rw [brl_f (by rw [← hcm n h9]; exact hco)]) rfl
      | true =>
        refine l_X9_brilliantt hV hK h _ n h9 hco ?_ 4 0 (by omega) (by omega)
        refine x_iinc2 (pc' := 54) rfl rfl rfl (nI_add _ _) (x_goto rfl ?_)
        exact WPc (ih (n + 1) _ (by omega) (by omega)) (by rw [brl_t (by rw [← hcm n h9]; exact hco)]) rfl
set_option maxRecDepth 20000 in
theorem c_X9_brilliant {l : Launch} {X : XT} {d Lz : Nat} {w : Nat → Nat → Nat → Nat → Int32} {K : Kg} {s : Sa} (hV : KV K) (hK : KM w K) (h : RR w K 0 s) : CT l X (d + 2) md_X9_brilliant [.inr (.inr (9, 0, 0))] (mk Lz w) (some (.inl (brl s K.np))) (mk Lz w) := by
  show WP l X _ md_X9_brilliant (0, [some (.inr (.inr (9, 0, 0))), none, none, none], [], _) _
  refine x_iconst (pc' := 1) rfl rfl (x_istore_n1 (pc' := 2) rfl rfl rfl (x_iconst (pc' := 3) rfl rfl (x_istore_n2 (pc' := 4) rfl rfl rfl ?_)))
  exact l_X9_brilliant hV hK h (K.np + 1) 0 _ (by omega) (by omega)
theorem rg_on {g : Nat → Int32} {a b c : Nat} : rgA g a b c = ((btA g a b && (btA g b c && btA g c a)) || (btA g b a && (btA g c b && btA g a c))) := by
  unfold rgA
  cases btA g a b <;> cases btA g b c <;> cases btA g c a <;> cases btA g b a <;> cases btA g c b <;> cases btA g a c <;> rfl
set_option maxRecDepth 20000 in
theorem r_X9_rings2 {l : Launch} {X : XT} {d Lz : Nat} {w : Nat → Nat → Nat → Nat → Int32} {K : Kg} {s : Sa} (hV : KV K) (hK : KM w K) (h : RR w K 0 s) (R : Int32) (a b : Nat) (ha : a < b) (hb : b < K.np) {Q : Option AV → Mem → Prop} (hQ : ∀ z1 z2, WP l X (d + 2) md_X9_rings (134, [some (.inr (.inr (9, 0, 0))), some (.inl (c3 s.g R a b (K.np - b - 1))), some (.inl (nI a)), some (.inl (nI b)), some (.inl (nI K.np)), z1, z2], [], mk Lz w) Q) (n : Nat) (hn : b + 1 + n < K.np) (x y : Bool) (hx : x = (btA s.g a b && (btA s.g b (b + 1 + n) && btA s.g (b + 1 + n) a))) (hy : y = (btA s.g b a && (btA s.g (b + 1 + n) b && btA s.g a (b + 1 + n)))) (hI : ∀ z1 z2, WP l X (d + 2) md_X9_rings (29, [some (.inr (.inr (9, 0, 0))), some (.inl (c3 s.g R a b (n + 1))), some (.inl (nI a)), some (.inl (nI b)), some (.inl (nI (b + 1 + n + 1))), z1, z2], [], mk Lz w) Q) : WP l X (d + 2) md_X9_rings (110, [some (.inr (.inr (9, 0, 0))), some (.inl (c3 s.g R a b n)), some (.inl (nI a)), some (.inl (nI b)), some (.inl (nI (b + 1 + n))), some (.inl (bI x)), some (.inl (bI y))], [], mk Lz w) Q := by
  refine x_iload_n (pc' := 111) rfl rfl rfl (x_iload (pc' := 113) rfl rfl rfl ?_)
  refine x_if_ne (pc' := 116) rfl rfl (fun h113 => ?_) (fun h113 => ?_)
  · refine x_iload (pc' := 118) rfl rfl rfl ?_
    refine x_if_eq (pc' := 121) rfl rfl (fun h118 => ?_) (fun h118 => ?_)
    · refine x_iconst (pc' := 126) rfl rfl (x_iadd (pc' := 127) rfl rfl (x_istore_n1 (pc' := 128) rfl rfl rfl (x_iinc4 (pc' := 131) rfl rfl rfl (nI_add _ _) (x_goto rfl ?_))))
      exact WPc (hI _ _) (by first | rw [← c3_t (b := b) (by rw [rg_on, ← hx, ← hy, bq h113]; simp)] | rw [← c3_t (b := b) (by rw [rg_on, ← hx, ← hy, bq h118]; simp)] | rw [← c3_f (b := b) (by rw [rg_on, ← hx, ← hy, bI_eq0.mp h113, bI_eq0.mp h118]; simp), add_0]) rfl
    · refine x_iconst (pc' := 122) rfl rfl (x_goto rfl (x_iadd (pc' := 127) rfl rfl (x_istore_n1 (pc' := 128) rfl rfl rfl (x_iinc4 (pc' := 131) rfl rfl rfl (nI_add _ _) (x_goto rfl ?_)))))
      exact WPc (hI _ _) (by first | rw [← c3_t (b := b) (by rw [rg_on, ← hx, ← hy, bq h113]; simp)] | rw [← c3_t (b := b) (by rw [rg_on, ← hx, ← hy, bq h118]; simp)] | rw [← c3_f (b := b) (by rw [rg_on, ← hx, ← hy, bI_eq0.mp h113, bI_eq0.mp h118]; simp), add_0]) rfl
  · refine x_iconst (pc' := 122) rfl rfl (x_goto rfl (x_iadd (pc' := 127) rfl rfl (x_istore_n1 (pc' := 128) rfl rfl rfl (x_iinc4 (pc' := 131) rfl rfl rfl (nI_add _ _) (x_goto rfl ?_)))))
    exact WPc (hI _ _) (by first | rw [← c3_t (b := b) (by rw [rg_on, ← hx, ← hy, bq h113]; simp)] | rw [← c3_t (b := b) (by rw [rg_on, ← hx, ← hy, bq h118]; simp)] | rw [← c3_f (b := b) (by rw [rg_on, ← hx, ← hy, bI_eq0.mp h113, bI_eq0.mp h118]; simp), add_0]) rfl
set_option maxRecDepth 20000 in
theorem r_X9_rings1 {l : Launch} {X : XT} {d Lz : Nat} {w : Nat → Nat → Nat → Nat → Int32} {K : Kg} {s : Sa} (hV : KV K) (hK : KM w K) (h : RR w K 0 s) (R : Int32) (a b : Nat) (ha : a < b) (hb : b < K.np) {Q : Option AV → Mem → Prop} (hQ : ∀ z1 z2, WP l X (d + 2) md_X9_rings (134, [some (.inr (.inr (9, 0, 0))), some (.inl (c3 s.g R a b (K.np - b - 1))), some (.inl (nI a)), some (.inl (nI b)), some (.inl (nI K.np)), z1, z2], [], mk Lz w) Q) (n : Nat) (hn : b + 1 + n < K.np) (x : Bool) (z2 : Option AV) (hx : x = (btA s.g a b && (btA s.g b (b + 1 + n) && btA s.g (b + 1 + n) a))) (hI : ∀ z1 z2, WP l X (d + 2) md_X9_rings (29, [some (.inr (.inr (9, 0, 0))), some (.inl (c3 s.g R a b (n + 1))), some (.inl (nI a)), some (.inl (nI b)), some (.inl (nI (b + 1 + n + 1))), z1, z2], [], mk Lz w) Q) : WP l X (d + 2) md_X9_rings (74, [some (.inr (.inr (9, 0, 0))), some (.inl (c3 s.g R a b n)), some (.inl (nI a)), some (.inl (nI b)), some (.inl (nI (b + 1 + n))), some (.inl (bI x)), z2], [], mk Lz w) Q := by
  refine x_aload_n (pc' := 75) rfl rfl rfl (x_iload_n (pc' := 76) rfl rfl rfl (x_iload_n (pc' := 77) rfl rfl rfl (x_invI3 (pc' := 80) rfl rfl rfl rfl rfl (c_X9_doesBeat hV hK h _ _ (by omega) (by omega)) ?_)))
  refine x_if_eq (pc' := 83) rfl rfl (fun h80 => ?_) (fun h80 => ?_)
  · refine x_iconst (pc' := 108) rfl rfl (x_istore6 (pc' := 110) rfl rfl rfl ?_)
    first | exact r_X9_rings2 hV hK h R a b ha hb hQ n hn x true hx (by rw [bq h80, bq h90, bq h100]; rfl) hI | exact r_X9_rings2 hV hK h R a b ha hb hQ n hn x false hx (by rw [bI_eq0.mp h80]; rfl) hI | exact r_X9_rings2 hV hK h R a b ha hb hQ n hn x false hx (by rw [bq h80, bI_eq0.mp h90]; rfl) hI | exact r_X9_rings2 hV hK h R a b ha hb hQ n hn x false hx (by rw [bq h80, bq h90, bI_eq0.mp h100]; rfl) hI
  · refine x_aload_n (pc' := 84) rfl rfl rfl (x_iload (pc' := 86) rfl rfl rfl (x_iload_n (pc' := 87) rfl rfl rfl (x_invI3 (pc' := 90) rfl rfl rfl rfl rfl (c_X9_doesBeat hV hK h _ _ (by omega) (by omega)) ?_)))
    refine x_if_eq (pc' := 93) rfl rfl (fun h90 => ?_) (fun h90 => ?_)
    · refine x_iconst (pc' := 108) rfl rfl (x_istore6 (pc' := 110) rfl rfl rfl ?_)
      first | exact r_X9_rings2 hV hK h R a b ha hb hQ n hn x true hx (by rw [bq h80, bq h90, bq h100]; rfl) hI | exact r_X9_rings2 hV hK h R a b ha hb hQ n hn x false hx (by rw [bI_eq0.mp h80]; rfl) hI | exact r_X9_rings2 hV hK h R a b ha hb hQ n hn x false hx (by rw [bq h80, bI_eq0.mp h90]; rfl) hI | exact r_X9_rings2 hV hK h R a b ha hb hQ n hn x false hx (by rw [bq h80, bq h90, bI_eq0.mp h100]; rfl) hI
    · refine x_aload_n (pc' := 94) rfl rfl rfl (x_iload_n (pc' := 95) rfl rfl rfl (x_iload (pc' := 97) rfl rfl rfl (x_invI3 (pc' := 100) rfl rfl rfl rfl rfl (c_X9_doesBeat hV hK h _ _ (by omega) (by omega)) ?_)))
      refine x_if_eq (pc' := 103) rfl rfl (fun h100 => ?_) (fun h100 => ?_)
      · refine x_iconst (pc' := 108) rfl rfl (x_istore6 (pc' := 110) rfl rfl rfl ?_)
        first | exact r_X9_rings2 hV hK h R a b ha hb hQ n hn x true hx (by rw [bq h80, bq h90, bq h100]; rfl) hI | exact r_X9_rings2 hV hK h R a b ha hb hQ n hn x false hx (by rw [bI_eq0.mp h80]; rfl) hI | exact r_X9_rings2 hV hK h R a b ha hb hQ n hn x false hx (by rw [bq h80, bI_eq0.mp h90]; rfl) hI | exact r_X9_rings2 hV hK h R a b ha hb hQ n hn x false hx (by rw [bq h80, bq h90, bI_eq0.mp h100]; rfl) hI
      · refine x_iconst (pc' := 104) rfl rfl (x_goto rfl (x_istore6 (pc' := 110) rfl rfl rfl ?_))
        first | exact r_X9_rings2 hV hK h R a b ha hb hQ n hn x true hx (by rw [bq h80, bq h90, bq h100]; rfl) hI | exact r_X9_rings2 hV hK h R a b ha hb hQ n hn x false hx (by rw [bI_eq0.mp h80]; rfl) hI | exact r_X9_rings2 hV hK h R a b ha hb hQ n hn x false hx (by rw [bq h80, bI_eq0.mp h90]; rfl) hI | exact r_X9_rings2 hV hK h R a b ha hb hQ n hn x false hx (by rw [bq h80, bq h90, bI_eq0.mp h100]; rfl) hI
set_option maxRecDepth 20000 in
theorem l_X9_rings3 {l : Launch} {X : XT} {d Lz : Nat} {w : Nat → Nat → Nat → Nat → Int32} {K : Kg} {s : Sa} (hV : KV K) (hK : KM w K) (h : RR w K 0 s) (R : Int32) (a b : Nat) (ha : a < b) (hb : b < K.np) {Q : Option AV → Mem → Prop} (hQ : ∀ z1 z2, WP l X (d + 2) md_X9_rings (134, [some (.inr (.inr (9, 0, 0))), some (.inl (c3 s.g R a b (K.np - b - 1))), some (.inl (nI a)), some (.inl (nI b)), some (.inl (nI K.np)), z1, z2], [], mk Lz w) Q) : ∀ (k n : Nat), ∀ (z1 z2 : Option AV),  n ≤ (K.np - b - 1) → (K.np - b - 1) + 1 ≤ n + k → WP l X (d + 2) md_X9_rings (29, [some (.inr (.inr (9, 0, 0))), some (.inl (c3 s.g R a b n)), some (.inl (nI a)), some (.inl (nI b)), some (.inl (nI (b + 1 + n))), z1, z2], [], mk Lz w) (Q) := by
  intro k
  induction k with
  | zero =>
    intro n z1 z2 h1 h2
    exact absurd h2 (by omega)
  | succ k ih =>
    intro n z1 z2 hi1 hi2
    have hv7 := hV.1
    have hv4 := hV.2.1
    have hnp := hK.2.2.1
    have hno := hK.2.2.2.2.1
    refine x_iload (pc' := 31) rfl rfl rfl (x_aload_n (pc' := 32) rfl rfl rfl (x_getI (pc' := 35) rfl rfl rfl ?_))
    rw [hnp]
    refine x_icmp_geN (pc' := 38) rfl rfl (by omega) (by omega) (fun h35 => ?_) (fun h35 => ?_)
    · have e : n = K.np - b - 1 := by omega
      have e2 : b + 1 + n = K.np := by omega
      rw [e2, e]
      exact hQ _ _
    · refine x_aload_n (pc' := 39) rfl rfl rfl (x_iload_n (pc' := 40) rfl rfl rfl (x_iload_n (pc' := 41) rfl rfl rfl (x_invI3 (pc' := 44) rfl rfl rfl rfl rfl (c_X9_doesBeat hV hK h _ _ (by omega) (by omega)) ?_)))
      refine x_if_eq (pc' := 47) rfl rfl (fun h44 => ?_) (fun h44 => ?_)
      · refine x_iconst (pc' := 72) rfl rfl (x_istore5 (pc' := 74) rfl rfl rfl ?_)
        have hI : ∀ z1 z2, WP l X (d + 2) md_X9_rings (29, [some (.inr (.inr (9, 0, 0))), some (.inl (c3 s.g R a b (n + 1))), some (.inl (nI a)), some (.inl (nI b)), some (.inl (nI (b + 1 + n + 1))), z1, z2], [], mk Lz w) Q := fun z1 z2 => ih (n + 1) z1 z2 (by omega) (by omega)
        first | exact r_X9_rings1 hV hK h R a b ha hb hQ n (by omega) true _ (by rw [bq h44, bq h54, bq h64]; rfl) hI | exact r_X9_rings1 hV hK h R a b ha hb hQ n (by omega) false _ (by rw [bI_eq0.mp h44]; rfl) hI | exact r_X9_rings1 hV hK h R a b ha hb hQ n (by omega) false _ (by rw [bq h44, bI_eq0.mp h54]; rfl) hI | exact r_X9_rings1 hV hK h R a b ha hb hQ n (by omega) false _ (by rw [bq h44, bq h54, bI_eq0.mp h64]; rfl) hI
      · refine x_aload_n (pc' := 48) rfl rfl rfl (x_iload_n (pc' := 49) rfl rfl rfl (x_iload (pc' := 51) rfl rfl rfl (x_invI3 (pc' := 54) rfl rfl rfl rfl rfl (c_X9_doesBeat hV hK h _ _ (by omega) (by omega)) ?_)))
        refine x_if_eq (pc' := 57) rfl rfl (fun h54 => ?_) (fun h54 => ?_)
        · refine x_iconst (pc' := 72) rfl rfl (x_istore5 (pc' := 74) rfl rfl rfl ?_)
          have hI : ∀ z1 z2, WP l X (d + 2) md_X9_rings (29, [some (.inr (.inr (9, 0, 0))), some (.inl (c3 s.g R a b (n + 1))), some (.inl (nI a)), some (.inl (nI b)), some (.inl (nI (b + 1 + n + 1))), z1, z2], [], mk Lz w) Q := fun z1 z2 => ih (n + 1) z1 z2 (by omega) (by omega)
          first | exact r_X9_rings1 hV hK h R a b ha hb hQ n (by omega) true _ (by rw [bq h44, bq h54, bq h64]; rfl) hI | exact r_X9_rings1 hV hK h R a b ha hb hQ n (by omega) false _ (by rw [bI_eq0.mp h44]; rfl) hI | exact r_X9_rings1 hV hK h R a b ha hb hQ n (by omega) false _ (by rw [bq h44, bI_eq0.mp h54]; rfl) hI | exact r_X9_rings1 hV hK h R a b ha hb hQ n (by omega) false _ (by rw [bq h44, bq h54, bI_eq0.mp h64]; rfl) hI
        · refine x_aload_n (pc' := 58) rfl rfl rfl (x_iload (pc' := 60) rfl rfl rfl (x_iload_n (pc' := 61) rfl rfl rfl (x_invI3 (pc' := 64) rfl rfl rfl rfl rfl (c_X9_doesBeat hV hK h _ _ (by omega) (by omega)) ?_)))
          refine x_if_eq (pc' := 67) rfl rfl (fun h64 => ?_) (fun h64 => ?_)
          · refine x_iconst (pc' := 72) rfl rfl (x_istore5 (pc' := 74) rfl rfl rfl ?_)
            have hI : ∀ z1 z2, WP l X (d + 2) md_X9_rings (29, [some (.inr (.inr (9, 0, 0))), some (.inl (c3 s.g R a b (n + 1))), some (.inl (nI a)), some (.inl (nI b)), some (.inl (nI (b + 1 + n + 1))), z1, z2], [], mk Lz w) Q := fun z1 z2 => ih (n + 1) z1 z2 (by omega) (by omega)
            first | exact r_X9_rings1 hV hK h R a b ha hb hQ n (by omega) true _ (by rw [bq h44, bq h54, bq h64]; rfl) hI | exact r_X9_rings1 hV hK h R a b ha hb hQ n (by omega) false _ (by rw [bI_eq0.mp h44]; rfl) hI | exact r_X9_rings1 hV hK h R a b ha hb hQ n (by omega) false _ (by rw [bq h44, bI_eq0.mp h54]; rfl) hI | exact r_X9_rings1 hV hK h R a b ha hb hQ n (by omega) false _ (by rw [bq h44, bq h54, bI_eq0.mp h64]; rfl) hI
          · refine x_iconst (pc' := 68) rfl rfl (x_goto rfl (x_istore5 (pc' := 74) rfl rfl rfl ?_))
            have hI : ∀ z1 z2, WP l X (d + 2) md_X9_rings (29, [some (.inr (.inr (9, 0, 0))), some (.inl (c3 s.g R a b (n + 1))), some (.inl (nI a)), some (.inl (nI b)), some (.inl (nI (b + 1 + n + 1))), z1, z2], [], mk Lz w) Q := fun z1 z2 => ih (n + 1) z1 z2 (by omega) (by omega)
            first | exact r_X9_rings1 hV hK h R a b ha hb hQ n (by omega) true _ (by rw [bq h44, bq h54, bq h64]; rfl) hI | exact r_X9_rings1 hV hK h R a b ha hb hQ n (by omega) false _ (by rw [bI_eq0.mp h44]; rfl) hI | exact r_X9_rings1 hV hK h R a b ha hb hQ n (by omega) false _ (by rw [bq h44, bI_eq0.mp h54]; rfl) hI | exact r_X9_rings1 hV hK h R a b ha hb hQ n (by omega) false _ (by rw [bq h44, bq h54, bI_eq0.mp h64]; rfl) hI
set_option maxRecDepth 20000 in
theorem l_X9_rings2 {l : Launch} {X : XT} {d Lz : Nat} {w : Nat → Nat → Nat → Nat → Int32} {K : Kg} {s : Sa} (hV : KV K) (hK : KM w K) (h : RR w K 0 s) (R : Int32) (a : Nat) (ha : a < K.np) {Q : Option AV → Mem → Prop} (hQ : ∀ z0 z1 z2, WP l X (d + 2) md_X9_rings (140, [some (.inr (.inr (9, 0, 0))), some (.inl (c2 s.g K.np R a (K.np - a - 1))), some (.inl (nI a)), some (.inl (nI K.np)), z0, z1, z2], [], mk Lz w) Q) : ∀ (k n : Nat), ∀ (z0 z1 z2 : Option AV),  n ≤ (K.np - a - 1) → (K.np - a - 1) + 1 ≤ n + k → WP l X (d + 2) md_X9_rings (16, [some (.inr (.inr (9, 0, 0))), some (.inl (c2 s.g K.np R a n)), some (.inl (nI a)), some (.inl (nI (a + 1 + n))), z0, z1, z2], [], mk Lz w) (Q) := by
  intro k
  induction k with
  | zero =>
    intro n z0 z1 z2 h1 h2
    exact absurd h2 (by omega)
  | succ k ih =>
    intro n z0 z1 z2 hi1 hi2
    have hv7 := hV.1
    have hv4 := hV.2.1
    have hnp := hK.2.2.1
    have hno := hK.2.2.2.2.1
    refine x_iload_n (pc' := 17) rfl rfl rfl (x_aload_n (pc' := 18) rfl rfl rfl (x_getI (pc' := 21) rfl rfl rfl ?_))
    rw [hnp]
    refine x_icmp_geN (pc' := 24) rfl rfl (by omega) (by omega) (fun h21 => ?_) (fun h21 => ?_)
    · have e : n = K.np - a - 1 := by omega
      have e2 : a + 1 + n = K.np := by omega
      rw [e2, e]
      exact hQ _ _ _
    · refine x_iload_n (pc' := 25) rfl rfl rfl (x_iconst (pc' := 26) rfl rfl (x_iaddN (pc' := 27) rfl rfl (x_istore4 (pc' := 29) rfl rfl rfl ?_)))
      refine l_X9_rings3 hV hK h _ a (a + 1 + n) (by omega) (by omega) (fun z1 z2 => ?_) (K.np + 1) 0 _ _ (by omega) (by omega)
      refine x_iinc3 (pc' := 137) rfl rfl rfl (nI_add _ _) (x_goto rfl ?_)
      exact ih (n + 1) _ _ _ (by omega) (by omega)
set_option maxRecDepth 20000 in
theorem l_X9_rings {l : Launch} {X : XT} {d Lz : Nat} {w : Nat → Nat → Nat → Nat → Int32} {K : Kg} {s : Sa} (hV : KV K) (hK : KM w K) (h : RR w K 0 s) : ∀ (k n : Nat), ∀ (zz z0 z1 z2 : Option AV),  n ≤ K.np → K.np + 1 ≤ n + k → WP l X (d + 2) md_X9_rings (4, [some (.inr (.inr (9, 0, 0))), some (.inl (c1 s.g K.np n)), some (.inl (nI n)), zz, z0, z1, z2], [], mk Lz w) (fun v M' => v = some (.inl (c1 s.g K.np K.np)) ∧ M' = mk Lz w) := by
  intro k
  induction k with
  | zero =>
    intro n zz z0 z1 z2 h1 h2
    exact absurd h2 (by omega)
  | succ k ih =>
    intro n zz z0 z1 z2 hi1 hi2
    have hv7 := hV.1
    have hv4 := hV.2.1
    have hnp := hK.2.2.1
    have hno := hK.2.2.2.2.1
    refine x_iload_n (pc' := 5) rfl rfl rfl (x_aload_n (pc' := 6) rfl rfl rfl (x_getI (pc' := 9) rfl rfl rfl ?_))
    rw [hnp]
    refine x_icmp_geN (pc' := 12) rfl rfl (by omega) (by omega) (fun h9 => ?_) (fun h9 => ?_)
    · refine x_iload_n (pc' := 147) rfl rfl rfl ?_
      refine x_iret rfl rfl ?_
      have e : n = K.np := by omega
      subst e
      exact rI rfl
    · refine x_iload_n (pc' := 13) rfl rfl rfl (x_iconst (pc' := 14) rfl rfl (x_iaddN (pc' := 15) rfl rfl (x_istore_n3 (pc' := 16) rfl rfl rfl ?_)))
      refine l_X9_rings2 hV hK h _ n h9 (fun z0 z1 z2 => ?_) (K.np + 1) 0 _ _ _ (by omega) (by omega)
      refine x_iinc2 (pc' := 143) rfl rfl rfl (nI_add _ _) (x_goto rfl ?_)
      exact ih (n + 1) _ _ _ _ (by omega) (by omega)
set_option maxRecDepth 20000 in
theorem c_X9_rings {l : Launch} {X : XT} {d Lz : Nat} {w : Nat → Nat → Nat → Nat → Int32} {K : Kg} {s : Sa} (hV : KV K) (hK : KM w K) (h : RR w K 0 s) : CT l X (d + 2) md_X9_rings [.inr (.inr (9, 0, 0))] (mk Lz w) (some (.inl (c1 s.g K.np K.np))) (mk Lz w) := by
  show WP l X _ md_X9_rings (0, [some (.inr (.inr (9, 0, 0))), none, none, none, none, none, none], [], _) _
  refine x_iconst (pc' := 1) rfl rfl (x_istore_n1 (pc' := 2) rfl rfl rfl (x_iconst (pc' := 3) rfl rfl (x_istore_n2 (pc' := 4) rfl rfl rfl ?_)))
  exact l_X9_rings hV hK h (K.np + 1) 0 _ _ _ _ (by omega) (by omega)
