/-! sets as ints, by their bits -/
def has (x : Int32) (p : Nat) : Bool := decide ((x >>> (nI p &&& 31)) &&& nI 1 = nI 1)
theorem sh_k : ∀ p, p < 32 → ((nI p &&& 31).toBitVec.smod 32).toNat = p := by decide
theorem one_bit : ∀ n, n < 32 → ∀ i, i < 32 → (nI 1 <<< (nI n &&& 31)).toBitVec.getLsbD i = decide (i = n) := by decide +kernel
theorem m1_bit : ∀ i, i < 32 → (-1 : Int32).toBitVec.getLsbD i = true := by decide
theorem z_bit : ∀ i, i < 32 → (nI 0).toBitVec.getLsbD i = false := by decide
theorem and1 (x : BitVec 32) : (x &&& 1#32 = 1#32) ↔ x.getLsbD 0 = true := by
  rw [BitVec.and_one_eq_setWidth_ofBool_getLsbD]
  cases x.getLsbD 0 <;> decide
theorem has_bit {x : Int32} {p : Nat} (hp : p < 32) : has x p = x.toBitVec.getLsbD p := by
  have e : ((x >>> (nI p &&& 31)) &&& nI 1 = nI 1) ↔ x.toBitVec.getLsbD p = true := by
    rw [← Int32.toBitVec_inj]
    show ((x.toBitVec.sshiftRight ((nI p &&& 31).toBitVec.smod 32).toNat) &&& 1#32 = 1#32) ↔ _
    rw [sh_k p hp, and1, BitVec.getLsbD_sshiftRight]
    simp [hp]
  unfold has
  cases hb : x.toBitVec.getLsbD p with
  | true => exact decide_eq_true (e.mpr hb)
  | false => exact decide_eq_false (fun h => by rw [e.mp h] at hb; cases hb)
theorem i32_ext {a b : Int32} (h : ∀ i, i < 32 → a.toBitVec.getLsbD i = b.toBitVec.getLsbD i) : a = b := by
  rw [← Int32.toBitVec_inj]
  exact BitVec.eq_of_getLsbD_eq (fun i hi => h i hi)
theorem enc_bit {f : Nat → Bool} : ∀ n, n ≤ 32 → ∀ i, i < 32 → (enc f n).toBitVec.getLsbD i = (decide (i < n) && f i)
  | 0, _, i, hi => by
    show (nI 0).toBitVec.getLsbD i = _
    rw [z_bit i hi]; simp
  | n + 1, hn, i, hi => by
    have ih := enc_bit (f := f) n (by omega) i hi
    show (bif f n then enc f n ||| (nI 1 <<< (nI n &&& 31)) else enc f n).toBitVec.getLsbD i = _
    cases hf : f n with
    | true =>
      show ((enc f n).toBitVec ||| (nI 1 <<< (nI n &&& 31)).toBitVec).getLsbD i = _
      rw [BitVec.getLsbD_or, ih, one_bit n (by omega) i hi]
      by_cases e : i = n
      · subst e; simp [hf]
      · by_cases h2 : i < n
        · simp [h2, e, Nat.lt_succ_of_lt h2]
        · have h3 : ¬ i < n + 1 := by omega
          simp [h2, e, h3]
    | false =>
      show (enc f n).toBitVec.getLsbD i = _
      rw [ih]
      by_cases e : i = n
      · subst e; simp [hf]
      · by_cases h2 : i < n
        · simp [h2, Nat.lt_succ_of_lt h2]
        · have h3 : ¬ i < n + 1 := by omega
          simp [h2, h3]
theorem has_enc {f : Nat → Bool} {n p : Nat} (hn : n ≤ 32) (hp : p < n) : has (enc f n) p = f p := by
  rw [has_bit (by omega), enc_bit n hn p (by omega)]; simp [hp]
theorem and_bit (a b : Int32) (i : Nat) : (a &&& b).toBitVec.getLsbD i = (a.toBitVec.getLsbD i && b.toBitVec.getLsbD i) := by
  show (a.toBitVec &&& b.toBitVec).getLsbD i = _
  rw [BitVec.getLsbD_and]
theorem or_bit (a b : Int32) (i : Nat) : (a ||| b).toBitVec.getLsbD i = (a.toBitVec.getLsbD i || b.toBitVec.getLsbD i) := by
  show (a.toBitVec ||| b.toBitVec).getLsbD i = _
  rw [BitVec.getLsbD_or]
theorem not_bit (a : Int32) {i : Nat} (hi : i < 32) : (a ^^^ -1).toBitVec.getLsbD i = !a.toBitVec.getLsbD i := by
  show (a.toBitVec ^^^ (-1 : Int32).toBitVec).getLsbD i = _
  rw [BitVec.getLsbD_xor, m1_bit i hi]; simp
theorem enc_one {n q : Nat} (hn : n ≤ 32) (hq : q < n) : nI 1 <<< (nI q &&& 31) = enc (fun p => decide (p = q)) n := by
  apply i32_ext
  intro i hi
  rw [one_bit q (by omega) i hi, enc_bit n hn i hi]
  by_cases e : i = q
  · subst e; simp [hq]
  · simp [e]
theorem enc_diff {f g : Nat → Bool} {n : Nat} (hn : n ≤ 32) : enc f n &&& (enc g n ^^^ -1) = enc (fun p => f p && !g p) n := by
  apply i32_ext
  intro i hi
  rw [and_bit, not_bit _ hi, enc_bit n hn i hi, enc_bit n hn i hi, enc_bit n hn i hi]
  by_cases h : i < n <;> simp [h]
theorem enc_or {f g : Nat → Bool} {n : Nat} (hn : n ≤ 32) : enc f n ||| enc g n = enc (fun p => f p || g p) n := by
  apply i32_ext
  intro i hi
  rw [or_bit, enc_bit n hn i hi, enc_bit n hn i hi, enc_bit n hn i hi]
  by_cases h : i < n <;> simp [h]
theorem has_not {x : Int32} {p : Nat} (hp : p < 32) : has (x ^^^ -1) p = !has x p := by rw [has_bit hp, has_bit hp, not_bit _ hp]
theorem enc_0 {f : Nat → Bool} {n : Nat} (hn : n ≤ 32) : enc f n = 0 ↔ ∀ p, p < n → f p = false := by
  constructor
  · intro h p hp
    have := enc_bit (f := f) n hn p (by omega)
    rw [h] at this
    have z : (0 : Int32).toBitVec.getLsbD p = false := z_bit p (by omega)
    rw [z] at this
    simpa [hp] using this.symm
  · intro h
    apply i32_ext
    intro i hi
    rw [enc_bit n hn i hi, show (0 : Int32).toBitVec.getLsbD i = false from z_bit i hi]
    by_cases hq : i < n
    · simp [h i hq]
    · simp [hq]
