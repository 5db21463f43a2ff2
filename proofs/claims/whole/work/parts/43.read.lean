/-! what is read from a state -/
def nrs (t : Nat → Int32) (f b : Option Nat) (p : Nat) : Option Nat × Option Nat := match f with
  | none => (some p, none)
  | some f => if t p ≤ t f then (match b with
    | none => (some f, some p)
    | some b => if t p ≤ t b then (some f, some b) else (some f, some p)) else (some p, some f)
def nrl (t : Nat → Int32) : Nat → Option Nat × Option Nat
  | 0 => (none, none)
  | n + 1 => nrs t (nrl t n).1 (nrl t n).2 n
theorem nrl_s {t : Nat → Int32} {n : Nat} {f b : Option Nat} {r : Option Nat × Option Nat} (h : nrl t n = (f, b)) (h2 : nrs t f b n = r) : nrl t (n + 1) = r := by
  show nrs t (nrl t n).1 (nrl t n).2 n = r
  rw [h]; exact h2
theorem nrl_lt {t : Nat → Int32} : ∀ n, (∀ f, (nrl t n).1 = some f → f < n) ∧ (∀ f, (nrl t n).2 = some f → f < n)
  | 0 => ⟨(fun f h => by cases h), (fun f h => by cases h)⟩
  | n + 1 => by
    have ih := nrl_lt (t := t) n
    cases hc : nrl t n with
    | mk f b =>
      rw [hc] at ih
      cases f with
      | none =>
        rw [nrl_s hc rfl]
        exact ⟨fun f h => by cases h; omega, fun f h => by cases h⟩
      | some f =>
        have hf := ih.1 f rfl
        by_cases z : t n ≤ t f
        · cases b with
          | none =>
            rw [nrl_s (r := (some f, some n)) hc (by simp only [nrs, if_pos z])]
            exact ⟨fun f h => by cases h; omega, fun f h => by cases h; omega⟩
          | some b =>
            have hb := ih.2 b rfl
            by_cases y : t n ≤ t b
            · rw [nrl_s (r := (some f, some b)) hc (by simp only [nrs, if_pos z, if_pos y])]
              exact ⟨fun f h => by cases h; omega, fun f h => by cases h; omega⟩
            · rw [nrl_s (r := (some f, some n)) hc (by simp only [nrs, if_pos z, if_neg y])]
              exact ⟨fun f h => by cases h; omega, fun f h => by cases h; omega⟩
        · rw [nrl_s (r := (some n, some f)) hc (by simp only [nrs, if_neg z])]
          exact ⟨fun f h => by cases h; omega, fun f h => by cases h; omega⟩
def cps (g : Nat → Int32) (p q : Nat) : Nat → Int32
  | 0 => nI 0
  | n + 1 => cps g p q n + cpI (g (p * 3 + n)) (g (q * 3 + n))
def btA (g : Nat → Int32) (p q : Nat) : Bool := decide (¬ cps g p q 3 ≤ 0)
theorem cp_1 {x y : Int32} (h : ¬ x ≤ y) : cpI x y = nI 1 := by
  unfold cpI
  have h2 : y ≤ x := Int32.le_of_lt (Int32.not_le.mp h)
  rw [if_pos h2, if_neg (fun e => h (by rw [e]; exact Int32.le_refl y))]
theorem cp_m {x y : Int32} (h : ¬ y ≤ x) : cpI x y = -1 := by unfold cpI; rw [if_neg h]
theorem cp_0 {x y : Int32} (h : x ≤ y) (h2 : y ≤ x) : cpI x y = nI 0 := by
  unfold cpI; rw [if_pos h2, if_pos (Int32.le_antisymm h h2)]
def rgA (g : Nat → Int32) (a b c : Nat) : Bool := (btA g a b && (btA g b c && btA g c a)) || (btA g a c && (btA g c b && btA g b a))
def c3 (g : Nat → Int32) (R : Int32) (a b : Nat) : Nat → Int32
  | 0 => R
  | m + 1 => bif rgA g a b (b + 1 + m) then c3 g R a b m + nI 1 else c3 g R a b m
def c2 (g : Nat → Int32) (np : Nat) (R : Int32) (a : Nat) : Nat → Int32
  | 0 => R
  | m + 1 => c3 g (c2 g np R a m) a (a + 1 + m) (np - (a + 1 + m) - 1)
def c1 (g : Nat → Int32) (np : Nat) : Nat → Int32
  | 0 => nI 0
  | m + 1 => c2 g np (c1 g np m) m (np - m - 1)
theorem c3_t {g : Nat → Int32} {R : Int32} {a b m : Nat} (h : rgA g a b (b + 1 + m) = true) : c3 g R a b m + nI 1 = c3 g R a b (m + 1) := by
  show _ = bif rgA g a b (b + 1 + m) then _ else _
  rw [h]; rfl
theorem c3_f {g : Nat → Int32} {R : Int32} {a b m : Nat} (h : rgA g a b (b + 1 + m) = false) : c3 g R a b m = c3 g R a b (m + 1) := by
  show _ = bif rgA g a b (b + 1 + m) then _ else _
  rw [h]; rfl
def brk (g : Nat → Int32) (p : Nat) (R : Int32) : Nat → Int32
  | 0 => R
  | n + 1 => brk g p R n + g (p * 3 + n)
def brl (s : Sa) : Nat → Int32
  | 0 => nI 0
  | n + 1 => bif coA s n then brl s n else brk s.g n (brl s n) 3
theorem brl_t {s : Sa} {n : Nat} (h : coA s n = true) : brl s (n + 1) = brl s n := by
  show (bif coA s n then _ else _) = _
  rw [h]; rfl
theorem brl_f {s : Sa} {n : Nat} (h : coA s n = false) : brl s (n + 1) = brk s.g n (brl s n) 3 := by
  show (bif coA s n then _ else _) = _
  rw [h]; rfl
def mnS (g : Nat → Int32) (k : Nat) : Nat → Int32
  | 0 => g (0 * 3 + k)
  | m + 1 => mnI (mnS g k m) (g ((m + 1) * 3 + k))
def mxS (g : Nat → Int32) (k : Nat) : Nat → Int32
  | 0 => g (0 * 3 + k)
  | m + 1 => mxI (mxS g k m) (g ((m + 1) * 3 + k))
def spA (g : Nat → Int32) (k np : Nat) : Int32 := if np < 1 then nI 0 else mxS g k (np - 1) - mnS g k (np - 1)
def plc (K : Kg) (s : Sa) (k p q : Nat) : Bool := coA s q && (!fsA K s k q && (decide (¬ q = p) && ahd K.law K.dr (mkA K s k) q p))
def plA (K : Kg) (s : Sa) (k p : Nat) : Nat → Int32
  | 0 => nI 1
  | n + 1 => bif plc K s k p n then plA K s k p n + nI 1 else plA K s k p n
theorem plA_t {K : Kg} {s : Sa} {k p n : Nat} (h : plc K s k p n = true) : plA K s k p n + nI 1 = plA K s k p (n + 1) := by
  show _ = bif plc K s k p n then _ else _
  rw [h]; rfl
theorem plA_f {K : Kg} {s : Sa} {k p n : Nat} (h : plc K s k p n = false) : plA K s k p n = plA K s k p (n + 1) := by
  show _ = bif plc K s k p n then _ else _
  rw [h]; rfl
set_option maxRecDepth 20000 in
theorem c_X6_logSize {l : Launch} {X : XT} {d Lz : Nat} {w : Nat → Nat → Nat → Nat → Int32} (i cc : Nat) (hcc : w 6 i 0 6 = nI cc) (hc : cc < 2 ^ 30) : CT l X (d + 2) md_X6_logSize [.inr (.inr (6, i, 0))] (mk Lz w) (some (.inl (nI (min cc 20)))) (mk Lz w) := by
  show WP l X _ md_X6_logSize (0, [some (.inr (.inr (6, i, 0)))], [], _) _
  refine x_aload_n (pc' := 1) rfl rfl rfl (x_getI (pc' := 4) rfl rfl rfl ?_)
  rw [hcc]
  refine x_bipush (pc' := 6) rfl rfl (x_invS2 (pc' := 9) rfl rfl rfl rfl rfl (c_J9_min_7cf53 _ _) ?_)
  rw [nI_min (by omega) (by omega)]
  refine x_iret rfl rfl ?_
  exact rI rfl
def lgE (s : Sa) (i : Int32) (t : Nat) : Int32 := if 0 ≤ i ∧ i < nI (min s.cc 20) then s.lg (s.cc - 1 - i.toNatClampNeg) t else -1
set_option maxRecDepth 20000 in
theorem c_X6_logEntry {l : Launch} {X : XT} {d Lz : Nat} {w : Nat → Nat → Nat → Nat → Int32} {K : Kg} {s : Sa} (i : Nat) (h : RC w K i s) (hs : SV s) (hd : s.dd < 2 ^ 30) (v : Int32) (t : Nat) (ht : t < 4) : CT l X (d + 3) md_X6_logEntry [.inr (.inr (6, i, 0)), .inl (v), .inl (nI t)] (mk Lz w) (some (.inl (lgE s v t))) (mk Lz w) := by
  have h8 := h.2.2.2.2.2.2.2.1
  have hc := hs.2.2
  show WP l X _ md_X6_logEntry (0, [some (.inr (.inr (6, i, 0))), some (.inl (v)), some (.inl (nI t))], [], _) _
  refine x_iload_n (pc' := 1) rfl rfl rfl ?_
  refine x_if_lt (pc' := 4) rfl rfl (fun h1 => ?_) (fun h1 => ?_)
  · refine x_iconst (pc' := 13) rfl rfl ?_
    refine x_iret rfl rfl ?_
    exact rI (by unfold lgE; rw [if_neg (fun y => by first | exact Int32.not_lt.mpr y.1 h1 | exact h9 y.2)])
  · refine x_iload_n (pc' := 5) rfl rfl rfl (x_aload_n (pc' := 6) rfl rfl rfl (x_invI1 (pc' := 9) rfl rfl rfl (c_X6_logSize i s.cc h8 (by omega)) ?_))
    refine x_icmp_lt (pc' := 12) rfl rfl (fun h9 => ?_) (fun h9 => ?_)
    · obtain ⟨m, hm, rfl⟩ := nI_of h1
      have hmc : m < min s.cc 20 := (nI_ltI hm (by omega)).mp h9
      refine x_aload_n (pc' := 15) rfl rfl rfl (x_getR (pc' := 18) (t := (6, _, 6)) rfl rfl rfl (x_aload_n (pc' := 19) rfl rfl rfl (x_getI (pc' := 22) rfl rfl rfl ?_)))
      rw [h8]
      refine x_iconst (pc' := 23) rfl rfl (x_isubN (pc' := 24) rfl rfl (by first | assumption | omega) (x_iload_n (pc' := 25) rfl rfl rfl (x_isubN (pc' := 26) rfl rfl (by first | assumption | omega) ?_)))
      refine x_bipush (pc' := 28) rfl rfl (x_iremN (pc' := 29) rfl rfl (by decide) (by omega) (by decide) (x_iconst (pc' := 30) rfl rfl (x_imulN (pc' := 31) rfl rfl (x_iload_n (pc' := 32) rfl rfl rfl (x_iaddN (pc' := 33) rfl rfl ?_)))))
      refine x_iald (pc' := 34) (N := 80) rfl rfl rfl rfl (by omega) (by decide) ?_
      rw [show s.cc - 1 - m = s.cc - 1 - m from rfl, h.2.2.2.2.2.2.2.2 (s.cc - 1 - m) t (by omega) (by omega) ht]
      refine x_iret rfl rfl ?_
      exact rI (by unfold lgE; rw [if_pos ⟨Int32.not_lt.mp h1, h9⟩, nI_clamp hm])
    · refine x_iconst (pc' := 13) rfl rfl ?_
      refine x_iret rfl rfl ?_
      exact rI (by unfold lgE; rw [if_neg (fun y => by first | exact Int32.not_lt.mpr y.1 h1 | exact h9 y.2)])
set_option maxRecDepth 20000 in
theorem l_X6_nearlyOf {l : Launch} {X : XT} {d Lz : Nat} {w : Nat → Nat → Nat → Nat → Int32} {K : Kg} {s : Sa} (i j : Nat) (hV : KV K) (hK : KC w j K) (h : RC w K i s) : ∀ (kk n : Nat), ∀ (f b : Option Nat), nrl s.ti n = (f, b) →  n ≤ K.np → K.np + 1 ≤ n + kk → WP l X (d + 1) md_X6_nearlyOf (7, [some (.inr (.inr (6, i, 0))), some (.inr (.inr (4, j, 0))), some (.inl (oI f)), some (.inl (oI b)), some (.inl (nI n))], [], mk Lz w) (fun v M' => v = some (.inl (oI (nrl s.ti K.np).2)) ∧ M' = mk Lz w) := by
  intro kk
  induction kk with
  | zero =>
    intro n f b hfb h1 h2
    exact absurd h2 (by omega)
  | succ kk ih =>
    intro n f b hfb hi1 hi2
    have hv7 := hV.1
    have hnp := hK.2.2.1
    have hlt := nrl_lt (t := s.ti) n
    rw [hfb] at hlt
    cases f with
    | none =>
      show WP l X _ md_X6_nearlyOf (7, [some (.inr (.inr (6, i, 0))), some (.inr (.inr (4, j, 0))), some (.inl (-1)), some (.inl (oI b)), some (.inl (nI n))], [], _) _
      refine x_iload (pc' := 9) rfl rfl rfl (x_aload_n (pc' := 10) rfl rfl rfl (x_getI (pc' := 13) rfl rfl rfl ?_))
      rw [hnp]
      refine x_icmp_geN (pc' := 16) rfl rfl (by omega) (by omega) (fun h13 => ?_) (fun h13 => ?_)
      · refine x_iload_n (pc' := 76) rfl rfl rfl ?_
        refine x_iret rfl rfl ?_
        have e : n = K.np := by omega
        subst e
        exact rI (by rw [hfb] <;> rfl)
      · refine x_iload_n (pc' := 17) rfl rfl rfl (x_iconst (pc' := 18) rfl rfl ?_)
        refine x_icmp_eq (pc' := 21) rfl rfl (fun h18 => ?_) (fun h18 => absurd rfl h18)
        refine x_iload_n (pc' := 38) rfl rfl rfl (x_istore_n3 (pc' := 39) rfl rfl rfl (x_iload (pc' := 41) rfl rfl rfl (x_istore_n2 (pc' := 42) rfl rfl rfl (x_goto rfl (x_iinc4 (pc' := 72) rfl rfl rfl (nI_add _ _) ?_)))))
        refine x_goto rfl ?_
        exact ih (n + 1) (some n) none (nrl_s hfb (by simp only [nrs])) (by omega) (by omega)
    | some f =>
      have hf := hlt.1 f rfl
      cases b with
      | none =>
        show WP l X _ md_X6_nearlyOf (7, [some (.inr (.inr (6, i, 0))), some (.inr (.inr (4, j, 0))), some (.inl (nI f)), some (.inl (-1)), some (.inl (nI n))], [], _) _
        refine x_iload (pc' := 9) rfl rfl rfl (x_aload_n (pc' := 10) rfl rfl rfl (x_getI (pc' := 13) rfl rfl rfl ?_))
        rw [hnp]
        refine x_icmp_geN (pc' := 16) rfl rfl (by omega) (by omega) (fun h13 => ?_) (fun h13 => ?_)
        · refine x_iload_n (pc' := 76) rfl rfl rfl ?_
          refine x_iret rfl rfl ?_
          have e : n = K.np := by omega
          subst e
          exact rI (by rw [hfb] <;> rfl)
        · refine x_iload_n (pc' := 17) rfl rfl rfl (x_iconst (pc' := 18) rfl rfl ?_)
          refine x_icmp_eq (pc' := 21) rfl rfl (fun h18 => absurd h18 (nI_ne1 (by omega))) (fun h18 => ?_)
          refine x_aload_n (pc' := 22) rfl rfl rfl (x_getR (pc' := 25) (t := (6, _, 4)) rfl rfl rfl (x_iload (pc' := 27) rfl rfl rfl (x_iald (pc' := 28) (N := 7) rfl rfl rfl rfl (by first | assumption | omega) (by decide) ?_)))
          rw [h.2.2.2.1 n (by omega)]
          refine x_aload_n (pc' := 29) rfl rfl rfl (x_getR (pc' := 32) (t := (6, _, 4)) rfl rfl rfl (x_iload_n (pc' := 33) rfl rfl rfl (x_iald (pc' := 34) (N := 7) rfl rfl rfl rfl (by first | assumption | omega) (by decide) ?_)))
          rw [h.2.2.2.1 f (by omega)]
          refine x_icmp_le (pc' := 37) rfl rfl (fun h34 => ?_) (fun h34 => ?_)
          · refine x_iload_n (pc' := 46) rfl rfl rfl (x_iconst (pc' := 47) rfl rfl ?_)
            refine x_icmp_eq (pc' := 50) rfl rfl (fun h47 => ?_) (fun h47 => absurd rfl h47)
            refine x_iload (pc' := 68) rfl rfl rfl (x_istore_n3 (pc' := 69) rfl rfl rfl (x_iinc4 (pc' := 72) rfl rfl rfl (nI_add _ _) (x_goto rfl ?_)))
            first | exact ih (n + 1) (some n) (some f) (nrl_s hfb (by simp only [nrs, if_neg h34])) (by omega) (by omega) | exact ih (n + 1) (some f) (some n) (nrl_s hfb (by simp only [nrs, if_pos h34])) (by omega) (by omega)
          · refine x_iload_n (pc' := 38) rfl rfl rfl (x_istore_n3 (pc' := 39) rfl rfl rfl (x_iload (pc' := 41) rfl rfl rfl (x_istore_n2 (pc' := 42) rfl rfl rfl (x_goto rfl (x_iinc4 (pc' := 72) rfl rfl rfl (nI_add _ _) ?_)))))
            refine x_goto rfl ?_
            first | exact ih (n + 1) (some n) (some f) (nrl_s hfb (by simp only [nrs, if_neg h34])) (by omega) (by omega) | exact ih (n + 1) (some f) (some n) (nrl_s hfb (by simp only [nrs, if_pos h34])) (by omega) (by omega)
      | some b =>
        have hb := hlt.2 b rfl
        show WP l X _ md_X6_nearlyOf (7, [some (.inr (.inr (6, i, 0))), some (.inr (.inr (4, j, 0))), some (.inl (nI f)), some (.inl (nI b)), some (.inl (nI n))], [], _) _
        refine x_iload (pc' := 9) rfl rfl rfl (x_aload_n (pc' := 10) rfl rfl rfl (x_getI (pc' := 13) rfl rfl rfl ?_))
        rw [hnp]
        refine x_icmp_geN (pc' := 16) rfl rfl (by omega) (by omega) (fun h13 => ?_) (fun h13 => ?_)
        · refine x_iload_n (pc' := 76) rfl rfl rfl ?_
          refine x_iret rfl rfl ?_
          have e : n = K.np := by omega
          subst e
          exact rI (by rw [hfb] <;> rfl)
        · refine x_iload_n (pc' := 17) rfl rfl rfl (x_iconst (pc' := 18) rfl rfl ?_)
          refine x_icmp_eq (pc' := 21) rfl rfl (fun h18 => absurd h18 (nI_ne1 (by omega))) (fun h18 => ?_)
          refine x_aload_n (pc' := 22) rfl rfl rfl (x_getR (pc' := 25) (t := (6, _, 4)) rfl rfl rfl (x_iload (pc' := 27) rfl rfl rfl (x_iald (pc' := 28) (N := 7) rfl rfl rfl rfl (by first | assumption | omega) (by decide) ?_)))
          rw [h.2.2.2.1 n (by omega)]
          refine x_aload_n (pc' := 29) rfl rfl rfl (x_getR (pc' := 32) (t := (6, _, 4)) rfl rfl rfl (x_iload_n (pc' := 33) rfl rfl rfl (x_iald (pc' := 34) (N := 7) rfl rfl rfl rfl (by first | assumption | omega) (by decide) ?_)))
          rw [h.2.2.2.1 f (by omega)]
          refine x_icmp_le (pc' := 37) rfl rfl (fun h34 => ?_) (fun h34 => ?_)
          · refine x_iload_n (pc' := 46) rfl rfl rfl (x_iconst (pc' := 47) rfl rfl ?_)
            refine x_icmp_eq (pc' := 50) rfl rfl (fun h47 => absurd h47 (nI_ne1 (by omega))) (fun h47 => ?_)
            refine x_aload_n (pc' := 51) rfl rfl rfl (x_getR (pc' := 54) (t := (6, _, 4)) rfl rfl rfl (x_iload (pc' := 56) rfl rfl rfl (x_iald (pc' := 57) (N := 7) rfl rfl rfl rfl (by first | assumption | omega) (by decide) ?_)))
            rw [h.2.2.2.1 n (by omega)]
            refine x_aload_n (pc' := 58) rfl rfl rfl (x_getR (pc' := 61) (t := (6, _, 4)) rfl rfl rfl (x_iload_n (pc' := 62) rfl rfl rfl (x_iald (pc' := 63) (N := 7) rfl rfl rfl rfl (by first | assumption | omega) (by decide) ?_)))
            rw [h.2.2.2.1 b (by omega)]
            refine x_icmp_le (pc' := 66) rfl rfl (fun h63 => ?_) (fun h63 => ?_)
            · refine x_iinc4 (pc' := 72) rfl rfl rfl (nI_add _ _) (x_goto rfl ?_)
              first | exact ih (n + 1) (some n) (some f) (nrl_s hfb (by simp only [nrs, if_neg h34])) (by omega) (by omega) | exact ih (n + 1) (some f) (some n) (nrl_s hfb (by simp only [nrs, if_pos h34, if_neg h63])) (by omega) (by omega) | exact ih (n + 1) (some f) (some b) (nrl_s hfb (by simp only [nrs, if_pos h34, if_pos h63])) (by omega) (by omega)
            · refine x_iload (pc' := 68) rfl rfl rfl (x_istore_n3 (pc' := 69) rfl rfl rfl (x_iinc4 (pc' := 72) rfl rfl rfl (nI_add _ _) (x_goto rfl ?_)))
              first | exact ih (n + 1) (some n) (some f) (nrl_s hfb (by simp only [nrs, if_neg h34])) (by omega) (by omega) | exact ih (n + 1) (some f) (some n) (nrl_s hfb (by simp only [nrs, if_pos h34, if_neg h63])) (by omega) (by omega) | exact ih (n + 1) (some f) (some b) (nrl_s hfb (by simp only [nrs, if_pos h34, if_pos h63])) (by omega) (by omega)
          · refine x_iload_n (pc' := 38) rfl rfl rfl (x_istore_n3 (pc' := 39) rfl rfl rfl (x_iload (pc' := 41) rfl rfl rfl (x_istore_n2 (pc' := 42) rfl rfl rfl (x_goto rfl (x_iinc4 (pc' := 72) rfl rfl rfl (nI_add _ _) ?_)))))
            refine x_goto rfl ?_
            first | exact ih (n + 1) (some n) (some f) (nrl_s hfb (by simp only [nrs, if_neg h34])) (by omega) (by omega) | exact ih (n + 1) (some f) (some n) (nrl_s hfb (by simp only [nrs, if_pos h34, if_neg h63])) (by omega) (by omega) | exact ih (n + 1) (some f) (some b) (nrl_s hfb (by simp only [nrs, if_pos h34, if_pos h63])) (by omega) (by omega)
set_option maxRecDepth 20000 in
theorem c_X6_nearlyOf {l : Launch} {X : XT} {d Lz : Nat} {w : Nat → Nat → Nat → Nat → Int32} {K : Kg} {s : Sa} (i j : Nat) (hV : KV K) (hK : KC w j K) (h : RC w K i s) : CT l X (d + 1) md_X6_nearlyOf [.inr (.inr (6, i, 0)), .inr (.inr (4, j, 0))] (mk Lz w) (some (.inl (oI (nrl s.ti K.np).2))) (mk Lz w) := by
  show WP l X _ md_X6_nearlyOf (0, [some (.inr (.inr (6, i, 0))), some (.inr (.inr (4, j, 0))), none, none, none], [], _) _
  refine x_iconst (pc' := 1) rfl rfl (x_istore_n2 (pc' := 2) rfl rfl rfl (x_iconst (pc' := 3) rfl rfl (x_istore_n3 (pc' := 4) rfl rfl rfl (x_iconst (pc' := 5) rfl rfl (x_istore4 (pc' := 7) rfl rfl rfl ?_)))))
  exact l_X6_nearlyOf i j hV hK h (K.np + 1) 0 none none rfl (by omega) (by omega)
set_option maxRecDepth 20000 in
theorem l_X6_hasMoreGifts {l : Launch} {X : XT} {d Lz : Nat} {w : Nat → Nat → Nat → Nat → Int32} {K : Kg} {s : Sa} (i : Nat) (hV : KV K) (h : RC w K i s) (p q : Nat) (hp : p < K.np) (hq : q < K.np) : ∀ (kk n : Nat),  n ≤ 3 → 3 + 1 ≤ n + kk → WP l X (d + 2) md_X6_hasMoreGifts (5, [some (.inr (.inr (6, i, 0))), some (.inl (nI p)), some (.inl (nI q)), some (.inl (cps s.g p q n)), some (.inl (nI n))], [], mk Lz w) (fun v M' => v = some (.inl (bI (btA s.g p q))) ∧ M' = mk Lz w) := by
  intro kk
  induction kk with
  | zero =>
    intro n h1 h2
    exact absurd h2 (by omega)
  | succ kk ih =>
    intro n hi1 hi2
    have hv7 := hV.1
    refine x_iload (pc' := 7) rfl rfl rfl (x_iconst (pc' := 8) rfl rfl ?_)
    refine x_icmp_geN (pc' := 11) rfl rfl (by omega) (by omega) (fun h8 => ?_) (fun h8 => ?_)
    · refine x_iload_n (pc' := 38) rfl rfl rfl ?_
      refine x_if_le (pc' := 41) rfl rfl (fun h38 => ?_) (fun h38 => ?_)
      · refine x_iconst (pc' := 46) rfl rfl ?_
        refine x_zret rfl rfl (by decide) ?_
        have e : n = 3 := by omega
        subst e
        first | exact rI (bI_f (dF (fun z => z h38))).symm | exact rI (bI_t (dT h38)).symm
      · refine x_iconst (pc' := 42) rfl rfl (x_goto rfl ?_)
        refine x_zret rfl rfl (by decide) ?_
        have e : n = 3 := by omega
        subst e
        first | exact rI (bI_f (dF (fun z => z h38))).symm | exact rI (bI_t (dT h38)).symm
    · refine x_iload_n (pc' := 12) rfl rfl rfl (x_aload_n (pc' := 13) rfl rfl rfl (x_iload_n (pc' := 14) rfl rfl rfl (x_iload (pc' := 16) rfl rfl rfl (x_invI3 (pc' := 19) rfl rfl rfl rfl rfl (c_X6_giftOf _ _ _ (by omega)) ?_))))
      rw [h.1 _ (by omega)]
      refine x_aload_n (pc' := 20) rfl rfl rfl (x_iload_n (pc' := 21) rfl rfl rfl (x_iload (pc' := 23) rfl rfl rfl (x_invI3 (pc' := 26) rfl rfl rfl rfl rfl (c_X6_giftOf _ _ _ (by omega)) ?_)))
      rw [h.1 _ (by omega)]
      refine x_invS2 (pc' := 29) rfl rfl rfl rfl rfl (c_J6_compare_7cf53 _ _) ?_
      refine x_iadd (pc' := 30) rfl rfl (x_istore_n3 (pc' := 31) rfl rfl rfl (x_iinc4 (pc' := 34) rfl rfl rfl (nI_add _ _) (x_goto rfl ?_)))
      exact ih (n + 1) (by omega) (by omega)
set_option maxRecDepth 20000 in
theorem c_X6_hasMoreGifts {l : Launch} {X : XT} {d Lz : Nat} {w : Nat → Nat → Nat → Nat → Int32} {K : Kg} {s : Sa} (i : Nat) (hV : KV K) (h : RC w K i s) (p q : Nat) (hp : p < K.np) (hq : q < K.np) : CT l X (d + 2) md_X6_hasMoreGifts [.inr (.inr (6, i, 0)), .inl (nI p), .inl (nI q)] (mk Lz w) (some (.inl (bI (btA s.g p q)))) (mk Lz w) := by
  show WP l X _ md_X6_hasMoreGifts (0, [some (.inr (.inr (6, i, 0))), some (.inl (nI p)), some (.inl (nI q)), none, none], [], _) _
  refine x_iconst (pc' := 1) rfl rfl (x_istore_n3 (pc' := 2) rfl rfl rfl (x_iconst (pc' := 3) rfl rfl (x_istore4 (pc' := 5) rfl rfl rfl ?_)))
  exact l_X6_hasMoreGifts i hV h p q hp hq 4 0 (by omega) (by omega)
def r1A (g : Nat → Int32) (a b c : Nat) : Bool := btA g a b && (btA g b c && btA g c a)
set_option maxRecDepth 20000 in
theorem c_X6_isRing {l : Launch} {X : XT} {d Lz : Nat} {w : Nat → Nat → Nat → Nat → Int32} {K : Kg} {s : Sa} (i : Nat) (hV : KV K) (h : RC w K i s) (a b c : Nat) (ha : a < K.np) (hb : b < K.np) (hc : c < K.np) : CT l X (d + 3) md_X6_isRing [.inr (.inr (6, i, 0)), .inl (nI a), .inl (nI b), .inl (nI c)] (mk Lz w) (some (.inl (bI (r1A s.g a b c)))) (mk Lz w) := by
  show WP l X _ md_X6_isRing (0, [some (.inr (.inr (6, i, 0))), some (.inl (nI a)), some (.inl (nI b)), some (.inl (nI c))], [], _) _
  refine x_aload_n (pc' := 1) rfl rfl rfl (x_iload_n (pc' := 2) rfl rfl rfl (x_iload_n (pc' := 3) rfl rfl rfl (x_invI3 (pc' := 6) rfl rfl rfl rfl rfl (c_X6_hasMoreGifts i hV h _ _ (by assumption) (by assumption)) ?_)))
  refine x_if_eq (pc' := 9) rfl rfl (fun h6 => ?_) (fun h6 => ?_)
  · refine x_iconst (pc' := 32) rfl rfl ?_
    refine x_zret rfl rfl (by decide) ?_
    exact rI (by unfold r1A; first | rw [bI_eq0.mp h6]; rfl | (rw [bI_eq0.mp h15, bq h6]; rfl) | (rw [bI_eq0.mp h24, bq h6, bq h15]; rfl) | (rw [bq h24, bq h6, bq h15]; rfl))
  · refine x_aload_n (pc' := 10) rfl rfl rfl (x_iload_n (pc' := 11) rfl rfl rfl (x_iload_n (pc' := 12) rfl rfl rfl (x_invI3 (pc' := 15) rfl rfl rfl rfl rfl (c_X6_hasMoreGifts i hV h _ _ (by assumption) (by assumption)) ?_)))
    refine x_if_eq (pc' := 18) rfl rfl (fun h15 => ?_) (fun h15 => ?_)
    · refine x_iconst (pc' := 32) rfl rfl ?_
      refine x_zret rfl rfl (by decide) ?_
      exact rI (by unfold r1A; first | rw [bI_eq0.mp h6]; rfl | (rw [bI_eq0.mp h15, bq h6]; rfl) | (rw [bI_eq0.mp h24, bq h6, bq h15]; rfl) | (rw [bq h24, bq h6, bq h15]; rfl))
    · refine x_aload_n (pc' := 19) rfl rfl rfl (x_iload_n (pc' := 20) rfl rfl rfl (x_iload_n (pc' := 21) rfl rfl rfl (x_invI3 (pc' := 24) rfl rfl rfl rfl rfl (c_X6_hasMoreGifts i hV h _ _ (by assumption) (by assumption)) ?_)))
      refine x_if_eq (pc' := 27) rfl rfl (fun h24 => ?_) (fun h24 => ?_)
      · refine x_iconst (pc' := 32) rfl rfl ?_
        refine x_zret rfl rfl (by decide) ?_
        exact rI (by unfold r1A; first | rw [bI_eq0.mp h6]; rfl | (rw [bI_eq0.mp h15, bq h6]; rfl) | (rw [bI_eq0.mp h24, bq h6, bq h15]; rfl) | (rw [bq h24, bq h6, bq h15]; rfl))
      · refine x_iconst (pc' := 28) rfl rfl (x_goto rfl ?_)
        refine x_zret rfl rfl (by decide) ?_
        exact rI (by unfold r1A; first | rw [bI_eq0.mp h6]; rfl | (rw [bI_eq0.mp h15, bq h6]; rfl) | (rw [bI_eq0.mp h24, bq h6, bq h15]; rfl) | (rw [bq h24, bq h6, bq h15]; rfl))
set_option maxRecDepth 20000 in
theorem l_X6_brilliance1 {l : Launch} {X : XT} {d Lz : Nat} {w : Nat → Nat → Nat → Nat → Int32} {K : Kg} {s : Sa} (i j : Nat) (hV : KV K) (hK : KC w j K) (h : RC w K i s) (R : Int32) (p : Nat) (hp : p < K.np) (hco : cC w i p = false) {Q : Option AV → Mem → Prop} (hQ : WP l X (d + 2) md_X6_brillianceOf (45, [some (.inr (.inr (6, i, 0))), some (.inr (.inr (4, j, 0))), some (.inl (brk s.g p R 3)), some (.inl (nI p)), some (.inl (nI 3))], [], mk Lz w) Q) : ∀ (kk n : Nat),  n ≤ 3 → 3 + 1 ≤ n + kk → WP l X (d + 2) md_X6_brillianceOf (15, [some (.inr (.inr (6, i, 0))), some (.inr (.inr (4, j, 0))), some (.inl (brk s.g p R n)), some (.inl (nI p)), some (.inl (nI n))], [], mk Lz w) (Q) := by
  intro kk
  induction kk with
  | zero =>
    intro n h1 h2
    exact absurd h2 (by omega)
  | succ kk ih =>
    intro n hi1 hi2
    have hv7 := hV.1
    refine x_iload (pc' := 17) rfl rfl rfl (x_iconst (pc' := 18) rfl rfl ?_)
    refine x_icmp_geN (pc' := 21) rfl rfl (by omega) (by omega) (fun h18 => ?_) (fun h18 => ?_)
    · have e : n = 3 := by omega
      subst e
      exact hQ
    · refine x_aload_n (pc' := 22) rfl rfl rfl (x_iload_n (pc' := 23) rfl rfl rfl (x_invI2 (pc' := 26) rfl rfl rfl rfl (c_X6_isAtCourt _ _ (by omega)) ?_))
      refine x_if_ne (pc' := 29) rfl rfl (fun h26 => ?_) (fun h26 => absurd (bI_eq0.mpr hco) h26)
      refine x_iload_n (pc' := 30) rfl rfl rfl (x_aload_n (pc' := 31) rfl rfl rfl (x_iload_n (pc' := 32) rfl rfl rfl (x_iload (pc' := 34) rfl rfl rfl (x_invI3 (pc' := 37) rfl rfl rfl rfl rfl (c_X6_giftOf _ _ _ (by omega)) ?_))))
      rw [h.1 _ (by omega)]
      refine x_iadd (pc' := 38) rfl rfl (x_istore_n2 (pc' := 39) rfl rfl rfl (x_iinc4 (pc' := 42) rfl rfl rfl (nI_add _ _) (x_goto rfl ?_)))
      exact ih (n + 1) (by omega) (by omega)
set_option maxRecDepth 20000 in
theorem l_X6_brillianceOf {l : Launch} {X : XT} {d Lz : Nat} {w : Nat → Nat → Nat → Nat → Int32} {K : Kg} {s : Sa} (i j : Nat) (hV : KV K) (hK : KC w j K) (h : RC w K i s) : ∀ (k n : Nat), ∀ (z : Option AV),  n ≤ K.np → K.np + 1 ≤ n + k → WP l X (d + 2) md_X6_brillianceOf (4, [some (.inr (.inr (6, i, 0))), some (.inr (.inr (4, j, 0))), some (.inl (brl s n)), some (.inl (nI n)), z], [], mk Lz w) (fun v M' => v = some (.inl (brl s K.np)) ∧ M' = mk Lz w) := by
  intro k
  induction k with
  | zero =>
    intro n z h1 h2
    exact absurd h2 (by omega)
  | succ k ih =>
    intro n z hi1 hi2
    have hv7 := hV.1
    have hnp := hK.2.2.1
    refine x_iload_n (pc' := 5) rfl rfl rfl (x_aload_n (pc' := 6) rfl rfl rfl (x_getI (pc' := 9) rfl rfl rfl ?_))
    rw [hnp]
    refine x_icmp_geN (pc' := 12) rfl rfl (by omega) (by omega) (fun h9 => ?_) (fun h9 => ?_)
    · refine x_iload_n (pc' := 52) rfl rfl rfl ?_
      refine x_iret rfl rfl ?_
      have e : n = K.np := by omega
      subst e
      exact rI rfl
    · refine x_iconst (pc' := 13) rfl rfl (x_istore4 (pc' := 15) rfl rfl rfl ?_)
      cases hco : cC w i n with
      | false =>
        refine l_X6_brilliance1 i j hV hK h _ n h9 hco ?_ 4 0 (by omega) (by omega)
        refine x_iinc3 (pc' := 48) rfl rfl rfl (nI_add _ _) (x_goto rfl ?_)
        exact WPc (ih (n + 1) _ (by omega) (by omega)) (by rw [brl_f (by rw [← h.co n h9]; exact hco)]) rfl
      | true =>
        refine x_iload (pc' := 17) rfl rfl rfl (x_iconst (pc' := 18) rfl rfl ?_)
        refine x_icmp_geN (pc' := 21) rfl rfl (by omega) (by omega) (fun h18 => ?_) (fun h18 => ?_)
        · refine x_iinc3 (pc' := 48) rfl rfl rfl (nI_add _ _) (x_goto rfl ?_)
          exact WPc (ih (n + 1) _ (by omega) (by omega)) (by rw [brl_t (by rw [← h.co n h9]; exact hco)]) rfl
        · refine x_aload_n (pc' := 22) rfl rfl rfl (x_iload_n (pc' := 23) rfl rfl rfl (x_invI2 (pc' := 26) rfl rfl rfl rfl (c_X6_isAtCourt _ _ (by omega)) ?_))
          refine x_if_ne (pc' := 29) rfl rfl (fun h26 => absurd h26 (fun z => by rw [show decide (w 6 i 3 n = 0) = true from hco] at z; exact absurd z (by decide))) (fun h26 => ?_)
          refine x_iinc3 (pc' := 48) rfl rfl rfl (nI_add _ _) (x_goto rfl ?_)
          exact WPc (ih (n + 1) _ (by omega) (by omega)) (by rw [brl_t (by rw [← h.co n h9]; exact hco)]) rfl
set_option maxRecDepth 20000 in
theorem c_X6_brillianceOf {l : Launch} {X : XT} {d Lz : Nat} {w : Nat → Nat → Nat → Nat → Int32} {K : Kg} {s : Sa} (i j : Nat) (hV : KV K) (hK : KC w j K) (h : RC w K i s) : CT l X (d + 2) md_X6_brillianceOf [.inr (.inr (6, i, 0)), .inr (.inr (4, j, 0))] (mk Lz w) (some (.inl (brl s K.np))) (mk Lz w) := by
  show WP l X _ md_X6_brillianceOf (0, [some (.inr (.inr (6, i, 0))), some (.inr (.inr (4, j, 0))), none, none, none], [], _) _
  refine x_iconst (pc' := 1) rfl rfl (x_istore_n2 (pc' := 2) rfl rfl rfl (x_iconst (pc' := 3) rfl rfl (x_istore_n3 (pc' := 4) rfl rfl rfl ?_)))
  exact l_X6_brillianceOf i j hV hK h (K.np + 1) 0 _ (by omega) (by omega)
set_option maxRecDepth 20000 in
theorem l_X6_spreadOf {l : Launch} {X : XT} {d Lz : Nat} {w : Nat → Nat → Nat → Nat → Int32} {K : Kg} {s : Sa} (i j : Nat) (hV : KV K) (hK : KC w j K) (h : RC w K i s) (k : Nat) (hk : k < 3) (h1 : 1 ≤ K.np) : ∀ (kk n : Nat),  n ≤ (K.np - 1) → (K.np - 1) + 1 ≤ n + kk → WP l X (d + 2) md_X6_spreadOf (23, [some (.inr (.inr (6, i, 0))), some (.inr (.inr (4, j, 0))), some (.inl (nI k)), some (.inl (mnS s.g k (n))), some (.inl (mxS s.g k (n))), some (.inl (nI (n + 1)))], [], mk Lz w) (fun v M' => v = some (.inl (spA s.g k K.np)) ∧ M' = mk Lz w) := by
  intro kk
  induction kk with
  | zero =>
    intro n h1 h2
    exact absurd h2 (by omega)
  | succ kk ih =>
    intro n hi1 hi2
    have hv7 := hV.1
    have hnp := hK.2.2.1
    refine x_iload (pc' := 25) rfl rfl rfl (x_aload_n (pc' := 26) rfl rfl rfl (x_getI (pc' := 29) rfl rfl rfl ?_))
    rw [hnp]
    refine x_icmp_geN (pc' := 32) rfl rfl (by omega) (by omega) (fun h29 => ?_) (fun h29 => ?_)
    · refine x_iload (pc' := 66) rfl rfl rfl (x_iload_n (pc' := 67) rfl rfl rfl (x_isub (pc' := 68) rfl rfl ?_))
      refine x_iret rfl rfl ?_
      have e : n = K.np - 1 := by omega
      subst e
      exact rI (by unfold spA; rw [if_neg (by omega)])
    · refine x_iload_n (pc' := 33) rfl rfl rfl (x_aload_n (pc' := 34) rfl rfl rfl (x_iload (pc' := 36) rfl rfl rfl (x_iload_n (pc' := 37) rfl rfl rfl (x_invI3 (pc' := 40) rfl rfl rfl rfl rfl (c_X6_giftOf _ _ _ (by omega)) ?_))))
      rw [h.1 _ (by omega)]
      refine x_invS2 (pc' := 43) rfl rfl rfl rfl rfl (c_J9_min_7cf53 _ _) ?_
      refine x_istore_n3 (pc' := 44) rfl rfl rfl (x_iload (pc' := 46) rfl rfl rfl (x_aload_n (pc' := 47) rfl rfl rfl (x_iload (pc' := 49) rfl rfl rfl (x_iload_n (pc' := 50) rfl rfl rfl (x_invI3 (pc' := 53) rfl rfl rfl rfl rfl (c_X6_giftOf _ _ _ (by omega)) ?_)))))
      rw [h.1 _ (by omega)]
      refine x_invS2 (pc' := 56) rfl rfl rfl rfl rfl (c_J9_max_7cf53 _ _) ?_
      refine x_istore4 (pc' := 58) rfl rfl rfl (x_iinc5 (pc' := 61) rfl rfl rfl (nI_add _ _) (x_goto rfl ?_))
      exact ih (n + 1) (by omega) (by omega)
set_option maxRecDepth 20000 in
theorem c_X6_spreadOf {l : Launch} {X : XT} {d Lz : Nat} {w : Nat → Nat → Nat → Nat → Int32} {K : Kg} {s : Sa} (i j : Nat) (hV : KV K) (hK : KC w j K) (h : RC w K i s) (k : Nat) (hk : k < 3) : CT l X (d + 2) md_X6_spreadOf [.inr (.inr (6, i, 0)), .inr (.inr (4, j, 0)), .inl (nI k)] (mk Lz w) (some (.inl (spA s.g k K.np))) (mk Lz w) := by
  have hv7 := hV.1
  have hnp := hK.2.2.1
  show WP l X _ md_X6_spreadOf (0, [some (.inr (.inr (6, i, 0))), some (.inr (.inr (4, j, 0))), some (.inl (nI k)), none, none, none], [], _) _
  refine x_aload_n (pc' := 1) rfl rfl rfl (x_getI (pc' := 4) rfl rfl rfl ?_)
  rw [hnp]
  refine x_iconst (pc' := 5) rfl rfl ?_
  refine x_icmp_geN (pc' := 8) rfl rfl (by omega) (by omega) (fun h5 => ?_) (fun h5 => ?_)
  · refine x_aload_n (pc' := 11) rfl rfl rfl (x_iconst (pc' := 12) rfl rfl (x_iload_n (pc' := 13) rfl rfl rfl (x_invI3 (pc' := 16) rfl rfl rfl rfl rfl (c_X6_giftOf _ _ _ (by omega)) ?_)))
    rw [h.1 _ (by omega)]
    refine x_istore_n3 (pc' := 17) rfl rfl rfl (x_iload_n (pc' := 18) rfl rfl rfl (x_istore4 (pc' := 20) rfl rfl rfl (x_iconst (pc' := 21) rfl rfl (x_istore5 (pc' := 23) rfl rfl rfl ?_))))
    exact l_X6_spreadOf i j hV hK h k hk h5 (K.np + 1) 0 (by omega) (by omega)
  · refine x_iconst (pc' := 9) rfl rfl ?_
    refine x_iret rfl rfl ?_
    exact rI (by unfold spA; rw [if_pos (by omega)])
