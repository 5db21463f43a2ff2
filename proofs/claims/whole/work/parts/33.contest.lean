/-! contests -/
def ahd (law : Int32) (dr mk : Nat → Int32) (p q : Nat) : Bool := if mk p = mk q then (if law = nI 1 then (if dr p = dr q then decide (p < q) else decide (dr q < dr p)) else decide (p < q)) else decide (mk q < mk p)
def bst (S : Nat → Bool) (ah : Nat → Nat → Bool) : Nat → Option Nat
  | 0 => none
  | n + 1 => match bst S ah n with
    | none => bif S n then some n else none
    | some b => bif S n && ah n b then some n else some b
theorem bst_no {S : Nat → Bool} {ah : Nat → Nat → Bool} {n : Nat} (h : S n = false) : bst S ah (n + 1) = bst S ah n := by
  show (match bst S ah n with | none => bif S n then some n else none | some b => bif S n && ah n b then some n else some b) = _
  cases bst S ah n <;> simp [h]
theorem bst_new {S : Nat → Bool} {ah : Nat → Nat → Bool} {n : Nat} (hb : bst S ah n = none) (h : S n = true) : bst S ah (n + 1) = some n := by
  show (match bst S ah n with | none => bif S n then some n else none | some b => bif S n && ah n b then some n else some b) = _
  rw [hb]; simp [h]
theorem bst_up {S : Nat → Bool} {ah : Nat → Nat → Bool} {n b : Nat} (hb : bst S ah n = some b) (h : S n = true) (ha : ah n b = true) : bst S ah (n + 1) = some n := by
  show (match bst S ah n with | none => bif S n then some n else none | some b => bif S n && ah n b then some n else some b) = _
  rw [hb]; simp [h, ha]
theorem bst_keep {S : Nat → Bool} {ah : Nat → Nat → Bool} {n b : Nat} (hb : bst S ah n = some b) (ha : ah n b = false) : bst S ah (n + 1) = some b := by
  show (match bst S ah n with | none => bif S n then some n else none | some b => bif S n && ah n b then some n else some b) = _
  rw [hb]; simp [ha]
theorem bst_lt {S : Nat → Bool} {ah : Nat → Nat → Bool} : ∀ n b, bst S ah n = some b → b < n ∧ S b = true
  | 0, b, h => by cases h
  | n + 1, b, h => by
    cases hn : bst S ah n with
    | none =>
      cases hs : S n with
      | true => rw [bst_new hn hs] at h; cases h; exact ⟨Nat.lt_succ_self _, hs⟩
      | false => rw [bst_no hs, hn] at h; cases h
    | some c =>
      have ih := bst_lt n c hn
      cases hs : S n with
      | false => rw [bst_no hs, hn] at h; cases h; exact ⟨Nat.lt_succ_of_lt ih.1, ih.2⟩
      | true =>
        cases ha : ah n c with
        | true => rw [bst_up hn hs ha] at h; cases h; exact ⟨Nat.lt_succ_self _, hs⟩
        | false => rw [bst_keep hn ha] at h; cases h; exact ⟨Nat.lt_succ_of_lt ih.1, ih.2⟩
theorem bst_congr {S S' : Nat → Bool} {ah ah' : Nat → Nat → Bool} : ∀ n, (∀ p, p < n → S p = S' p) → (∀ p q, p < n → q < n → ah p q = ah' p q) → bst S ah n = bst S' ah' n
  | 0, _, _ => rfl
  | n + 1, h1, h2 => by
    have ih := bst_congr n (fun p hp => h1 p (by omega)) (fun p q hp hq => h2 p q (by omega) (by omega))
    show (match bst S ah n with | none => bif S n then some n else none | some b => bif S n && ah n b then some n else some b) = (match bst S' ah' n with | none => bif S' n then some n else none | some b => bif S' n && ah' n b then some n else some b)
    rw [ih, h1 n (by omega)]
    cases hb : bst S' ah' n with
    | none => rfl
    | some b =>
      have hl : b < n := by rw [← ih] at hb; exact (bst_lt n b hb).1
      show (bif S' n && ah n b then some n else some b) = (bif S' n && ah' n b then some n else some b)
      rw [h2 n b (by omega) (by omega)]
theorem ahd_congr {law : Int32} {dr dr' mk mk' : Nat → Int32} {p q : Nat} (h1 : dr p = dr' p) (h2 : dr q = dr' q) (h3 : mk p = mk' p) (h4 : mk q = mk' q) : ahd law dr mk p q = ahd law dr' mk' p q := by
  unfold ahd; rw [h1, h2, h3, h4]
/-- who is first of all, who are first, who is second -/
def ldr (co : Nat → Bool) (law : Int32) (dr mk : Nat → Int32) (np : Nat) : Option Nat := bst co (ahd law dr mk) np
def fst' (co : Nat → Bool) (law : Int32) (dr mk : Nat → Int32) (np p : Nat) : Bool := match ldr co law dr mk np with
  | none => false
  | some b => if law = nI 2 then co p && decide (mk p = mk b) else decide (p = b)
def snd' (co : Nat → Bool) (law : Int32) (dr mk : Nat → Int32) (np : Nat) : Option Nat := bst (fun p => co p && !fst' co law dr mk np p) (ahd law dr mk) np
theorem ldr_congr {co co' : Nat → Bool} {law : Int32} {dr dr' mk mk' : Nat → Int32} {np : Nat} (h1 : ∀ p, p < np → co p = co' p) (h2 : ∀ p, p < np → dr p = dr' p) (h3 : ∀ p, p < np → mk p = mk' p) : ldr co law dr mk np = ldr co' law dr' mk' np :=
  bst_congr np h1 (fun p q hp hq => ahd_congr (h2 p hp) (h2 q hq) (h3 p hp) (h3 q hq))
theorem fst_congr {co co' : Nat → Bool} {law : Int32} {dr dr' mk mk' : Nat → Int32} {np p : Nat} (hp : p < np) (h1 : ∀ p, p < np → co p = co' p) (h2 : ∀ p, p < np → dr p = dr' p) (h3 : ∀ p, p < np → mk p = mk' p) : fst' co law dr mk np p = fst' co' law dr' mk' np p := by
  have e := ldr_congr (law := law) h1 h2 h3
  unfold fst'
  rw [e]
  cases hb : ldr co' law dr' mk' np with
  | none => rfl
  | some b =>
    have hl : b < np := (bst_lt np b hb).1
    show (if law = nI 2 then co p && decide (mk p = mk b) else decide (p = b)) = (if law = nI 2 then co' p && decide (mk' p = mk' b) else decide (p = b))
    rw [h1 p hp, h3 p hp, h3 b hl]
theorem snd_congr {co co' : Nat → Bool} {law : Int32} {dr dr' mk mk' : Nat → Int32} {np : Nat} (h1 : ∀ p, p < np → co p = co' p) (h2 : ∀ p, p < np → dr p = dr' p) (h3 : ∀ p, p < np → mk p = mk' p) : snd' co law dr mk np = snd' co' law dr' mk' np :=
  bst_congr np (fun p hp => by rw [h1 p hp, fst_congr hp h1 h2 h3]) (fun p q hp hq => ahd_congr (h2 p hp) (h2 q hq) (h3 p hp) (h3 q hq))
theorem hT {x : Int32} {p : Nat} (h : (x >>> (nI p &&& 31)) &&& nI 1 = nI 1) : has x p = true := decide_eq_true h
theorem hF {x : Int32} {p : Nat} (h : ¬ (x >>> (nI p &&& 31)) &&& nI 1 = nI 1) : has x p = false := decide_eq_false h
set_option maxRecDepth 20000 in
theorem c_X1_isFirst {l : Launch} {X : XT} {d Lz : Nat} {w : Nat → Nat → Nat → Nat → Int32} (p : Nat) : CT l X (d + 1) md_X1_isFirst [.inr (.inr (1, 0, 0)), .inl (nI p)] (mk Lz w) (some (.inl (bI (has (w 1 0 0 1) p)))) (mk Lz w) := by
  show WP l X _ md_X1_isFirst (0, [some (.inr (.inr (1, 0, 0))), some (.inl (nI p))], [], _) _
  refine x_aload_n (pc' := 1) rfl rfl rfl (x_getI (pc' := 4) rfl rfl rfl (x_iload_n (pc' := 5) rfl rfl rfl (x_ishr (pc' := 6) rfl rfl (x_iconst (pc' := 7) rfl rfl (x_iand (pc' := 8) rfl rfl ?_)))))
  refine x_iconst (pc' := 9) rfl rfl ?_
  refine x_icmp_ne (pc' := 12) rfl rfl (fun h9 => ?_) (fun h9 => ?_)
  · refine x_iconst (pc' := 13) rfl rfl (x_goto rfl ?_)
    refine x_zret rfl rfl (by decide) ?_
    first | exact rI (bI_t (hT h9)).symm | exact rI (bI_f (hF h9)).symm
  · refine x_iconst (pc' := 17) rfl rfl ?_
    refine x_zret rfl rfl (by decide) ?_
    first | exact rI (bI_t (hT h9)).symm | exact rI (bI_f (hF h9)).symm
set_option maxRecDepth 20000 in
theorem c_X9_has {l : Launch} {X : XT} {d : Nat} {M : Mem} (x : Int32) (p : Nat) : CT l X (d + 1) md_X9_has [.inl (x), .inl (nI p)] (M) (some (.inl (bI (has x p)))) (M) := by
  show WP l X _ md_X9_has (0, [some (.inl (x)), some (.inl (nI p))], [], _) _
  refine x_iload_n (pc' := 1) rfl rfl rfl (x_iload_n (pc' := 2) rfl rfl rfl (x_ishr (pc' := 3) rfl rfl (x_iconst (pc' := 4) rfl rfl (x_iand (pc' := 5) rfl rfl (x_iconst (pc' := 6) rfl rfl ?_)))))
  refine x_icmp_ne (pc' := 9) rfl rfl (fun h6 => ?_) (fun h6 => ?_)
  · refine x_iconst (pc' := 10) rfl rfl (x_goto rfl ?_)
    refine x_zret rfl rfl (by decide) ?_
    first | exact rI (bI_t (hT h6)).symm | exact rI (bI_f (hF h6)).symm
  · refine x_iconst (pc' := 14) rfl rfl ?_
    refine x_zret rfl rfl (by decide) ?_
    first | exact rI (bI_t (hT h6)).symm | exact rI (bI_f (hF h6)).symm
set_option maxRecDepth 20000 in
theorem c_X1_isAheadOf {l : Launch} {X : XT} {d Lz : Nat} {w : Nat → Nat → Nat → Nat → Int32} (j p q : Nat) (hp : p < 7) (hq : q < 7) : CT l X (d + 1) md_X1_isAheadOf [.inr (.inr (1, 0, 0)), .inr (.inr (4, j, 0)), .inl (nI p), .inl (nI q)] (mk Lz w) (some (.inl (bI (ahd (w 4 j 0 4) (w 4 j 2) (w 1 0 1) p q)))) (mk Lz w) := by
  show WP l X _ md_X1_isAheadOf (0, [some (.inr (.inr (1, 0, 0))), some (.inr (.inr (4, j, 0))), some (.inl (nI p)), some (.inl (nI q))], [], _) _
  refine x_aload_n (pc' := 1) rfl rfl rfl (x_getR (pc' := 4) (t := (1, _, 1)) rfl rfl rfl (x_iload_n (pc' := 5) rfl rfl rfl (x_iald (pc' := 6) (N := 7) rfl rfl rfl rfl (by first | assumption | omega) (by decide) (x_aload_n (pc' := 7) rfl rfl rfl (x_getR (pc' := 10) (t := (1, _, 1)) rfl rfl rfl ?_)))))
  refine x_iload_n (pc' := 11) rfl rfl rfl (x_iald (pc' := 12) (N := 7) rfl rfl rfl rfl (by first | assumption | omega) (by decide) ?_)
  refine x_icmp_eq (pc' := 15) rfl rfl (fun h12 => ?_) (fun h12 => ?_)
  · refine x_aload_n (pc' := 37) rfl rfl rfl (x_getI (pc' := 40) rfl rfl rfl (x_iconst (pc' := 41) rfl rfl ?_))
    refine x_icmp_ne (pc' := 44) rfl rfl (fun h41 => ?_) (fun h41 => ?_)
    · refine x_aload_n (pc' := 45) rfl rfl rfl (x_getR (pc' := 48) (t := (4, _, 2)) rfl rfl rfl (x_iload_n (pc' := 49) rfl rfl rfl (x_iald (pc' := 50) (N := 7) rfl rfl rfl rfl (by first | assumption | omega) (by decide) (x_aload_n (pc' := 51) rfl rfl rfl (x_getR (pc' := 54) (t := (4, _, 2)) rfl rfl rfl ?_)))))
      refine x_iload_n (pc' := 55) rfl rfl rfl (x_iald (pc' := 56) (N := 7) rfl rfl rfl rfl (by first | assumption | omega) (by decide) ?_)
      refine x_icmp_eq (pc' := 59) rfl rfl (fun h56 => ?_) (fun h56 => ?_)
      · refine x_iload_n (pc' := 81) rfl rfl rfl (x_iload_n (pc' := 82) rfl rfl rfl ?_)
        refine x_icmp_geN (pc' := 85) rfl rfl (by omega) (by omega) (fun h82 => ?_) (fun h82 => ?_)
        · refine x_iconst (pc' := 90) rfl rfl ?_
          refine x_zret rfl rfl (by decide) ?_
          exact rI (by unfold ahd; first | (rw [if_neg h12, dF (Int32.not_lt.mpr h27)]; rfl) | (rw [if_neg h12, dT (Int32.not_le.mp h27)]; rfl) | (rw [if_pos h12, if_pos h41, if_neg h56, dF (Int32.not_lt.mpr h71)]; rfl) | (rw [if_pos h12, if_pos h41, if_neg h56, dT (Int32.not_le.mp h71)]; rfl) | (rw [if_pos h12, if_pos h41, if_pos h56, dF (by omega)]; rfl) | (rw [if_pos h12, if_pos h41, if_pos h56, dT (by omega)]; rfl) | (rw [if_pos h12, if_neg h41, dF (by omega)]; rfl) | (rw [if_pos h12, if_neg h41, dT (by omega)]; rfl))
        · refine x_iconst (pc' := 86) rfl rfl (x_goto rfl ?_)
          refine x_zret rfl rfl (by decide) ?_
          exact rI (by unfold ahd; first | (rw [if_neg h12, dF (Int32.not_lt.mpr h27)]; rfl) | (rw [if_neg h12, dT (Int32.not_le.mp h27)]; rfl) | (rw [if_pos h12, if_pos h41, if_neg h56, dF (Int32.not_lt.mpr h71)]; rfl) | (rw [if_pos h12, if_pos h41, if_neg h56, dT (Int32.not_le.mp h71)]; rfl) | (rw [if_pos h12, if_pos h41, if_pos h56, dF (by omega)]; rfl) | (rw [if_pos h12, if_pos h41, if_pos h56, dT (by omega)]; rfl) | (rw [if_pos h12, if_neg h41, dF (by omega)]; rfl) | (rw [if_pos h12, if_neg h41, dT (by omega)]; rfl))
      · refine x_aload_n (pc' := 60) rfl rfl rfl (x_getR (pc' := 63) (t := (4, _, 2)) rfl rfl rfl (x_iload_n (pc' := 64) rfl rfl rfl (x_iald (pc' := 65) (N := 7) rfl rfl rfl rfl (by first | assumption | omega) (by decide) (x_aload_n (pc' := 66) rfl rfl rfl (x_getR (pc' := 69) (t := (4, _, 2)) rfl rfl rfl ?_)))))
        refine x_iload_n (pc' := 70) rfl rfl rfl (x_iald (pc' := 71) (N := 7) rfl rfl rfl rfl (by first | assumption | omega) (by decide) ?_)
        refine x_icmp_le (pc' := 74) rfl rfl (fun h71 => ?_) (fun h71 => ?_)
        · refine x_iconst (pc' := 79) rfl rfl ?_
          refine x_zret rfl rfl (by decide) ?_
          exact rI (by unfold ahd; first | (rw [if_neg h12, dF (Int32.not_lt.mpr h27)]; rfl) | (rw [if_neg h12, dT (Int32.not_le.mp h27)]; rfl) | (rw [if_pos h12, if_pos h41, if_neg h56, dF (Int32.not_lt.mpr h71)]; rfl) | (rw [if_pos h12, if_pos h41, if_neg h56, dT (Int32.not_le.mp h71)]; rfl) | (rw [if_pos h12, if_pos h41, if_pos h56, dF (by omega)]; rfl) | (rw [if_pos h12, if_pos h41, if_pos h56, dT (by omega)]; rfl) | (rw [if_pos h12, if_neg h41, dF (by omega)]; rfl) | (rw [if_pos h12, if_neg h41, dT (by omega)]; rfl))
        · refine x_iconst (pc' := 75) rfl rfl (x_goto rfl ?_)
          refine x_zret rfl rfl (by decide) ?_
          exact rI (by unfold ahd; first | (rw [if_neg h12, dF (Int32.not_lt.mpr h27)]; rfl) | (rw [if_neg h12, dT (Int32.not_le.mp h27)]; rfl) | (rw [if_pos h12, if_pos h41, if_neg h56, dF (Int32.not_lt.mpr h71)]; rfl) | (rw [if_pos h12, if_pos h41, if_neg h56, dT (Int32.not_le.mp h71)]; rfl) | (rw [if_pos h12, if_pos h41, if_pos h56, dF (by omega)]; rfl) | (rw [if_pos h12, if_pos h41, if_pos h56, dT (by omega)]; rfl) | (rw [if_pos h12, if_neg h41, dF (by omega)]; rfl) | (rw [if_pos h12, if_neg h41, dT (by omega)]; rfl))
    · refine x_iload_n (pc' := 81) rfl rfl rfl (x_iload_n (pc' := 82) rfl rfl rfl ?_)
      refine x_icmp_geN (pc' := 85) rfl rfl (by omega) (by omega) (fun h82 => ?_) (fun h82 => ?_)
      · refine x_iconst (pc' := 90) rfl rfl ?_
        refine x_zret rfl rfl (by decide) ?_
        exact rI (by unfold ahd; first | (rw [if_neg h12, dF (Int32.not_lt.mpr h27)]; rfl) | (rw [if_neg h12, dT (Int32.not_le.mp h27)]; rfl) | (rw [if_pos h12, if_pos h41, if_neg h56, dF (Int32.not_lt.mpr h71)]; rfl) | (rw [if_pos h12, if_pos h41, if_neg h56, dT (Int32.not_le.mp h71)]; rfl) | (rw [if_pos h12, if_pos h41, if_pos h56, dF (by omega)]; rfl) | (rw [if_pos h12, if_pos h41, if_pos h56, dT (by omega)]; rfl) | (rw [if_pos h12, if_neg h41, dF (by omega)]; rfl) | (rw [if_pos h12, if_neg h41, dT (by omega)]; rfl))
      · refine x_iconst (pc' := 86) rfl rfl (x_goto rfl ?_)
        refine x_zret rfl rfl (by decide) ?_
        exact rI (by unfold ahd; first | (rw [if_neg h12, dF (Int32.not_lt.mpr h27)]; rfl) | (rw [if_neg h12, dT (Int32.not_le.mp h27)]; rfl) | (rw [if_pos h12, if_pos h41, if_neg h56, dF (Int32.not_lt.mpr h71)]; rfl) | (rw [if_pos h12, if_pos h41, if_neg h56, dT (Int32.not_le.mp h71)]; rfl) | (rw [if_pos h12, if_pos h41, if_pos h56, dF (by omega)]; rfl) | (rw [if_pos h12, if_pos h41, if_pos h56, dT (by omega)]; rfl) | (rw [if_pos h12, if_neg h41, dF (by omega)]; rfl) | (rw [if_pos h12, if_neg h41, dT (by omega)]; rfl))
  · refine x_aload_n (pc' := 16) rfl rfl rfl (x_getR (pc' := 19) (t := (1, _, 1)) rfl rfl rfl (x_iload_n (pc' := 20) rfl rfl rfl (x_iald (pc' := 21) (N := 7) rfl rfl rfl rfl (by first | assumption | omega) (by decide) (x_aload_n (pc' := 22) rfl rfl rfl (x_getR (pc' := 25) (t := (1, _, 1)) rfl rfl rfl ?_)))))
    refine x_iload_n (pc' := 26) rfl rfl rfl (x_iald (pc' := 27) (N := 7) rfl rfl rfl rfl (by first | assumption | omega) (by decide) ?_)
    refine x_icmp_le (pc' := 30) rfl rfl (fun h27 => ?_) (fun h27 => ?_)
    · refine x_iconst (pc' := 35) rfl rfl ?_
      refine x_zret rfl rfl (by decide) ?_
      exact rI (by unfold ahd; first | (rw [if_neg h12, dF (Int32.not_lt.mpr h27)]; rfl) | (rw [if_neg h12, dT (Int32.not_le.mp h27)]; rfl) | (rw [if_pos h12, if_pos h41, if_neg h56, dF (Int32.not_lt.mpr h71)]; rfl) | (rw [if_pos h12, if_pos h41, if_neg h56, dT (Int32.not_le.mp h71)]; rfl) | (rw [if_pos h12, if_pos h41, if_pos h56, dF (by omega)]; rfl) | (rw [if_pos h12, if_pos h41, if_pos h56, dT (by omega)]; rfl) | (rw [if_pos h12, if_neg h41, dF (by omega)]; rfl) | (rw [if_pos h12, if_neg h41, dT (by omega)]; rfl))
    · refine x_iconst (pc' := 31) rfl rfl (x_goto rfl ?_)
      refine x_zret rfl rfl (by decide) ?_
      exact rI (by unfold ahd; first | (rw [if_neg h12, dF (Int32.not_lt.mpr h27)]; rfl) | (rw [if_neg h12, dT (Int32.not_le.mp h27)]; rfl) | (rw [if_pos h12, if_pos h41, if_neg h56, dF (Int32.not_lt.mpr h71)]; rfl) | (rw [if_pos h12, if_pos h41, if_neg h56, dT (Int32.not_le.mp h71)]; rfl) | (rw [if_pos h12, if_pos h41, if_pos h56, dF (by omega)]; rfl) | (rw [if_pos h12, if_pos h41, if_pos h56, dT (by omega)]; rfl) | (rw [if_pos h12, if_neg h41, dF (by omega)]; rfl) | (rw [if_pos h12, if_neg h41, dT (by omega)]; rfl))
abbrev fS (w : Nat → Nat → Nat → Nat → Int32) (i : Nat) : Nat → Bool := fun p => cC w i p && !has (w 1 0 0 1) p
abbrev fA (w : Nat → Nat → Nat → Nat → Int32) (j : Nat) : Nat → Nat → Bool := ahd (w 4 j 0 4) (w 4 j 2) (w 1 0 1)
set_option maxRecDepth 20000 in
theorem l_X1_foremost {l : Launch} {X : XT} {d Lz : Nat} {w : Nat → Nat → Nat → Nat → Int32} (i : Nat) (j np : Nat) (hnp : w 4 j 0 6 = nI np) (hn7 : np ≤ 7) : ∀ (k n : Nat),  n ≤ np → np + 1 ≤ n + k → WP l X (d + 2) md_X1_foremost (5, [some (.inr (.inr (1, 0, 0))), some (.inr (.inr (4, j, 0))), some (.inr (.inr (6, i, 0))), some (.inl (oI (bst (fS w i) (fA w j) n))), some (.inl (nI n))], [], mk Lz w) (fun v M' => v = some (.inl (oI (bst (fS w i) (fA w j) np))) ∧ M' = mk Lz w) := by
  intro k
  induction k with
  | zero =>
    intro n h1 h2
    exact absurd h2 (by omega)
  | succ k ih =>
    intro n hi1 hi2
    cases hb : bst (fS w i) (fA w j) n with
    | none =>
      show WP l X _ md_X1_foremost (5, [some (.inr (.inr (1, 0, 0))), some (.inr (.inr (4, j, 0))), some (.inr (.inr (6, i, 0))), some (.inl (-1)), some (.inl (nI n))], [], _) _
      refine x_iload (pc' := 7) rfl rfl rfl (x_aload_n (pc' := 8) rfl rfl rfl (x_getI (pc' := 11) rfl rfl rfl ?_))
      rw [hnp]
      refine x_icmp_geN (pc' := 14) rfl rfl (by omega) (by omega) (fun h11 => ?_) (fun h11 => ?_)
      · refine x_iload_n (pc' := 58) rfl rfl rfl ?_
        refine x_iret rfl rfl ?_
        have e : n = np := by omega
        subst e
        rw [hb]
        exact rI rfl
      · refine x_aload_n (pc' := 15) rfl rfl rfl (x_iload (pc' := 17) rfl rfl rfl (x_invI2 (pc' := 20) rfl rfl rfl rfl (c_X6_isAtCourt _ _ (by omega)) ?_))
        refine x_if_eq (pc' := 23) rfl rfl (fun h20 => ?_) (fun h20 => ?_)
        · refine x_iinc4 (pc' := 54) rfl rfl rfl (nI_add _ _) (x_goto rfl ?_)
          first | exact WPc (ih (n + 1) (by omega) (by omega)) (by rw [bst_new hb (by show (cC w i n && !has (w 1 0 0 1) n) = true; rw [show cC w i n = true from bq h20, bI_eq0.mp h29]; rfl)]; rfl) rfl | exact WPc (ih (n + 1) (by omega) (by omega)) (by rw [bst_no (by show (cC w i n && _) = false; rw [show cC w i n = false from bI_eq0.mp h20]; rfl), hb]; rfl) rfl | exact WPc (ih (n + 1) (by omega) (by omega)) (by rw [bst_no (by show (_ && !has (w 1 0 0 1) n) = false; rw [bq h29]; simp), hb]; rfl) rfl
        · refine x_aload_n (pc' := 24) rfl rfl rfl (x_iload (pc' := 26) rfl rfl rfl (x_invI2 (pc' := 29) rfl rfl rfl rfl (c_X1_isFirst _) ?_))
          refine x_if_ne (pc' := 32) rfl rfl (fun h29 => ?_) (fun h29 => ?_)
          · refine x_iload_n (pc' := 33) rfl rfl rfl (x_iconst (pc' := 34) rfl rfl ?_)
            refine x_icmp_eq (pc' := 37) rfl rfl (fun h34 => ?_) (fun h34 => absurd rfl h34)
            refine x_iload (pc' := 50) rfl rfl rfl (x_istore_n3 (pc' := 51) rfl rfl rfl (x_iinc4 (pc' := 54) rfl rfl rfl (nI_add _ _) (x_goto rfl ?_)))
            first | exact WPc (ih (n + 1) (by omega) (by omega)) (by rw [bst_new hb (by show (cC w i n && !has (w 1 0 0 1) n) = true; rw [show cC w i n = true from bq h20, bI_eq0.mp h29]; rfl)]; rfl) rfl | exact WPc (ih (n + 1) (by omega) (by omega)) (by rw [bst_no (by show (cC w i n && _) = false; rw [show cC w i n = false from bI_eq0.mp h20]; rfl), hb]; rfl) rfl | exact WPc (ih (n + 1) (by omega) (by omega)) (by rw [bst_no (by show (_ && !has (w 1 0 0 1) n) = false; rw [bq h29]; simp), hb]; rfl) rfl
          · refine x_iinc4 (pc' := 54) rfl rfl rfl (nI_add _ _) (x_goto rfl ?_)
            first | exact WPc (ih (n + 1) (by omega) (by omega)) (by rw [bst_new hb (by show (cC w i n && !has (w 1 0 0 1) n) = true; rw [show cC w i n = true from bq h20, bI_eq0.mp h29]; rfl)]; rfl) rfl | exact WPc (ih (n + 1) (by omega) (by omega)) (by rw [bst_no (by show (cC w i n && _) = false; rw [show cC w i n = false from bI_eq0.mp h20]; rfl), hb]; rfl) rfl | exact WPc (ih (n + 1) (by omega) (by omega)) (by rw [bst_no (by show (_ && !has (w 1 0 0 1) n) = false; rw [bq h29]; simp), hb]; rfl) rfl
    | some b =>
      have hbl := (bst_lt n b hb).1
      show WP l X _ md_X1_foremost (5, [some (.inr (.inr (1, 0, 0))), some (.inr (.inr (4, j, 0))), some (.inr (.inr (6, i, 0))), some (.inl (nI b)), some (.inl (nI n))], [], _) _
      refine x_iload (pc' := 7) rfl rfl rfl (x_aload_n (pc' := 8) rfl rfl rfl (x_getI (pc' := 11) rfl rfl rfl ?_))
      rw [hnp]
      refine x_icmp_geN (pc' := 14) rfl rfl (by omega) (by omega) (fun h11 => ?_) (fun h11 => ?_)
      · refine x_iload_n (pc' := 58) rfl rfl rfl ?_
        refine x_iret rfl rfl ?_
        have e : n = np := by omega
        subst e
        rw [hb]
        exact rI rfl
      · refine x_aload_n (pc' := 15) rfl rfl rfl (x_iload (pc' := 17) rfl rfl rfl (x_invI2 (pc' := 20) rfl rfl rfl rfl (c_X6_isAtCourt _ _ (by omega)) ?_))
        refine x_if_eq (pc' := 23) rfl rfl (fun h20 => ?_) (fun h20 => ?_)
        · refine x_iinc4 (pc' := 54) rfl rfl rfl (nI_add _ _) (x_goto rfl ?_)
          first | exact WPc (ih (n + 1) (by omega) (by omega)) (by rw [bst_up hb (by show (cC w i n && !has (w 1 0 0 1) n) = true; rw [show cC w i n = true from bq h20, bI_eq0.mp h29]; rfl) (bq h45)]; rfl) rfl | exact WPc (ih (n + 1) (by omega) (by omega)) (by rw [bst_keep hb (bI_eq0.mp h45)]; rfl) rfl | exact WPc (ih (n + 1) (by omega) (by omega)) (by rw [bst_no (by show (cC w i n && _) = false; rw [show cC w i n = false from bI_eq0.mp h20]; rfl), hb]; rfl) rfl | exact WPc (ih (n + 1) (by omega) (by omega)) (by rw [bst_no (by show (_ && !has (w 1 0 0 1) n) = false; rw [bq h29]; simp), hb]; rfl) rfl
        · refine x_aload_n (pc' := 24) rfl rfl rfl (x_iload (pc' := 26) rfl rfl rfl (x_invI2 (pc' := 29) rfl rfl rfl rfl (c_X1_isFirst _) ?_))
          refine x_if_ne (pc' := 32) rfl rfl (fun h29 => ?_) (fun h29 => ?_)
          · refine x_iload_n (pc' := 33) rfl rfl rfl (x_iconst (pc' := 34) rfl rfl ?_)
            refine x_icmp_eq (pc' := 37) rfl rfl (fun h34 => absurd h34 (nI_ne1 (by omega))) (fun h34 => ?_)
            refine x_aload_n (pc' := 38) rfl rfl rfl (x_aload_n (pc' := 39) rfl rfl rfl (x_iload (pc' := 41) rfl rfl rfl (x_iload_n (pc' := 42) rfl rfl rfl (x_invI4 (pc' := 45) rfl rfl rfl rfl rfl rfl (c_X1_isAheadOf _ _ _ (by omega) (by omega)) ?_))))
            refine x_if_eq (pc' := 48) rfl rfl (fun h45 => ?_) (fun h45 => ?_)
            · refine x_iinc4 (pc' := 54) rfl rfl rfl (nI_add _ _) (x_goto rfl ?_)
              first | exact WPc (ih (n + 1) (by omega) (by omega)) (by rw [bst_up hb (by show (cC w i n && !has (w 1 0 0 1) n) = true; rw [show cC w i n = true from bq h20, bI_eq0.mp h29]; rfl) (bq h45)]; rfl) rfl | exact WPc (ih (n + 1) (by omega) (by omega)) (by rw [bst_keep hb (bI_eq0.mp h45)]; rfl) rfl | exact WPc (ih (n + 1) (by omega) (by omega)) (by rw [bst_no (by show (cC w i n && _) = false; rw [show cC w i n = false from bI_eq0.mp h20]; rfl), hb]; rfl) rfl | exact WPc (ih (n + 1) (by omega) (by omega)) (by rw [bst_no (by show (_ && !has (w 1 0 0 1) n) = false; rw [bq h29]; simp), hb]; rfl) rfl
            · refine x_iload (pc' := 50) rfl rfl rfl (x_istore_n3 (pc' := 51) rfl rfl rfl (x_iinc4 (pc' := 54) rfl rfl rfl (nI_add _ _) (x_goto rfl ?_)))
              first | exact WPc (ih (n + 1) (by omega) (by omega)) (by rw [bst_up hb (by show (cC w i n && !has (w 1 0 0 1) n) = true; rw [show cC w i n = true from bq h20, bI_eq0.mp h29]; rfl) (bq h45)]; rfl) rfl | exact WPc (ih (n + 1) (by omega) (by omega)) (by rw [bst_keep hb (bI_eq0.mp h45)]; rfl) rfl | exact WPc (ih (n + 1) (by omega) (by omega)) (by rw [bst_no (by show (cC w i n && _) = false; rw [show cC w i n = false from bI_eq0.mp h20]; rfl), hb]; rfl) rfl | exact WPc (ih (n + 1) (by omega) (by omega)) (by rw [bst_no (by show (_ && !has (w 1 0 0 1) n) = false; rw [bq h29]; simp), hb]; rfl) rfl
          · refine x_iinc4 (pc' := 54) rfl rfl rfl (nI_add _ _) (x_goto rfl ?_)
            first | exact WPc (ih (n + 1) (by omega) (by omega)) (by rw [bst_up hb (by show (cC w i n && !has (w 1 0 0 1) n) = true; rw [show cC w i n = true from bq h20, bI_eq0.mp h29]; rfl) (bq h45)]; rfl) rfl | exact WPc (ih (n + 1) (by omega) (by omega)) (by rw [bst_keep hb (bI_eq0.mp h45)]; rfl) rfl | exact WPc (ih (n + 1) (by omega) (by omega)) (by rw [bst_no (by show (cC w i n && _) = false; rw [show cC w i n = false from bI_eq0.mp h20]; rfl), hb]; rfl) rfl | exact WPc (ih (n + 1) (by omega) (by omega)) (by rw [bst_no (by show (_ && !has (w 1 0 0 1) n) = false; rw [bq h29]; simp), hb]; rfl) rfl
set_option maxRecDepth 20000 in
theorem c_X1_foremost {l : Launch} {X : XT} {d Lz : Nat} {w : Nat → Nat → Nat → Nat → Int32} (i : Nat) (j np : Nat) (hnp : w 4 j 0 6 = nI np) (hn7 : np ≤ 7) : CT l X (d + 2) md_X1_foremost [.inr (.inr (1, 0, 0)), .inr (.inr (4, j, 0)), .inr (.inr (6, i, 0))] (mk Lz w) (some (.inl (oI (bst (fS w i) (fA w j) np)))) (mk Lz w) := by
  show WP l X _ md_X1_foremost (0, [some (.inr (.inr (1, 0, 0))), some (.inr (.inr (4, j, 0))), some (.inr (.inr (6, i, 0))), none, none], [], _) _
  refine x_iconst (pc' := 1) rfl rfl (x_istore_n3 (pc' := 2) rfl rfl rfl (x_iconst (pc' := 3) rfl rfl (x_istore4 (pc' := 5) rfl rfl rfl ?_)))
  exact l_X1_foremost i j np hnp hn7 (np + 1) 0 (by omega) (by omega)
abbrev aL (w : Nat → Nat → Nat → Nat → Int32) (i b : Nat) : Nat → Bool := fun p => cC w i p && decide (w 1 0 1 p = w 1 0 1 b)
set_option maxRecDepth 20000 in
theorem l_X1_allLike {l : Launch} {X : XT} {d Lz : Nat} {w : Nat → Nat → Nat → Nat → Int32} (i b : Nat) (hb : b < 7) (j np : Nat) (hnp : w 4 j 0 6 = nI np) (hn7 : np ≤ 7) : ∀ (k n : Nat),  n ≤ np → np + 1 ≤ n + k → WP l X (d + 2) md_X1_allLike (6, [some (.inr (.inr (1, 0, 0))), some (.inr (.inr (4, j, 0))), some (.inr (.inr (6, i, 0))), some (.inl (nI b)), some (.inl (enc (aL w i b) n)), some (.inl (nI n))], [], mk Lz w) (fun v M' => v = some (.inl (enc (aL w i b) np)) ∧ M' = mk Lz w) := by
  intro k
  induction k with
  | zero =>
    intro n h1 h2
    exact absurd h2 (by omega)
  | succ k ih =>
    intro n hi1 hi2
    refine x_iload (pc' := 8) rfl rfl rfl (x_aload_n (pc' := 9) rfl rfl rfl (x_getI (pc' := 12) rfl rfl rfl ?_))
    rw [hnp]
    refine x_icmp_geN (pc' := 15) rfl rfl (by omega) (by omega) (fun h12 => ?_) (fun h12 => ?_)
    · refine x_iload (pc' := 57) rfl rfl rfl ?_
      refine x_iret rfl rfl ?_
      have e : n = np := by omega
      subst e
      exact rI rfl
    · refine x_aload_n (pc' := 16) rfl rfl rfl (x_iload (pc' := 18) rfl rfl rfl (x_invI2 (pc' := 21) rfl rfl rfl rfl (c_X6_isAtCourt _ _ (by omega)) ?_))
      refine x_if_eq (pc' := 24) rfl rfl (fun h21 => ?_) (fun h21 => ?_)
      · refine x_iinc5 (pc' := 52) rfl rfl rfl (nI_add _ _) (x_goto rfl ?_)
        first | exact WPc (ih (n + 1) (by omega) (by omega)) (by rw [← enc_t (f := aL w i b) (n := n) (by show (cC w i n && _) = true; rw [show cC w i n = true from bq h21, dT h37]; rfl)]) rfl | exact WPc (ih (n + 1) (by omega) (by omega)) (by rw [← enc_f (f := aL w i b) (n := n) (by show (cC w i n && _) = false; rw [show cC w i n = false from bI_eq0.mp h21]; rfl)]) rfl | exact WPc (ih (n + 1) (by omega) (by omega)) (by rw [← enc_f (f := aL w i b) (n := n) (by show (_ && decide (w 1 0 1 n = w 1 0 1 b)) = false; rw [dF h37]; simp)]) rfl
      · refine x_aload_n (pc' := 25) rfl rfl rfl (x_getR (pc' := 28) (t := (1, _, 1)) rfl rfl rfl (x_iload (pc' := 30) rfl rfl rfl (x_iald (pc' := 31) (N := 7) rfl rfl rfl rfl (by first | assumption | omega) (by decide) (x_aload_n (pc' := 32) rfl rfl rfl (x_getR (pc' := 35) (t := (1, _, 1)) rfl rfl rfl ?_)))))
        refine x_iload_n (pc' := 36) rfl rfl rfl (x_iald (pc' := 37) (N := 7) rfl rfl rfl rfl (by first | assumption | omega) (by decide) ?_)
        refine x_icmp_ne (pc' := 40) rfl rfl (fun h37 => ?_) (fun h37 => ?_)
        · refine x_iload (pc' := 42) rfl rfl rfl (x_iconst (pc' := 43) rfl rfl (x_iload (pc' := 45) rfl rfl rfl (x_ishl (pc' := 46) rfl rfl (x_ior (pc' := 47) rfl rfl (x_istore4 (pc' := 49) rfl rfl rfl ?_)))))
          refine x_iinc5 (pc' := 52) rfl rfl rfl (nI_add _ _) (x_goto rfl ?_)
          first | exact WPc (ih (n + 1) (by omega) (by omega)) (by rw [← enc_t (f := aL w i b) (n := n) (by show (cC w i n && _) = true; rw [show cC w i n = true from bq h21, dT h37]; rfl)]) rfl | exact WPc (ih (n + 1) (by omega) (by omega)) (by rw [← enc_f (f := aL w i b) (n := n) (by show (cC w i n && _) = false; rw [show cC w i n = false from bI_eq0.mp h21]; rfl)]) rfl | exact WPc (ih (n + 1) (by omega) (by omega)) (by rw [← enc_f (f := aL w i b) (n := n) (by show (_ && decide (w 1 0 1 n = w 1 0 1 b)) = false; rw [dF h37]; simp)]) rfl
        · refine x_iinc5 (pc' := 52) rfl rfl rfl (nI_add _ _) (x_goto rfl ?_)
          first | exact WPc (ih (n + 1) (by omega) (by omega)) (by rw [← enc_t (f := aL w i b) (n := n) (by show (cC w i n && _) = true; rw [show cC w i n = true from bq h21, dT h37]; rfl)]) rfl | exact WPc (ih (n + 1) (by omega) (by omega)) (by rw [← enc_f (f := aL w i b) (n := n) (by show (cC w i n && _) = false; rw [show cC w i n = false from bI_eq0.mp h21]; rfl)]) rfl | exact WPc (ih (n + 1) (by omega) (by omega)) (by rw [← enc_f (f := aL w i b) (n := n) (by show (_ && decide (w 1 0 1 n = w 1 0 1 b)) = false; rw [dF h37]; simp)]) rfl
set_option maxRecDepth 20000 in
theorem c_X1_allLike {l : Launch} {X : XT} {d Lz : Nat} {w : Nat → Nat → Nat → Nat → Int32} (i b : Nat) (hb : b < 7) (j np : Nat) (hnp : w 4 j 0 6 = nI np) (hn7 : np ≤ 7) : CT l X (d + 2) md_X1_allLike [.inr (.inr (1, 0, 0)), .inr (.inr (4, j, 0)), .inr (.inr (6, i, 0)), .inl (nI b)] (mk Lz w) (some (.inl (enc (aL w i b) np))) (mk Lz w) := by
  show WP l X _ md_X1_allLike (0, [some (.inr (.inr (1, 0, 0))), some (.inr (.inr (4, j, 0))), some (.inr (.inr (6, i, 0))), some (.inl (nI b)), none, none], [], _) _
  refine x_iconst (pc' := 1) rfl rfl (x_istore4 (pc' := 3) rfl rfl rfl (x_iconst (pc' := 4) rfl rfl (x_istore5 (pc' := 6) rfl rfl rfl ?_)))
  exact l_X1_allLike i b hb j np hnp hn7 (np + 1) 0 (by omega) (by omega)
