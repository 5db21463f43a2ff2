/-! what was seen -/
def mkB (p e : Nat) : Nat := p / 10 * e + p % 10
def fitN (se sm : Nat → Nat) (p : Nat) : Nat → Bool
  | 0 => true
  | n + 1 => fitN se sm p n && decide (mkB p (se n) = sm n)
def fitA (a : AS) (p : Nat) : Bool := fitN a.se a.sm p a.sn
theorem fitN_f {se sm : Nat → Nat} {p : Nat} : ∀ n m, n ≤ m → fitN se sm p n = false → fitN se sm p m = false
  | n, 0, h, h2 => by
    have : n = 0 := by omega
    subst this; exact h2
  | n, m + 1, h, h2 => by
    by_cases z : n = m + 1
    · subst z; exact h2
    · show (fitN se sm p m && _) = false
      rw [fitN_f n m (by omega) h2]; rfl
theorem fitN_s {se sm : Nat → Nat} {p n : Nat} (h : fitN se sm p n = true) (h2 : mkB p (se n) = sm n) : fitN se sm p (n + 1) = true := by
  show (fitN se sm p n && decide (mkB p (se n) = sm n)) = true
  rw [h, dT h2]; rfl
theorem fitN_n {se sm : Nat → Nat} {p n : Nat} (h2 : ¬ mkB p (se n) = sm n) : fitN se sm p (n + 1) = false := by
  show (fitN se sm p n && decide (mkB p (se n) = sm n)) = false
  rw [dF h2]; simp
def cntN (F : Nat → Bool) : Nat → Nat
  | 0 => 0
  | n + 1 => bif F n then cntN F n + 1 else cntN F n
theorem cntN_t {F : Nat → Bool} {n : Nat} (h : F n = true) : cntN F (n + 1) = cntN F n + 1 := by
  show (bif F n then _ else _) = _
  rw [h]; rfl
theorem cntN_f {F : Nat → Bool} {n : Nat} (h : F n = false) : cntN F (n + 1) = cntN F n := by
  show (bif F n then _ else _) = _
  rw [h]; rfl
theorem cntN_le (F : Nat → Bool) : ∀ n, cntN F n ≤ n
  | 0 => Nat.le_refl 0
  | n + 1 => by
    have := cntN_le F n
    cases h : F n
    · rw [cntN_f h]; omega
    · rw [cntN_t h]; omega
theorem cntN_mono (F : Nat → Bool) : ∀ n m, n ≤ m → cntN F n ≤ cntN F m
  | n, 0, h => by
    have : n = 0 := by omega
    subst this; exact Nat.le_refl _
  | n, m + 1, h => by
    by_cases z : n = m + 1
    · subst z; exact Nat.le_refl _
    · have ih := cntN_mono F n m (by omega)
      cases h : F m
      · rw [cntN_f h]; exact ih
      · rw [cntN_t h]; omega
def lstF (F : Nat → Bool) : Nat → Nat → Option Nat
  | _, 0 => none
  | p, m + 1 => bif F p then some p else lstF F (p + 1) m
theorem lstF_t {F : Nat → Bool} {p m : Nat} (h : F p = true) : lstF F p (m + 1) = some p := by
  show (bif F p then _ else _) = _
  rw [h]; rfl
theorem lstF_f {F : Nat → Bool} {p m : Nat} (h : F p = false) : lstF F p (m + 1) = lstF F (p + 1) m := by
  show (bif F p then _ else _) = _
  rw [h]; rfl
/-- how many that fit have the mark m by effort e -/
def ptF (F : Nat → Bool) (e m : Nat) : Nat → Bool := fun p => decide (mkB p e = m) && F p
def mst (f : Nat → Nat) : Nat → Nat
  | 0 => 0
  | m + 1 => max (mst f m) (f m)
theorem mst_same {f g : Nat → Nat} : ∀ n, (∀ m, m < n → f m = g m) → mst f n = mst g n
  | 0, _ => rfl
  | n + 1, h => by
    show max (mst f n) (f n) = max (mst g n) (g n)
    rw [mst_same n (fun m hm => h m (by omega)), h n (by omega)]
theorem mst_ge {f : Nat → Nat} : ∀ n m, m < n → f m ≤ mst f n
  | 0, m, h => absurd h (by omega)
  | n + 1, m, h => by
    show f m ≤ max (mst f n) (f n)
    by_cases z : m = n
    · subst z; exact Nat.le_max_right _ _
    · exact Nat.le_trans (mst_ge n m (by omega)) (Nat.le_max_left _ _)
theorem mst_up {f g : Nat → Nat} {m0 : Nat} (h : ∀ m, m ≠ m0 → g m = f m) (h0 : f m0 ≤ g m0) : ∀ n, m0 < n → mst g n = max (mst f n) (g m0)
  | 0, hn => absurd hn (by omega)
  | n + 1, hn => by
    show max (mst g n) (g n) = max (max (mst f n) (f n)) (g m0)
    by_cases z : m0 = n
    · subst z
      rw [mst_same (f := g) (g := f) m0 (fun m hm => h m (by omega))]
      omega
    · rw [mst_up h h0 n (by omega), h n (by omega)]
      omega
def gpt (F : Nat → Bool) (e : Nat) : Nat := mst (fun m => cntN (ptF F e m) 100) 100
def tnx (F : Nat → Bool) : Nat → Option Nat × Nat
  | 0 => (none, cntN F 100)
  | n + 1 => if gpt F n < (tnx F n).2 then (some n, gpt F n) else tnx F n
theorem tnx_le (F : Nat → Bool) : ∀ n, (tnx F n).2 ≤ 100 ∧ ∀ p, (tnx F n).1 = some p → p < n
  | 0 => ⟨cntN_le F 100, fun p h => by cases h⟩
  | n + 1 => by
    have ih := tnx_le F n
    show (if gpt F n < (tnx F n).2 then (some n, gpt F n) else tnx F n).2 ≤ 100 ∧ ∀ p, (if gpt F n < (tnx F n).2 then (some n, gpt F n) else tnx F n).1 = some p → p < n + 1
    split
    · exact ⟨by show gpt F n ≤ 100; omega, fun p h => by cases h; omega⟩
    · exact ⟨ih.1, fun p h => by have := ih.2 p h; omega⟩
theorem mst_le {f : Nat → Nat} {c : Nat} : ∀ n, (∀ m, m < n → f m ≤ c) → mst f n ≤ c
  | 0, _ => Nat.zero_le _
  | n + 1, h => by
    show max (mst f n) (f n) ≤ c
    have := mst_le n (fun m hm => h m (by omega))
    have := h n (by omega)
    omega
theorem gpt_le (F : Nat → Bool) (e : Nat) : gpt F e ≤ 100 := mst_le 100 (fun m _ => cntN_le _ 100)
def f_truly (a : AS) (x : Int32) : Int32 := if x = nI 0 then nI (cntN (fitA a) 100) else if x = nI 1 then oI (lstF (fitA a) 0 100) else OUTS
def f_tryNext (a : AS) : Int32 := oI (tnx (fitA a) 10).1
theorem mkB_lt {p e : Nat} (hp : p < 100) (he : e < 10) : mkB p e < 100 := by
  unfold mkB
  have h1 : p / 10 ≤ 9 := by omega
  have h2 : p / 10 * e ≤ 9 * 9 := Nat.mul_le_mul h1 (by omega)
  omega
set_option maxRecDepth 20000 in
theorem c_X5_markBy {l : Launch} {X : XT} {d : Nat} {M : Mem} (p e : Nat) (hp : p < 100) (he : e < 10) : CT l X (d + 1) md_X5_markBy [.inl (nI p), .inl (nI e)] (M) (some (.inl (nI (mkB p e)))) (M) := by
  show WP l X _ md_X5_markBy (0, [some (.inl (nI p)), some (.inl (nI e))], [], _) _
  refine x_iload_n (pc' := 1) rfl rfl rfl (x_bipush (pc' := 3) rfl rfl (x_idivN (pc' := 4) rfl rfl (by decide) (by omega) (by decide) (x_iload_n (pc' := 5) rfl rfl rfl (x_imulN (pc' := 6) rfl rfl (x_iload_n (pc' := 7) rfl rfl rfl ?_)))))
  refine x_bipush (pc' := 9) rfl rfl (x_iremN (pc' := 10) rfl rfl (by decide) (by omega) (by decide) (x_iaddN (pc' := 11) rfl rfl ?_))
  refine x_iret rfl rfl ?_
  exact rI rfl
set_option maxRecDepth 20000 in
theorem l_X5_isFitting {l : Launch} {X : XT} {d Lz : Nat} {w : WF} {a : AS} (hS : SeC w a.sn a.se a.sm) (hA : a.sn ≤ 6 ∧ ∀ q, q < a.sn → a.se q < 10 ∧ a.sm q < 100) (p : Nat) (hp : p < 100) : ∀ (kk n : Nat), fitN a.se a.sm p n = true →  n ≤ a.sn → a.sn + 1 ≤ n + kk → WP l X (d + 2) md_X5_isFitting (2, [some (.inr (.inr (5, 0, 0))), some (.inl (nI p)), some (.inl (nI n))], [], mk Lz w) (fun v M' => v = some (.inl (bI (fitA a p))) ∧ M' = mk Lz w) := by
  intro kk
  induction kk with
  | zero =>
    intro n hF h1 h2
    exact absurd h2 (by omega)
  | succ kk ih =>
    intro n hF hi1 hi2
    have h6 := hA.1
    refine x_iload_n (pc' := 3) rfl rfl rfl (x_aload_n (pc' := 4) rfl rfl rfl (x_getI (pc' := 7) rfl rfl rfl ?_))
    rw [hS.1]
    refine x_icmp_geN (pc' := 10) rfl rfl (by omega) (by omega) (fun h7 => ?_) (fun h7 => ?_)
    · refine x_iconst (pc' := 38) rfl rfl ?_
      refine x_zret rfl rfl (by decide) ?_
      have e : n = a.sn := by omega
      subst e
      exact rI (bI_t hF).symm
    · refine x_iload_n (pc' := 11) rfl rfl rfl (x_aload_n (pc' := 12) rfl rfl rfl (x_getR (pc' := 15) (t := (5, _, 1)) rfl rfl rfl (x_iload_n (pc' := 16) rfl rfl rfl (x_iald (pc' := 17) (N := 6) rfl rfl rfl rfl (by first | assumption | omega) (by decide) ?_))))
      rw [(hS.2 n (by omega)).1]
      refine x_invS2 (pc' := 20) rfl rfl rfl rfl rfl (c_X5_markBy p (a.se n) hp (hA.2 n (by omega)).1) ?_
      have hb := mkB_lt hp (hA.2 n (by omega)).1
      have hb2 := (hA.2 n (by omega)).2
      refine x_aload_n (pc' := 21) rfl rfl rfl (x_getR (pc' := 24) (t := (5, _, 2)) rfl rfl rfl (x_iload_n (pc' := 25) rfl rfl rfl (x_iald (pc' := 26) (N := 6) rfl rfl rfl rfl (by first | assumption | omega) (by decide) ?_)))
      rw [(hS.2 n (by omega)).2]
      refine x_icmp_eqN (pc' := 29) rfl rfl (by omega) (by omega) (fun h26 => ?_) (fun h26 => ?_)
      · refine x_iinc2 (pc' := 34) rfl rfl rfl (nI_add _ _) (x_goto rfl ?_)
        exact ih (n + 1) (fitN_s hF h26) (by omega) (by omega)
      · refine x_iconst (pc' := 30) rfl rfl ?_
        refine x_zret rfl rfl (by decide) ?_
        exact rI (bI_f (fitN_f (n + 1) a.sn (by omega) (fitN_n h26))).symm
set_option maxRecDepth 20000 in
theorem c_X5_isFitting {l : Launch} {X : XT} {d Lz : Nat} {w : WF} {a : AS} (hS : SeC w a.sn a.se a.sm) (hA : a.sn ≤ 6 ∧ ∀ q, q < a.sn → a.se q < 10 ∧ a.sm q < 100) (p : Nat) (hp : p < 100) : CT l X (d + 2) md_X5_isFitting [.inr (.inr (5, 0, 0)), .inl (nI p)] (mk Lz w) (some (.inl (bI (fitA a p)))) (mk Lz w) := by
  have h6 := hA.1
  show WP l X _ md_X5_isFitting (0, [some (.inr (.inr (5, 0, 0))), some (.inl (nI p)), none], [], _) _
  refine x_iconst (pc' := 1) rfl rfl (x_istore_n2 (pc' := 2) rfl rfl rfl ?_)
  exact l_X5_isFitting hS hA p hp 8 0 rfl (by omega) (by omega)
set_option maxRecDepth 20000 in
theorem l_X5_countFitting {l : Launch} {X : XT} {d Lz : Nat} {w : WF} {a : AS} (hS : SeC w a.sn a.se a.sm) (hA : a.sn ≤ 6 ∧ ∀ q, q < a.sn → a.se q < 10 ∧ a.sm q < 100) : ∀ (kk n : Nat),  n ≤ 100 → 100 + 1 ≤ n + kk → WP l X (d + 3) md_X5_countFitting (4, [some (.inr (.inr (5, 0, 0))), some (.inl (nI (cntN (fitA a) n))), some (.inl (nI n))], [], mk Lz w) (fun v M' => v = some (.inl (nI (cntN (fitA a) 100))) ∧ M' = mk Lz w) := by
  intro kk
  induction kk with
  | zero =>
    intro n h1 h2
    exact absurd h2 (by omega)
  | succ kk ih =>
    intro n hi1 hi2
    refine x_iload_n (pc' := 5) rfl rfl rfl (x_bipush (pc' := 7) rfl rfl ?_)
    refine x_icmp_geN (pc' := 10) rfl rfl (by omega) (by omega) (fun h7 => ?_) (fun h7 => ?_)
    · refine x_iload_n (pc' := 28) rfl rfl rfl ?_
      refine x_iret rfl rfl ?_
      have e : n = 100 := by omega
      subst e
      exact rI rfl
    · refine x_aload_n (pc' := 11) rfl rfl rfl (x_iload_n (pc' := 12) rfl rfl rfl (x_invI2 (pc' := 15) rfl rfl rfl rfl (c_X5_isFitting hS hA _ (by omega)) ?_))
      refine x_if_eq (pc' := 18) rfl rfl (fun h15 => ?_) (fun h15 => ?_)
      · refine x_iinc2 (pc' := 24) rfl rfl rfl (nI_add _ _) (x_goto rfl ?_)
        exact WPc (ih (n + 1) (by omega) (by omega)) (by first | rw [cntN_t (bq h15)] | rw [cntN_f (bI_eq0.mp h15)]) rfl
      · refine x_iinc1 (pc' := 21) rfl rfl rfl (nI_add _ _) (x_iinc2 (pc' := 24) rfl rfl rfl (nI_add _ _) (x_goto rfl ?_))
        exact WPc (ih (n + 1) (by omega) (by omega)) (by first | rw [cntN_t (bq h15)] | rw [cntN_f (bI_eq0.mp h15)]) rfl
set_option maxRecDepth 20000 in
theorem c_X5_countFitting {l : Launch} {X : XT} {d Lz : Nat} {w : WF} {a : AS} (hS : SeC w a.sn a.se a.sm) (hA : a.sn ≤ 6 ∧ ∀ q, q < a.sn → a.se q < 10 ∧ a.sm q < 100) : CT l X (d + 3) md_X5_countFitting [.inr (.inr (5, 0, 0))] (mk Lz w) (some (.inl (nI (cntN (fitA a) 100)))) (mk Lz w) := by
  show WP l X _ md_X5_countFitting (0, [some (.inr (.inr (5, 0, 0))), none, none], [], _) _
  refine x_iconst (pc' := 1) rfl rfl (x_istore_n1 (pc' := 2) rfl rfl rfl (x_iconst (pc' := 3) rfl rfl (x_istore_n2 (pc' := 4) rfl rfl rfl ?_)))
  exact l_X5_countFitting hS hA 101 0 (by omega) (by omega)
set_option maxRecDepth 20000 in
theorem l_X5_leastFitting {l : Launch} {X : XT} {d Lz : Nat} {w : WF} {a : AS} (hS : SeC w a.sn a.se a.sm) (hA : a.sn ≤ 6 ∧ ∀ q, q < a.sn → a.se q < 10 ∧ a.sm q < 100) : ∀ (kk n : Nat), lstF (fitA a) 0 100 = lstF (fitA a) n (100 - n) →  n ≤ 100 → 100 + 1 ≤ n + kk → WP l X (d + 3) md_X5_leastFitting (2, [some (.inr (.inr (5, 0, 0))), some (.inl (nI n))], [], mk Lz w) (fun v M' => v = some (.inl (oI (lstF (fitA a) 0 100))) ∧ M' = mk Lz w) := by
  intro kk
  induction kk with
  | zero =>
    intro n hL h1 h2
    exact absurd h2 (by omega)
  | succ kk ih =>
    intro n hL hi1 hi2
    refine x_iload_n (pc' := 3) rfl rfl rfl (x_bipush (pc' := 5) rfl rfl ?_)
    refine x_icmp_geN (pc' := 8) rfl rfl (by omega) (by omega) (fun h5 => ?_) (fun h5 => ?_)
    · refine x_iconst (pc' := 25) rfl rfl ?_
      refine x_iret rfl rfl ?_
      have e : n = 100 := by omega
      subst e
      exact rI (by rw [hL]; rfl)
    · have hL2 := hL
      rw [show 100 - n = 100 - (n + 1) + 1 by omega] at hL2
      refine x_aload_n (pc' := 9) rfl rfl rfl (x_iload_n (pc' := 10) rfl rfl rfl (x_invI2 (pc' := 13) rfl rfl rfl rfl (c_X5_isFitting hS hA _ (by omega)) ?_))
      refine x_if_eq (pc' := 16) rfl rfl (fun h13 => ?_) (fun h13 => ?_)
      · refine x_iinc1 (pc' := 21) rfl rfl rfl (nI_add _ _) (x_goto rfl ?_)
        exact ih (n + 1) (by rw [hL2, lstF_f (bI_eq0.mp h13)]) (by omega) (by omega)
      · refine x_iload_n (pc' := 17) rfl rfl rfl ?_
        refine x_iret rfl rfl ?_
        exact rI (by rw [hL2, lstF_t (bq h13)]; rfl)
set_option maxRecDepth 20000 in
theorem c_X5_leastFitting {l : Launch} {X : XT} {d Lz : Nat} {w : WF} {a : AS} (hS : SeC w a.sn a.se a.sm) (hA : a.sn ≤ 6 ∧ ∀ q, q < a.sn → a.se q < 10 ∧ a.sm q < 100) : CT l X (d + 3) md_X5_leastFitting [.inr (.inr (5, 0, 0))] (mk Lz w) (some (.inl (oI (lstF (fitA a) 0 100)))) (mk Lz w) := by
  show WP l X _ md_X5_leastFitting (0, [some (.inr (.inr (5, 0, 0))), none], [], _) _
  refine x_iconst (pc' := 1) rfl rfl (x_istore_n1 (pc' := 2) rfl rfl rfl ?_)
  exact l_X5_leastFitting hS hA 101 0 rfl (by omega) (by omega)
/-- the marks' own counts -/
def GP (w : WF) (w' : WF) (f : Nat → Nat) (n : Nat) : Prop := (∀ c i o q, ¬ (c = 5 ∧ i = 0 ∧ o = 3) → w' c i o q = w c i o q) ∧ ∀ m, m < n → w' 5 0 3 m = nI (f m)
theorem GP.u {w w' : WF} {f g : Nat → Nat} {n m0 : Nat} {x : Int32} (h : GP w w' f n) (hx : x = nI (g m0)) (hg : ∀ m, m ≠ m0 → g m = f m) (n' : Nat) (hn : ∀ m, m < n' → m ≠ m0 → m < n) : GP w (u4 w' 5 0 3 m0 x) g n' := by
  refine ⟨fun c i o q hc => by rw [u4_ne (ne3 hc)]; exact h.1 c i o q hc, fun m hm => ?_⟩
  rw [u4_at]
  by_cases z : m = m0
  · rw [if_pos z, z, hx]
  · rw [if_neg z, hg m z]; exact h.2 m (hn m hm z)
theorem SeC_GP {w w' : WF} {f : Nat → Nat} {n k : Nat} {se sm : Nat → Nat} (h : GP w w' f n) (hS : SeC w k se sm) : SeC w' k se sm := SeC_cg (fun o q ho => h.1 5 0 o q (by omega)) hS
theorem ptF_t {F : Nat → Bool} {e m p : Nat} (h : F p = true) (h2 : mkB p e = m) : ptF F e m p = true := by unfold ptF; rw [h, dT h2]; rfl
theorem ptF_f {F : Nat → Bool} {e m p : Nat} (h2 : m ≠ mkB p e) : ptF F e m p = false := by unfold ptF; rw [dF (fun z => h2 z.symm)]; rfl
theorem ptF_0 {F : Nat → Bool} {e m p : Nat} (h : F p = false) : ptF F e m p = false := by unfold ptF; rw [h]; simp
theorem mst_0 : ∀ n, mst (fun _ => 0) n = 0
  | 0 => rfl
  | n + 1 => by
    show max (mst (fun _ => 0) n) 0 = 0
    rw [mst_0 n]; rfl
theorem nI_max {n m : Nat} (hn : n < 2 ^ 31) (hm : m < 2 ^ 31) : mxI (nI n) (nI m) = nI (max n m) := by
  unfold mxI
  by_cases z : n < m
  · rw [if_pos ((nI_ltI hn hm).mpr z), Nat.max_eq_right (by omega)]
  · rw [if_neg (fun y => z ((nI_ltI hn hm).mp y)), Nat.max_eq_left (by omega)]
set_option maxRecDepth 20000 in
theorem l_X5_greatestPart {l : Launch} {X : XT} {d Lz : Nat} {w : WF} {a : AS} (hS : SeC w a.sn a.se a.sm) (hA : a.sn ≤ 6 ∧ ∀ q, q < a.sn → a.se q < 10 ∧ a.sm q < 100) (e : Nat) (he : e < 10) : ∀ (kk n : Nat), ∀ (wn : WF) (z : Option AV), GP w wn (fun m => cntN (ptF (fitA a) e m) n) 100 →  n ≤ 100 → 100 + 1 ≤ n + kk → WP l X (d + 3) md_X5_greatestPart (25, [some (.inr (.inr (5, 0, 0))), some (.inl (nI e)), some (.inl (nI (mst (fun m => cntN (ptF (fitA a) e m) n) 100))), some (.inl (nI n)), z], [], mk Lz wn) (fun v M' => v = some (.inl (nI (gpt (fitA a) e))) ∧ ∃ w', M' = mk Lz w' ∧ (∀ c i o q, ¬ (c = 5 ∧ i = 0 ∧ o = 3) → w' c i o q = w c i o q)) := by
  intro kk
  induction kk with
  | zero =>
    intro n wn z hG h1 h2
    exact absurd h2 (by omega)
  | succ kk ih =>
    intro n wn z hG hi1 hi2
    refine x_iload_n (pc' := 26) rfl rfl rfl (x_bipush (pc' := 28) rfl rfl ?_)
    refine x_icmp_geN (pc' := 31) rfl rfl (by omega) (by omega) (fun h28 => ?_) (fun h28 => ?_)
    · refine x_iload_n (pc' := 76) rfl rfl rfl ?_
      refine x_iret rfl rfl ?_
      have e1 : n = 100 := by omega
      subst e1
      exact ⟨rfl, _, rfl, hG.1⟩
    · have hm0 := mkB_lt (show n < 100 by omega) he
      have hle : mst (fun m => cntN (ptF (fitA a) e m) n) 100 ≤ 100 := mst_le 100 (fun m _ => Nat.le_trans (cntN_le _ n) (by omega))
      refine x_aload_n (pc' := 32) rfl rfl rfl (x_iload_n (pc' := 33) rfl rfl rfl (x_invI2 (pc' := 36) rfl rfl rfl rfl (c_X5_isFitting (SeC_GP hG hS) hA _ (by omega)) ?_))
      refine x_if_eq (pc' := 39) rfl rfl (fun h36 => ?_) (fun h36 => ?_)
      · refine x_iinc3 (pc' := 72) rfl rfl rfl (nI_add _ _) (x_goto rfl ?_)
        have hE : (fun m => cntN (ptF (fitA a) e m) n) = fun m => cntN (ptF (fitA a) e m) (n + 1) := funext (fun m => (cntN_f (ptF_0 (bI_eq0.mp h36))).symm)
        rw [hE] at hG ⊢
        exact ih (n + 1) _ _ hG (by omega) (by omega)
      · refine x_iload_n (pc' := 40) rfl rfl rfl (x_iload_n (pc' := 41) rfl rfl rfl (x_invS2 (pc' := 44) rfl rfl rfl rfl rfl (c_X5_markBy n e (by omega) he) ?_))
        refine x_istore4 (pc' := 46) rfl rfl rfl (x_aload_n (pc' := 47) rfl rfl rfl (x_getR (pc' := 50) (t := (5, _, 3)) rfl rfl rfl (x_iload (pc' := 52) rfl rfl rfl (x_dup2 (pc' := 53) rfl rfl rfl (x_iald (pc' := 54) (N := 100) rfl rfl rfl rfl hm0 (by decide) ?_)))))
        rw [show wn 5 0 3 (mkB n e) = nI (cntN (ptF (fitA a) e (mkB n e)) n) from hG.2 _ hm0]
        have hcn := cntN_le (ptF (fitA a) e (mkB n e)) n
        refine x_iconst (pc' := 55) rfl rfl (x_iadd (pc' := 56) rfl rfl ?_)
        refine x_iast (pc' := 57) (N := 100) rfl rfl rfl (by decide) rfl hm0 (by decide) (x_iload_n (pc' := 58) rfl rfl rfl (x_aload_n (pc' := 59) rfl rfl rfl (x_getR (pc' := 62) (t := (5, _, 3)) rfl rfl rfl (x_iload (pc' := 64) rfl rfl rfl (x_iald (pc' := 65) (N := 100) rfl rfl rfl rfl hm0 (by decide) ?_)))))
        rw [u4_self, nI_add]
        refine x_invS2 (pc' := 68) rfl rfl rfl rfl rfl (c_J9_max_7cf53 _ _) ?_
        rw [nI_max (by omega) (by omega)]
        refine x_istore_n2 (pc' := 69) rfl rfl rfl (x_iinc3 (pc' := 72) rfl rfl rfl (nI_add _ _) (x_goto rfl ?_))
        have hu := mst_up (f := (fun m => cntN (ptF (fitA a) e m) n)) (g := fun m => cntN (ptF (fitA a) e m) (n + 1)) (m0 := mkB n e) (fun m hm => cntN_f (ptF_f hm)) (cntN_mono _ n (n + 1) (by omega)) 100 hm0
        have ht : cntN (ptF (fitA a) e (mkB n e)) (n + 1) = cntN (ptF (fitA a) e (mkB n e)) n + 1 := cntN_t (ptF_t (bq h36) rfl)
        refine WPc (ih (n + 1) _ (some (.inl (nI (mkB n e)))) (hG.u (g := fun m => cntN (ptF (fitA a) e m) (n + 1)) (by show _ = nI (cntN (ptF (fitA a) e (mkB n e)) (n + 1)); rw [ht]) (fun m hm => cntN_f (ptF_f hm)) 100 (fun m hm _ => hm)) (by omega) (by omega)) ?_ rfl
        rw [hu]
        rw [ht]
set_option maxRecDepth 20000 in
theorem l_X5_greatestPart0 {l : Launch} {X : XT} {d Lz : Nat} {w : WF} {a : AS} (hS : SeC w a.sn a.se a.sm) (hA : a.sn ≤ 6 ∧ ∀ q, q < a.sn → a.se q < 10 ∧ a.sm q < 100) (e : Nat) (he : e < 10) : ∀ (kk n : Nat), ∀ (wn : WF), GP w wn (fun _ => 0) n →  n ≤ 100 → 100 + 1 ≤ n + kk → WP l X (d + 3) md_X5_greatestPart (2, [some (.inr (.inr (5, 0, 0))), some (.inl (nI e)), some (.inl (nI n)), none, none], [], mk Lz wn) (fun v M' => v = some (.inl (nI (gpt (fitA a) e))) ∧ ∃ w', M' = mk Lz w' ∧ (∀ c i o q, ¬ (c = 5 ∧ i = 0 ∧ o = 3) → w' c i o q = w c i o q)) := by
  intro kk
  induction kk with
  | zero =>
    intro n wn hG h1 h2
    exact absurd h2 (by omega)
  | succ kk ih =>
    intro n wn hG hi1 hi2
    refine x_iload_n (pc' := 3) rfl rfl rfl (x_bipush (pc' := 5) rfl rfl ?_)
    refine x_icmp_geN (pc' := 8) rfl rfl (by omega) (by omega) (fun h5 => ?_) (fun h5 => ?_)
    · refine x_iconst (pc' := 22) rfl rfl (x_istore_n2 (pc' := 23) rfl rfl rfl (x_iconst (pc' := 24) rfl rfl (x_istore_n3 (pc' := 25) rfl rfl rfl ?_)))
      have e1 : n = 100 := by omega
      subst e1
      exact WPc (l_X5_greatestPart hS hA e he 101 0 _ none hG (by omega) (by omega)) (by rw [show mst (fun m => cntN (ptF (fitA a) e m) 0) 100 = 0 from mst_0 100]) rfl
    · refine x_aload_n (pc' := 9) rfl rfl rfl (x_getR (pc' := 12) (t := (5, _, 3)) rfl rfl rfl (x_iload_n (pc' := 13) rfl rfl rfl (x_iconst (pc' := 14) rfl rfl (x_iast (pc' := 15) (N := 100) rfl rfl rfl (by decide) rfl (by omega) (by decide) (x_iinc2 (pc' := 18) rfl rfl rfl (nI_add _ _) ?_)))))
      refine x_goto rfl ?_
      exact ih (n + 1) _ (hG.u (g := fun _ => 0) rfl (fun _ _ => rfl) (n + 1) (fun m hm hz => by omega)) (by omega) (by omega)
set_option maxRecDepth 20000 in
theorem c_X5_greatestPart {l : Launch} {X : XT} {d Lz : Nat} {w : WF} {a : AS} (hS : SeC w a.sn a.se a.sm) (hA : a.sn ≤ 6 ∧ ∀ q, q < a.sn → a.se q < 10 ∧ a.sm q < 100) (e : Nat) (he : e < 10) : WP l X (d + 3) md_X5_greatestPart (en md_X5_greatestPart [.inr (.inr (5, 0, 0)), .inl (nI e)] (mk Lz w)) (fun v M' => v = some (.inl (nI (gpt (fitA a) e))) ∧ ∃ w', M' = mk Lz w' ∧ (∀ c i o q, ¬ (c = 5 ∧ i = 0 ∧ o = 3) → w' c i o q = w c i o q)) := by
  show WP l X _ md_X5_greatestPart (0, [some (.inr (.inr (5, 0, 0))), some (.inl (nI e)), none, none, none], [], _) _
  refine x_iconst (pc' := 1) rfl rfl (x_istore_n2 (pc' := 2) rfl rfl rfl ?_)
  exact l_X5_greatestPart0 hS hA e he 101 0 _ ⟨fun _ _ _ _ _ => rfl, fun m hm => absurd hm (by omega)⟩ (by omega) (by omega)
set_option maxRecDepth 20000 in
theorem l_X5_bestEffort {l : Launch} {X : XT} {d Lz : Nat} {w : WF} {a : AS} (hS : SeC w a.sn a.se a.sm) (hA : a.sn ≤ 6 ∧ ∀ q, q < a.sn → a.se q < 10 ∧ a.sm q < 100) : ∀ (kk n : Nat), ∀ (wn : WF) (z : Option AV), (∀ c i o q, ¬ (c = 5 ∧ i = 0 ∧ o = 3) → wn c i o q = w c i o q) →  n ≤ 10 → 10 + 1 ≤ n + kk → WP l X (d + 4) md_X5_bestEffort (9, [some (.inr (.inr (5, 0, 0))), some (.inl (oI (tnx (fitA a) n).1)), some (.inl (nI (tnx (fitA a) n).2)), some (.inl (nI n)), z], [], mk Lz wn) (fun v M' => v = some (.inl (oI (tnx (fitA a) 10).1)) ∧ ∃ w', M' = mk Lz w' ∧ (∀ c i o q, ¬ (c = 5 ∧ i = 0 ∧ o = 3) → w' c i o q = w c i o q)) := by
  intro kk
  induction kk with
  | zero =>
    intro n wn z hf h1 h2
    exact absurd h2 (by omega)
  | succ kk ih =>
    intro n wn z hf hi1 hi2
    refine x_iload_n (pc' := 10) rfl rfl rfl (x_bipush (pc' := 12) rfl rfl ?_)
    refine x_icmp_geN (pc' := 15) rfl rfl (by omega) (by omega) (fun h12 => ?_) (fun h12 => ?_)
    · refine x_iload_n (pc' := 40) rfl rfl rfl ?_
      refine x_iret rfl rfl ?_
      have e : n = 10 := by omega
      subst e
      exact ⟨rfl, _, rfl, hf⟩
    · refine x_aload_n (pc' := 16) rfl rfl rfl (x_iload_n (pc' := 17) rfl rfl rfl (x_invQ2 (pc' := 20) rfl rfl rfl rfl (c_X5_greatestPart (a := a) (SeC_cg (fun o q ho => hf 5 0 o q (by omega)) hS) hA n (by omega)) (fun vq Mq hq17 => ?_)))
      obtain ⟨rfl, w2, rfl, hf2⟩ := hq17
      have hgl := gpt_le (fitA a) n
      have htl := (tnx_le (fitA a) n).1
      have hs : tnx (fitA a) (n + 1) = if gpt (fitA a) n < (tnx (fitA a) n).2 then (some n, gpt (fitA a) n) else tnx (fitA a) n := rfl
      show WP l X _ md_X5_bestEffort (20, _, [.inl (nI (gpt (fitA a) n))], _) _
      refine x_istore4 (pc' := 22) rfl rfl rfl (x_iload (pc' := 24) rfl rfl rfl (x_iload_n (pc' := 25) rfl rfl rfl ?_))
      refine x_icmp_geN (pc' := 28) rfl rfl (by omega) (by omega) (fun h25 => ?_) (fun h25 => ?_)
      · refine x_iinc3 (pc' := 36) rfl rfl rfl (nI_add _ _) (x_goto rfl ?_)
        exact WPc (ih (n + 1) _ _ (fun c i o q hc => (hf2 c i o q hc).trans (hf c i o q hc)) (by omega) (by omega)) (by first | (rw [hs, if_neg (by omega)]) | (rw [hs, if_pos (by omega)]; rfl)) rfl
      · refine x_iload (pc' := 30) rfl rfl rfl (x_istore_n2 (pc' := 31) rfl rfl rfl (x_iload_n (pc' := 32) rfl rfl rfl (x_istore_n1 (pc' := 33) rfl rfl rfl (x_iinc3 (pc' := 36) rfl rfl rfl (nI_add _ _) (x_goto rfl ?_)))))
        exact WPc (ih (n + 1) _ _ (fun c i o q hc => (hf2 c i o q hc).trans (hf c i o q hc)) (by omega) (by omega)) (by first | (rw [hs, if_neg (by omega)]) | (rw [hs, if_pos (by omega)]; rfl)) rfl
set_option maxRecDepth 20000 in
theorem c_X5_bestEffort {l : Launch} {X : XT} {d Lz : Nat} {w : WF} {a : AS} (hS : SeC w a.sn a.se a.sm) (hA : a.sn ≤ 6 ∧ ∀ q, q < a.sn → a.se q < 10 ∧ a.sm q < 100) : WP l X (d + 4) md_X5_bestEffort (en md_X5_bestEffort [.inr (.inr (5, 0, 0))] (mk Lz w)) (fun v M' => v = some (.inl (oI (tnx (fitA a) 10).1)) ∧ ∃ w', M' = mk Lz w' ∧ (∀ c i o q, ¬ (c = 5 ∧ i = 0 ∧ o = 3) → w' c i o q = w c i o q)) := by
  show WP l X _ md_X5_bestEffort (0, [some (.inr (.inr (5, 0, 0))), none, none, none, none], [], _) _
  refine x_iconst (pc' := 1) rfl rfl (x_istore_n1 (pc' := 2) rfl rfl rfl (x_aload_n (pc' := 3) rfl rfl rfl (x_invI1 (pc' := 6) rfl rfl rfl (c_X5_countFitting hS hA) ?_)))
  refine x_istore_n2 (pc' := 7) rfl rfl rfl (x_iconst (pc' := 8) rfl rfl (x_istore_n3 (pc' := 9) rfl rfl rfl ?_))
  exact l_X5_bestEffort hS hA 11 0 _ _ (fun _ _ _ _ _ => rfl) (by omega) (by omega)
set_option maxRecDepth 20000 in
theorem C_X8_truly {l : Launch} {X : XT} {d Lz : Nat} {w : WF} {a : AS} (h : CRel w a) (hV : AVl a) (x : Int32) : okC l X (d + 7) Lz md_X8_truly [.inl (x)] w (f_truly a x) (a) := by
  have hr := h
  obtain ⟨r1, r2, r3, r4, r5, r6, r7, r8, r9, r10⟩ := h
  have hK := hV.1
  have hv7 := hK.1
  have hv4 := hK.2.1
  have hs := hV.2.1
  have hnp := r2.2.2.1
  show WP l X _ md_X8_truly (0, [some (.inr (.inr (8, 0, 0))), some (.inl (x))], [], _) _
  refine x_iload_n (pc' := 1) rfl rfl rfl ?_
  refine x_lswG rfl ?_
  refine sw_c (fun h1_0 => ?_) (fun n1_0 => ?_)
  · refine x_aload_n (pc' := 29) rfl rfl rfl (x_getR (pc' := 32) (t := (5, 0, 0)) rfl rfl rfl (x_invI1 (pc' := 35) rfl rfl rfl (c_X5_countFitting r7 hV.2.2.2.2.2.1) ?_))
    refine x_iret rfl rfl ?_
    subst h1_0
    exact ok_id (rfl) (fun _ _ _ _ _ => rfl) hr
  refine sw_c (fun h1_1 => ?_) (fun n1_1 => ?_)
  · refine x_aload_n (pc' := 37) rfl rfl rfl (x_getR (pc' := 40) (t := (5, 0, 0)) rfl rfl rfl (x_invI1 (pc' := 43) rfl rfl rfl (c_X5_leastFitting r7 hV.2.2.2.2.2.1) ?_))
    refine x_iret rfl rfl ?_
    subst h1_1
    exact ok_id (rfl) (fun _ _ _ _ _ => rfl) hr
  refine sw_n ?_
  refine x_ldc (pc' := 46) rfl rfl ?_
  refine x_iret rfl rfl ?_
  exact ok_id (by unfold f_truly; rw [if_neg n1_0, if_neg n1_1]) (fun _ _ _ _ _ => rfl) hr
set_option maxRecDepth 20000 in
theorem C_X8_tryNext {l : Launch} {X : XT} {d Lz : Nat} {w : WF} {a : AS} (h : CRel w a) (hV : AVl a) : okC l X (d + 7) Lz md_X8_tryNext [] w (f_tryNext a) (a) := by
  have hr := h
  obtain ⟨r1, r2, r3, r4, r5, r6, r7, r8, r9, r10⟩ := h
  have hK := hV.1
  have hv7 := hK.1
  have hv4 := hK.2.1
  have hs := hV.2.1
  have hnp := r2.2.2.1
  show WP l X _ md_X8_tryNext (0, [some (.inr (.inr (8, 0, 0)))], [], _) _
  refine x_aload_n (pc' := 1) rfl rfl rfl (x_getR (pc' := 4) (t := (5, 0, 0)) rfl rfl rfl (x_invQ1 (pc' := 7) rfl rfl rfl (c_X5_bestEffort r7 hV.2.2.2.2.2.1) (fun vq Mq hq4 => ?_)))
  obtain ⟨rfl, w2, rfl, hf⟩ := hq4
  show WP l X _ md_X8_tryNext (7, _, [.inl (oI (tnx (fitA a) 10).1)], _) _
  refine x_iret rfl rfl ?_
  exact ok_id rfl (fun c i o q hc => hf c i o q (by omega)) (CRel_Q hr (fun c i o q _ _ _ h5 => hf c i o q (fun y => h5 ⟨y.1, y.2.2⟩)))
set_option maxRecDepth 20000 in
theorem l_X9_isSo {l : Launch} {X : XT} {d Lz : Nat} {w : WF} {a : AS} (hS : SeM w a.sn a.se a.sm) (hA : a.sn ≤ 6 ∧ ∀ q, q < a.sn → a.se q < 10 ∧ a.sm q < 100) (p : Nat) (hp : p < 100) : ∀ (k n : Nat),  n ≤ a.sn → a.sn + 1 ≤ n + k → WP l X (d + 1) md_X9_isSo (4, [some (.inr (.inr (9, 0, 0))), some (.inl (nI p)), some (.inl (bI (fitN a.se a.sm p n))), some (.inl (nI n))], [], mk Lz w) (fun v M' => v = some (.inl (bI (fitA a p))) ∧ M' = mk Lz w) := by
  intro k
  induction k with
  | zero =>
    intro n h1 h2
    exact absurd h2 (by omega)
  | succ k ih =>
    intro n hi1 hi2
    have h6 := hA.1
    cases hF : fitN a.se a.sm p n with
    | false =>
      show WP l X _ md_X9_isSo (4, [some (.inr (.inr (9, 0, 0))), some (.inl (nI p)), some (.inl (nI 0)), some (.inl (nI n))], [], _) _
      refine x_iload_n (pc' := 5) rfl rfl rfl (x_aload_n (pc' := 6) rfl rfl rfl (x_getI (pc' := 9) rfl rfl rfl ?_))
      rw [hS.1]
      refine x_icmp_geN (pc' := 12) rfl rfl (by omega) (by omega) (fun h9 => ?_) (fun h9 => ?_)
      · refine x_iload_n (pc' := 54) rfl rfl rfl ?_
        refine x_zret rfl rfl (by decide) ?_
        have e : n = a.sn := by omega
        subst e
        exact rI (by unfold fitA; rw [hF]; rfl)
      · have hb := mkB_lt hp (hA.2 n (by omega)).1
        have hb2 := (hA.2 n (by omega)).2
        unfold mkB at hb
        refine x_iload_n (pc' := 13) rfl rfl rfl ?_
        refine x_if_eq (pc' := 16) rfl rfl (fun h13 => ?_) (fun h13 => absurd rfl h13)
        refine x_iconst (pc' := 46) rfl rfl (x_istore_n2 (pc' := 47) rfl rfl rfl (x_iinc3 (pc' := 50) rfl rfl rfl (nI_add _ _) (x_goto rfl ?_)))
        exact WPc (ih (n + 1) (by omega) (by omega)) (by first | rw [fitN_f n (n + 1) (by omega) hF]; rfl | rw [fitN_s hF h38]; rfl | rw [fitN_n h38]; rfl) rfl
    | true =>
      show WP l X _ md_X9_isSo (4, [some (.inr (.inr (9, 0, 0))), some (.inl (nI p)), some (.inl (nI 1)), some (.inl (nI n))], [], _) _
      refine x_iload_n (pc' := 5) rfl rfl rfl (x_aload_n (pc' := 6) rfl rfl rfl (x_getI (pc' := 9) rfl rfl rfl ?_))
      rw [hS.1]
      refine x_icmp_geN (pc' := 12) rfl rfl (by omega) (by omega) (fun h9 => ?_) (fun h9 => ?_)
      · refine x_iload_n (pc' := 54) rfl rfl rfl ?_
        refine x_zret rfl rfl (by decide) ?_
        have e : n = a.sn := by omega
        subst e
        exact rI (by unfold fitA; rw [hF]; rfl)
      · have hb := mkB_lt hp (hA.2 n (by omega)).1
        have hb2 := (hA.2 n (by omega)).2
        unfold mkB at hb
        refine x_iload_n (pc' := 13) rfl rfl rfl ?_
        refine x_if_eq (pc' := 16) rfl rfl (fun h13 => absurd h13 (by decide)) (fun h13 => ?_)
        refine x_iload_n (pc' := 17) rfl rfl rfl (x_bipush (pc' := 19) rfl rfl (x_idivN (pc' := 20) rfl rfl (by decide) (by omega) (by decide) (x_aload_n (pc' := 21) rfl rfl rfl (x_getR (pc' := 24) (t := (9, _, 15)) rfl rfl rfl (x_iload_n (pc' := 25) rfl rfl rfl ?_)))))
        refine x_iald (pc' := 26) (N := 6) rfl rfl rfl rfl (by first | assumption | omega) (by decide) ?_
        rw [(hS.2 n (by omega)).1]
        refine x_imulN (pc' := 27) rfl rfl (x_iload_n (pc' := 28) rfl rfl rfl (x_bipush (pc' := 30) rfl rfl (x_iremN (pc' := 31) rfl rfl (by decide) (by omega) (by decide) (x_iaddN (pc' := 32) rfl rfl (x_aload_n (pc' := 33) rfl rfl rfl ?_)))))
        refine x_getR (pc' := 36) (t := (9, _, 16)) rfl rfl rfl (x_iload_n (pc' := 37) rfl rfl rfl (x_iald (pc' := 38) (N := 6) rfl rfl rfl rfl (by first | assumption | omega) (by decide) ?_))
        rw [(hS.2 n (by omega)).2]
        refine x_icmp_neN (pc' := 41) rfl rfl (by omega) (by omega) (fun h38 => ?_) (fun h38 => ?_)
        · refine x_iconst (pc' := 42) rfl rfl (x_goto rfl (x_istore_n2 (pc' := 47) rfl rfl rfl (x_iinc3 (pc' := 50) rfl rfl rfl (nI_add _ _) (x_goto rfl ?_))))
          exact WPc (ih (n + 1) (by omega) (by omega)) (by first | rw [fitN_f n (n + 1) (by omega) hF]; rfl | rw [fitN_s hF h38]; rfl | rw [fitN_n h38]; rfl) rfl
        · refine x_iconst (pc' := 46) rfl rfl (x_istore_n2 (pc' := 47) rfl rfl rfl (x_iinc3 (pc' := 50) rfl rfl rfl (nI_add _ _) (x_goto rfl ?_)))
          exact WPc (ih (n + 1) (by omega) (by omega)) (by first | rw [fitN_f n (n + 1) (by omega) hF]; rfl | rw [fitN_s hF h38]; rfl | rw [fitN_n h38]; rfl) rfl
set_option maxRecDepth 20000 in
theorem c_X9_isSo {l : Launch} {X : XT} {d Lz : Nat} {w : WF} {a : AS} (hS : SeM w a.sn a.se a.sm) (hA : a.sn ≤ 6 ∧ ∀ q, q < a.sn → a.se q < 10 ∧ a.sm q < 100) (p : Nat) (hp : p < 100) : CT l X (d + 1) md_X9_isSo [.inr (.inr (9, 0, 0)), .inl (nI p)] (mk Lz w) (some (.inl (bI (fitA a p)))) (mk Lz w) := by
  have h6 := hA.1
  show WP l X _ md_X9_isSo (0, [some (.inr (.inr (9, 0, 0))), some (.inl (nI p)), none, none], [], _) _
  refine x_iconst (pc' := 1) rfl rfl (x_istore_n2 (pc' := 2) rfl rfl rfl (x_iconst (pc' := 3) rfl rfl (x_istore_n3 (pc' := 4) rfl rfl rfl ?_)))
  exact l_X9_isSo hS hA p hp 8 0 (by omega) (by omega)
theorem dec_nI (n : Nat) : nI (n + 1) + -1 = nI n := by
  rw [← nI_add]
  have e : nI n + nI 1 + -1 = nI n + (nI 1 + -1) := Int32.add_assoc _ _ _
  rw [e, show nI 1 + -1 = (0 : Int32) by decide]
  exact Int32.add_zero _
set_option maxRecDepth 20000 in
theorem r_X9_truly {l : Launch} {X : XT} {d Lz : Nat} {w : WF} {a : AS} (hS : SeM w a.sn a.se a.sm) (hA : a.sn ≤ 6 ∧ ∀ q, q < a.sn → a.se q < 10 ∧ a.sm q < 100) (x : Nat) (hx : x < 2) : WP l X (d + 2) md_X9_truly (20, [some (.inr (.inr (9, 0, 0))), some (.inl (nI x)), some (.inl (nI (cntN (fitA a) 100))), some (.inl (oI (lstF (fitA a) 0 100))), some (.inl (-1))], [], mk Lz w) (fun v M' => v = some (.inl (if x = 0 then nI (cntN (fitA a) 100) else oI (lstF (fitA a) 0 100))) ∧ M' = mk Lz w) := by
  refine x_iload (pc' := 22) rfl rfl rfl ?_
  refine x_if_lt (pc' := 25) rfl rfl (fun h22 => ?_) (fun h22 => absurd (by decide) h22)
  refine x_iload_n (pc' := 65) rfl rfl rfl ?_
  refine x_if_ne (pc' := 68) rfl rfl (fun h65 => ?_) (fun h65 => ?_)
  · refine x_iload_n (pc' := 69) rfl rfl rfl (x_goto rfl ?_)
    refine x_iret rfl rfl ?_
    exact rI (by first | rw [if_pos (z0 h65 (by omega))] | rw [if_neg (z1 h65)])
  · refine x_iload_n (pc' := 73) rfl rfl rfl ?_
    refine x_iret rfl rfl ?_
    exact rI (by first | rw [if_pos (z0 h65 (by omega))] | rw [if_neg (z1 h65)])
set_option maxRecDepth 20000 in
theorem l_X9_truly {l : Launch} {X : XT} {d Lz : Nat} {w : WF} {a : AS} (hS : SeM w a.sn a.se a.sm) (hA : a.sn ≤ 6 ∧ ∀ q, q < a.sn → a.se q < 10 ∧ a.sm q < 100) (x : Nat) (hx : x < 2) : ∀ (p : Nat), p < 100 → WP l X (d + 2) md_X9_truly (20, [some (.inr (.inr (9, 0, 0))), some (.inl (nI x)), some (.inl (nI (cntN (fitA a) 100 - cntN (fitA a) (p + 1)))), some (.inl (oI (lstF (fitA a) (p + 1) (99 - p)))), some (.inl (nI p))], [], mk Lz w) (fun v M' => v = some (.inl (if x = 0 then nI (cntN (fitA a) 100) else oI (lstF (fitA a) 0 100))) ∧ M' = mk Lz w) := by
  intro p
  induction p with
  | zero =>
    intro hp
    have hc1 := cntN_mono (fitA a) (0 + 1) 100 (by omega)
    have hc2 := cntN_le (fitA a) 100
    refine x_iload (pc' := 22) rfl rfl rfl ?_
    refine x_if_lt (pc' := 25) rfl rfl (fun h22 => absurd h22 (nI_pos (by omega))) (fun h22 => ?_)
    refine x_iload_n (pc' := 26) rfl rfl rfl (x_aload_n (pc' := 27) rfl rfl rfl (x_iload (pc' := 29) rfl rfl rfl (x_invI2 (pc' := 32) rfl rfl rfl rfl (c_X9_isSo hS hA _ (by omega)) ?_)))
    refine x_if_eq (pc' := 35) rfl rfl (fun h32 => ?_) (fun h32 => ?_)
    · refine x_iconst (pc' := 40) rfl rfl (x_iadd (pc' := 41) rfl rfl (x_istore_n2 (pc' := 42) rfl rfl rfl (x_aload_n (pc' := 43) rfl rfl rfl (x_iload (pc' := 45) rfl rfl rfl (x_invI2 (pc' := 48) rfl rfl rfl rfl (c_X9_isSo hS hA _ (by omega)) ?_)))))
      refine x_if_eq (pc' := 51) rfl rfl (fun h48 => ?_) (fun h48 => ?_)
      · refine x_iload_n (pc' := 57) rfl rfl rfl (x_istore_n3 (pc' := 58) rfl rfl rfl (x_iinc4 (pc' := 61) rfl rfl rfl (show nI 0 + -1 = (-1 : Int32) by decide) (x_goto rfl ?_)))
        have hL : lstF (fitA a) 0 (100 - 0) = bif fitA a 0 then some 0 else lstF (fitA a) (0 + 1) (99 - 0) := by
          rw [show 100 - 0 = 99 - 0 + 1 by omega]; rfl
        first
          | exact absurd (bI_eq0.mp h48) (by rw [bq h32]; decide)
          | exact absurd (bI_eq0.mp h32) (by rw [bq h48]; decide)
          | exact WPc (r_X9_truly hS hA x hx) (by rw [show lstF (fitA a) 0 100 = some 0 from by rw [hL, bq h32]; rfl, nI_add, show cntN (fitA a) 100 - cntN (fitA a) (0 + 1) + 1 = cntN (fitA a) 100 from by have := cntN_t (F := fitA a) (n := 0) (bq h32); have h0 : cntN (fitA a) 0 = 0 := rfl; omega]; rfl) rfl
          | exact WPc (r_X9_truly hS hA x hx) (by rw [show lstF (fitA a) 0 100 = lstF (fitA a) (0 + 1) (99 - 0) from by rw [hL, bI_eq0.mp h32]; rfl, add_0, show cntN (fitA a) 100 - cntN (fitA a) (0 + 1) = cntN (fitA a) 100 from by have := cntN_f (F := fitA a) (n := 0) (bI_eq0.mp h32); have h0 : cntN (fitA a) 0 = 0 := rfl; omega]) rfl
      · refine x_iload (pc' := 53) rfl rfl rfl (x_goto rfl (x_istore_n3 (pc' := 58) rfl rfl rfl (x_iinc4 (pc' := 61) rfl rfl rfl (show nI 0 + -1 = (-1 : Int32) by decide) (x_goto rfl ?_))))
        have hL : lstF (fitA a) 0 (100 - 0) = bif fitA a 0 then some 0 else lstF (fitA a) (0 + 1) (99 - 0) := by
          rw [show 100 - 0 = 99 - 0 + 1 by omega]; rfl
        first
          | exact absurd (bI_eq0.mp h48) (by rw [bq h32]; decide)
          | exact absurd (bI_eq0.mp h32) (by rw [bq h48]; decide)
          | exact WPc (r_X9_truly hS hA x hx) (by rw [show lstF (fitA a) 0 100 = some 0 from by rw [hL, bq h32]; rfl, nI_add, show cntN (fitA a) 100 - cntN (fitA a) (0 + 1) + 1 = cntN (fitA a) 100 from by have := cntN_t (F := fitA a) (n := 0) (bq h32); have h0 : cntN (fitA a) 0 = 0 := rfl; omega]; rfl) rfl
          | exact WPc (r_X9_truly hS hA x hx) (by rw [show lstF (fitA a) 0 100 = lstF (fitA a) (0 + 1) (99 - 0) from by rw [hL, bI_eq0.mp h32]; rfl, add_0, show cntN (fitA a) 100 - cntN (fitA a) (0 + 1) = cntN (fitA a) 100 from by have := cntN_f (F := fitA a) (n := 0) (bI_eq0.mp h32); have h0 : cntN (fitA a) 0 = 0 := rfl; omega]) rfl
    · refine x_iconst (pc' := 36) rfl rfl (x_goto rfl (x_iadd (pc' := 41) rfl rfl (x_istore_n2 (pc' := 42) rfl rfl rfl (x_aload_n (pc' := 43) rfl rfl rfl (x_iload (pc' := 45) rfl rfl rfl ?_)))))
      refine x_invI2 (pc' := 48) rfl rfl rfl rfl (c_X9_isSo hS hA _ (by omega)) ?_
      refine x_if_eq (pc' := 51) rfl rfl (fun h48 => ?_) (fun h48 => ?_)
      · refine x_iload_n (pc' := 57) rfl rfl rfl (x_istore_n3 (pc' := 58) rfl rfl rfl (x_iinc4 (pc' := 61) rfl rfl rfl (show nI 0 + -1 = (-1 : Int32) by decide) (x_goto rfl ?_)))
        have hL : lstF (fitA a) 0 (100 - 0) = bif fitA a 0 then some 0 else lstF (fitA a) (0 + 1) (99 - 0) := by
          rw [show 100 - 0 = 99 - 0 + 1 by omega]; rfl
        first
          | exact absurd (bI_eq0.mp h48) (by rw [bq h32]; decide)
          | exact absurd (bI_eq0.mp h32) (by rw [bq h48]; decide)
          | exact WPc (r_X9_truly hS hA x hx) (by rw [show lstF (fitA a) 0 100 = some 0 from by rw [hL, bq h32]; rfl, nI_add, show cntN (fitA a) 100 - cntN (fitA a) (0 + 1) + 1 = cntN (fitA a) 100 from by have := cntN_t (F := fitA a) (n := 0) (bq h32); have h0 : cntN (fitA a) 0 = 0 := rfl; omega]; rfl) rfl
          | exact WPc (r_X9_truly hS hA x hx) (by rw [show lstF (fitA a) 0 100 = lstF (fitA a) (0 + 1) (99 - 0) from by rw [hL, bI_eq0.mp h32]; rfl, add_0, show cntN (fitA a) 100 - cntN (fitA a) (0 + 1) = cntN (fitA a) 100 from by have := cntN_f (F := fitA a) (n := 0) (bI_eq0.mp h32); have h0 : cntN (fitA a) 0 = 0 := rfl; omega]) rfl
      · refine x_iload (pc' := 53) rfl rfl rfl (x_goto rfl (x_istore_n3 (pc' := 58) rfl rfl rfl (x_iinc4 (pc' := 61) rfl rfl rfl (show nI 0 + -1 = (-1 : Int32) by decide) (x_goto rfl ?_))))
        have hL : lstF (fitA a) 0 (100 - 0) = bif fitA a 0 then some 0 else lstF (fitA a) (0 + 1) (99 - 0) := by
          rw [show 100 - 0 = 99 - 0 + 1 by omega]; rfl
        first
          | exact absurd (bI_eq0.mp h48) (by rw [bq h32]; decide)
          | exact absurd (bI_eq0.mp h32) (by rw [bq h48]; decide)
          | exact WPc (r_X9_truly hS hA x hx) (by rw [show lstF (fitA a) 0 100 = some 0 from by rw [hL, bq h32]; rfl, nI_add, show cntN (fitA a) 100 - cntN (fitA a) (0 + 1) + 1 = cntN (fitA a) 100 from by have := cntN_t (F := fitA a) (n := 0) (bq h32); have h0 : cntN (fitA a) 0 = 0 := rfl; omega]; rfl) rfl
          | exact WPc (r_X9_truly hS hA x hx) (by rw [show lstF (fitA a) 0 100 = lstF (fitA a) (0 + 1) (99 - 0) from by rw [hL, bI_eq0.mp h32]; rfl, add_0, show cntN (fitA a) 100 - cntN (fitA a) (0 + 1) = cntN (fitA a) 100 from by have := cntN_f (F := fitA a) (n := 0) (bI_eq0.mp h32); have h0 : cntN (fitA a) 0 = 0 := rfl; omega]) rfl
  | succ p ih =>
    intro hp
    have hc1 := cntN_mono (fitA a) ((p + 1) + 1) 100 (by omega)
    have hc2 := cntN_le (fitA a) 100
    refine x_iload (pc' := 22) rfl rfl rfl ?_
    refine x_if_lt (pc' := 25) rfl rfl (fun h22 => absurd h22 (nI_pos (by omega))) (fun h22 => ?_)
    refine x_iload_n (pc' := 26) rfl rfl rfl (x_aload_n (pc' := 27) rfl rfl rfl (x_iload (pc' := 29) rfl rfl rfl (x_invI2 (pc' := 32) rfl rfl rfl rfl (c_X9_isSo hS hA _ (by omega)) ?_)))
    refine x_if_eq (pc' := 35) rfl rfl (fun h32 => ?_) (fun h32 => ?_)
    · refine x_iconst (pc' := 40) rfl rfl (x_iadd (pc' := 41) rfl rfl (x_istore_n2 (pc' := 42) rfl rfl rfl (x_aload_n (pc' := 43) rfl rfl rfl (x_iload (pc' := 45) rfl rfl rfl (x_invI2 (pc' := 48) rfl rfl rfl rfl (c_X9_isSo hS hA _ (by omega)) ?_)))))
      refine x_if_eq (pc' := 51) rfl rfl (fun h48 => ?_) (fun h48 => ?_)
      · refine x_iload_n (pc' := 57) rfl rfl rfl (x_istore_n3 (pc' := 58) rfl rfl rfl (x_iinc4 (pc' := 61) rfl rfl rfl (dec_nI p) (x_goto rfl ?_)))
        have hL : lstF (fitA a) (p + 1) (100 - (p + 1)) = bif fitA a (p + 1) then some (p + 1) else lstF (fitA a) ((p + 1) + 1) (99 - (p + 1)) := by
          rw [show 100 - (p + 1) = 99 - (p + 1) + 1 by omega]; rfl
        first
          | exact absurd (bI_eq0.mp h48) (by rw [bq h32]; decide)
          | exact absurd (bI_eq0.mp h32) (by rw [bq h48]; decide)
          | exact WPc (ih (by omega)) (by rw [show lstF (fitA a) (p + 1) (99 - p) = some (p + 1) from by rw [show 99 - p = 100 - (p + 1) by omega, hL, bq h32]; rfl, nI_add, show cntN (fitA a) 100 - cntN (fitA a) (p + 1 + 1) + 1 = cntN (fitA a) 100 - cntN (fitA a) (p + 1) from by have := cntN_t (F := fitA a) (n := p + 1) (bq h32); omega]; rfl) rfl
          | exact WPc (ih (by omega)) (by rw [show lstF (fitA a) (p + 1) (99 - p) = lstF (fitA a) (p + 1 + 1) (99 - (p + 1)) from by rw [show 99 - p = 100 - (p + 1) by omega, hL, bI_eq0.mp h32]; rfl, add_0, show cntN (fitA a) 100 - cntN (fitA a) (p + 1 + 1) = cntN (fitA a) 100 - cntN (fitA a) (p + 1) from by rw [cntN_f (F := fitA a) (n := p + 1) (bI_eq0.mp h32)]]) rfl
      · refine x_iload (pc' := 53) rfl rfl rfl (x_goto rfl (x_istore_n3 (pc' := 58) rfl rfl rfl (x_iinc4 (pc' := 61) rfl rfl rfl (dec_nI p) (x_goto rfl ?_))))
        have hL : lstF (fitA a) (p + 1) (100 - (p + 1)) = bif fitA a (p + 1) then some (p + 1) else lstF (fitA a) ((p + 1) + 1) (99 - (p + 1)) := by
          rw [show 100 - (p + 1) = 99 - (p + 1) + 1 by omega]; rfl
        first
          | exact absurd (bI_eq0.mp h48) (by rw [bq h32]; decide)
          | exact absurd (bI_eq0.mp h32) (by rw [bq h48]; decide)
          | exact WPc (ih (by omega)) (by rw [show lstF (fitA a) (p + 1) (99 - p) = some (p + 1) from by rw [show 99 - p = 100 - (p + 1) by omega, hL, bq h32]; rfl, nI_add, show cntN (fitA a) 100 - cntN (fitA a) (p + 1 + 1) + 1 = cntN (fitA a) 100 - cntN (fitA a) (p + 1) from by have := cntN_t (F := fitA a) (n := p + 1) (bq h32); omega]; rfl) rfl
          | exact WPc (ih (by omega)) (by rw [show lstF (fitA a) (p + 1) (99 - p) = lstF (fitA a) (p + 1 + 1) (99 - (p + 1)) from by rw [show 99 - p = 100 - (p + 1) by omega, hL, bI_eq0.mp h32]; rfl, add_0, show cntN (fitA a) 100 - cntN (fitA a) (p + 1 + 1) = cntN (fitA a) 100 - cntN (fitA a) (p + 1) from by rw [cntN_f (F := fitA a) (n := p + 1) (bI_eq0.mp h32)]]) rfl
    · refine x_iconst (pc' := 36) rfl rfl (x_goto rfl (x_iadd (pc' := 41) rfl rfl (x_istore_n2 (pc' := 42) rfl rfl rfl (x_aload_n (pc' := 43) rfl rfl rfl (x_iload (pc' := 45) rfl rfl rfl ?_)))))
      refine x_invI2 (pc' := 48) rfl rfl rfl rfl (c_X9_isSo hS hA _ (by omega)) ?_
      refine x_if_eq (pc' := 51) rfl rfl (fun h48 => ?_) (fun h48 => ?_)
      · refine x_iload_n (pc' := 57) rfl rfl rfl (x_istore_n3 (pc' := 58) rfl rfl rfl (x_iinc4 (pc' := 61) rfl rfl rfl (dec_nI p) (x_goto rfl ?_)))
        have hL : lstF (fitA a) (p + 1) (100 - (p + 1)) = bif fitA a (p + 1) then some (p + 1) else lstF (fitA a) ((p + 1) + 1) (99 - (p + 1)) := by
          rw [show 100 - (p + 1) = 99 - (p + 1) + 1 by omega]; rfl
        first
          | exact absurd (bI_eq0.mp h48) (by rw [bq h32]; decide)
          | exact absurd (bI_eq0.mp h32) (by rw [bq h48]; decide)
          | exact WPc (ih (by omega)) (by rw [show lstF (fitA a) (p + 1) (99 - p) = some (p + 1) from by rw [show 99 - p = 100 - (p + 1) by omega, hL, bq h32]; rfl, nI_add, show cntN (fitA a) 100 - cntN (fitA a) (p + 1 + 1) + 1 = cntN (fitA a) 100 - cntN (fitA a) (p + 1) from by have := cntN_t (F := fitA a) (n := p + 1) (bq h32); omega]; rfl) rfl
          | exact WPc (ih (by omega)) (by rw [show lstF (fitA a) (p + 1) (99 - p) = lstF (fitA a) (p + 1 + 1) (99 - (p + 1)) from by rw [show 99 - p = 100 - (p + 1) by omega, hL, bI_eq0.mp h32]; rfl, add_0, show cntN (fitA a) 100 - cntN (fitA a) (p + 1 + 1) = cntN (fitA a) 100 - cntN (fitA a) (p + 1) from by rw [cntN_f (F := fitA a) (n := p + 1) (bI_eq0.mp h32)]]) rfl
      · refine x_iload (pc' := 53) rfl rfl rfl (x_goto rfl (x_istore_n3 (pc' := 58) rfl rfl rfl (x_iinc4 (pc' := 61) rfl rfl rfl (dec_nI p) (x_goto rfl ?_))))
        have hL : lstF (fitA a) (p + 1) (100 - (p + 1)) = bif fitA a (p + 1) then some (p + 1) else lstF (fitA a) ((p + 1) + 1) (99 - (p + 1)) := by
          rw [show 100 - (p + 1) = 99 - (p + 1) + 1 by omega]; rfl
        first
          | exact absurd (bI_eq0.mp h48) (by rw [bq h32]; decide)
          | exact absurd (bI_eq0.mp h32) (by rw [bq h48]; decide)
          | exact WPc (ih (by omega)) (by rw [show lstF (fitA a) (p + 1) (99 - p) = some (p + 1) from by rw [show 99 - p = 100 - (p + 1) by omega, hL, bq h32]; rfl, nI_add, show cntN (fitA a) 100 - cntN (fitA a) (p + 1 + 1) + 1 = cntN (fitA a) 100 - cntN (fitA a) (p + 1) from by have := cntN_t (F := fitA a) (n := p + 1) (bq h32); omega]; rfl) rfl
          | exact WPc (ih (by omega)) (by rw [show lstF (fitA a) (p + 1) (99 - p) = lstF (fitA a) (p + 1 + 1) (99 - (p + 1)) from by rw [show 99 - p = 100 - (p + 1) by omega, hL, bI_eq0.mp h32]; rfl, add_0, show cntN (fitA a) 100 - cntN (fitA a) (p + 1 + 1) = cntN (fitA a) 100 - cntN (fitA a) (p + 1) from by rw [cntN_f (F := fitA a) (n := p + 1) (bI_eq0.mp h32)]]) rfl
set_option maxRecDepth 20000 in
theorem c_X9_truly {l : Launch} {X : XT} {d Lz : Nat} {w : WF} {a : AS} (hS : SeM w a.sn a.se a.sm) (hA : a.sn ≤ 6 ∧ ∀ q, q < a.sn → a.se q < 10 ∧ a.sm q < 100) (x : Nat) (hx : x < 2) : CT l X (d + 2) md_X9_truly [.inr (.inr (9, 0, 0)), .inl (nI x)] (mk Lz w) (some (.inl (if x = 0 then nI (cntN (fitA a) 100) else oI (lstF (fitA a) 0 100)))) (mk Lz w) := by
  show WP l X _ md_X9_truly (0, [some (.inr (.inr (9, 0, 0))), some (.inl (nI x)), none, none, none], [], _) _
  refine x_iload_n (pc' := 1) rfl rfl rfl (x_iconst (pc' := 2) rfl rfl (x_iconst (pc' := 3) rfl rfl (x_invS3 (pc' := 6) rfl rfl rfl rfl rfl rfl (c_X9_in _ _ _) ?_)))
  refine x_if_ne (pc' := 9) rfl rfl (fun h6 => absurd h6 (by rw [show inB (nI x) (nI 0) (nI 1) = true from inB_t (nI_pos (by omega)) (Int32.not_lt.mpr ((nI_leI (by omega) (by decide)).mpr (show x ≤ 1 by omega)))]; decide)) (fun h6 => ?_)
  refine x_iconst (pc' := 13) rfl rfl (x_istore_n2 (pc' := 14) rfl rfl rfl (x_iconst (pc' := 15) rfl rfl (x_istore_n3 (pc' := 16) rfl rfl rfl (x_bipush (pc' := 18) rfl rfl (x_istore4 (pc' := 20) rfl rfl rfl ?_)))))
  exact WPc (l_X9_truly hS hA x hx 99 (by omega)) (by rw [Nat.sub_self]; rfl) rfl
