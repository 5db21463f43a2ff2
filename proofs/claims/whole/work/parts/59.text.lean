/-! a text is read: as such -/
abbrev FS : Type := Nat × Int32
def blm (F : FS) (k p : Nat) : FS := if F.1 = 0 then (k, nI p) else F
theorem blm_0 {F : FS} {k p : Nat} (hk : k ≠ 0) : ¬ (blm F k p).1 = 0 := by
  unfold blm
  by_cases z : F.1 = 0
  · rw [if_pos z]; exact hk
  · rw [if_neg z]; exact z
theorem blm_n {F : FS} {k p : Nat} (h : ¬ F.1 = 0) : blm F k p = F := by unfold blm; rw [if_neg h]
theorem blm_z {F : FS} {k p : Nat} (h : F.1 = 0) : blm F k p = (k, nI p) := by unfold blm; rw [if_pos h]
theorem blm_lt {F : FS} {k p : Nat} (h : F.1 ≤ 3) (hk : k ≤ 3) : (blm F k p).1 ≤ 3 := by
  unfold blm
  by_cases z : F.1 = 0
  · rw [if_pos z]; exact hk
  · rw [if_neg z]; exact h
def sk (t : Nat → Nat) : Nat → Nat → Nat
  | a, 0 => a
  | a, m + 1 => if t a = 32 then sk t (a + 1) m else a
def skp (t : Nat → Nat) (n a : Nat) : Nat := sk t a (n - a)
theorem skp_t {t : Nat → Nat} {n a : Nat} (h : a < n) (h2 : t a = 32) : skp t n a = skp t n (a + 1) := by
  unfold skp
  rw [show n - a = n - (a + 1) + 1 by omega]
  show (if t a = 32 then _ else _) = _
  rw [if_pos h2]
theorem skp_f {t : Nat → Nat} {n a : Nat} (h2 : ¬ t a = 32) : skp t n a = a := by
  unfold skp
  cases n - a with
  | zero => rfl
  | succ m =>
    show (if t a = 32 then _ else _) = _
    rw [if_neg h2]
theorem skp_e {t : Nat → Nat} {n a : Nat} (h : n ≤ a) : skp t n a = a := by
  unfold skp
  rw [show n - a = 0 by omega]; rfl
theorem sk_b (t : Nat → Nat) : ∀ m a, a ≤ sk t a m ∧ sk t a m ≤ a + m ∧ (sk t a m < a + m → ¬ t (sk t a m) = 32)
  | 0, a => ⟨Nat.le_refl a, Nat.le_refl a, fun h => absurd h (Nat.lt_irrefl a)⟩
  | m + 1, a => by
    show a ≤ (if t a = 32 then sk t (a + 1) m else a) ∧ (if t a = 32 then sk t (a + 1) m else a) ≤ a + (m + 1) ∧ ((if t a = 32 then sk t (a + 1) m else a) < a + (m + 1) → ¬ t (if t a = 32 then sk t (a + 1) m else a) = 32)
    by_cases z : t a = 32
    · rw [if_pos z]
      have ih := sk_b t m (a + 1)
      exact ⟨by omega, by omega, fun h => ih.2.2 (by omega)⟩
    · rw [if_neg z]
      exact ⟨Nat.le_refl a, by omega, fun _ => z⟩
theorem skp_b {t : Nat → Nat} {n a : Nat} (h : a ≤ n) : a ≤ skp t n a ∧ skp t n a ≤ n ∧ (skp t n a < n → ¬ t (skp t n a) = 32) := by
  have h1 := sk_b t (n - a) a
  unfold skp
  exact ⟨h1.1, by omega, fun h => h1.2.2 (by omega)⟩
theorem skp_i {t : Nat → Nat} {n a : Nat} (h : a ≤ n) : skp t n (skp t n a) = skp t n a := by
  have h1 := skp_b (t := t) h
  by_cases z : skp t n a < n
  · exact skp_f (h1.2.2 z)
  · exact skp_e (by omega)
def fg (c : Nat) : Bool := decide (48 ≤ c) && decide (c ≤ 57)
theorem fg_t {c : Nat} (h : fg c = true) : 48 ≤ c ∧ c ≤ 57 := by
  unfold fg at h
  simp only [Bool.and_eq_true, decide_eq_true_eq] at h
  exact h
def fe (t : Nat → Nat) : Nat → Nat → Nat
  | a, 0 => a
  | a, m + 1 => bif fg (t a) then fe t (a + 1) m else a
def fnd (t : Nat → Nat) (n a : Nat) : Nat := fe t a (n - a)
theorem fnd_t {t : Nat → Nat} {n a : Nat} (h : a < n) (h2 : fg (t a) = true) : fnd t n a = fnd t n (a + 1) := by
  unfold fnd
  rw [show n - a = n - (a + 1) + 1 by omega]
  show (bif fg (t a) then _ else _) = _
  rw [h2]; rfl
theorem fnd_f {t : Nat → Nat} {n a : Nat} (h2 : fg (t a) = false) : fnd t n a = a := by
  unfold fnd
  cases n - a with
  | zero => rfl
  | succ m =>
    show (bif fg (t a) then _ else _) = _
    rw [h2]; rfl
theorem fnd_e {t : Nat → Nat} {n a : Nat} (h : n ≤ a) : fnd t n a = a := by
  unfold fnd
  rw [show n - a = 0 by omega]; rfl
theorem fe_b (t : Nat → Nat) : ∀ m a, a ≤ fe t a m ∧ fe t a m ≤ a + m
  | 0, a => ⟨Nat.le_refl a, Nat.le_refl a⟩
  | m + 1, a => by
    show a ≤ (bif fg (t a) then fe t (a + 1) m else a) ∧ (bif fg (t a) then fe t (a + 1) m else a) ≤ a + (m + 1)
    have ih := fe_b t m (a + 1)
    cases fg (t a)
    · exact ⟨Nat.le_refl a, by show a ≤ a + (m + 1); omega⟩
    · exact ⟨by show a ≤ fe t (a + 1) m; omega, by show fe t (a + 1) m ≤ a + (m + 1); omega⟩
theorem fnd_b {t : Nat → Nat} {n a : Nat} (h : a ≤ n) : a ≤ fnd t n a ∧ fnd t n a ≤ n := by
  have h1 := fe_b t (n - a) a
  unfold fnd
  exact ⟨h1.1, by omega⟩
def vl (t : Nat → Nat) (a : Nat) : Nat → Nat
  | 0 => 0
  | k + 1 => vl t a k * 10 + (t (a + k) - 48)
theorem vl_le {t : Nat → Nat} {a : Nat} : ∀ k, (∀ i, i < k → t (a + i) ≤ 57) → vl t a k < 10 ^ k
  | 0, _ => by show (0 : Nat) < 1; omega
  | k + 1, h => by
    have ih := vl_le k (fun i hi => h i (by omega))
    have h1 := h k (by omega)
    show vl t a k * 10 + (t (a + k) - 48) < 10 ^ (k + 1)
    rw [Nat.pow_succ]
    omega
/-- a number is read -/
def nmA (t : Nat → Nat) (n at' : Nat) (F : FS) (lo hi : Nat) : Nat × Nat × FS := if skp t n at' < n ∧ fg (t (skp t n at')) = true then (vl t (skp t n at') (min (fnd t n (skp t n at') - skp t n at') 3), fnd t n (skp t n at'), if fnd t n (skp t n at') - skp t n at' ≤ 3 ∧ lo ≤ vl t (skp t n at') (min (fnd t n (skp t n at') - skp t n at') 3) ∧ vl t (skp t n at') (min (fnd t n (skp t n at') - skp t n at') 3) ≤ hi then F else blm F 2 (skp t n at')) else (lo, skp t n at', blm F 1 (skp t n at'))
theorem nmA_at {t : Nat → Nat} {n a : Nat} {F : FS} {lo hi : Nat} (h : a ≤ n) : a ≤ (nmA t n a F lo hi).2.1 ∧ (nmA t n a F lo hi).2.1 ≤ n := by
  have h1 := skp_b (t := t) h
  have h2 := fnd_b (t := t) h1.2.1
  unfold nmA
  split
  · exact ⟨by show a ≤ fnd t n (skp t n a); omega, h2.2⟩
  · exact ⟨h1.1, h1.2.1⟩
theorem nmA_ok {t : Nat → Nat} {n a : Nat} {F : FS} {lo hi : Nat} (h : (nmA t n a F lo hi).2.2.1 = 0) : F.1 = 0 ∧ lo ≤ (nmA t n a F lo hi).1 ∧ (nmA t n a F lo hi).1 ≤ hi ∧ (nmA t n a F lo hi).2.2 = F := by
  unfold nmA at h ⊢
  by_cases z : skp t n a < n ∧ fg (t (skp t n a)) = true
  · rw [if_pos z] at h ⊢
    by_cases y : fnd t n (skp t n a) - skp t n a ≤ 3 ∧ lo ≤ vl t (skp t n a) (min (fnd t n (skp t n a) - skp t n a) 3) ∧ vl t (skp t n a) (min (fnd t n (skp t n a) - skp t n a) 3) ≤ hi
    · simp only [if_pos y] at h ⊢
      exact ⟨h, y.2.1, y.2.2, trivial⟩
    · simp only [if_neg y] at h
      exact absurd h (blm_0 (by decide))
  · rw [if_neg z] at h
    exact absurd h (blm_0 (by decide))
theorem nmA_3 {t : Nat → Nat} {n a : Nat} {F : FS} {lo hi : Nat} (h : F.1 ≤ 3) : (nmA t n a F lo hi).2.2.1 ≤ 3 := by
  unfold nmA
  split
  · show (if _ then F else blm F 2 _).1 ≤ 3
    split
    · exact h
    · exact blm_lt h (by decide)
  · exact blm_lt h (by decide)
theorem nmA_n {t : Nat → Nat} {n a : Nat} {F : FS} {lo hi : Nat} (h : ¬ F.1 = 0) : (nmA t n a F lo hi).2.2 = F := by
  unfold nmA
  split
  · show (if _ then F else blm F 2 _) = F
    split
    · rfl
    · exact blm_n h
  · exact blm_n h
abbrev Dr : Type := Int32 × Nat × Nat × Nat × Nat × (Nat → Nat) × (Nat → Nat) × (Nat → Nat) × (Nat → Nat)
def Dr.lw (D : Dr) : Int32 := D.1
def Dr.tm (D : Dr) : Nat := D.2.1
def Dr.np (D : Dr) : Nat := D.2.2.1
def Dr.nt (D : Dr) : Nat := D.2.2.2.1
def Dr.no (D : Dr) : Nat := D.2.2.2.2.1
def Dr.g (D : Dr) : Nat → Nat := D.2.2.2.2.2.1
def Dr.dr (D : Dr) : Nat → Nat := D.2.2.2.2.2.2.1
def Dr.kd (D : Dr) : Nat → Nat := D.2.2.2.2.2.2.2.1
def Dr.ok (D : Dr) : Nat → Nat := D.2.2.2.2.2.2.2.2
def D0 : Dr := (-1, 0, 0, 0, 0, fun _ => 0, fun _ => 0, fun _ => 0, fun _ => 0)
def Dr.setL (D : Dr) (l m : Nat) : Dr := (nI l, m, D.2.2)
def Dr.setG (D : Dr) (q v : Nat) : Dr := (D.1, D.2.1, D.2.2.1, D.2.2.2.1, D.2.2.2.2.1, (fun i => if i = q then v else D.g i), D.2.2.2.2.2.2)
def Dr.addP (D : Dr) (v : Nat) : Dr := (D.1, D.2.1, D.np + 1, D.2.2.2.1, D.2.2.2.2.1, D.2.2.2.2.2.1, (fun i => if i = D.np then v else D.dr i), D.2.2.2.2.2.2.2)
def Dr.addT (D : Dr) (v : Nat) : Dr := (D.1, D.2.1, D.2.2.1, D.nt + 1, D.2.2.2.2.1, D.2.2.2.2.2.1, D.2.2.2.2.2.2.1, (fun i => if i = D.nt then v else D.kd i), D.2.2.2.2.2.2.2.2)
def Dr.addO (D : Dr) (v : Nat) : Dr := (D.1, D.2.1, D.2.2.1, D.2.2.2.1, D.no + 1, D.2.2.2.2.2.1, D.2.2.2.2.2.2.1, D.2.2.2.2.2.2.2.1, (fun i => if i = D.no then v else D.ok i))
abbrev PS : Type := Nat × FS × Dr
/-- what kinds of clauses say -/
def lawP (t : Nat → Nat) (n : Nat) (P : PS) : PS := ((nmA t n (nmA t n P.1 P.2.1 0 2).2.1 (nmA t n P.1 P.2.1 0 2).2.2 1 9).2.1, (nmA t n (nmA t n P.1 P.2.1 0 2).2.1 (nmA t n P.1 P.2.1 0 2).2.2 1 9).2.2, P.2.2.setL (nmA t n P.1 P.2.1 0 2).1 (nmA t n (nmA t n P.1 P.2.1 0 2).2.1 (nmA t n P.1 P.2.1 0 2).2.2 1 9).1)
def perL (t : Nat → Nat) (n : Nat) (P : PS) : Nat → PS
  | 0 => P
  | k + 1 => ((nmA t n (perL t n P k).1 (perL t n P k).2.1 0 9).2.1, (nmA t n (perL t n P k).1 (perL t n P k).2.1 0 9).2.2, (perL t n P k).2.2.setG (P.2.2.np * 3 + k) (nmA t n (perL t n P k).1 (perL t n P k).2.1 0 9).1)
def perP (t : Nat → Nat) (n : Nat) (P : PS) : PS := ((nmA t n (perL t n P 3).1 (perL t n P 3).2.1 0 9).2.1, (nmA t n (perL t n P 3).1 (perL t n P 3).2.1 0 9).2.2, (perL t n P 3).2.2.addP (nmA t n (perL t n P 3).1 (perL t n P 3).2.1 0 9).1)
def offP (t : Nat → Nat) (n : Nat) (P : PS) : PS := ((nmA t n P.1 P.2.1 0 2).2.1, (nmA t n P.1 P.2.1 0 2).2.2, P.2.2.addO (nmA t n P.1 P.2.1 0 2).1)
/-- one turn -/
def tur1 (t : Nat → Nat) (n : Nat) (P : PS) : PS := ((nmA t n P.1 P.2.1 0 2).2.1, (nmA t n P.1 P.2.1 0 2).2.2, P.2.2.addT (nmA t n P.1 P.2.1 0 2).1)
def nxt (t : Nat → Nat) (n a c : Nat) : Bool := decide (skp t n a < n) && decide (t (skp t n a) = c)
def turP (t : Nat → Nat) (n : Nat) : Nat → PS → PS
  | 0, P => P
  | f + 1, P => bif decide ((tur1 t n P).2.2.nt < 12) && nxt t n (tur1 t n P).1 44 then turP t n f (skp t n (tur1 t n P).1 + 1, (tur1 t n P).2) else (skp t n (tur1 t n P).1, (tur1 t n P).2)
def sgnP (t : Nat → Nat) (n : Nat) (P : PS) : PS := bif nxt t n P.1 59 then (skp t n P.1 + 1, P.2) else (skp t n P.1, blm P.2.1 1 (skp t n P.1), P.2.2)
def whyW (c : Nat) (D : Dr) : Nat := if c = 107 then (if D.lw = -1 then 0 else 3) else if D.lw = -1 then 1 else if c = 112 then (if D.np < 7 then 0 else 3) else if c = 100 then (if D.nt < 1 then 0 else 3) else if c = 111 then (if D.no < 4 then 0 else 3) else 1
def bodP (t : Nat → Nat) (n c : Nat) (P : PS) : PS := if c = 107 then lawP t n P else if c = 112 then perP t n P else if c = 100 then turP t n 12 P else offP t n P
/-- a clause, its word at P.1 -/
def claP (t : Nat → Nat) (n : Nat) (P : PS) : PS := if whyW (t P.1) P.2.2 = 0 then sgnP t n (bodP t n (t P.1) (P.1 + 1, P.2)) else (P.1, blm P.2.1 (whyW (t P.1) P.2.2) P.1, P.2.2)
/-- clauses; P.1 is no blank -/
def lopP (t : Nat → Nat) (n : Nat) : Nat → PS → PS
  | 0, P => P
  | f + 1, P => if P.1 < n ∧ P.2.1.1 = 0 then lopP t n f (skp t n (claP t n P).1, (claP t n P).2) else P
/-! the object reads -/
def TS (w : WF) (n : Nat) (t : Nat → Nat) (a : Nat) (F : FS) : Prop := w 7 0 0 1 = nI n ∧ (∀ q, q < n → w 7 0 1 q = nI (t q)) ∧ w 7 0 0 2 = nI a ∧ w 7 0 0 3 = nI F.1 ∧ w 7 0 0 4 = F.2
def frX (w w' : WF) : Prop := ∀ c i o q, ¬ (c = 7 ∧ i = 0 ∧ o = 0 ∧ 2 ≤ q) → w' c i o q = w c i o q
theorem frX.rf (w : WF) : frX w w := fun _ _ _ _ _ => rfl
theorem frX.tr {a b c : WF} (h : frX a b) (h2 : frX b c) : frX a c := fun x i o q hq => (h2 x i o q hq).trans (h x i o q hq)
theorem frX.u {a b : WF} (h : frX a b) (k : Nat) (hk : 2 ≤ k) (v : Int32) : frX a (u4 b 7 0 0 k v) := fun c i o q hq => by
  have e : u4 b 7 0 0 k v c i o q = b c i o q := by unfold u4; rw [if_neg (by omega)]
  rw [e]; exact h c i o q hq
theorem TS_at {w : WF} {n : Nat} {t : Nat → Nat} {a b : Nat} {F : FS} (h : TS w n t a F) : TS (u4 w 7 0 0 2 (nI b)) n t b F := by
  obtain ⟨h1, h2, h3, h4, h5⟩ := h
  exact ⟨by rw [u4_k (by omega)]; exact h1, fun q hq => by rw [u4_ne (by decide)]; exact h2 q hq, u4_self _ _ _ _ _ _, by rw [u4_k (by omega)]; exact h4, by rw [u4_k (by omega)]; exact h5⟩
theorem fg_B {c : Nat} (hc : c < 256) : inB (nI c) (nI 48) (nI 57) = fg c := by
  have h : ∀ c, c < 256 → inB (nI c) (nI 48) (nI 57) = fg c := by decide +kernel
  exact h c hc
set_option maxRecDepth 20000 in
theorem l_X7_skipBlanks {l : Launch} {X : XT} {d Lz : Nat} {w : Nat → Nat → Nat → Nat → Int32} {n : Nat} {t : Nat → Nat} {F : FS} (hn : n ≤ 240) (ht : ∀ q, q < n → t q < 256) (a0 : Nat) : ∀ (kk a : Nat), ∀ (wn : WF), TS wn n t a F → frX w wn → skp t n a = skp t n a0 →  a ≤ n → n + 1 ≤ a + kk → WP l X (d + 1) md_X7_skipBlanks (0, [some (.inr (.inr (7, 0, 0)))], [], mk Lz wn) (fun v M' => v = none ∧ ∃ w', M' = mk Lz w' ∧ TS w' n t (skp t n a0) (F) ∧ frX w w') := by
  intro kk
  induction kk with
  | zero =>
    intro a wn hi hf hs h1 h2
    exact absurd h2 (by omega)
  | succ kk ih =>
    intro a wn hi hf hs hi1 hi2
    refine x_aload_n (pc' := 1) rfl rfl rfl (x_getI (pc' := 4) rfl rfl rfl ?_)
    rw [hi.2.2.1]
    refine x_aload_n (pc' := 5) rfl rfl rfl (x_getI (pc' := 8) rfl rfl rfl ?_)
    rw [hi.1]
    refine x_icmp_geN (pc' := 11) rfl rfl (by omega) (by omega) (fun h8 => ?_) (fun h8 => ?_)
    · refine x_vret rfl rfl ?_
      exact ⟨rfl, _, rfl, by rw [← hs, skp_e h8]; exact hi, hf⟩
    · have hb := ht a h8
      refine x_aload_n (pc' := 12) rfl rfl rfl (x_getR (pc' := 15) (t := (7, _, 1)) rfl rfl rfl (x_aload_n (pc' := 16) rfl rfl rfl (x_getI (pc' := 19) rfl rfl rfl ?_)))
      rw [hi.2.2.1]
      refine x_iald (pc' := 20) (N := 240) rfl rfl rfl rfl (by first | assumption | omega) (by decide) ?_
      rw [hi.2.1 _ h8]
      refine x_bipush (pc' := 22) rfl rfl ?_
      refine x_icmp_neN (pc' := 25) rfl rfl (by omega) (by omega) (fun h22 => ?_) (fun h22 => ?_)
      · refine x_aload_n (pc' := 26) rfl rfl rfl (x_dup (pc' := 27) rfl rfl rfl (x_getI (pc' := 30) rfl rfl rfl ?_))
        rw [hi.2.2.1]
        refine x_iconst (pc' := 31) rfl rfl (x_iaddN (pc' := 32) rfl rfl (x_putI (pc' := 35) rfl rfl rfl (x_goto rfl ?_)))
        exact ih (a + 1) _ (TS_at hi) (hf.u 2 (by omega) _) (by rw [← skp_t h8 h22]; exact hs) (by omega) (by omega)
      · refine x_vret rfl rfl ?_
        exact ⟨rfl, _, rfl, by rw [← hs, skp_f h22]; exact hi, hf⟩
set_option maxRecDepth 20000 in
theorem c_X7_skipBlanks {l : Launch} {X : XT} {d Lz : Nat} {w : Nat → Nat → Nat → Nat → Int32} {n : Nat} {t : Nat → Nat} {F : FS} (hn : n ≤ 240) (ht : ∀ q, q < n → t q < 256) (a : Nat) (ha : a ≤ n) (h : TS w n t a F) : WP l X (d + 1) md_X7_skipBlanks (en md_X7_skipBlanks [.inr (.inr (7, 0, 0))] (mk Lz w)) (fun v M' => v = none ∧ ∃ w', M' = mk Lz w' ∧ TS w' n t (skp t n a) (F) ∧ frX w w') := by
  show WP l X _ md_X7_skipBlanks (0, [some (.inr (.inr (7, 0, 0)))], [], _) _
  exact l_X7_skipBlanks hn ht a (n + 1) a w h (frX.rf w) rfl ha (by omega)
set_option maxRecDepth 20000 in
theorem c_X7_isFigure {l : Launch} {X : XT} {d : Nat} {M : Mem} (c : Nat) (hc : c < 256) : CT l X (d + 1) md_X7_isFigure [.inl (nI c)] (M) (some (.inl (bI (fg c)))) (M) := by
  show WP l X _ md_X7_isFigure (0, [some (.inl (nI c))], [], _) _
  refine x_iload_n (pc' := 1) rfl rfl rfl (x_bipush (pc' := 3) rfl rfl ?_)
  refine x_icmp_lt (pc' := 6) rfl rfl (fun h3 => ?_) (fun h3 => ?_)
  · refine x_iconst (pc' := 17) rfl rfl ?_
    refine x_zret rfl rfl (by decide) ?_
    exact rI (by rw [← fg_B hc]; first | exact (bI_t (inB_t h3 h9)).symm | exact (bI_f (inB_f1 h3)).symm | exact (bI_f (inB_f2 h9)).symm)
  · refine x_iload_n (pc' := 7) rfl rfl rfl (x_bipush (pc' := 9) rfl rfl ?_)
    refine x_icmp_gt (pc' := 12) rfl rfl (fun h9 => ?_) (fun h9 => ?_)
    · refine x_iconst (pc' := 17) rfl rfl ?_
      refine x_zret rfl rfl (by decide) ?_
      exact rI (by rw [← fg_B hc]; first | exact (bI_t (inB_t h3 h9)).symm | exact (bI_f (inB_f1 h3)).symm | exact (bI_f (inB_f2 h9)).symm)
    · refine x_iconst (pc' := 13) rfl rfl (x_goto rfl ?_)
      refine x_zret rfl rfl (by decide) ?_
      exact rI (by rw [← fg_B hc]; first | exact (bI_t (inB_t h3 h9)).symm | exact (bI_f (inB_f1 h3)).symm | exact (bI_f (inB_f2 h9)).symm)
theorem zF {n : Nat} (h : nI n = 0) (h3 : n ≤ 3) : n = 0 := z0 h (by omega)
set_option maxRecDepth 20000 in
theorem c_X7_blame {l : Launch} {X : XT} {d Lz : Nat} {w : Nat → Nat → Nat → Nat → Int32} {n : Nat} {t : Nat → Nat} {F : FS} (a k p : Nat) (h : TS w n t a F) (hF3 : F.1 ≤ 3) : WP l X (d + 1) md_X7_blame (en md_X7_blame [.inr (.inr (7, 0, 0)), .inl (nI k), .inl (nI p)] (mk Lz w)) (fun v M' => v = none ∧ ∃ w', M' = mk Lz w' ∧ TS w' n t (a) (blm F k p) ∧ frX w w') := by
  show WP l X _ md_X7_blame (0, [some (.inr (.inr (7, 0, 0))), some (.inl (nI k)), some (.inl (nI p))], [], _) _
  refine x_aload_n (pc' := 1) rfl rfl rfl (x_getI (pc' := 4) rfl rfl rfl ?_)
  rw [h.2.2.2.1]
  refine x_if_ne (pc' := 7) rfl rfl (fun h4z => ?_) (fun h4z => ?_)
  · refine x_aload_n (pc' := 8) rfl rfl rfl (x_iload_n (pc' := 9) rfl rfl rfl (x_putI (pc' := 12) rfl rfl rfl (x_aload_n (pc' := 13) rfl rfl rfl (x_iload_n (pc' := 14) rfl rfl rfl (x_putI (pc' := 17) rfl rfl rfl ?_)))))
    refine x_vret rfl rfl ?_
    obtain ⟨h1, h2, h3, h4, h5⟩ := h
    have hF := zF h4z hF3
    rw [blm_z hF]
    exact ⟨rfl, _, rfl, ⟨by rw [u4_k (by omega), u4_k (by omega)]; exact h1, fun q hq => by rw [u4_ne (by decide), u4_ne (by decide)]; exact h2 q hq, by rw [u4_k (by omega), u4_k (by omega)]; exact h3, by rw [u4_k (by omega), u4_self], u4_self _ _ _ _ _ _⟩, ((frX.rf w).u 3 (by omega) _).u 4 (by omega) _⟩
  · refine x_vret rfl rfl ?_
    rw [blm_n (fun e => h4z (by rw [e]; rfl))]
    exact ⟨rfl, _, rfl, h, frX.rf w⟩
theorem nm_pos {t : Nat → Nat} {n at' a b lo hi : Nat} {F : FS} (ha : skp t n at' = a) (han : a < n) (hfa : fg (t a) = true) (hb : fnd t n a = b) : nmA t n at' F lo hi = (vl t a (min (b - a) 3), b, if b - a ≤ 3 ∧ lo ≤ vl t a (min (b - a) 3) ∧ vl t a (min (b - a) 3) ≤ hi then F else blm F 2 a) := by
  unfold nmA
  rw [ha, hb, if_pos ⟨han, hfa⟩]
theorem nm_neg {t : Nat → Nat} {n at' a lo hi : Nat} {F : FS} (ha : skp t n at' = a) (h : ¬ (a < n ∧ fg (t a) = true)) : nmA t n at' F lo hi = (lo, a, blm F 1 a) := by
  unfold nmA
  rw [ha, if_neg h]
set_option maxRecDepth 20000 in
theorem r_X7_readNumber {l : Launch} {X : XT} {d Lz : Nat} {w : Nat → Nat → Nat → Nat → Int32} {n : Nat} {t : Nat → Nat} {F : FS} (hn : n ≤ 240) (ht : ∀ q, q < n → t q < 256) (at' lo hi : Nat) (hat : at' ≤ n) (hlo : lo ≤ 9) (hhi : hi ≤ 9) (hF3 : F.1 ≤ 3) (a : Nat) (ha : skp t n at' = a) (han : a < n) (hfa : fg (t a) = true) (b : Nat) (hb : fnd t n a = b) (hab : a ≤ b) (hbn : b ≤ n) (hv : vl t a (min (b - a) 3) < 1000) (wn : WF) (hT2 : TS wn n t b F) (hf : frX w wn) : WP l X (d + 2) md_X7_readNumber (123, [some (.inr (.inr (7, 0, 0))), some (.inl (nI lo)), some (.inl (nI hi)), some (.inl (nI a)), some (.inl (nI (vl t a (min (b - a) 3))))], [], mk Lz wn) (fun v M' => v = some (.inl (nI (nmA t n at' F lo hi).1)) ∧ ∃ w', M' = mk Lz w' ∧ TS w' n t (nmA t n at' F lo hi).2.1 (nmA t n at' F lo hi).2.2 ∧ frX w w') := by
  rw [nm_pos ha han hfa hb]
  refine x_aload_n (pc' := 124) rfl rfl rfl (x_getI (pc' := 127) rfl rfl rfl ?_)
  rw [hT2.2.2.1]
  refine x_iload_n (pc' := 128) rfl rfl rfl (x_isubN (pc' := 129) rfl rfl (by first | assumption | omega) (x_iconst (pc' := 130) rfl rfl ?_))
  refine x_icmp_gtN (pc' := 133) rfl rfl (by omega) (by omega) (fun h130 => ?_) (fun h130 => ?_)
  · refine x_aload_n (pc' := 146) rfl rfl rfl (x_iconst (pc' := 147) rfl rfl (x_iload_n (pc' := 148) rfl rfl rfl (x_invQ3 (pc' := 151) rfl rfl rfl rfl rfl (c_X7_blame b 2 a hT2 hF3) (fun vq Mq hq148 => ?_))))
    obtain ⟨rfl, w2, rfl, h2, hf2⟩ := hq148
    show WP l X _ md_X7_readNumber (151, _, [], _) _
    refine x_iload (pc' := 153) rfl rfl rfl ?_
    refine x_iret rfl rfl ?_
    exact ⟨rfl, _, rfl, by rw [if_neg (by omega)]; exact h2, hf.tr hf2⟩
  · refine x_iload (pc' := 135) rfl rfl rfl (x_iload_n (pc' := 136) rfl rfl rfl ?_)
    refine x_icmp_ltN (pc' := 139) rfl rfl (by omega) (by omega) (fun h136 => ?_) (fun h136 => ?_)
    · refine x_aload_n (pc' := 146) rfl rfl rfl (x_iconst (pc' := 147) rfl rfl (x_iload_n (pc' := 148) rfl rfl rfl (x_invQ3 (pc' := 151) rfl rfl rfl rfl rfl (c_X7_blame b 2 a hT2 hF3) (fun vq Mq hq148 => ?_))))
      obtain ⟨rfl, w2, rfl, h2, hf2⟩ := hq148
      show WP l X _ md_X7_readNumber (151, _, [], _) _
      refine x_iload (pc' := 153) rfl rfl rfl ?_
      refine x_iret rfl rfl ?_
      exact ⟨rfl, _, rfl, by rw [if_neg (by omega)]; exact h2, hf.tr hf2⟩
    · refine x_iload (pc' := 141) rfl rfl rfl (x_iload_n (pc' := 142) rfl rfl rfl ?_)
      refine x_icmp_leN (pc' := 145) rfl rfl (by omega) (by omega) (fun h142 => ?_) (fun h142 => ?_)
      · refine x_iload (pc' := 153) rfl rfl rfl ?_
        refine x_iret rfl rfl ?_
        exact ⟨rfl, _, rfl, by rw [if_pos (by omega)]; exact hT2, hf⟩
      · refine x_aload_n (pc' := 146) rfl rfl rfl (x_iconst (pc' := 147) rfl rfl (x_iload_n (pc' := 148) rfl rfl rfl (x_invQ3 (pc' := 151) rfl rfl rfl rfl rfl (c_X7_blame b 2 a hT2 hF3) (fun vq Mq hq148 => ?_))))
        obtain ⟨rfl, w2, rfl, h2, hf2⟩ := hq148
        show WP l X _ md_X7_readNumber (151, _, [], _) _
        refine x_iload (pc' := 153) rfl rfl rfl ?_
        refine x_iret rfl rfl ?_
        exact ⟨rfl, _, rfl, by rw [if_neg (by omega)]; exact h2, hf.tr hf2⟩
set_option maxRecDepth 20000 in
theorem l_X7_readNumber {l : Launch} {X : XT} {d Lz : Nat} {w : Nat → Nat → Nat → Nat → Int32} {n : Nat} {t : Nat → Nat} {F : FS} (hn : n ≤ 240) (ht : ∀ q, q < n → t q < 256) (at' lo hi : Nat) (hat : at' ≤ n) (hlo : lo ≤ 9) (hhi : hi ≤ 9) (hF3 : F.1 ≤ 3) (a : Nat) (ha : skp t n at' = a) (han : a < n) (hfa : fg (t a) = true) : ∀ (kk b : Nat), ∀ (wn : WF), TS wn n t b F → frX w wn → fnd t n b = fnd t n a → a ≤ b → vl t a (min (b - a) 3) < 1000 → (∀ i, a ≤ i → i < b → t i ≤ 57) →  b ≤ n → n + 1 ≤ b + kk → WP l X (d + 2) md_X7_readNumber (49, [some (.inr (.inr (7, 0, 0))), some (.inl (nI lo)), some (.inl (nI hi)), some (.inl (nI a)), some (.inl (nI (vl t a (min (b - a) 3))))], [], mk Lz wn) (fun v M' => v = some (.inl (nI (nmA t n at' F lo hi).1)) ∧ ∃ w', M' = mk Lz w' ∧ TS w' n t (nmA t n at' F lo hi).2.1 (nmA t n at' F lo hi).2.2 ∧ frX w w') := by
  intro kk
  induction kk with
  | zero =>
    intro b wn hT2 hf hb hab hv hfs h1 h2
    exact absurd h2 (by omega)
  | succ kk ih =>
    intro b wn hT2 hf hb hab hv hfs hi1 hi2
    refine x_aload_n (pc' := 50) rfl rfl rfl (x_getI (pc' := 53) rfl rfl rfl ?_)
    rw [hT2.2.2.1]
    refine x_aload_n (pc' := 54) rfl rfl rfl (x_getI (pc' := 57) rfl rfl rfl ?_)
    rw [hT2.1]
    refine x_icmp_geN (pc' := 60) rfl rfl (by omega) (by omega) (fun h57 => ?_) (fun h57 => ?_)
    · exact r_X7_readNumber hn ht at' lo hi hat hlo hhi hF3 a ha han hfa b (hb.symm.trans (fnd_e h57)) hab hi1 hv wn hT2 hf
    · refine x_aload_n (pc' := 61) rfl rfl rfl (x_getR (pc' := 64) (t := (7, _, 1)) rfl rfl rfl (x_aload_n (pc' := 65) rfl rfl rfl (x_getI (pc' := 68) rfl rfl rfl ?_)))
      rw [hT2.2.2.1]
      refine x_iald (pc' := 69) (N := 240) rfl rfl rfl rfl (by first | assumption | omega) (by decide) ?_
      rw [hT2.2.1 _ h57]
      refine x_invS1 (pc' := 72) rfl rfl rfl rfl (c_X7_isFigure _ (ht b h57)) ?_
      refine x_if_eq (pc' := 75) rfl rfl (fun h72 => ?_) (fun h72 => ?_)
      · exact r_X7_readNumber hn ht at' lo hi hat hlo hhi hF3 a ha han hfa b (hb.symm.trans (fnd_f (bI_eq0.mp h72))) hab hi1 hv wn hT2 hf
      · have hfb := bq h72
        have hft := fg_t hfb
        refine x_aload_n (pc' := 76) rfl rfl rfl (x_getI (pc' := 79) rfl rfl rfl ?_)
        rw [hT2.2.2.1]
        refine x_iload_n (pc' := 80) rfl rfl rfl (x_isubN (pc' := 81) rfl rfl (by first | assumption | omega) (x_iconst (pc' := 82) rfl rfl ?_))
        refine x_icmp_geN (pc' := 85) rfl rfl (by omega) (by omega) (fun h82 => ?_) (fun h82 => ?_)
        · refine x_iload (pc' := 108) rfl rfl rfl (x_istore4 (pc' := 110) rfl rfl rfl (x_aload_n (pc' := 111) rfl rfl rfl (x_dup (pc' := 112) rfl rfl rfl (x_getI (pc' := 115) rfl rfl rfl ?_))))
          rw [hT2.2.2.1]
          refine x_iconst (pc' := 116) rfl rfl (x_iaddN (pc' := 117) rfl rfl (x_putI (pc' := 120) rfl rfl rfl (x_goto rfl ?_)))
          have hfs2 : ∀ i, a ≤ i → i < b + 1 → t i ≤ 57 := fun i h1 h2 => by
            by_cases z : i = b
            · rw [z]; omega
            · exact hfs i h1 (by omega)
          have e3 : min (b + 1 - a) 3 = min (b - a) 3 := by omega
          refine WPc (ih (b + 1) _ (TS_at hT2) (hf.u 2 (by omega) _) ((fnd_t h57 hfb).symm.trans hb) (by omega) (by rw [e3]; exact hv) hfs2 (by omega) (by omega)) (by rw [e3]) rfl
        · refine x_iload (pc' := 87) rfl rfl rfl (x_bipush (pc' := 89) rfl rfl (x_imulN (pc' := 90) rfl rfl (x_aload_n (pc' := 91) rfl rfl rfl (x_getR (pc' := 94) (t := (7, _, 1)) rfl rfl rfl (x_aload_n (pc' := 95) rfl rfl rfl ?_)))))
          refine x_getI (pc' := 98) rfl rfl rfl ?_
          rw [hT2.2.2.1]
          refine x_iald (pc' := 99) (N := 240) rfl rfl rfl rfl (by first | assumption | omega) (by decide) ?_
          rw [hT2.2.1 _ h57]
          refine x_iaddN (pc' := 100) rfl rfl (x_bipush (pc' := 102) rfl rfl (x_isubN (pc' := 103) rfl rfl (by first | assumption | omega) (x_goto rfl (x_istore4 (pc' := 110) rfl rfl rfl (x_aload_n (pc' := 111) rfl rfl rfl ?_)))))
          refine x_dup (pc' := 112) rfl rfl rfl (x_getI (pc' := 115) rfl rfl rfl ?_)
          rw [hT2.2.2.1]
          refine x_iconst (pc' := 116) rfl rfl (x_iaddN (pc' := 117) rfl rfl (x_putI (pc' := 120) rfl rfl rfl (x_goto rfl ?_)))
          have hfs2 : ∀ i, a ≤ i → i < b + 1 → t i ≤ 57 := fun i h1 h2 => by
            by_cases z : i = b
            · rw [z]; omega
            · exact hfs i h1 (by omega)
          have e3 : min (b + 1 - a) 3 = b - a + 1 := by omega
          have e4 : min (b - a) 3 = b - a := by omega
          have hvl : vl t a (min (b + 1 - a) 3) = vl t a (min (b - a) 3) * 10 + t b - 48 := by
            rw [e3, e4]; show vl t a (b - a) * 10 + (t (a + (b - a)) - 48) = _; rw [show a + (b - a) = b by omega]; omega
          have hvl2 : vl t a (min (b + 1 - a) 3) < 1000 := by
            rw [e3]; exact Nat.lt_of_lt_of_le (vl_le (b - a + 1) (fun i hi => hfs2 (a + i) (by omega) (by omega))) (Nat.pow_le_pow_right (by decide) (show b - a + 1 ≤ 3 by omega))
          refine WPc (ih (b + 1) _ (TS_at hT2) (hf.u 2 (by omega) _) ((fnd_t h57 hfb).symm.trans hb) (by omega) hvl2 hfs2 (by omega) (by omega)) (by rw [hvl]) rfl
set_option maxRecDepth 20000 in
theorem c_X7_readNumber {l : Launch} {X : XT} {d Lz : Nat} {w : Nat → Nat → Nat → Nat → Int32} {n : Nat} {t : Nat → Nat} {F : FS} (hn : n ≤ 240) (ht : ∀ q, q < n → t q < 256) (at' lo hi : Nat) (hat : at' ≤ n) (hlo : lo ≤ 9) (hhi : hi ≤ 9) (hF3 : F.1 ≤ 3) (h : TS w n t at' F) : WP l X (d + 2) md_X7_readNumber (en md_X7_readNumber [.inr (.inr (7, 0, 0)), .inl (nI lo), .inl (nI hi)] (mk Lz w)) (fun v M' => v = some (.inl (nI (nmA t n at' F lo hi).1)) ∧ ∃ w', M' = mk Lz w' ∧ TS w' n t (nmA t n at' F lo hi).2.1 (nmA t n at' F lo hi).2.2 ∧ frX w w') := by
  show WP l X _ md_X7_readNumber (0, [some (.inr (.inr (7, 0, 0))), some (.inl (nI lo)), some (.inl (nI hi)), none, none], [], _) _
  refine x_aload_n (pc' := 1) rfl rfl rfl (x_invQ1 (pc' := 4) rfl rfl rfl (c_X7_skipBlanks hn ht at' hat h) (fun vq Mq hq1 => ?_))
  obtain ⟨rfl, w1, rfl, h1, hf1⟩ := hq1
  have hs := skp_b (t := t) hat
  show WP l X _ md_X7_readNumber (4, _, [], _) _
  refine x_aload_n (pc' := 5) rfl rfl rfl (x_getI (pc' := 8) rfl rfl rfl ?_)
  rw [h1.2.2.1]
  refine x_aload_n (pc' := 9) rfl rfl rfl (x_getI (pc' := 12) rfl rfl rfl ?_)
  rw [h1.1]
  refine x_icmp_geN (pc' := 15) rfl rfl (by omega) (by omega) (fun h12 => ?_) (fun h12 => ?_)
  · refine x_aload_n (pc' := 31) rfl rfl rfl (x_iconst (pc' := 32) rfl rfl (x_aload_n (pc' := 33) rfl rfl rfl (x_getI (pc' := 36) rfl rfl rfl ?_)))
    rw [h1.2.2.1]
    refine x_invQ3 (pc' := 39) rfl rfl rfl rfl rfl (c_X7_blame (skp t n at') 1 (skp t n at') h1 hF3) (fun vq Mq hq36 => ?_)
    obtain ⟨rfl, w2, rfl, h2, hf2⟩ := hq36
    show WP l X _ md_X7_readNumber (39, _, [], _) _
    refine x_iload_n (pc' := 40) rfl rfl rfl ?_
    refine x_iret rfl rfl ?_
    exact ⟨by rw [nm_neg rfl (fun y => by omega)], _, rfl, by rw [nm_neg rfl (fun y => by omega)]; exact h2, hf1.tr hf2⟩
  · refine x_aload_n (pc' := 16) rfl rfl rfl (x_getR (pc' := 19) (t := (7, _, 1)) rfl rfl rfl (x_aload_n (pc' := 20) rfl rfl rfl (x_getI (pc' := 23) rfl rfl rfl ?_)))
    rw [h1.2.2.1]
    refine x_iald (pc' := 24) (N := 240) rfl rfl rfl rfl (by first | assumption | omega) (by decide) ?_
    rw [h1.2.1 _ h12]
    refine x_invS1 (pc' := 27) rfl rfl rfl rfl (c_X7_isFigure _ (ht _ h12)) ?_
    refine x_if_ne (pc' := 30) rfl rfl (fun h27 => ?_) (fun h27 => ?_)
    · refine x_aload_n (pc' := 31) rfl rfl rfl (x_iconst (pc' := 32) rfl rfl (x_aload_n (pc' := 33) rfl rfl rfl (x_getI (pc' := 36) rfl rfl rfl ?_)))
      rw [h1.2.2.1]
      refine x_invQ3 (pc' := 39) rfl rfl rfl rfl rfl (c_X7_blame (skp t n at') 1 (skp t n at') h1 hF3) (fun vq Mq hq36 => ?_)
      obtain ⟨rfl, w2, rfl, h2, hf2⟩ := hq36
      show WP l X _ md_X7_readNumber (39, _, [], _) _
      refine x_iload_n (pc' := 40) rfl rfl rfl ?_
      refine x_iret rfl rfl ?_
      exact ⟨by rw [nm_neg rfl (fun y => by rw [bI_eq0.mp h27] at y; cases y.2)], _, rfl, by rw [nm_neg rfl (fun y => by rw [bI_eq0.mp h27] at y; cases y.2)]; exact h2, hf1.tr hf2⟩
    · refine x_aload_n (pc' := 42) rfl rfl rfl (x_getI (pc' := 45) rfl rfl rfl ?_)
      rw [h1.2.2.1]
      refine x_istore_n3 (pc' := 46) rfl rfl rfl (x_iconst (pc' := 47) rfl rfl (x_istore4 (pc' := 49) rfl rfl rfl ?_))
      exact WPc (l_X7_readNumber hn ht at' lo hi hat hlo hhi hF3 (skp t n at') rfl h12 (bq h27) (n + 1) (skp t n at') w1 h1 hf1 rfl (by omega) (by rw [Nat.sub_self]; show (0 : Nat) < 1000; omega) (fun i g1 g2 => absurd g1 (by omega)) (by omega) (by omega)) (by rw [Nat.sub_self]; rfl) rfl
