/-! a kingdom begins -/
def DV (D : Dr) : Prop := (∀ q, D.kd q < 3) ∧ (∀ q, D.ok q < 3) ∧ (∀ q, D.g q ≤ 9)
/-- without a fault: none was, and numbers are what they may be -/
def OK (P P' : PS) : Prop := P'.2.1.1 = 0 → P'.2.1 = P.2.1 ∧ (DV P.2.2 → DV P'.2.2)
theorem OK.tr {P Q R : PS} (h1 : OK P Q) (h2 : OK Q R) : OK P R := fun h => by
  obtain ⟨a1, a2⟩ := h2 h
  obtain ⟨b1, b2⟩ := h1 (by rw [← a1]; exact h)
  exact ⟨a1.trans b1, fun hv => a2 (b2 hv)⟩
theorem OK_law {t : Nat → Nat} {n : Nat} {P : PS} : OK P (lawP t n P) := fun h => by
  have h1 := nmA_ok (show (nmA t n (nmA t n P.1 P.2.1 0 2).2.1 (nmA t n P.1 P.2.1 0 2).2.2 1 9).2.2.1 = 0 from h)
  have h2 := nmA_ok h1.1
  exact ⟨h1.2.2.2.trans h2.2.2.2, fun hv => hv⟩
theorem OK_gift {t : Nat → Nat} {n q : Nat} {P : PS} : OK P ((nmA t n P.1 P.2.1 0 9).2.1, (nmA t n P.1 P.2.1 0 9).2.2, P.2.2.setG q (nmA t n P.1 P.2.1 0 9).1) := fun h => by
  have h1 := nmA_ok (show (nmA t n P.1 P.2.1 0 9).2.2.1 = 0 from h)
  refine ⟨h1.2.2.2, fun hv => ⟨hv.1, hv.2.1, fun i => ?_⟩⟩
  show (if i = q then _ else P.2.2.g i) ≤ 9
  split
  · exact h1.2.2.1
  · exact hv.2.2 i
theorem OK_perL {t : Nat → Nat} {n : Nat} {P : PS} : ∀ k, OK P (perL t n P k)
  | 0 => fun _ => ⟨rfl, fun h => h⟩
  | k + 1 => OK.tr (OK_perL k) OK_gift
theorem OK_per {t : Nat → Nat} {n : Nat} {P : PS} : OK P (perP t n P) := by
  refine OK.tr (OK_perL (t := t) (n := n) 3) (fun h => ?_)
  have h1 := nmA_ok (show (nmA t n (perL t n P 3).1 (perL t n P 3).2.1 0 9).2.2.1 = 0 from h)
  exact ⟨h1.2.2.2, fun hv => hv⟩
theorem OK_off {t : Nat → Nat} {n : Nat} {P : PS} : OK P (offP t n P) := fun h => by
  have h1 := nmA_ok (show (nmA t n P.1 P.2.1 0 2).2.2.1 = 0 from h)
  refine ⟨h1.2.2.2, fun hv => ⟨hv.1, fun i => ?_, hv.2.2⟩⟩
  show (if i = P.2.2.no then _ else P.2.2.ok i) < 3
  split
  · exact Nat.lt_succ_of_le h1.2.2.1
  · exact hv.2.1 i
theorem OK_tur1 {t : Nat → Nat} {n : Nat} {P : PS} : OK P (tur1 t n P) := fun h => by
  have h1 := nmA_ok (show (nmA t n P.1 P.2.1 0 2).2.2.1 = 0 from h)
  refine ⟨h1.2.2.2, fun hv => ⟨fun i => ?_, hv.2.1, hv.2.2⟩⟩
  show (if i = P.2.2.nt then _ else P.2.2.kd i) < 3
  split
  · exact Nat.lt_succ_of_le h1.2.2.1
  · exact hv.1 i
theorem OK_tur {t : Nat → Nat} {n : Nat} : ∀ (f : Nat) (P : PS), OK P (turP t n f P)
  | 0, P => fun _ => ⟨rfl, fun h => h⟩
  | f + 1, P => by
    by_cases z : P.2.2.nt + 1 < 12
    · cases y : nxt t n (tur1 t n P).1 44 with
      | false => rw [turP_f2 y]; exact OK_tur1 (t := t) (n := n) (P := P)
      | true =>
        rw [turP_t z y]
        exact OK.tr (OK_tur1 (t := t) (n := n) (P := P)) (OK_tur f (skp t n (tur1 t n P).1 + 1, (tur1 t n P).2))
    · rw [turP_f1 (by omega)]; exact OK_tur1 (t := t) (n := n) (P := P)
theorem OK_bod {t : Nat → Nat} {n c : Nat} {P : PS} : OK P (bodP t n c P) := by
  unfold bodP
  split
  · exact OK_law
  · split
    · exact OK_per
    · split
      · exact OK_tur 12 P
      · exact OK_off
theorem OK_cla {t : Nat → Nat} {n : Nat} {P : PS} : OK P (claP t n P) := fun h => by
  by_cases z : whyW (t P.1) P.2.2 = 0
  · rw [claP_0 z] at h ⊢
    have h : (sgF t n (bodP t n (t P.1) (P.1 + 1, P.2)).1 (bodP t n (t P.1) (P.1 + 1, P.2)).2.1).1 = 0 := h
    show sgF t n (bodP t n (t P.1) (P.1 + 1, P.2)).1 (bodP t n (t P.1) (P.1 + 1, P.2)).2.1 = P.2.1 ∧ (DV P.2.2 → DV (bodP t n (t P.1) (P.1 + 1, P.2)).2.2)
    unfold sgF at h ⊢
    cases y : nxt t n (bodP t n (t P.1) (P.1 + 1, P.2)).1 59 with
    | false => rw [y] at h; exact absurd h (blm_0 (by decide))
    | true =>
      rw [y] at h
      exact OK_bod (t := t) (n := n) (c := t P.1) (P := (P.1 + 1, P.2)) h
  · unfold claP at h; rw [if_neg z] at h; exact absurd h (blm_0 z)
theorem OK_lop {t : Nat → Nat} {n : Nat} : ∀ (f : Nat) (P : PS), OK P (lopP t n f P)
  | 0, P => fun _ => ⟨rfl, fun h => h⟩
  | f + 1, P => by
    by_cases z : P.1 < n ∧ P.2.1.1 = 0
    · rw [lopP_t z]
      exact OK.tr (OK_cla (t := t) (n := n) (P := P)) (OK_lop f (skp t n (claP t n P).1, (claP t n P).2))
    · rw [lopP_f z]; exact fun _ => ⟨rfl, fun h => h⟩
theorem rdP_ok {t : Nat → Nat} {n : Nat} (h : (rdP t n).2.1.1 = 0) : (rdP t n).2.1.2 = -1 ∧ DV (rdP t n).2.2 := by
  rw [rdP_eq] at h ⊢
  obtain ⟨h1, h2⟩ := OK_lop (t := t) (n := n) 240 (skp t n 0, (0, -1), D0) h
  refine ⟨?_, h2 ⟨fun _ => by show (0 : Nat) < 3; omega, fun _ => by show (0 : Nat) < 3; omega, fun _ => by show (0 : Nat) ≤ 9; omega⟩⟩
  rw [h1]
theorem lopP_B {t : Nat → Nat} {n : Nat} : ∀ (f : Nat) (P : PS), (P.2.2.np ≤ 7 ∧ P.2.2.nt ≤ 12 ∧ P.2.2.no ≤ 4) → ((lopP t n f P).2.2.np ≤ 7 ∧ (lopP t n f P).2.2.nt ≤ 12 ∧ (lopP t n f P).2.2.no ≤ 4)
  | 0, P, h => h
  | f + 1, P, h => by
    by_cases z : P.1 < n ∧ P.2.1.1 = 0
    · rw [lopP_t z]
      exact lopP_B f (skp t n (claP t n P).1, (claP t n P).2) (claP_B h)
    · rw [lopP_f z]; exact h
theorem rdP_B (t : Nat → Nat) (n : Nat) : (rdP t n).2.2.np ≤ 7 ∧ (rdP t n).2.2.nt ≤ 12 ∧ (rdP t n).2.2.no ≤ 4 := by
  rw [rdP_eq]; exact lopP_B 240 _ (show 0 ≤ 7 ∧ 0 ≤ 12 ∧ 0 ≤ 4 by decide)
def kgD (D : Dr) : Kg := (D.lw, nI D.tm, D.np, D.no, D.nt, (fun q => nI (D.dr q)), D.ok, D.kd)
def s0D (D : Dr) : Sa := ((fun q => if q < D.np * 3 then nI (D.g q) else nI 0), (fun _ => nI 5), (fun _ => nI 0), (fun _ => nI 0), (fun _ => -1), nI 0, 0, 0, (fun _ _ => 0))
def AS.flt (a : AS) (f : Int32) : AS := (a.K, a.s, (a.n, a.pa), (a.kp, a.im, a.is), a.sd, (a.sn, a.se, a.sm), (a.bn, a.bo, a.bh), (0, a.tx), f)
def AS.beg (a : AS) (D : Dr) : AS := (kgD D, s0D D, (0, a.pa), ((fun _ => false), a.im, a.is), a.sd, (0, a.se, a.sm), (0, a.bo, a.bh), (0, a.tx), -1)
noncomputable def f_kingdom (a : AS) : Int32 × AS := if (rdP a.tx a.tn).2.1.1 = 0 then (nI (rdP a.tx a.tn).2.2.np, a.beg (rdP a.tx a.tn).2.2) else (-10 - nI (rdP a.tx a.tn).2.1.1, a.flt (rdP a.tx a.tn).2.1.2)
theorem king_V {a : AS} (h : AVl a) : AVl (f_kingdom a).2 := by
  unfold f_kingdom
  obtain ⟨v1, v2, v3, v4, v5, v6, v7, v8⟩ := h
  by_cases z : (rdP a.tx a.tn).2.1.1 = 0
  · rw [if_pos z]
    have hB := rdP_B a.tx a.tn
    have hD := (rdP_ok z).2
    refine ⟨⟨hB.1, hB.2.2, hB.2.1, hD.1, hD.2.1⟩, ⟨⟨Or.inl rfl, fun q hq => ?_, Nat.le_refl _⟩, Nat.zero_le _⟩, ⟨Nat.zero_le _, fun m hm => absurd hm (Nat.not_lt_zero m)⟩, fun i hi hk => absurd hk Bool.false_ne_true, v5, ⟨Nat.zero_le _, fun q hq => absurd hq (Nat.not_lt_zero q)⟩, ⟨Nat.zero_le _, fun q hq => absurd hq (Nat.not_lt_zero q)⟩, ⟨Nat.zero_le _, fun q hq => absurd hq (Nat.not_lt_zero q)⟩⟩
    show ∃ v, v ≤ 9 ∧ (if q < (rdP a.tx a.tn).2.2.np * 3 then nI ((rdP a.tx a.tn).2.2.g q) else nI 0) = nI v
    by_cases y : q < (rdP a.tx a.tn).2.2.np * 3
    · exact ⟨_, hD.2.2 q, by rw [if_pos y]⟩
    · exact ⟨0, by omega, by rw [if_neg y]⟩
  · rw [if_neg z]
    exact ⟨v1, v2, v3, v4, v5, v6, v7, ⟨Nat.zero_le _, fun q hq => absurd hq (Nat.not_lt_zero q)⟩⟩
set_option maxRecDepth 20000 in
theorem l2_X6_beginIn {l : Launch} {X : XT} {d Lz : Nat} {w : Nat → Nat → Nat → Nat → Int32} (j : Nat) : ∀ (kk i : Nat), ∀ (wn : WF), (∀ q, wn 6 0 1 q = w 4 j 1 q) → (∀ q, q < 7 → wn 6 0 2 q = nI 5 ∧ wn 6 0 3 q = nI 0 ∧ wn 6 0 4 q = nI 0) → (∀ c i o q, ¬ (c = 6 ∧ i = 0) → wn c i o q = w c i o q) → (∀ q, q < i → wn 6 0 5 q = -1) →  i ≤ 4 → 4 + 1 ≤ i + kk → WP l X (d + 1) md_X6_beginIn (52, [some (.inr (.inr (6, 0, 0))), some (.inr (.inr (4, j, 0))), some (.inl (nI i))], [], mk Lz wn) (fun v M' => v = none ∧ ∃ w', M' = mk Lz w' ∧ (∀ q, w' 6 0 1 q = w 4 j 1 q) ∧ (∀ q, q < 7 → w' 6 0 2 q = nI 5 ∧ w' 6 0 3 q = nI 0 ∧ w' 6 0 4 q = nI 0) ∧ (∀ q, q < 4 → w' 6 0 5 q = -1) ∧ w' 6 0 0 6 = nI 0 ∧ w' 6 0 0 7 = nI 0 ∧ w' 6 0 0 8 = nI 0 ∧ (∀ c i o q, ¬ (c = 6 ∧ i = 0) → w' c i o q = w c i o q)) := by
  intro kk
  induction kk with
  | zero =>
    intro i wn hg he hf hh h1 h2
    exact absurd h2 (by omega)
  | succ kk ih =>
    intro i wn hg he hf hh hi1 hi2
    refine x_iload_n (pc' := 53) rfl rfl rfl (x_iconst (pc' := 54) rfl rfl ?_)
    refine x_icmp_geN (pc' := 57) rfl rfl (by omega) (by omega) (fun h54 => ?_) (fun h54 => ?_)
    · refine x_aload_n (pc' := 71) rfl rfl rfl (x_iconst (pc' := 72) rfl rfl (x_putI (pc' := 75) rfl rfl rfl (x_aload_n (pc' := 76) rfl rfl rfl (x_iconst (pc' := 77) rfl rfl (x_putI (pc' := 80) rfl rfl rfl ?_)))))
      refine x_aload_n (pc' := 81) rfl rfl rfl (x_iconst (pc' := 82) rfl rfl (x_putZ (pc' := 85) rfl rfl rfl (by decide) ?_))
      refine x_vret rfl rfl ?_
      exact ⟨rfl, _, rfl, fun q => by rw [u4_ne (by decide), u4_ne (by decide), u4_ne (by decide)]; exact hg q, fun q hq => by
        rw [u4_ne (by decide), u4_ne (by decide), u4_ne (by decide), u4_ne (by decide), u4_ne (by decide), u4_ne (by decide), u4_ne (by decide), u4_ne (by decide), u4_ne (by decide)]; exact he q hq, fun q hq => by
        rw [u4_ne (by decide), u4_ne (by decide), u4_ne (by decide)]; exact hh q (by omega), by rw [u4_k (by omega), u4_k (by omega), u4_self], by rw [u4_k (by omega), u4_self], u4_self _ _ _ _ _ _, fun c i o q hq => by
        rw [u4_ne (ne3 (by omega)), u4_ne (ne3 (by omega)), u4_ne (ne3 (by omega))]; exact hf c i o q hq⟩
    · refine x_aload_n (pc' := 58) rfl rfl rfl (x_getR (pc' := 61) (t := (6, _, 5)) rfl rfl rfl (x_iload_n (pc' := 62) rfl rfl rfl (x_iconst (pc' := 63) rfl rfl (x_iast (pc' := 64) (N := 4) rfl rfl rfl (by decide) rfl (by omega) (by decide) (x_iinc2 (pc' := 67) rfl rfl rfl (nI_add _ _) ?_)))))
      refine x_goto rfl ?_
      exact ih (i + 1) _ (fun q => by rw [u4_ne (by decide)]; exact hg q) (fun q hq => by rw [u4_ne (by decide), u4_ne (by decide), u4_ne (by decide)]; exact he q hq) (fun c i o q hq => by rw [u4_ne (ne3 (by omega))]; exact hf c i o q hq) (fun q hq => by
        by_cases z : q = i
        · rw [z, u4_self]
        · rw [u4_k z]; exact hh q (by omega)) (by omega) (by omega)
set_option maxRecDepth 20000 in
theorem l1_X6_beginIn {l : Launch} {X : XT} {d Lz : Nat} {w : Nat → Nat → Nat → Nat → Int32} (j : Nat) : ∀ (kk i : Nat), ∀ (wn : WF), (∀ q, wn 6 0 1 q = w 4 j 1 q) → (∀ q, q < i → wn 6 0 2 q = nI 5 ∧ wn 6 0 3 q = nI 0 ∧ wn 6 0 4 q = nI 0) → (∀ c i o q, ¬ (c = 6 ∧ i = 0) → wn c i o q = w c i o q) →  i ≤ 7 → 7 + 1 ≤ i + kk → WP l X (d + 1) md_X6_beginIn (17, [some (.inr (.inr (6, 0, 0))), some (.inr (.inr (4, j, 0))), some (.inl (nI i))], [], mk Lz wn) (fun v M' => v = none ∧ ∃ w', M' = mk Lz w' ∧ (∀ q, w' 6 0 1 q = w 4 j 1 q) ∧ (∀ q, q < 7 → w' 6 0 2 q = nI 5 ∧ w' 6 0 3 q = nI 0 ∧ w' 6 0 4 q = nI 0) ∧ (∀ q, q < 4 → w' 6 0 5 q = -1) ∧ w' 6 0 0 6 = nI 0 ∧ w' 6 0 0 7 = nI 0 ∧ w' 6 0 0 8 = nI 0 ∧ (∀ c i o q, ¬ (c = 6 ∧ i = 0) → w' c i o q = w c i o q)) := by
  intro kk
  induction kk with
  | zero =>
    intro i wn hg he hf h1 h2
    exact absurd h2 (by omega)
  | succ kk ih =>
    intro i wn hg he hf hi1 hi2
    refine x_iload_n (pc' := 18) rfl rfl rfl (x_bipush (pc' := 20) rfl rfl ?_)
    refine x_icmp_geN (pc' := 23) rfl rfl (by omega) (by omega) (fun h20 => ?_) (fun h20 => ?_)
    · refine x_iconst (pc' := 51) rfl rfl (x_istore_n2 (pc' := 52) rfl rfl rfl ?_)
      exact l2_X6_beginIn j 5 0 wn hg (fun q hq => he q (by omega)) hf (fun q hq => absurd hq (by omega)) (by omega) (by omega)
    · refine x_aload_n (pc' := 24) rfl rfl rfl (x_getR (pc' := 27) (t := (6, _, 2)) rfl rfl rfl (x_iload_n (pc' := 28) rfl rfl rfl (x_iconst (pc' := 29) rfl rfl (x_iast (pc' := 30) (N := 7) rfl rfl rfl (by decide) rfl (by omega) (by decide) (x_aload_n (pc' := 31) rfl rfl rfl ?_)))))
      refine x_getR (pc' := 34) (t := (6, _, 3)) rfl rfl rfl (x_iload_n (pc' := 35) rfl rfl rfl (x_iconst (pc' := 36) rfl rfl (x_iast (pc' := 37) (N := 7) rfl rfl rfl (by decide) rfl (by omega) (by decide) (x_aload_n (pc' := 38) rfl rfl rfl (x_getR (pc' := 41) (t := (6, _, 4)) rfl rfl rfl ?_)))))
      refine x_iload_n (pc' := 42) rfl rfl rfl (x_iconst (pc' := 43) rfl rfl (x_iast (pc' := 44) (N := 7) rfl rfl rfl (by decide) rfl (by omega) (by decide) (x_iinc2 (pc' := 47) rfl rfl rfl (nI_add _ _) (x_goto rfl ?_))))
      exact ih (i + 1) _ (fun q => by rw [u4_ne (by decide), u4_ne (by decide), u4_ne (by decide)]; exact hg q) (fun q hq => by
        by_cases z : q = i
        · rw [z, u4_ne (by decide), u4_ne (by decide), u4_self, u4_ne (by decide), u4_self, u4_self]; exact ⟨rfl, rfl, rfl⟩
        · rw [u4_ne (by decide), u4_ne (by decide), u4_k z, u4_ne (by decide), u4_k z, u4_ne (by decide), u4_k z, u4_ne (by decide), u4_ne (by decide)]; exact he q (by omega)) (fun c i o q hq => by rw [u4_ne (ne3 (by omega)), u4_ne (ne3 (by omega)), u4_ne (ne3 (by omega))]; exact hf c i o q hq) (by omega) (by omega)
set_option maxRecDepth 20000 in
theorem c_X6_beginIn {l : Launch} {X : XT} {d Lz : Nat} {w : Nat → Nat → Nat → Nat → Int32} (j : Nat) : WP l X (d + 1) md_X6_beginIn (en md_X6_beginIn [.inr (.inr (6, 0, 0)), .inr (.inr (4, j, 0))] (mk Lz w)) (fun v M' => v = none ∧ ∃ w', M' = mk Lz w' ∧ (∀ q, w' 6 0 1 q = w 4 j 1 q) ∧ (∀ q, q < 7 → w' 6 0 2 q = nI 5 ∧ w' 6 0 3 q = nI 0 ∧ w' 6 0 4 q = nI 0) ∧ (∀ q, q < 4 → w' 6 0 5 q = -1) ∧ w' 6 0 0 6 = nI 0 ∧ w' 6 0 0 7 = nI 0 ∧ w' 6 0 0 8 = nI 0 ∧ (∀ c i o q, ¬ (c = 6 ∧ i = 0) → w' c i o q = w c i o q)) := by
  show WP l X _ md_X6_beginIn (0, [some (.inr (.inr (6, 0, 0))), some (.inr (.inr (4, j, 0))), none], [], _) _
  refine x_aload_n (pc' := 1) rfl rfl rfl (x_getR (pc' := 4) (t := (4, _, 1)) rfl rfl rfl (x_iconst (pc' := 5) rfl rfl (x_aload_n (pc' := 6) rfl rfl rfl (x_getR (pc' := 9) (t := (6, _, 1)) rfl rfl rfl (x_iconst (pc' := 10) rfl rfl ?_)))))
  refine x_bipush (pc' := 12) rfl rfl (x_acopy (pc' := 15) (N := 21) rfl rfl rfl rfl rfl rfl rfl (by decide) (x_iconst (pc' := 16) rfl rfl (x_istore_n2 (pc' := 17) rfl rfl rfl ?_)))
  exact l1_X6_beginIn j 8 0 _ (fun q => by unfold uc; rw [if_pos ⟨rfl, rfl, rfl⟩]) (fun q hq => absurd hq (by omega)) (fun c i o q hq => by rw [uc_ne (ne3 (by omega))]) (by omega) (by omega)
theorem KC_cg {w w' : WF} {j : Nat} {K : Kg} (e : ∀ o q, w' 4 j o q = w 4 j o q) (h : KC w j K) : KC w' j K := by
  unfold KC; simp only [e]; exact h
theorem DC_K {w : WF} {j m : Nat} {D : Dr} (h : DC w j D m) : KC w j (kgD D) := ⟨h.1, h.2.1, h.2.2.1, h.2.2.2.1, h.2.2.2.2.1, h.2.2.2.2.2.2.1, h.2.2.2.2.2.2.2.1, h.2.2.2.2.2.2.2.2⟩
set_option maxRecDepth 20000 in
theorem l_X8_kingdom {l : Launch} {X : XT} {d Lz : Nat} {w : Nat → Nat → Nat → Nat → Int32} (j j0 : Nat) (e8 : (w 8 0 0 8).toNatClampNeg = j) : ∀ (kk i : Nat), ∀ (wn : WF), (∀ m, m < i → wn 2 m 0 2 = nI 0) → (∀ c i o q, ¬ (c = 2 ∧ o = 0 ∧ q = 2) → wn c i o q = w c i o q) →  i ≤ 2 → 2 + 1 ≤ i + kk → WP l X (d + 1) md_X8_kingdom (71, [some (.inr (.inr (8, 0, 0))), some (.inr (.inr (4, j0, 0))), some (.inl (nI i))], [], mk Lz wn) (fun v M' => v = some (.inl (w 4 j 0 6)) ∧ ∃ w', M' = mk Lz w' ∧ (∀ i, i < 2 → w' 2 i 0 2 = nI 0) ∧ w' 5 0 0 3 = nI 0 ∧ w' 0 0 0 2 = nI 0 ∧ (∀ c i o q, ¬ (c = 2 ∧ o = 0 ∧ q = 2) → ¬ (c = 5 ∧ i = 0 ∧ o = 0 ∧ q = 3) → ¬ (c = 0 ∧ i = 0 ∧ o = 0 ∧ q = 2) → w' c i o q = w c i o q)) := by
  intro kk
  induction kk with
  | zero =>
    intro i wn hkk hf h1 h2
    exact absurd h2 (by omega)
  | succ kk ih =>
    intro i wn hkk hf hi1 hi2
    refine x_iload_n (pc' := 72) rfl rfl rfl (x_iconst (pc' := 73) rfl rfl ?_)
    refine x_icmp_geN (pc' := 76) rfl rfl (by omega) (by omega) (fun h73 => ?_) (fun h73 => ?_)
    · refine x_aload_n (pc' := 93) rfl rfl rfl (x_getR (pc' := 96) (t := (5, 0, 0)) rfl rfl rfl (x_iconst (pc' := 97) rfl rfl (x_putI (pc' := 100) rfl rfl rfl (x_aload_n (pc' := 101) rfl rfl rfl (x_getR (pc' := 104) (t := (0, 0, 0)) rfl rfl rfl ?_)))))
      refine x_iconst (pc' := 105) rfl rfl (x_putI (pc' := 108) rfl rfl rfl (x_aload_n (pc' := 109) rfl rfl rfl (x_getR5 (pc' := 112) rfl rfl rfl ?_)))
      rw [u4_ne (by intro z; cases z), u4_ne (by intro z; cases z), hf 8 0 0 8 (by omega), e8]
      refine x_getI (pc' := 115) rfl rfl rfl ?_
      rw [u4_ne (by intro z; cases z), u4_ne (by intro z; cases z), hf 4 j 0 6 (by omega)]
      refine x_iret rfl rfl ?_
      exact ⟨rfl, _, rfl, fun m hm => by rw [u4_ne (by intro z; cases z), u4_ne (by intro z; cases z)]; exact hkk m (by omega), by rw [u4_ne (by intro z; cases z), u4_self], u4_self _ _ _ _ _ _, fun c i o q h1 h2 h3 => by unfold u4; rw [if_neg (by omega), if_neg (by omega)]; exact hf c i o q h1⟩
    · refine x_aload_n (pc' := 77) rfl rfl rfl (x_getR (pc' := 80) (t := (8, _, 6)) rfl rfl rfl (x_iload_n (pc' := 81) rfl rfl rfl (x_aald (pc' := 82) (N := 2) rfl rfl rfl (by decide) rfl rfl (by omega) (by decide) (x_iconst (pc' := 83) rfl rfl (x_putZ (pc' := 86) rfl rfl rfl (by decide) ?_)))))
      refine x_iinc2 (pc' := 89) rfl rfl rfl (nI_add _ _) (x_goto rfl ?_)
      exact ih (i + 1) _ (fun m hm => by
        by_cases z : m = i
        · rw [z, u4_self]
        · rw [u4_ne (by intro y; cases y; exact z rfl)]; exact hkk m (by omega)) (fun c i o q hq => by unfold u4; rw [if_neg (by omega)]; exact hf c i o q hq) (by omega) (by omega)
theorem lopP_3 {t : Nat → Nat} {n : Nat} : ∀ (f : Nat) (P : PS), P.2.1.1 ≤ 3 → (lopP t n f P).2.1.1 ≤ 3
  | 0, P, h => h
  | f + 1, P, h => by
    by_cases z : P.1 < n ∧ P.2.1.1 = 0
    · rw [lopP_t z]
      exact lopP_3 f (skp t n (claP t n P).1, (claP t n P).2) (claP_3 h)
    · rw [lopP_f z]; exact h
theorem rdP_3 (t : Nat → Nat) (n : Nat) : (rdP t n).2.1.1 ≤ 3 := by
  rw [rdP_eq]; exact lopP_3 240 _ (show 0 ≤ 3 by decide)
set_option maxRecDepth 20000 in
theorem C_X8_kingdom {l : Launch} {X : XT} {d Lz : Nat} {w : WF} {a : AS} (h : CRel w a) (hV : AVl a) : okC l X (d + 6) Lz md_X8_kingdom [] w ((f_kingdom a).1) ((f_kingdom a).2) := by
  have hr := h
  obtain ⟨r1, r2, r3, r4, r5, r6, r7, r8, r9, r10⟩ := h
  have hK := hV.1
  have hv7 := hK.1
  have hv4 := hK.2.1
  have hs := hV.2.1
  have hnp := r2.2.2.1
  obtain ⟨j, hj, hj8, hj9⟩ := r1
  have e8 : (w 8 0 0 8).toNatClampNeg = j := by rw [hj8]; exact nI_clamp (by omega)
  have e9 : (w 8 0 0 9).toNatClampNeg = 1 - j := by rw [hj9]; exact nI_clamp (by omega)
  have hKj : KC w j a.K := by have e := r2; unfold KX at e; rwa [e8] at e
  have hB := rdP_B a.tx a.tn
  show WP l X _ md_X8_kingdom (0, [some (.inr (.inr (8, 0, 0))), none, none], [], _) _
  refine x_aload_n (pc' := 1) rfl rfl rfl (x_getR (pc' := 4) (t := (7, 0, 0)) rfl rfl rfl (x_aload_n (pc' := 5) rfl rfl rfl (x_getR5 (pc' := 8) rfl rfl rfl ?_)))
  rw [e9]
  refine x_invQ2 (pc' := 11) rfl rfl rfl rfl (c_X7_readInto hV.2.2.2.2.2.2.2.1 hV.2.2.2.2.2.2.2.2 (1 - j) r9) (fun vq Mq hq8 => ?_)
  obtain ⟨rfl, w1, rfl, t1, t3, t4, tD, tf⟩ := hq8
  have tf8 : ∀ q, w1 8 0 0 q = w 8 0 0 q := fun q => tf 8 0 0 q (by omega) (by omega)
  show WP l X _ md_X8_kingdom (11, _, [], _) _
  refine x_aload_n (pc' := 12) rfl rfl rfl (x_getR (pc' := 15) (t := (7, 0, 0)) rfl rfl rfl (x_getI (pc' := 18) rfl rfl rfl ?_))
  rw [t3]
  refine x_if_eq (pc' := 21) rfl rfl (fun h18 => ?_) (fun h18 => ?_)
  · have hz : (rdP a.tx a.tn).2.1.1 = 0 := zF h18 (rdP_3 a.tx a.tn)
    refine x_aload_n (pc' := 33) rfl rfl rfl (x_getR5 (pc' := 36) rfl rfl rfl ?_)
    rw [tf8, e8]
    refine x_astore_n1 (pc' := 37) rfl rfl rfl (x_aload_n (pc' := 38) rfl rfl rfl (x_aload_n (pc' := 39) rfl rfl rfl (x_getR5 (pc' := 42) rfl rfl rfl ?_)))
    rw [tf8, e9]
    refine x_put5 (pc' := 45) rfl rfl rfl (by omega) (x_aload_n (pc' := 46) rfl rfl rfl (x_aload_n (pc' := 47) rfl rfl rfl (x_put5 (pc' := 50) rfl rfl rfl hj (x_aload_n (pc' := 51) rfl rfl rfl (x_getR (pc' := 54) (t := (6, 0, 0)) rfl rfl rfl ?_)))))
    refine x_aload_n (pc' := 55) rfl rfl rfl (x_getR5 (pc' := 58) rfl rfl rfl ?_)
    rw [u4_k (by omega), u4_self, nI_clamp (by omega)]
    refine x_invQ2 (pc' := 61) rfl rfl rfl rfl (c_X6_beginIn (1 - j)) (fun vq Mq hq58 => ?_)
    obtain ⟨rfl, w2, rfl, b1, b2, b3, b4, b5, b6, bf⟩ := hq58
    show WP l X _ md_X8_kingdom (61, _, [], _) _
    refine x_aload_n (pc' := 62) rfl rfl rfl (x_getR (pc' := 65) (t := (3, 0, 0)) rfl rfl rfl (x_iconst (pc' := 66) rfl rfl (x_putI (pc' := 69) rfl rfl rfl (x_iconst (pc' := 70) rfl rfl (x_istore_n2 (pc' := 71) rfl rfl rfl ?_)))))
    refine wp_cons (l_X8_kingdom (w := (u4 w2 3 0 0 2 (nI 0))) (1 - j) j (by rw [u4_ne (by intro z; cases z), bf 8 0 0 8 (by omega), u4_k (by omega), u4_self]; exact nI_clamp (by omega)) 3 0 (u4 w2 3 0 0 2 (nI 0)) (fun m hm => absurd hm (by omega)) (fun _ _ _ _ _ => rfl) (by omega) (by omega)) ?_
    rintro v M ⟨rfl, w4, rfl, k1, k2, k3, kf⟩
    have ew : ∀ c i o q, ¬ (c = 2 ∧ o = 0 ∧ q = 2) → ¬ (c = 5 ∧ i = 0 ∧ o = 0 ∧ q = 3) → ¬ (c = 0 ∧ i = 0 ∧ o = 0 ∧ q = 2) → ¬ (c = 3 ∧ i = 0 ∧ o = 0 ∧ q = 2) → ¬ (c = 6 ∧ i = 0) → ¬ (c = 8 ∧ o = 0 ∧ (q = 8 ∨ q = 9)) → w4 c i o q = w1 c i o q := fun c i o q n1 n2 n3 n4 n5 n6 => by
      rw [kf c i o q n1 n2 n3]
      unfold u4; rw [if_neg (by omega), bf c i o q n5]; unfold u4; rw [if_neg (by omega), if_neg (by omega)]
    have ew6 : ∀ o q, w4 6 0 o q = w2 6 0 o q := fun o q => by rw [kf 6 0 o q (by omega) (by omega) (by omega), u4_ne (by intro z; cases z)]
    have e48 : w4 8 0 0 8 = nI (1 - j) := by rw [kf 8 0 0 8 (by omega) (by omega) (by omega), u4_ne (by intro z; cases z), bf 8 0 0 8 (by omega), u4_k (by omega), u4_self]
    have e49 : w4 8 0 0 9 = nI j := by rw [kf 8 0 0 9 (by omega) (by omega) (by omega), u4_ne (by intro z; cases z), bf 8 0 0 9 (by omega), u4_self]
    have hD4 : DC w4 (1 - j) (rdP a.tx a.tn).2.2 ((rdP a.tx a.tn).2.2.np * 3) := DC_cg (fun o q => ew 4 (1 - j) o q (by omega) (by omega) (by omega) (by omega) (by omega) (by omega)) tD
    have hvv : u4 w2 3 0 0 2 (nI 0) 4 (1 - j) 0 6 = nI (rdP a.tx a.tn).2.2.np := by rw [u4_ne (by intro z; cases z), bf 4 (1 - j) 0 6 (by omega), u4_ne (by intro z; cases z), u4_ne (by intro z; cases z)]; exact tD.2.2.1
    refine ok_id (by rw [hvv]; unfold f_kingdom; rw [if_pos hz]) (fun c i o q hc => (ew c i o q (by omega) (by omega) (by omega) (by omega) (by omega) (by omega)).trans (tf c i o q (by omega) (by omega))) ?_
    unfold f_kingdom; rw [if_pos hz]
    obtain ⟨p1, tt, p2, p3, p4⟩ := r4
    refine ⟨⟨1 - j, by omega, e48, by rw [e49, show 1 - (1 - j) = j by omega]⟩, by unfold KX; rw [e48, nI_clamp (by omega)]; exact DC_K hD4, ?_, ⟨by rw [kf 3 0 0 2 (by omega) (by omega) (by omega), u4_self]; rfl, tt, p2, ?_, fun m hm => absurd hm (Nat.not_lt_zero m)⟩, fun i hi => ⟨k1 i hi, fun hk => absurd hk Bool.false_ne_true⟩, ?_, ⟨k2, fun q hq => absurd hq (Nat.not_lt_zero q)⟩, ⟨k3, fun q hq => absurd hq (Nat.not_lt_zero q)⟩, ⟨?_, fun q hq => absurd hq (Nat.not_lt_zero q)⟩, ?_⟩
    · refine ⟨fun q hq => ?_, fun q hq => ?_, fun q hq => ?_, fun q hq => ?_, fun q hq => ?_, (ew6 0 8).trans b6, (ew6 0 7).trans b5, (ew6 0 6).trans b4, fun n t hn _ _ => absurd hn (Nat.not_lt_zero n)⟩
      · have hq : q < 3 * (rdP a.tx a.tn).2.2.np := hq
        show _ = (if q < (rdP a.tx a.tn).2.2.np * 3 then nI ((rdP a.tx a.tn).2.2.g q) else nI 0)
        rw [if_pos (by omega), ew6, b1, u4_ne (by intro z; cases z), u4_ne (by intro z; cases z)]; exact tD.2.2.2.2.2.1 q (by omega)
      · rw [ew6]; exact (b2 q (Nat.lt_of_lt_of_le hq hB.1)).1
      · rw [ew6]; exact (b2 q (Nat.lt_of_lt_of_le hq hB.1)).2.1
      · rw [ew6]; exact (b2 q (Nat.lt_of_lt_of_le hq hB.1)).2.2
      · rw [ew6]; exact b3 q (Nat.lt_of_lt_of_le hq hB.2.2)
    · rw [ew 3 0 0 1 (by omega) (by omega) (by omega) (by omega) (by omega) (by omega), tf 3 0 0 1 (by omega) (by omega)]; exact p3
    · rw [ew 8 0 0 10 (by omega) (by omega) (by omega) (by omega) (by omega) (by omega), tf8]; exact r6
    · rw [ew 7 0 0 1 (by omega) (by omega) (by omega) (by omega) (by omega) (by omega)]; exact t1
    · rw [ew 7 0 0 4 (by omega) (by omega) (by omega) (by omega) (by omega) (by omega), t4]; exact (rdP_ok hz).1
  · refine x_bipush (pc' := 23) rfl rfl (x_aload_n (pc' := 24) rfl rfl rfl (x_getR (pc' := 27) (t := (7, 0, 0)) rfl rfl rfl (x_getI (pc' := 30) rfl rfl rfl ?_)))
    rw [t3]
    refine x_isub (pc' := 31) rfl rfl ?_
    refine x_iret rfl rfl ?_
    have hz : ¬ (rdP a.tx a.tn).2.1.1 = 0 := fun y => h18 (by rw [y]; rfl)
    refine ok_id (by unfold f_kingdom; rw [if_neg hz]) (fun c i o q hc => tf c i o q (by omega) (by omega)) ?_
    unfold f_kingdom; rw [if_neg hz]
    exact ⟨⟨j, hj, (tf8 8).trans hj8, (tf8 9).trans hj9⟩, by unfold KX; rw [tf8, e8]; exact KC_cg (fun o q => tf 4 j o q (by omega) (by omega)) hKj, RC_cg (fun o q => tf 6 0 o q (by omega) (by omega)) r3, PaC_cg (fun q => tf 3 0 0 q (by omega) (by omega)) (fun i o q _ _ => tf 6 i o q (by omega) (by omega)) r4, ImC_cg (fun i o q => tf 2 i o q (by omega) (by omega)) (fun i o q _ => tf 6 i o q (by omega) (by omega)) r5, (tf8 10).trans r6, SeC_cg (fun o q _ => tf 5 0 o q (by omega) (by omega)) r7, BoC_cg (fun o q => tf 0 0 o q (by omega) (by omega)) r8, ⟨t1, fun q hq => absurd hq (Nat.not_lt_zero q)⟩, t4⟩
