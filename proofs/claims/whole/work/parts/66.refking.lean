/-! a kingdom begins in the reference -/
def CB (w wn : WF) (D : Dr) : Prop := (∀ c i o q, c ≠ 9 → wn c i o q = w c i o q) ∧ (∀ q, 9 ≤ q → wn 9 0 0 q = w 9 0 0 q) ∧ (wn 9 0 0 4 = D.lw ∧ wn 9 0 0 5 = nI D.tm ∧ wn 9 0 0 6 = nI D.np ∧ wn 9 0 0 8 = nI D.nt ∧ wn 9 0 0 7 = nI D.no) ∧ DM wn D (D.np * 3)
theorem CB_u {w wn : WF} {D : Dr} {o k : Nat} {v : Int32} (ho : 1 ≤ o ∧ o ≤ 4) (h : CB w wn D) : CB w (u4 wn 9 0 o k v) D := by
  have e0 : ∀ q, u4 wn 9 0 o k v 9 0 0 q = wn 9 0 0 q := fun q => by unfold u4; rw [if_neg (by omega)]
  refine ⟨fun c i o' q hc => ?_, fun q hq => (e0 q).trans (h.2.1 q hq), ?_, DM_cg (fun q _ => e0 q) (fun o' q ho' => by unfold u4; rw [if_neg (by omega)]) h.2.2.2⟩
  · unfold u4; rw [if_neg (by omega)]; exact h.1 c i o' q hc
  · rw [e0, e0, e0, e0, e0]; exact h.2.2.1
def RB (w wn : WF) (D : Dr) (p o : Nat) : Prop := (∀ q, q < 21 → wn 9 0 1 q = (s0D D).g q) ∧ (∀ q, q < p → wn 9 0 1 (21 + q) = nI 5) ∧ (∀ q, 28 ≤ q → q < 42 → wn 9 0 1 q = nI 0) ∧ (∀ q, 46 ≤ q → q < 129 → wn 9 0 1 q = nI 0) ∧ (∀ q, q < o → wn 9 0 1 (42 + q) = -1) ∧ wn 9 0 1 129 = w 9 0 1 129
theorem RB_u {w wn : WF} {D : Dr} {p o o' k : Nat} {v : Int32} (ho : o' ≠ 1) (h : RB w wn D p o) : RB w (u4 wn 9 0 o' k v) D p o := by
  have e : ∀ q, u4 wn 9 0 o' k v 9 0 1 q = wn 9 0 1 q := fun q => by unfold u4; rw [if_neg (by omega)]
  unfold RB; simp only [e]; exact h
theorem RB_e {w wn : WF} {D : Dr} {p o : Nat} (hp : p < 7) (h : RB w wn D p o) : RB w (u4 wn 9 0 1 (21 + p) (nI 5)) D (p + 1) o := by
  obtain ⟨h1, h2, h3, h4, h5, h6⟩ := h
  refine ⟨fun q hq => by rw [u4_k (by omega)]; exact h1 q hq, fun q hq => ?_, fun q a b => by rw [u4_k (by omega)]; exact h3 q a b, fun q a b => by rw [u4_k (by omega)]; exact h4 q a b, fun q hq => by rw [u4_k (by omega)]; exact h5 q hq, by rw [u4_k (by omega)]; exact h6⟩
  by_cases z : q = p
  · rw [z, u4_self]
  · rw [u4_k (by omega)]; exact h2 q (by omega)
theorem RB_h {w wn : WF} {D : Dr} {p o : Nat} (hp : p ≤ 7) (ho : o < 4) (h : RB w wn D p o) : RB w (u4 wn 9 0 1 (42 + o) (-1)) D p (o + 1) := by
  obtain ⟨h1, h2, h3, h4, h5, h6⟩ := h
  refine ⟨fun q hq => by rw [u4_k (by omega)]; exact h1 q hq, fun q hq => by rw [u4_k (by omega)]; exact h2 q hq, fun q a b => by rw [u4_k (by omega)]; exact h3 q a b, fun q a b => by rw [u4_k (by omega)]; exact h4 q a b, fun q hq => ?_, by rw [u4_k (by omega)]; exact h6⟩
  by_cases z : q = o
  · rw [z, u4_self]
  · rw [u4_k (by omega)]; exact h5 q (by omega)
set_option maxRecDepth 20000 in
theorem l5_X9_begin {l : Launch} {X : XT} {d Lz : Nat} {w : Nat → Nat → Nat → Nat → Int32} (D : Dr) (hB : D.np ≤ 7 ∧ D.nt ≤ 12 ∧ D.no ≤ 4) (sd : Int32) : ∀ (kk i : Nat), ∀ (wn : WF), CB w wn D → RB w wn D D.np 4 → (∀ q, q < D.np → wn 9 0 2 q = nI (D.dr q)) → (∀ q, q < D.no → wn 9 0 3 q = nI (D.ok q)) → (∀ q, q < i → wn 9 0 4 q = nI (D.kd q)) →  i ≤ D.nt → D.nt + 1 ≤ i + kk → WP l X (d + 1) md_X9_begin (197, [some (.inr (.inr (9, 0, 0))), some (.inl (sd)), some (.inl (nI i))], [], mk Lz wn) (fun v M' => v = none ∧ ∃ w', M' = mk Lz w' ∧ KM w' (kgD D) ∧ RR w' (kgD D) 0 (s0D D) ∧ w' 9 0 1 129 = w 9 0 1 129 ∧ (w' 9 0 0 9 = nI 0 ∧ w' 9 0 0 10 = nI 0 ∧ w' 9 0 0 16 = nI 0 ∧ w' 9 0 0 19 = nI 0) ∧ w' 9 0 0 12 = w 9 0 0 12 ∧ w' 9 0 0 13 = w 9 0 0 13 ∧ (∀ c i o q, c ≠ 9 → w' c i o q = w c i o q)) := by
  intro kk
  induction kk with
  | zero =>
    intro i wn hc hr hd2 hd3 hd4 h1 h2
    exact absurd h2 (by omega)
  | succ kk ih =>
    intro i wn hc hr hd2 hd3 hd4 hi1 hi2
    refine x_iload_n (pc' := 198) rfl rfl rfl (x_aload_n (pc' := 199) rfl rfl rfl (x_getI (pc' := 202) rfl rfl rfl ?_))
    rw [hc.2.2.1.2.2.2.1]
    refine x_icmp_geN (pc' := 205) rfl rfl (by omega) (by omega) (fun h202 => ?_) (fun h202 => ?_)
    · refine x_aload_n (pc' := 224) rfl rfl rfl (x_iconst (pc' := 225) rfl rfl (x_putI (pc' := 228) rfl rfl rfl (x_aload_n (pc' := 229) rfl rfl rfl (x_iconst (pc' := 230) rfl rfl (x_putI (pc' := 233) rfl rfl rfl ?_)))))
      refine x_aload_n (pc' := 234) rfl rfl rfl (x_iconst (pc' := 235) rfl rfl (x_putI (pc' := 238) rfl rfl rfl (x_aload_n (pc' := 239) rfl rfl rfl (x_iconst (pc' := 240) rfl rfl (x_putI (pc' := 243) rfl rfl rfl ?_)))))
      refine x_vret rfl rfl ?_
      obtain ⟨r1, r2, r3, r4, r5, r6⟩ := hr
      obtain ⟨c1, c2, ⟨k1, k2, k3, k4, k5⟩, c4⟩ := hc
      have e1 : ∀ q, (u4 (u4 (u4 (u4 wn 9 0 0 9 (nI 0)) 9 0 0 10 (nI 0)) 9 0 0 16 (nI 0)) 9 0 0 19 (nI 0)) 9 0 1 q = wn 9 0 1 q := fun q => by rw [u4_ne (by decide), u4_ne (by decide), u4_ne (by decide), u4_ne (by decide)]
      refine ⟨rfl, _, rfl, ⟨by rw [u4_k (by omega), u4_k (by omega), u4_k (by omega), u4_k (by omega)]; exact k1, by rw [u4_k (by omega), u4_k (by omega), u4_k (by omega), u4_k (by omega)]; exact k2, by rw [u4_k (by omega), u4_k (by omega), u4_k (by omega), u4_k (by omega)]; exact k3, by rw [u4_k (by omega), u4_k (by omega), u4_k (by omega), u4_k (by omega)]; exact k4, by rw [u4_k (by omega), u4_k (by omega), u4_k (by omega), u4_k (by omega)]; exact k5, fun q hq => ?_, fun q hq => ?_, fun q hq => ?_⟩, ⟨fun q hq => ?_, fun q hq => ?_, fun q hq => ?_, fun q hq => ?_, fun q hq => ?_, ?_, ?_, ?_, fun n t hn _ _ => absurd hn (Nat.not_lt_zero n)⟩, (e1 129).trans r6, ⟨by rw [u4_k (by omega), u4_k (by omega), u4_k (by omega), u4_self], by rw [u4_k (by omega), u4_k (by omega), u4_self], by rw [u4_k (by omega), u4_self], u4_self _ _ _ _ _ _⟩, by rw [u4_k (by omega), u4_k (by omega), u4_k (by omega), u4_k (by omega)]; exact c2 12 (by omega), by rw [u4_k (by omega), u4_k (by omega), u4_k (by omega), u4_k (by omega)]; exact c2 13 (by omega), fun c i o q hc => by unfold u4; rw [if_neg (by omega), if_neg (by omega), if_neg (by omega), if_neg (by omega)]; exact c1 c i o q hc⟩
      · rw [u4_ne (by decide), u4_ne (by decide), u4_ne (by decide), u4_ne (by decide)]; exact hd2 q hq
      · rw [u4_ne (by decide), u4_ne (by decide), u4_ne (by decide), u4_ne (by decide)]; exact hd4 q (Nat.lt_of_lt_of_le hq h202)
      · rw [u4_ne (by decide), u4_ne (by decide), u4_ne (by decide), u4_ne (by decide)]; exact hd3 q hq
      · rw [e1, Nat.zero_add]; exact r1 q hq
      · rw [e1]; exact r2 q hq
      · have hq : q < D.np := hq
        rw [e1]; exact r3 _ (by omega) (by omega)
      · have hq : q < D.np := hq
        rw [e1]; exact r3 _ (by omega) (by omega)
      · have hq : q < D.no := hq
        rw [e1]; exact r5 q (by omega)
      · rw [e1]; exact r4 46 (by omega) (by omega)
      · rw [e1]; exact r4 47 (by omega) (by omega)
      · rw [e1]; exact r4 48 (by omega) (by omega)
    · refine x_aload_n (pc' := 206) rfl rfl rfl (x_getR (pc' := 209) (t := (9, _, 4)) rfl rfl rfl (x_iload_n (pc' := 210) rfl rfl rfl (x_aload_n (pc' := 211) rfl rfl rfl (x_getR (pc' := 214) (t := (9, _, 32)) rfl rfl rfl (x_iload_n (pc' := 215) rfl rfl rfl ?_)))))
      refine x_iald (pc' := 216) (N := 12) rfl rfl rfl rfl (by omega) (by decide) ?_
      rw [hc.2.2.2.2.2.2.2.2.2.2.2 _ h202]
      refine x_iast (pc' := 217) (N := 12) rfl rfl rfl (by decide) rfl (by omega) (by decide) (x_iinc2 (pc' := 220) rfl rfl rfl (nI_add _ _) (x_goto rfl ?_))
      exact ih (i + 1) _ (CB_u (by omega) hc) (RB_u (by omega) hr) (fun q hq => by rw [u4_ne (by decide)]; exact hd2 q hq) (fun q hq => by rw [u4_ne (by decide)]; exact hd3 q hq) (fun q hq => by
        by_cases z : q = i
        · rw [z, u4_self]
        · rw [u4_k z]; exact hd4 q (by omega)) (by omega) (by omega)
set_option maxRecDepth 20000 in
theorem l4_X9_begin {l : Launch} {X : XT} {d Lz : Nat} {w : Nat → Nat → Nat → Nat → Int32} (D : Dr) (hB : D.np ≤ 7 ∧ D.nt ≤ 12 ∧ D.no ≤ 4) (sd : Int32) : ∀ (kk i : Nat), ∀ (wn : WF), CB w wn D → RB w wn D D.np i → (∀ q, q < D.np → wn 9 0 2 q = nI (D.dr q)) → (∀ q, q < i → q < D.no → wn 9 0 3 q = nI (D.ok q)) →  i ≤ 4 → 4 + 1 ≤ i + kk → WP l X (d + 1) md_X9_begin (150, [some (.inr (.inr (9, 0, 0))), some (.inl (sd)), some (.inl (nI i))], [], mk Lz wn) (fun v M' => v = none ∧ ∃ w', M' = mk Lz w' ∧ KM w' (kgD D) ∧ RR w' (kgD D) 0 (s0D D) ∧ w' 9 0 1 129 = w 9 0 1 129 ∧ (w' 9 0 0 9 = nI 0 ∧ w' 9 0 0 10 = nI 0 ∧ w' 9 0 0 16 = nI 0 ∧ w' 9 0 0 19 = nI 0) ∧ w' 9 0 0 12 = w 9 0 0 12 ∧ w' 9 0 0 13 = w 9 0 0 13 ∧ (∀ c i o q, c ≠ 9 → w' c i o q = w c i o q)) := by
  intro kk
  induction kk with
  | zero =>
    intro i wn hc hr hd2 hd3 h1 h2
    exact absurd h2 (by omega)
  | succ kk ih =>
    intro i wn hc hr hd2 hd3 hi1 hi2
    refine x_iload_n (pc' := 151) rfl rfl rfl (x_iconst (pc' := 152) rfl rfl ?_)
    refine x_icmp_geN (pc' := 155) rfl rfl (by omega) (by omega) (fun h152 => ?_) (fun h152 => ?_)
    · refine x_iconst (pc' := 196) rfl rfl (x_istore_n2 (pc' := 197) rfl rfl rfl ?_)
      have e : i = 4 := by omega
      subst e
      exact l5_X9_begin D hB sd (D.nt + 1) 0 wn hc hr hd2 (fun q hq => hd3 q (by omega) hq) (fun q hq => absurd hq (by omega)) (by omega) (by omega)
    · refine x_aload_n (pc' := 156) rfl rfl rfl (x_getR (pc' := 159) (t := (9, _, 3)) rfl rfl rfl (x_iload_n (pc' := 160) rfl rfl rfl (x_iload_n (pc' := 161) rfl rfl rfl (x_aload_n (pc' := 162) rfl rfl rfl (x_getI (pc' := 165) rfl rfl rfl ?_)))))
      rw [hc.2.2.1.2.2.2.2]
      refine x_icmp_geN (pc' := 168) rfl rfl (by omega) (by omega) (fun h165 => ?_) (fun h165 => ?_)
      · refine x_iconst (pc' := 178) rfl rfl (x_iast (pc' := 179) (N := 4) rfl rfl rfl (by decide) rfl (by omega) (by decide) (x_aload_n (pc' := 180) rfl rfl rfl (x_getR (pc' := 183) (t := (9, _, 1)) rfl rfl rfl (x_bipush (pc' := 185) rfl rfl (x_iload_n (pc' := 186) rfl rfl rfl ?_)))))
        refine x_iaddN (pc' := 187) rfl rfl (x_iconst (pc' := 188) rfl rfl (x_iast (pc' := 189) (N := 4420) rfl rfl rfl (by decide) rfl (by omega) (by decide) (x_iinc2 (pc' := 192) rfl rfl rfl (nI_add _ _) (x_goto rfl ?_))))
        exact ih (i + 1) _ (CB_u (by omega) (CB_u (by omega) hc)) (RB_h hB.1 (by omega) (RB_u (by omega) hr)) (fun q hq => by rw [u4_ne (by decide), u4_ne (by decide)]; exact hd2 q hq) (fun q hq hq2 => by
          by_cases z : q = i
          · rw [u4_ne (by decide), z, u4_self]; exact absurd hq2 (by omega)
          · rw [u4_ne (by decide), u4_k z]; exact hd3 q (by omega) hq2) (by omega) (by omega)
      · refine x_aload_n (pc' := 169) rfl rfl rfl (x_getR (pc' := 172) (t := (9, _, 31)) rfl rfl rfl (x_iload_n (pc' := 173) rfl rfl rfl (x_iald (pc' := 174) (N := 4) rfl rfl rfl rfl (by omega) (by decide) ?_)))
        rw [hc.2.2.2.2.2.2.2.2.2.2.1 _ h165]
        refine x_goto rfl (x_iast (pc' := 179) (N := 4) rfl rfl rfl (by decide) rfl (by omega) (by decide) (x_aload_n (pc' := 180) rfl rfl rfl (x_getR (pc' := 183) (t := (9, _, 1)) rfl rfl rfl (x_bipush (pc' := 185) rfl rfl (x_iload_n (pc' := 186) rfl rfl rfl ?_)))))
        refine x_iaddN (pc' := 187) rfl rfl (x_iconst (pc' := 188) rfl rfl (x_iast (pc' := 189) (N := 4420) rfl rfl rfl (by decide) rfl (by omega) (by decide) (x_iinc2 (pc' := 192) rfl rfl rfl (nI_add _ _) (x_goto rfl ?_))))
        exact ih (i + 1) _ (CB_u (by omega) (CB_u (by omega) hc)) (RB_h hB.1 (by omega) (RB_u (by omega) hr)) (fun q hq => by rw [u4_ne (by decide), u4_ne (by decide)]; exact hd2 q hq) (fun q hq hq2 => by
          by_cases z : q = i
          · rw [u4_ne (by decide), z, u4_self]
          · rw [u4_ne (by decide), u4_k z]; exact hd3 q (by omega) hq2) (by omega) (by omega)
set_option maxRecDepth 20000 in
theorem l3_X9_begin {l : Launch} {X : XT} {d Lz : Nat} {w : Nat → Nat → Nat → Nat → Int32} (D : Dr) (hB : D.np ≤ 7 ∧ D.nt ≤ 12 ∧ D.no ≤ 4) (sd : Int32) : ∀ (kk i : Nat), ∀ (wn : WF), CB w wn D → RB w wn D i 0 → (∀ q, q < i → wn 9 0 2 q = nI (D.dr q)) →  i ≤ D.np → D.np + 1 ≤ i + kk → WP l X (d + 1) md_X9_begin (112, [some (.inr (.inr (9, 0, 0))), some (.inl (sd)), some (.inl (nI i))], [], mk Lz wn) (fun v M' => v = none ∧ ∃ w', M' = mk Lz w' ∧ KM w' (kgD D) ∧ RR w' (kgD D) 0 (s0D D) ∧ w' 9 0 1 129 = w 9 0 1 129 ∧ (w' 9 0 0 9 = nI 0 ∧ w' 9 0 0 10 = nI 0 ∧ w' 9 0 0 16 = nI 0 ∧ w' 9 0 0 19 = nI 0) ∧ w' 9 0 0 12 = w 9 0 0 12 ∧ w' 9 0 0 13 = w 9 0 0 13 ∧ (∀ c i o q, c ≠ 9 → w' c i o q = w c i o q)) := by
  intro kk
  induction kk with
  | zero =>
    intro i wn hc hr hd2 h1 h2
    exact absurd h2 (by omega)
  | succ kk ih =>
    intro i wn hc hr hd2 hi1 hi2
    refine x_iload_n (pc' := 113) rfl rfl rfl (x_aload_n (pc' := 114) rfl rfl rfl (x_getI (pc' := 117) rfl rfl rfl ?_))
    rw [hc.2.2.1.2.2.1]
    refine x_icmp_geN (pc' := 120) rfl rfl (by omega) (by omega) (fun h117 => ?_) (fun h117 => ?_)
    · refine x_iconst (pc' := 149) rfl rfl (x_istore_n2 (pc' := 150) rfl rfl rfl ?_)
      have e : i = D.np := by omega
      subst e
      exact l4_X9_begin D hB sd 5 0 wn hc ⟨hr.1, hr.2.1, hr.2.2.1, hr.2.2.2.1, fun q hq => absurd hq (by omega), hr.2.2.2.2.2⟩ hd2 (fun q hq => absurd hq (by omega)) (by omega) (by omega)
    · refine x_aload_n (pc' := 121) rfl rfl rfl (x_getR (pc' := 124) (t := (9, _, 2)) rfl rfl rfl (x_iload_n (pc' := 125) rfl rfl rfl (x_aload_n (pc' := 126) rfl rfl rfl (x_getR (pc' := 129) (t := (9, _, 30)) rfl rfl rfl (x_iload_n (pc' := 130) rfl rfl rfl ?_)))))
      refine x_iald (pc' := 131) (N := 7) rfl rfl rfl rfl (by omega) (by decide) ?_
      rw [hc.2.2.2.2.2.2.2.2.2.1 _ h117]
      refine x_iast (pc' := 132) (N := 7) rfl rfl rfl (by decide) rfl (by omega) (by decide) (x_aload_n (pc' := 133) rfl rfl rfl (x_getR (pc' := 136) (t := (9, _, 1)) rfl rfl rfl (x_bipush (pc' := 138) rfl rfl (x_iload_n (pc' := 139) rfl rfl rfl (x_iaddN (pc' := 140) rfl rfl ?_)))))
      refine x_iconst (pc' := 141) rfl rfl (x_iast (pc' := 142) (N := 4420) rfl rfl rfl (by decide) rfl (by omega) (by decide) (x_iinc2 (pc' := 145) rfl rfl rfl (nI_add _ _) (x_goto rfl ?_)))
      exact ih (i + 1) _ (CB_u (by omega) (CB_u (by omega) hc)) (RB_e (by omega) (RB_u (by omega) hr)) (fun q hq => by
        by_cases z : q = i
        · rw [u4_ne (by decide), z, u4_self]
        · rw [u4_ne (by decide), u4_k z]; exact hd2 q (by omega)) (by omega) (by omega)
set_option maxRecDepth 20000 in
theorem l2_X9_begin {l : Launch} {X : XT} {d Lz : Nat} {w : Nat → Nat → Nat → Nat → Int32} (D : Dr) (hB : D.np ≤ 7 ∧ D.nt ≤ 12 ∧ D.no ≤ 4) (sd : Int32) : ∀ (kk i : Nat), ∀ (wn : WF), CB w wn D → (∀ q, q < i → wn 9 0 1 q = nI (D.g q)) → (∀ q, i ≤ q → q < 129 → wn 9 0 1 q = nI 0) → wn 9 0 1 129 = w 9 0 1 129 →  i ≤ 3 * D.np → 3 * D.np + 1 ≤ i + kk → WP l X (d + 1) md_X9_begin (82, [some (.inr (.inr (9, 0, 0))), some (.inl (sd)), some (.inl (nI i))], [], mk Lz wn) (fun v M' => v = none ∧ ∃ w', M' = mk Lz w' ∧ KM w' (kgD D) ∧ RR w' (kgD D) 0 (s0D D) ∧ w' 9 0 1 129 = w 9 0 1 129 ∧ (w' 9 0 0 9 = nI 0 ∧ w' 9 0 0 10 = nI 0 ∧ w' 9 0 0 16 = nI 0 ∧ w' 9 0 0 19 = nI 0) ∧ w' 9 0 0 12 = w 9 0 0 12 ∧ w' 9 0 0 13 = w 9 0 0 13 ∧ (∀ c i o q, c ≠ 9 → w' c i o q = w c i o q)) := by
  intro kk
  induction kk with
  | zero =>
    intro i wn hc hg hz hs h1 h2
    exact absurd h2 (by omega)
  | succ kk ih =>
    intro i wn hc hg hz hs hi1 hi2
    refine x_iload_n (pc' := 83) rfl rfl rfl (x_iconst (pc' := 84) rfl rfl (x_aload_n (pc' := 85) rfl rfl rfl (x_getI (pc' := 88) rfl rfl rfl ?_)))
    rw [hc.2.2.1.2.2.1]
    refine x_imulN (pc' := 89) rfl rfl ?_
    refine x_icmp_geN (pc' := 92) rfl rfl (by omega) (by omega) (fun h89 => ?_) (fun h89 => ?_)
    · refine x_iconst (pc' := 111) rfl rfl (x_istore_n2 (pc' := 112) rfl rfl rfl ?_)
      have e : i = 3 * D.np := by omega
      subst e
      refine l3_X9_begin D hB sd (D.np + 1) 0 wn hc ⟨fun q hq => ?_, fun q hq => absurd hq (by omega), fun q a b => hz q (by omega) (by omega), fun q a b => hz q (by omega) (by omega), fun q hq => absurd hq (by omega), hs⟩ (fun q hq => absurd hq (by omega)) (by omega) (by omega)
      show _ = (if q < D.np * 3 then nI (D.g q) else nI 0)
      by_cases z : q < D.np * 3
      · rw [if_pos z]; exact hg q (by omega)
      · rw [if_neg z]; exact hz q (by omega) (by omega)
    · refine x_aload_n (pc' := 93) rfl rfl rfl (x_getR (pc' := 96) (t := (9, _, 1)) rfl rfl rfl (x_iload_n (pc' := 97) rfl rfl rfl (x_aload_n (pc' := 98) rfl rfl rfl (x_getR (pc' := 101) (t := (9, _, 29)) rfl rfl rfl (x_iload_n (pc' := 102) rfl rfl rfl ?_)))))
      refine x_iald (pc' := 103) (N := 21) rfl rfl rfl rfl (by omega) (by decide) ?_
      rw [hc.2.2.2.2.2.2.2.2.1 _ (by omega)]
      refine x_iast (pc' := 104) (N := 4420) rfl rfl rfl (by decide) rfl (by omega) (by decide) (x_iinc2 (pc' := 107) rfl rfl rfl (nI_add _ _) (x_goto rfl ?_))
      exact ih (i + 1) _ (CB_u (by omega) hc) (fun q hq => by
        by_cases z : q = i
        · rw [z, u4_self]
        · rw [u4_k z]; exact hg q (by omega)) (fun q h1 h2 => by rw [u4_k (by omega)]; exact hz q (by omega) h2) (by rw [u4_k (by omega)]; exact hs) (by omega) (by omega)
set_option maxRecDepth 20000 in
theorem l1_X9_begin {l : Launch} {X : XT} {d Lz : Nat} {w : Nat → Nat → Nat → Nat → Int32} (D : Dr) (hB : D.np ≤ 7 ∧ D.nt ≤ 12 ∧ D.no ≤ 4) (sd : Int32) (hsd : sd = w 9 0 1 129) : ∀ (kk i : Nat), ∀ (wn : WF), CB w wn D → (∀ q, q < i → wn 9 0 1 q = nI 0) →  i ≤ 130 → 130 + 1 ≤ i + kk → WP l X (d + 1) md_X9_begin (51, [some (.inr (.inr (9, 0, 0))), some (.inl (sd)), some (.inl (nI i))], [], mk Lz wn) (fun v M' => v = none ∧ ∃ w', M' = mk Lz w' ∧ KM w' (kgD D) ∧ RR w' (kgD D) 0 (s0D D) ∧ w' 9 0 1 129 = w 9 0 1 129 ∧ (w' 9 0 0 9 = nI 0 ∧ w' 9 0 0 10 = nI 0 ∧ w' 9 0 0 16 = nI 0 ∧ w' 9 0 0 19 = nI 0) ∧ w' 9 0 0 12 = w 9 0 0 12 ∧ w' 9 0 0 13 = w 9 0 0 13 ∧ (∀ c i o q, c ≠ 9 → w' c i o q = w c i o q)) := by
  intro kk
  induction kk with
  | zero =>
    intro i wn hc hg h1 h2
    exact absurd h2 (by omega)
  | succ kk ih =>
    intro i wn hc hg hi1 hi2
    refine x_iload_n (pc' := 52) rfl rfl rfl (x_sipush (pc' := 55) rfl rfl ?_)
    refine x_icmp_geN (pc' := 58) rfl rfl (by omega) (by omega) (fun h55 => ?_) (fun h55 => ?_)
    · refine x_aload_n (pc' := 72) rfl rfl rfl (x_getR (pc' := 75) (t := (9, _, 1)) rfl rfl rfl (x_sipush (pc' := 78) rfl rfl (x_iload_n (pc' := 79) rfl rfl rfl (x_iast (pc' := 80) (N := 4420) rfl rfl rfl (by decide) rfl (by omega) (by decide) (x_iconst (pc' := 81) rfl rfl ?_)))))
      refine x_istore_n2 (pc' := 82) rfl rfl rfl ?_
      exact l2_X9_begin D hB sd (3 * D.np + 1) 0 _ (CB_u (by omega) hc) (fun q hq => absurd hq (by omega)) (fun q _ h2 => by rw [u4_k (by omega)]; exact hg q (by omega)) (by rw [u4_self]; exact hsd) (by omega) (by omega)
    · refine x_aload_n (pc' := 59) rfl rfl rfl (x_getR (pc' := 62) (t := (9, _, 1)) rfl rfl rfl (x_iload_n (pc' := 63) rfl rfl rfl (x_iconst (pc' := 64) rfl rfl (x_iast (pc' := 65) (N := 4420) rfl rfl rfl (by decide) rfl (by omega) (by decide) (x_iinc2 (pc' := 68) rfl rfl rfl (nI_add _ _) ?_)))))
      refine x_goto rfl ?_
      exact ih (i + 1) _ (CB_u (by omega) hc) (fun q hq => by
        by_cases z : q = i
        · rw [z, u4_self]
        · rw [u4_k z]; exact hg q (by omega)) (by omega) (by omega)
set_option maxRecDepth 20000 in
theorem c_X9_begin {l : Launch} {X : XT} {d Lz : Nat} {w : Nat → Nat → Nat → Nat → Int32} (D : Dr) (hB : D.np ≤ 7 ∧ D.nt ≤ 12 ∧ D.no ≤ 4) (hD : DM w D (D.np * 3)) : WP l X (d + 1) md_X9_begin (en md_X9_begin [.inr (.inr (9, 0, 0))] (mk Lz w)) (fun v M' => v = none ∧ ∃ w', M' = mk Lz w' ∧ KM w' (kgD D) ∧ RR w' (kgD D) 0 (s0D D) ∧ w' 9 0 1 129 = w 9 0 1 129 ∧ (w' 9 0 0 9 = nI 0 ∧ w' 9 0 0 10 = nI 0 ∧ w' 9 0 0 16 = nI 0 ∧ w' 9 0 0 19 = nI 0) ∧ w' 9 0 0 12 = w 9 0 0 12 ∧ w' 9 0 0 13 = w 9 0 0 13 ∧ (∀ c i o q, c ≠ 9 → w' c i o q = w c i o q)) := by
  show WP l X _ md_X9_begin (0, [some (.inr (.inr (9, 0, 0))), none, none], [], _) _
  refine x_aload_n (pc' := 1) rfl rfl rfl (x_aload_n (pc' := 2) rfl rfl rfl (x_getI (pc' := 5) rfl rfl rfl (x_putI (pc' := 8) rfl rfl rfl (x_aload_n (pc' := 9) rfl rfl rfl (x_aload_n (pc' := 10) rfl rfl rfl ?_)))))
  refine x_getI (pc' := 13) rfl rfl rfl ?_
  rw [u4_k (by omega), hD.2.1]
  refine x_putI (pc' := 16) rfl rfl rfl (x_aload_n (pc' := 17) rfl rfl rfl (x_aload_n (pc' := 18) rfl rfl rfl (x_getI (pc' := 21) rfl rfl rfl ?_)))
  rw [u4_k (by omega), u4_k (by omega), hD.2.2.1]
  refine x_putI (pc' := 24) rfl rfl rfl (x_aload_n (pc' := 25) rfl rfl rfl (x_aload_n (pc' := 26) rfl rfl rfl (x_getI (pc' := 29) rfl rfl rfl ?_)))
  rw [u4_k (by omega), u4_k (by omega), u4_k (by omega), hD.2.2.2.1]
  refine x_putI (pc' := 32) rfl rfl rfl (x_aload_n (pc' := 33) rfl rfl rfl (x_aload_n (pc' := 34) rfl rfl rfl (x_getI (pc' := 37) rfl rfl rfl ?_)))
  rw [u4_k (by omega), u4_k (by omega), u4_k (by omega), u4_k (by omega), hD.2.2.2.2.1]
  refine x_putI (pc' := 40) rfl rfl rfl (x_aload_n (pc' := 41) rfl rfl rfl (x_getR (pc' := 44) (t := (9, _, 1)) rfl rfl rfl (x_sipush (pc' := 47) rfl rfl (x_iald (pc' := 48) (N := 4420) rfl rfl rfl rfl (by omega) (by decide) (x_istore_n1 (pc' := 49) rfl rfl rfl ?_)))))
  refine x_iconst (pc' := 50) rfl rfl (x_istore_n2 (pc' := 51) rfl rfl rfl ?_)
  have e0 : ∀ q, 9 ≤ q → (u4 (u4 (u4 (u4 (u4 w 9 0 0 4 (w 9 0 0 23)) 9 0 0 5 (nI D.tm)) 9 0 0 6 (nI D.np)) 9 0 0 7 (nI D.no)) 9 0 0 8 (nI D.nt)) 9 0 0 q = w 9 0 0 q := fun q hq => by rw [u4_k (by omega), u4_k (by omega), u4_k (by omega), u4_k (by omega), u4_k (by omega)]
  exact l1_X9_begin D hB _ (by rw [u4_ne (by decide), u4_ne (by decide), u4_ne (by decide), u4_ne (by decide), u4_ne (by decide)]) 131 0 _ ⟨fun c i o q hc => by unfold u4; rw [if_neg (by omega), if_neg (by omega), if_neg (by omega), if_neg (by omega), if_neg (by omega)], e0, ⟨by rw [u4_k (by omega), u4_k (by omega), u4_k (by omega), u4_k (by omega), u4_self]; exact hD.1, by rw [u4_k (by omega), u4_k (by omega), u4_k (by omega), u4_self], by rw [u4_k (by omega), u4_k (by omega), u4_self], by rw [u4_self], by rw [u4_k (by omega), u4_self]⟩, DM_cg (w := w) (fun q hq => e0 q (by omega)) (fun o q ho => by unfold u4; rw [if_neg (by omega), if_neg (by omega), if_neg (by omega), if_neg (by omega), if_neg (by omega)]) hD⟩ (fun q hq => absurd hq (by omega)) (by omega) (by omega)
set_option maxRecDepth 20000 in
theorem l_X9_kingdom {l : Launch} {X : XT} {d Lz : Nat} {w : Nat → Nat → Nat → Nat → Int32} {n : Nat} {t : Nat → Nat} (hn : n ≤ 240) (ht : ∀ q, q < n → t q < 256) {Q : Option AV → Mem → Prop} : ∀ (f : Nat) (P : PS) (b : Nat) (wn : WF) (hT : FM wn n t b P.2.1) (hD : P.2.1.1 = 0 → DM wn P.2.2 (P.2.2.np * 3)) (hPb : P.1 = skp t n b) (hb : b ≤ n) (hF3 : P.2.1.1 ≤ 3) (hB : P.2.2.np ≤ 7 ∧ P.2.2.nt ≤ 12 ∧ P.2.2.no ≤ 4) (hnf : P.2.1.1 = 0 → n ≤ P.1 + f) (hf : frG w wn) (K : ∀ (b' : Nat) (w' : WF), FM w' n t b' (lopP t n f P).2.1 → ((lopP t n f P).2.1.1 = 0 → DM w' (lopP t n f P).2.2 ((lopP t n f P).2.2.np * 3)) → frG w w' → WP l X (d + 6) md_X9_kingdom (57, [some (.inr (.inr (9, 0, 0)))], [], mk Lz w') Q), WP l X (d + 6) md_X9_kingdom (35, [some (.inr (.inr (9, 0, 0)))], [], mk Lz wn) Q := by
  intro f
  induction f with
  | zero =>
    intro P b wn hT hD hPb hb hF3 hB hnf hf K
    refine x_aload_n (pc' := 36) rfl rfl rfl (x_invI1 (pc' := 39) rfl rfl rfl (c_X9_fine P.2.1 hF3 hT.2.1) ?_)
    refine x_if_eq (pc' := 42) rfl rfl (fun h39 => ?_) (fun h39 => ?_)
    · have hF0 : ¬ P.2.1.1 = 0 := of_decide_eq_false (bI_eq0.mp h39)
      rw [lopP_f (P := P) (fun y => hF0 y.2)] at K
      exact K b wn hT hD hf
    · have hF0 : P.2.1.1 = 0 := of_decide_eq_true (bq h39)
      refine x_aload_n (pc' := 43) rfl rfl rfl (x_invQ1 (pc' := 46) rfl rfl rfl (c_X9_here hn ht b hb hT.1 (hT.2.2.2 hF0)) (fun vq Mq hq43 => ?_))
      obtain ⟨rfl, w1, rfl, h20, hf1⟩ := hq43
      have hT1 := FM_H (b := P.1) hT hf1 (fun _ => by rw [hPb]; exact h20)
      have hD1 := DM_Z hf1.z (hD hF0)
      show WP l X _ md_X9_kingdom (46, _, [_], _) _
      refine x_iconst (pc' := 47) rfl rfl ?_
      refine x_icmp_eq (pc' := 50) rfl rfl (fun h47 => ?_) (fun h47 => ?_)
      · have hlt : ¬ P.1 < n := by rw [hPb]; exact (hr_n ht).mp h47
        rw [lopP_f (P := P) (fun y => hlt y.1)] at K
        exact K P.1 w1 hT1 (fun _ => hD1) (hf.tr hf1.z.r)
      · have hlt : P.1 < n := by rw [hPb]; exact Decidable.byContradiction (fun z => h47 ((hr_n ht).mpr z))
        refine x_aload_n (pc' := 51) rfl rfl rfl (x_invQ1 (pc' := 54) rfl rfl rfl (c_X9_readClause hn ht P hlt hF0 hB (by rw [hPb]; exact skp_i hb) hT1 hD1) (fun vq Mq hq51 => ?_))
        obtain ⟨rfl, w2, rfl, h2, hD2, hf2⟩ := hq51
        show WP l X _ md_X9_kingdom (54, _, [], _) _
        refine x_goto rfl ?_
        exact absurd (hnf hF0) (by omega)
  | succ f ih =>
    intro P b wn hT hD hPb hb hF3 hB hnf hf K
    refine x_aload_n (pc' := 36) rfl rfl rfl (x_invI1 (pc' := 39) rfl rfl rfl (c_X9_fine P.2.1 hF3 hT.2.1) ?_)
    refine x_if_eq (pc' := 42) rfl rfl (fun h39 => ?_) (fun h39 => ?_)
    · have hF0 : ¬ P.2.1.1 = 0 := of_decide_eq_false (bI_eq0.mp h39)
      rw [lopP_f (P := P) (fun y => hF0 y.2)] at K
      exact K b wn hT hD hf
    · have hF0 : P.2.1.1 = 0 := of_decide_eq_true (bq h39)
      refine x_aload_n (pc' := 43) rfl rfl rfl (x_invQ1 (pc' := 46) rfl rfl rfl (c_X9_here hn ht b hb hT.1 (hT.2.2.2 hF0)) (fun vq Mq hq43 => ?_))
      obtain ⟨rfl, w1, rfl, h20, hf1⟩ := hq43
      have hT1 := FM_H (b := P.1) hT hf1 (fun _ => by rw [hPb]; exact h20)
      have hD1 := DM_Z hf1.z (hD hF0)
      show WP l X _ md_X9_kingdom (46, _, [_], _) _
      refine x_iconst (pc' := 47) rfl rfl ?_
      refine x_icmp_eq (pc' := 50) rfl rfl (fun h47 => ?_) (fun h47 => ?_)
      · have hlt : ¬ P.1 < n := by rw [hPb]; exact (hr_n ht).mp h47
        rw [lopP_f (P := P) (fun y => hlt y.1)] at K
        exact K P.1 w1 hT1 (fun _ => hD1) (hf.tr hf1.z.r)
      · have hlt : P.1 < n := by rw [hPb]; exact Decidable.byContradiction (fun z => h47 ((hr_n ht).mpr z))
        refine x_aload_n (pc' := 51) rfl rfl rfl (x_invQ1 (pc' := 54) rfl rfl rfl (c_X9_readClause hn ht P hlt hF0 hB (by rw [hPb]; exact skp_i hb) hT1 hD1) (fun vq Mq hq51 => ?_))
        obtain ⟨rfl, w2, rfl, h2, hD2, hf2⟩ := hq51
        show WP l X _ md_X9_kingdom (54, _, [], _) _
        refine x_goto rfl ?_
        have hA := claP_at (t := t) hlt
        rw [lopP_t ⟨hlt, hF0⟩] at K
        have hsA := skp_b (t := t) hA.2.1
        exact ih (skp t n (claP t n P).1, (claP t n P).2) (claP t n P).1 w2 h2 hD2 rfl hA.2.1 (claP_3 hF3) (claP_B hB) (fun z => by have h5 := hA.2.2 z; have h6 := hnf hF0; show n ≤ skp t n (claP t n P).1 + f; omega) ((hf.tr hf1.z.r).tr hf2) K
set_option maxRecDepth 20000 in
theorem M_X9_kingdom {l : Launch} {X : XT} {d Lz : Nat} {w : WF} {a : AS} (h : MRel w a) (hV : AVl a) : okM l X (d + 6) Lz md_X9_kingdom [] w ((f_kingdom a).1) ((f_kingdom a).2) := by
  have hr := h
  obtain ⟨r1, r2, r3, r4, r5, r6, r7, r8, r9⟩ := h
  have hK := hV.1
  have hv7 := hK.1
  have hv4 := hK.2.1
  have hs := hV.2.1
  have hnp := r1.2.2.1
  have hno := r1.2.2.2.2.1
  show WP l X _ md_X9_kingdom (0, [some (.inr (.inr (9, 0, 0)))], [], _) _
  refine x_aload_n (pc' := 1) rfl rfl rfl (x_iconst (pc' := 2) rfl rfl (x_putI (pc' := 5) rfl rfl rfl (x_aload_n (pc' := 6) rfl rfl rfl (x_iconst (pc' := 7) rfl rfl (x_putI (pc' := 10) rfl rfl rfl ?_)))))
  refine x_aload_n (pc' := 11) rfl rfl rfl (x_iconst (pc' := 12) rfl rfl (x_putI (pc' := 15) rfl rfl rfl (x_aload_n (pc' := 16) rfl rfl rfl (x_iconst (pc' := 17) rfl rfl (x_putI (pc' := 20) rfl rfl rfl ?_)))))
  refine x_aload_n (pc' := 21) rfl rfl rfl (x_iconst (pc' := 22) rfl rfl (x_putI (pc' := 25) rfl rfl rfl (x_aload_n (pc' := 26) rfl rfl rfl (x_iconst (pc' := 27) rfl rfl (x_putI (pc' := 30) rfl rfl rfl ?_)))))
  refine x_aload_n (pc' := 31) rfl rfl rfl (x_iconst (pc' := 32) rfl rfl (x_putI (pc' := 35) rfl rfl rfl ?_))
  refine l_X9_kingdom (w := w) hV.2.2.2.2.2.2.2.1 hV.2.2.2.2.2.2.2.2 240 (skp a.tx a.tn 0, (0, -1), D0) 0 _ ?_ (fun _ => ?_) rfl (Nat.zero_le _) (show 0 ≤ 3 by decide) (show 0 ≤ 7 ∧ 0 ≤ 12 ∧ 0 ≤ 4 by decide) (fun _ => by have := hV.2.2.2.2.2.2.2.1; show a.tn ≤ skp a.tx a.tn 0 + 240; omega) ?_ (fun b' w' hT hD hf => ?_)
  · exact ⟨⟨by rw [u4_k (by omega), u4_k (by omega), u4_k (by omega), u4_k (by omega), u4_k (by omega), u4_k (by omega), u4_k (by omega)]; exact r8.1, fun q hq => by rw [u4_ne (by decide), u4_ne (by decide), u4_ne (by decide), u4_ne (by decide), u4_ne (by decide), u4_ne (by decide), u4_ne (by decide)]; exact r8.2 q hq⟩, by rw [u4_k (by omega), u4_k (by omega), u4_k (by omega), u4_k (by omega), u4_k (by omega), u4_self], fun z => absurd rfl z, fun _ => by rw [u4_k (by omega), u4_k (by omega), u4_k (by omega), u4_k (by omega), u4_k (by omega), u4_k (by omega), u4_self]⟩
  · exact ⟨by rw [u4_k (by omega), u4_k (by omega), u4_k (by omega), u4_k (by omega), u4_self]; rfl, by rw [u4_k (by omega), u4_k (by omega), u4_k (by omega), u4_self]; rfl, by rw [u4_k (by omega), u4_k (by omega), u4_self]; rfl, by rw [u4_k (by omega), u4_self]; rfl, by rw [u4_self]; rfl, fun q hq => absurd hq (Nat.not_lt_zero q), fun q hq => absurd hq (Nat.not_lt_zero q), fun q hq => absurd hq (Nat.not_lt_zero q), fun q hq => absurd hq (Nat.not_lt_zero q)⟩
  · exact (((((((frG.rf w).u 0 20 (by omega) _).u 0 21 (by omega) _).u 0 23 (by omega) _).u 0 24 (by omega) _).u 0 25 (by omega) _).u 0 26 (by omega) _).u 0 27 (by omega) _
  · rw [← rdP_eq] at hT hD
    by_cases hz : (rdP a.tx a.tn).2.1.1 = 0
    · refine x_aload_n (pc' := 58) rfl rfl rfl (x_iconst (pc' := 59) rfl rfl (x_putI (pc' := 62) rfl rfl rfl (x_aload_n (pc' := 63) rfl rfl rfl (x_aload_n (pc' := 64) rfl rfl rfl (x_invI1 (pc' := 67) rfl rfl rfl (c_X9_fine (rdP a.tx a.tn).2.1 (rdP_3 _ _) (by rw [u4_k (by omega)]; exact hT.2.1)) ?_)))))
      refine x_if_eq (pc' := 70) rfl rfl (fun h67 => absurd h67 (by rw [dT hz]; decide)) (fun h67 => ?_)
      refine x_iconst (pc' := 71) rfl rfl (x_goto rfl (x_putI (pc' := 81) rfl rfl rfl (x_aload_n (pc' := 82) rfl rfl rfl (x_invI1 (pc' := 85) rfl rfl rfl (c_X9_fine (rdP a.tx a.tn).2.1 (rdP_3 _ _) (by rw [u4_k (by omega), u4_k (by omega)]; exact hT.2.1)) ?_))))
      refine x_if_ne (pc' := 88) rfl rfl (fun h85 => absurd h85 (by rw [dT hz]; decide)) (fun h85 => ?_)
      refine x_aload_n (pc' := 97) rfl rfl rfl (x_invQ1 (pc' := 100) rfl rfl rfl (c_X9_begin (rdP a.tx a.tn).2.2 (rdP_B _ _) (DM_cg (w := w') (fun q hq => by rw [u4_k (by omega), u4_k (by omega)]) (fun o q ho => by rw [u4_ne (ne3 (by omega)), u4_ne (ne3 (by omega))]) (hD hz))) (fun vq Mq hq97 => ?_))
      obtain ⟨rfl, w5, rfl, b1, b2, b3, b4, b5, b6, b7⟩ := hq97
      show WP l X _ md_X9_kingdom (100, _, [], _) _
      refine x_aload_n (pc' := 101) rfl rfl rfl (x_getI (pc' := 104) rfl rfl rfl ?_)
      rw [show w5 9 0 0 6 = nI (rdP a.tx a.tn).2.2.np from b1.2.2.1]
      refine x_iret rfl rfl ?_
      refine ok_id (by unfold f_kingdom; rw [if_pos hz]) (fun c i o q hc => by rw [b7 c i o q hc, u4_ne (ne3 (by omega)), u4_ne (ne3 (by omega))]; exact hf c i o q (by omega)) ?_
      unfold f_kingdom; rw [if_pos hz]
      refine ⟨b1, b2, ⟨b4.1, fun m hm => absurd hm (Nat.not_lt_zero m)⟩, ⟨b4.2.1, fun i hi hk => absurd hk Bool.false_ne_true⟩, ?_, ⟨b4.2.2.1, fun q hq => absurd hq (Nat.not_lt_zero q)⟩, ⟨b4.2.2.2, fun q hq => absurd hq (Nat.not_lt_zero q)⟩, ⟨by rw [b5, u4_k (by omega), u4_self]; rfl, fun q hq => absurd hq (Nat.not_lt_zero q)⟩, by rw [b6, u4_self]; rfl⟩
      rw [b3, u4_ne (by decide), u4_ne (by decide), hf 9 0 1 129 (by omega)]; exact r5
    · refine x_aload_n (pc' := 58) rfl rfl rfl (x_iconst (pc' := 59) rfl rfl (x_putI (pc' := 62) rfl rfl rfl (x_aload_n (pc' := 63) rfl rfl rfl (x_aload_n (pc' := 64) rfl rfl rfl (x_invI1 (pc' := 67) rfl rfl rfl (c_X9_fine (rdP a.tx a.tn).2.1 (rdP_3 _ _) (by rw [u4_k (by omega)]; exact hT.2.1)) ?_)))))
      refine x_if_eq (pc' := 70) rfl rfl (fun h67 => ?_) (fun h67 => absurd (by rw [dF hz]; rfl) h67)
      refine x_aload_n (pc' := 75) rfl rfl rfl (x_getI (pc' := 78) rfl rfl rfl ?_)
      rw [u4_k (by omega), hT.2.2.1 hz]
      refine x_putI (pc' := 81) rfl rfl rfl (x_aload_n (pc' := 82) rfl rfl rfl (x_invI1 (pc' := 85) rfl rfl rfl (c_X9_fine (rdP a.tx a.tn).2.1 (rdP_3 _ _) (by rw [u4_k (by omega), u4_k (by omega)]; exact hT.2.1)) ?_))
      refine x_if_ne (pc' := 88) rfl rfl (fun h85 => ?_) (fun h85 => absurd (by rw [dF hz]; rfl) h85)
      refine x_bipush (pc' := 90) rfl rfl (x_aload_n (pc' := 91) rfl rfl rfl (x_getI (pc' := 94) rfl rfl rfl ?_))
      rw [u4_k (by omega), u4_k (by omega), hT.2.1]
      refine x_isub (pc' := 95) rfl rfl ?_
      refine x_iret rfl rfl ?_
      have e0 : ∀ q, q < 20 → q ≠ 12 → q ≠ 13 → u4 (u4 w' 9 0 0 12 (nI 0)) 9 0 0 13 (rdP a.tx a.tn).2.1.2 9 0 0 q = w 9 0 0 q := fun q h1 h2 h3 => by rw [u4_k h3, u4_k h2]; exact hf 9 0 0 q (by omega)
      have eo : ∀ c i o q, ¬ (c = 9 ∧ i = 0 ∧ o = 0) → u4 (u4 w' 9 0 0 12 (nI 0)) 9 0 0 13 (rdP a.tx a.tn).2.1.2 c i o q = w' c i o q := fun c i o q h1 => by rw [u4_ne (ne3 h1), u4_ne (ne3 h1)]
      have e : ∀ o, 1 ≤ o → o < 29 → ∀ q, u4 (u4 w' 9 0 0 12 (nI 0)) 9 0 0 13 (rdP a.tx a.tn).2.1.2 9 0 o q = w 9 0 o q := fun o h1 h2 q => (eo 9 0 o q (by omega)).trans (hf 9 0 o q (by omega))
      refine ok_id (by unfold f_kingdom; rw [if_neg hz]) (fun c i o q hc => (eo c i o q (by omega)).trans (hf c i o q (by omega))) ?_
      unfold f_kingdom; rw [if_neg hz]
      refine ⟨?_, RR_cg (fun q _ _ => e 1 (by omega) (by omega) q) hK r2, PaM_cg (e0 9 (by omega) (by omega) (by omega)) (fun q _ => e 1 (by omega) (by omega) q) hK r3, ImM_cg (e0 10 (by omega) (by omega) (by omega)) (fun q _ _ => e 1 (by omega) (by omega) q) hK r4, (e 1 (by omega) (by omega) 129).trans r5, SeM_cg (e0 16 (by omega) (by omega) (by omega)) (e 15 (by omega) (by omega)) (e 16 (by omega) (by omega)) r6, BoM_cg (e0 19 (by omega) (by omega) (by omega)) (e 18 (by omega) (by omega)) (e 19 (by omega) (by omega)) r7, ⟨by rw [u4_k (by omega), u4_self]; rfl, fun q hq => absurd hq (Nat.not_lt_zero q)⟩, u4_self _ _ _ _ _ _⟩
      show KM _ a.K
      unfold KM
      rw [e0 4 (by omega) (by omega) (by omega), e0 5 (by omega) (by omega) (by omega), e0 6 (by omega) (by omega) (by omega), e0 8 (by omega) (by omega) (by omega), e0 7 (by omega) (by omega) (by omega)]
      simp only [e 2 (by omega) (by omega), e 3 (by omega) (by omega), e 4 (by omega) (by omega)]
      exact r1
