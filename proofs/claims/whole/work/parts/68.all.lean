/-! objects are made -/
theorem od_6 : ∀ j, j < 30 → ∀ k, k < 7 → ordL[21 + 7 * j + k]? = some (6, 2 + j, k) := by decide +kernel
theorem od_2 : ∀ j, j < 2 → ordL[249 + 8 * j]? = some (2, j, 0) ∧ ∀ k, k < 7 → ordL[249 + 8 * j + 1 + k]? = some (6, 32 + j, k) := by decide +kernel
theorem od_60 : ∀ k, k < 6 → ordL[4 + k]? = some (6, 0, k + 1) := by decide +kernel
theorem od_61 : ∀ k, k < 6 → ordL[11 + k]? = some (6, 1, k + 1) := by decide +kernel
theorem od_40 : ∀ k, k < 4 → ordL[240 + k]? = some (4, 0, k + 1) := by decide +kernel
theorem od_41 : ∀ k, k < 4 → ordL[245 + k]? = some (4, 1, k + 1) := by decide +kernel
set_option maxRecDepth 20000 in
theorem c_X2_init {l : Launch} {X : XT} {d Lz : Nat} {w : WF} {fl : Nat → Nat → Nat → Bool} (N i : Nat) (ho : ∀ k, k < 7 → ordL[N + k]? = some (6, 32 + i, k)) (hz : ∀ q, w 2 i 0 q = nI 0) (h6 : ∀ q, w 6 (32 + i) 0 q = nI 0) : WP l X (d + 2) md_X2_init (en md_X2_init [.inr (.inr (2, i, 0))] (N, fl, Lz, w)) (fun v M' => v = none ∧ ∃ fl', M' = (N + 1 + 6, fl', Lz, w) ∧ FW fl fl' ∧ fls fl' 2 i 1 ∧ fls fl' 6 (32 + i) 6) := by
  show WP l X _ md_X2_init (0, [some (.inr (.inr (2, i, 0)))], [], _) _
  refine x_aload_n (pc' := 1) rfl rfl rfl (x_spO (pc' := 4) rfl rfl rfl (x_aload_n (pc' := 5) rfl rfl rfl (x_new (pc' := 8) rfl rfl (ho 0 (by decide)) (x_dup (pc' := 9) rfl rfl rfl (x_spQ1 (pc' := 12) rfl rfl (by decide) rfl (c_X6_init (N + 1) (32 + i) (fun k hk => by have := ho (k + 1) (by omega); rwa [← Nat.add_assoc, Nat.add_right_comm] at this) h6) (fun vq Mq hq9 => ?_))))))
  obtain ⟨rfl, f1, rfl, s1, g1⟩ := hq9
  show WP l X _ md_X2_init (12, _, [_, _], _) _
  refine x_putR (pc' := 15) rfl rfl (by decide) rfl (x_aload_n (pc' := 16) rfl rfl rfl (x_iconst (pc' := 17) rfl rfl (x_putI (pc' := 20) rfl rfl rfl (x_aload_n (pc' := 21) rfl rfl rfl (x_iconst (pc' := 22) rfl rfl ?_)))))
  refine x_putZ (pc' := 25) rfl rfl rfl (by decide) ?_
  refine x_vret rfl rfl ?_
  exact ⟨rfl, _, by rw [u4_id (c := 2) (i := i) (k := 1) (hz _), u4_id (c := 2) (i := i) (k := 2) (hz _)], s1.u 2 i 0, fls_u (fls_0 f1 2 i), g1.m ((FW.rf f1).u 2 i 0)⟩
set_option maxRecDepth 20000 in
theorem l_X3_init {l : Launch} {X : XT} {d Lz : Nat} {w : WF} {fl : Nat → Nat → Nat → Bool} (hz6 : ∀ i q, w 6 i 0 q = nI 0) : ∀ (kk i : Nat), ∀ (f : Nat → Nat → Nat → Bool), FW fl f → fls f 3 0 1 → (∀ j, j < i → f 3 0 (1000 + j) = true ∧ fls f 6 (2 + j) 6) →  i ≤ 30 → 30 + 1 ≤ i + kk → WP l X (d + 2) md_X3_init (25, [some (.inr (.inr (3, 0, 0))), some (.inl (nI i))], [], (21 + 7 * i, f, Lz, w)) (fun v M' => v = none ∧ ∃ fl', M' = (231, fl', Lz, w) ∧ FW fl fl' ∧ fls fl' 3 0 1 ∧ (∀ j, j < 30 → fl' 3 0 (1000 + j) = true ∧ fls fl' 6 (2 + j) 6)) := by
  intro kk
  induction kk with
  | zero =>
    intro i f hs g3 gj h1 h2
    exact absurd h2 (by omega)
  | succ kk ih =>
    intro i f hs g3 gj hi1 hi2
    refine x_iload_n (pc' := 26) rfl rfl rfl (x_bipush (pc' := 28) rfl rfl ?_)
    refine x_icmp_geN (pc' := 31) rfl rfl (by omega) (by omega) (fun h28 => ?_) (fun h28 => ?_)
    · refine x_vret rfl rfl ?_
      have e : i = 30 := by omega
      subst e
      exact ⟨rfl, f, rfl, hs, g3, gj⟩
    · refine x_aload_n (pc' := 32) rfl rfl rfl (x_getR (pc' := 35) (t := (3, _, 1)) rfl rfl (exF_r (by decide) (g3 0 (by omega)) rfl) (x_iload_n (pc' := 36) rfl rfl rfl (x_new (pc' := 39) rfl rfl (od_6 i h28 0 (by omega)) (x_dup (pc' := 40) rfl rfl rfl (x_spQ1 (pc' := 43) rfl rfl (by decide) rfl (c_X6_init (21 + 7 * i + 1) (2 + i) (fun k hk => by have := od_6 i h28 (k + 1) (by omega); rwa [← Nat.add_assoc, Nat.add_right_comm] at this) (hz6 (2 + i))) (fun vq Mq hq40 => ?_))))))
      obtain ⟨rfl, f1, rfl, s1, g1⟩ := hq40
      show WP l X _ md_X3_init (43, _, [_, _, _], _) _
      refine x_aast (pc' := 44) rfl rfl rfl (by decide) (show i < 30 from h28) rfl (x_iinc1 (pc' := 47) rfl rfl rfl (nI_add _ _) (x_goto rfl ?_))
      have s2 : FW f f1 := s1
      have s3 : FW f1 (uf f1 3 0 (1000 + i)) := (FW.rf f1).u 3 0 (1000 + i)
      refine WPc (ih (i + 1) (uf f1 3 0 (1000 + i)) ((hs.tr s1).u 3 0 (1000 + i)) (g3.m (s1.tr s3)) (fun j hj => ?_) (by omega) (by omega)) rfl ?_
      · by_cases z : j = i
        · subst z; exact ⟨uf_t f1 3 0 (1000 + j), g1.m s3⟩
        · exact ⟨s3 _ _ _ (s1 _ _ _ (gj j (by omega)).1), (gj j (by omega)).2.m (s1.tr s3)⟩
      · rw [show 21 + 7 * i + 1 + 6 = 21 + 7 * (i + 1) by omega]
set_option maxRecDepth 20000 in
theorem c_X3_init {l : Launch} {X : XT} {d Lz : Nat} {w : WF} {fl : Nat → Nat → Nat → Bool} (hz : ∀ q, w 3 0 0 q = nI 0) (hz6 : ∀ i q, w 6 i 0 q = nI 0) : WP l X (d + 2) md_X3_init (en md_X3_init [.inr (.inr (3, 0, 0))] (20, fl, Lz, w)) (fun v M' => v = none ∧ ∃ fl', M' = (231, fl', Lz, w) ∧ FW fl fl' ∧ fls fl' 3 0 1 ∧ (∀ j, j < 30 → fl' 3 0 (1000 + j) = true ∧ fls fl' 6 (2 + j) 6)) := by
  show WP l X _ md_X3_init (0, [some (.inr (.inr (3, 0, 0))), none], [], _) _
  refine x_aload_n (pc' := 1) rfl rfl rfl (x_spO (pc' := 4) rfl rfl rfl (x_aload_n (pc' := 5) rfl rfl rfl (x_bipush (pc' := 7) rfl rfl (x_anewarr (pc' := 10) rfl rfl (by decide +kernel) rfl rfl (by decide) (by decide) (x_putR (pc' := 13) rfl rfl (by decide) rfl ?_)))))
  refine x_aload_n (pc' := 14) rfl rfl rfl (x_iconst (pc' := 15) rfl rfl (x_putI (pc' := 18) rfl rfl rfl (x_aload_n (pc' := 19) rfl rfl rfl (x_iconst (pc' := 20) rfl rfl (x_putI (pc' := 23) rfl rfl rfl ?_)))))
  refine x_iconst (pc' := 24) rfl rfl (x_istore_n1 (pc' := 25) rfl rfl rfl ?_)
  rw [u4_id (c := 3) (i := 0) (k := 1) (hz _), u4_id (c := 3) (i := 0) (k := 2) (hz _)]
  exact l_X3_init hz6 31 0 _ ((FW.rf fl).u 3 0 0) (fls_u (fls_0 fl 3 0)) (fun j hj => absurd hj (by omega)) (by omega) (by omega)
def FL1 (f : Nat → Nat → Nat → Bool) : Prop := fls f 8 0 10 ∧ fls f 7 0 1 ∧ fls f 6 0 6 ∧ fls f 6 1 6 ∧ fls f 1 0 1 ∧ fls f 3 0 1 ∧ (∀ j, j < 30 → f 3 0 (1000 + j) = true ∧ fls f 6 (2 + j) 6) ∧ fls f 5 0 3 ∧ fls f 0 0 2 ∧ fls f 4 0 4 ∧ fls f 4 1 4
theorem FL1.m {f g : Nat → Nat → Nat → Bool} (h : FL1 f) (s : FW f g) : FL1 g := by
  obtain ⟨h1, h2, h3, h4, h5, h6, h7, h8, h9, h10, h11⟩ := h
  exact ⟨h1.m s, h2.m s, h3.m s, h4.m s, h5.m s, h6.m s, fun j hj => ⟨s _ _ _ (h7 j hj).1, (h7 j hj).2.m s⟩, h8.m s, h9.m s, h10.m s, h11.m s⟩
def FL2 (f : Nat → Nat → Nat → Bool) (n : Nat) : Prop := ∀ j, j < n → f 8 0 (1000 + j) = true ∧ fls f 2 j 1 ∧ fls f 6 (32 + j) 6
def wA (w : WF) : WF := u4 (u4 (u4 (u4 (u4 (u4 (u4 w 7 0 0 4 (-1)) 1 0 0 2 (-1)) 1 0 0 3 (-1)) 4 0 0 4 (-1)) 8 0 0 8 (nI 0)) 4 1 0 4 (-1)) 8 0 0 9 (nI 1)
set_option maxRecDepth 20000 in
theorem l_X8_init {l : Launch} {X : XT} {d Lz : Nat} {w : WF} {fl : Nat → Nat → Nat → Bool} (hz6 : ∀ i q, w 6 i 0 q = nI 0) (hz2 : ∀ i q, w 2 i 0 q = nI 0) : ∀ (kk i : Nat), ∀ (f : Nat → Nat → Nat → Bool), FW fl f → FL1 f → FL2 f i →  i ≤ 2 → 2 + 1 ≤ i + kk → WP l X (d + 3) md_X8_init (118, [some (.inr (.inr (8, 0, 0))), some (.inl (nI i))], [], (249 + 8 * i, f, Lz, w)) (fun v M' => v = none ∧ ∃ fl', M' = (265, fl', Lz, w) ∧ FW fl fl' ∧ FL1 fl' ∧ FL2 fl' 2) := by
  intro kk
  induction kk with
  | zero =>
    intro i f hs g1 g2 h1 h2
    exact absurd h2 (by omega)
  | succ kk ih =>
    intro i f hs g1 g2 hi1 hi2
    refine x_iload_n (pc' := 119) rfl rfl rfl (x_iconst (pc' := 120) rfl rfl ?_)
    refine x_icmp_geN (pc' := 123) rfl rfl (by omega) (by omega) (fun h120 => ?_) (fun h120 => ?_)
    · refine x_vret rfl rfl ?_
      have e : i = 2 := by omega
      subst e
      exact ⟨rfl, f, rfl, hs, g1, g2⟩
    · refine x_aload_n (pc' := 124) rfl rfl rfl (x_getR (pc' := 127) (t := (8, _, 6)) rfl rfl (exF_r (by decide) (g1.1 5 (by omega)) rfl) (x_iload_n (pc' := 128) rfl rfl rfl (x_new (pc' := 131) rfl rfl (od_2 i h120).1 (x_dup (pc' := 132) rfl rfl rfl (x_spQ1 (pc' := 135) rfl rfl (by decide) rfl (c_X2_init (249 + 8 * i + 1) i (od_2 i h120).2 (hz2 i) (hz6 (32 + i))) (fun vq Mq hq132 => ?_))))))
      obtain ⟨rfl, f1, rfl, s1, g3, g4⟩ := hq132
      show WP l X _ md_X8_init (135, _, [_, _, _], _) _
      refine x_aast (pc' := 136) rfl rfl rfl (by decide) (show i < 2 from h120) rfl (x_iinc1 (pc' := 139) rfl rfl rfl (nI_add _ _) (x_goto rfl ?_))
      have s3 : FW f1 (uf f1 8 0 (1000 + i)) := (FW.rf f1).u 8 0 (1000 + i)
      refine WPc (ih (i + 1) (uf f1 8 0 (1000 + i)) ((hs.tr s1).u 8 0 (1000 + i)) (g1.m (s1.tr s3)) (fun j hj => ?_) (by omega) (by omega)) rfl ?_
      · by_cases z : j = i
        · subst z; exact ⟨uf_t f1 8 0 (1000 + j), g3.m s3, g4.m s3⟩
        · exact ⟨s3 _ _ _ (s1 _ _ _ (g2 j (by omega)).1), (g2 j (by omega)).2.1.m (s1.tr s3), (g2 j (by omega)).2.2.m (s1.tr s3)⟩
      · rw [show 249 + 8 * i + 1 + 1 + 6 = 249 + 8 * (i + 1) by omega]
set_option maxRecDepth 20000 in
theorem c_X8_init {l : Launch} {X : XT} {d Lz : Nat} {w : WF} {fl : Nat → Nat → Nat → Bool} (hz : ∀ c i o q, c < 10 → w c i o q = nI 0) : WP l X (d + 3) md_X8_init (en md_X8_init [.inr (.inr (8, 0, 0))] (1, fl, Lz, w)) (fun v M' => v = none ∧ ∃ fl', M' = (265, fl', Lz, wA w) ∧ FW fl fl' ∧ FL1 fl' ∧ FL2 fl' 2) := by
  show WP l X _ md_X8_init (0, [some (.inr (.inr (8, 0, 0))), none], [], _) _
  refine x_aload_n (pc' := 1) rfl rfl rfl (x_spO (pc' := 4) rfl rfl rfl (x_aload_n (pc' := 5) rfl rfl rfl (x_new (pc' := 8) rfl rfl (by decide +kernel) (x_dup (pc' := 9) rfl rfl rfl (x_spQ1 (pc' := 12) rfl rfl (by decide) rfl (c_X7_init (fun q => hz _ _ _ _ (by decide))) (fun vq Mq hq9 => ?_))))))
  obtain ⟨rfl, f1, rfl, s1, g1⟩ := hq9
  show WP l X _ md_X8_init (12, _, [_, _], _) _
  refine x_putR (pc' := 15) rfl rfl (by decide) rfl (x_aload_n (pc' := 16) rfl rfl rfl (x_new (pc' := 19) rfl rfl (by decide +kernel) (x_dup (pc' := 20) rfl rfl rfl (x_spQ1 (pc' := 23) rfl rfl (by decide) rfl (c_X6_init 4 0 od_60 (fun q => by rw [u4_ne (by decide)]; exact hz _ _ _ _ (by decide))) (fun vq Mq hq20 => ?_)))))
  obtain ⟨rfl, f2, rfl, s2, g2⟩ := hq20
  show WP l X _ md_X8_init (23, _, [_, _], _) _
  refine x_putR (pc' := 26) rfl rfl (by decide) rfl (x_aload_n (pc' := 27) rfl rfl rfl (x_new (pc' := 30) rfl rfl (by decide +kernel) (x_dup (pc' := 31) rfl rfl rfl (x_spQ1 (pc' := 34) rfl rfl (by decide) rfl (c_X6_init 11 1 od_61 (fun q => by rw [u4_ne (by decide)]; exact hz _ _ _ _ (by decide))) (fun vq Mq hq31 => ?_)))))
  obtain ⟨rfl, f3, rfl, s3, g3⟩ := hq31
  show WP l X _ md_X8_init (34, _, [_, _], _) _
  refine x_putR (pc' := 37) rfl rfl (by decide) rfl (x_aload_n (pc' := 38) rfl rfl rfl (x_new (pc' := 41) rfl rfl (by decide +kernel) (x_dup (pc' := 42) rfl rfl rfl (x_spQ1 (pc' := 45) rfl rfl (by decide) rfl (c_X1_init (fun q => by rw [u4_ne (by decide)]; exact hz _ _ _ _ (by decide))) (fun vq Mq hq42 => ?_)))))
  obtain ⟨rfl, f4, rfl, s4, g4⟩ := hq42
  show WP l X _ md_X8_init (45, _, [_, _], _) _
  refine x_putR (pc' := 48) rfl rfl (by decide) rfl (x_aload_n (pc' := 49) rfl rfl rfl (x_new (pc' := 52) rfl rfl (by decide +kernel) (x_dup (pc' := 53) rfl rfl rfl (x_spQ1 (pc' := 56) rfl rfl (by decide) rfl (c_X3_init (fun q => by rw [u4_ne (by decide), u4_ne (by decide), u4_ne (by decide)]; exact hz _ _ _ _ (by decide)) (fun i q => by rw [u4_ne (by intro z; cases z), u4_ne (by intro z; cases z), u4_ne (by intro z; cases z)]; exact hz _ _ _ _ (by decide))) (fun vq Mq hq53 => ?_)))))
  obtain ⟨rfl, f5, rfl, s5, g5⟩ := hq53
  show WP l X _ md_X8_init (56, _, [_, _], _) _
  refine x_putR (pc' := 59) rfl rfl (by decide) rfl (x_aload_n (pc' := 60) rfl rfl rfl (x_iconst (pc' := 61) rfl rfl (x_anewarr (pc' := 64) rfl rfl (by decide +kernel) rfl rfl (by decide) (by decide) (x_putR (pc' := 67) rfl rfl (by decide) rfl (x_aload_n (pc' := 68) rfl rfl rfl ?_)))))
  refine x_new (pc' := 71) rfl rfl (by decide +kernel) (x_dup (pc' := 72) rfl rfl rfl (x_spQ1 (pc' := 75) rfl rfl (by decide) rfl (c_X5_init (fun q => by rw [u4_ne (by decide), u4_ne (by decide), u4_ne (by decide)]; exact hz _ _ _ _ (by decide))) (fun vq Mq hq72 => ?_)))
  obtain ⟨rfl, f6, rfl, s6, g6⟩ := hq72
  show WP l X _ md_X8_init (75, _, [_, _], _) _
  refine x_putR (pc' := 78) rfl rfl (by decide) rfl (x_aload_n (pc' := 79) rfl rfl rfl (x_new (pc' := 82) rfl rfl (by decide +kernel) (x_dup (pc' := 83) rfl rfl rfl (x_spQ1 (pc' := 86) rfl rfl (by decide) rfl (c_X0_init (fun q => by rw [u4_ne (by decide), u4_ne (by decide), u4_ne (by decide)]; exact hz _ _ _ _ (by decide))) (fun vq Mq hq83 => ?_)))))
  obtain ⟨rfl, f7, rfl, s7, g7⟩ := hq83
  show WP l X _ md_X8_init (86, _, [_, _], _) _
  refine x_putR (pc' := 89) rfl rfl (by decide) rfl (x_aload_n (pc' := 90) rfl rfl rfl (x_new (pc' := 93) rfl rfl (by decide +kernel) (x_dup (pc' := 94) rfl rfl rfl (x_spQ1 (pc' := 97) rfl rfl (by decide) rfl (c_X4_init 240 0 od_40 (fun q => by rw [u4_ne (by decide), u4_ne (by decide), u4_ne (by decide)]; exact hz _ _ _ _ (by decide))) (fun vq Mq hq94 => ?_)))))
  obtain ⟨rfl, f8, rfl, s8, g8⟩ := hq94
  show WP l X _ md_X8_init (97, _, [_, _], _) _
  refine x_put5G (pc' := 100) rfl rfl rfl (by decide) (x_aload_n (pc' := 101) rfl rfl rfl (x_new (pc' := 104) rfl rfl (by decide +kernel) (x_dup (pc' := 105) rfl rfl rfl (x_spQ1 (pc' := 108) rfl rfl (by decide) rfl (c_X4_init 245 1 od_41 (fun q => by rw [u4_ne (by decide), u4_ne (by decide), u4_ne (by decide), u4_ne (by decide), u4_ne (by decide)]; exact hz _ _ _ _ (by decide))) (fun vq Mq hq105 => ?_)))))
  obtain ⟨rfl, f9, rfl, s9, g9⟩ := hq105
  show WP l X _ md_X8_init (108, _, [_, _], _) _
  refine x_put5G (pc' := 111) rfl rfl rfl (by decide) (x_aload_n (pc' := 112) rfl rfl rfl (x_iconst (pc' := 113) rfl rfl (x_putI (pc' := 116) rfl rfl rfl (x_iconst (pc' := 117) rfl rfl (x_istore_n1 (pc' := 118) rfl rfl rfl ?_)))))
  have t9 : FW f9 (uf f9 8 0 9) := (FW.rf f9).u 8 0 9
  have t8 : FW f8 (uf f9 8 0 9) := ((FW.rf f8).u 8 0 8).tr (s9.tr t9)
  have t7 : FW f7 (uf f9 8 0 9) := ((FW.rf f7).u 8 0 7).tr (s8.tr t8)
  have t6 : FW f6 (uf f9 8 0 9) := ((FW.rf f6).u 8 0 6).tr (s7.tr t7)
  have t5 : FW f5 (uf f9 8 0 9) := (((FW.rf f5).u 8 0 4).u 8 0 5).tr (s6.tr t6)
  have t4 : FW f4 (uf f9 8 0 9) := ((FW.rf f4).u 8 0 3).tr (s5.tr t5)
  have t3 : FW f3 (uf f9 8 0 9) := ((FW.rf f3).u 8 0 2).tr (s4.tr t4)
  have t2 : FW f2 (uf f9 8 0 9) := ((FW.rf f2).u 8 0 1).tr (s3.tr t3)
  have t1 : FW f1 (uf f9 8 0 9) := ((FW.rf f1).u 8 0 0).tr (s2.tr t2)
  have e1 := fls_u (fls_0 f1 8 0)
  have e2 := fls_u (e1.m s2)
  have e3 := fls_u (e2.m s3)
  have e4 := fls_u (e3.m s4)
  have e5 := fls_u (fls_u (e4.m s5))
  have e6 := fls_u (e5.m s6)
  have e7 := fls_u (e6.m s7)
  have e8 := fls_u (e7.m s8)
  have e9 := fls_u (e8.m s9)
  rw [u4_id (c := 8) (i := 0) (k := 10) (by rw [u4_k (by omega), u4_ne (by decide), u4_k (by omega), u4_ne (by decide), u4_ne (by decide), u4_ne (by decide), u4_ne (by decide)]; exact hz _ _ _ _ (by decide))]
  refine wp_cons (l_X8_init (w := wA w) (fun i q => by unfold wA; rw [u4_ne (by intro z; cases z), u4_ne (by intro z; cases z), u4_ne (by intro z; cases z), u4_ne (by intro z; cases z), u4_ne (by intro z; cases z), u4_ne (by intro z; cases z), u4_ne (by intro z; cases z)]; exact hz _ _ _ _ (by decide)) (fun i q => by unfold wA; rw [u4_ne (by intro z; cases z), u4_ne (by intro z; cases z), u4_ne (by intro z; cases z), u4_ne (by intro z; cases z), u4_ne (by intro z; cases z), u4_ne (by intro z; cases z), u4_ne (by intro z; cases z)]; exact hz _ _ _ _ (by decide)) 3 0 (uf f9 8 0 9) (FW.rf _) ⟨e9, g1.m t1, g2.m t2, g3.m t3, g4.m t4, g5.1.m t5, fun j hj => ⟨t5 _ _ _ (g5.2 j hj).1, (g5.2 j hj).2.m t5⟩, g6.m t6, g7.m t7, g8.m t8, g9.m t9⟩ (fun j hj => absurd hj (by omega)) (by omega) (by omega)) ?_
  rintro v M ⟨q1, f, q2, q3, q4⟩
  exact ⟨q1, f, q2, (s1.tr t1).tr q3, q4⟩
set_option maxRecDepth 20000 in
theorem c_X9_init {l : Launch} {X : XT} {d Lz : Nat} {w : WF} {fl : Nat → Nat → Nat → Bool} (hz : ∀ i o q, w 9 i o q = nI 0) : WP l X (d + 1) md_X9_init (en md_X9_init [.inr (.inr (9, 0, 0))] (266, fl, Lz, w)) (fun v M' => v = none ∧ ∃ fl', M' = (279, fl', Lz, u4 (u4 w 9 0 0 4 (-1)) 9 0 0 13 (-1)) ∧ FW fl fl' ∧ ∀ k, k < 32 → 2 ≤ fk 9 k → fl' 9 0 k = true) := by
  show WP l X _ md_X9_init (0, [some (.inr (.inr (9, 0, 0)))], [], _) _
  refine x_aload_n (pc' := 1) rfl rfl rfl (x_spO (pc' := 4) rfl rfl rfl (x_aload_n (pc' := 5) rfl rfl rfl (x_sipush (pc' := 8) rfl rfl (x_newarr (pc' := 10) (c1 := 9) (i := 0) (o := 0) rfl rfl (by decide +kernel) rfl rfl (by decide) (x_putR (pc' := 13) rfl rfl (by decide) rfl ?_)))))
  refine x_aload_n (pc' := 14) rfl rfl rfl (x_bipush (pc' := 16) rfl rfl (x_newarr (pc' := 18) (c1 := 9) (i := 0) (o := 1) rfl rfl (by decide +kernel) rfl rfl (by decide) (x_putR (pc' := 21) rfl rfl (by decide) rfl (x_aload_n (pc' := 22) rfl rfl rfl (x_iconst (pc' := 23) rfl rfl ?_)))))
  refine x_newarr (pc' := 25) (c1 := 9) (i := 0) (o := 2) rfl rfl (by decide +kernel) rfl rfl (by decide) (x_putR (pc' := 28) rfl rfl (by decide) rfl (x_aload_n (pc' := 29) rfl rfl rfl (x_bipush (pc' := 31) rfl rfl (x_newarr (pc' := 33) (c1 := 9) (i := 0) (o := 3) rfl rfl (by decide +kernel) rfl rfl (by decide) (x_putR (pc' := 36) rfl rfl (by decide) rfl ?_)))))
  refine x_aload_n (pc' := 37) rfl rfl rfl (x_iconst (pc' := 38) rfl rfl (x_putI (pc' := 41) rfl rfl rfl (x_aload_n (pc' := 42) rfl rfl rfl (x_sipush (pc' := 45) rfl rfl (x_newarr (pc' := 47) (c1 := 9) (i := 0) (o := 11) rfl rfl (by decide +kernel) rfl rfl (by decide) ?_)))))
  refine x_putR (pc' := 50) rfl rfl (by decide) rfl (x_aload_n (pc' := 51) rfl rfl rfl (x_iconst (pc' := 52) rfl rfl (x_putI (pc' := 55) rfl rfl rfl (x_aload_n (pc' := 56) rfl rfl rfl (x_bipush (pc' := 58) rfl rfl ?_)))))
  refine x_newarr (pc' := 60) (c1 := 9) (i := 0) (o := 14) rfl rfl (by decide +kernel) rfl rfl (by decide) (x_putR (pc' := 63) rfl rfl (by decide) rfl (x_aload_n (pc' := 64) rfl rfl rfl (x_bipush (pc' := 66) rfl rfl (x_newarr (pc' := 68) (c1 := 9) (i := 0) (o := 15) rfl rfl (by decide +kernel) rfl rfl (by decide) (x_putR (pc' := 71) rfl rfl (by decide) rfl ?_)))))
  refine x_aload_n (pc' := 72) rfl rfl rfl (x_bipush (pc' := 74) rfl rfl (x_newarr (pc' := 76) (c1 := 9) (i := 0) (o := 17) rfl rfl (by decide +kernel) rfl rfl (by decide) (x_putR (pc' := 79) rfl rfl (by decide) rfl (x_aload_n (pc' := 80) rfl rfl rfl (x_bipush (pc' := 82) rfl rfl ?_)))))
  refine x_newarr (pc' := 84) (c1 := 9) (i := 0) (o := 18) rfl rfl (by decide +kernel) rfl rfl (by decide) (x_putR (pc' := 87) rfl rfl (by decide) rfl (x_aload_n (pc' := 88) rfl rfl rfl (x_bipush (pc' := 90) rfl rfl (x_newarr (pc' := 92) (c1 := 9) (i := 0) (o := 28) rfl rfl (by decide +kernel) rfl rfl (by decide) (x_putR (pc' := 95) rfl rfl (by decide) rfl ?_)))))
  refine x_aload_n (pc' := 96) rfl rfl rfl (x_bipush (pc' := 98) rfl rfl (x_newarr (pc' := 100) (c1 := 9) (i := 0) (o := 29) rfl rfl (by decide +kernel) rfl rfl (by decide) (x_putR (pc' := 103) rfl rfl (by decide) rfl (x_aload_n (pc' := 104) rfl rfl rfl (x_iconst (pc' := 105) rfl rfl ?_)))))
  refine x_newarr (pc' := 107) (c1 := 9) (i := 0) (o := 30) rfl rfl (by decide +kernel) rfl rfl (by decide) (x_putR (pc' := 110) rfl rfl (by decide) rfl (x_aload_n (pc' := 111) rfl rfl rfl (x_bipush (pc' := 113) rfl rfl (x_newarr (pc' := 115) (c1 := 9) (i := 0) (o := 31) rfl rfl (by decide +kernel) rfl rfl (by decide) (x_putR (pc' := 118) rfl rfl (by decide) rfl ?_)))))
  refine x_aload_n (pc' := 119) rfl rfl rfl (x_getR (pc' := 122) (t := (9, _, 1)) rfl rfl (exF_r (by decide) rfl rfl) (x_sipush (pc' := 125) rfl rfl (x_iconst (pc' := 126) rfl rfl (x_iast (pc' := 127) (N := 4420) rfl rfl rfl (by decide) rfl (by omega) (by decide) ?_))))
  refine x_vret rfl rfl ?_
  refine ⟨rfl, _, ?_, ((((((((((((((FW.rf fl).u 9 0 0).u 9 0 1).u 9 0 2).u 9 0 3).u 9 0 11).u 9 0 14).u 9 0 15).u 9 0 17).u 9 0 18).u 9 0 28).u 9 0 29).u 9 0 30).u 9 0 31), fun k hk h2 => ?_⟩
  · rw [u4_id (c := 9) (i := 0) (o := 1) (k := 129) (by rw [u4_ne (by decide), u4_ne (by decide)]; exact hz _ _ _)]
  · have hm := (by decide : ∀ k, k < 32 → 2 ≤ fk 9 k → k ∈ [0, 1, 2, 3, 11, 14, 15, 17, 18, 28, 29, 30, 31]) k hk h2
    simp only [List.mem_cons, List.not_mem_nil, or_false] at hm
    rcases hm with rfl | rfl | rfl | rfl | rfl | rfl | rfl | rfl | rfl | rfl | rfl | rfl | rfl <;> rfl
/-- all that is made, by kinds -/
theorem od_k : ∀ k, k < 279 → (od k).2.2 = 0 → (od k).1 < 10 ∧ (od k).2.1 < [1, 1, 2, 1, 2, 1, 34, 1, 1, 1].getD (od k).1 0 := by decide +kernel
theorem od_r : ∀ k, k < 279 → isRA (od k).1 (od k).2.2 = true → ((od k).1 = 3 ∧ (od k).2.1 = 0 ∧ al (od k).1 (od k).2.2 = 30) ∨ ((od k).1 = 8 ∧ (od k).2.1 = 0 ∧ al (od k).1 (od k).2.2 = 2) := by decide +kernel
theorem fk_n : ∀ c, c < 10 → ∀ k, k < nF c → 2 ≤ fk c k → c = 9 ∨ k < [2, 1, 1, 1, 4, 3, 6, 1, 10, 0].getD c 0 := by decide +kernel
theorem FL_1 {f : Nat → Nat → Nat → Bool} (h : FL1 f) (h2 : FL2 f 2) (h9 : ∀ k, k < 32 → 2 ≤ fk 9 k → f 9 0 k = true) {c i k : Nat} (hs : sq (c, i, 0) < 279) (hk : k < nF c) (hf : 2 ≤ fk c k) : f c i k = true := by
  have e := od_sq hs
  have hm := od_k (sq (c, i, 0)) hs (by rw [e])
  rw [e] at hm
  obtain ⟨f8, f7, f60, f61, f1, f3, f6, f5, f0, f40, f41⟩ := h
  have hc : c < 10 := hm.1
  have hi : i < [1, 1, 2, 1, 2, 1, 34, 1, 1, 1].getD c 0 := hm.2
  have hn := fk_n c hc k hk hf
  rcases (by omega : c = 0 ∨ c = 1 ∨ c = 2 ∨ c = 3 ∨ c = 4 ∨ c = 5 ∨ c = 6 ∨ c = 7 ∨ c = 8 ∨ c = 9) with rfl | rfl | rfl | rfl | rfl | rfl | rfl | rfl | rfl | rfl
  · have hi : i < 1 := hi
    rw [show i = 0 by omega]; exact f0 k (by rcases hn with y | y; omega; exact y)
  · have hi : i < 1 := hi
    rw [show i = 0 by omega]; exact f1 k (by rcases hn with y | y; omega; exact y)
  · exact (h2 i hi).2.1 k (by rcases hn with y | y; omega; exact y)
  · have hi : i < 1 := hi
    rw [show i = 0 by omega]; exact f3 k (by rcases hn with y | y; omega; exact y)
  · have hk4 : k < 4 := by rcases hn with y | y; omega; exact y
    have hi : i < 2 := hi
    by_cases z0 : i = 0
    · rw [z0]; exact f40 k hk4
    · rw [show i = 1 by omega]; exact f41 k hk4
  · have hi : i < 1 := hi
    rw [show i = 0 by omega]; exact f5 k (by rcases hn with y | y; omega; exact y)
  · have hk6 : k < 6 := by rcases hn with y | y; omega; exact y
    have hi : i < 34 := hi
    by_cases z0 : i = 0
    · rw [z0]; exact f60 k hk6
    · by_cases z1 : i = 1
      · rw [z1]; exact f61 k hk6
      · by_cases z2 : i < 32
        · have := (f6 (i - 2) (by omega)).2 k hk6
          rwa [show 2 + (i - 2) = i by omega] at this
        · have := (h2 (i - 32) (by omega)).2.2 k hk6
          rwa [show 32 + (i - 32) = i by omega] at this
  · have hi : i < 1 := hi
    rw [show i = 0 by omega]; exact f7 k (by rcases hn with y | y; omega; exact y)
  · have hi : i < 1 := hi
    rw [show i = 0 by omega]; exact f8 k (by rcases hn with y | y; omega; exact y)
  · have hi : i < 1 := hi
    rw [show i = 0 by omega]; exact h9 k hk hf
theorem FL_2 {f : Nat → Nat → Nat → Bool} (h : FL1 f) (h2 : FL2 f 2) {c i o j : Nat} (hs : sq (c, i, o) < 279) (hr : isRA c o = true) (hj : j < al c o) : f c i (1000 + j) = true := by
  have e := od_sq hs
  have hm := od_r (sq (c, i, o)) hs (by rw [e]; exact hr)
  rw [e] at hm
  rcases hm with ⟨rfl, rfl, ha⟩ | ⟨rfl, rfl, ha⟩
  · exact (h.2.2.2.2.2.2.1 j (by have ha : al 3 o = 30 := ha; omega)).1
  · exact (h2 j (by have ha : al 8 o = 2 := ha; omega)).1
/-- all flags are set: then which of them, nobody asks -/
theorem sim_fl {X : XT} {fl : Nat → Nat → Nat → Bool} {Lz : Nat} {w : WF} {H : Heap} (h1 : ∀ c i k, sq (c, i, 0) < 279 → k < nF c → 2 ≤ fk c k → fl c i k = true) (h2 : ∀ c i o j, sq (c, i, o) < 279 → isRA c o = true → j < al c o → fl c i (1000 + j) = true) (hS : Sim X (279, fl, Lz, w) H) : Sim X (mk Lz w) H := by
  obtain ⟨s1, s2, s3, s4, s5, s6⟩ := hS
  refine ⟨s1, ?_, fun c i o hq => ?_, fun c i o a b => absurd b (Nat.not_lt.mpr a), s5, s6⟩
  · intro k q hk
    have hl : k < 279 := by
      have := (List.getElem?_eq_some_iff.mp hk).1
      rwa [wld_len] at this
    rw [wld_get (M := mk Lz w) hl] at hk
    cases hk
    have hold := s2 k _ (wld_get (M := (279, fl, Lz, w)) hl)
    have hsq : sq (od k) < 279 := by rw [sq_od k hl]; exact hl
    generalize od k = a at hold hsq ⊢
    obtain ⟨c, i, o⟩ := a
    cases o with
    | zero =>
      have e : ce X (mk Lz w) (c, i, 0) = ce X (279, fl, Lz, w) (c, i, 0) := by
        show Sum.inr (c, (List.range (nF c)).map (fv X (mk Lz w) c i)) = Sum.inr (c, (List.range (nF c)).map (fv X (279, fl, Lz, w) c i))
        congr 2
        apply List.map_congr_left
        intro k hk
        have hk := List.mem_range.mp hk
        unfold fv
        split
        · rfl
        · rfl
        · rename_i m e
          show (bif true then _ else _) = (bif fl c i k then _ else _)
          rw [h1 c i k hsq hk (by omega)]
      rw [e]; exact hold
    | succ o =>
      cases hb : (fk c o).beq 3 with
      | false =>
        have e : ce X (mk Lz w) (c, i, o + 1) = ce X (279, fl, Lz, w) (c, i, o + 1) := by
          show (bif (fk c o).beq 3 then _ else _) = (bif (fk c o).beq 3 then _ else _)
          rw [hb]; rfl
        rw [e]; exact hold
      | true =>
        have hra : isRA c (o + 1) = true := hb
        rw [ce_ra hra] at hold ⊢
        have hold : H[xB X + k]? = some (vp_cell (cR X c) (al c (o + 1), .inr (.inr (.inr (.inr (fun j => bif fl c i (1000 + j) then some (xB X + sq (et c j)) else none)))))) := hold
        show H[xB X + k]? = some (vp_cell (cR X c) (al c (o + 1), .inr (.inr (.inr (.inr (fun j => bif true then some (xB X + sq (et c j)) else none))))))
        have ev : ∀ f : Nat → Option Nat, vp_cell (cR X c) (al c (o + 1), .inr (.inr (.inr (.inr f)))) = arrV (cR X c) (al c (o + 1)) (fun j => va_rf (f j)) := fun _ => rfl
        rw [hold, ev, ev]
        congr 1
        unfold arrV
        congr 1
        apply Array.ext
        · simp
        · intro j a1 a2
          simp only [Array.getElem_ofFn]
          rw [h2 c i (o + 1) j hsq hra (by simpa using a2)]
  · obtain ⟨o1, o2⟩ := s3 c i o hq
    refine ⟨fun e k a b _ => ?_, fun e j a _ => ?_⟩
    · subst e; exact o1 rfl k a b (h1 c i k hq a b)
    · exact o2 e j a (h2 c i o j hq e a)
theorem wp_fl {l : Launch} {X : XT} {d pc Lz : Nat} {md : MD} {L : List (Option AV)} {st : List AV} {fl : Nat → Nat → Nat → Bool} {w : WF} {Q : Option AV → Mem → Prop} (h1 : ∀ c i k, sq (c, i, 0) < 279 → k < nF c → 2 ≤ fk c k → fl c i k = true) (h2 : ∀ c i o j, sq (c, i, o) < 279 → isRA c o = true → j < al c o → fl c i (1000 + j) = true) (h : WP l X d md (pc, L, st, mk Lz w) Q) : WP l X d md (pc, L, st, (279, fl, Lz, w)) Q := fun mi e => by
  obtain ⟨v, M', hq, g1, g2, g3⟩ := h mi e
  exact ⟨v, M', hq, g1, g2, fun p e R s m args below meth c Q H locs cells slots ls hP hz hc hs hS hV hL hk hR => g3 p e R s m args below meth c Q H locs cells slots ls hP hz hc hs (sim_fl h1 h2 hS) hV hL hk hR⟩
