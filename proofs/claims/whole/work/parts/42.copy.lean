/-! more of a state's own -/
theorem x_getR5 {l : Launch} {X : XT} {d pc pc' : Nat} {md : MD} {len a b c : Nat} {v : Int32} {lg : Int64} {ks : List (Int32 × Nat)} {L : List (Option AV)} {st : List AV} {Q : Option AV → Mem → Prop} {mn ml : Nat} {mf : Nat → Nat → Nat → Bool} {mw : Nat → Nat → Nat → Nat → Int32} {i n : Nat} (hr : cRow md.2.2.2.2.2.2 pc = some (.getfield n, len, a, b, c, v, lg, ks)) (hp : pc + 3 = pc') (hk : exF (mn, mf, ml, mw) a i b = some (.inr (.inr (4, (mw a i 0 b).toNatClampNeg, 0)))) (K : WP l X (d + 1) md (pc', L, .inr (.inr (4, (mw a i 0 b).toNatClampNeg, 0)) :: st, (mn, mf, ml, mw)) Q) : WP l X (d + 1) md (pc, L, .inr (.inr (a, i, 0)) :: st, (mn, mf, ml, mw)) Q := x_getR hr hp hk K
theorem x_tswG {l : Launch} {X : XT} {d pc : Nat} {md : MD} {len a b c : Nat} {v : Int32} {lg : Int64} {ks : List (Int32 × Nat)} {L : List (Option AV)} {st : List AV} {M : Mem} {Q : Option AV → Mem → Prop} {x : Int32} {df lo hi : Int} {offs : Array Int} (hr : cRow md.2.2.2.2.2.2 pc = some (.tableswitch df lo hi offs, len, a, b, c, v, lg, ks)) (K : WP l X (d + 1) md (swT x ks a, L, st, M) Q) : WP l X (d + 1) md (pc, L, .inl x :: st, M) Q := x_tsw hr rfl K
theorem x_lswG {l : Launch} {X : XT} {d pc : Nat} {md : MD} {len a b c : Nat} {v : Int32} {lg : Int64} {ks : List (Int32 × Nat)} {L : List (Option AV)} {st : List AV} {M : Mem} {Q : Option AV → Mem → Prop} {x : Int32} {df : Int} {ps : Array (Int × Int)} (hr : cRow md.2.2.2.2.2.2 pc = some (.lookupswitch df ps, len, a, b, c, v, lg, ks)) (K : WP l X (d + 1) md (swT x ks a, L, st, M) Q) : WP l X (d + 1) md (pc, L, .inl x :: st, M) Q := x_lsw hr rfl K
theorem sw_c {l : Launch} {X : XT} {d : Nat} {md : MD} {L : List (Option AV)} {st : List AV} {M : Mem} {Q : Option AV → Mem → Prop} {x k : Int32} {t df : Nat} {r : List (Int32 × Nat)} (h1 : x = k → WP l X d md (t, L, st, M) Q) (h2 : ¬ x = k → WP l X d md (swT x r df, L, st, M) Q) : WP l X d md (swT x ((k, t) :: r) df, L, st, M) Q := by
  by_cases z : x = k
  · have e : swT x ((k, t) :: r) df = t := by simp only [swT, if_pos z]
    rw [e]; exact h1 z
  · have e : swT x ((k, t) :: r) df = swT x r df := by simp only [swT, if_neg z]
    rw [e]; exact h2 z
theorem sw_n {l : Launch} {X : XT} {d : Nat} {md : MD} {L : List (Option AV)} {st : List AV} {M : Mem} {Q : Option AV → Mem → Prop} {x : Int32} {df : Nat} (h : WP l X d md (df, L, st, M) Q) : WP l X d md (swT x [] df, L, st, M) Q := h
/-- one state is made like another -/
def CPY (w : WF) (i i2 : Nat) (w' : WF) : Prop := (∀ o q, (o = 0 → 6 ≤ q ∧ q ≤ 8) → o ≤ 6 → w' 6 i o q = w 6 i2 o q) ∧ ∀ c i' o q, ¬ (c = 6 ∧ i' = i) → w' c i' o q = w c i' o q
theorem RC_cg {w w' : WF} {K : Kg} {i : Nat} {s : Sa} (e : ∀ o q, w' 6 i o q = w 6 i o q) (h : RC w K i s) : RC w' K i s := by
  unfold RC
  simp only [e]
  exact h
theorem RC_cpy {w w' : WF} {K : Kg} {i i2 : Nat} {s : Sa} (h : RC w K i2 s) (hc : CPY w i i2 w') : RC w' K i s := by
  obtain ⟨h1, h2, h3, h4, h5, h6, h7, h8, h9⟩ := h
  have e := hc.1
  exact ⟨fun q hq => (e 1 q (by omega) (by omega)).trans (h1 q hq), fun q hq => (e 2 q (by omega) (by omega)).trans (h2 q hq), fun q hq => (e 3 q (by omega) (by omega)).trans (h3 q hq), fun q hq => (e 4 q (by omega) (by omega)).trans (h4 q hq), fun q hq => (e 5 q (by omega) (by omega)).trans (h5 q hq), (e 0 8 (by omega) (by omega)).trans h6, (e 0 7 (by omega) (by omega)).trans h7, (e 0 6 (by omega) (by omega)).trans h8, fun n t a b c => (e 6 _ (by omega) (by omega)).trans (h9 n t a b c)⟩
theorem RC_fr {w w' : WF} {K : Kg} {i i2 : Nat} {s : Sa} (h : RC w K i2 s) (hc : frS i w w') (hn : ¬ i2 = i) : RC w' K i2 s := RC_cg (fun o q => hc 6 i2 o q (by omega) (fun y => hn y.2)) h
theorem CPY.fr {w w' : WF} {i i2 : Nat} (h : CPY w i i2 w') : frS i w w' := fun c i' o q _ h2 => h.2 c i' o q h2
set_option maxRecDepth 20000 in
theorem c_X6_copyFrom {l : Launch} {X : XT} {d Lz : Nat} {w : Nat → Nat → Nat → Nat → Int32} (i i2 : Nat) (hii : ¬ i2 = i) (hz : w 6 i2 0 8 = 0 ∨ w 6 i2 0 8 = 1) : WP l X (d + 1) md_X6_copyFrom (en md_X6_copyFrom [.inr (.inr (6, i, 0)), .inr (.inr (6, i2, 0))] (mk Lz w)) (fun v M' => v = none ∧ ∃ w', M' = mk Lz w' ∧ CPY w i i2 w') := by
  show WP l X _ md_X6_copyFrom (0, [some (.inr (.inr (6, i, 0))), some (.inr (.inr (6, i2, 0)))], [], _) _
  refine x_aload_n (pc' := 1) rfl rfl rfl (x_getR (pc' := 4) (t := (6, _, 1)) rfl rfl rfl (x_iconst (pc' := 5) rfl rfl (x_aload_n (pc' := 6) rfl rfl rfl (x_getR (pc' := 9) (t := (6, _, 1)) rfl rfl rfl (x_iconst (pc' := 10) rfl rfl ?_)))))
  refine x_bipush (pc' := 12) rfl rfl (x_acopy (pc' := 15) (N := 21) rfl rfl rfl rfl rfl rfl rfl (by decide) (x_aload_n (pc' := 16) rfl rfl rfl (x_getR (pc' := 19) (t := (6, _, 2)) rfl rfl rfl (x_iconst (pc' := 20) rfl rfl (x_aload_n (pc' := 21) rfl rfl rfl ?_)))))
  refine x_getR (pc' := 24) (t := (6, _, 2)) rfl rfl rfl (x_iconst (pc' := 25) rfl rfl (x_bipush (pc' := 27) rfl rfl (x_acopy (pc' := 30) (N := 7) rfl rfl rfl rfl rfl rfl rfl (by decide) (x_aload_n (pc' := 31) rfl rfl rfl (x_getR (pc' := 34) (t := (6, _, 3)) rfl rfl rfl ?_)))))
  refine x_iconst (pc' := 35) rfl rfl (x_aload_n (pc' := 36) rfl rfl rfl (x_getR (pc' := 39) (t := (6, _, 3)) rfl rfl rfl (x_iconst (pc' := 40) rfl rfl (x_bipush (pc' := 42) rfl rfl (x_acopy (pc' := 45) (N := 7) rfl rfl rfl rfl rfl rfl rfl (by decide) ?_)))))
  refine x_aload_n (pc' := 46) rfl rfl rfl (x_getR (pc' := 49) (t := (6, _, 4)) rfl rfl rfl (x_iconst (pc' := 50) rfl rfl (x_aload_n (pc' := 51) rfl rfl rfl (x_getR (pc' := 54) (t := (6, _, 4)) rfl rfl rfl (x_iconst (pc' := 55) rfl rfl ?_)))))
  refine x_bipush (pc' := 57) rfl rfl (x_acopy (pc' := 60) (N := 7) rfl rfl rfl rfl rfl rfl rfl (by decide) (x_aload_n (pc' := 61) rfl rfl rfl (x_getR (pc' := 64) (t := (6, _, 5)) rfl rfl rfl (x_iconst (pc' := 65) rfl rfl (x_aload_n (pc' := 66) rfl rfl rfl ?_)))))
  refine x_getR (pc' := 69) (t := (6, _, 5)) rfl rfl rfl (x_iconst (pc' := 70) rfl rfl (x_iconst (pc' := 71) rfl rfl (x_acopy (pc' := 74) (N := 4) rfl rfl rfl rfl rfl rfl rfl (by decide) (x_aload_n (pc' := 75) rfl rfl rfl (x_getR (pc' := 78) (t := (6, _, 6)) rfl rfl rfl ?_)))))
  refine x_iconst (pc' := 79) rfl rfl (x_aload_n (pc' := 80) rfl rfl rfl (x_getR (pc' := 83) (t := (6, _, 6)) rfl rfl rfl (x_iconst (pc' := 84) rfl rfl (x_bipush (pc' := 86) rfl rfl (x_acopy (pc' := 89) (N := 80) rfl rfl rfl rfl rfl rfl rfl (by decide) ?_)))))
  refine x_aload_n (pc' := 90) rfl rfl rfl (x_aload_n (pc' := 91) rfl rfl rfl (x_getI (pc' := 94) rfl rfl rfl (x_putI (pc' := 97) rfl rfl rfl (x_aload_n (pc' := 98) rfl rfl rfl (x_aload_n (pc' := 99) rfl rfl rfl ?_)))))
  refine x_getI (pc' := 102) rfl rfl rfl (x_putI (pc' := 105) rfl rfl rfl (x_aload_n (pc' := 106) rfl rfl rfl (x_aload_n (pc' := 107) rfl rfl rfl (x_getI (pc' := 110) rfl rfl rfl (x_putZ (pc' := 113) rfl rfl rfl (by simpa [u4, uc, hii] using hz) ?_)))))
  refine x_vret rfl rfl ?_
  refine ⟨rfl, _, rfl, fun o q hq ho => ?_, fun c i' o q hn => ?_⟩
  · have h7 : o = 0 ∨ o = 1 ∨ o = 2 ∨ o = 3 ∨ o = 4 ∨ o = 5 ∨ o = 6 := by omega
    rcases h7 with rfl | rfl | rfl | rfl | rfl | rfl | rfl
    · have h8 := hq rfl
      have h9 : q = 6 ∨ q = 7 ∨ q = 8 := by omega
      rcases h9 with rfl | rfl | rfl <;> simp [u4, uc, hii]
    · simp [u4, uc, hii]
    · simp [u4, uc, hii]
    · simp [u4, uc, hii]
    · simp [u4, uc, hii]
    · simp [u4, uc, hii]
    · simp [u4, uc, hii]
  · have e1 : ∀ P : Prop, ¬ (c = 6 ∧ i' = i ∧ P) := fun P y => hn ⟨y.1, y.2.1⟩
    simp only [u4, uc, e1, if_false]
def psh (n : Nat) (pa : Nat → Sa) (s : Sa) : Nat → Sa := fun m => if n = 30 then (if m = 29 then s else pa (m + 1)) else (if m = n then s else pa m)
/-- what was so ahead -/
def PaC (w : WF) (K : Kg) (n : Nat) (pa : Nat → Sa) : Prop := w 3 0 0 2 = nI n ∧ ∃ t, t < 30 ∧ w 3 0 0 1 = nI t ∧ ∀ m, m < n → RC w K (2 + (t + 30 - n + m) % 30) (pa m)
def frP (w w' : WF) : Prop := ∀ c i o q, ¬ (c = 3 ∧ i = 0 ∧ o = 0) → ¬ (c = 6 ∧ 2 ≤ i ∧ i < 32) → w' c i o q = w c i o q
theorem nI_min {n m : Nat} (hn : n < 2 ^ 31) (hm : m < 2 ^ 31) : mnI (nI n) (nI m) = nI (min n m) := by
  unfold mnI
  by_cases z : m < n
  · rw [if_pos ((nI_ltI hm hn).mpr z), Nat.min_eq_right (by omega)]
  · rw [if_neg (fun y => z ((nI_ltI hm hn).mp y)), Nat.min_eq_left (by omega)]
set_option maxRecDepth 20000 in
theorem c_X3_remember {l : Launch} {X : XT} {d Lz : Nat} {w : Nat → Nat → Nat → Nat → Int32} {K : Kg} {s : Sa} (n : Nat) (pa : Nat → Sa) (h0 : RC w K 0 s) (hs : SV s) (hP : PaC w K n pa) (h30 : n ≤ 30) : WP l X (d + 2) md_X3_remember (en md_X3_remember [.inr (.inr (3, 0, 0)), .inr (.inr (6, 0, 0))] (mk Lz w)) (fun v M' => v = none ∧ ∃ w', M' = mk Lz w' ∧ PaC w' K (min (n + 1) 30) (psh n pa s) ∧ frP w w') := by
  obtain ⟨hn, t, ht3, ht, hp⟩ := hP
  have hz : w 6 0 0 8 = 0 ∨ w 6 0 0 8 = 1 := by rw [h0.2.2.2.2.2.1]; exact hs.1
  show WP l X _ md_X3_remember (0, [some (.inr (.inr (3, 0, 0))), some (.inr (.inr (6, 0, 0)))], [], _) _
  refine x_aload_n (pc' := 1) rfl rfl rfl (x_getR (pc' := 4) (t := (3, _, 1)) rfl rfl rfl (x_aload_n (pc' := 5) rfl rfl rfl (x_getI (pc' := 8) rfl rfl rfl ?_)))
  rw [ht]
  refine x_aald (pc' := 9) (N := 30) rfl rfl rfl (by decide) rfl rfl ht3 (by decide) (x_aload_n (pc' := 10) rfl rfl rfl (x_invQ2 (pc' := 13) rfl rfl rfl rfl (c_X6_copyFrom (2 + t) 0 (by omega) hz) (fun vq Mq hq10 => ?_)))
  obtain ⟨rfl, w1, rfl, hc⟩ := hq10
  show WP l X _ md_X3_remember (13, _, [], _) _
  refine x_aload_n (pc' := 14) rfl rfl rfl (x_aload_n (pc' := 15) rfl rfl rfl (x_getI (pc' := 18) rfl rfl rfl ?_))
  rw [hc.2 3 0 0 1 (by omega), ht]
  refine x_iconst (pc' := 19) rfl rfl (x_iaddN (pc' := 20) rfl rfl (x_bipush (pc' := 22) rfl rfl (x_iremN (pc' := 23) rfl rfl (by decide) (by omega) (by decide) (x_putI (pc' := 26) rfl rfl rfl (x_aload_n (pc' := 27) rfl rfl rfl ?_)))))
  refine x_aload_n (pc' := 28) rfl rfl rfl (x_getI (pc' := 31) rfl rfl rfl ?_)
  rw [u4_k (by omega), hc.2 3 0 0 2 (by omega), hn]
  refine x_iconst (pc' := 32) rfl rfl (x_iaddN (pc' := 33) rfl rfl (x_bipush (pc' := 35) rfl rfl (x_invS2 (pc' := 38) rfl rfl rfl rfl rfl (c_J9_min_7cf53 _ _) ?_)))
  rw [nI_min (by omega) (by omega)]
  refine x_putI (pc' := 41) rfl rfl rfl ?_
  refine x_vret rfl rfl ?_
  refine ⟨rfl, _, rfl, ⟨u4_self _ _ _ _ _ _, (t + 1) % 30, by omega, ?_, fun m hm => ?_⟩, fun c i o q h1 h2 => ?_⟩
  · rw [u4_k (by omega), u4_self]
  · have e : ∀ i o q, u4 (u4 w1 3 0 0 1 (nI ((t + 1) % 30))) 3 0 0 2 (nI (min (n + 1) 30)) 6 i o q = w1 6 i o q := fun i o q => by rw [u4_ne (by intro z; cases z), u4_ne (by intro z; cases z)]
    refine RC_cg (w := w1) (fun o q => e _ o q) ?_
    unfold psh
    by_cases z : n = 30
    · rw [if_pos z]
      subst z
      by_cases y : m = 29
      · rw [if_pos y, show 2 + ((t + 1) % 30 + 30 - min (30 + 1) 30 + m) % 30 = 2 + t by omega]; exact RC_cpy h0 hc
      · rw [if_neg y, show 2 + ((t + 1) % 30 + 30 - min (30 + 1) 30 + m) % 30 = 2 + (t + 30 - 30 + (m + 1)) % 30 by omega]; exact RC_fr (hp (m + 1) (by omega)) hc.fr (by omega)
    · rw [if_neg z]
      by_cases y : m = n
      · rw [if_pos y, show 2 + ((t + 1) % 30 + 30 - min (n + 1) 30 + m) % 30 = 2 + t by omega]; exact RC_cpy h0 hc
      · rw [if_neg y, show 2 + ((t + 1) % 30 + 30 - min (n + 1) 30 + m) % 30 = 2 + (t + 30 - n + m) % 30 by omega]; exact RC_fr (hp m (by omega)) hc.fr (by omega)
  · rw [u4_ne (ne3 h1), u4_ne (ne3 h1)]; exact hc.2 c i o q (by omega)
set_option maxRecDepth 20000 in
theorem c_X3_takeBack {l : Launch} {X : XT} {d Lz : Nat} {w : Nat → Nat → Nat → Nat → Int32} {K : Kg} (n m : Nat) (pa : Nat → Sa) (hs : SV (pa (n - m))) (hP : PaC w K n pa) (h30 : n ≤ 30) (hm1 : 1 ≤ m) (hm : m ≤ n) : WP l X (d + 2) md_X3_takeBack (en md_X3_takeBack [.inr (.inr (3, 0, 0)), .inr (.inr (6, 0, 0)), .inl (nI m)] (mk Lz w)) (fun v M' => v = none ∧ ∃ w', M' = mk Lz w' ∧ RC w' K 0 (pa (n - m)) ∧ PaC w' K (n - m) pa ∧ (∀ c i o q, ¬ (c = 3 ∧ i = 0 ∧ o = 0) → ¬ (c = 6 ∧ i = 0) → w' c i o q = w c i o q)) := by
  obtain ⟨hn, t, ht3, ht, hp⟩ := hP
  have hrc0 := hp (n - m) (by omega)
  rw [show 2 + (t + 30 - n + (n - m)) % 30 = 2 + (t + 30 - m) % 30 by omega] at hrc0
  have hrc : RC (u4 (u4 w 3 0 0 1 (nI ((t + 30 - m) % 30))) 3 0 0 2 (nI (n - m))) K (2 + (t + 30 - m) % 30) (pa (n - m)) := RC_cg (fun o q => by rw [u4_ne (by intro z; cases z), u4_ne (by intro z; cases z)]) hrc0
  have hz2 : u4 (u4 w 3 0 0 1 (nI ((t + 30 - m) % 30))) 3 0 0 2 (nI (n - m)) 6 (2 + (t + 30 - m) % 30) 0 8 = 0 ∨ u4 (u4 w 3 0 0 1 (nI ((t + 30 - m) % 30))) 3 0 0 2 (nI (n - m)) 6 (2 + (t + 30 - m) % 30) 0 8 = 1 := by rw [hrc.2.2.2.2.2.1]; exact hs.1
  show WP l X _ md_X3_takeBack (0, [some (.inr (.inr (3, 0, 0))), some (.inr (.inr (6, 0, 0))), some (.inl (nI m))], [], _) _
  refine x_iload_n (pc' := 1) rfl rfl rfl (x_iconst (pc' := 2) rfl rfl ?_)
  refine x_icmp_ltN (pc' := 5) rfl rfl (by omega) (by omega) (fun h2 => ?_) (fun h2 => ?_)
  · refine x_vret rfl rfl ?_
    exact absurd hm1 (by omega)
  · refine x_iload_n (pc' := 6) rfl rfl rfl (x_aload_n (pc' := 7) rfl rfl rfl (x_getI (pc' := 10) rfl rfl rfl ?_))
    rw [hn]
    refine x_icmp_leN (pc' := 13) rfl rfl (by omega) (by omega) (fun h10 => ?_) (fun h10 => ?_)
    · refine x_aload_n (pc' := 15) rfl rfl rfl (x_aload_n (pc' := 16) rfl rfl rfl (x_getI (pc' := 19) rfl rfl rfl ?_))
      rw [ht]
      refine x_bipush (pc' := 21) rfl rfl (x_iaddN (pc' := 22) rfl rfl (x_iload_n (pc' := 23) rfl rfl rfl (x_isubN (pc' := 24) rfl rfl (by first | assumption | omega) (x_bipush (pc' := 26) rfl rfl (x_iremN (pc' := 27) rfl rfl (by decide) (by omega) (by decide) ?_)))))
      refine x_putI (pc' := 30) rfl rfl rfl (x_aload_n (pc' := 31) rfl rfl rfl (x_dup (pc' := 32) rfl rfl rfl (x_getI (pc' := 35) rfl rfl rfl ?_)))
      rw [u4_k (by omega), hn]
      refine x_iload_n (pc' := 36) rfl rfl rfl (x_isubN (pc' := 37) rfl rfl (by first | assumption | omega) (x_putI (pc' := 40) rfl rfl rfl (x_aload_n (pc' := 41) rfl rfl rfl (x_aload_n (pc' := 42) rfl rfl rfl (x_getR (pc' := 45) (t := (3, _, 1)) rfl rfl rfl ?_)))))
      refine x_aload_n (pc' := 46) rfl rfl rfl (x_getI (pc' := 49) rfl rfl rfl ?_)
      rw [u4_k (by omega), u4_self]
      refine x_aald (pc' := 50) (N := 30) rfl rfl rfl (by decide) rfl rfl (by omega) (by decide) (x_invQ2 (pc' := 53) rfl rfl rfl rfl (c_X6_copyFrom 0 (2 + (t + 30 - m) % 30) (by omega) hz2) (fun vq Mq hq50 => ?_))
      obtain ⟨rfl, w1, rfl, hc⟩ := hq50
      show WP l X _ md_X3_takeBack (53, _, [], _) _
      refine x_vret rfl rfl ?_
      refine ⟨rfl, _, rfl, RC_cpy hrc hc, ⟨?_, (t + 30 - m) % 30, by omega, ?_, fun p hp2 => ?_⟩, fun c i o q h1 h2 => ?_⟩
      · rw [hc.2 3 0 0 2 (by omega), u4_self]
      · rw [hc.2 3 0 0 1 (by omega), u4_k (by omega), u4_self]
      · refine RC_cg (w := w) (fun o q => ?_) ?_
        · rw [hc.2 6 _ o q (by omega), u4_ne (by intro z; cases z), u4_ne (by intro z; cases z)]
        · rw [show 2 + ((t + 30 - m) % 30 + 30 - (n - m) + p) % 30 = 2 + (t + 30 - n + p) % 30 by omega]; exact hp p (by omega)
      · rw [hc.2 c i o q h2, u4_ne (ne3 h1), u4_ne (ne3 h1)]
    · refine x_vret rfl rfl ?_
      exact absurd hm1 (by omega)
