/-! objects are made: rules -/
theorem x_new {l : Launch} {X : XT} {d pc pc' : Nat} {md : MD} {len a b c : Nat} {v : Int32} {lg : Int64} {ks : List (Int32 × Nat)} {L : List (Option AV)} {st : List AV} {Q : Option AV → Mem → Prop} {mn ml : Nat} {mf : Nat → Nat → Nat → Bool} {mw : Nat → Nat → Nat → Nat → Int32} {i n : Nat} (hr : cRow md.2.2.2.2.2.2 pc = some (.new n, len, a, b, c, v, lg, ks)) (hp : pc + 3 = pc') (ho : ordL[mn]? = some (a, i, 0)) (K : WP l X (d + 1) md (pc', L, .inr (.inr (a, i, 0)) :: st, (mn + 1, mf, ml, mw)) Q) : WP l X (d + 1) md (pc, L, st, (mn, mf, ml, mw)) Q := wp_next (by
  rw [st_of hr, ← hp]
  simp only [exI]
  rw [ho]
  simp only [Nat.beq_refl, cond_true]; rfl) K
theorem x_newarr {l : Launch} {X : XT} {d pc pc' : Nat} {md : MD} {len a b c : Nat} {v : Int32} {lg : Int64} {ks : List (Int32 × Nat)} {L : List (Option AV)} {st : List AV} {Q : Option AV → Mem → Prop} {mn ml : Nat} {mf : Nat → Nat → Nat → Bool} {mw : Nat → Nat → Nat → Nat → Int32} {c1 i o N : Nat} {n : ArrayType} (hr : cRow md.2.2.2.2.2.2 pc = some (.newarray n, len, a, b, c, v, lg, ks)) (hp : pc + 2 = pc') (ho : ordL[mn]? = some (c1, i, o + 1)) (hi : isIA c1 (o + 1) = true) (hN : al c1 (o + 1) = N) (hl : N < 2 ^ 31) (K : WP l X (d + 1) md (pc', L, .inr (.inr (c1, i, o + 1)) :: st, (mn + 1, mf, ml, mw)) Q) : WP l X (d + 1) md (pc, L, .inl (nI N) :: st, (mn, mf, ml, mw)) Q := wp_next (by
  rw [st_of hr, ← hp]
  simp only [exI]
  rw [ho]
  simp only []
  rw [if_pos ⟨hi, nI_pos hl, by rw [nI_clamp hl, hN]⟩]; rfl) K
theorem x_anewarr {l : Launch} {X : XT} {d pc pc' : Nat} {md : MD} {len a b c : Nat} {v : Int32} {lg : Int64} {ks : List (Int32 × Nat)} {L : List (Option AV)} {st : List AV} {Q : Option AV → Mem → Prop} {mn ml : Nat} {mf : Nat → Nat → Nat → Bool} {mw : Nat → Nat → Nat → Nat → Int32} {c1 i o N n : Nat} (hr : cRow md.2.2.2.2.2.2 pc = some (.anewarray n, len, a, b, c, v, lg, ks)) (hp : pc + 3 = pc') (ho : ordL[mn]? = some (c1, i, o + 1)) (hi : isRA c1 (o + 1) = true) (hN : al c1 (o + 1) = N) (hl : N < 2 ^ 31) (ha : (c1 = 3 ∧ a = 6) ∨ (c1 = 8 ∧ a = 2)) (K : WP l X (d + 1) md (pc', L, .inr (.inr (c1, i, o + 1)) :: st, (mn + 1, mf, ml, mw)) Q) : WP l X (d + 1) md (pc, L, .inl (nI N) :: st, (mn, mf, ml, mw)) Q := wp_next (by
  rw [st_of hr, ← hp]
  simp only [exI]
  rw [ho]
  simp only []
  rw [if_pos ⟨hi, nI_pos hl, by rw [nI_clamp hl, hN], ha⟩]; rfl) K
theorem x_putR {l : Launch} {X : XT} {d pc pc' : Nat} {md : MD} {len a b c : Nat} {v : Int32} {lg : Int64} {ks : List (Int32 × Nat)} {L : List (Option AV)} {st : List AV} {Q : Option AV → Mem → Prop} {mn ml : Nat} {mf : Nat → Nat → Nat → Bool} {mw : Nat → Nat → Nat → Nat → Int32} {i n : Nat} {t : AA} (hr : cRow md.2.2.2.2.2.2 pc = some (.putfield n, len, a, b, c, v, lg, ks)) (hp : pc + 3 = pc') (hk : fk a b = 2 ∨ fk a b = 3 ∨ fk a b = 4) (ht : t = tg mw a i b) (K : WP l X (d + 1) md (pc', L, st, (mn, uf mf a i b, ml, mw)) Q) : WP l X (d + 1) md (pc, L, .inr (.inr t) :: .inr (.inr (a, i, 0)) :: st, (mn, mf, ml, mw)) Q := wp_next (by
  rw [st_of hr, ← hp]
  simp only [exI, Nat.beq_refl, cond_true]
  unfold exP
  rcases hk with h | h | h <;> rw [h] <;> simp only [if_pos ht] <;> rfl) K
theorem x_put5G {l : Launch} {X : XT} {d pc pc' : Nat} {md : MD} {len a b c : Nat} {v : Int32} {lg : Int64} {ks : List (Int32 × Nat)} {L : List (Option AV)} {st : List AV} {Q : Option AV → Mem → Prop} {mn ml : Nat} {mf : Nat → Nat → Nat → Bool} {mw : Nat → Nat → Nat → Nat → Int32} {i j n : Nat} (hr : cRow md.2.2.2.2.2.2 pc = some (.putfield n, len, a, b, c, v, lg, ks)) (hp : pc + 3 = pc') (hk : fk a b = 5) (hj : j < 2) (K : WP l X (d + 1) md (pc', L, st, (mn, uf mf a i b, ml, u4 mw a i 0 b (nI j))) Q) : WP l X (d + 1) md (pc, L, .inr (.inr (4, j, 0)) :: .inr (.inr (a, i, 0)) :: st, (mn, mf, ml, mw)) Q := wp_next (by
  rw [st_of hr, ← hp]
  simp only [exI, Nat.beq_refl, cond_true]
  unfold exP
  rw [hk]
  simp only [if_pos hj]; rfl) K
theorem x_aast {l : Launch} {X : XT} {d pc pc' : Nat} {md : MD} {len a b c : Nat} {v : Int32} {lg : Int64} {ks : List (Int32 × Nat)} {L : List (Option AV)} {st : List AV} {Q : Option AV → Mem → Prop} {mn ml : Nat} {mf : Nat → Nat → Nat → Bool} {mw : Nat → Nat → Nat → Nat → Int32} {c1 i o k : Nat} {t : AA} (hr : cRow md.2.2.2.2.2.2 pc = some (.aastore, len, a, b, c, v, lg, ks)) (hp : pc + 1 = pc') (hi : isRA c1 (o + 1) = true) (hl : al c1 (o + 1) < 2 ^ 31) (hk : k < al c1 (o + 1)) (ht : t = et c1 k) (K : WP l X (d + 1) md (pc', L, st, (mn, uf mf c1 i (1000 + k), ml, mw)) Q) : WP l X (d + 1) md (pc, L, .inr (.inr t) :: .inl (nI k) :: .inr (.inr (c1, i, o + 1)) :: st, (mn, mf, ml, mw)) Q := wp_next (by
  rw [st_of hr, ← hp]
  simp only [exI, hi, cond_true]
  rw [if_neg (by rw [nI_clamp (by omega)]; intro z; rcases z with (z | z) | z; exact nI_pos (by omega) z; omega; exact z ht), nI_clamp (by omega)]; rfl) K
theorem x_spO {l : Launch} {X : XT} {d pc pc' : Nat} {md : MD} {len a b : Nat} {v : Int32} {lg : Int64} {ks : List (Int32 × Nat)} {L : List (Option AV)} {st : List AV} {Q : Option AV → Mem → Prop} {mn ml : Nat} {mf : Nat → Nat → Nat → Bool} {mw : Nat → Nat → Nat → Nat → Int32} {n : Nat} {t : AA} (hr : cRow md.2.2.2.2.2.2 pc = some (.invokespecial n, len, a, b, 1, v, lg, ks)) (hp : pc + 3 = pc') (hs : st.length.ble 4 = true) (K : WP l X (d + 1) md (pc', L, st, (mn, mf, ml, mw)) Q) : WP l X (d + 1) md (pc, L, .inr (.inr t) :: st, (mn, mf, ml, mw)) Q := wp_next (by
  rw [st_of hr, ← hp]
  simp only [exI, hs, cond_true]; rfl) K
theorem x_spQ1 {l : Launch} {X : XT} {d pc pc' : Nat} {md : MD} {len a c : Nat} {v : Int32} {lg : Int64} {ks : List (Int32 × Nat)} {L : List (Option AV)} {st : List AV} {M : Mem} {Q : Option AV → Mem → Prop} {c1 i n : Nat} {Q1 : Option AV → Mem → Prop} (hr : cRow md.2.2.2.2.2.2 pc = some (.invokespecial n, len, a, 1, c, v, lg, ks)) (hp : pc + 3 = pc') (hc : c = 0 ∨ c = 2) (hs : st.length.ble 4 = true) (C : WP l X d (mdOf a) (en (mdOf a) [.inr (.inr (c1, i, 0))] M) Q1) (K : ∀ (v' : Option AV) (M' : Mem), Q1 v' M' → WP l X (d + 1) md (pc', L, v'.toList ++ st, M') Q) : WP l X (d + 1) md (pc, L, .inr (.inr (c1, i, 0)) :: st, M) Q := wp_call (S1 := (pc + 3, L, st, M)) (as := [.inr (.inr (c1, i, 0))]) (by
  rw [st_of hr]
  rcases hc with rfl | rfl <;> (simp only [exI, List.drop, List.take, Nat.add_one_sub_one, hs, cond_true]; rfl)) (by simp only [List.all_cons, List.all_nil]; rfl) C (fun v' M' h => by
  show WP l X (d + 1) md (pc + 3, L, _, M') Q
  rw [hp]; exact K v' M' h)
theorem exF_r {mn ml a i b : Nat} {mf : Nat → Nat → Nat → Bool} {mw : WF} {t : AA} (hk : 2 ≤ fk a b) (hf : mf a i b = true) (ht : tg mw a i b = t) : exF (mn, mf, ml, mw) a i b = some (.inr (.inr t)) := by
  unfold exF
  obtain ⟨k, e⟩ : ∃ k, fk a b = k + 2 := ⟨fk a b - 2, by omega⟩
  rw [e]
  simp only [hf, cond_true, ht]
def FW (f f' : Nat → Nat → Nat → Bool) : Prop := ∀ c i k, f c i k = true → f' c i k = true
theorem FW.rf (f : Nat → Nat → Nat → Bool) : FW f f := fun _ _ _ h => h
theorem FW.tr {f g h : Nat → Nat → Nat → Bool} (a : FW f g) (b : FW g h) : FW f h := fun c i k e => b c i k (a c i k e)
theorem FW.u {f g : Nat → Nat → Nat → Bool} (a : FW f g) (c i k : Nat) : FW f (uf g c i k) := fun c' i' k' e => by unfold uf; rw [a c' i' k' e, Bool.or_true]
theorem uf_t (f : Nat → Nat → Nat → Bool) (c i k : Nat) : uf f c i k c i k = true := by simp [uf]
theorem u4_id {w : WF} {c i o k : Nat} {v : Int32} (h : w c i o k = v) : u4 w c i o k v = w := by
  funext c' i' o' k'
  unfold u4
  split
  · rename_i e
    obtain ⟨rfl, rfl, rfl, rfl⟩ := e
    exact h.symm
  · rfl
/-- flags of an object's fields are set -/
def fls (f : Nat → Nat → Nat → Bool) (c i n : Nat) : Prop := ∀ k, k < n → f c i k = true
theorem fls.m {f g : Nat → Nat → Nat → Bool} {c i n : Nat} (h : fls f c i n) (e : FW f g) : fls g c i n := fun k hk => e c i k (h k hk)
theorem fls_0 (f : Nat → Nat → Nat → Bool) (c i : Nat) : fls f c i 0 := fun k hk => absurd hk (Nat.not_lt_zero k)
theorem fls_u {f : Nat → Nat → Nat → Bool} {c i n : Nat} (h : fls f c i n) : fls (uf f c i n) c i (n + 1) := fun k hk => by
  by_cases z : k = n
  · rw [z]; exact uf_t f c i n
  · exact (FW.rf f).u c i n c i k (h k (by omega))
set_option maxRecDepth 20000 in
theorem c_X6_init {l : Launch} {X : XT} {d Lz : Nat} {w : WF} {fl : Nat → Nat → Nat → Bool} (N i : Nat) (ho : ∀ k, k < 6 → ordL[N + k]? = some (6, i, k + 1)) (hz : ∀ q, w 6 i 0 q = nI 0) : WP l X (d + 1) md_X6_init (en md_X6_init [.inr (.inr (6, i, 0))] (N, fl, Lz, w)) (fun v M' => v = none ∧ ∃ fl', M' = (N + 6, fl', Lz, w) ∧ FW fl fl' ∧ fls fl' 6 i 6) := by
  show WP l X _ md_X6_init (0, [some (.inr (.inr (6, i, 0)))], [], _) _
  refine x_aload_n (pc' := 1) rfl rfl rfl (x_spO (pc' := 4) rfl rfl rfl (x_aload_n (pc' := 5) rfl rfl rfl (x_bipush (pc' := 7) rfl rfl (x_newarr (pc' := 9) (o := 0) rfl rfl (ho 0 (by decide)) rfl rfl (by decide) (x_putR (pc' := 12) rfl rfl (by decide) rfl ?_)))))
  refine x_aload_n (pc' := 13) rfl rfl rfl (x_bipush (pc' := 15) rfl rfl (x_newarr (pc' := 17) (o := 1) rfl rfl (ho 1 (by decide)) rfl rfl (by decide) (x_putR (pc' := 20) rfl rfl (by decide) rfl (x_aload_n (pc' := 21) rfl rfl rfl (x_bipush (pc' := 23) rfl rfl ?_)))))
  refine x_newarr (pc' := 25) (o := 2) rfl rfl (ho 2 (by decide)) rfl rfl (by decide) (x_putR (pc' := 28) rfl rfl (by decide) rfl (x_aload_n (pc' := 29) rfl rfl rfl (x_bipush (pc' := 31) rfl rfl (x_newarr (pc' := 33) (o := 3) rfl rfl (ho 3 (by decide)) rfl rfl (by decide) (x_putR (pc' := 36) rfl rfl (by decide) rfl ?_)))))
  refine x_aload_n (pc' := 37) rfl rfl rfl (x_iconst (pc' := 38) rfl rfl (x_newarr (pc' := 40) (o := 4) rfl rfl (ho 4 (by decide)) rfl rfl (by decide) (x_putR (pc' := 43) rfl rfl (by decide) rfl (x_aload_n (pc' := 44) rfl rfl rfl (x_bipush (pc' := 46) rfl rfl ?_)))))
  refine x_newarr (pc' := 48) (o := 5) rfl rfl (ho 5 (by decide)) rfl rfl (by decide) (x_putR (pc' := 51) rfl rfl (by decide) rfl (x_aload_n (pc' := 52) rfl rfl rfl (x_iconst (pc' := 53) rfl rfl (x_putI (pc' := 56) rfl rfl rfl (x_aload_n (pc' := 57) rfl rfl rfl ?_)))))
  refine x_iconst (pc' := 58) rfl rfl (x_putI (pc' := 61) rfl rfl rfl (x_aload_n (pc' := 62) rfl rfl rfl (x_iconst (pc' := 63) rfl rfl (x_putZ (pc' := 66) rfl rfl rfl (by decide) ?_))))
  refine x_vret rfl rfl ?_
  refine ⟨rfl, _, ?_, (((((((FW.rf fl).u 6 i 0).u 6 i 1).u 6 i 2).u 6 i 3).u 6 i 4).u 6 i 5), (fls_u (fls_u (fls_u (fls_u (fls_u (fls_u (fls_0 fl 6 i)))))))⟩
  show (_, _, _, _) = (_, _, _, _)
  first | (rw [u4_id (c := 6) (i := i) (k := 6) (by first | exact hz _ | (rw [u4_k (by omega)]; exact hz _) | (rw [u4_k (by omega), u4_k (by omega)]; exact hz _)), u4_id (c := 6) (i := i) (k := 7) (by first | exact hz _ | (rw [u4_k (by omega)]; exact hz _) | (rw [u4_k (by omega), u4_k (by omega)]; exact hz _)), u4_id (c := 6) (i := i) (k := 8) (by first | exact hz _ | (rw [u4_k (by omega)]; exact hz _) | (rw [u4_k (by omega), u4_k (by omega)]; exact hz _))]) | (rw [u4_id (c := 6) (i := i) (k := 6) (by first | exact hz _ | (rw [u4_k (by omega)]; exact hz _) | (rw [u4_k (by omega), u4_k (by omega)]; exact hz _)), u4_id (c := 6) (i := i) (k := 7) (by first | exact hz _ | (rw [u4_k (by omega)]; exact hz _) | (rw [u4_k (by omega), u4_k (by omega)]; exact hz _)), u4_id (c := 6) (i := i) (k := 8) (by first | exact hz _ | (rw [u4_k (by omega)]; exact hz _) | (rw [u4_k (by omega), u4_k (by omega)]; exact hz _))]; rfl)
set_option maxRecDepth 20000 in
theorem c_X7_init {l : Launch} {X : XT} {d Lz : Nat} {w : WF} {fl : Nat → Nat → Nat → Bool}  (hz : ∀ q, w 7 0 0 q = nI 0) : WP l X (d + 1) md_X7_init (en md_X7_init [.inr (.inr (7, 0, 0))] (2, fl, Lz, w)) (fun v M' => v = none ∧ ∃ fl', M' = (3, fl', Lz, (u4 w 7 0 0 4 (-1))) ∧ FW fl fl' ∧ fls fl' 7 0 1) := by
  show WP l X _ md_X7_init (0, [some (.inr (.inr (7, 0, 0)))], [], _) _
  refine x_aload_n (pc' := 1) rfl rfl rfl (x_spO (pc' := 4) rfl rfl rfl (x_aload_n (pc' := 5) rfl rfl rfl (x_sipush (pc' := 8) rfl rfl (x_newarr (pc' := 10)  rfl rfl (by decide +kernel) rfl rfl (by decide) (x_putR (pc' := 13) rfl rfl (by decide) rfl ?_)))))
  refine x_aload_n (pc' := 14) rfl rfl rfl (x_iconst (pc' := 15) rfl rfl (x_putI (pc' := 18) rfl rfl rfl (x_aload_n (pc' := 19) rfl rfl rfl (x_iconst (pc' := 20) rfl rfl (x_putI (pc' := 23) rfl rfl rfl ?_)))))
  refine x_aload_n (pc' := 24) rfl rfl rfl (x_iconst (pc' := 25) rfl rfl (x_putI (pc' := 28) rfl rfl rfl (x_aload_n (pc' := 29) rfl rfl rfl (x_iconst (pc' := 30) rfl rfl (x_putI (pc' := 33) rfl rfl rfl ?_)))))
  refine x_vret rfl rfl ?_
  refine ⟨rfl, _, ?_, ((FW.rf fl).u 7 0 0), (fls_u (fls_0 fl 7 0))⟩
  show (_, _, _, _) = (_, _, _, _)
  first | (rw [u4_id (c := 7) (i := 0) (k := 1) (by first | exact hz _ | (rw [u4_k (by omega)]; exact hz _) | (rw [u4_k (by omega), u4_k (by omega)]; exact hz _)), u4_id (c := 7) (i := 0) (k := 2) (by first | exact hz _ | (rw [u4_k (by omega)]; exact hz _) | (rw [u4_k (by omega), u4_k (by omega)]; exact hz _)), u4_id (c := 7) (i := 0) (k := 3) (by first | exact hz _ | (rw [u4_k (by omega)]; exact hz _) | (rw [u4_k (by omega), u4_k (by omega)]; exact hz _))]) | (rw [u4_id (c := 7) (i := 0) (k := 1) (by first | exact hz _ | (rw [u4_k (by omega)]; exact hz _) | (rw [u4_k (by omega), u4_k (by omega)]; exact hz _)), u4_id (c := 7) (i := 0) (k := 2) (by first | exact hz _ | (rw [u4_k (by omega)]; exact hz _) | (rw [u4_k (by omega), u4_k (by omega)]; exact hz _)), u4_id (c := 7) (i := 0) (k := 3) (by first | exact hz _ | (rw [u4_k (by omega)]; exact hz _) | (rw [u4_k (by omega), u4_k (by omega)]; exact hz _))]; rfl)
set_option maxRecDepth 20000 in
theorem c_X1_init {l : Launch} {X : XT} {d Lz : Nat} {w : WF} {fl : Nat → Nat → Nat → Bool}  (hz : ∀ q, w 1 0 0 q = nI 0) : WP l X (d + 1) md_X1_init (en md_X1_init [.inr (.inr (1, 0, 0))] (18, fl, Lz, w)) (fun v M' => v = none ∧ ∃ fl', M' = (19, fl', Lz, (u4 (u4 w 1 0 0 2 (-1)) 1 0 0 3 (-1))) ∧ FW fl fl' ∧ fls fl' 1 0 1) := by
  show WP l X _ md_X1_init (0, [some (.inr (.inr (1, 0, 0)))], [], _) _
  refine x_aload_n (pc' := 1) rfl rfl rfl (x_spO (pc' := 4) rfl rfl rfl (x_aload_n (pc' := 5) rfl rfl rfl (x_bipush (pc' := 7) rfl rfl (x_newarr (pc' := 9)  rfl rfl (by decide +kernel) rfl rfl (by decide) (x_putR (pc' := 12) rfl rfl (by decide) rfl ?_)))))
  refine x_aload_n (pc' := 13) rfl rfl rfl (x_iconst (pc' := 14) rfl rfl (x_putI (pc' := 17) rfl rfl rfl (x_aload_n (pc' := 18) rfl rfl rfl (x_iconst (pc' := 19) rfl rfl (x_putI (pc' := 22) rfl rfl rfl ?_)))))
  refine x_aload_n (pc' := 23) rfl rfl rfl (x_iconst (pc' := 24) rfl rfl (x_putI (pc' := 27) rfl rfl rfl ?_))
  refine x_vret rfl rfl ?_
  refine ⟨rfl, _, ?_, ((FW.rf fl).u 1 0 0), (fls_u (fls_0 fl 1 0))⟩
  show (_, _, _, _) = (_, _, _, _)
  first | (rw [u4_id (c := 1) (i := 0) (k := 1) (by first | exact hz _ | (rw [u4_k (by omega)]; exact hz _) | (rw [u4_k (by omega), u4_k (by omega)]; exact hz _))]) | (rw [u4_id (c := 1) (i := 0) (k := 1) (by first | exact hz _ | (rw [u4_k (by omega)]; exact hz _) | (rw [u4_k (by omega), u4_k (by omega)]; exact hz _))]; rfl)
set_option maxRecDepth 20000 in
theorem c_X5_init {l : Launch} {X : XT} {d Lz : Nat} {w : WF} {fl : Nat → Nat → Nat → Bool}  (hz : ∀ q, w 5 0 0 q = nI 0) : WP l X (d + 1) md_X5_init (en md_X5_init [.inr (.inr (5, 0, 0))] (233, fl, Lz, w)) (fun v M' => v = none ∧ ∃ fl', M' = (236, fl', Lz, w) ∧ FW fl fl' ∧ fls fl' 5 0 3) := by
  show WP l X _ md_X5_init (0, [some (.inr (.inr (5, 0, 0)))], [], _) _
  refine x_aload_n (pc' := 1) rfl rfl rfl (x_spO (pc' := 4) rfl rfl rfl (x_aload_n (pc' := 5) rfl rfl rfl (x_bipush (pc' := 7) rfl rfl (x_newarr (pc' := 9)  rfl rfl (by decide +kernel) rfl rfl (by decide) (x_putR (pc' := 12) rfl rfl (by decide) rfl ?_)))))
  refine x_aload_n (pc' := 13) rfl rfl rfl (x_bipush (pc' := 15) rfl rfl (x_newarr (pc' := 17)  rfl rfl (by decide +kernel) rfl rfl (by decide) (x_putR (pc' := 20) rfl rfl (by decide) rfl (x_aload_n (pc' := 21) rfl rfl rfl (x_bipush (pc' := 23) rfl rfl ?_)))))
  refine x_newarr (pc' := 25)  rfl rfl (by decide +kernel) rfl rfl (by decide) (x_putR (pc' := 28) rfl rfl (by decide) rfl (x_aload_n (pc' := 29) rfl rfl rfl (x_iconst (pc' := 30) rfl rfl (x_putI (pc' := 33) rfl rfl rfl ?_))))
  refine x_vret rfl rfl ?_
  refine ⟨rfl, _, ?_, ((((FW.rf fl).u 5 0 0).u 5 0 1).u 5 0 2), (fls_u (fls_u (fls_u (fls_0 fl 5 0))))⟩
  show (_, _, _, _) = (_, _, _, _)
  first | (rw [u4_id (c := 5) (i := 0) (k := 3) (by first | exact hz _ | (rw [u4_k (by omega)]; exact hz _) | (rw [u4_k (by omega), u4_k (by omega)]; exact hz _))]) | (rw [u4_id (c := 5) (i := 0) (k := 3) (by first | exact hz _ | (rw [u4_k (by omega)]; exact hz _) | (rw [u4_k (by omega), u4_k (by omega)]; exact hz _))]; rfl)
set_option maxRecDepth 20000 in
theorem c_X0_init {l : Launch} {X : XT} {d Lz : Nat} {w : WF} {fl : Nat → Nat → Nat → Bool}  (hz : ∀ q, w 0 0 0 q = nI 0) : WP l X (d + 1) md_X0_init (en md_X0_init [.inr (.inr (0, 0, 0))] (237, fl, Lz, w)) (fun v M' => v = none ∧ ∃ fl', M' = (239, fl', Lz, w) ∧ FW fl fl' ∧ fls fl' 0 0 2) := by
  show WP l X _ md_X0_init (0, [some (.inr (.inr (0, 0, 0)))], [], _) _
  refine x_aload_n (pc' := 1) rfl rfl rfl (x_spO (pc' := 4) rfl rfl rfl (x_aload_n (pc' := 5) rfl rfl rfl (x_bipush (pc' := 7) rfl rfl (x_newarr (pc' := 9)  rfl rfl (by decide +kernel) rfl rfl (by decide) (x_putR (pc' := 12) rfl rfl (by decide) rfl ?_)))))
  refine x_aload_n (pc' := 13) rfl rfl rfl (x_bipush (pc' := 15) rfl rfl (x_newarr (pc' := 17)  rfl rfl (by decide +kernel) rfl rfl (by decide) (x_putR (pc' := 20) rfl rfl (by decide) rfl (x_aload_n (pc' := 21) rfl rfl rfl (x_iconst (pc' := 22) rfl rfl ?_)))))
  refine x_putI (pc' := 25) rfl rfl rfl ?_
  refine x_vret rfl rfl ?_
  refine ⟨rfl, _, ?_, (((FW.rf fl).u 0 0 0).u 0 0 1), (fls_u (fls_u (fls_0 fl 0 0)))⟩
  show (_, _, _, _) = (_, _, _, _)
  first | (rw [u4_id (c := 0) (i := 0) (k := 2) (by first | exact hz _ | (rw [u4_k (by omega)]; exact hz _) | (rw [u4_k (by omega), u4_k (by omega)]; exact hz _))]) | (rw [u4_id (c := 0) (i := 0) (k := 2) (by first | exact hz _ | (rw [u4_k (by omega)]; exact hz _) | (rw [u4_k (by omega), u4_k (by omega)]; exact hz _))]; rfl)
set_option maxRecDepth 20000 in
theorem c_X4_init {l : Launch} {X : XT} {d Lz : Nat} {w : WF} {fl : Nat → Nat → Nat → Bool} (N j : Nat) (ho : ∀ k, k < 4 → ordL[N + k]? = some (4, j, k + 1)) (hz : ∀ q, w 4 j 0 q = nI 0) : WP l X (d + 1) md_X4_init (en md_X4_init [.inr (.inr (4, j, 0))] (N, fl, Lz, w)) (fun v M' => v = none ∧ ∃ fl', M' = (N + 4, fl', Lz, (u4 w 4 j 0 4 (-1))) ∧ FW fl fl' ∧ fls fl' 4 j 4) := by
  show WP l X _ md_X4_init (0, [some (.inr (.inr (4, j, 0)))], [], _) _
  refine x_aload_n (pc' := 1) rfl rfl rfl (x_spO (pc' := 4) rfl rfl rfl (x_aload_n (pc' := 5) rfl rfl rfl (x_bipush (pc' := 7) rfl rfl (x_newarr (pc' := 9) (o := 0) rfl rfl (ho 0 (by decide)) rfl rfl (by decide) (x_putR (pc' := 12) rfl rfl (by decide) rfl ?_)))))
  refine x_aload_n (pc' := 13) rfl rfl rfl (x_bipush (pc' := 15) rfl rfl (x_newarr (pc' := 17) (o := 1) rfl rfl (ho 1 (by decide)) rfl rfl (by decide) (x_putR (pc' := 20) rfl rfl (by decide) rfl (x_aload_n (pc' := 21) rfl rfl rfl (x_bipush (pc' := 23) rfl rfl ?_)))))
  refine x_newarr (pc' := 25) (o := 2) rfl rfl (ho 2 (by decide)) rfl rfl (by decide) (x_putR (pc' := 28) rfl rfl (by decide) rfl (x_aload_n (pc' := 29) rfl rfl rfl (x_iconst (pc' := 30) rfl rfl (x_newarr (pc' := 32) (o := 3) rfl rfl (ho 3 (by decide)) rfl rfl (by decide) (x_putR (pc' := 35) rfl rfl (by decide) rfl ?_)))))
  refine x_aload_n (pc' := 36) rfl rfl rfl (x_iconst (pc' := 37) rfl rfl (x_putI (pc' := 40) rfl rfl rfl (x_aload_n (pc' := 41) rfl rfl rfl (x_iconst (pc' := 42) rfl rfl (x_putI (pc' := 45) rfl rfl rfl ?_)))))
  refine x_aload_n (pc' := 46) rfl rfl rfl (x_iconst (pc' := 47) rfl rfl (x_putI (pc' := 50) rfl rfl rfl (x_aload_n (pc' := 51) rfl rfl rfl (x_iconst (pc' := 52) rfl rfl (x_putI (pc' := 55) rfl rfl rfl ?_)))))
  refine x_aload_n (pc' := 56) rfl rfl rfl (x_iconst (pc' := 57) rfl rfl (x_putI (pc' := 60) rfl rfl rfl ?_))
  refine x_vret rfl rfl ?_
  refine ⟨rfl, _, ?_, (((((FW.rf fl).u 4 j 0).u 4 j 1).u 4 j 2).u 4 j 3), (fls_u (fls_u (fls_u (fls_u (fls_0 fl 4 j)))))⟩
  show (_, _, _, _) = (_, _, _, _)
  first | (rw [u4_id (c := 4) (i := j) (k := 5) (by first | exact hz _ | (rw [u4_k (by omega)]; exact hz _) | (rw [u4_k (by omega), u4_k (by omega)]; exact hz _)), u4_id (c := 4) (i := j) (k := 6) (by first | exact hz _ | (rw [u4_k (by omega)]; exact hz _) | (rw [u4_k (by omega), u4_k (by omega)]; exact hz _)), u4_id (c := 4) (i := j) (k := 7) (by first | exact hz _ | (rw [u4_k (by omega)]; exact hz _) | (rw [u4_k (by omega), u4_k (by omega)]; exact hz _)), u4_id (c := 4) (i := j) (k := 8) (by first | exact hz _ | (rw [u4_k (by omega)]; exact hz _) | (rw [u4_k (by omega), u4_k (by omega)]; exact hz _))]) | (rw [u4_id (c := 4) (i := j) (k := 5) (by first | exact hz _ | (rw [u4_k (by omega)]; exact hz _) | (rw [u4_k (by omega), u4_k (by omega)]; exact hz _)), u4_id (c := 4) (i := j) (k := 6) (by first | exact hz _ | (rw [u4_k (by omega)]; exact hz _) | (rw [u4_k (by omega), u4_k (by omega)]; exact hz _)), u4_id (c := 4) (i := j) (k := 7) (by first | exact hz _ | (rw [u4_k (by omega)]; exact hz _) | (rw [u4_k (by omega), u4_k (by omega)]; exact hz _)), u4_id (c := 4) (i := j) (k := 8) (by first | exact hz _ | (rw [u4_k (by omega)]; exact hz _) | (rw [u4_k (by omega), u4_k (by omega)]; exact hz _))]; rfl)
