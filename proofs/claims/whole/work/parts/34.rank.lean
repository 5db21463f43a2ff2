/-! ranks -/
abbrev WF : Type := Nat → Nat → Nat → Nat → Int32
/-- all but the contest's own cells is as it was -/
def fr1 (w w' : WF) : Prop := ∀ c i o q, c ≠ 1 → w' c i o q = w c i o q
theorem fr1.rf (w : WF) : fr1 w w := fun _ _ _ _ _ => rfl
theorem fr1.u {w w' : WF} (h : fr1 w w') (i o k : Nat) (x : Int32) : fr1 w (u4 w' 1 i o k x) := fun c i' o' q hc => by
  rw [← h c i' o' q hc]
  exact u4_ne (fun e => hc (by cases e; rfl)) q
theorem fr1.tr {w w' w'' : WF} (h : fr1 w w') (h2 : fr1 w' w'') : fr1 w w'' := fun c i o q hc => (h2 c i o q hc).trans (h c i o q hc)
theorem cC_fr {w w' : WF} (h : fr1 w w') (i : Nat) : cC w' i = cC w i := by
  funext p; unfold cC; rw [h 6 i 3 p (by decide)]
theorem mC_fr {w w' : WF} (h : fr1 w w') (i j k : Nat) : mC w' i j k = mC w i j k := by
  funext p; unfold mC mkV
  rw [h 6 i 1 _ (by decide), h 6 i 2 _ (by decide), h 4 j 2 _ (by decide), h 6 i 0 8 (by decide)]
theorem enc_none : ∀ n, enc (fun _ => false) n = nI 0
  | 0 => rfl
  | n + 1 => by rw [← enc_f rfl]; exact enc_none n
abbrev LDR (w : WF) (i j k np : Nat) : Option Nat := ldr (cC w i) (w 4 j 0 4) (w 4 j 2) (mC w i j k) np
abbrev FST (w : WF) (i j k np : Nat) : Nat → Bool := fst' (cC w i) (w 4 j 0 4) (w 4 j 2) (mC w i j k) np
abbrev SND (w : WF) (i j k np : Nat) : Option Nat := snd' (cC w i) (w 4 j 0 4) (w 4 j 2) (mC w i j k) np
/-- what a rank leaves -/
def RK (w : WF) (i j k np : Nat) (w' : WF) : Prop := fr1 w w' ∧ w' 1 0 0 1 = enc (FST w i j k np) np ∧ w' 1 0 0 2 = oI (LDR w i j k np) ∧ w' 1 0 0 3 = oI (SND w i j k np) ∧ ∀ p, p < np → w' 1 0 1 p = mC w i j k p
theorem fore_eq {w w2 : WF} {i j k np : Nat} {G : Nat → Bool} (hn7 : np ≤ 7) (hf : fr1 w w2) (hm : ∀ p, p < np → w2 1 0 1 p = mC w i j k p) (hG : w2 1 0 0 1 = enc G np) : bst (fS w2 i) (fA w2 j) np = bst (fun p => cC w i p && !G p) (ahd (w 4 j 0 4) (w 4 j 2) (mC w i j k)) np := by
  apply bst_congr
  · intro p hp
    show (cC w2 i p && !has (w2 1 0 0 1) p) = _
    rw [cC_fr hf, hG, has_enc (by omega) hp]
  · intro p q hp hq
    show ahd (w2 4 j 0 4) (w2 4 j 2) (w2 1 0 1) p q = _
    rw [hf 4 j 0 4 (by decide)]
    exact ahd_congr (hf 4 j 2 p (by decide)) (hf 4 j 2 q (by decide)) (hm p hp) (hm q hq)
theorem bst_all {S : Nat → Bool} {ah : Nat → Nat → Bool} {n : Nat} : bst (fun p => S p && !(fun _ : Nat => false) p) ah n = bst S ah n := bst_congr n (fun p _ => by simp) (fun _ _ _ _ => rfl)
set_option maxRecDepth 20000 in
theorem r_X1_rank {l : Launch} {X : XT} {d Lz : Nat} {w : Nat → Nat → Nat → Nat → Int32} (i k : Nat) (j np : Nat) (hnp : w 4 j 0 6 = nI np) (hn7 : np ≤ 7) (wn : WF) (hf : fr1 w wn) (hm : ∀ p, p < np → wn 1 0 1 p = mC w i j k p) : WP l X (d + 3) md_X1_rank (33, [some (.inr (.inr (1, 0, 0))), some (.inr (.inr (4, j, 0))), some (.inr (.inr (6, i, 0))), some (.inl (nI k)), some (.inl (nI np))], [], mk Lz wn) (fun v M' => v = none ∧ ∃ w', M' = mk Lz w' ∧ RK w i j k np w') := by
  have ha := hf.u 0 0 1 (nI 0)
  have hma : ∀ p, p < np → u4 wn 1 0 0 1 (nI 0) 1 0 1 p = mC w i j k p := fun p hp => by rw [u4_ne (by decide)]; exact hm p hp
  have hL : bst (fS (u4 wn 1 0 0 1 (nI 0)) i) (fA (u4 wn 1 0 0 1 (nI 0)) j) np = LDR w i j k np := by
    rw [fore_eq (G := fun _ => false) hn7 ha hma (by rw [u4_self, enc_none])]
    exact bst_all
  have hFn : LDR w i j k np = none → FST w i j k np = fun _ => false := by
    intro h; funext p
    show (match LDR w i j k np with | none => false | some b => _) = false
    rw [h]
  cases hl : LDR w i j k np with
  | none =>
    have hb := ha.u 0 0 2 (oI none)
    have hS2 : bst (fS (u4 (u4 wn 1 0 0 1 (nI 0)) 1 0 0 2 (oI none)) i) (fA (u4 (u4 wn 1 0 0 1 (nI 0)) 1 0 0 2 (oI none)) j) np = SND w i j k np := by
      rw [fore_eq (G := fun _ => false) hn7 hb (fun p hp => by rw [u4_ne (by decide)]; exact hma p hp) (by rw [u4_k (by decide), u4_self, enc_none])]
      show _ = bst (fun p => cC w i p && !FST w i j k np p) _ np
      rw [hFn hl]
    refine x_aload_n (pc' := 34) rfl rfl rfl (x_iconst (pc' := 35) rfl rfl (x_putI (pc' := 38) rfl rfl rfl (x_aload_n (pc' := 39) rfl rfl rfl (x_aload_n (pc' := 40) rfl rfl rfl (x_aload_n (pc' := 41) rfl rfl rfl ?_)))))
    refine x_aload_n (pc' := 42) rfl rfl rfl (x_invI3 (pc' := 45) rfl rfl rfl rfl rfl (c_X1_foremost i j np (by rw [ha 4 j 0 6 (by decide)]; exact hnp) hn7) ?_)
    rw [hL, hl]
    refine x_putI (pc' := 48) rfl rfl rfl (x_aload_n (pc' := 49) rfl rfl rfl (x_getI (pc' := 52) rfl rfl rfl ?_))
    rw [u4_self]
    refine x_iconst (pc' := 53) rfl rfl ?_
    refine x_icmp_eq (pc' := 56) rfl rfl (fun h53 => ?_) (fun h53 => absurd rfl h53)
    refine x_aload_n (pc' := 88) rfl rfl rfl (x_aload_n (pc' := 89) rfl rfl rfl (x_aload_n (pc' := 90) rfl rfl rfl (x_aload_n (pc' := 91) rfl rfl rfl (x_invI3 (pc' := 94) rfl rfl rfl rfl rfl (c_X1_foremost i j np (by rw [hb 4 j 0 6 (by decide)]; exact hnp) hn7) ?_))))
    rw [hS2]
    refine x_putI (pc' := 97) rfl rfl rfl ?_
    refine x_vret rfl rfl ?_
    refine ⟨rfl, _, rfl, hb.u 0 0 3 _, ?_, ?_, ?_, fun p hp => ?_⟩
    · rw [u4_k (by decide), u4_k (by decide), u4_self, hFn hl, enc_none]
    · rw [u4_k (by decide), u4_self, hl]
    · rw [u4_self]
    · rw [u4_ne (by decide), u4_ne (by decide)]; exact hma p hp
  | some b =>
    have hbl : b < np := (bst_lt np b hl).1
    have hb := ha.u 0 0 2 (oI (some b))
    have hmb : ∀ p, p < np → u4 (u4 wn 1 0 0 1 (nI 0)) 1 0 0 2 (oI (some b)) 1 0 1 p = mC w i j k p := fun p hp => by rw [u4_ne (by decide)]; exact hma p hp
    have hlaw : u4 (u4 wn 1 0 0 1 (nI 0)) 1 0 0 2 (oI (some b)) 4 j 0 4 = w 4 j 0 4 := hb 4 j 0 4 (by decide)
    have hF2 : w 4 j 0 4 = nI 2 → enc (aL (u4 (u4 wn 1 0 0 1 (nI 0)) 1 0 0 2 (oI (some b))) i b) np = enc (FST w i j k np) np := by
      intro h
      apply enc_congr
      intro p hp
      show (cC _ i p && decide (_ = _)) = (match LDR w i j k np with | none => false | some b => if w 4 j 0 4 = nI 2 then cC w i p && decide (mC w i j k p = mC w i j k b) else decide (p = b))
      rw [hl, cC_fr hb, hmb p hp, hmb b hbl]
      show _ = (if w 4 j 0 4 = nI 2 then _ else _)
      rw [if_pos h]
    have hF1 : ¬ w 4 j 0 4 = nI 2 → nI 1 <<< (nI b &&& 31) = enc (FST w i j k np) np := by
      intro h
      rw [enc_one (n := np) (by omega) hbl]
      apply enc_congr
      intro p hp
      show _ = (match LDR w i j k np with | none => false | some b => if w 4 j 0 4 = nI 2 then cC w i p && decide (mC w i j k p = mC w i j k b) else decide (p = b))
      rw [hl]
      show _ = (if w 4 j 0 4 = nI 2 then _ else _)
      rw [if_neg h]
    have hc := hb.u 0 0 1 (enc (FST w i j k np) np)
    have hS2 : bst (fS (u4 (u4 (u4 wn 1 0 0 1 (nI 0)) 1 0 0 2 (oI (some b))) 1 0 0 1 (enc (FST w i j k np) np)) i) (fA (u4 (u4 (u4 wn 1 0 0 1 (nI 0)) 1 0 0 2 (oI (some b))) 1 0 0 1 (enc (FST w i j k np) np)) j) np = SND w i j k np := fore_eq (G := FST w i j k np) hn7 hc (fun p hp => by rw [u4_ne (by decide)]; exact hmb p hp) (by rw [u4_self])
    refine x_aload_n (pc' := 34) rfl rfl rfl (x_iconst (pc' := 35) rfl rfl (x_putI (pc' := 38) rfl rfl rfl (x_aload_n (pc' := 39) rfl rfl rfl (x_aload_n (pc' := 40) rfl rfl rfl (x_aload_n (pc' := 41) rfl rfl rfl ?_)))))
    refine x_aload_n (pc' := 42) rfl rfl rfl (x_invI3 (pc' := 45) rfl rfl rfl rfl rfl (c_X1_foremost i j np (by rw [ha 4 j 0 6 (by decide)]; exact hnp) hn7) ?_)
    rw [hL, hl]
    refine x_putI (pc' := 48) rfl rfl rfl (x_aload_n (pc' := 49) rfl rfl rfl (x_getI (pc' := 52) rfl rfl rfl ?_))
    rw [u4_self]
    refine x_iconst (pc' := 53) rfl rfl ?_
    refine x_icmp_eq (pc' := 56) rfl rfl (fun h53 => absurd h53 (nI_ne1 (by omega))) (fun h53 => ?_)
    refine x_aload_n (pc' := 57) rfl rfl rfl (x_aload_n (pc' := 58) rfl rfl rfl (x_getI (pc' := 61) rfl rfl rfl ?_))
    rw [hlaw]
    refine x_iconst (pc' := 62) rfl rfl ?_
    refine x_icmp_ne (pc' := 65) rfl rfl (fun h62 => ?_) (fun h62 => ?_)
    · refine x_aload_n (pc' := 66) rfl rfl rfl (x_aload_n (pc' := 67) rfl rfl rfl (x_aload_n (pc' := 68) rfl rfl rfl (x_aload_n (pc' := 69) rfl rfl rfl (x_getI (pc' := 72) rfl rfl rfl ?_))))
      rw [u4_self]
      refine x_invI4 (pc' := 75) rfl rfl rfl rfl rfl rfl (c_X1_allLike i b (by omega) j np (by rw [hb 4 j 0 6 (by decide)]; exact hnp) hn7) ?_
      rw [hF2 h62]
      refine x_goto rfl (x_putI (pc' := 87) rfl rfl rfl (x_aload_n (pc' := 88) rfl rfl rfl (x_aload_n (pc' := 89) rfl rfl rfl (x_aload_n (pc' := 90) rfl rfl rfl (x_aload_n (pc' := 91) rfl rfl rfl ?_)))))
      refine x_invI3 (pc' := 94) rfl rfl rfl rfl rfl (c_X1_foremost i j np (by rw [hc 4 j 0 6 (by decide)]; exact hnp) hn7) ?_
      rw [hS2]
      refine x_putI (pc' := 97) rfl rfl rfl ?_
      refine x_vret rfl rfl ?_
      refine ⟨rfl, _, rfl, hc.u 0 0 3 _, ?_, ?_, ?_, fun p hp => ?_⟩
      · rw [u4_k (by decide), u4_self]
      · rw [u4_k (by decide), u4_k (by decide), u4_self, hl]
      · rw [u4_self]
      · rw [u4_ne (by decide), u4_ne (by decide)]; exact hmb p hp
    · refine x_iconst (pc' := 79) rfl rfl (x_aload_n (pc' := 80) rfl rfl rfl (x_getI (pc' := 83) rfl rfl rfl ?_))
      rw [u4_self]
      refine x_ishl (pc' := 84) rfl rfl ?_
      show WP l X _ md_X1_rank (84, _, .inl (nI 1 <<< (nI b &&& 31)) :: _, _) _
      rw [hF1 h62]
      refine x_putI (pc' := 87) rfl rfl rfl (x_aload_n (pc' := 88) rfl rfl rfl (x_aload_n (pc' := 89) rfl rfl rfl (x_aload_n (pc' := 90) rfl rfl rfl (x_aload_n (pc' := 91) rfl rfl rfl (x_invI3 (pc' := 94) rfl rfl rfl rfl rfl (c_X1_foremost i j np (by rw [hc 4 j 0 6 (by decide)]; exact hnp) hn7) ?_)))))
      rw [hS2]
      refine x_putI (pc' := 97) rfl rfl rfl ?_
      refine x_vret rfl rfl ?_
      refine ⟨rfl, _, rfl, hc.u 0 0 3 _, ?_, ?_, ?_, fun p hp => ?_⟩
      · rw [u4_k (by decide), u4_self]
      · rw [u4_k (by decide), u4_k (by decide), u4_self, hl]
      · rw [u4_self]
      · rw [u4_ne (by decide), u4_ne (by decide)]; exact hmb p hp
set_option maxRecDepth 20000 in
theorem l_X1_rank {l : Launch} {X : XT} {d Lz : Nat} {w : Nat → Nat → Nat → Nat → Int32} (i k : Nat) (hk : k < 3) (j np : Nat) (hnp : w 4 j 0 6 = nI np) (hn7 : np ≤ 7) : ∀ (kk n : Nat), ∀ (wn : WF), fr1 w wn → (∀ p, p < n → wn 1 0 1 p = mC w i j k p) →  n ≤ np → np + 1 ≤ n + kk → WP l X (d + 3) md_X1_rank (3, [some (.inr (.inr (1, 0, 0))), some (.inr (.inr (4, j, 0))), some (.inr (.inr (6, i, 0))), some (.inl (nI k)), some (.inl (nI n))], [], mk Lz wn) (fun v M' => v = none ∧ ∃ w', M' = mk Lz w' ∧ RK w i j k np w') := by
  intro kk
  induction kk with
  | zero =>
    intro n wn hf hm h1 h2
    exact absurd h2 (by omega)
  | succ kk ih =>
    intro n wn hf hm hi1 hi2
    refine x_iload (pc' := 5) rfl rfl rfl (x_aload_n (pc' := 6) rfl rfl rfl (x_getI (pc' := 9) rfl rfl rfl ?_))
    rw [hf 4 j 0 6 (by decide), hnp]
    refine x_icmp_geN (pc' := 12) rfl rfl (by omega) (by omega) (fun h9 => ?_) (fun h9 => ?_)
    · have e : n = np := by omega
      subst e
      exact r_X1_rank i k j n hnp hn7 wn hf hm
    · refine x_aload_n (pc' := 13) rfl rfl rfl (x_getR (pc' := 16) (t := (1, _, 1)) rfl rfl rfl (x_iload (pc' := 18) rfl rfl rfl (x_aload_n (pc' := 19) rfl rfl rfl (x_aload_n (pc' := 20) rfl rfl rfl (x_iload (pc' := 22) rfl rfl rfl ?_)))))
      refine x_iload_n (pc' := 23) rfl rfl rfl (x_invI4 (pc' := 26) rfl rfl rfl rfl rfl rfl (c_X6_markOf i j n k (by omega) hk) ?_)
      refine x_iast (pc' := 27) (N := 7) rfl rfl rfl (by decide) rfl (by first | assumption | omega) (by decide) (x_iinc4 (pc' := 30) rfl rfl rfl (nI_add _ _) (x_goto rfl ?_))
      refine ih (n + 1) _ (hf.u 0 1 n _) (fun p hp => ?_) (by omega) (by omega)
      by_cases e : p = n
      · subst e; rw [u4_self, mC_fr hf]
      · rw [u4_k e]; exact hm p (by omega)
set_option maxRecDepth 20000 in
theorem c_X1_rank {l : Launch} {X : XT} {d Lz : Nat} {w : Nat → Nat → Nat → Nat → Int32} (i k : Nat) (hk : k < 3) (j np : Nat) (hnp : w 4 j 0 6 = nI np) (hn7 : np ≤ 7) : WP l X (d + 3) md_X1_rank (en md_X1_rank [.inr (.inr (1, 0, 0)), .inr (.inr (4, j, 0)), .inr (.inr (6, i, 0)), .inl (nI k)] (mk Lz w)) (fun v M' => v = none ∧ ∃ w', M' = mk Lz w' ∧ RK w i j k np w') := by
  show WP l X _ md_X1_rank (0, [some (.inr (.inr (1, 0, 0))), some (.inr (.inr (4, j, 0))), some (.inr (.inr (6, i, 0))), some (.inl (nI k)), none], [], _) _
  refine x_iconst (pc' := 1) rfl rfl (x_istore4 (pc' := 3) rfl rfl rfl ?_)
  exact l_X1_rank i k hk j np hnp hn7 (np + 1) 0 w (fr1.rf w) (fun p hp => by omega) (by omega) (by omega)
