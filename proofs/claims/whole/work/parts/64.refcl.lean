/-! the reference reads clauses -/
def frG (w w' : WF) : Prop := ∀ c i o q, ¬ (c = 9 ∧ i = 0 ∧ ((o = 0 ∧ 20 ≤ q) ∨ 29 ≤ o)) → w' c i o q = w c i o q
theorem frG.rf (w : WF) : frG w w := fun _ _ _ _ _ => rfl
theorem frG.tr {a b c : WF} (h : frG a b) (h2 : frG b c) : frG a c := fun x i o q hq => (h2 x i o q hq).trans (h x i o q hq)
theorem frZ.r {a b : WF} (h : frZ a b) : frG a b := fun c i o q hq => h c i o q (by omega)
theorem frG.u {a b : WF} (h : frG a b) (o k : Nat) (hk : (o = 0 ∧ 20 ≤ k) ∨ 29 ≤ o) (v : Int32) : frG a (u4 b 9 0 o k v) := fun c i o' q hq => by
  have e : u4 b 9 0 o k v c i o' q = b c i o' q := by unfold u4; rw [if_neg (by omega)]
  rw [e]; exact h c i o' q hq
theorem FM_u {w : WF} {n : Nat} {t : Nat → Nat} {a : Nat} {F : FS} {o k : Nat} {v : Int32} (hk : (o = 0 ∧ 23 ≤ k) ∨ 29 ≤ o) (h : FM w n t a F) : FM (u4 w 9 0 o k v) n t a F := FM_R h (fun q hq => by unfold u4; rw [if_neg (by omega)]) (fun q => by unfold u4; rw [if_neg (by omega)])
theorem turP_F {t : Nat → Nat} {n : Nat} : ∀ (f : Nat) (P : PS), ¬ P.2.1.1 = 0 → (turP t n f P).2.1 = P.2.1
  | 0, P, h => rfl
  | f + 1, P, h => by
    have h1 : (tur1 t n P).2.1 = P.2.1 := nmA_n h
    by_cases z : P.2.2.nt + 1 < 12
    · cases y : nxt t n (tur1 t n P).1 44 with
      | false => rw [turP_f2 y]; exact h1
      | true =>
        rw [turP_t z y]
        exact (turP_F f (skp t n (tur1 t n P).1 + 1, (tur1 t n P).2) (by rw [show ((skp t n (tur1 t n P).1 + 1, (tur1 t n P).2) : PS).2.1 = (tur1 t n P).2.1 from rfl, h1]; exact h)).trans h1
    · rw [turP_f1 (by omega)]; exact h1
theorem turP_F1 {t : Nat → Nat} {n f : Nat} {P : PS} (h : ¬ (tur1 t n P).2.1.1 = 0) : (turP t n (f + 1) P).2.1 = (tur1 t n P).2.1 := by
  by_cases z : P.2.2.nt + 1 < 12
  · cases y : nxt t n (tur1 t n P).1 44 with
    | false => rw [turP_f2 y]
    | true =>
      rw [turP_t z y]
      exact turP_F f (skp t n (tur1 t n P).1 + 1, (tur1 t n P).2) h
  · rw [turP_f1 (by omega)]
set_option maxRecDepth 20000 in
theorem c_X9_readLaw {l : Launch} {X : XT} {d Lz : Nat} {w : Nat → Nat → Nat → Nat → Int32} {n : Nat} {t : Nat → Nat} (hn : n ≤ 240) (ht : ∀ q, q < n → t q < 256) (m : Nat) (P : PS) (ha : P.1 ≤ n) (hF0 : P.2.1.1 = 0) (pl : Int32) (hl : P.2.2.lw = -1) (h : FM w n t P.1 P.2.1) (hD : DM w P.2.2 m) : WP l X (d + 4) md_X9_readLaw (en md_X9_readLaw [.inr (.inr (9, 0, 0)), .inl (pl)] (mk Lz w)) (fun v M' => v = none ∧ ∃ w', M' = mk Lz w' ∧ FM w' n t (lawP t n P).1 (lawP t n P).2.1 ∧ ((lawP t n P).2.1.1 = 0 → DM w' (lawP t n P).2.2 m) ∧ frG w w') := by
  show WP l X _ md_X9_readLaw (0, [some (.inr (.inr (9, 0, 0))), some (.inl (pl))], [], _) _
  refine x_aload_n (pc' := 1) rfl rfl rfl (x_getI (pc' := 4) rfl rfl rfl (x_iconst (pc' := 5) rfl rfl ?_))
  refine x_icmp_eq (pc' := 8) rfl rfl (fun h5 => ?_) (fun h5 => absurd (by rw [hD.1]; exact hl) h5)
  refine x_aload_n (pc' := 16) rfl rfl rfl (x_aload_n (pc' := 17) rfl rfl rfl (x_iconst (pc' := 18) rfl rfl (x_iconst (pc' := 19) rfl rfl (x_invQ3 (pc' := 22) rfl rfl rfl rfl rfl (c_X9_number hn ht P.1 0 2 (fun _ => ha) (by decide) (by decide) (by omega) h) (fun vq Mq hq19 => ?_)))))
  obtain ⟨v1, rfl, hv1, w1, rfl, h1, hf1⟩ := hq19
  have hA := nmA_at (t := t) (F := P.2.1) (lo := 0) (hi := 2) ha
  have h3 := nmA_3 (t := t) (n := n) (a := P.1) (F := P.2.1) (lo := 0) (hi := 2) (by omega)
  show WP l X _ md_X9_readLaw (22, _, [_, _], _) _
  refine x_putI (pc' := 25) rfl rfl rfl (x_aload_n (pc' := 26) rfl rfl rfl (x_aload_n (pc' := 27) rfl rfl rfl (x_iconst (pc' := 28) rfl rfl (x_bipush (pc' := 30) rfl rfl (x_invQ3 (pc' := 33) rfl rfl rfl rfl rfl (c_X9_number hn ht _ 1 9 (fun _ => hA.2) (by decide) (by decide) h3 (FM_u (Or.inl ⟨rfl, by omega⟩) h1)) (fun vq Mq hq30 => ?_))))))
  obtain ⟨v2, rfl, hv2, w2, rfl, h2, hf2⟩ := hq30
  show WP l X _ md_X9_readLaw (33, _, [_, _], _) _
  refine x_putI (pc' := 36) rfl rfl rfl ?_
  refine x_vret rfl rfl ?_
  refine ⟨rfl, _, rfl, FM_u (Or.inl ⟨rfl, by omega⟩) h2, fun z => ?_, ((((hf1.r).u 0 23 (by omega) _).tr hf2.r).u 0 24 (by omega) _)⟩
  have z2 := nmA_ok (show (nmA t n (nmA t n P.1 P.2.1 0 2).2.1 (nmA t n P.1 P.2.1 0 2).2.2 1 9).2.2.1 = 0 from z)
  rw [hv2 z]
  have hc : DM w1 P.2.2 m := DM_Z hf1 hD
  rw [hv1 z2.1] at hf2
  refine DM_cg (w := u4 (u4 w1 9 0 0 23 (nI (nmA t n P.1 P.2.1 0 2).1)) 9 0 0 24 _) (fun q hq => ?_) (fun o q ho => ?_) (DM_law hc _)
  · unfold u4
    split
    · rfl
    · exact hf2 9 0 0 q (by omega)
  · unfold u4
    rw [if_neg (by omega), if_neg (by omega)]
    rw [hf2 9 0 o q (by omega)]
    unfold u4; rw [if_neg (by omega)]
set_option maxRecDepth 20000 in
theorem b_X9_readLaw {l : Launch} {X : XT} {d Lz : Nat} {w : Nat → Nat → Nat → Nat → Int32} {n : Nat} {t : Nat → Nat} (hn : n ≤ 240) (ht : ∀ q, q < n → t q < 256) (m : Nat) (P : PS) (ha : P.1 ≤ n) (hF0 : P.2.1.1 = 0) (pl : Nat) (hl : ¬ P.2.2.lw = -1) (h : FM w n t P.1 P.2.1) (hD : DM w P.2.2 m) : WP l X (d + 4) md_X9_readLaw (en md_X9_readLaw [.inr (.inr (9, 0, 0)), .inl (nI pl)] (mk Lz w)) (fun v M' => v = none ∧ ∃ w', M' = mk Lz w' ∧ FM w' n t P.1 (blm P.2.1 3 pl) ∧ frG w w') := by
  show WP l X _ md_X9_readLaw (0, [some (.inr (.inr (9, 0, 0))), some (.inl (nI pl))], [], _) _
  refine x_aload_n (pc' := 1) rfl rfl rfl (x_getI (pc' := 4) rfl rfl rfl (x_iconst (pc' := 5) rfl rfl ?_))
  refine x_icmp_eq (pc' := 8) rfl rfl (fun h5 => absurd h5 (by rw [hD.1]; exact hl)) (fun h5 => ?_)
  refine x_aload_n (pc' := 9) rfl rfl rfl (x_iconst (pc' := 10) rfl rfl (x_iload_n (pc' := 11) rfl rfl rfl (x_invQ3 (pc' := 14) rfl rfl rfl rfl rfl (c_X9_wrong P.1 P.1 3 pl (by decide) (by omega) h) (fun vq Mq hq11 => ?_))))
  obtain ⟨rfl, w1, rfl, h1, hf1⟩ := hq11
  show WP l X _ md_X9_readLaw (14, _, [], _) _
  refine x_vret rfl rfl ?_
  exact ⟨rfl, _, rfl, h1, hf1.r⟩
set_option maxRecDepth 20000 in
theorem b_X9_readPerson {l : Launch} {X : XT} {d Lz : Nat} {w : Nat → Nat → Nat → Nat → Int32} {n : Nat} {t : Nat → Nat} (hn : n ≤ 240) (ht : ∀ q, q < n → t q < 256) (m : Nat) (P : PS) (ha : P.1 ≤ n) (hF0 : P.2.1.1 = 0) (pl : Nat) (hl : P.2.2.np = 7) (h : FM w n t P.1 P.2.1) (hD : DM w P.2.2 m) : WP l X (d + 4) md_X9_readPerson (en md_X9_readPerson [.inr (.inr (9, 0, 0)), .inl (nI pl)] (mk Lz w)) (fun v M' => v = none ∧ ∃ w', M' = mk Lz w' ∧ FM w' n t P.1 (blm P.2.1 3 pl) ∧ frG w w') := by
  show WP l X _ md_X9_readPerson (0, [some (.inr (.inr (9, 0, 0))), some (.inl (nI pl)), none], [], _) _
  refine x_aload_n (pc' := 1) rfl rfl rfl (x_getI (pc' := 4) rfl rfl rfl (x_bipush (pc' := 6) rfl rfl ?_))
  refine x_icmp_ne (pc' := 9) rfl rfl (fun h6 => ?_) (fun h6 => absurd (by rw [hD.2.2.1, hl]) h6)
  refine x_aload_n (pc' := 10) rfl rfl rfl (x_iconst (pc' := 11) rfl rfl (x_iload_n (pc' := 12) rfl rfl rfl (x_invQ3 (pc' := 15) rfl rfl rfl rfl rfl (c_X9_wrong P.1 P.1 3 pl (by decide) (by omega) h) (fun vq Mq hq12 => ?_))))
  obtain ⟨rfl, w1, rfl, h1, hf1⟩ := hq12
  show WP l X _ md_X9_readPerson (15, _, [], _) _
  refine x_vret rfl rfl ?_
  exact ⟨rfl, _, rfl, h1, hf1.r⟩
set_option maxRecDepth 20000 in
theorem b_X9_readDays {l : Launch} {X : XT} {d Lz : Nat} {w : Nat → Nat → Nat → Nat → Int32} {n : Nat} {t : Nat → Nat} (hn : n ≤ 240) (ht : ∀ q, q < n → t q < 256) (m : Nat) (P : PS) (ha : P.1 ≤ n) (hF0 : P.2.1.1 = 0) (pl : Nat) (hl : 0 < P.2.2.nt ∧ P.2.2.nt ≤ 12) (h : FM w n t P.1 P.2.1) (hD : DM w P.2.2 m) : WP l X (d + 4) md_X9_readDays (en md_X9_readDays [.inr (.inr (9, 0, 0)), .inl (nI pl)] (mk Lz w)) (fun v M' => v = none ∧ ∃ w', M' = mk Lz w' ∧ FM w' n t P.1 (blm P.2.1 3 pl) ∧ frG w w') := by
  show WP l X _ md_X9_readDays (0, [some (.inr (.inr (9, 0, 0))), some (.inl (nI pl)), none], [], _) _
  refine x_aload_n (pc' := 1) rfl rfl rfl (x_getI (pc' := 4) rfl rfl rfl ?_)
  refine x_if_le (pc' := 7) rfl rfl (fun h4 => absurd h4 (by rw [hD.2.2.2.2.1]; exact fun z => absurd z (nI_nle hl.1 (by omega)))) (fun h4 => ?_)
  refine x_aload_n (pc' := 8) rfl rfl rfl (x_iconst (pc' := 9) rfl rfl (x_iload_n (pc' := 10) rfl rfl rfl (x_invQ3 (pc' := 13) rfl rfl rfl rfl rfl (c_X9_wrong P.1 P.1 3 pl (by decide) (by omega) h) (fun vq Mq hq10 => ?_))))
  obtain ⟨rfl, w1, rfl, h1, hf1⟩ := hq10
  show WP l X _ md_X9_readDays (13, _, [], _) _
  refine x_vret rfl rfl ?_
  exact ⟨rfl, _, rfl, h1, hf1.r⟩
set_option maxRecDepth 20000 in
theorem b_X9_readOffice {l : Launch} {X : XT} {d Lz : Nat} {w : Nat → Nat → Nat → Nat → Int32} {n : Nat} {t : Nat → Nat} (hn : n ≤ 240) (ht : ∀ q, q < n → t q < 256) (m : Nat) (P : PS) (ha : P.1 ≤ n) (hF0 : P.2.1.1 = 0) (pl : Nat) (hl : P.2.2.no = 4) (h : FM w n t P.1 P.2.1) (hD : DM w P.2.2 m) : WP l X (d + 4) md_X9_readOffice (en md_X9_readOffice [.inr (.inr (9, 0, 0)), .inl (nI pl)] (mk Lz w)) (fun v M' => v = none ∧ ∃ w', M' = mk Lz w' ∧ FM w' n t P.1 (blm P.2.1 3 pl) ∧ frG w w') := by
  show WP l X _ md_X9_readOffice (0, [some (.inr (.inr (9, 0, 0))), some (.inl (nI pl))], [], _) _
  refine x_aload_n (pc' := 1) rfl rfl rfl (x_getI (pc' := 4) rfl rfl rfl (x_iconst (pc' := 5) rfl rfl ?_))
  refine x_icmp_ne (pc' := 8) rfl rfl (fun h5 => ?_) (fun h5 => absurd (by rw [hD.2.2.2.1, hl]) h5)
  refine x_aload_n (pc' := 9) rfl rfl rfl (x_iconst (pc' := 10) rfl rfl (x_iload_n (pc' := 11) rfl rfl rfl (x_invQ3 (pc' := 14) rfl rfl rfl rfl rfl (c_X9_wrong P.1 P.1 3 pl (by decide) (by omega) h) (fun vq Mq hq11 => ?_))))
  obtain ⟨rfl, w1, rfl, h1, hf1⟩ := hq11
  show WP l X _ md_X9_readOffice (14, _, [], _) _
  refine x_vret rfl rfl ?_
  exact ⟨rfl, _, rfl, h1, hf1.r⟩
set_option maxRecDepth 20000 in
theorem c_X9_readOffice {l : Launch} {X : XT} {d Lz : Nat} {w : Nat → Nat → Nat → Nat → Int32} {n : Nat} {t : Nat → Nat} (hn : n ≤ 240) (ht : ∀ q, q < n → t q < 256) (m : Nat) (P : PS) (ha : P.1 ≤ n) (hF0 : P.2.1.1 = 0) (pl : Int32) (hl : P.2.2.no < 4) (h : FM w n t P.1 P.2.1) (hD : DM w P.2.2 m) : WP l X (d + 4) md_X9_readOffice (en md_X9_readOffice [.inr (.inr (9, 0, 0)), .inl (pl)] (mk Lz w)) (fun v M' => v = none ∧ ∃ w', M' = mk Lz w' ∧ FM w' n t (offP t n P).1 (offP t n P).2.1 ∧ ((offP t n P).2.1.1 = 0 → DM w' (offP t n P).2.2 m) ∧ frG w w') := by
  show WP l X _ md_X9_readOffice (0, [some (.inr (.inr (9, 0, 0))), some (.inl (pl))], [], _) _
  refine x_aload_n (pc' := 1) rfl rfl rfl (x_getI (pc' := 4) rfl rfl rfl (x_iconst (pc' := 5) rfl rfl ?_))
  refine x_icmp_ne (pc' := 8) rfl rfl (fun h5 => absurd h5 (by rw [hD.2.2.2.1]; exact fun z => absurd ((nI_eq (by omega) (by omega)).mp z) (by omega))) (fun h5 => ?_)
  refine x_aload_n (pc' := 16) rfl rfl rfl (x_getR (pc' := 19) (t := (9, _, 31)) rfl rfl rfl (x_aload_n (pc' := 20) rfl rfl rfl (x_getI (pc' := 23) rfl rfl rfl ?_)))
  rw [hD.2.2.2.1]
  refine x_aload_n (pc' := 24) rfl rfl rfl (x_iconst (pc' := 25) rfl rfl (x_iconst (pc' := 26) rfl rfl (x_invQ3 (pc' := 29) rfl rfl rfl rfl rfl (c_X9_number hn ht P.1 0 2 (fun _ => ha) (by decide) (by decide) (by omega) h) (fun vq Mq hq26 => ?_))))
  obtain ⟨v1, rfl, hv1, w1, rfl, h1, hf1⟩ := hq26
  have hc : DM w1 P.2.2 m := DM_Z hf1 hD
  show WP l X _ md_X9_readOffice (29, _, [_, _, _], _) _
  refine x_iast (pc' := 30) (N := 4) rfl rfl rfl (by decide) rfl hl (by decide) (x_aload_n (pc' := 31) rfl rfl rfl (x_dup (pc' := 32) rfl rfl rfl (x_getI (pc' := 35) rfl rfl rfl ?_)))
  rw [u4_ne (by decide), hc.2.2.2.1]
  refine x_iconst (pc' := 36) rfl rfl (x_iaddN (pc' := 37) rfl rfl (x_putI (pc' := 40) rfl rfl rfl ?_))
  refine x_vret rfl rfl ?_
  refine ⟨rfl, _, rfl, FM_u (Or.inl ⟨rfl, by omega⟩) (FM_u (Or.inr (by omega)) h1), fun z => ?_, ((hf1.r).u 31 _ (by omega) _).u 0 26 (by omega) _⟩
  rw [hv1 z]
  exact DM_addO hc _
set_option maxRecDepth 20000 in
theorem l_X9_readPerson {l : Launch} {X : XT} {d Lz : Nat} {w : Nat → Nat → Nat → Nat → Int32} {n : Nat} {t : Nat → Nat} (hn : n ≤ 240) (ht : ∀ q, q < n → t q < 256) (m : Nat) (P : PS) (ha : P.1 ≤ n) (hF0 : P.2.1.1 = 0) (pl : Int32) (hl : P.2.2.np < 7) : ∀ (kk i : Nat), ∀ (wn : WF), FM wn n t (perL t n P i).1 (perL t n P i).2.1 → wn 9 0 0 25 = nI P.2.2.np → ((perL t n P i).2.1.1 = 0 → DM wn (perL t n P i).2.2 (P.2.2.np * 3 + i)) → frG w wn →  i ≤ 3 → 3 + 1 ≤ i + kk → WP l X (d + 4) md_X9_readPerson (18, [some (.inr (.inr (9, 0, 0))), some (.inl (pl)), some (.inl (nI i))], [], mk Lz wn) (fun v M' => v = none ∧ ∃ w', M' = mk Lz w' ∧ FM w' n t (perP t n P).1 (perP t n P).2.1 ∧ ((perP t n P).2.1.1 = 0 → DM w' (perP t n P).2.2 (P.2.2.np * 3 + 3)) ∧ frG w w') := by
  intro kk
  induction kk with
  | zero =>
    intro i wn hT hp hD2 hf h1 h2
    exact absurd h2 (by omega)
  | succ kk ih =>
    intro i wn hT hp hD2 hf hi1 hi2
    refine x_iload_n (pc' := 19) rfl rfl rfl (x_iconst (pc' := 20) rfl rfl ?_)
    refine x_icmp_geN (pc' := 23) rfl rfl (by omega) (by omega) (fun h20 => ?_) (fun h20 => ?_)
    · have ei : i = 3 := by omega
      subst ei
      refine x_aload_n (pc' := 50) rfl rfl rfl (x_getR (pc' := 53) (t := (9, _, 30)) rfl rfl rfl (x_aload_n (pc' := 54) rfl rfl rfl (x_getI (pc' := 57) rfl rfl rfl ?_)))
      rw [hp]
      refine x_aload_n (pc' := 58) rfl rfl rfl (x_iconst (pc' := 59) rfl rfl (x_bipush (pc' := 61) rfl rfl (x_invQ3 (pc' := 64) rfl rfl rfl rfl rfl (c_X9_number hn ht _ 0 9 (fun _ => (perL_at ha 3).2) (by decide) (by decide) (perL_3 (by omega) 3) hT) (fun vq Mq hq61 => ?_))))
      obtain ⟨v1, rfl, hv1, w1, rfl, h1, hf1⟩ := hq61
      show WP l X _ md_X9_readPerson (64, _, [_, _, _], _) _
      refine x_iast (pc' := 65) (N := 7) rfl rfl rfl (by decide) rfl hl (by decide) (x_aload_n (pc' := 66) rfl rfl rfl (x_dup (pc' := 67) rfl rfl rfl (x_getI (pc' := 70) rfl rfl rfl ?_)))
      rw [u4_ne (by decide), hf1 9 0 0 25 (by omega), hp]
      refine x_iconst (pc' := 71) rfl rfl (x_iaddN (pc' := 72) rfl rfl (x_putI (pc' := 75) rfl rfl rfl ?_))
      refine x_vret rfl rfl ?_
      refine ⟨rfl, _, rfl, FM_u (Or.inl ⟨rfl, by omega⟩) (FM_u (Or.inr (by omega)) h1), fun z => ?_, hf.tr ((hf1.r.u 30 _ (by omega) _).u 0 25 (by omega) _)⟩
      have z2 := nmA_ok (show (nmA t n (perL t n P 3).1 (perL t n P 3).2.1 0 9).2.2.1 = 0 from z)
      rw [hv1 z]
      have e := DM_addP (DM_Z hf1 (hD2 z2.1)) (nmA t n (perL t n P 3).1 (perL t n P 3).2.1 0 9).1
      rw [perL_np] at e
      exact e
    · refine x_aload_n (pc' := 24) rfl rfl rfl (x_getR (pc' := 27) (t := (9, _, 29)) rfl rfl rfl (x_iconst (pc' := 28) rfl rfl (x_aload_n (pc' := 29) rfl rfl rfl (x_getI (pc' := 32) rfl rfl rfl ?_))))
      rw [hp]
      refine x_imulN (pc' := 33) rfl rfl ?_
      rw [Nat.mul_comm 3]
      refine x_iload_n (pc' := 34) rfl rfl rfl (x_iaddN (pc' := 35) rfl rfl (x_aload_n (pc' := 36) rfl rfl rfl (x_iconst (pc' := 37) rfl rfl (x_bipush (pc' := 39) rfl rfl (x_invQ3 (pc' := 42) rfl rfl rfl rfl rfl (c_X9_number hn ht _ 0 9 (fun _ => (perL_at ha i).2) (by decide) (by decide) (perL_3 (by omega) i) hT) (fun vq Mq hq39 => ?_))))))
      obtain ⟨v1, rfl, hv1, w1, rfl, h1, hf1⟩ := hq39
      show WP l X _ md_X9_readPerson (42, _, [_, _, _], _) _
      refine x_iast (pc' := 43) (N := 21) rfl rfl rfl (by decide) rfl (by omega) (by decide) (x_iinc2 (pc' := 46) rfl rfl rfl (nI_add _ _) (x_goto rfl ?_))
      exact ih (i + 1) _ (FM_u (Or.inr (by omega)) h1) (by rw [u4_ne (by decide), hf1 9 0 0 25 (by omega)]; exact hp) (fun z => by
        have z2 := nmA_ok (show (nmA t n (perL t n P i).1 (perL t n P i).2.1 0 9).2.2.1 = 0 from z)
        rw [hv1 z]; exact DM_setG (DM_Z hf1 (hD2 z2.1)) _) (hf.tr (hf1.r.u 29 _ (by omega) _)) (by omega) (by omega)
set_option maxRecDepth 20000 in
theorem c_X9_readPerson {l : Launch} {X : XT} {d Lz : Nat} {w : Nat → Nat → Nat → Nat → Int32} {n : Nat} {t : Nat → Nat} (hn : n ≤ 240) (ht : ∀ q, q < n → t q < 256) (m : Nat) (P : PS) (ha : P.1 ≤ n) (hF0 : P.2.1.1 = 0) (pl : Int32) (hl : P.2.2.np < 7) (h : FM w n t P.1 P.2.1) (hD : DM w P.2.2 (P.2.2.np * 3)) : WP l X (d + 4) md_X9_readPerson (en md_X9_readPerson [.inr (.inr (9, 0, 0)), .inl (pl)] (mk Lz w)) (fun v M' => v = none ∧ ∃ w', M' = mk Lz w' ∧ FM w' n t (perP t n P).1 (perP t n P).2.1 ∧ ((perP t n P).2.1.1 = 0 → DM w' (perP t n P).2.2 (P.2.2.np * 3 + 3)) ∧ frG w w') := by
  show WP l X _ md_X9_readPerson (0, [some (.inr (.inr (9, 0, 0))), some (.inl (pl)), none], [], _) _
  refine x_aload_n (pc' := 1) rfl rfl rfl (x_getI (pc' := 4) rfl rfl rfl (x_bipush (pc' := 6) rfl rfl ?_))
  refine x_icmp_ne (pc' := 9) rfl rfl (fun h6 => absurd h6 (by rw [hD.2.2.1]; exact fun z => absurd ((nI_eq (by omega) (by omega)).mp z) (by omega))) (fun h6 => ?_)
  refine x_iconst (pc' := 17) rfl rfl (x_istore_n2 (pc' := 18) rfl rfl rfl ?_)
  exact l_X9_readPerson hn ht (P.2.2.np * 3) P ha hF0 pl hl 4 0 w h hD.2.2.1 (fun _ => hD) (frG.rf w) (by omega) (by omega)
set_option maxRecDepth 20000 in
theorem e16_X9_readDays {l : Launch} {X : XT} {d : Nat} {M : Mem} {pl : Int32} {Q : Option AV → Mem → Prop} (hQ : Q none M) : WP l X (d + 4) md_X9_readDays (16, [some (.inr (.inr (9, 0, 0))), some (.inl (pl)), some (.inl (nI 0))], [], M) Q := by
  refine x_iload_n (pc' := 17) rfl rfl rfl ?_
  refine x_if_eq (pc' := 20) rfl rfl (fun h17 => ?_) (fun h17 => absurd rfl h17)
  refine x_vret rfl rfl ?_
  exact hQ
set_option maxRecDepth 20000 in
theorem e91_X9_readDays {l : Launch} {X : XT} {d Lz : Nat} {w : Nat → Nat → Nat → Nat → Int32} {pl : Int32} {Q : Option AV → Mem → Prop} (hQ : Q none (mk Lz (u4 w 9 0 0 20 (w 9 0 0 20 + nI 0)))) : WP l X (d + 4) md_X9_readDays (91, [some (.inr (.inr (9, 0, 0))), some (.inl (pl)), some (.inl (nI 0))], [], mk Lz w) Q := by
  refine x_aload_n (pc' := 92) rfl rfl rfl (x_dup (pc' := 93) rfl rfl rfl (x_getI (pc' := 96) rfl rfl rfl (x_iload_n (pc' := 97) rfl rfl rfl ?_)))
  refine x_if_eq (pc' := 100) rfl rfl (fun h97 => ?_) (fun h97 => absurd rfl h97)
  refine x_iconst (pc' := 105) rfl rfl (x_iadd (pc' := 106) rfl rfl (x_putI (pc' := 109) rfl rfl rfl (x_goto rfl ?_)))
  exact e16_X9_readDays hQ
set_option maxRecDepth 20000 in
theorem l_X9_readDays {l : Launch} {X : XT} {d Lz : Nat} {n : Nat} {t : Nat → Nat} (hn : n ≤ 240) (ht : ∀ q, q < n → t q < 256) (m : Nat) (pl : Int32) : ∀ (f : Nat) {w : WF} (P : PS) (ha : P.1 ≤ n) (hF0 : P.2.1.1 = 0) (hnt : P.2.2.nt + f = 12) (hf1 : 1 ≤ f) (h : FM w n t P.1 P.2.1) (hD : DM w P.2.2 m), WP l X (d + 4) md_X9_readDays (16, [some (.inr (.inr (9, 0, 0))), some (.inl (pl)), some (.inl (nI 1))], [], mk Lz w) (fun v M' => v = none ∧ ∃ w', M' = mk Lz w' ∧ ((FM w' n t (turP t n f P).1 (turP t n f P).2.1 ∧ ((turP t n f P).2.1.1 = 0 → DM w' (turP t n f P).2.2 m)) ∨ ((turP t n f P).2.1.1 = 0 ∧ nxt t n (turP t n f P).1 44 = true ∧ FM w' n t n (1, nI (skp t n (turP t n f P).1)))) ∧ frG w w') := by
  intro f
  induction f with
  | zero =>
    intro w P ha hF0 hnt hf1
    exact absurd hf1 (by omega)
  | succ f ih =>
    intro w P ha hF0 hnt hfz h hD
    refine x_iload_n (pc' := 17) rfl rfl rfl ?_
    refine x_if_eq (pc' := 20) rfl rfl (fun h17 => absurd h17 (by decide)) (fun h17 => ?_)
    refine x_aload_n (pc' := 21) rfl rfl rfl (x_getR (pc' := 24) (t := (9, _, 32)) rfl rfl rfl (x_aload_n (pc' := 25) rfl rfl rfl (x_getI (pc' := 28) rfl rfl rfl ?_)))
    rw [hD.2.2.2.2.1]
    refine x_aload_n (pc' := 29) rfl rfl rfl (x_iconst (pc' := 30) rfl rfl (x_iconst (pc' := 31) rfl rfl (x_invQ3 (pc' := 34) rfl rfl rfl rfl rfl (c_X9_number hn ht P.1 0 2 (fun _ => ha) (by decide) (by decide) (by omega) h) (fun vq Mq hq31 => ?_))))
    obtain ⟨v1, rfl, hv1, w1, rfl, h1, hfn⟩ := hq31
    have hc : DM w1 P.2.2 m := DM_Z hfn hD
    have hA := nmA_at (t := t) (F := P.2.1) (lo := 0) (hi := 2) ha
    have h3 := nmA_3 (t := t) (n := n) (a := P.1) (F := P.2.1) (lo := 0) (hi := 2) (by omega)
    show WP l X _ md_X9_readDays (34, _, [_, _, _], _) _
    refine x_iast (pc' := 35) (N := 12) rfl rfl rfl (by decide) rfl (by omega) (by decide) (x_aload_n (pc' := 36) rfl rfl rfl (x_dup (pc' := 37) rfl rfl rfl (x_getI (pc' := 40) rfl rfl rfl ?_)))
    rw [u4_ne (by decide), hc.2.2.2.2.1]
    refine x_iconst (pc' := 41) rfl rfl (x_iaddN (pc' := 42) rfl rfl (x_putI (pc' := 45) rfl rfl rfl ?_))
    have hT1 : FM (u4 (u4 w1 9 0 32 P.2.2.nt (nI v1)) 9 0 0 27 (nI (P.2.2.nt + 1))) n t (tur1 t n P).1 (tur1 t n P).2.1 := FM_u (Or.inl ⟨rfl, by omega⟩) (FM_u (Or.inr (by omega)) h1)
    have hc1 : (tur1 t n P).2.1.1 = 0 → DM (u4 (u4 w1 9 0 32 P.2.2.nt (nI v1)) 9 0 0 27 (nI (P.2.2.nt + 1))) (tur1 t n P).2.2 m := fun z => by rw [hv1 z]; exact DM_addT hc _
    have hf3 : frG w (u4 (u4 w1 9 0 32 P.2.2.nt (nI v1)) 9 0 0 27 (nI (P.2.2.nt + 1))) := (hfn.r.u 32 _ (by omega) _).u 0 27 (by omega) _
    have hs := skp_b (t := t) hA.2
    refine x_aload_n (pc' := 46) rfl rfl rfl (x_invI1 (pc' := 49) rfl rfl rfl (c_X9_fine (tur1 t n P).2.1 h3 hT1.2.1) ?_)
    refine x_if_eq (pc' := 52) rfl rfl (fun h49 => ?_) (fun h49 => ?_)
    · have hz : ¬ (tur1 t n P).2.1.1 = 0 := of_decide_eq_false (bI_eq0.mp h49)
      refine x_iconst (pc' := 66) rfl rfl (x_istore_n2 (pc' := 67) rfl rfl rfl (x_iload_n (pc' := 68) rfl rfl rfl ?_))
      refine x_if_eq (pc' := 71) rfl rfl (fun h68 => ?_) (fun h68 => absurd rfl h68)
      exact e91_X9_readDays (w := _) (pl := pl) ⟨rfl, _, rfl, Or.inl ⟨by rw [turP_F1 hz]; exact FM_b hz (FM_H (b := 0) hT1 ((show frH _ _ from fun _ _ _ _ _ => rfl).u _) (fun z => absurd z hz)), fun z => absurd (by rwa [turP_F1 hz] at z) hz⟩, hf3.u 0 20 (by omega) _⟩
    · have hz : (tur1 t n P).2.1.1 = 0 := of_decide_eq_true (bq h49)
      refine x_aload_n (pc' := 53) rfl rfl rfl (x_invQ1 (pc' := 56) rfl rfl rfl (c_X9_here hn ht (tur1 t n P).1 hA.2 hT1.1 (hT1.2.2.2 hz)) (fun vq Mq hq53 => ?_))
      obtain ⟨rfl, w2, rfl, h20, hf2⟩ := hq53
      have hT2 := FM_H (b := skp t n (tur1 t n P).1) hT1 hf2 (fun _ => h20)
      have hc2 : DM w2 (tur1 t n P).2.2 m := DM_Z hf2.z (hc1 hz)
      show WP l X _ md_X9_readDays (56, _, [_], _) _
      refine x_bipush (pc' := 58) rfl rfl ?_
      refine x_icmp_ne (pc' := 61) rfl rfl (fun h58 => ?_) (fun h58 => ?_)
      · refine x_iconst (pc' := 62) rfl rfl ?_
        have hx : nxt t n (tur1 t n P).1 44 = true := (hr_c ht (by decide)).mp h58
        refine x_goto rfl (x_istore_n2 (pc' := 67) rfl rfl rfl (x_iload_n (pc' := 68) rfl rfl rfl ?_))
        refine x_if_eq (pc' := 71) rfl rfl (fun h68 => absurd h68 (by decide)) (fun h68 => ?_)
        refine x_aload_n (pc' := 72) rfl rfl rfl (x_getI (pc' := 75) rfl rfl rfl ?_)
        rw [hc2.2.2.2.2.1, tur1_nt]
        refine x_bipush (pc' := 77) rfl rfl ?_
        refine x_icmp_neN (pc' := 80) rfl rfl (by omega) (by omega) (fun h77 => ?_) (fun h77 => ?_)
        · refine x_aload_n (pc' := 81) rfl rfl rfl (x_iconst (pc' := 82) rfl rfl (x_aload_n (pc' := 83) rfl rfl rfl (x_getI (pc' := 86) rfl rfl rfl ?_)))
          rw [h20]
          refine x_invQ3 (pc' := 89) rfl rfl rfl rfl rfl (c_X9_wrong (skp t n (tur1 t n P).1) n 1 (skp t n (tur1 t n P).1) (by decide) (by omega) hT2) (fun vq Mq hq86 => ?_)
          obtain ⟨rfl, w3, rfl, h4, hf4⟩ := hq86
          show WP l X _ md_X9_readDays (89, _, [], _) _
          refine x_iconst (pc' := 90) rfl rfl (x_istore_n2 (pc' := 91) rfl rfl rfl ?_)
          rw [blm_z hz] at h4
          exact e91_X9_readDays (w := w3) (pl := pl) ⟨rfl, _, rfl, Or.inr (by rw [turP_f1 (by omega)]; exact ⟨hz, (nxt_cg (skp_i hA.2)).trans hx, by show FM _ n t n (1, nI (skp t n (skp t n (tur1 t n P).1))); rw [skp_i (t := t) (show (tur1 t n P).1 ≤ n from hA.2)]; exact FM_H (w := w3) h4 ((show frH w3 w3 from fun _ _ _ _ _ => rfl).u _) (fun z => absurd z (show ¬ (1 : Nat) = 0 by decide))⟩), ((hf3.tr hf2.z.r).tr hf4.r).u 0 20 (by omega) _⟩
        · refine x_aload_n (pc' := 92) rfl rfl rfl (x_dup (pc' := 93) rfl rfl rfl (x_getI (pc' := 96) rfl rfl rfl ?_))
          rw [h20]
          refine x_iload_n (pc' := 97) rfl rfl rfl ?_
          refine x_if_eq (pc' := 100) rfl rfl (fun h97 => absurd h97 (by decide)) (fun h97 => ?_)
          refine x_iconst (pc' := 101) rfl rfl (x_goto rfl (x_iaddN (pc' := 106) rfl rfl (x_putI (pc' := 109) rfl rfl rfl (x_goto rfl ?_))))
          rw [turP_t (by omega) hx]
          refine wp_cons (ih (skp t n (tur1 t n P).1 + 1, (tur1 t n P).2) (nxt_lt hx).1 hz (by show P.2.2.nt + 1 + f = 12; omega) (by omega) (FM_H (w := w2) hT2 ((show frH w2 w2 from fun _ _ _ _ _ => rfl).u _) (fun _ => u4_self _ _ _ _ _ _)) (DM_Z (w := w2) ((frZ.rf w2).u 20 (by omega) _) hc2)) ?_
          rintro v M ⟨q1, w5, q2, q3, q4⟩
          exact ⟨q1, w5, q2, q3, ((hf3.tr hf2.z.r).u 0 20 (by omega) _).tr q4⟩
      · have hx : nxt t n (tur1 t n P).1 44 = false := by
          cases y : nxt t n (tur1 t n P).1 44 with
          | false => rfl
          | true => exact absurd ((hr_c ht (by decide)).mpr y) h58
        refine x_iconst (pc' := 66) rfl rfl (x_istore_n2 (pc' := 67) rfl rfl rfl (x_iload_n (pc' := 68) rfl rfl rfl ?_))
        refine x_if_eq (pc' := 71) rfl rfl (fun h68 => ?_) (fun h68 => absurd rfl h68)
        exact e91_X9_readDays (w := _) (pl := pl) ⟨rfl, _, rfl, Or.inl (by rw [turP_f2 hx]; exact ⟨FM_H (w := w2) hT2 ((show frH w2 w2 from fun _ _ _ _ _ => rfl).u _) (fun _ => by rw [u4_self, h20, nI_add]; rfl), fun _ => DM_Z (w := w2) ((frZ.rf w2).u 20 (by omega) _) hc2⟩), (hf3.tr hf2.z.r).u 0 20 (by omega) _⟩
set_option maxRecDepth 20000 in
theorem c_X9_readDays {l : Launch} {X : XT} {d Lz : Nat} {w : Nat → Nat → Nat → Nat → Int32} {n : Nat} {t : Nat → Nat} (hn : n ≤ 240) (ht : ∀ q, q < n → t q < 256) (m : Nat) (P : PS) (ha : P.1 ≤ n) (hF0 : P.2.1.1 = 0) (pl : Int32) (hl : P.2.2.nt = 0) (h : FM w n t P.1 P.2.1) (hD : DM w P.2.2 m) : WP l X (d + 4) md_X9_readDays (en md_X9_readDays [.inr (.inr (9, 0, 0)), .inl (pl)] (mk Lz w)) (fun v M' => v = none ∧ ∃ w', M' = mk Lz w' ∧ ((FM w' n t (turP t n 12 P).1 (turP t n 12 P).2.1 ∧ ((turP t n 12 P).2.1.1 = 0 → DM w' (turP t n 12 P).2.2 m)) ∨ ((turP t n 12 P).2.1.1 = 0 ∧ nxt t n (turP t n 12 P).1 44 = true ∧ FM w' n t n (1, nI (skp t n (turP t n 12 P).1)))) ∧ frG w w') := by
  show WP l X _ md_X9_readDays (0, [some (.inr (.inr (9, 0, 0))), some (.inl (pl)), none], [], _) _
  refine x_aload_n (pc' := 1) rfl rfl rfl (x_getI (pc' := 4) rfl rfl rfl ?_)
  refine x_if_le (pc' := 7) rfl rfl (fun h4 => ?_) (fun h4 => absurd (by rw [hD.2.2.2.2.1, hl]; decide) h4)
  refine x_iconst (pc' := 15) rfl rfl (x_istore_n2 (pc' := 16) rfl rfl rfl ?_)
  exact l_X9_readDays hn ht m pl 12 P ha hF0 (by omega) (by omega) h hD
