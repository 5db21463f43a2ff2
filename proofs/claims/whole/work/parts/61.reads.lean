/-! the object reads a text -/
theorem turP_at {t : Nat → Nat} {n : Nat} : ∀ (f : Nat) (P : PS), P.1 ≤ n → P.1 ≤ (turP t n f P).1 ∧ (turP t n f P).1 ≤ n
  | 0, P, h => ⟨Nat.le_refl _, h⟩
  | f + 1, P, h => by
    have h1 : P.1 ≤ (tur1 t n P).1 ∧ (tur1 t n P).1 ≤ n := nmA_at h
    have h2 := skp_b (t := t) h1.2
    show P.1 ≤ (bif decide ((tur1 t n P).2.2.nt < 12) && nxt t n (tur1 t n P).1 44 then turP t n f (skp t n (tur1 t n P).1 + 1, (tur1 t n P).2) else (skp t n (tur1 t n P).1, (tur1 t n P).2)).1 ∧ (bif decide ((tur1 t n P).2.2.nt < 12) && nxt t n (tur1 t n P).1 44 then turP t n f (skp t n (tur1 t n P).1 + 1, (tur1 t n P).2) else (skp t n (tur1 t n P).1, (tur1 t n P).2)).1 ≤ n
    cases z : nxt t n (tur1 t n P).1 44 with
    | false => rw [Bool.and_false]; exact ⟨Nat.le_trans h1.1 h2.1, h2.2.1⟩
    | true =>
      rw [Bool.and_true]
      have z1 := (nxt_lt z).1
      have ih := turP_at (t := t) f (skp t n (tur1 t n P).1 + 1, (tur1 t n P).2) z1
      cases decide ((tur1 t n P).2.2.nt < 12)
      · exact ⟨Nat.le_trans h1.1 h2.1, h2.2.1⟩
      · exact ⟨Nat.le_trans (Nat.le_trans h1.1 h2.1) (Nat.le_trans (Nat.le_succ _) ih.1), ih.2⟩
theorem turP_3 {t : Nat → Nat} {n : Nat} : ∀ (f : Nat) (P : PS), P.2.1.1 ≤ 3 → (turP t n f P).2.1.1 ≤ 3
  | 0, P, h => h
  | f + 1, P, h => by
    have h1 : (tur1 t n P).2.1.1 ≤ 3 := nmA_3 h
    show (bif decide ((tur1 t n P).2.2.nt < 12) && nxt t n (tur1 t n P).1 44 then turP t n f (skp t n (tur1 t n P).1 + 1, (tur1 t n P).2) else (skp t n (tur1 t n P).1, (tur1 t n P).2)).2.1.1 ≤ 3
    cases decide ((tur1 t n P).2.2.nt < 12) && nxt t n (tur1 t n P).1 44
    · exact h1
    · exact turP_3 f _ h1
theorem turP_np {t : Nat → Nat} {n : Nat} : ∀ (f : Nat) (P : PS), (turP t n f P).2.2.np = P.2.2.np
  | 0, P => rfl
  | f + 1, P => by
    show (bif decide ((tur1 t n P).2.2.nt < 12) && nxt t n (tur1 t n P).1 44 then turP t n f (skp t n (tur1 t n P).1 + 1, (tur1 t n P).2) else (skp t n (tur1 t n P).1, (tur1 t n P).2)).2.2.np = P.2.2.np
    cases decide ((tur1 t n P).2.2.nt < 12) && nxt t n (tur1 t n P).1 44
    · rfl
    · exact turP_np f (skp t n (tur1 t n P).1 + 1, (tur1 t n P).2)
theorem bodP_at {t : Nat → Nat} {n c : Nat} {P : PS} (h : P.1 ≤ n) : P.1 ≤ (bodP t n c P).1 ∧ (bodP t n c P).1 ≤ n := by
  unfold bodP
  split
  · have h1 := nmA_at (t := t) (F := P.2.1) (lo := 0) (hi := 2) h
    have h2 := nmA_at (t := t) (F := (nmA t n P.1 P.2.1 0 2).2.2) (lo := 1) (hi := 9) h1.2
    exact ⟨Nat.le_trans h1.1 h2.1, h2.2⟩
  · split
    · have h1 := perL_at (t := t) h 3
      have h2 := nmA_at (t := t) (F := (perL t n P 3).2.1) (lo := 0) (hi := 9) h1.2
      exact ⟨Nat.le_trans h1.1 h2.1, h2.2⟩
    · split
      · exact turP_at 12 P h
      · exact nmA_at h
theorem bodP_3 {t : Nat → Nat} {n c : Nat} {P : PS} (h : P.2.1.1 ≤ 3) : (bodP t n c P).2.1.1 ≤ 3 := by
  unfold bodP
  split
  · exact nmA_3 (nmA_3 h)
  · split
    · exact nmA_3 (perL_3 h 3)
    · split
      · exact turP_3 12 P h
      · exact nmA_3 h
theorem sgF_3 {t : Nat → Nat} {n a : Nat} {F : FS} (h : F.1 ≤ 3) : (sgF t n a F).1 ≤ 3 := by
  unfold sgF
  cases nxt t n a 59
  · exact blm_lt h (by decide)
  · exact h
theorem whyW_3 (c : Nat) (D : Dr) : whyW c D ≤ 3 := by
  unfold whyW
  repeat' split
  all_goals decide
theorem claP_at {t : Nat → Nat} {n : Nat} {P : PS} (h : P.1 < n) : P.1 ≤ (claP t n P).1 ∧ (claP t n P).1 ≤ n ∧ ((claP t n P).2.1.1 = 0 → P.1 < (claP t n P).1) := by
  unfold claP
  split
  · rw [sgnP_eq]
    have h1 := bodP_at (t := t) (c := t P.1) (P := (P.1 + 1, P.2)) h
    have h2 := nxA_b (t := t) (c := 59) h1.2
    have h3 : P.1 + 1 ≤ (bodP t n (t P.1) (P.1 + 1, P.2)).1 := h1.1
    exact ⟨by show P.1 ≤ nxA t n _ 59; omega, h2.2, fun _ => by show P.1 < nxA t n _ 59; omega⟩
  · rename_i z
    exact ⟨Nat.le_refl _, Nat.le_of_lt h, fun e => absurd e (blm_0 z)⟩
theorem claP_3 {t : Nat → Nat} {n : Nat} {P : PS} (h : P.2.1.1 ≤ 3) : (claP t n P).2.1.1 ≤ 3 := by
  unfold claP
  split
  · rw [sgnP_eq]
    exact sgF_3 (bodP_3 h)
  · exact blm_lt h (whyW_3 _ _)
def isLw (D : Dr) : Bool := decide (¬ D.lw = -1)
set_option maxRecDepth 20000 in
theorem c_X7_whyNoWord {l : Launch} {X : XT} {d Lz : Nat} {w : Nat → Nat → Nat → Nat → Int32} (c j m : Nat) (D : Dr) (hB : D.np ≤ 7 ∧ D.nt ≤ 12 ∧ D.no ≤ 4) (hc : c < 256) (hD : DC w j D m) : CT l X (d + 2) md_X7_whyNoWord [.inl (nI c), .inr (.inr (4, j, 0))] (mk Lz w) (some (.inl (nI (whyW c D)))) (mk Lz w) := by
  show WP l X _ md_X7_whyNoWord (0, [some (.inl (nI c)), some (.inr (.inr (4, j, 0)))], [], _) _
  refine x_iload_n (pc' := 1) rfl rfl rfl (x_bipush (pc' := 3) rfl rfl ?_)
  refine x_icmp_neN (pc' := 6) rfl rfl (by omega) (by omega) (fun h3 => ?_) (fun h3 => ?_)
  · refine x_aload_n (pc' := 7) rfl rfl rfl (x_invI1 (pc' := 10) rfl rfl rfl (c_X4_isThere j) ?_)
    rw [hD.1]
    refine x_if_eq (pc' := 13) rfl rfl (fun h10 => ?_) (fun h10 => ?_)
    · refine x_iconst (pc' := 18) rfl rfl ?_
      refine x_iret rfl rfl ?_
      exact rI (by unfold whyW; rw [if_pos h3, if_pos (Decidable.byContradiction (fun z => by rw [dT z] at h10; exact absurd h10 (by decide)))])
    · refine x_iconst (pc' := 14) rfl rfl (x_goto rfl ?_)
      refine x_iret rfl rfl ?_
      exact rI (by unfold whyW; rw [if_pos h3, if_neg (of_decide_eq_true (bq h10))])
  · refine x_aload_n (pc' := 20) rfl rfl rfl (x_invI1 (pc' := 23) rfl rfl rfl (c_X4_isThere j) ?_)
    rw [hD.1]
    refine x_if_ne (pc' := 26) rfl rfl (fun h23 => ?_) (fun h23 => ?_)
    · refine x_iconst (pc' := 27) rfl rfl ?_
      refine x_iret rfl rfl ?_
      have hl : D.lw = -1 := Decidable.byContradiction (fun z => by rw [dT z] at h23; exact absurd h23 (by decide))
      exact rI (by unfold whyW; rw [if_neg h3, if_pos hl])
    · have hl := of_decide_eq_true (bq h23)
      refine x_iload_n (pc' := 29) rfl rfl rfl ?_
      refine x_lswG rfl ?_
      refine sw_c (fun h29_0 => ?_) (fun n29_0 => ?_)
      · have e100 : c = 100 := (nI_eq (by omega) (by omega)).mp h29_0
        have hb := hB
        refine x_aload_n (pc' := 80) rfl rfl rfl (x_getI (pc' := 83) rfl rfl rfl ?_)
        rw [hD.2.2.2.1]
        refine x_iconst (pc' := 84) rfl rfl ?_
        refine x_icmp_geN (pc' := 87) rfl rfl (by omega) (by omega) (fun h84 => ?_) (fun h84 => ?_)
        · refine x_iconst (pc' := 92) rfl rfl ?_
          refine x_iret rfl rfl ?_
          exact rI (by unfold whyW; rw [if_neg h3, if_neg hl, if_neg (by omega), if_pos e100, if_neg (by omega)])
        · refine x_iconst (pc' := 88) rfl rfl (x_goto rfl ?_)
          refine x_iret rfl rfl ?_
          exact rI (by unfold whyW; rw [if_neg h3, if_neg hl, if_neg (by omega), if_pos e100, if_pos (by omega)])
      refine sw_c (fun h29_1 => ?_) (fun n29_1 => ?_)
      · have e111 : c = 111 := (nI_eq (by omega) (by omega)).mp h29_1
        have hb := hB
        refine x_aload_n (pc' := 94) rfl rfl rfl (x_getI (pc' := 97) rfl rfl rfl ?_)
        rw [hD.2.2.2.2.1]
        refine x_iconst (pc' := 98) rfl rfl ?_
        refine x_icmp_geN (pc' := 101) rfl rfl (by omega) (by omega) (fun h98 => ?_) (fun h98 => ?_)
        · refine x_iconst (pc' := 106) rfl rfl ?_
          refine x_iret rfl rfl ?_
          exact rI (by unfold whyW; rw [if_neg h3, if_neg hl, if_neg (by omega), if_neg (by omega), if_pos e111, if_neg (by omega)])
        · refine x_iconst (pc' := 102) rfl rfl (x_goto rfl ?_)
          refine x_iret rfl rfl ?_
          exact rI (by unfold whyW; rw [if_neg h3, if_neg hl, if_neg (by omega), if_neg (by omega), if_pos e111, if_pos (by omega)])
      refine sw_c (fun h29_2 => ?_) (fun n29_2 => ?_)
      · have e112 : c = 112 := (nI_eq (by omega) (by omega)).mp h29_2
        have hb := hB
        refine x_aload_n (pc' := 65) rfl rfl rfl (x_getI (pc' := 68) rfl rfl rfl ?_)
        rw [hD.2.2.1]
        refine x_bipush (pc' := 70) rfl rfl ?_
        refine x_icmp_geN (pc' := 73) rfl rfl (by omega) (by omega) (fun h70 => ?_) (fun h70 => ?_)
        · refine x_iconst (pc' := 78) rfl rfl ?_
          refine x_iret rfl rfl ?_
          exact rI (by unfold whyW; rw [if_neg h3, if_neg hl, if_pos e112, if_neg (by omega)])
        · refine x_iconst (pc' := 74) rfl rfl (x_goto rfl ?_)
          refine x_iret rfl rfl ?_
          exact rI (by unfold whyW; rw [if_neg h3, if_neg hl, if_pos e112, if_pos (by omega)])
      refine sw_n ?_
      refine x_iconst (pc' := 108) rfl rfl ?_
      refine x_iret rfl rfl ?_
      exact rI (by unfold whyW; rw [if_neg h3, if_neg hl, if_neg (fun z => n29_2 (by rw [z])), if_neg (fun z => n29_0 (by rw [z])), if_neg (fun z => n29_1 (by rw [z]))])
theorem lw_wh {c : Nat} {D : Dr} (h : whyW c D = 0) : (c = 107 ∧ D.lw = -1) ∨ (c = 112 ∧ D.np < 7 ∧ ¬ D.lw = -1) ∨ (c = 100 ∧ D.nt = 0 ∧ ¬ D.lw = -1) ∨ (c = 111 ∧ D.no < 4 ∧ ¬ D.lw = -1) := by
  unfold whyW at h
  by_cases z1 : c = 107
  · rw [if_pos z1] at h
    by_cases y : D.lw = -1
    · exact Or.inl ⟨z1, y⟩
    · rw [if_neg y] at h; omega
  · rw [if_neg z1] at h
    by_cases y : D.lw = -1
    · rw [if_pos y] at h; omega
    · rw [if_neg y] at h
      by_cases z2 : c = 112
      · rw [if_pos z2] at h
        by_cases x : D.np < 7
        · exact Or.inr (Or.inl ⟨z2, x, y⟩)
        · rw [if_neg x] at h; omega
      · rw [if_neg z2] at h
        by_cases z3 : c = 100
        · rw [if_pos z3] at h
          by_cases x : D.nt < 1
          · exact Or.inr (Or.inr (Or.inl ⟨z3, by omega, y⟩))
          · rw [if_neg x] at h; omega
        · rw [if_neg z3] at h
          by_cases z4 : c = 111
          · rw [if_pos z4] at h
            by_cases x : D.no < 4
            · exact Or.inr (Or.inr (Or.inr ⟨z4, x, y⟩))
            · rw [if_neg x] at h; omega
          · rw [if_neg z4] at h; omega
theorem claP_0 {t : Nat → Nat} {n : Nat} {P : PS} (h : whyW (t P.1) P.2.2 = 0) : claP t n P = (nxA t n (bodP t n (t P.1) (P.1 + 1, P.2)).1 59, sgF t n (bodP t n (t P.1) (P.1 + 1, P.2)).1 (bodP t n (t P.1) (P.1 + 1, P.2)).2.1, (bodP t n (t P.1) (P.1 + 1, P.2)).2.2) := by
  unfold claP; rw [if_pos h, sgnP_eq]
theorem bodP_k {t : Nat → Nat} {n : Nat} {P : PS} : bodP t n 107 P = lawP t n P := rfl
theorem bodP_p {t : Nat → Nat} {n : Nat} {P : PS} : bodP t n 112 P = perP t n P := rfl
theorem bodP_d {t : Nat → Nat} {n : Nat} {P : PS} : bodP t n 100 P = turP t n 12 P := rfl
theorem bodP_o {t : Nat → Nat} {n : Nat} {P : PS} : bodP t n 111 P = offP t n P := rfl
theorem turP_nt {t : Nat → Nat} {n : Nat} : ∀ (f : Nat) (P : PS), P.2.2.nt < 12 → (turP t n f P).2.2.nt ≤ 12 ∧ (turP t n f P).2.2.no = P.2.2.no
  | 0, P, h => ⟨Nat.le_of_lt h, rfl⟩
  | f + 1, P, h => by
    by_cases z : P.2.2.nt + 1 < 12
    · cases y : nxt t n (tur1 t n P).1 44 with
      | false => rw [turP_f2 y]; exact ⟨h, rfl⟩
      | true =>
        rw [turP_t z y]
        exact turP_nt f (skp t n (tur1 t n P).1 + 1, (tur1 t n P).2) z
    · rw [turP_f1 (by omega)]; exact ⟨h, rfl⟩
theorem claP_B {t : Nat → Nat} {n : Nat} {P : PS} (hB : P.2.2.np ≤ 7 ∧ P.2.2.nt ≤ 12 ∧ P.2.2.no ≤ 4) : (claP t n P).2.2.np ≤ 7 ∧ (claP t n P).2.2.nt ≤ 12 ∧ (claP t n P).2.2.no ≤ 4 := by
  by_cases z : whyW (t P.1) P.2.2 = 0
  · rw [claP_0 z]
    rcases lw_wh z with ⟨e, e2⟩ | ⟨e, e2, _⟩ | ⟨e, e2, _⟩ | ⟨e, e2, _⟩
    · rw [e]; exact hB
    · rw [e]
      show (perP t n (P.1 + 1, P.2)).2.2.np ≤ 7 ∧ _
      exact ⟨by show (perL t n (P.1 + 1, P.2) 3).2.2.np + 1 ≤ 7; rw [perL_np]; exact e2, hB.2⟩
    · rw [e]
      show (turP t n 12 (P.1 + 1, P.2)).2.2.np ≤ 7 ∧ (turP t n 12 (P.1 + 1, P.2)).2.2.nt ≤ 12 ∧ (turP t n 12 (P.1 + 1, P.2)).2.2.no ≤ 4
      have h12 := turP_nt (t := t) (n := n) 12 (P.1 + 1, P.2) (by show P.2.2.nt < 12; omega)
      exact ⟨by rw [turP_np]; exact hB.1, h12.1, by rw [h12.2]; exact hB.2.2⟩
    · rw [e]
      exact ⟨hB.1, hB.2.1, e2⟩
  · unfold claP; rw [if_neg z]; exact hB
set_option maxRecDepth 20000 in
theorem r_X7_readClause {l : Launch} {X : XT} {d Lz : Nat} {w : Nat → Nat → Nat → Nat → Int32} {n : Nat} {t : Nat → Nat} (hn : n ≤ 240) (ht : ∀ q, q < n → t q < 256) (j : Nat) (P : PS) (ha : P.1 < n) (hF3 : P.2.1.1 ≤ 3) (hB : P.2.2.np ≤ 7 ∧ P.2.2.nt ≤ 12 ∧ P.2.2.no ≤ 4) (hz : whyW (t P.1) P.2.2 = 0) (a : Nat) (haa : a ≤ n) (hab : skp t n a = skp t n (bodP t n (t P.1) (P.1 + 1, P.2)).1) (w1 : WF) (h1 : TS w1 n t a (bodP t n (t P.1) (P.1 + 1, P.2)).2.1) (hD1 : DC w1 j (bodP t n (t P.1) (P.1 + 1, P.2)).2.2 ((bodP t n (t P.1) (P.1 + 1, P.2)).2.2.np * 3)) (hf : frY j w w1) (L1 L2 : Option AV) : WP l X (d + 4) md_X7_readClause (105, [some (.inr (.inr (7, 0, 0))), some (.inr (.inr (4, j, 0))), L1, L2], [], mk Lz w1) (fun v M' => v = none ∧ ∃ w', M' = mk Lz w' ∧ TS w' n t (claP t n P).1 (claP t n P).2.1 ∧ DC w' j (claP t n P).2.2 ((claP t n P).2.2.np * 3) ∧ frY j w w') := by
  have h3 := bodP_3 (t := t) (n := n) (c := t P.1) (P := (P.1 + 1, P.2)) hF3
  rw [claP_0 hz]
  refine x_aload_n (pc' := 106) rfl rfl rfl (x_bipush (pc' := 108) rfl rfl (x_invQ2 (pc' := 111) rfl rfl rfl rfl (c_X7_readSign hn ht a (bodP t n (t P.1) (P.1 + 1, P.2)).1 haa hab h3 h1) (fun vq Mq hq108 => ?_)))
  obtain ⟨rfl, w2, rfl, h2, hf2⟩ := hq108
  show WP l X _ md_X7_readClause (111, _, [], _) _
  refine x_vret rfl rfl ?_
  exact ⟨rfl, _, rfl, h2, DC_cg (hf2.c4 j) hD1, hf.tr (hf2.y j)⟩
theorem DC_m {w : WF} {j m m2 : Nat} {D : Dr} (e : m2 = m) (h : DC w j D m) : DC w j D m2 := by rw [e]; exact h
set_option maxRecDepth 20000 in
theorem c_X7_readClause {l : Launch} {X : XT} {d Lz : Nat} {w : Nat → Nat → Nat → Nat → Int32} {n : Nat} {t : Nat → Nat} (hn : n ≤ 240) (ht : ∀ q, q < n → t q < 256) (j : Nat) (P : PS) (ha : P.1 < n) (hF3 : P.2.1.1 ≤ 3) (hB : P.2.2.np ≤ 7 ∧ P.2.2.nt ≤ 12 ∧ P.2.2.no ≤ 4) (h : TS w n t P.1 P.2.1) (hD : DC w j P.2.2 (P.2.2.np * 3)) : WP l X (d + 4) md_X7_readClause (en md_X7_readClause [.inr (.inr (7, 0, 0)), .inr (.inr (4, j, 0))] (mk Lz w)) (fun v M' => v = none ∧ ∃ w', M' = mk Lz w' ∧ TS w' n t (claP t n P).1 (claP t n P).2.1 ∧ DC w' j (claP t n P).2.2 ((claP t n P).2.2.np * 3) ∧ frY j w w') := by
  show WP l X _ md_X7_readClause (0, [some (.inr (.inr (7, 0, 0))), some (.inr (.inr (4, j, 0))), none, none], [], _) _
  refine x_aload_n (pc' := 1) rfl rfl rfl (x_getR (pc' := 4) (t := (7, _, 1)) rfl rfl rfl (x_aload_n (pc' := 5) rfl rfl rfl (x_getI (pc' := 8) rfl rfl rfl ?_)))
  rw [h.2.2.1]
  refine x_iald (pc' := 9) (N := 240) rfl rfl rfl rfl (by first | assumption | omega) (by decide) ?_
  rw [h.2.1 _ ha]
  refine x_istore_n2 (pc' := 10) rfl rfl rfl (x_iload_n (pc' := 11) rfl rfl rfl (x_aload_n (pc' := 12) rfl rfl rfl (x_invS2 (pc' := 15) rfl rfl rfl rfl rfl (c_X7_whyNoWord (t P.1) j _ P.2.2 hB (ht _ ha) hD) ?_)))
  refine x_istore_n3 (pc' := 16) rfl rfl rfl (x_iload_n (pc' := 17) rfl rfl rfl ?_)
  refine x_if_eq (pc' := 20) rfl rfl (fun h17 => ?_) (fun h17 => ?_)
  · have hz : whyW (t P.1) P.2.2 = 0 := zF h17 (whyW_3 _ _)
    refine x_aload_n (pc' := 31) rfl rfl rfl (x_dup (pc' := 32) rfl rfl rfl (x_getI (pc' := 35) rfl rfl rfl ?_))
    rw [h.2.2.1]
    refine x_iconst (pc' := 36) rfl rfl (x_iaddN (pc' := 37) rfl rfl (x_putI (pc' := 40) rfl rfl rfl (x_iload_n (pc' := 41) rfl rfl rfl ?_)))
    refine x_lswG rfl ?_
    refine sw_c (fun h41_0 => ?_) (fun n41_0 => ?_)
    · have ec : t P.1 = 100 := (nI_eq (by have := ht _ ha; omega) (by omega)).mp h41_0
      have h0 : P.2.2.nt = 0 := by rcases lw_wh hz with y | y | y | y <;> omega
      refine x_aload_n (pc' := 93) rfl rfl rfl (x_aload_n (pc' := 94) rfl rfl rfl (x_invQ2 (pc' := 97) rfl rfl rfl rfl (c_X7_readTurns hn ht j (P.2.2.np * 3) 12 (P.1 + 1, P.2) ha hF3 (by show P.2.2.nt + 12 = 12; omega) (by omega) (TS_at (b := P.1 + 1) h) (DC_cg (w := w) (fun o q => by rw [u4_ne (by intro z; cases z)]) hD)) (fun vq Mq hq94 => ?_)))
      obtain ⟨rfl, w1, rfl, h1, hD1, hf1⟩ := hq94
      show WP l X _ md_X7_readClause (97, _, [], _) _
      refine x_goto rfl ?_
      obtain ⟨a, ha1, ha2, ha3⟩ := h1
      refine r_X7_readClause (w := w) hn ht j P ha hF3 hB hz a ha1 ?_ w1 ?_ ?_ ((((frX.rf w).u 2 (by omega) _).y j).tr hf1) _ _
      · rw [ec]; exact ha2
      · rw [ec]; exact ha3
      · rw [ec]; exact DC_m (show _ = _ by show (turP t n 12 (P.1 + 1, P.2)).2.2.np * 3 = _; rw [turP_np]) hD1
    refine sw_c (fun h41_1 => ?_) (fun n41_1 => ?_)
    · have ec : t P.1 = 107 := (nI_eq (by have := ht _ ha; omega) (by omega)).mp h41_1
      have hb : bodP t n (t P.1) (P.1 + 1, P.2) = lawP t n (P.1 + 1, P.2) := by rw [ec]; rfl
      refine x_aload_n (pc' := 77) rfl rfl rfl (x_aload_n (pc' := 78) rfl rfl rfl (x_invQ2 (pc' := 81) rfl rfl rfl rfl (c_X7_readLaw hn ht j (P.2.2.np * 3) (P.1 + 1, P.2) ha hF3 (TS_at (b := P.1 + 1) h) (DC_cg (w := w) (fun o q => by rw [u4_ne (by intro z; cases z)]) hD)) (fun vq Mq hq78 => ?_)))
      obtain ⟨rfl, w1, rfl, h1, hD1, hf1⟩ := hq78
      show WP l X _ md_X7_readClause (81, _, [], _) _
      refine x_goto rfl ?_
      refine r_X7_readClause (w := w) hn ht j P ha hF3 hB hz _ (bodP_at (t := t) (c := t P.1) (P := (P.1 + 1, P.2)) ha).2 rfl w1 ?_ ?_ ((((frX.rf w).u 2 (by omega) _).y j).tr hf1) _ _
      · rw [ec]; exact h1
      · rw [ec]; exact hD1
    refine sw_c (fun h41_2 => ?_) (fun n41_2 => ?_)
    · have ec : t P.1 = 112 := (nI_eq (by have := ht _ ha; omega) (by omega)).mp h41_2
      have h7 : P.2.2.np < 7 := by rcases lw_wh hz with y | y | y | y <;> omega
      refine x_aload_n (pc' := 85) rfl rfl rfl (x_aload_n (pc' := 86) rfl rfl rfl (x_invQ2 (pc' := 89) rfl rfl rfl rfl (c_X7_readPerson hn ht j (P.2.2.np * 3) (P.1 + 1, P.2) ha hF3 h7 (TS_at (b := P.1 + 1) h) (DC_cg (w := w) (fun o q => by rw [u4_ne (by intro z; cases z)]) hD)) (fun vq Mq hq86 => ?_)))
      obtain ⟨rfl, w1, rfl, h1, hD1, hf1⟩ := hq86
      show WP l X _ md_X7_readClause (89, _, [], _) _
      refine x_goto rfl ?_
      refine r_X7_readClause (w := w) hn ht j P ha hF3 hB hz _ (bodP_at (t := t) (c := t P.1) (P := (P.1 + 1, P.2)) ha).2 rfl w1 ?_ ?_ ((((frX.rf w).u 2 (by omega) _).y j).tr hf1) _ _
      · rw [ec]; exact h1
      · rw [ec]; exact DC_m (show _ = _ by show (perL t n (P.1 + 1, P.2) 3).2.2.np.succ * 3 = P.2.2.np * 3 + 3; rw [perL_np]; exact Nat.succ_mul _ 3) hD1
    refine sw_n ?_
    have ec : t P.1 = 111 := by
      rcases lw_wh hz with y | y | y | y
      · exact absurd (by rw [y.1]) n41_1
      · exact absurd (by rw [y.1]) n41_2
      · exact absurd (by rw [y.1]) n41_0
      · exact y.1
    have h4 : P.2.2.no < 4 := by rcases lw_wh hz with y | y | y | y <;> omega
    refine x_aload_n (pc' := 101) rfl rfl rfl (x_aload_n (pc' := 102) rfl rfl rfl (x_invQ2 (pc' := 105) rfl rfl rfl rfl (c_X7_readOffice hn ht j (P.2.2.np * 3) (P.1 + 1, P.2) ha hF3 h4 (TS_at (b := P.1 + 1) h) (DC_cg (w := w) (fun o q => by rw [u4_ne (by intro z; cases z)]) hD)) (fun vq Mq hq102 => ?_)))
    obtain ⟨rfl, w1, rfl, h1, hD1, hf1⟩ := hq102
    show WP l X _ md_X7_readClause (105, _, [], _) _
    refine r_X7_readClause (w := w) hn ht j P ha hF3 hB hz _ (bodP_at (t := t) (c := t P.1) (P := (P.1 + 1, P.2)) ha).2 rfl w1 ?_ ?_ ((((frX.rf w).u 2 (by omega) _).y j).tr hf1) _ _
    · rw [ec]; exact h1
    · rw [ec]; exact hD1
  · refine x_aload_n (pc' := 21) rfl rfl rfl (x_iload_n (pc' := 22) rfl rfl rfl (x_aload_n (pc' := 23) rfl rfl rfl (x_getI (pc' := 26) rfl rfl rfl ?_)))
    rw [h.2.2.1]
    refine x_invQ3 (pc' := 29) rfl rfl rfl rfl rfl (c_X7_blame P.1 (whyW (t P.1) P.2.2) P.1 h hF3) (fun vq Mq hq26 => ?_)
    obtain ⟨rfl, w1, rfl, h1, hf1⟩ := hq26
    show WP l X _ md_X7_readClause (29, _, [], _) _
    refine x_vret rfl rfl ?_
    have e : claP t n P = (P.1, blm P.2.1 (whyW (t P.1) P.2.2) P.1, P.2.2) := by unfold claP; rw [if_neg (fun z => h17 (by rw [z]; rfl))]
    rw [e]
    exact ⟨rfl, _, rfl, h1, DC_cg (hf1.c4 j) hD, hf1.y j⟩
theorem DC_clear (w : WF) (j : Nat) : DC (u4 (u4 (u4 (u4 (u4 w 4 j 0 4 (-1)) 4 j 0 5 (nI 0)) 4 j 0 6 (nI 0)) 4 j 0 7 (nI 0)) 4 j 0 8 (nI 0)) j D0 0 :=
  ⟨by rw [u4_k (by omega), u4_k (by omega), u4_k (by omega), u4_k (by omega), u4_self]; rfl, by rw [u4_k (by omega), u4_k (by omega), u4_k (by omega), u4_self]; rfl, by rw [u4_k (by omega), u4_k (by omega), u4_self]; rfl, by rw [u4_k (by omega), u4_self]; rfl, by rw [u4_self]; rfl, fun q hq => absurd hq (by omega), fun q hq => absurd hq (by show ¬ q < 0; omega), fun q hq => absurd hq (by show ¬ q < 0; omega), fun q hq => absurd hq (by show ¬ q < 0; omega)⟩
/-- a text is read (chosen, so that nobody unfolds it) -/
theorem rdP_ex : ∃ f : (Nat → Nat) → Nat → PS, ∀ t n, f t n = lopP t n 240 (skp t n 0, (0, -1), D0) := ⟨fun t n => lopP t n 240 (skp t n 0, (0, -1), D0), fun _ _ => rfl⟩
noncomputable def rdP : (Nat → Nat) → Nat → PS := Classical.choose rdP_ex
theorem rdP_eq (t : Nat → Nat) (n : Nat) : rdP t n = lopP t n 240 (skp t n 0, (0, -1), D0) := Classical.choose_spec rdP_ex t n
theorem lopP_t {t : Nat → Nat} {n f : Nat} {P : PS} (h : P.1 < n ∧ P.2.1.1 = 0) : lopP t n (f + 1) P = lopP t n f (skp t n (claP t n P).1, (claP t n P).2) := by
  show (if P.1 < n ∧ P.2.1.1 = 0 then _ else _) = _
  rw [if_pos h]
theorem lopP_f {t : Nat → Nat} {n f : Nat} {P : PS} (h : ¬ (P.1 < n ∧ P.2.1.1 = 0)) : lopP t n f P = P := by
  cases f with
  | zero => rfl
  | succ f =>
    show (if P.1 < n ∧ P.2.1.1 = 0 then _ else _) = _
    rw [if_neg h]
set_option maxRecDepth 20000 in
theorem r_X7_readInto {l : Launch} {X : XT} {d Lz : Nat} {w : Nat → Nat → Nat → Nat → Int32} {n : Nat} {t : Nat → Nat} (j : Nat) (P : PS) (wn : WF) (hT : TS wn n t P.1 P.2.1) (hD : DC wn j P.2.2 (P.2.2.np * 3)) (hf : ∀ c i o q, ¬ (c = 7 ∧ i = 0 ∧ o = 0) → ¬ (c = 4 ∧ i = j) → wn c i o q = w c i o q) (L1 : Option AV) : WP l X (d + 5) md_X7_readInto (65, [some (.inr (.inr (7, 0, 0))), some (.inr (.inr (4, j, 0))), L1], [], mk Lz wn) (fun v M' => v = none ∧ ∃ w', M' = mk Lz w' ∧ w' 7 0 0 1 = nI 0 ∧ w' 7 0 0 3 = nI (P).2.1.1 ∧ w' 7 0 0 4 = (P).2.1.2 ∧ DC w' j (P).2.2 ((P).2.2.np * 3) ∧ (∀ c i o q, ¬ (c = 7 ∧ i = 0 ∧ o = 0) → ¬ (c = 4 ∧ i = j) → w' c i o q = w c i o q)) := by
  refine x_aload_n (pc' := 66) rfl rfl rfl (x_iconst (pc' := 67) rfl rfl (x_putI (pc' := 70) rfl rfl rfl ?_))
  refine x_vret rfl rfl ?_
  exact ⟨rfl, _, rfl, u4_self _ _ _ _ _ _, by rw [u4_k (by omega)]; exact hT.2.2.2.1, by rw [u4_k (by omega)]; exact hT.2.2.2.2, DC_cg (w := wn) (fun o q => by rw [u4_ne (by intro z; cases z)]) hD, fun c i o q e1 e2 => by rw [u4_ne (ne3 e1)]; exact hf c i o q e1 e2⟩
set_option maxRecDepth 20000 in
theorem l_X7_readInto {l : Launch} {X : XT} {d Lz : Nat} {w : Nat → Nat → Nat → Nat → Int32} {n : Nat} {t : Nat → Nat} (hn : n ≤ 240) (ht : ∀ q, q < n → t q < 256) (j : Nat) : ∀ (kk i : Nat), ∀ (P : PS) (wn : WF), TS wn n t P.1 P.2.1 → DC wn j P.2.2 (P.2.2.np * 3) → P.1 ≤ n → P.2.1.1 ≤ 3 → (P.2.2.np ≤ 7 ∧ P.2.2.nt ≤ 12 ∧ P.2.2.no ≤ 4) → (∀ c i o q, ¬ (c = 7 ∧ i = 0 ∧ o = 0) → ¬ (c = 4 ∧ i = j) → wn c i o q = w c i o q) →  i ≤ 240 → 240 + 1 ≤ i + kk → WP l X (d + 5) md_X7_readInto (25, [some (.inr (.inr (7, 0, 0))), some (.inr (.inr (4, j, 0))), some (.inl (nI i))], [], mk Lz wn) (fun v M' => v = none ∧ ∃ w', M' = mk Lz w' ∧ w' 7 0 0 1 = nI 0 ∧ w' 7 0 0 3 = nI (lopP t n (240 - i) P).2.1.1 ∧ w' 7 0 0 4 = (lopP t n (240 - i) P).2.1.2 ∧ DC w' j (lopP t n (240 - i) P).2.2 ((lopP t n (240 - i) P).2.2.np * 3) ∧ (∀ c i o q, ¬ (c = 7 ∧ i = 0 ∧ o = 0) → ¬ (c = 4 ∧ i = j) → w' c i o q = w c i o q)) := by
  intro kk
  induction kk with
  | zero =>
    intro i P wn hT hD ha hF3 hB hf h1 h2
    exact absurd h2 (by omega)
  | succ kk ih =>
    intro i P wn hT hD ha hF3 hB hf hi1 hi2
    refine x_iload_n (pc' := 26) rfl rfl rfl (x_sipush (pc' := 29) rfl rfl ?_)
    refine x_icmp_geN (pc' := 32) rfl rfl (by omega) (by omega) (fun h29 => ?_) (fun h29 => ?_)
    · rw [show 240 - i = 0 by omega]
      exact r_X7_readInto j P _ hT hD hf _
    · refine x_aload_n (pc' := 33) rfl rfl rfl (x_getI (pc' := 36) rfl rfl rfl ?_)
      rw [hT.2.2.1]
      refine x_aload_n (pc' := 37) rfl rfl rfl (x_getI (pc' := 40) rfl rfl rfl ?_)
      rw [hT.1]
      refine x_icmp_geN (pc' := 43) rfl rfl (by omega) (by omega) (fun h40 => ?_) (fun h40 => ?_)
      · rw [lopP_f (P := P) (fun y => by omega)]
        exact r_X7_readInto j P _ hT hD hf _
      · refine x_aload_n (pc' := 44) rfl rfl rfl (x_getI (pc' := 47) rfl rfl rfl ?_)
        rw [hT.2.2.2.1]
        refine x_if_ne (pc' := 50) rfl rfl (fun h47 => ?_) (fun h47 => ?_)
        · refine x_aload_n (pc' := 51) rfl rfl rfl (x_aload_n (pc' := 52) rfl rfl rfl (x_invQ2 (pc' := 55) rfl rfl rfl rfl (c_X7_readClause hn ht j P h40 hF3 hB hT hD) (fun vq Mq hq52 => ?_)))
          obtain ⟨rfl, w1, rfl, h1, hD1, hf1⟩ := hq52
          show WP l X _ md_X7_readInto (55, _, [], _) _
          have hA := claP_at (t := t) h40
          refine x_aload_n (pc' := 56) rfl rfl rfl (x_invQ1 (pc' := 59) rfl rfl rfl (c_X7_skipBlanks hn ht _ hA.2.1 h1) (fun vq Mq hq56 => ?_))
          obtain ⟨rfl, w2, rfl, h2, hf2⟩ := hq56
          show WP l X _ md_X7_readInto (59, _, [], _) _
          refine x_iinc2 (pc' := 62) rfl rfl rfl (nI_add _ _) (x_goto rfl ?_)
          have hF0 : P.2.1.1 = 0 := zF h47 hF3
          rw [show 240 - i = 240 - (i + 1) + 1 by omega, lopP_t ⟨h40, hF0⟩]
          exact ih (i + 1) (skp t n (claP t n P).1, (claP t n P).2) _ h2 (DC_cg (hf2.c4 j) hD1) (skp_b (t := t) hA.2.1).2.1 (claP_3 hF3) (claP_B hB) (fun c i o q e1 e2 => (hf2 c i o q (by omega)).trans ((hf1 c i o q (by omega) e2).trans (hf c i o q e1 e2))) (by omega) (by omega)
        · rw [lopP_f (P := P) (fun y => h47 (by rw [y.2]; rfl))]
          exact r_X7_readInto j P _ hT hD hf _
set_option maxRecDepth 20000 in
theorem c_X7_readInto {l : Launch} {X : XT} {d Lz : Nat} {w : Nat → Nat → Nat → Nat → Int32} {n : Nat} {t : Nat → Nat} (hn : n ≤ 240) (ht : ∀ q, q < n → t q < 256) (j : Nat) (h1t : w 7 0 0 1 = nI n ∧ ∀ q, q < n → w 7 0 1 q = nI (t q)) : WP l X (d + 5) md_X7_readInto (en md_X7_readInto [.inr (.inr (7, 0, 0)), .inr (.inr (4, j, 0))] (mk Lz w)) (fun v M' => v = none ∧ ∃ w', M' = mk Lz w' ∧ w' 7 0 0 1 = nI 0 ∧ w' 7 0 0 3 = nI (rdP t n).2.1.1 ∧ w' 7 0 0 4 = (rdP t n).2.1.2 ∧ DC w' j (rdP t n).2.2 ((rdP t n).2.2.np * 3) ∧ (∀ c i o q, ¬ (c = 7 ∧ i = 0 ∧ o = 0) → ¬ (c = 4 ∧ i = j) → w' c i o q = w c i o q)) := by
  rw [rdP_eq]
  show WP l X _ md_X7_readInto (0, [some (.inr (.inr (7, 0, 0))), some (.inr (.inr (4, j, 0))), none], [], _) _
  refine x_aload_n (pc' := 1) rfl rfl rfl (x_iconst (pc' := 2) rfl rfl (x_putI (pc' := 5) rfl rfl rfl (x_aload_n (pc' := 6) rfl rfl rfl (x_iconst (pc' := 7) rfl rfl (x_putI (pc' := 10) rfl rfl rfl ?_)))))
  refine x_aload_n (pc' := 11) rfl rfl rfl (x_iconst (pc' := 12) rfl rfl (x_putI (pc' := 15) rfl rfl rfl (x_aload_n (pc' := 16) rfl rfl rfl (x_invV1 (pc' := 19) rfl rfl rfl (c_X4_clear j) ?_))))
  have hT0 : TS (u4 (u4 (u4 (u4 (u4 (u4 (u4 (u4 w 7 0 0 2 (nI 0)) 7 0 0 3 (nI 0)) 7 0 0 4 (-1)) 4 j 0 4 (-1)) 4 j 0 5 (nI 0)) 4 j 0 6 (nI 0)) 4 j 0 7 (nI 0)) 4 j 0 8 (nI 0)) n t 0 ((0, -1) : FS) := ⟨by rw [u4_ne (by intro z; cases z), u4_ne (by intro z; cases z), u4_ne (by intro z; cases z), u4_ne (by intro z; cases z), u4_ne (by intro z; cases z), u4_k (by omega), u4_k (by omega), u4_k (by omega)]; exact h1t.1, fun q hq => by rw [u4_ne (by intro z; cases z), u4_ne (by intro z; cases z), u4_ne (by intro z; cases z), u4_ne (by intro z; cases z), u4_ne (by intro z; cases z), u4_ne (by decide), u4_ne (by decide), u4_ne (by decide)]; exact h1t.2 q hq, by rw [u4_ne (by intro z; cases z), u4_ne (by intro z; cases z), u4_ne (by intro z; cases z), u4_ne (by intro z; cases z), u4_ne (by intro z; cases z), u4_k (by omega), u4_k (by omega), u4_self], by rw [u4_ne (by intro z; cases z), u4_ne (by intro z; cases z), u4_ne (by intro z; cases z), u4_ne (by intro z; cases z), u4_ne (by intro z; cases z), u4_k (by omega), u4_self], by rw [u4_ne (by intro z; cases z), u4_ne (by intro z; cases z), u4_ne (by intro z; cases z), u4_ne (by intro z; cases z), u4_ne (by intro z; cases z), u4_self]⟩
  refine x_aload_n (pc' := 20) rfl rfl rfl (x_invQ1 (pc' := 23) rfl rfl rfl (c_X7_skipBlanks hn ht 0 (by omega) hT0) (fun vq Mq hq20 => ?_))
  obtain ⟨rfl, w1, rfl, h1, hf1⟩ := hq20
  show WP l X _ md_X7_readInto (23, _, [], _) _
  refine x_iconst (pc' := 24) rfl rfl (x_istore_n2 (pc' := 25) rfl rfl rfl ?_)
  exact l_X7_readInto hn ht j 241 0 (skp t n 0, (0, -1), D0) w1 h1 (DC_cg (hf1.c4 j) (DC_clear _ j)) (skp_b (t := t) (by omega)).2.1 (show 0 ≤ 3 by decide) (show 0 ≤ 7 ∧ 0 ≤ 12 ∧ 0 ≤ 4 by decide) (fun c i o q e1 e2 => by
    rw [hf1 c i o q (by omega)]
    unfold u4; rw [if_neg (by omega), if_neg (by omega), if_neg (by omega), if_neg (by omega), if_neg (by omega), if_neg (by omega), if_neg (by omega), if_neg (by omega)]) (by omega) (by omega)
