/-! the object reads clauses -/
theorem nxt_t {t : Nat → Nat} {n a c : Nat} (h1 : skp t n a < n) (h2 : t (skp t n a) = c) : nxt t n a c = true := by unfold nxt; rw [dT h1, dT h2]; rfl
theorem nxt_f1 {t : Nat → Nat} {n a c : Nat} (h1 : n ≤ skp t n a) : nxt t n a c = false := by unfold nxt; rw [dF (by omega)]; rfl
theorem nxt_f2 {t : Nat → Nat} {n a c : Nat} (h2 : ¬ t (skp t n a) = c) : nxt t n a c = false := by unfold nxt; rw [dF h2, Bool.and_false]
theorem nxt_lt {t : Nat → Nat} {n a c : Nat} (h : nxt t n a c = true) : skp t n a < n ∧ t (skp t n a) = c := by
  unfold nxt at h
  simp only [Bool.and_eq_true, decide_eq_true_eq] at h
  exact h
theorem nxt_cg {t : Nat → Nat} {n a b c : Nat} (h : skp t n a = skp t n b) : nxt t n a c = nxt t n b c := by unfold nxt; rw [h]
def nxA (t : Nat → Nat) (n a c : Nat) : Nat := bif nxt t n a c then skp t n a + 1 else skp t n a
theorem nxA_b {t : Nat → Nat} {n a c : Nat} (h : a ≤ n) : a ≤ nxA t n a c ∧ nxA t n a c ≤ n := by
  have h1 := skp_b (t := t) h
  unfold nxA
  cases z : nxt t n a c with
  | false => exact ⟨h1.1, h1.2.1⟩
  | true => exact ⟨Nat.le_succ_of_le h1.1, (nxt_lt z).1⟩
def sgF (t : Nat → Nat) (n a : Nat) (F : FS) : FS := bif nxt t n a 59 then F else blm F 1 (skp t n a)
theorem sgnP_eq (t : Nat → Nat) (n : Nat) (P : PS) : sgnP t n P = (nxA t n P.1 59, sgF t n P.1 P.2.1, P.2.2) := by
  unfold sgnP nxA sgF
  cases nxt t n P.1 59 <;> rfl
/-- the realm j is what has been read so far -/
def DC (w : WF) (j : Nat) (D : Dr) (m : Nat) : Prop := w 4 j 0 4 = D.lw ∧ w 4 j 0 5 = nI D.tm ∧ w 4 j 0 6 = nI D.np ∧ w 4 j 0 7 = nI D.nt ∧ w 4 j 0 8 = nI D.no ∧ (∀ q, q < m → w 4 j 1 q = nI (D.g q)) ∧ (∀ q, q < D.np → w 4 j 2 q = nI (D.dr q)) ∧ (∀ q, q < D.nt → w 4 j 3 q = nI (D.kd q)) ∧ (∀ q, q < D.no → w 4 j 4 q = nI (D.ok q))
theorem DC_cg {w w' : WF} {j : Nat} {D : Dr} {m : Nat} (e : ∀ o q, w' 4 j o q = w 4 j o q) (h : DC w j D m) : DC w' j D m := by
  unfold DC; simp only [e]; exact h
theorem TS_cg {w w' : WF} {n : Nat} {t : Nat → Nat} {a : Nat} {F : FS} (e : ∀ o q, w' 7 0 o q = w 7 0 o q) (h : TS w n t a F) : TS w' n t a F := by
  unfold TS; simp only [e]; exact h
def frY (j : Nat) (w w' : WF) : Prop := ∀ c i o q, ¬ (c = 7 ∧ i = 0 ∧ o = 0 ∧ 2 ≤ q) → ¬ (c = 4 ∧ i = j) → w' c i o q = w c i o q
theorem frY.tr {j : Nat} {a b c : WF} (h : frY j a b) (h2 : frY j b c) : frY j a c := fun x i o q hq hr => (h2 x i o q hq hr).trans (h x i o q hq hr)
theorem frY.rf (j : Nat) (w : WF) : frY j w w := fun _ _ _ _ _ _ => rfl
theorem frX.y {a b : WF} (h : frX a b) (j : Nat) : frY j a b := fun c i o q hq _ => h c i o q hq
theorem frY.u {j : Nat} {a b : WF} (h : frY j a b) (o k : Nat) (v : Int32) : frY j a (u4 b 4 j o k v) := fun c i o' q hq hr => by
  rw [u4_ne (ne3 (by omega))]; exact h c i o' q hq hr
theorem frX.c4 {a b : WF} (h : frX a b) (j o q : Nat) : b 4 j o q = a 4 j o q := h 4 j o q (by omega)
theorem DC_law {w : WF} {j m l1 : Nat} {D : Dr} (h : DC w j D m) (tm : Nat) : DC (u4 (u4 w 4 j 0 4 (nI l1)) 4 j 0 5 (nI tm)) j (D.setL l1 tm) m := by
  obtain ⟨h1, h2, h3, h4, h5, h6, h7, h8, h9⟩ := h
  exact ⟨by rw [u4_k (by omega), u4_self]; rfl, by rw [u4_self]; rfl, by rw [u4_k (by omega), u4_k (by omega)]; exact h3, by rw [u4_k (by omega), u4_k (by omega)]; exact h4, by rw [u4_k (by omega), u4_k (by omega)]; exact h5, fun q hq => by rw [u4_ne (by intro z; cases z), u4_ne (by intro z; cases z)]; exact h6 q hq, fun q hq => by rw [u4_ne (by intro z; cases z), u4_ne (by intro z; cases z)]; exact h7 q hq, fun q hq => by rw [u4_ne (by intro z; cases z), u4_ne (by intro z; cases z)]; exact h8 q hq, fun q hq => by rw [u4_ne (by intro z; cases z), u4_ne (by intro z; cases z)]; exact h9 q hq⟩
theorem DC_setG {w : WF} {j m : Nat} {D : Dr} (h : DC w j D m) (v : Nat) : DC (u4 w 4 j 1 m (nI v)) j (D.setG m v) (m + 1) := by
  obtain ⟨h1, h2, h3, h4, h5, h6, h7, h8, h9⟩ := h
  refine ⟨by rw [u4_ne (by intro z; cases z)]; exact h1, by rw [u4_ne (by intro z; cases z)]; exact h2, by rw [u4_ne (by intro z; cases z)]; exact h3, by rw [u4_ne (by intro z; cases z)]; exact h4, by rw [u4_ne (by intro z; cases z)]; exact h5, fun q hq => ?_, fun q hq => by rw [u4_ne (by intro z; cases z)]; exact h7 q hq, fun q hq => by rw [u4_ne (by intro z; cases z)]; exact h8 q hq, fun q hq => by rw [u4_ne (by intro z; cases z)]; exact h9 q hq⟩
  show _ = nI (if q = m then v else D.g q)
  by_cases z : q = m
  · subst z; rw [u4_self, if_pos rfl]
  · rw [u4_k z, if_neg z]; exact h6 q (by omega)
theorem DC_addP {w : WF} {j m : Nat} {D : Dr} (h : DC w j D m) (v : Nat) : DC (u4 (u4 w 4 j 2 D.np (nI v)) 4 j 0 6 (nI (D.np + 1))) j (D.addP v) m := by
  obtain ⟨h1, h2, h3, h4, h5, h6, h7, h8, h9⟩ := h
  refine ⟨by rw [u4_k (by omega), u4_ne (by intro z; cases z)]; exact h1, by rw [u4_k (by omega), u4_ne (by intro z; cases z)]; exact h2, by rw [u4_self]; rfl, by rw [u4_k (by omega), u4_ne (by intro z; cases z)]; exact h4, by rw [u4_k (by omega), u4_ne (by intro z; cases z)]; exact h5, fun q hq => by rw [u4_ne (by intro z; cases z), u4_ne (by intro z; cases z)]; exact h6 q hq, fun q hq => ?_, fun q hq => by rw [u4_ne (by intro z; cases z), u4_ne (by intro z; cases z)]; exact h8 q hq, fun q hq => by rw [u4_ne (by intro z; cases z), u4_ne (by intro z; cases z)]; exact h9 q hq⟩
  show _ = nI (if q = D.np then v else D.dr q)
  have hq : q < D.np + 1 := hq
  by_cases z : q = D.np
  · rw [z, u4_ne (by intro z; cases z), u4_self, if_pos rfl]
  · rw [u4_ne (by intro z; cases z), u4_k z, if_neg z]; exact h7 q (by omega)
theorem DC_addT {w : WF} {j m : Nat} {D : Dr} (h : DC w j D m) (v : Nat) : DC (u4 (u4 w 4 j 3 D.nt (nI v)) 4 j 0 7 (nI (D.nt + 1))) j (D.addT v) m := by
  obtain ⟨h1, h2, h3, h4, h5, h6, h7, h8, h9⟩ := h
  refine ⟨by rw [u4_k (by omega), u4_ne (by intro z; cases z)]; exact h1, by rw [u4_k (by omega), u4_ne (by intro z; cases z)]; exact h2, by rw [u4_k (by omega), u4_ne (by intro z; cases z)]; exact h3, by rw [u4_self]; rfl, by rw [u4_k (by omega), u4_ne (by intro z; cases z)]; exact h5, fun q hq => by rw [u4_ne (by intro z; cases z), u4_ne (by intro z; cases z)]; exact h6 q hq, fun q hq => by rw [u4_ne (by intro z; cases z), u4_ne (by intro z; cases z)]; exact h7 q hq, fun q hq => ?_, fun q hq => by rw [u4_ne (by intro z; cases z), u4_ne (by intro z; cases z)]; exact h9 q hq⟩
  show _ = nI (if q = D.nt then v else D.kd q)
  have hq : q < D.nt + 1 := hq
  by_cases z : q = D.nt
  · rw [z, u4_ne (by intro z; cases z), u4_self, if_pos rfl]
  · rw [u4_ne (by intro z; cases z), u4_k z, if_neg z]; exact h8 q (by omega)
theorem DC_addO {w : WF} {j m : Nat} {D : Dr} (h : DC w j D m) (v : Nat) : DC (u4 (u4 w 4 j 4 D.no (nI v)) 4 j 0 8 (nI (D.no + 1))) j (D.addO v) m := by
  obtain ⟨h1, h2, h3, h4, h5, h6, h7, h8, h9⟩ := h
  refine ⟨by rw [u4_k (by omega), u4_ne (by intro z; cases z)]; exact h1, by rw [u4_k (by omega), u4_ne (by intro z; cases z)]; exact h2, by rw [u4_k (by omega), u4_ne (by intro z; cases z)]; exact h3, by rw [u4_k (by omega), u4_ne (by intro z; cases z)]; exact h4, by rw [u4_self]; rfl, fun q hq => by rw [u4_ne (by intro z; cases z), u4_ne (by intro z; cases z)]; exact h6 q hq, fun q hq => by rw [u4_ne (by intro z; cases z), u4_ne (by intro z; cases z)]; exact h7 q hq, fun q hq => by rw [u4_ne (by intro z; cases z), u4_ne (by intro z; cases z)]; exact h8 q hq, fun q hq => ?_⟩
  show _ = nI (if q = D.no then v else D.ok q)
  have hq : q < D.no + 1 := hq
  by_cases z : q = D.no
  · rw [z, u4_ne (by intro z; cases z), u4_self, if_pos rfl]
  · rw [u4_ne (by intro z; cases z), u4_k z, if_neg z]; exact h9 q (by omega)
set_option maxRecDepth 20000 in
theorem c_X7_isNext {l : Launch} {X : XT} {d Lz : Nat} {w : Nat → Nat → Nat → Nat → Int32} {n : Nat} {t : Nat → Nat} {F : FS} (hn : n ≤ 240) (ht : ∀ q, q < n → t q < 256) (a c : Nat) (ha : a ≤ n) (hc : c < 256) (h : TS w n t a F) : WP l X (d + 2) md_X7_isNext (en md_X7_isNext [.inr (.inr (7, 0, 0)), .inl (nI c)] (mk Lz w)) (fun v M' => v = some (.inl (bI (nxt t n a c))) ∧ ∃ w', M' = mk Lz w' ∧ TS w' n t (nxA t n a c) F ∧ frX w w') := by
  show WP l X _ md_X7_isNext (0, [some (.inr (.inr (7, 0, 0))), some (.inl (nI c))], [], _) _
  refine x_aload_n (pc' := 1) rfl rfl rfl (x_invQ1 (pc' := 4) rfl rfl rfl (c_X7_skipBlanks hn ht a ha h) (fun vq Mq hq1 => ?_))
  obtain ⟨rfl, w1, rfl, h1, hf1⟩ := hq1
  have hs := skp_b (t := t) ha
  show WP l X _ md_X7_isNext (4, _, [], _) _
  refine x_aload_n (pc' := 5) rfl rfl rfl (x_getI (pc' := 8) rfl rfl rfl ?_)
  rw [h1.2.2.1]
  refine x_aload_n (pc' := 9) rfl rfl rfl (x_getI (pc' := 12) rfl rfl rfl ?_)
  rw [h1.1]
  refine x_icmp_geN (pc' := 15) rfl rfl (by omega) (by omega) (fun h12 => ?_) (fun h12 => ?_)
  · refine x_iconst (pc' := 41) rfl rfl ?_
    refine x_zret rfl rfl (by decide) ?_
    have e := nxt_f1 (c := c) h12
    exact ⟨by rw [e]; rfl, _, rfl, by unfold nxA; rw [e]; exact h1, hf1⟩
  · have hb := ht _ h12
    refine x_aload_n (pc' := 16) rfl rfl rfl (x_getR (pc' := 19) (t := (7, _, 1)) rfl rfl rfl (x_aload_n (pc' := 20) rfl rfl rfl (x_getI (pc' := 23) rfl rfl rfl ?_)))
    rw [h1.2.2.1]
    refine x_iald (pc' := 24) (N := 240) rfl rfl rfl rfl (by first | assumption | omega) (by decide) ?_
    rw [h1.2.1 _ h12]
    refine x_iload_n (pc' := 25) rfl rfl rfl ?_
    refine x_icmp_neN (pc' := 28) rfl rfl (by omega) (by omega) (fun h25 => ?_) (fun h25 => ?_)
    · refine x_aload_n (pc' := 29) rfl rfl rfl (x_dup (pc' := 30) rfl rfl rfl (x_getI (pc' := 33) rfl rfl rfl ?_))
      rw [h1.2.2.1]
      refine x_iconst (pc' := 34) rfl rfl (x_iaddN (pc' := 35) rfl rfl (x_putI (pc' := 38) rfl rfl rfl (x_iconst (pc' := 39) rfl rfl ?_)))
      refine x_zret rfl rfl (by decide) ?_
      have e := nxt_t h12 h25
      exact ⟨by rw [e]; rfl, _, rfl, by unfold nxA; rw [e]; exact TS_at h1, hf1.u 2 (by omega) _⟩
    · refine x_iconst (pc' := 41) rfl rfl ?_
      refine x_zret rfl rfl (by decide) ?_
      have e := nxt_f2 h25
      exact ⟨by rw [e]; rfl, _, rfl, by unfold nxA; rw [e]; exact h1, hf1⟩
set_option maxRecDepth 20000 in
theorem c_X7_readSign {l : Launch} {X : XT} {d Lz : Nat} {w : Nat → Nat → Nat → Nat → Int32} {n : Nat} {t : Nat → Nat} {F : FS} (hn : n ≤ 240) (ht : ∀ q, q < n → t q < 256) (a b : Nat) (ha : a ≤ n) (hab : skp t n a = skp t n b) (hF3 : F.1 ≤ 3) (h : TS w n t a F) : WP l X (d + 3) md_X7_readSign (en md_X7_readSign [.inr (.inr (7, 0, 0)), .inl (nI 59)] (mk Lz w)) (fun v M' => v = none ∧ ∃ w', M' = mk Lz w' ∧ TS w' n t (nxA t n b 59) (sgF t n b F) ∧ frX w w') := by
  show WP l X _ md_X7_readSign (0, [some (.inr (.inr (7, 0, 0))), some (.inl (nI 59))], [], _) _
  refine x_aload_n (pc' := 1) rfl rfl rfl (x_iload_n (pc' := 2) rfl rfl rfl (x_invQ2 (pc' := 5) rfl rfl rfl rfl (c_X7_isNext hn ht a 59 ha (by decide) h) (fun vq Mq hq2 => ?_)))
  obtain ⟨rfl, w1, rfl, h1, hf1⟩ := hq2
  show WP l X _ md_X7_readSign (5, _, [_], _) _
  refine x_if_ne (pc' := 8) rfl rfl (fun h5 => ?_) (fun h5 => ?_)
  · refine x_aload_n (pc' := 9) rfl rfl rfl (x_iconst (pc' := 10) rfl rfl (x_aload_n (pc' := 11) rfl rfl rfl (x_getI (pc' := 14) rfl rfl rfl ?_)))
    rw [h1.2.2.1]
    refine x_invQ3 (pc' := 17) rfl rfl rfl rfl rfl (c_X7_blame (nxA t n a 59) 1 (nxA t n a 59) h1 hF3) (fun vq Mq hq14 => ?_)
    obtain ⟨rfl, w2, rfl, h2, hf2⟩ := hq14
    show WP l X _ md_X7_readSign (17, _, [], _) _
    refine x_vret rfl rfl ?_
    have e : nxt t n b 59 = false := by rw [← nxt_cg hab]; exact bI_eq0.mp h5
    have e1 : nxt t n a 59 = false := by rw [nxt_cg hab]; exact e
    have e2 : nxA t n a 59 = nxA t n b 59 := by unfold nxA; rw [e, e1, hab]
    have e3 : nxA t n b 59 = skp t n b := by unfold nxA; rw [e]; rfl
    refine ⟨rfl, _, rfl, ?_, hf1.tr hf2⟩
    rw [e2] at h2
    unfold sgF; rw [e]; rw [e3] at h2 ⊢; exact h2
  · refine x_vret rfl rfl ?_
    have e : nxt t n b 59 = true := by rw [← nxt_cg hab]; exact bq h5
    have e1 : nxt t n a 59 = true := by rw [nxt_cg hab]; exact e
    have e2 : nxA t n a 59 = nxA t n b 59 := by unfold nxA; rw [e, e1, hab]
    refine ⟨rfl, _, rfl, ?_, hf1⟩
    unfold sgF; rw [e, ← e2]; exact h1
set_option maxRecDepth 20000 in
theorem c_X7_readLaw {l : Launch} {X : XT} {d Lz : Nat} {w : Nat → Nat → Nat → Nat → Int32} {n : Nat} {t : Nat → Nat} (hn : n ≤ 240) (ht : ∀ q, q < n → t q < 256) (j m : Nat) (P : PS) (ha : P.1 ≤ n) (hF3 : P.2.1.1 ≤ 3) (h : TS w n t P.1 P.2.1) (hD : DC w j P.2.2 m) : WP l X (d + 3) md_X7_readLaw (en md_X7_readLaw [.inr (.inr (7, 0, 0)), .inr (.inr (4, j, 0))] (mk Lz w)) (fun v M' => v = none ∧ ∃ w', M' = mk Lz w' ∧ TS w' n t (lawP t n P).1 (lawP t n P).2.1 ∧ DC w' j (lawP t n P).2.2 m ∧ frY j w w') := by
  show WP l X _ md_X7_readLaw (0, [some (.inr (.inr (7, 0, 0))), some (.inr (.inr (4, j, 0)))], [], _) _
  refine x_aload_n (pc' := 1) rfl rfl rfl (x_aload_n (pc' := 2) rfl rfl rfl (x_iconst (pc' := 3) rfl rfl (x_iconst (pc' := 4) rfl rfl (x_invQ3 (pc' := 7) rfl rfl rfl rfl rfl (c_X7_readNumber hn ht P.1 0 2 ha (by decide) (by decide) hF3 h) (fun vq Mq hq4 => ?_)))))
  obtain ⟨rfl, w1, rfl, h1, hf1⟩ := hq4
  have hA := nmA_at (t := t) (F := P.2.1) (lo := 0) (hi := 2) ha
  have h3 := nmA_3 (t := t) (n := n) (a := P.1) (lo := 0) (hi := 2) hF3
  show WP l X _ md_X7_readLaw (7, _, [_, _], _) _
  refine x_putI (pc' := 10) rfl rfl rfl (x_aload_n (pc' := 11) rfl rfl rfl (x_aload_n (pc' := 12) rfl rfl rfl (x_iconst (pc' := 13) rfl rfl (x_bipush (pc' := 15) rfl rfl (x_invQ3 (pc' := 18) rfl rfl rfl rfl rfl (c_X7_readNumber hn ht _ 1 9 hA.2 (by decide) (by decide) h3 (TS_cg (w := w1) (fun o q => by rw [u4_ne (by intro z; cases z)]) h1)) (fun vq Mq hq15 => ?_))))))
  obtain ⟨rfl, w2, rfl, h2, hf2⟩ := hq15
  show WP l X _ md_X7_readLaw (18, _, [_, _], _) _
  refine x_putI (pc' := 21) rfl rfl rfl ?_
  refine x_vret rfl rfl ?_
  refine ⟨rfl, _, rfl, TS_cg (w := w2) (fun o q => by rw [u4_ne (by intro z; cases z)]) h2, ?_, ((((hf1.y j).u 0 4 _).tr (hf2.y j)).u 0 5 _)⟩
  have hc : DC w1 j P.2.2 m := DC_cg (hf1.c4 j) hD
  refine DC_cg (w := u4 (u4 w1 4 j 0 4 (nI (nmA t n P.1 P.2.1 0 2).1)) 4 j 0 5 _) (fun o q => ?_) (DC_law hc _)
  unfold u4
  split
  · rfl
  · exact hf2.c4 j o q
set_option maxRecDepth 20000 in
theorem c_X7_readOffice {l : Launch} {X : XT} {d Lz : Nat} {w : Nat → Nat → Nat → Nat → Int32} {n : Nat} {t : Nat → Nat} (hn : n ≤ 240) (ht : ∀ q, q < n → t q < 256) (j m : Nat) (P : PS) (ha : P.1 ≤ n) (hF3 : P.2.1.1 ≤ 3) (h4 : P.2.2.no < 4) (h : TS w n t P.1 P.2.1) (hD : DC w j P.2.2 m) : WP l X (d + 3) md_X7_readOffice (en md_X7_readOffice [.inr (.inr (7, 0, 0)), .inr (.inr (4, j, 0))] (mk Lz w)) (fun v M' => v = none ∧ ∃ w', M' = mk Lz w' ∧ TS w' n t (offP t n P).1 (offP t n P).2.1 ∧ DC w' j (offP t n P).2.2 m ∧ frY j w w') := by
  show WP l X _ md_X7_readOffice (0, [some (.inr (.inr (7, 0, 0))), some (.inr (.inr (4, j, 0)))], [], _) _
  refine x_aload_n (pc' := 1) rfl rfl rfl (x_getR (pc' := 4) (t := (4, _, 4)) rfl rfl rfl (x_aload_n (pc' := 5) rfl rfl rfl (x_getI (pc' := 8) rfl rfl rfl ?_)))
  rw [hD.2.2.2.2.1]
  refine x_aload_n (pc' := 9) rfl rfl rfl (x_iconst (pc' := 10) rfl rfl (x_iconst (pc' := 11) rfl rfl (x_invQ3 (pc' := 14) rfl rfl rfl rfl rfl (c_X7_readNumber hn ht P.1 0 2 ha (by decide) (by decide) hF3 h) (fun vq Mq hq11 => ?_))))
  obtain ⟨rfl, w1, rfl, h1, hf1⟩ := hq11
  have hc : DC w1 j P.2.2 m := DC_cg (hf1.c4 j) hD
  show WP l X _ md_X7_readOffice (14, _, [_, _, _], _) _
  refine x_iast (pc' := 15) (N := 4) rfl rfl rfl (by decide) rfl h4 (by decide) (x_aload_n (pc' := 16) rfl rfl rfl (x_dup (pc' := 17) rfl rfl rfl (x_getI (pc' := 20) rfl rfl rfl ?_)))
  rw [u4_ne (by intro z; cases z), hc.2.2.2.2.1]
  refine x_iconst (pc' := 21) rfl rfl (x_iaddN (pc' := 22) rfl rfl (x_putI (pc' := 25) rfl rfl rfl ?_))
  refine x_vret rfl rfl ?_
  exact ⟨rfl, _, rfl, TS_cg (w := w1) (fun o q => by rw [u4_ne (by intro z; cases z), u4_ne (by intro z; cases z)]) h1, DC_addO hc _, ((hf1.y j).u 4 _ _).u 0 8 _⟩
theorem perL_np {t : Nat → Nat} {n : Nat} {P : PS} : ∀ k, (perL t n P k).2.2.np = P.2.2.np
  | 0 => rfl
  | k + 1 => perL_np (t := t) (n := n) (P := P) k
theorem perL_at {t : Nat → Nat} {n : Nat} {P : PS} (h : P.1 ≤ n) : ∀ k, P.1 ≤ (perL t n P k).1 ∧ (perL t n P k).1 ≤ n
  | 0 => ⟨Nat.le_refl _, h⟩
  | k + 1 => by
    have ih := perL_at (t := t) h k
    have h1 := nmA_at (t := t) (F := (perL t n P k).2.1) (lo := 0) (hi := 9) ih.2
    exact ⟨Nat.le_trans ih.1 h1.1, h1.2⟩
theorem perL_3 {t : Nat → Nat} {n : Nat} {P : PS} (h : P.2.1.1 ≤ 3) : ∀ k, (perL t n P k).2.1.1 ≤ 3
  | 0 => h
  | k + 1 => nmA_3 (perL_3 h k)
set_option maxRecDepth 20000 in
theorem l_X7_readPerson {l : Launch} {X : XT} {d Lz : Nat} {w : Nat → Nat → Nat → Nat → Int32} {n : Nat} {t : Nat → Nat} (hn : n ≤ 240) (ht : ∀ q, q < n → t q < 256) (j m : Nat) (P : PS) (ha : P.1 ≤ n) (hF3 : P.2.1.1 ≤ 3) (h7 : P.2.2.np < 7) : ∀ (kk i : Nat), ∀ (wn : WF), TS wn n t (perL t n P i).1 (perL t n P i).2.1 → DC wn j (perL t n P i).2.2 (P.2.2.np * 3 + i) → frY j w wn →  i ≤ 3 → 3 + 1 ≤ i + kk → WP l X (d + 3) md_X7_readPerson (7, [some (.inr (.inr (7, 0, 0))), some (.inr (.inr (4, j, 0))), some (.inl (nI P.2.2.np)), some (.inl (nI i))], [], mk Lz wn) (fun v M' => v = none ∧ ∃ w', M' = mk Lz w' ∧ TS w' n t (perP t n P).1 (perP t n P).2.1 ∧ DC w' j (perP t n P).2.2 (P.2.2.np * 3 + 3) ∧ frY j w w') := by
  intro kk
  induction kk with
  | zero =>
    intro i wn hT hD2 hf h1 h2
    exact absurd h2 (by omega)
  | succ kk ih =>
    intro i wn hT hD2 hf hi1 hi2
    refine x_iload_n (pc' := 8) rfl rfl rfl (x_iconst (pc' := 9) rfl rfl ?_)
    refine x_icmp_geN (pc' := 12) rfl rfl (by omega) (by omega) (fun h9 => ?_) (fun h9 => ?_)
    · have ei : i = 3 := by omega
      subst ei
      refine x_aload_n (pc' := 36) rfl rfl rfl (x_getR (pc' := 39) (t := (4, _, 2)) rfl rfl rfl (x_iload_n (pc' := 40) rfl rfl rfl (x_aload_n (pc' := 41) rfl rfl rfl (x_iconst (pc' := 42) rfl rfl (x_bipush (pc' := 44) rfl rfl ?_)))))
      refine x_invQ3 (pc' := 47) rfl rfl rfl rfl rfl (c_X7_readNumber hn ht _ 0 9 (perL_at ha 3).2 (by decide) (by decide) (perL_3 hF3 3) hT) (fun vq Mq hq44 => ?_)
      obtain ⟨rfl, w1, rfl, h1, hf1⟩ := hq44
      have hc : DC w1 j (perL t n P 3).2.2 (P.2.2.np * 3 + 3) := DC_cg (hf1.c4 j) hD2
      show WP l X _ md_X7_readPerson (47, _, [_, _, _], _) _
      refine x_iast (pc' := 48) (N := 7) rfl rfl rfl (by decide) rfl h7 (by decide) (x_aload_n (pc' := 49) rfl rfl rfl (x_dup (pc' := 50) rfl rfl rfl (x_getI (pc' := 53) rfl rfl rfl ?_)))
      rw [u4_ne (by intro z; cases z), hc.2.2.1, perL_np]
      refine x_iconst (pc' := 54) rfl rfl (x_iaddN (pc' := 55) rfl rfl (x_putI (pc' := 58) rfl rfl rfl ?_))
      refine x_vret rfl rfl ?_
      refine ⟨rfl, _, rfl, TS_cg (w := w1) (fun o q => by rw [u4_ne (by intro z; cases z), u4_ne (by intro z; cases z)]) h1, ?_, hf.tr (((hf1.y j).u 2 _ _).u 0 6 _)⟩
      have e := DC_addP hc (nmA t n (perL t n P 3).1 (perL t n P 3).2.1 0 9).1
      rw [perL_np] at e
      exact e
    · refine x_aload_n (pc' := 13) rfl rfl rfl (x_getR (pc' := 16) (t := (4, _, 1)) rfl rfl rfl (x_iload_n (pc' := 17) rfl rfl rfl (x_iconst (pc' := 18) rfl rfl (x_imulN (pc' := 19) rfl rfl (x_iload_n (pc' := 20) rfl rfl rfl ?_)))))
      refine x_iaddN (pc' := 21) rfl rfl (x_aload_n (pc' := 22) rfl rfl rfl (x_iconst (pc' := 23) rfl rfl (x_bipush (pc' := 25) rfl rfl (x_invQ3 (pc' := 28) rfl rfl rfl rfl rfl (c_X7_readNumber hn ht _ 0 9 (perL_at ha i).2 (by decide) (by decide) (perL_3 hF3 i) hT) (fun vq Mq hq25 => ?_)))))
      obtain ⟨rfl, w1, rfl, h1, hf1⟩ := hq25
      show WP l X _ md_X7_readPerson (28, _, [_, _, _], _) _
      refine x_iast (pc' := 29) (N := 21) rfl rfl rfl (by decide) rfl (by omega) (by decide) (x_iinc3 (pc' := 32) rfl rfl rfl (nI_add _ _) (x_goto rfl ?_))
      exact ih (i + 1) _ (TS_cg (w := w1) (fun o q => by rw [u4_ne (by intro z; cases z)]) h1) (DC_setG (DC_cg (hf1.c4 j) hD2) _) (hf.tr ((hf1.y j).u 1 _ _)) (by omega) (by omega)
set_option maxRecDepth 20000 in
theorem c_X7_readPerson {l : Launch} {X : XT} {d Lz : Nat} {w : Nat → Nat → Nat → Nat → Int32} {n : Nat} {t : Nat → Nat} (hn : n ≤ 240) (ht : ∀ q, q < n → t q < 256) (j m : Nat) (P : PS) (ha : P.1 ≤ n) (hF3 : P.2.1.1 ≤ 3) (h7 : P.2.2.np < 7) (h : TS w n t P.1 P.2.1) (hD : DC w j P.2.2 (P.2.2.np * 3)) : WP l X (d + 3) md_X7_readPerson (en md_X7_readPerson [.inr (.inr (7, 0, 0)), .inr (.inr (4, j, 0))] (mk Lz w)) (fun v M' => v = none ∧ ∃ w', M' = mk Lz w' ∧ TS w' n t (perP t n P).1 (perP t n P).2.1 ∧ DC w' j (perP t n P).2.2 (P.2.2.np * 3 + 3) ∧ frY j w w') := by
  show WP l X _ md_X7_readPerson (0, [some (.inr (.inr (7, 0, 0))), some (.inr (.inr (4, j, 0))), none, none], [], _) _
  refine x_aload_n (pc' := 1) rfl rfl rfl (x_getI (pc' := 4) rfl rfl rfl ?_)
  rw [hD.2.2.1]
  refine x_istore_n2 (pc' := 5) rfl rfl rfl (x_iconst (pc' := 6) rfl rfl (x_istore_n3 (pc' := 7) rfl rfl rfl ?_))
  exact l_X7_readPerson hn ht j (P.2.2.np * 3) P ha hF3 h7 4 0 w h hD (frY.rf j w) (by omega) (by omega)
theorem tur1_nt {t : Nat → Nat} {n : Nat} {P : PS} : (tur1 t n P).2.2.nt = P.2.2.nt + 1 := rfl
theorem turP_t {t : Nat → Nat} {n f : Nat} {P : PS} (h1 : P.2.2.nt + 1 < 12) (h2 : nxt t n (tur1 t n P).1 44 = true) : turP t n (f + 1) P = turP t n f (skp t n (tur1 t n P).1 + 1, (tur1 t n P).2) := by
  show (bif decide ((tur1 t n P).2.2.nt < 12) && nxt t n (tur1 t n P).1 44 then _ else _) = _
  rw [tur1_nt, dT h1, h2]; rfl
theorem turP_f1 {t : Nat → Nat} {n f : Nat} {P : PS} (h1 : 12 ≤ P.2.2.nt + 1) : turP t n (f + 1) P = (skp t n (tur1 t n P).1, (tur1 t n P).2) := by
  show (bif decide ((tur1 t n P).2.2.nt < 12) && nxt t n (tur1 t n P).1 44 then _ else _) = _
  rw [tur1_nt, dF (by omega)]; rfl
theorem turP_f2 {t : Nat → Nat} {n f : Nat} {P : PS} (h2 : nxt t n (tur1 t n P).1 44 = false) : turP t n (f + 1) P = (skp t n (tur1 t n P).1, (tur1 t n P).2) := by
  show (bif decide ((tur1 t n P).2.2.nt < 12) && nxt t n (tur1 t n P).1 44 then _ else _) = _
  rw [h2, Bool.and_false]; rfl
set_option maxRecDepth 20000 in
theorem c_X7_readTurns {l : Launch} {X : XT} {d Lz : Nat} {n : Nat} {t : Nat → Nat} (hn : n ≤ 240) (ht : ∀ q, q < n → t q < 256) (j m : Nat) : ∀ (f : Nat) {w : WF} (P : PS) (ha : P.1 ≤ n) (hF3 : P.2.1.1 ≤ 3) (hnt : P.2.2.nt + f = 12) (hf1 : 1 ≤ f) (h : TS w n t P.1 P.2.1) (hD : DC w j P.2.2 m), WP l X (d + 3) md_X7_readTurns (en md_X7_readTurns [.inr (.inr (7, 0, 0)), .inr (.inr (4, j, 0))] (mk Lz w)) (fun v M' => v = none ∧ ∃ w', M' = mk Lz w' ∧ (∃ a, a ≤ n ∧ skp t n a = skp t n (turP t n f P).1 ∧ TS w' n t a (turP t n f P).2.1) ∧ DC w' j (turP t n f P).2.2 m ∧ frY j w w') := by
  intro f
  induction f with
  | zero =>
    intro w P ha hF3 hnt hf1
    exact absurd hf1 (by omega)
  | succ f ih =>
    intro w P ha hF3 hnt hfz h hD
    show WP l X _ md_X7_readTurns (0, [some (.inr (.inr (7, 0, 0))), some (.inr (.inr (4, j, 0)))], [], _) _
    refine x_aload_n (pc' := 1) rfl rfl rfl (x_getR (pc' := 4) (t := (4, _, 3)) rfl rfl rfl (x_aload_n (pc' := 5) rfl rfl rfl (x_getI (pc' := 8) rfl rfl rfl ?_)))
    rw [hD.2.2.2.1]
    refine x_aload_n (pc' := 9) rfl rfl rfl (x_iconst (pc' := 10) rfl rfl (x_iconst (pc' := 11) rfl rfl (x_invQ3 (pc' := 14) rfl rfl rfl rfl rfl (c_X7_readNumber hn ht P.1 0 2 ha (by decide) (by decide) hF3 h) (fun vq Mq hq11 => ?_))))
    obtain ⟨rfl, w1, rfl, h1, hf1⟩ := hq11
    have hc : DC w1 j P.2.2 m := DC_cg (hf1.c4 j) hD
    have hA := nmA_at (t := t) (F := P.2.1) (lo := 0) (hi := 2) ha
    have h3 := nmA_3 (t := t) (n := n) (a := P.1) (lo := 0) (hi := 2) hF3
    show WP l X _ md_X7_readTurns (14, _, [_, _, _], _) _
    refine x_iast (pc' := 15) (N := 12) rfl rfl rfl (by decide) rfl (by omega) (by decide) (x_aload_n (pc' := 16) rfl rfl rfl (x_dup (pc' := 17) rfl rfl rfl (x_getI (pc' := 20) rfl rfl rfl ?_)))
    rw [u4_ne (by intro z; cases z), hc.2.2.2.1]
    refine x_iconst (pc' := 21) rfl rfl (x_iaddN (pc' := 22) rfl rfl (x_putI (pc' := 25) rfl rfl rfl ?_))
    have hT1 : TS (u4 (u4 w1 4 j 3 P.2.2.nt (nI (nmA t n P.1 P.2.1 0 2).1)) 4 j 0 7 (nI (P.2.2.nt + 1))) n t (tur1 t n P).1 (tur1 t n P).2.1 := TS_cg (w := w1) (fun o q => by rw [u4_ne (by intro z; cases z), u4_ne (by intro z; cases z)]) h1
    have hc1 := DC_addT hc (nmA t n P.1 P.2.1 0 2).1
    have hf3 : frY j w (u4 (u4 w1 4 j 3 P.2.2.nt (nI (nmA t n P.1 P.2.1 0 2).1)) 4 j 0 7 (nI (P.2.2.nt + 1))) := ((hf1.y j).u 3 _ _).u 0 7 _
    have hs := skp_b (t := t) hA.2
    refine x_aload_n (pc' := 26) rfl rfl rfl (x_getI (pc' := 29) rfl rfl rfl ?_)
    rw [u4_self]
    refine x_bipush (pc' := 31) rfl rfl ?_
    refine x_icmp_geN (pc' := 34) rfl rfl (by omega) (by omega) (fun h31 => ?_) (fun h31 => ?_)
    · refine x_vret rfl rfl ?_
      rw [turP_f1 h31]
      exact ⟨rfl, _, rfl, ⟨_, hA.2, (skp_i hA.2).symm, hT1⟩, hc1, hf3⟩
    · refine x_aload_n (pc' := 35) rfl rfl rfl (x_bipush (pc' := 37) rfl rfl (x_invQ2 (pc' := 40) rfl rfl rfl rfl (c_X7_isNext hn ht (tur1 t n P).1 44 hA.2 (by decide) hT1) (fun vq Mq hq37 => ?_)))
      obtain ⟨rfl, w2, rfl, h2, hf2⟩ := hq37
      have hc2 := DC_cg (hf2.c4 j) hc1
      show WP l X _ md_X7_readTurns (40, _, [_], _) _
      refine x_if_ne (pc' := 43) rfl rfl (fun h40 => ?_) (fun h40 => ?_)
      · refine x_vret rfl rfl ?_
        have e := bI_eq0.mp h40
        rw [turP_f2 e]
        have e1 : nxA t n (tur1 t n P).1 44 = skp t n (tur1 t n P).1 := by unfold nxA; rw [e]; rfl
        rw [e1] at h2
        exact ⟨rfl, _, rfl, ⟨_, hs.2.1, rfl, h2⟩, hc2, hf3.tr (hf2.y j)⟩
      · have e := bq h40
        rw [turP_t h31 e]
        have e1 : nxA t n (tur1 t n P).1 44 = skp t n (tur1 t n P).1 + 1 := by unfold nxA; rw [e]; rfl
        rw [e1] at h2
        refine wp_cons (ih (skp t n (tur1 t n P).1 + 1, (tur1 t n P).2) (nxt_lt e).1 h3 (by show P.2.2.nt + 1 + f = 12; omega) (by omega) h2 hc2) ?_
        rintro v M ⟨q1, w3, q2, q3, q4, q5⟩
        exact ⟨q1, w3, q2, q3, q4, (hf3.tr (hf2.y j)).tr q5⟩
