/-! the reference reads -/
def TM (w : WF) (n : Nat) (t : Nat → Nat) : Prop := w 9 0 0 12 = nI n ∧ ∀ q, q < n → w 9 0 12 q = nI (t q)
def FM (w : WF) (n : Nat) (t : Nat → Nat) (a : Nat) (F : FS) : Prop := TM w n t ∧ w 9 0 0 21 = nI F.1 ∧ (F.1 ≠ 0 → w 9 0 0 22 = F.2) ∧ (F.1 = 0 → w 9 0 0 20 = nI a)
def frZ (w w' : WF) : Prop := ∀ c i o q, ¬ (c = 9 ∧ i = 0 ∧ o = 0 ∧ 20 ≤ q ∧ q ≤ 22) → w' c i o q = w c i o q
theorem frZ.rf (w : WF) : frZ w w := fun _ _ _ _ _ => rfl
theorem frZ.tr {a b c : WF} (h : frZ a b) (h2 : frZ b c) : frZ a c := fun x i o q hq => (h2 x i o q hq).trans (h x i o q hq)
theorem frZ.u {a b : WF} (h : frZ a b) (k : Nat) (hk : 20 ≤ k ∧ k ≤ 22) (v : Int32) : frZ a (u4 b 9 0 0 k v) := fun c i o q hq => by
  have e : u4 b 9 0 0 k v c i o q = b c i o q := by unfold u4; rw [if_neg (by omega)]
  rw [e]; exact h c i o q hq
theorem TM_Z {w w' : WF} {n : Nat} {t : Nat → Nat} (h : TM w n t) (hf : frZ w w') : TM w' n t := ⟨(hf 9 0 0 12 (by omega)).trans h.1, fun q hq => (hf 9 0 12 q (by omega)).trans (h.2 q hq)⟩
theorem FM_b {w : WF} {n : Nat} {t : Nat → Nat} {a b : Nat} {F : FS} (hF : ¬ F.1 = 0) (h : FM w n t a F) : FM w n t b F := ⟨h.1, h.2.1, h.2.2.1, fun z => absurd z hF⟩
theorem FM_at {w w' : WF} {n : Nat} {t : Nat → Nat} {a b : Nat} {F : FS} (h : FM w n t a F) (hf : frZ w w') (e1 : w' 9 0 0 21 = w 9 0 0 21) (e2 : w' 9 0 0 22 = w 9 0 0 22) (e0 : F.1 = 0 → w' 9 0 0 20 = nI b) : FM w' n t b F := ⟨TM_Z h.1 hf, e1.trans h.2.1, fun z => e2.trans (h.2.2.1 z), e0⟩
theorem FM_R {w w' : WF} {n : Nat} {t : Nat → Nat} {a : Nat} {F : FS} (h : FM w n t a F) (e : ∀ q, q < 23 → w' 9 0 0 q = w 9 0 0 q) (e2 : ∀ q, w' 9 0 12 q = w 9 0 12 q) : FM w' n t a F := ⟨⟨(e 12 (by omega)).trans h.1.1, fun q hq => (e2 q).trans (h.1.2 q hq)⟩, (e 21 (by omega)).trans h.2.1, fun z => (e 22 (by omega)).trans (h.2.2.1 z), fun z => (e 20 (by omega)).trans (h.2.2.2 z)⟩
/-- what the reference has read so far -/
def DM (w : WF) (D : Dr) (m : Nat) : Prop := w 9 0 0 23 = D.lw ∧ w 9 0 0 24 = nI D.tm ∧ w 9 0 0 25 = nI D.np ∧ w 9 0 0 26 = nI D.no ∧ w 9 0 0 27 = nI D.nt ∧ (∀ q, q < m → w 9 0 29 q = nI (D.g q)) ∧ (∀ q, q < D.np → w 9 0 30 q = nI (D.dr q)) ∧ (∀ q, q < D.no → w 9 0 31 q = nI (D.ok q)) ∧ (∀ q, q < D.nt → w 9 0 32 q = nI (D.kd q))
theorem DM_cg {w w' : WF} {D : Dr} {m : Nat} (e0 : ∀ q, 23 ≤ q → w' 9 0 0 q = w 9 0 0 q) (e : ∀ o q, 29 ≤ o → w' 9 0 o q = w 9 0 o q) (h : DM w D m) : DM w' D m := by
  unfold DM
  rw [e0 23 (by omega), e0 24 (by omega), e0 25 (by omega), e0 26 (by omega), e0 27 (by omega)]
  simp only [e 29 _ (by omega), e 30 _ (by omega), e 31 _ (by omega), e 32 _ (by omega)]
  exact h
theorem DM_Z {w w' : WF} {D : Dr} {m : Nat} (hf : frZ w w') (h : DM w D m) : DM w' D m := DM_cg (fun q hq => hf 9 0 0 q (by omega)) (fun o q ho => hf 9 0 o q (by omega)) h
theorem DM_law {w : WF} {m l1 : Nat} {D : Dr} (h : DM w D m) (tm : Nat) : DM (u4 (u4 w 9 0 0 23 (nI l1)) 9 0 0 24 (nI tm)) (D.setL l1 tm) m := by
  obtain ⟨h1, h2, h3, h4, h5, h6, h7, h8, h9⟩ := h
  exact ⟨by rw [u4_k (by omega), u4_self]; rfl, by rw [u4_self]; rfl, by rw [u4_k (by omega), u4_k (by omega)]; exact h3, by rw [u4_k (by omega), u4_k (by omega)]; exact h4, by rw [u4_k (by omega), u4_k (by omega)]; exact h5, fun q hq => by rw [u4_ne (by decide), u4_ne (by decide)]; exact h6 q hq, fun q hq => by rw [u4_ne (by decide), u4_ne (by decide)]; exact h7 q hq, fun q hq => by rw [u4_ne (by decide), u4_ne (by decide)]; exact h8 q hq, fun q hq => by rw [u4_ne (by decide), u4_ne (by decide)]; exact h9 q hq⟩
theorem DM_setG {w : WF} {m : Nat} {D : Dr} (h : DM w D m) (v : Nat) : DM (u4 w 9 0 29 m (nI v)) (D.setG m v) (m + 1) := by
  obtain ⟨h1, h2, h3, h4, h5, h6, h7, h8, h9⟩ := h
  refine ⟨by rw [u4_ne (by decide)]; exact h1, by rw [u4_ne (by decide)]; exact h2, by rw [u4_ne (by decide)]; exact h3, by rw [u4_ne (by decide)]; exact h4, by rw [u4_ne (by decide)]; exact h5, fun q hq => ?_, fun q hq => by rw [u4_ne (by decide)]; exact h7 q hq, fun q hq => by rw [u4_ne (by decide)]; exact h8 q hq, fun q hq => by rw [u4_ne (by decide)]; exact h9 q hq⟩
  show _ = nI (if q = m then v else D.g q)
  by_cases z : q = m
  · subst z; rw [u4_self, if_pos rfl]
  · rw [u4_k z, if_neg z]; exact h6 q (by omega)
theorem DM_addP {w : WF} {m : Nat} {D : Dr} (h : DM w D m) (v : Nat) : DM (u4 (u4 w 9 0 30 D.np (nI v)) 9 0 0 25 (nI (D.np + 1))) (D.addP v) m := by
  obtain ⟨h1, h2, h3, h4, h5, h6, h7, h8, h9⟩ := h
  refine ⟨by rw [u4_k (by omega), u4_ne (by decide)]; exact h1, by rw [u4_k (by omega), u4_ne (by decide)]; exact h2, by rw [u4_self]; rfl, by rw [u4_k (by omega), u4_ne (by decide)]; exact h4, by rw [u4_k (by omega), u4_ne (by decide)]; exact h5, fun q hq => by rw [u4_ne (by decide), u4_ne (by decide)]; exact h6 q hq, fun q hq => ?_, fun q hq => by rw [u4_ne (by decide), u4_ne (by decide)]; exact h8 q hq, fun q hq => by rw [u4_ne (by decide), u4_ne (by decide)]; exact h9 q hq⟩
  show _ = nI (if q = D.np then v else D.dr q)
  have hq : q < D.np + 1 := hq
  by_cases z : q = D.np
  · rw [z, u4_ne (by decide), u4_self, if_pos rfl]
  · rw [u4_ne (by decide), u4_k z, if_neg z]; exact h7 q (by omega)
theorem DM_addO {w : WF} {m : Nat} {D : Dr} (h : DM w D m) (v : Nat) : DM (u4 (u4 w 9 0 31 D.no (nI v)) 9 0 0 26 (nI (D.no + 1))) (D.addO v) m := by
  obtain ⟨h1, h2, h3, h4, h5, h6, h7, h8, h9⟩ := h
  refine ⟨by rw [u4_k (by omega), u4_ne (by decide)]; exact h1, by rw [u4_k (by omega), u4_ne (by decide)]; exact h2, by rw [u4_k (by omega), u4_ne (by decide)]; exact h3, by rw [u4_self]; rfl, by rw [u4_k (by omega), u4_ne (by decide)]; exact h5, fun q hq => by rw [u4_ne (by decide), u4_ne (by decide)]; exact h6 q hq, fun q hq => by rw [u4_ne (by decide), u4_ne (by decide)]; exact h7 q hq, fun q hq => ?_, fun q hq => by rw [u4_ne (by decide), u4_ne (by decide)]; exact h9 q hq⟩
  show _ = nI (if q = D.no then v else D.ok q)
  have hq : q < D.no + 1 := hq
  by_cases z : q = D.no
  · rw [z, u4_ne (by decide), u4_self, if_pos rfl]
  · rw [u4_ne (by decide), u4_k z, if_neg z]; exact h8 q (by omega)
theorem DM_addT {w : WF} {m : Nat} {D : Dr} (h : DM w D m) (v : Nat) : DM (u4 (u4 w 9 0 32 D.nt (nI v)) 9 0 0 27 (nI (D.nt + 1))) (D.addT v) m := by
  obtain ⟨h1, h2, h3, h4, h5, h6, h7, h8, h9⟩ := h
  refine ⟨by rw [u4_k (by omega), u4_ne (by decide)]; exact h1, by rw [u4_k (by omega), u4_ne (by decide)]; exact h2, by rw [u4_k (by omega), u4_ne (by decide)]; exact h3, by rw [u4_k (by omega), u4_ne (by decide)]; exact h4, by rw [u4_self]; rfl, fun q hq => by rw [u4_ne (by decide), u4_ne (by decide)]; exact h6 q hq, fun q hq => by rw [u4_ne (by decide), u4_ne (by decide)]; exact h7 q hq, fun q hq => by rw [u4_ne (by decide), u4_ne (by decide)]; exact h8 q hq, fun q hq => ?_⟩
  show _ = nI (if q = D.nt then v else D.kd q)
  have hq : q < D.nt + 1 := hq
  by_cases z : q = D.nt
  · rw [z, u4_ne (by decide), u4_self, if_pos rfl]
  · rw [u4_ne (by decide), u4_k z, if_neg z]; exact h9 q (by omega)
set_option maxRecDepth 20000 in
theorem c_X9_wrong {l : Launch} {X : XT} {d Lz : Nat} {w : Nat → Nat → Nat → Nat → Int32} {n : Nat} {t : Nat → Nat} {F : FS} (a b k p : Nat) (hk : k ≠ 0) (hF3 : F.1 ≤ 3) (h : FM w n t a F) : WP l X (d + 1) md_X9_wrong (en md_X9_wrong [.inr (.inr (9, 0, 0)), .inl (nI k), .inl (nI p)] (mk Lz w)) (fun v M' => v = none ∧ ∃ w', M' = mk Lz w' ∧ FM w' n t b (blm F k p) ∧ frZ w w') := by
  show WP l X _ md_X9_wrong (0, [some (.inr (.inr (9, 0, 0))), some (.inl (nI k)), some (.inl (nI p))], [], _) _
  refine x_aload_n (pc' := 1) rfl rfl rfl (x_getI (pc' := 4) rfl rfl rfl ?_)
  rw [h.2.1]
  refine x_if_ne (pc' := 7) rfl rfl (fun h4z => ?_) (fun h4z => ?_)
  · refine x_aload_n (pc' := 8) rfl rfl rfl (x_iload_n (pc' := 9) rfl rfl rfl (x_putI (pc' := 12) rfl rfl rfl (x_aload_n (pc' := 13) rfl rfl rfl (x_iload_n (pc' := 14) rfl rfl rfl (x_putI (pc' := 17) rfl rfl rfl ?_)))))
    refine x_vret rfl rfl ?_
    have hF := zF h4z hF3
    rw [blm_z hF]
    exact ⟨rfl, _, rfl, ⟨TM_Z h.1 (((frZ.rf w).u 21 (by omega) _).u 22 (by omega) _), by rw [u4_k (by omega), u4_self], fun _ => u4_self _ _ _ _ _ _, fun z => absurd z hk⟩, ((frZ.rf w).u 21 (by omega) _).u 22 (by omega) _⟩
  · refine x_vret rfl rfl ?_
    have hF : ¬ F.1 = 0 := fun e => h4z (by rw [e]; rfl)
    rw [blm_n hF]
    exact ⟨rfl, _, rfl, FM_b hF h, frZ.rf w⟩
set_option maxRecDepth 20000 in
theorem c_X9_fine {l : Launch} {X : XT} {d Lz : Nat} {w : Nat → Nat → Nat → Nat → Int32} (F : FS) (hF3 : F.1 ≤ 3) (h : w 9 0 0 21 = nI F.1) : CT l X (d + 1) md_X9_fine [.inr (.inr (9, 0, 0))] (mk Lz w) (some (.inl (bI (decide (F.1 = 0))))) (mk Lz w) := by
  show WP l X _ md_X9_fine (0, [some (.inr (.inr (9, 0, 0)))], [], _) _
  refine x_aload_n (pc' := 1) rfl rfl rfl (x_getI (pc' := 4) rfl rfl rfl ?_)
  rw [h]
  refine x_if_ne (pc' := 7) rfl rfl (fun h4 => ?_) (fun h4 => ?_)
  · refine x_iconst (pc' := 8) rfl rfl (x_goto rfl ?_)
    refine x_zret rfl rfl (by decide) ?_
    exact rI (bI_t (dT (zF h4 hF3))).symm
  · refine x_iconst (pc' := 12) rfl rfl ?_
    refine x_zret rfl rfl (by decide) ?_
    exact rI (bI_f (dF (fun e => h4 (by rw [e]; rfl)))).symm
def hrV (t : Nat → Nat) (n a : Nat) : Int32 := if skp t n a < n then nI (t (skp t n a)) else -1
theorem hr_in {t : Nat → Nat} {n a : Nat} (ht : ∀ q, q < n → t q < 256) : inB (hrV t n a) (nI 48) (nI 57) = (decide (skp t n a < n) && fg (t (skp t n a))) := by
  unfold hrV
  by_cases z : skp t n a < n
  · rw [if_pos z, dT z, fg_B (ht _ z)]; rfl
  · rw [if_neg z, dF z]; exact (by decide : inB (-1) (nI 48) (nI 57) = false)
theorem hr_c {t : Nat → Nat} {n a c : Nat} (ht : ∀ q, q < n → t q < 256) (hc : c < 256) : hrV t n a = nI c ↔ nxt t n a c = true := by
  unfold hrV
  by_cases z : skp t n a < n
  · rw [if_pos z]
    have hb := ht _ z
    constructor
    · intro h; exact nxt_t z ((nI_eq (by omega) (by omega)).mp h)
    · intro h; rw [(nxt_lt h).2]
  · rw [if_neg z]
    constructor
    · intro h; exact absurd h.symm (nI_ne1 (by omega))
    · intro h; exact absurd (nxt_lt h).1 z
theorem hr_n {t : Nat → Nat} {n a : Nat} (ht : ∀ q, q < n → t q < 256) : hrV t n a = -1 ↔ ¬ skp t n a < n := by
  unfold hrV
  by_cases z : skp t n a < n
  · rw [if_pos z]
    have hb := ht _ z
    exact ⟨fun h => absurd h (nI_ne1 (by omega)), fun h => absurd z h⟩
  · rw [if_neg z]
    exact ⟨fun _ => z, fun _ => rfl⟩
def frH (w w' : WF) : Prop := ∀ c i o q, ¬ (c = 9 ∧ i = 0 ∧ o = 0 ∧ q = 20) → w' c i o q = w c i o q
theorem frH.z {w w' : WF} (h : frH w w') : frZ w w' := fun c i o q hq => h c i o q (by omega)
theorem frH.u {w w' : WF} (h : frH w w') (v : Int32) : frH w (u4 w' 9 0 0 20 v) := fun c i o q hq => by
  have e : u4 w' 9 0 0 20 v c i o q = w' c i o q := by unfold u4; rw [if_neg (by omega)]
  rw [e]; exact h c i o q hq
theorem FM_H {w w' : WF} {n : Nat} {t : Nat → Nat} {a b : Nat} {F : FS} (h : FM w n t a F) (hf : frH w w') (e0 : F.1 = 0 → w' 9 0 0 20 = nI b) : FM w' n t b F := FM_at h hf.z (hf 9 0 0 21 (by omega)) (hf 9 0 0 22 (by omega)) e0
set_option maxRecDepth 20000 in
theorem r_X9_here {l : Launch} {X : XT} {d Lz : Nat} {w : Nat → Nat → Nat → Nat → Int32} {n : Nat} {t : Nat → Nat} (hn : n ≤ 240) (ht : ∀ q, q < n → t q < 256) (a0 b : Nat) (hbn : b ≤ n) (hs : skp t n a0 = b) (wn : WF) (hM : TM wn n t) (h20 : wn 9 0 0 20 = nI b) (hf : frH w wn) : WP l X (d + 1) md_X9_here (38, [some (.inr (.inr (9, 0, 0)))], [], mk Lz wn) (fun v M' => v = some (.inl (hrV t n a0)) ∧ ∃ w', M' = mk Lz w' ∧ w' 9 0 0 20 = nI (skp t n a0) ∧ frH w w') := by
  refine x_aload_n (pc' := 39) rfl rfl rfl (x_getI (pc' := 42) rfl rfl rfl ?_)
  rw [h20]
  refine x_aload_n (pc' := 43) rfl rfl rfl (x_getI (pc' := 46) rfl rfl rfl ?_)
  rw [hM.1]
  refine x_icmp_geN (pc' := 49) rfl rfl (by omega) (by omega) (fun h46 => ?_) (fun h46 => ?_)
  · refine x_iconst (pc' := 62) rfl rfl ?_
    refine x_iret rfl rfl ?_
    exact ⟨by unfold hrV; rw [hs, if_neg (by omega)], _, rfl, by rw [hs]; exact h20, hf⟩
  · refine x_aload_n (pc' := 50) rfl rfl rfl (x_getR (pc' := 53) (t := (9, _, 12)) rfl rfl rfl (x_aload_n (pc' := 54) rfl rfl rfl (x_getI (pc' := 57) rfl rfl rfl ?_)))
    rw [h20]
    refine x_iald (pc' := 58) (N := 240) rfl rfl rfl rfl (by omega) (by decide) ?_
    rw [hM.2 _ h46]
    refine x_goto rfl ?_
    refine x_iret rfl rfl ?_
    exact ⟨by unfold hrV; rw [hs, if_pos h46], _, rfl, by rw [hs]; exact h20, hf⟩
set_option maxRecDepth 20000 in
theorem l_X9_here {l : Launch} {X : XT} {d Lz : Nat} {w : Nat → Nat → Nat → Nat → Int32} {n : Nat} {t : Nat → Nat} (hn : n ≤ 240) (ht : ∀ q, q < n → t q < 256) (a0 : Nat) : ∀ (kk a : Nat), ∀ (wn : WF), TM wn n t → wn 9 0 0 20 = nI a → frH w wn → skp t n a = skp t n a0 →  a ≤ n → n + 1 ≤ a + kk → WP l X (d + 1) md_X9_here (0, [some (.inr (.inr (9, 0, 0)))], [], mk Lz wn) (fun v M' => v = some (.inl (hrV t n a0)) ∧ ∃ w', M' = mk Lz w' ∧ w' 9 0 0 20 = nI (skp t n a0) ∧ frH w w') := by
  intro kk
  induction kk with
  | zero =>
    intro a wn hM h20 hf hs h1 h2
    exact absurd h2 (by omega)
  | succ kk ih =>
    intro a wn hM h20 hf hs hi1 hi2
    refine x_aload_n (pc' := 1) rfl rfl rfl (x_getI (pc' := 4) rfl rfl rfl ?_)
    rw [h20]
    refine x_aload_n (pc' := 5) rfl rfl rfl (x_getI (pc' := 8) rfl rfl rfl ?_)
    rw [hM.1]
    refine x_icmp_geN (pc' := 11) rfl rfl (by omega) (by omega) (fun h8 => ?_) (fun h8 => ?_)
    · exact r_X9_here hn ht a0 a hi1 (hs.symm.trans (skp_e h8)) wn hM h20 hf
    · have hb := ht a h8
      refine x_aload_n (pc' := 12) rfl rfl rfl (x_getR (pc' := 15) (t := (9, _, 12)) rfl rfl rfl (x_aload_n (pc' := 16) rfl rfl rfl (x_getI (pc' := 19) rfl rfl rfl ?_)))
      rw [h20]
      refine x_iald (pc' := 20) (N := 240) rfl rfl rfl rfl (by omega) (by decide) ?_
      rw [hM.2 _ h8]
      refine x_bipush (pc' := 22) rfl rfl ?_
      refine x_icmp_neN (pc' := 25) rfl rfl (by omega) (by omega) (fun h22 => ?_) (fun h22 => ?_)
      · refine x_aload_n (pc' := 26) rfl rfl rfl (x_dup (pc' := 27) rfl rfl rfl (x_getI (pc' := 30) rfl rfl rfl ?_))
        rw [h20]
        refine x_iconst (pc' := 31) rfl rfl (x_iaddN (pc' := 32) rfl rfl (x_putI (pc' := 35) rfl rfl rfl (x_goto rfl ?_)))
        exact ih (a + 1) _ (TM_Z hM ((frZ.rf wn).u 20 (by omega) _)) (u4_self _ _ _ _ _ _) (hf.u _) (by rw [← skp_t h8 h22]; exact hs) (by omega) (by omega)
      · exact r_X9_here hn ht a0 a hi1 (hs.symm.trans (skp_f h22)) wn hM h20 hf
set_option maxRecDepth 20000 in
theorem c_X9_here {l : Launch} {X : XT} {d Lz : Nat} {w : Nat → Nat → Nat → Nat → Int32} {n : Nat} {t : Nat → Nat} (hn : n ≤ 240) (ht : ∀ q, q < n → t q < 256) (a0 : Nat) (ha : a0 ≤ n) (hM : TM w n t) (h20 : w 9 0 0 20 = nI a0) : WP l X (d + 1) md_X9_here (en md_X9_here [.inr (.inr (9, 0, 0))] (mk Lz w)) (fun v M' => v = some (.inl (hrV t n a0)) ∧ ∃ w', M' = mk Lz w' ∧ w' 9 0 0 20 = nI (skp t n a0) ∧ frH w w') := by
  show WP l X _ md_X9_here (0, [some (.inr (.inr (9, 0, 0)))], [], _) _
  exact l_X9_here hn ht a0 (n + 1) a0 w hM h20 (fun _ _ _ _ _ => rfl) rfl ha (by omega)
theorem inB_N {v lo hi : Nat} (hv : v < 2 ^ 31) (hl : lo < 2 ^ 31) (hh : hi < 2 ^ 31) : inB (nI v) (nI lo) (nI hi) = (decide (lo ≤ v) && decide (v ≤ hi)) := by
  unfold inB
  rw [decide_eq_decide.mpr (nI_leI hl hv), decide_eq_decide.mpr (nI_leI hv hh)]
set_option maxRecDepth 20000 in
theorem r_X9_number {l : Launch} {X : XT} {d Lz : Nat} {w : Nat → Nat → Nat → Nat → Int32} {n : Nat} {t : Nat → Nat} (hn : n ≤ 240) (ht : ∀ q, q < n → t q < 256) {F : FS} (at' lo hi : Nat) (hlo : lo ≤ 9) (hhi : hi ≤ 9) (hF0 : F.1 = 0) (a : Nat) (ha : skp t n at' = a) (han : a < n) (hfa : fg (t a) = true) (b : Nat) (hb : fnd t n a = b) (hab : a ≤ b) (hbn : b ≤ n) (hv : vl t a (min (b - a) 4) < 10000) (wn : WF) (hT : FM wn n t b F) (hf : frZ w wn) : WP l X (d + 2) md_X9_number (120, [some (.inr (.inr (9, 0, 0))), some (.inl (nI lo)), some (.inl (nI hi)), some (.inl (nI a)), some (.inl (nI (vl t a (min (b - a) 4))))], [], mk Lz wn) (fun v M' => ∃ v', v = some (.inl (nI v')) ∧ ((nmA t n at' F lo hi).2.2.1 = 0 → v' = (nmA t n at' F lo hi).1) ∧ ∃ w', M' = mk Lz w' ∧ FM w' n t (nmA t n at' F lo hi).2.1 (nmA t n at' F lo hi).2.2 ∧ frZ w w') := by
  rw [nm_pos ha han hfa hb]
  have h20 := hT.2.2.2 hF0
  refine x_aload_n (pc' := 121) rfl rfl rfl (x_getI (pc' := 124) rfl rfl rfl ?_)
  rw [h20]
  refine x_iload_n (pc' := 125) rfl rfl rfl (x_isubN (pc' := 126) rfl rfl (by first | assumption | omega) (x_iconst (pc' := 127) rfl rfl ?_))
  refine x_icmp_gtN (pc' := 130) rfl rfl (by omega) (by omega) (fun h127 => ?_) (fun h127 => ?_)
  · refine x_aload_n (pc' := 141) rfl rfl rfl (x_iconst (pc' := 142) rfl rfl (x_iload_n (pc' := 143) rfl rfl rfl (x_invQ3 (pc' := 146) rfl rfl rfl rfl rfl (c_X9_wrong b b 2 a (by decide) (by omega) hT) (fun vq Mq hq143 => ?_))))
    obtain ⟨rfl, w2, rfl, h2, hf2⟩ := hq143
    show WP l X _ md_X9_number (146, _, [], _) _
    refine x_iload (pc' := 148) rfl rfl rfl ?_
    refine x_iret rfl rfl ?_
    exact ⟨_, rfl, fun z => by exfalso; revert z; show ¬ (if _ then F else blm F 2 a).1 = 0; rw [if_neg (by omega)]; exact blm_0 (by decide), _, rfl, by rw [if_neg (by omega)]; exact h2, hf.tr hf2⟩
  · have e4 : min (b - a) 4 = min (b - a) 3 := by omega
    refine x_iload (pc' := 132) rfl rfl rfl (x_iload_n (pc' := 133) rfl rfl rfl (x_iload_n (pc' := 134) rfl rfl rfl (x_invS3 (pc' := 137) rfl rfl rfl rfl rfl rfl (c_X9_in _ _ _) ?_)))
    refine x_if_ne (pc' := 140) rfl rfl (fun h137 => ?_) (fun h137 => ?_)
    · refine x_aload_n (pc' := 141) rfl rfl rfl (x_iconst (pc' := 142) rfl rfl (x_iload_n (pc' := 143) rfl rfl rfl (x_invQ3 (pc' := 146) rfl rfl rfl rfl rfl (c_X9_wrong b b 2 a (by decide) (by omega) hT) (fun vq Mq hq143 => ?_))))
      obtain ⟨rfl, w2, rfl, h2, hf2⟩ := hq143
      show WP l X _ md_X9_number (146, _, [], _) _
      refine x_iload (pc' := 148) rfl rfl rfl ?_
      refine x_iret rfl rfl ?_
      have hin := bI_eq0.mp h137
      have hno : ¬ (b - a ≤ 3 ∧ lo ≤ vl t a (min (b - a) 3) ∧ vl t a (min (b - a) 3) ≤ hi) := fun y => by
        have hc := inB_N (v := vl t a (min (b - a) 4)) (by omega) (by omega) (by omega) (lo := lo) (hi := hi)
        rw [hin, e4] at hc
        exact absurd hc.symm (by rw [dT y.2.1, dT y.2.2]; decide)
      exact ⟨_, rfl, fun z => by exfalso; revert z; show ¬ (if _ then F else blm F 2 a).1 = 0; rw [if_neg hno]; exact blm_0 (by decide), _, rfl, by rw [if_neg hno]; exact h2, hf.tr hf2⟩
    · refine x_iload (pc' := 148) rfl rfl rfl ?_
      refine x_iret rfl rfl ?_
      have hin := bq h137
      have hc := inB_N (v := vl t a (min (b - a) 4)) (by omega) (by omega) (by omega) (lo := lo) (hi := hi)
      rw [hin, e4] at hc
      have hc := hc.symm
      simp only [Bool.and_eq_true, decide_eq_true_eq] at hc
      exact ⟨_, rfl, fun _ => by rw [e4], _, rfl, by rw [if_pos ⟨by omega, hc⟩]; exact hT, hf⟩
set_option maxRecDepth 20000 in
theorem l_X9_number {l : Launch} {X : XT} {d Lz : Nat} {w : Nat → Nat → Nat → Nat → Int32} {n : Nat} {t : Nat → Nat} (hn : n ≤ 240) (ht : ∀ q, q < n → t q < 256) {F : FS} (at' lo hi : Nat) (hlo : lo ≤ 9) (hhi : hi ≤ 9) (hF0 : F.1 = 0) (a : Nat) (ha : skp t n at' = a) (han : a < n) (hfa : fg (t a) = true) : ∀ (kk b : Nat), ∀ (wn : WF), FM wn n t b F → frZ w wn → fnd t n b = fnd t n a → a ≤ b → vl t a (min (b - a) 4) < 10000 → (∀ i, a ≤ i → i < b → t i ≤ 57) →  b ≤ n → n + 1 ≤ b + kk → WP l X (d + 2) md_X9_number (42, [some (.inr (.inr (9, 0, 0))), some (.inl (nI lo)), some (.inl (nI hi)), some (.inl (nI a)), some (.inl (nI (vl t a (min (b - a) 4))))], [], mk Lz wn) (fun v M' => ∃ v', v = some (.inl (nI v')) ∧ ((nmA t n at' F lo hi).2.2.1 = 0 → v' = (nmA t n at' F lo hi).1) ∧ ∃ w', M' = mk Lz w' ∧ FM w' n t (nmA t n at' F lo hi).2.1 (nmA t n at' F lo hi).2.2 ∧ frZ w w') := by
  intro kk
  induction kk with
  | zero =>
    intro b wn hT hf hb hab hv hfs h1 h2
    exact absurd h2 (by omega)
  | succ kk ih =>
    intro b wn hT hf hb hab hv hfs hi1 hi2
    have h20 := hT.2.2.2 hF0
    refine x_aload_n (pc' := 43) rfl rfl rfl (x_getI (pc' := 46) rfl rfl rfl ?_)
    rw [h20]
    refine x_aload_n (pc' := 47) rfl rfl rfl (x_getI (pc' := 50) rfl rfl rfl ?_)
    rw [hT.1.1]
    refine x_icmp_geN (pc' := 53) rfl rfl (by omega) (by omega) (fun h50 => ?_) (fun h50 => ?_)
    · exact r_X9_number hn ht at' lo hi hlo hhi hF0 a ha han hfa b (hb.symm.trans (fnd_e h50)) hab hi1 hv wn hT hf
    · refine x_aload_n (pc' := 54) rfl rfl rfl (x_getR (pc' := 57) (t := (9, _, 12)) rfl rfl rfl (x_aload_n (pc' := 58) rfl rfl rfl (x_getI (pc' := 61) rfl rfl rfl ?_)))
      rw [h20]
      refine x_iald (pc' := 62) (N := 240) rfl rfl rfl rfl (by omega) (by decide) ?_
      rw [hT.1.2 _ h50]
      refine x_bipush (pc' := 64) rfl rfl (x_bipush (pc' := 66) rfl rfl (x_invS3 (pc' := 69) rfl rfl rfl rfl rfl rfl (c_X9_in _ _ _) ?_))
      rw [fg_B (ht _ h50)]
      refine x_if_eq (pc' := 72) rfl rfl (fun h69 => ?_) (fun h69 => ?_)
      · exact r_X9_number hn ht at' lo hi hlo hhi hF0 a ha han hfa b (hb.symm.trans (fnd_f (bI_eq0.mp h69))) hab hi1 hv wn hT hf
      · have hfb := bq h69
        have hft := fg_t hfb
        refine x_aload_n (pc' := 73) rfl rfl rfl (x_getI (pc' := 76) rfl rfl rfl ?_)
        rw [h20]
        refine x_iload_n (pc' := 77) rfl rfl rfl (x_isubN (pc' := 78) rfl rfl (by first | assumption | omega) (x_iconst (pc' := 79) rfl rfl ?_))
        refine x_icmp_geN (pc' := 82) rfl rfl (by omega) (by omega) (fun h79 => ?_) (fun h79 => ?_)
        · refine x_iload (pc' := 105) rfl rfl rfl (x_istore4 (pc' := 107) rfl rfl rfl (x_aload_n (pc' := 108) rfl rfl rfl (x_dup (pc' := 109) rfl rfl rfl (x_getI (pc' := 112) rfl rfl rfl ?_))))
          rw [h20]
          refine x_iconst (pc' := 113) rfl rfl (x_iaddN (pc' := 114) rfl rfl (x_putI (pc' := 117) rfl rfl rfl (x_goto rfl ?_)))
          have hfs2 : ∀ i, a ≤ i → i < b + 1 → t i ≤ 57 := fun i h1 h2 => by
            by_cases z : i = b
            · rw [z]; omega
            · exact hfs i h1 (by omega)
          have e3 : min (b + 1 - a) 4 = min (b - a) 4 := by omega
          refine WPc (ih (b + 1) _ (FM_H hT ((show frH wn wn from fun _ _ _ _ _ => rfl).u _) (fun _ => u4_self _ _ _ _ _ _)) (hf.u 20 (by omega) _) ((fnd_t h50 hfb).symm.trans hb) (by omega) (by rw [e3]; exact hv) hfs2 (by omega) (by omega)) (by rw [e3]) rfl
        · refine x_bipush (pc' := 84) rfl rfl (x_iload (pc' := 86) rfl rfl rfl (x_imulN (pc' := 87) rfl rfl (x_aload_n (pc' := 88) rfl rfl rfl (x_getR (pc' := 91) (t := (9, _, 12)) rfl rfl rfl (x_aload_n (pc' := 92) rfl rfl rfl ?_)))))
          refine x_getI (pc' := 95) rfl rfl rfl ?_
          rw [h20]
          refine x_iald (pc' := 96) (N := 240) rfl rfl rfl rfl (by omega) (by decide) ?_
          rw [hT.1.2 _ h50]
          refine x_iaddN (pc' := 97) rfl rfl (x_bipush (pc' := 99) rfl rfl (x_isubN (pc' := 100) rfl rfl (by first | assumption | omega) (x_goto rfl (x_istore4 (pc' := 107) rfl rfl rfl (x_aload_n (pc' := 108) rfl rfl rfl ?_)))))
          refine x_dup (pc' := 109) rfl rfl rfl (x_getI (pc' := 112) rfl rfl rfl ?_)
          rw [h20]
          refine x_iconst (pc' := 113) rfl rfl (x_iaddN (pc' := 114) rfl rfl (x_putI (pc' := 117) rfl rfl rfl (x_goto rfl ?_)))
          have hfs2 : ∀ i, a ≤ i → i < b + 1 → t i ≤ 57 := fun i h1 h2 => by
            by_cases z : i = b
            · rw [z]; omega
            · exact hfs i h1 (by omega)
          have e3 : min (b + 1 - a) 4 = b - a + 1 := by omega
          have e4 : min (b - a) 4 = b - a := by omega
          have hvl : vl t a (min (b + 1 - a) 4) = 10 * vl t a (min (b - a) 4) + t b - 48 := by
            rw [e3, e4]; show vl t a (b - a) * 10 + (t (a + (b - a)) - 48) = _; rw [show a + (b - a) = b by omega]; omega
          have hvl2 : vl t a (min (b + 1 - a) 4) < 10000 := by
            rw [e3]; exact Nat.lt_of_lt_of_le (vl_le (b - a + 1) (fun i hi => hfs2 (a + i) (by omega) (by omega))) (Nat.pow_le_pow_right (by decide) (show b - a + 1 ≤ 4 by omega))
          refine WPc (ih (b + 1) _ (FM_H hT ((show frH wn wn from fun _ _ _ _ _ => rfl).u _) (fun _ => u4_self _ _ _ _ _ _)) (hf.u 20 (by omega) _) ((fnd_t h50 hfb).symm.trans hb) (by omega) hvl2 hfs2 (by omega) (by omega)) (by rw [hvl]) rfl
set_option maxRecDepth 20000 in
theorem c_X9_number {l : Launch} {X : XT} {d Lz : Nat} {w : Nat → Nat → Nat → Nat → Int32} {n : Nat} {t : Nat → Nat} (hn : n ≤ 240) (ht : ∀ q, q < n → t q < 256) {F : FS} (at' lo hi : Nat) (hat : F.1 = 0 → at' ≤ n) (hlo : lo ≤ 9) (hhi : hi ≤ 9) (hF3 : F.1 ≤ 3) (h : FM w n t at' F) : WP l X (d + 3) md_X9_number (en md_X9_number [.inr (.inr (9, 0, 0)), .inl (nI lo), .inl (nI hi)] (mk Lz w)) (fun v M' => ∃ v', v = some (.inl (nI v')) ∧ ((nmA t n at' F lo hi).2.2.1 = 0 → v' = (nmA t n at' F lo hi).1) ∧ ∃ w', M' = mk Lz w' ∧ FM w' n t (nmA t n at' F lo hi).2.1 (nmA t n at' F lo hi).2.2 ∧ frZ w w') := by
  show WP l X _ md_X9_number (0, [some (.inr (.inr (9, 0, 0))), some (.inl (nI lo)), some (.inl (nI hi)), none, none], [], _) _
  refine x_aload_n (pc' := 1) rfl rfl rfl (x_invI1 (pc' := 4) rfl rfl rfl (c_X9_fine F hF3 h.2.1) ?_)
  refine x_if_ne (pc' := 7) rfl rfl (fun h4 => ?_) (fun h4 => ?_)
  · refine x_iconst (pc' := 8) rfl rfl ?_
    refine x_iret rfl rfl ?_
    have hF0 : ¬ F.1 = 0 := of_decide_eq_false (bI_eq0.mp h4)
    exact ⟨0, rfl, fun z => absurd (by rwa [nmA_n hF0] at z) hF0, w, rfl, by rw [nmA_n hF0]; exact FM_b hF0 h, frZ.rf w⟩
  · have hF0 : F.1 = 0 := of_decide_eq_true (bq h4)
    refine x_aload_n (pc' := 10) rfl rfl rfl (x_invQ1 (pc' := 13) rfl rfl rfl (c_X9_here hn ht at' (hat hF0) h.1 (h.2.2.2 hF0)) (fun vq Mq hq10 => ?_))
    obtain ⟨rfl, w1, rfl, h20, hf1⟩ := hq10
    have hT := FM_H (b := skp t n at') h hf1 (fun _ => h20)
    have hs := skp_b (t := t) (hat hF0)
    show WP l X _ md_X9_number (13, _, [_], _) _
    refine x_bipush (pc' := 15) rfl rfl (x_bipush (pc' := 17) rfl rfl (x_invS3 (pc' := 20) rfl rfl rfl rfl rfl rfl (c_X9_in _ _ _) ?_))
    rw [hr_in ht]
    refine x_if_ne (pc' := 23) rfl rfl (fun h20z => ?_) (fun h20z => ?_)
    · refine x_aload_n (pc' := 24) rfl rfl rfl (x_iconst (pc' := 25) rfl rfl (x_aload_n (pc' := 26) rfl rfl rfl (x_getI (pc' := 29) rfl rfl rfl ?_)))
      rw [h20]
      refine x_invQ3 (pc' := 32) rfl rfl rfl rfl rfl (c_X9_wrong (skp t n at') (skp t n at') 1 (skp t n at') (by decide) hF3 hT) (fun vq Mq hq29 => ?_)
      obtain ⟨rfl, w2, rfl, h2, hf2⟩ := hq29
      show WP l X _ md_X9_number (32, _, [], _) _
      refine x_iconst (pc' := 33) rfl rfl ?_
      refine x_iret rfl rfl ?_
      have hno : ¬ (skp t n at' < n ∧ fg (t (skp t n at')) = true) := fun y => by
        have e := bI_eq0.mp h20z
        rw [dT y.1, y.2] at e; cases e
      exact ⟨0, rfl, fun z => absurd (by rwa [nm_neg rfl hno] at z) (blm_0 (by decide)), _, rfl, by rw [nm_neg rfl hno]; exact h2, hf1.z.tr hf2⟩
    · refine x_aload_n (pc' := 35) rfl rfl rfl (x_getI (pc' := 38) rfl rfl rfl ?_)
      rw [h20]
      refine x_istore_n3 (pc' := 39) rfl rfl rfl (x_iconst (pc' := 40) rfl rfl (x_istore4 (pc' := 42) rfl rfl rfl ?_))
      have hy := bq h20z
      simp only [Bool.and_eq_true, decide_eq_true_eq] at hy
      exact WPc (l_X9_number hn ht at' lo hi hlo hhi hF0 (skp t n at') rfl hy.1 hy.2 (n + 1) (skp t n at') w1 hT hf1.z rfl (by omega) (by rw [Nat.sub_self]; show (0 : Nat) < 10000; omega) (fun i g1 g2 => absurd g1 (by omega)) (by omega) (by omega)) (by rw [Nat.sub_self]; rfl) rfl
