/-! what was seen, in the reference; odds; books; seeds; images -/
def dryV (q : Int32) : Nat → Int64
  | 0 => 1000000000
  | n + 1 => dryV q n * q.toInt64 / 100
def f_dry (n q : Int32) : Int32 := bif inB n (nI 0) (nI 60) && inB q (nI 0) (nI 100) then (dryV q (ix n)).toInt32 else OUTS
def AS.see (a : AS) (e m : Nat) : AS := (a.1, a.2.1, a.2.2.1, a.2.2.2.1, a.2.2.2.2.1, (a.sn + 1, (fun q => if q = a.sn then e else a.se q), (fun q => if q = a.sn then m else a.sm q)), a.2.2.2.2.2.2)
def f_see (a : AS) (e m : Int32) : Int32 × AS := bif inB e (nI 0) (nI 9) && inB m (nI 0) (nI 99) then (if a.sn < 6 then (nI (a.sn + 1), a.see (ix e) (ix m)) else (FULLL, a)) else (OUTS, a)
def AS.write (a : AS) (o : Nat) (p : Int32) : AS := (a.1, a.2.1, a.2.2.1, a.2.2.2.1, a.2.2.2.2.1, a.2.2.2.2.2.1, (a.bn + 1, (fun q => if q = a.bn then o else a.bo q), (fun q => if q = a.bn then p else a.bh q)), a.2.2.2.2.2.2.2)
def f_write (a : AS) (o p : Int32) : Int32 × AS := bif isO a o && (decide (p = -1) || isP a p) then (if a.bn < 20 then (nI (a.bn + 1), a.write (ix o) p) else (FULLL, a)) else (UNK, a)
def jdF (s : Sa) (bo : Nat → Nat) (bh : Nat → Int32) : Nat → Nat → Option Nat
  | _, 0 => none
  | p, m + 1 => if s.ho (bo p) = bh p then jdF s bo bh (p + 1) m else some p
def f_judge (a : AS) : Int32 := oI (jdF a.s a.bo a.bh 0 a.bn)
def AS.tear (a : AS) : AS := (a.1, a.2.1, a.2.2.1, a.2.2.2.1, a.2.2.2.2.1, (0, a.2.2.2.2.2.1.2), (0, a.2.2.2.2.2.2.1.2), a.2.2.2.2.2.2.2)
def f_seed (a : AS) (v : Int32) : Int32 × AS := if v < 0 then (OUTS, a) else (nI a.sd, a.deed a.s a.n a.pa (ix v))
def AS.keep (a : AS) (i : Nat) : AS := (a.1, a.2.1, (0, a.pa), ((fun q => if q = i then true else a.kp q), (fun q => if q = i then a.s else a.im q), (fun q => if q = i then a.sd else a.is q)), a.2.2.2.2)
def f_keep (a : AS) (i : Int32) : Int32 × AS := bif inB i (nI 0) (nI 1) then (nI 1, a.keep (ix i)) else (UNK, a)
def f_goBack (a : AS) (i : Int32) : Int32 × AS := bif inB i (nI 0) (nI 1) then (bif a.kp (ix i) then (nI 1, a.deed (a.im (ix i)) 0 a.pa (a.is (ix i))) else (NOTT, a)) else (UNK, a)
theorem ptF_n {F : Nat → Bool} {e m p : Nat} (h2 : ¬ mkB p e = m) : ptF F e m p = false := ptF_f (fun z => h2 z.symm)
set_option maxRecDepth 20000 in
theorem l_X9_partBy1 {l : Launch} {X : XT} {d Lz : Nat} {w : WF} {a : AS} (hS : SeM w a.sn a.se a.sm) (hA : a.sn ≤ 6 ∧ ∀ q, q < a.sn → a.se q < 10 ∧ a.sm q < 100) (e m : Nat) (he : e < 10) (hm : m < 100) (R : Int32) {Q : Option AV → Mem → Prop} (hQ : WP l X (d + 2) md_X9_partBy (65, [some (.inr (.inr (9, 0, 0))), some (.inl (nI e)), some (.inl (R)), some (.inl (nI m)), some (.inl (nI (cntN (ptF (fitA a) e m) 100))), some (.inl (nI 100))], [], mk Lz w) Q) : ∀ (kk n : Nat),  n ≤ 100 → 100 + 1 ≤ n + kk → WP l X (d + 2) md_X9_partBy (16, [some (.inr (.inr (9, 0, 0))), some (.inl (nI e)), some (.inl (R)), some (.inl (nI m)), some (.inl (nI (cntN (ptF (fitA a) e m) n))), some (.inl (nI n))], [], mk Lz w) (Q) := by
  intro kk
  induction kk with
  | zero =>
    intro n h1 h2
    exact absurd h2 (by omega)
  | succ kk ih =>
    intro n hi1 hi2
    refine x_iload (pc' := 18) rfl rfl rfl (x_bipush (pc' := 20) rfl rfl ?_)
    refine x_icmp_geN (pc' := 23) rfl rfl (by omega) (by omega) (fun h20 => ?_) (fun h20 => ?_)
    · have e1 : n = 100 := by omega
      subst e1
      exact hQ
    · have hb := mkB_lt (show n < 100 by omega) he
      unfold mkB at hb
      refine x_iload (pc' := 25) rfl rfl rfl (x_iload (pc' := 27) rfl rfl rfl (x_bipush (pc' := 29) rfl rfl (x_idivN (pc' := 30) rfl rfl (by decide) (by omega) (by decide) (x_iload_n (pc' := 31) rfl rfl rfl (x_imulN (pc' := 32) rfl rfl ?_)))))
      refine x_iload (pc' := 34) rfl rfl rfl (x_bipush (pc' := 36) rfl rfl (x_iremN (pc' := 37) rfl rfl (by decide) (by omega) (by decide) (x_iaddN (pc' := 38) rfl rfl (x_iload_n (pc' := 39) rfl rfl rfl ?_))))
      refine x_icmp_neN (pc' := 42) rfl rfl (by omega) (by omega) (fun h39 => ?_) (fun h39 => ?_)
      · refine x_aload_n (pc' := 43) rfl rfl rfl (x_iload (pc' := 45) rfl rfl rfl (x_invI2 (pc' := 48) rfl rfl rfl rfl (c_X9_isSo hS hA _ (by omega)) ?_))
        refine x_if_eq (pc' := 51) rfl rfl (fun h48 => ?_) (fun h48 => ?_)
        · refine x_iconst (pc' := 56) rfl rfl (x_iadd (pc' := 57) rfl rfl (x_istore4 (pc' := 59) rfl rfl rfl (x_iinc5 (pc' := 62) rfl rfl rfl (nI_add _ _) (x_goto rfl ?_))))
          exact WPc (ih (n + 1) (by omega) (by omega)) (by first | rw [cntN_f (ptF_n (F := fitA a) (show ¬ mkB n e = m from h39)), add_0] | rw [cntN_f (ptF_0 (e := e) (m := m) (bI_eq0.mp h48)), add_0] | rw [cntN_t (ptF_t (bq h48) (show mkB n e = m from h39)), nI_add]) rfl
        · refine x_iconst (pc' := 52) rfl rfl (x_goto rfl (x_iadd (pc' := 57) rfl rfl (x_istore4 (pc' := 59) rfl rfl rfl (x_iinc5 (pc' := 62) rfl rfl rfl (nI_add _ _) (x_goto rfl ?_)))))
          exact WPc (ih (n + 1) (by omega) (by omega)) (by first | rw [cntN_f (ptF_n (F := fitA a) (show ¬ mkB n e = m from h39)), add_0] | rw [cntN_f (ptF_0 (e := e) (m := m) (bI_eq0.mp h48)), add_0] | rw [cntN_t (ptF_t (bq h48) (show mkB n e = m from h39)), nI_add]) rfl
      · refine x_iconst (pc' := 56) rfl rfl (x_iadd (pc' := 57) rfl rfl (x_istore4 (pc' := 59) rfl rfl rfl (x_iinc5 (pc' := 62) rfl rfl rfl (nI_add _ _) (x_goto rfl ?_))))
        exact WPc (ih (n + 1) (by omega) (by omega)) (by first | rw [cntN_f (ptF_n (F := fitA a) (show ¬ mkB n e = m from h39)), add_0] | rw [cntN_f (ptF_0 (e := e) (m := m) (bI_eq0.mp h48)), add_0] | rw [cntN_t (ptF_t (bq h48) (show mkB n e = m from h39)), nI_add]) rfl
set_option maxRecDepth 20000 in
theorem l_X9_partBy {l : Launch} {X : XT} {d Lz : Nat} {w : WF} {a : AS} (hS : SeM w a.sn a.se a.sm) (hA : a.sn ≤ 6 ∧ ∀ q, q < a.sn → a.se q < 10 ∧ a.sm q < 100) (e : Nat) (he : e < 10) : ∀ (kk n : Nat), ∀ (z1 z2 : Option AV),  n ≤ 100 → 100 + 1 ≤ n + kk → WP l X (d + 2) md_X9_partBy (4, [some (.inr (.inr (9, 0, 0))), some (.inl (nI e)), some (.inl (nI (mst (fun m => cntN (ptF (fitA a) e m) 100) n))), some (.inl (nI n)), z1, z2], [], mk Lz w) (fun v M' => v = some (.inl (nI (gpt (fitA a) e))) ∧ M' = mk Lz w) := by
  intro kk
  induction kk with
  | zero =>
    intro n z1 z2 h1 h2
    exact absurd h2 (by omega)
  | succ kk ih =>
    intro n z1 z2 hi1 hi2
    refine x_iload_n (pc' := 5) rfl rfl rfl (x_bipush (pc' := 7) rfl rfl ?_)
    refine x_icmp_geN (pc' := 10) rfl rfl (by omega) (by omega) (fun h7 => ?_) (fun h7 => ?_)
    · refine x_iload_n (pc' := 85) rfl rfl rfl ?_
      refine x_iret rfl rfl ?_
      have e1 : n = 100 := by omega
      subst e1
      exact rI rfl
    · refine x_iconst (pc' := 11) rfl rfl (x_istore4 (pc' := 13) rfl rfl rfl (x_iconst (pc' := 14) rfl rfl (x_istore5 (pc' := 16) rfl rfl rfl ?_)))
      have hc1 := cntN_le (ptF (fitA a) e n) 100
      have hc2 : mst (fun m => cntN (ptF (fitA a) e m) 100) n ≤ 100 := mst_le n (fun m _ => cntN_le _ 100)
      refine l_X9_partBy1 hS hA e n he (by omega) _ ?_ 101 0 (by omega) (by omega)
      refine x_iload (pc' := 67) rfl rfl rfl (x_iload_n (pc' := 68) rfl rfl rfl ?_)
      refine x_icmp_leN (pc' := 71) rfl rfl (by omega) (by omega) (fun h68 => ?_) (fun h68 => ?_)
      · refine x_iload_n (pc' := 77) rfl rfl rfl (x_istore_n2 (pc' := 78) rfl rfl rfl (x_iinc3 (pc' := 81) rfl rfl rfl (nI_add _ _) (x_goto rfl ?_)))
        exact WPc (ih (n + 1) _ _ (by omega) (by omega)) (by first | rw [show mst (fun m => cntN (ptF (fitA a) e m) 100) (n + 1) = mst (fun m => cntN (ptF (fitA a) e m) 100) n from Nat.max_eq_left h68] | rw [show mst (fun m => cntN (ptF (fitA a) e m) 100) (n + 1) = cntN (ptF (fitA a) e n) 100 from Nat.max_eq_right (show mst (fun m => cntN (ptF (fitA a) e m) 100) n ≤ cntN (ptF (fitA a) e n) 100 by omega)]) rfl
      · refine x_iload (pc' := 73) rfl rfl rfl (x_goto rfl (x_istore_n2 (pc' := 78) rfl rfl rfl (x_iinc3 (pc' := 81) rfl rfl rfl (nI_add _ _) (x_goto rfl ?_))))
        exact WPc (ih (n + 1) _ _ (by omega) (by omega)) (by first | rw [show mst (fun m => cntN (ptF (fitA a) e m) 100) (n + 1) = mst (fun m => cntN (ptF (fitA a) e m) 100) n from Nat.max_eq_left h68] | rw [show mst (fun m => cntN (ptF (fitA a) e m) 100) (n + 1) = cntN (ptF (fitA a) e n) 100 from Nat.max_eq_right (show mst (fun m => cntN (ptF (fitA a) e m) 100) n ≤ cntN (ptF (fitA a) e n) 100 by omega)]) rfl
set_option maxRecDepth 20000 in
theorem c_X9_partBy {l : Launch} {X : XT} {d Lz : Nat} {w : WF} {a : AS} (hS : SeM w a.sn a.se a.sm) (hA : a.sn ≤ 6 ∧ ∀ q, q < a.sn → a.se q < 10 ∧ a.sm q < 100) (e : Nat) (he : e < 10) : CT l X (d + 2) md_X9_partBy [.inr (.inr (9, 0, 0)), .inl (nI e)] (mk Lz w) (some (.inl (nI (gpt (fitA a) e)))) (mk Lz w) := by
  show WP l X _ md_X9_partBy (0, [some (.inr (.inr (9, 0, 0))), some (.inl (nI e)), none, none, none, none], [], _) _
  refine x_iconst (pc' := 1) rfl rfl (x_istore_n2 (pc' := 2) rfl rfl rfl (x_iconst (pc' := 3) rfl rfl (x_istore_n3 (pc' := 4) rfl rfl rfl ?_)))
  exact l_X9_partBy hS hA e he 101 0 _ _ (by omega) (by omega)
set_option maxRecDepth 20000 in
theorem l_X9_tryNext {l : Launch} {X : XT} {d Lz : Nat} {w : WF} {a : AS} (hS : SeM w a.sn a.se a.sm) (hA : a.sn ≤ 6 ∧ ∀ q, q < a.sn → a.se q < 10 ∧ a.sm q < 100) : ∀ (kk n : Nat), ∀ (z : Option AV),  n ≤ 10 → 10 + 1 ≤ n + kk → WP l X (d + 3) md_X9_tryNext (10, [some (.inr (.inr (9, 0, 0))), some (.inl (oI (tnx (fitA a) n).1)), some (.inl (nI (tnx (fitA a) n).2)), some (.inl (nI n)), z], [], mk Lz w) (fun v M' => v = some (.inl (f_tryNext a)) ∧ M' = mk Lz w) := by
  intro kk
  induction kk with
  | zero =>
    intro n z h1 h2
    exact absurd h2 (by omega)
  | succ kk ih =>
    intro n z hi1 hi2
    refine x_iload_n (pc' := 11) rfl rfl rfl (x_bipush (pc' := 13) rfl rfl ?_)
    refine x_icmp_geN (pc' := 16) rfl rfl (by omega) (by omega) (fun h13 => ?_) (fun h13 => ?_)
    · refine x_iload_n (pc' := 41) rfl rfl rfl ?_
      refine x_iret rfl rfl ?_
      have e : n = 10 := by omega
      subst e
      exact rI rfl
    · have hgl := gpt_le (fitA a) n
      have htl := (tnx_le (fitA a) n).1
      have hs : tnx (fitA a) (n + 1) = if gpt (fitA a) n < (tnx (fitA a) n).2 then (some n, gpt (fitA a) n) else tnx (fitA a) n := rfl
      refine x_aload_n (pc' := 17) rfl rfl rfl (x_iload_n (pc' := 18) rfl rfl rfl (x_invI2 (pc' := 21) rfl rfl rfl rfl (c_X9_partBy hS hA n (by omega)) ?_))
      refine x_istore4 (pc' := 23) rfl rfl rfl (x_iload (pc' := 25) rfl rfl rfl (x_iload_n (pc' := 26) rfl rfl rfl ?_))
      refine x_icmp_geN (pc' := 29) rfl rfl (by omega) (by omega) (fun h26 => ?_) (fun h26 => ?_)
      · refine x_iinc3 (pc' := 37) rfl rfl rfl (nI_add _ _) (x_goto rfl ?_)
        exact WPc (ih (n + 1) _ (by omega) (by omega)) (by first | (rw [hs, if_neg (by omega)]) | (rw [hs, if_pos (by omega)]; rfl)) rfl
      · refine x_iload_n (pc' := 30) rfl rfl rfl (x_istore_n1 (pc' := 31) rfl rfl rfl (x_iload (pc' := 33) rfl rfl rfl (x_istore_n2 (pc' := 34) rfl rfl rfl (x_iinc3 (pc' := 37) rfl rfl rfl (nI_add _ _) (x_goto rfl ?_)))))
        exact WPc (ih (n + 1) _ (by omega) (by omega)) (by first | (rw [hs, if_neg (by omega)]) | (rw [hs, if_pos (by omega)]; rfl)) rfl
set_option maxRecDepth 20000 in
theorem c_X9_tryNext {l : Launch} {X : XT} {d Lz : Nat} {w : WF} {a : AS} (hS : SeM w a.sn a.se a.sm) (hA : a.sn ≤ 6 ∧ ∀ q, q < a.sn → a.se q < 10 ∧ a.sm q < 100) : CT l X (d + 3) md_X9_tryNext [.inr (.inr (9, 0, 0))] (mk Lz w) (some (.inl (f_tryNext a))) (mk Lz w) := by
  show WP l X _ md_X9_tryNext (0, [some (.inr (.inr (9, 0, 0))), none, none, none, none], [], _) _
  refine x_iconst (pc' := 1) rfl rfl (x_istore_n1 (pc' := 2) rfl rfl rfl (x_aload_n (pc' := 3) rfl rfl rfl (x_iconst (pc' := 4) rfl rfl (x_invI2 (pc' := 7) rfl rfl rfl rfl (c_X9_truly hS hA 0 (by omega)) ?_))))
  refine x_istore_n2 (pc' := 8) rfl rfl rfl (x_iconst (pc' := 9) rfl rfl (x_istore_n3 (pc' := 10) rfl rfl rfl ?_))
  exact l_X9_tryNext hS hA 11 0 _ (by omega) (by omega)
theorem M_X9_tryNext {l : Launch} {X : XT} {d Lz : Nat} {w : WF} {a : AS} (h : MRel w a) (hV : AVl a) : okM l X (d + 8) Lz md_X9_tryNext [] w (f_tryNext a) a :=
  wp_cons (wp_mono (by omega) (c_X9_tryNext (d := d) h.2.2.2.2.2.1 hV.2.2.2.2.2.1)) (fun v M hq => by
    obtain ⟨rfl, rfl⟩ := hq
    exact ok_id rfl (fun _ _ _ _ _ => rfl) h)
set_option maxRecDepth 20000 in
theorem M_X9_truly {l : Launch} {X : XT} {d Lz : Nat} {w : WF} {a : AS} (h : MRel w a) (hV : AVl a) (x : Int32) : okM l X (d + 8) Lz md_X9_truly [.inl (x)] w (f_truly a x) (a) := by
  have hr := h
  obtain ⟨r1, r2, r3, r4, r5, r6, r7, r8, r9⟩ := h
  have hK := hV.1
  have hv7 := hK.1
  have hv4 := hK.2.1
  have hs := hV.2.1
  have hnp := r1.2.2.1
  have hno := r1.2.2.2.2.1
  show WP l X _ md_X9_truly (0, [some (.inr (.inr (9, 0, 0))), some (.inl (x)), none, none, none], [], _) _
  cases hb : inB x (nI 0) (nI 1) with
  | false =>
    refine x_iload_n (pc' := 1) rfl rfl rfl (x_iconst (pc' := 2) rfl rfl (x_iconst (pc' := 3) rfl rfl (x_invS3 (pc' := 6) rfl rfl rfl rfl rfl rfl (c_X9_in _ _ _) ?_)))
    refine x_if_ne (pc' := 9) rfl rfl (fun h6 => ?_) (fun h6 => absurd (by rw [hb]; rfl) h6)
    refine x_ldc (pc' := 11) rfl rfl ?_
    refine x_iret rfl rfl ?_
    exact ok_id (by unfold f_truly; rw [if_neg (fun e => by rw [e] at hb; revert hb; decide), if_neg (fun e => by rw [e] at hb; revert hb; decide)]) (fun _ _ _ _ _ => rfl) hr
  | true =>
    obtain ⟨m, -, hm, rfl⟩ := in_num (by omega) hb (by omega)
    refine wp_cons (wp_mono (by omega) (c_X9_truly (d := d) r6 hV.2.2.2.2.2.1 m (by omega))) (fun v M hq => ?_)
    obtain ⟨rfl, rfl⟩ := hq
    have h2 : m = 0 ∨ m = 1 := by omega
    rcases h2 with rfl | rfl
    · exact ok_id (rfl) (fun _ _ _ _ _ => rfl) hr
    · exact ok_id (rfl) (fun _ _ _ _ _ => rfl) hr
set_option maxRecDepth 20000 in
theorem l_X8_dry {l : Launch} {X : XT} {d Lz : Nat} {w : Nat → Nat → Nat → Nat → Int32} (m : Nat) (hm : m ≤ 60) (q : Int32) : ∀ (kk n : Nat),  n ≤ m → m + 1 ≤ n + kk → WP l X (d + 1) md_X8_dry (30, [some (.inr (.inr (8, 0, 0))), some (.inl (nI m)), some (.inl (q)), some (.inr (.inl (dryV q n))), none, some (.inl (nI n))], [], mk Lz w) (fun v M' => v = some (.inl ((dryV q m).toInt32)) ∧ M' = mk Lz w) := by
  intro kk
  induction kk with
  | zero =>
    intro n h1 h2
    exact absurd h2 (by omega)
  | succ kk ih =>
    intro n hi1 hi2
    refine x_iload (pc' := 32) rfl rfl rfl (x_iload_n (pc' := 33) rfl rfl rfl ?_)
    refine x_icmp_geN (pc' := 36) rfl rfl (by omega) (by omega) (fun h33 => ?_) (fun h33 => ?_)
    · refine x_lload_n (pc' := 52) rfl rfl rfl (x_l2i (pc' := 53) rfl rfl ?_)
      refine x_iret rfl rfl ?_
      have e : n = m := by omega
      subst e
      exact rI rfl
    · refine x_lload_n (pc' := 37) rfl rfl rfl (x_iload_n (pc' := 38) rfl rfl rfl (x_i2l (pc' := 39) rfl rfl (x_lmul (pc' := 40) rfl rfl (x_ldc2_w (pc' := 43) rfl rfl (x_ldiv (pc' := 44) rfl rfl (by decide) ?_)))))
      refine x_lstore_n3 (pc' := 45) rfl rfl rfl (x_iinc5 (pc' := 48) rfl rfl rfl (nI_add _ _) (x_goto rfl ?_))
      exact ih (n + 1) (by omega) (by omega)
set_option maxRecDepth 20000 in
theorem C_X8_dry {l : Launch} {X : XT} {d Lz : Nat} {w : WF} {a : AS} (h : CRel w a) (hV : AVl a) (n : Int32) (q : Int32) : okC l X (d + 7) Lz md_X8_dry [.inl (n), .inl (q)] w (f_dry n q) (a) := by
  have hr := h
  obtain ⟨r1, r2, r3, r4, r5, r6, r7, r8, r9, r10⟩ := h
  have hK := hV.1
  have hv7 := hK.1
  have hv4 := hK.2.1
  have hs := hV.2.1
  have hnp := r2.2.2.1
  show WP l X _ md_X8_dry (0, [some (.inr (.inr (8, 0, 0))), some (.inl (n)), some (.inl (q)), none, none, none], [], _) _
  refine x_iload_n (pc' := 1) rfl rfl rfl (x_iconst (pc' := 2) rfl rfl (x_bipush (pc' := 4) rfl rfl (x_invS3 (pc' := 7) rfl rfl rfl rfl rfl rfl (c_X8_isWithin _ _ _) ?_)))
  refine x_if_eq (pc' := 10) rfl rfl (fun h7 => ?_) (fun h7 => ?_)
  · refine x_ldc (pc' := 22) rfl rfl ?_
    refine x_iret rfl rfl ?_
    first | exact ok_id (by unfold f_dry; rw [bI_eq0.mp h7]; rfl) (fun _ _ _ _ _ => rfl) hr | exact ok_id (by unfold f_dry; rw [bq h7, bI_eq0.mp h17]; rfl) (fun _ _ _ _ _ => rfl) hr
  · refine x_iload_n (pc' := 11) rfl rfl rfl (x_iconst (pc' := 12) rfl rfl (x_bipush (pc' := 14) rfl rfl (x_invS3 (pc' := 17) rfl rfl rfl rfl rfl rfl (c_X8_isWithin _ _ _) ?_)))
    refine x_if_ne (pc' := 20) rfl rfl (fun h17 => ?_) (fun h17 => ?_)
    · refine x_ldc (pc' := 22) rfl rfl ?_
      refine x_iret rfl rfl ?_
      first | exact ok_id (by unfold f_dry; rw [bI_eq0.mp h7]; rfl) (fun _ _ _ _ _ => rfl) hr | exact ok_id (by unfold f_dry; rw [bq h7, bI_eq0.mp h17]; rfl) (fun _ _ _ _ _ => rfl) hr
    · obtain ⟨m, -, hm, rfl⟩ := in_num (by omega) (bq h7) (by omega)
      refine x_ldc2_w (pc' := 26) rfl rfl (x_lstore_n3 (pc' := 27) rfl rfl rfl (x_iconst (pc' := 28) rfl rfl (x_istore5 (pc' := 30) rfl rfl rfl ?_)))
      refine wp_cons (wp_mono (by omega) (l_X8_dry (d := d) m hm q (m + 1) 0 (by omega) (by omega))) (fun v M hq => ?_)
      obtain ⟨rfl, rfl⟩ := hq
      exact ok_id (by unfold f_dry; rw [bq h7, bq h17, ix_nI (by omega)]; rfl) (fun _ _ _ _ _ => rfl) hr
set_option maxRecDepth 20000 in
theorem l_X9_dry {l : Launch} {X : XT} {d Lz : Nat} {w : Nat → Nat → Nat → Nat → Int32} (m : Nat) (hm : m ≤ 60) (q : Int32) : ∀ (kk n : Nat),  n ≤ m → m + 1 ≤ n + kk → WP l X (d + 1) md_X9_dry (30, [some (.inr (.inr (9, 0, 0))), some (.inl (nI m)), some (.inl (q)), some (.inr (.inl (dryV q n))), none, some (.inl (nI n))], [], mk Lz w) (fun v M' => v = some (.inl ((dryV q m).toInt32)) ∧ M' = mk Lz w) := by
  intro kk
  induction kk with
  | zero =>
    intro n h1 h2
    exact absurd h2 (by omega)
  | succ kk ih =>
    intro n hi1 hi2
    refine x_iload (pc' := 32) rfl rfl rfl (x_iload_n (pc' := 33) rfl rfl rfl ?_)
    refine x_icmp_geN (pc' := 36) rfl rfl (by omega) (by omega) (fun h33 => ?_) (fun h33 => ?_)
    · refine x_lload_n (pc' := 52) rfl rfl rfl (x_l2i (pc' := 53) rfl rfl ?_)
      refine x_iret rfl rfl ?_
      have e : n = m := by omega
      subst e
      exact rI rfl
    · refine x_lload_n (pc' := 37) rfl rfl rfl (x_iload_n (pc' := 38) rfl rfl rfl (x_i2l (pc' := 39) rfl rfl (x_lmul (pc' := 40) rfl rfl (x_ldc2_w (pc' := 43) rfl rfl (x_ldiv (pc' := 44) rfl rfl (by decide) ?_)))))
      refine x_lstore_n3 (pc' := 45) rfl rfl rfl (x_iinc5 (pc' := 48) rfl rfl rfl (nI_add _ _) (x_goto rfl ?_))
      exact ih (n + 1) (by omega) (by omega)
set_option maxRecDepth 20000 in
theorem M_X9_dry {l : Launch} {X : XT} {d Lz : Nat} {w : WF} {a : AS} (h : MRel w a) (hV : AVl a) (n : Int32) (q : Int32) : okM l X (d + 8) Lz md_X9_dry [.inl (n), .inl (q)] w (f_dry n q) (a) := by
  have hr := h
  obtain ⟨r1, r2, r3, r4, r5, r6, r7, r8, r9⟩ := h
  have hK := hV.1
  have hv7 := hK.1
  have hv4 := hK.2.1
  have hs := hV.2.1
  have hnp := r1.2.2.1
  have hno := r1.2.2.2.2.1
  show WP l X _ md_X9_dry (0, [some (.inr (.inr (9, 0, 0))), some (.inl (n)), some (.inl (q)), none, none, none], [], _) _
  refine x_iload_n (pc' := 1) rfl rfl rfl (x_iconst (pc' := 2) rfl rfl (x_bipush (pc' := 4) rfl rfl (x_invS3 (pc' := 7) rfl rfl rfl rfl rfl rfl (c_X9_in _ _ _) ?_)))
  refine x_if_eq (pc' := 10) rfl rfl (fun h7 => ?_) (fun h7 => ?_)
  · refine x_ldc (pc' := 22) rfl rfl ?_
    refine x_iret rfl rfl ?_
    first | exact ok_id (by unfold f_dry; rw [bI_eq0.mp h7]; rfl) (fun _ _ _ _ _ => rfl) hr | exact ok_id (by unfold f_dry; rw [bq h7, bI_eq0.mp h17]; rfl) (fun _ _ _ _ _ => rfl) hr
  · refine x_iload_n (pc' := 11) rfl rfl rfl (x_iconst (pc' := 12) rfl rfl (x_bipush (pc' := 14) rfl rfl (x_invS3 (pc' := 17) rfl rfl rfl rfl rfl rfl (c_X9_in _ _ _) ?_)))
    refine x_if_ne (pc' := 20) rfl rfl (fun h17 => ?_) (fun h17 => ?_)
    · refine x_ldc (pc' := 22) rfl rfl ?_
      refine x_iret rfl rfl ?_
      first | exact ok_id (by unfold f_dry; rw [bI_eq0.mp h7]; rfl) (fun _ _ _ _ _ => rfl) hr | exact ok_id (by unfold f_dry; rw [bq h7, bI_eq0.mp h17]; rfl) (fun _ _ _ _ _ => rfl) hr
    · obtain ⟨m, -, hm, rfl⟩ := in_num (by omega) (bq h7) (by omega)
      refine x_ldc2_w (pc' := 26) rfl rfl (x_lstore_n3 (pc' := 27) rfl rfl rfl (x_iconst (pc' := 28) rfl rfl (x_istore5 (pc' := 30) rfl rfl rfl ?_)))
      refine wp_cons (wp_mono (by omega) (l_X9_dry (d := d) m hm q (m + 1) 0 (by omega) (by omega))) (fun v M hq => ?_)
      obtain ⟨rfl, rfl⟩ := hq
      exact ok_id (by unfold f_dry; rw [bq h7, bq h17, ix_nI (by omega)]; rfl) (fun _ _ _ _ _ => rfl) hr
