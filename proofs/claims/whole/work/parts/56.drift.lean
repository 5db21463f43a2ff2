/-! days by draws -/
noncomputable def wthA (K : Kg) (s : Sa) (sd : Nat) : Sa := if 0 < K.np then (s.setE (drw sd / 65536 % K.np) (nI (drw (drw sd) / 65536 % 10))).setR (bI (decide (drw (drw (drw sd)) / 65536 % 4 = 0))) else s.setR (bI (decide (drw sd / 65536 % 4 = 0)))
noncomputable def wsdA (K : Kg) (sd : Nat) : Nat := if 0 < K.np then drw (drw (drw sd)) else drw sd
theorem wsdA_lt (K : Kg) (sd : Nat) : wsdA K sd < 2 ^ 31 := by
  unfold wsdA
  split <;> exact drw_lt _
theorem SV_setR {s : Sa} {b : Bool} (h : SV s) : SV (s.setR (bI b)) := ⟨bI_01 b, h.2.1, h.2.2⟩
theorem SV_setE {s : Sa} {p : Nat} {v : Int32} (h : SV s) : SV (s.setE p v) := ⟨h.1, h.2.1, h.2.2⟩
theorem setR_dd (s : Sa) (v : Int32) : (s.setR v).dd = s.dd := rfl
theorem setE_dd (s : Sa) (p : Nat) (v : Int32) : (s.setE p v).dd = s.dd := rfl
theorem SV_wth {K : Kg} {s : Sa} {sd : Nat} (h : SV s) : SV (wthA K s sd) := by
  unfold wthA
  split
  · exact SV_setR (SV_setE h)
  · exact SV_setR h
theorem wth_dd (K : Kg) (s : Sa) (sd : Nat) : (wthA K s sd).dd = s.dd := by
  unfold wthA
  split
  · rw [setR_dd, setE_dd]
  · rw [setR_dd]
noncomputable def rstep (a : AS) : AS := a.rem (dayA a.K (wthA a.K a.s a.sd)) (wsdA a.K a.sd)
noncomputable def rit (a : AS) : Nat → AS
  | 0 => a
  | n + 1 => rstep (rit a n)
theorem rit_V {a : AS} (hV : AVl a) : ∀ n, a.s.dd + n ≤ 90030 → AVl (rit a n) ∧ (rit a n).s.dd = a.s.dd + n ∧ (rit a n).K = a.K
  | 0, _ => ⟨hV, rfl, rfl⟩
  | n + 1, h => by
    obtain ⟨h1, h2, h3⟩ := rit_V hV n (by omega)
    have e := wth_dd (rit a n).K (rit a n).s (rit a n).sd
    refine ⟨rem_V h1 ⟨SV_day (SV_wth h1.2.1.1), ?_⟩ (wsdA_lt _ _), ?_, h3⟩
    · show (wthA (rit a n).K (rit a n).s (rit a n).sd).dd + 1 ≤ 90030
      omega
    · show (wthA (rit a n).K (rit a n).s (rit a n).sd).dd + 1 = _
      omega
noncomputable def f_drift (a : AS) (n : Int32) : Int32 × AS := if wnd a n = 0 then (nI (rit a (ix n)).s.dd, rit a (ix n)) else (wnd a n, a)
set_option maxRecDepth 20000 in
theorem c_X8_draw {l : Launch} {X : XT} {d Lz : Nat} {w : Nat → Nat → Nat → Nat → Int32} (n sd : Nat) (hs : w 8 0 0 10 = nI sd) (hn : 1 ≤ n) (h31 : n < 2 ^ 31) : CT l X (d + 1) md_X8_draw [.inr (.inr (8, 0, 0)), .inl (nI n)] (mk Lz w) (some (.inl (nI (drw sd / 65536 % n)))) (mk Lz (u4 w 8 0 0 10 (nI (drw sd)))) := by
  show WP l X _ md_X8_draw (0, [some (.inr (.inr (8, 0, 0))), some (.inl (nI n))], [], _) _
  refine x_aload_n (pc' := 1) rfl rfl rfl (x_aload_n (pc' := 2) rfl rfl rfl (x_getI (pc' := 5) rfl rfl rfl ?_))
  rw [hs]
  refine x_ldc_w (pc' := 8) rfl rfl (x_imulN (pc' := 9) rfl rfl (x_sipush (pc' := 12) rfl rfl (x_iaddN (pc' := 13) rfl rfl (x_ldc_w (pc' := 16) rfl rfl (x_iand (pc' := 17) rfl rfl ?_)))))
  rw [and_mask, show (sd * 1103515245 + 12345) % 2147483648 = drw sd from (drw_eq sd).symm]
  refine x_putI (pc' := 20) rfl rfl rfl (x_iload_n (pc' := 21) rfl rfl rfl (x_iconst (pc' := 22) rfl rfl ?_))
  refine x_icmp_geN (pc' := 25) rfl rfl (by omega) (by omega) (fun h22 => ?_) (fun h22 => ?_)
  · refine x_aload_n (pc' := 30) rfl rfl rfl (x_getI (pc' := 33) rfl rfl rfl ?_)
    rw [u4_self]
    refine x_ldc_w (pc' := 36) rfl rfl (x_idivN (pc' := 37) rfl rfl (by decide) (drw_lt sd) (by decide) (x_iload_n (pc' := 38) rfl rfl rfl (x_iremN (pc' := 39) rfl rfl (by omega) (by have := drw_lt sd; omega) (by omega) ?_)))
    refine x_iret rfl rfl ?_
    first | exact rI rfl | exact absurd hn (by omega)
  · refine x_iconst (pc' := 26) rfl rfl (x_goto rfl ?_)
    refine x_iret rfl rfl ?_
    first | exact rI rfl | exact absurd hn (by omega)
set_option maxRecDepth 20000 in
theorem c_X9_draw {l : Launch} {X : XT} {d Lz : Nat} {w : Nat → Nat → Nat → Nat → Int32} (n sd : Nat) (hs : w 9 0 1 129 = nI sd) (hsd : sd < 2 ^ 31) (hn : 1 ≤ n) (h31 : n < 2 ^ 31) : CT l X (d + 1) md_X9_draw [.inr (.inr (9, 0, 0)), .inl (nI n)] (mk Lz w) (some (.inl (nI (drw sd / 65536 % n)))) (mk Lz (u4 w 9 0 1 129 (nI (drw sd)))) := by
  show WP l X _ md_X9_draw (0, [some (.inr (.inr (9, 0, 0))), some (.inl (nI n))], [], _) _
  refine x_aload_n (pc' := 1) rfl rfl rfl (x_getR (pc' := 4) (t := (9, _, 1)) rfl rfl rfl (x_sipush (pc' := 7) rfl rfl (x_aload_n (pc' := 8) rfl rfl rfl (x_getR (pc' := 11) (t := (9, _, 1)) rfl rfl rfl (x_sipush (pc' := 14) rfl rfl ?_)))))
  refine x_iald (pc' := 15) (N := 4420) rfl rfl rfl rfl (by first | assumption | omega) (by decide) ?_
  rw [hs]
  refine x_i2l (pc' := 16) rfl rfl (x_ldc2_w (pc' := 19) rfl rfl (x_lmul (pc' := 20) rfl rfl (x_ldc2_w (pc' := 23) rfl rfl (x_ladd (pc' := 24) rfl rfl (x_ldc2_w (pc' := 27) rfl rfl ?_)))))
  refine x_lrem (pc' := 28) rfl rfl (by decide) (x_l2i (pc' := 29) rfl rfl ?_)
  rw [lcg hsd]
  refine x_iast (pc' := 30) (N := 4420) rfl rfl rfl (by decide) rfl (by first | assumption | omega) (by decide) (x_aload_n (pc' := 31) rfl rfl rfl (x_getR (pc' := 34) (t := (9, _, 1)) rfl rfl rfl (x_sipush (pc' := 37) rfl rfl (x_iald (pc' := 38) (N := 4420) rfl rfl rfl rfl (by first | assumption | omega) (by decide) ?_))))
  rw [u4_self]
  refine x_ldc (pc' := 40) rfl rfl (x_idivN (pc' := 41) rfl rfl (by decide) (drw_lt sd) (by decide) (x_iload_n (pc' := 42) rfl rfl rfl (x_iremN (pc' := 43) rfl rfl (by omega) (by have := drw_lt sd; omega) (by omega) ?_)))
  refine x_iret rfl rfl ?_
  exact rI rfl
theorem z4 {n : Nat} (h : nI n = 0) (h4 : n < 4) : n = 0 := z0 h (by omega)
set_option maxRecDepth 20000 in
theorem r_X8_drawW {l : Launch} {X : XT} {d Lz : Nat} {w : Nat → Nat → Nat → Nat → Int32} {K : Kg} {s : Sa} (sd : Nat) (hV : KV K) (hK : KX w K) (h : RC w K 0 s) (hs : w 8 0 0 10 = nI sd) (s2 : Sa) (sd2 : Nat) (wn : WF) (h2 : RC wn K 0 s2) (hs2 : wn 8 0 0 10 = nI sd2) (hf : ∀ c i o q, ¬ (c = 6 ∧ i = 0) → ¬ (c = 8 ∧ i = 0 ∧ o = 0 ∧ q = 10) → wn c i o q = w c i o q) (e1 : wthA K s sd = s2.setR (bI (decide (drw sd2 / 65536 % 4 = 0)))) (e2 : wsdA K sd = drw sd2) (z : Option AV) : WP l X (d + 2) md_X8_drawWeatherAndEffort (37, [some (.inr (.inr (8, 0, 0))), z], [], mk Lz wn) (fun v M' => v = none ∧ ∃ w', M' = mk Lz w' ∧ RC w' K 0 (wthA K s sd) ∧ w' 8 0 0 10 = nI (wsdA K sd) ∧ (∀ c i o q, ¬ (c = 6 ∧ i = 0) → ¬ (c = 8 ∧ i = 0 ∧ o = 0 ∧ q = 10) → w' c i o q = w c i o q)) := by
  have h4 : drw sd2 / 65536 % 4 < 4 := Nat.mod_lt _ (by decide)
  refine x_aload_n (pc' := 38) rfl rfl rfl (x_getR (pc' := 41) (t := (6, 0, 0)) rfl rfl rfl (x_aload_n (pc' := 42) rfl rfl rfl (x_iconst (pc' := 43) rfl rfl (x_invI2 (pc' := 46) rfl rfl rfl rfl (c_X8_draw 4 sd2 hs2 (by omega) (by omega)) ?_))))
  refine x_if_ne (pc' := 49) rfl rfl (fun h46 => ?_) (fun h46 => ?_)
  · refine x_iconst (pc' := 50) rfl rfl (x_goto rfl (x_putZ (pc' := 57) rfl rfl rfl (by decide) ?_))
    refine x_vret rfl rfl ?_
    first | exact ⟨rfl, _, rfl, by rw [e1, bI_t (dT (z4 h46 h4))]; exact RC_setR (RC_cg (fun o q => by rw [u4_ne (by intro z; cases z)]) h2), by rw [u4_ne (by decide), u4_self, e2], fun c i o q a1 a2 => by rw [u4_ne (ne3 (by omega))]; unfold u4; rw [if_neg (by omega)]; exact hf c i o q a1 a2⟩ | exact ⟨rfl, _, rfl, by rw [e1, bI_f (dF (z1 h46))]; exact RC_setR (RC_cg (fun o q => by rw [u4_ne (by intro z; cases z)]) h2), by rw [u4_ne (by decide), u4_self, e2], fun c i o q a1 a2 => by rw [u4_ne (ne3 (by omega))]; unfold u4; rw [if_neg (by omega)]; exact hf c i o q a1 a2⟩
  · refine x_iconst (pc' := 54) rfl rfl (x_putZ (pc' := 57) rfl rfl rfl (by decide) ?_)
    refine x_vret rfl rfl ?_
    first | exact ⟨rfl, _, rfl, by rw [e1, bI_t (dT (z4 h46 h4))]; exact RC_setR (RC_cg (fun o q => by rw [u4_ne (by intro z; cases z)]) h2), by rw [u4_ne (by decide), u4_self, e2], fun c i o q a1 a2 => by rw [u4_ne (ne3 (by omega))]; unfold u4; rw [if_neg (by omega)]; exact hf c i o q a1 a2⟩ | exact ⟨rfl, _, rfl, by rw [e1, bI_f (dF (z1 h46))]; exact RC_setR (RC_cg (fun o q => by rw [u4_ne (by intro z; cases z)]) h2), by rw [u4_ne (by decide), u4_self, e2], fun c i o q a1 a2 => by rw [u4_ne (ne3 (by omega))]; unfold u4; rw [if_neg (by omega)]; exact hf c i o q a1 a2⟩
set_option maxRecDepth 20000 in
theorem c_X8_drawWeatherAndEffort {l : Launch} {X : XT} {d Lz : Nat} {w : Nat → Nat → Nat → Nat → Int32} {K : Kg} {s : Sa} (sd : Nat) (hV : KV K) (hK : KX w K) (h : RC w K 0 s) (hs : w 8 0 0 10 = nI sd) : WP l X (d + 2) md_X8_drawWeatherAndEffort (en md_X8_drawWeatherAndEffort [.inr (.inr (8, 0, 0))] (mk Lz w)) (fun v M' => v = none ∧ ∃ w', M' = mk Lz w' ∧ RC w' K 0 (wthA K s sd) ∧ w' 8 0 0 10 = nI (wsdA K sd) ∧ (∀ c i o q, ¬ (c = 6 ∧ i = 0) → ¬ (c = 8 ∧ i = 0 ∧ o = 0 ∧ q = 10) → w' c i o q = w c i o q)) := by
  have hv7 := hV.1
  show WP l X _ md_X8_drawWeatherAndEffort (0, [some (.inr (.inr (8, 0, 0))), none], [], _) _
  refine x_aload_n (pc' := 1) rfl rfl rfl (x_getR5 (pc' := 4) rfl rfl rfl (x_getI (pc' := 7) rfl rfl rfl ?_))
  rw [hK.2.2.1]
  refine x_if_le (pc' := 10) rfl rfl (fun h7 => ?_) (fun h7 => ?_)
  · exact r_X8_drawW sd hV hK h hs s sd w h hs (fun _ _ _ _ _ _ => rfl) (by unfold wthA; rw [if_neg (by have := (nI_leI (by omega) (by decide)).mp (show nI K.np ≤ nI 0 from h7); omega)]) (by unfold wsdA; rw [if_neg (by have := (nI_leI (by omega) (by decide)).mp (show nI K.np ≤ nI 0 from h7); omega)]) _
  · have hp : 0 < K.np := Nat.pos_of_ne_zero (fun e => h7 (by rw [e]; decide))
    have hlt : drw sd / 65536 % K.np < K.np := Nat.mod_lt _ hp
    refine x_aload_n (pc' := 11) rfl rfl rfl (x_aload_n (pc' := 12) rfl rfl rfl (x_getR5 (pc' := 15) rfl rfl rfl (x_getI (pc' := 18) rfl rfl rfl ?_)))
    rw [hK.2.2.1]
    refine x_invI2 (pc' := 21) rfl rfl rfl rfl (c_X8_draw K.np sd hs (by omega) (by omega)) ?_
    refine x_istore_n1 (pc' := 22) rfl rfl rfl (x_aload_n (pc' := 23) rfl rfl rfl (x_getR (pc' := 26) (t := (6, 0, 0)) rfl rfl rfl (x_getR (pc' := 29) (t := (6, _, 2)) rfl rfl rfl (x_iload_n (pc' := 30) rfl rfl rfl (x_aload_n (pc' := 31) rfl rfl rfl ?_)))))
    refine x_bipush (pc' := 33) rfl rfl (x_invI2 (pc' := 36) rfl rfl rfl rfl (c_X8_draw 10 (drw sd) (u4_self _ _ _ _ _ _) (by omega) (by omega)) ?_)
    refine x_iast (pc' := 37) (N := 7) rfl rfl rfl (by decide) rfl (by omega) (by decide) ?_
    exact r_X8_drawW sd hV hK h hs (s.setE (drw sd / 65536 % K.np) (nI (drw (drw sd) / 65536 % 10))) (drw (drw sd)) _ (RC_setE (RC_cg (fun o q => by rw [u4_ne (by intro z; cases z), u4_ne (by intro z; cases z)]) h)) (by rw [u4_ne (by decide), u4_self]) (fun c i o q a1 a2 => by rw [u4_ne (ne3 (by omega))]; unfold u4; rw [if_neg (by omega), if_neg (by omega)]) (by unfold wthA; rw [if_pos hp]) (by unfold wsdA; rw [if_pos hp]) _
set_option maxRecDepth 20000 in
theorem l_X8_drift {zz : Int32} {l : Launch} {X : XT} {d Lz : Nat} {w : WF} {a : AS} (hV : AVl a) (m : Nat) (hm : m ≤ 30) (hd : a.s.dd ≤ 90000) : ∀ (kk n : Nat), ∀ (wn : WF), CRel wn (rit a n) → (∀ c i o q, 9 ≤ c → wn c i o q = w c i o q) →  n ≤ m → m + 1 ≤ n + kk → WP l X (d + 5) md_X8_drift (14, [some (.inr (.inr (8, 0, 0))), some (.inl (nI m)), some (.inl (zz)), some (.inl (nI n))], [], mk Lz wn) (fun v M' => v = some (.inl (nI (rit a m).s.dd)) ∧ ∃ w', M' = mk Lz w' ∧ (∀ c i o q, 9 ≤ c → w' c i o q = w c i o q) ∧ CRel w' (rit a m)) := by
  intro kk
  induction kk with
  | zero =>
    intro n wn hi hy h1 h2
    exact absurd h2 (by omega)
  | succ kk ih =>
    intro n wn hi hy hi1 hi2
    refine x_iload_n (pc' := 15) rfl rfl rfl (x_iload_n (pc' := 16) rfl rfl rfl ?_)
    refine x_icmp_geN (pc' := 19) rfl rfl (by omega) (by omega) (fun h16 => ?_) (fun h16 => ?_)
    · refine x_aload_n (pc' := 56) rfl rfl rfl (x_getR (pc' := 59) (t := (6, 0, 0)) rfl rfl rfl (x_getI (pc' := 62) rfl rfl rfl ?_))
      rw [hi.2.2.1.2.2.2.2.2.2.1]
      refine x_iret rfl rfl ?_
      have e : n = m := by omega
      subst e
      exact ⟨rfl, _, rfl, hy, hi⟩
    · obtain ⟨v1, v2, v3⟩ := rit_V hV n (by omega)
      refine x_aload_n (pc' := 20) rfl rfl rfl (x_getR (pc' := 23) (t := (3, 0, 0)) rfl rfl rfl (x_aload_n (pc' := 24) rfl rfl rfl (x_getR (pc' := 27) (t := (6, 0, 0)) rfl rfl rfl (x_invQ2 (pc' := 30) rfl rfl rfl rfl (rem_C hi v1.2.1.1 v1.2.2.1.1) (fun vq Mq hq27 => ?_)))))
      obtain ⟨rfl, w1, rfl, h1, hx⟩ := hq27
      have q3 : RC w1 (rit a n).K 0 (rit a n).s := h1.2.2.1
      have q2 : KX w1 (rit a n).K := h1.2.1
      show WP l X _ md_X8_drift (30, _, [], _) _
      refine x_aload_n (pc' := 31) rfl rfl rfl (x_invQ1 (pc' := 34) rfl rfl rfl (c_X8_drawWeatherAndEffort (rit a n).sd v1.1 q2 q3 h1.2.2.2.2.2.1) (fun vq Mq hq31 => ?_))
      obtain ⟨rfl, w2, rfl, q4, q5, hf2⟩ := hq31
      have q6 : KX w2 (rit a n).K := KX_cg (fun i o q => hf2 4 i o q (by omega) (by omega)) (hf2 8 0 0 8 (by omega) (by omega)) q2
      show WP l X _ md_X8_drift (34, _, [], _) _
      refine x_aload_n (pc' := 35) rfl rfl rfl (x_getR (pc' := 38) (t := (6, 0, 0)) rfl rfl rfl (x_aload_n (pc' := 39) rfl rfl rfl (x_getR5 (pc' := 42) rfl rfl rfl (x_aload_n (pc' := 43) rfl rfl rfl (x_getR (pc' := 46) (t := (1, 0, 0)) rfl rfl rfl ?_)))))
      refine x_invQ3 (pc' := 49) rfl rfl rfl rfl rfl (a_X6_passDay 0 _ v1.1 q6 q4 (SV_wth v1.2.1.1) (by rw [wth_dd]; have := v1.2.1.2; omega)) (fun vq Mq hq46 => ?_)
      obtain ⟨rfl, w3, rfl, q7, hf⟩ := hq46
      show WP l X _ md_X8_drift (49, _, [], _) _
      refine x_iinc3 (pc' := 52) rfl rfl rfl (nI_add _ _) (x_goto rfl ?_)
      exact ih (n + 1) w3 (CRel_nw h1 (fun c i o q a1 a2 a3 => (hf c i o q a1 a2).trans (hf2 c i o q a2 a3)) q7 ((hf 8 0 0 10 (by omega) (by omega)).trans q5)) (fun c i o q hc => (hf c i o q (by omega) (by omega)).trans ((hf2 c i o q (by omega) (by omega)).trans ((hx c i o q hc).trans (hy c i o q hc)))) (by omega) (by omega)
set_option maxRecDepth 20000 in
theorem C_X8_drift {l : Launch} {X : XT} {d Lz : Nat} {w : WF} {a : AS} (h : CRel w a) (hV : AVl a) (n : Int32) : okC l X (d + 7) Lz md_X8_drift [.inl (n)] w ((f_drift a n).1) ((f_drift a n).2) := by
  have hr := h
  obtain ⟨r1, r2, r3, r4, r5, r6, r7, r8, r9, r10⟩ := h
  have hK := hV.1
  have hv7 := hK.1
  have hv4 := hK.2.1
  have hs := hV.2.1
  have hnp := r2.2.2.1
  show WP l X _ md_X8_drift (0, [some (.inr (.inr (8, 0, 0))), some (.inl (n)), none, none], [], _) _
  refine x_aload_n (pc' := 1) rfl rfl rfl (x_iload_n (pc' := 2) rfl rfl rfl (x_invI2 (pc' := 5) rfl rfl rfl rfl (c_X8_whyNoDays r2 r3 hs.2 _) ?_))
  refine x_istore_n2 (pc' := 6) rfl rfl rfl (x_iload_n (pc' := 7) rfl rfl rfl ?_)
  refine x_if_eq (pc' := 10) rfl rfl (fun h7 => ?_) (fun h7 => ?_)
  · obtain ⟨g1, g2, g3⟩ := wnd_0 h7
    have hw := h7
    obtain ⟨m, -, hm, rfl⟩ := in_num (by omega) g1 (by omega)
    refine x_iconst (pc' := 13) rfl rfl (x_istore_n3 (pc' := 14) rfl rfl rfl ?_)
    refine wp_cons (wp_mono (by omega) (l_X8_drift (d := d) hV m hm g3 (m + 1) 0 _ hr (fun _ _ _ _ _ => rfl) (by omega) (by omega))) (fun v M hq => ?_)
    obtain ⟨rfl, w2, rfl, hy, hi⟩ := hq
    exact ok_id (by unfold f_drift; rw [if_pos h7, ix_nI (by omega)]) hy (by unfold f_drift; rw [if_pos h7, ix_nI (by omega)]; exact hi)
  · refine x_iload_n (pc' := 11) rfl rfl rfl ?_
    refine x_iret rfl rfl ?_
    exact ok_id (by unfold f_drift; rw [if_neg h7]) (fun _ _ _ _ _ => rfl) (by unfold f_drift; rw [if_neg h7]; exact hr)
set_option maxRecDepth 20000 in
theorem r_X9_drift {l : Launch} {X : XT} {d Lz : Nat} {w : WF} {a : AS} (hV : AVl a) (m : Nat) (hm : m ≤ 30) (hd : a.s.dd ≤ 90000) (n : Nat) (hn : n < m) (ih : (∀ (wn : WF) (z : Option AV), MRel wn (rit a (n + 1)) → (∀ c i o q, c ≠ 9 → wn c i o q = w c i o q) → WP l X (d + 8) md_X9_drift (16, [some (.inr (.inr (9, 0, 0))), some (.inl (nI m)), some (.inl (nI (n + 1))), z], [], mk Lz wn) (fun v M' => v = some (.inl (nI (rit a m).s.dd)) ∧ ∃ w', M' = mk Lz w' ∧ (∀ c i o q, c ≠ 9 → w' c i o q = w c i o q) ∧ MRel w' (rit a m)))) (w1 : WF) (h1 : MRel w1 ((rit a n).rem (rit a n).s (rit a n).sd)) (hy : ∀ c i o q, c ≠ 9 → w1 c i o q = w c i o q) (s2 : Sa) (sd2 : Nat) (hsd : sd2 < 2 ^ 31) (w2 : WF) (hf : fr9 w1 w2) (hf2 : ∀ q, 130 ≤ q → w2 9 0 1 q = w1 9 0 1 q) (h2 : RR w2 (rit a n).K 0 s2) (hs2 : w2 9 0 1 129 = nI sd2) (e1 : wthA (rit a n).K (rit a n).s (rit a n).sd = s2.setR (bI (decide (drw sd2 / 65536 % 4 = 0)))) (e2 : wsdA (rit a n).K (rit a n).sd = drw sd2) (z : Option AV) : WP l X (d + 8) md_X9_drift (56, [some (.inr (.inr (9, 0, 0))), some (.inl (nI m)), some (.inl (nI n)), z], [], mk Lz w2) (fun v M' => v = some (.inl (nI (rit a m).s.dd)) ∧ ∃ w', M' = mk Lz w' ∧ (∀ c i o q, c ≠ 9 → w' c i o q = w c i o q) ∧ MRel w' (rit a m)) := by
  obtain ⟨v1, v2, v3⟩ := rit_V hV n (by omega)
  have h4 : drw sd2 / 65536 % 4 < 4 := Nat.mod_lt _ (by decide)
  have q2 : KM w1 (rit a n).K := h1.1
  refine x_aload_n (pc' := 57) rfl rfl rfl (x_getR (pc' := 60) (t := (9, _, 1)) rfl rfl rfl (x_bipush (pc' := 62) rfl rfl (x_aload_n (pc' := 63) rfl rfl rfl (x_iconst (pc' := 64) rfl rfl (x_invI2 (pc' := 67) rfl rfl rfl rfl (c_X9_draw 4 sd2 hs2 hsd (by omega) (by omega)) ?_)))))
  refine x_if_ne (pc' := 70) rfl rfl (fun h67 => ?_) (fun h67 => ?_)
  · refine x_iconst (pc' := 71) rfl rfl (x_goto rfl (x_iast (pc' := 76) (N := 4420) rfl rfl rfl (by decide) rfl (by first | assumption | omega) (by decide) ?_))
    have q4 : RR (u4 (u4 w2 9 0 1 129 (nI (drw sd2))) 9 0 1 46 (nI 1)) (rit a n).K 0 (wthA (rit a n).K (rit a n).s (rit a n).sd) := by
      rw [e1, bI_t (dT (z4 h67 h4))]
      exact RR_setR v1.1 (RR_cg (w := w2) (fun q _ _ => by rw [u4_k (by omega)]) v1.1 h2)
    refine x_aload_n (pc' := 77) rfl rfl rfl (x_iconst (pc' := 78) rfl rfl (x_invQ2 (pc' := 81) rfl rfl rfl rfl (a_X9_dayIn 0 (by omega) v1.1 (KM_fr9 (KM_fr9 q2 hf) (((fr9.rf w2).u _ _).u _ _)) q4 (SV_wth v1.2.1.1) (by rw [wth_dd]; have := v1.2.1.2; omega)) (fun vq Mq hq78 => ?_)))
    obtain ⟨rfl, w3, rfl, q7, hf3⟩ := hq78
    show WP l X _ md_X9_drift (81, _, [], _) _
    refine x_iinc2 (pc' := 84) rfl rfl rfl (nI_add _ _) (x_goto rfl ?_)
    refine ih w3 _ (MRel_nw v1.1 h1 (hf.tr ((((fr9.rf w2).u _ _).u _ _).tr hf3.1)) (fun q hq => ?_) q7 ?_) (fun c i o q hc => ?_)
    · rw [hf3.2 q (by omega), u4_k (by omega), u4_k (by omega)]; exact hf2 q hq
    · rw [hf3.2 129 (by omega), u4_k (by omega), u4_self, e2]
    · rw [hf3.1 c i o q (by omega), u4_ne (ne3 (by omega)), u4_ne (ne3 (by omega)), hf c i o q (by omega)]; exact hy c i o q hc
  · refine x_iconst (pc' := 75) rfl rfl (x_iast (pc' := 76) (N := 4420) rfl rfl rfl (by decide) rfl (by first | assumption | omega) (by decide) ?_)
    have q4 : RR (u4 (u4 w2 9 0 1 129 (nI (drw sd2))) 9 0 1 46 (nI 0)) (rit a n).K 0 (wthA (rit a n).K (rit a n).s (rit a n).sd) := by
      rw [e1, bI_f (dF (z1 h67))]
      exact RR_setR v1.1 (RR_cg (w := w2) (fun q _ _ => by rw [u4_k (by omega)]) v1.1 h2)
    refine x_aload_n (pc' := 77) rfl rfl rfl (x_iconst (pc' := 78) rfl rfl (x_invQ2 (pc' := 81) rfl rfl rfl rfl (a_X9_dayIn 0 (by omega) v1.1 (KM_fr9 (KM_fr9 q2 hf) (((fr9.rf w2).u _ _).u _ _)) q4 (SV_wth v1.2.1.1) (by rw [wth_dd]; have := v1.2.1.2; omega)) (fun vq Mq hq78 => ?_)))
    obtain ⟨rfl, w3, rfl, q7, hf3⟩ := hq78
    show WP l X _ md_X9_drift (81, _, [], _) _
    refine x_iinc2 (pc' := 84) rfl rfl rfl (nI_add _ _) (x_goto rfl ?_)
    refine ih w3 _ (MRel_nw v1.1 h1 (hf.tr ((((fr9.rf w2).u _ _).u _ _).tr hf3.1)) (fun q hq => ?_) q7 ?_) (fun c i o q hc => ?_)
    · rw [hf3.2 q (by omega), u4_k (by omega), u4_k (by omega)]; exact hf2 q hq
    · rw [hf3.2 129 (by omega), u4_k (by omega), u4_self, e2]
    · rw [hf3.1 c i o q (by omega), u4_ne (ne3 (by omega)), u4_ne (ne3 (by omega)), hf c i o q (by omega)]; exact hy c i o q hc
set_option maxRecDepth 20000 in
theorem l_X9_drift {l : Launch} {X : XT} {d Lz : Nat} {w : WF} {a : AS} (hV : AVl a) (m : Nat) (hm : m ≤ 30) (hd : a.s.dd ≤ 90000) : ∀ (kk n : Nat), ∀ (wn : WF) (z : Option AV), MRel wn (rit a n) → (∀ c i o q, c ≠ 9 → wn c i o q = w c i o q) →  n ≤ m → m + 1 ≤ n + kk → WP l X (d + 8) md_X9_drift (16, [some (.inr (.inr (9, 0, 0))), some (.inl (nI m)), some (.inl (nI n)), z], [], mk Lz wn) (fun v M' => v = some (.inl (nI (rit a m).s.dd)) ∧ ∃ w', M' = mk Lz w' ∧ (∀ c i o q, c ≠ 9 → w' c i o q = w c i o q) ∧ MRel w' (rit a m)) := by
  intro kk
  induction kk with
  | zero =>
    intro n wn z hi hy h1 h2
    exact absurd h2 (by omega)
  | succ kk ih =>
    intro n wn z hi hy hi1 hi2
    refine x_iload_n (pc' := 17) rfl rfl rfl (x_iload_n (pc' := 18) rfl rfl rfl ?_)
    refine x_icmp_geN (pc' := 21) rfl rfl (by omega) (by omega) (fun h18 => ?_) (fun h18 => ?_)
    · refine x_aload_n (pc' := 88) rfl rfl rfl (x_getR (pc' := 91) (t := (9, _, 1)) rfl rfl rfl (x_bipush (pc' := 93) rfl rfl (x_iald (pc' := 94) (N := 4420) rfl rfl rfl rfl (by first | assumption | omega) (by decide) ?_)))
      rw [show wn 9 0 1 47 = nI (rit a n).s.dd from hi.2.1.2.2.2.2.2.2.1]
      refine x_iret rfl rfl ?_
      have e : n = m := by omega
      subst e
      exact ⟨rfl, _, rfl, hy, hi⟩
    · obtain ⟨v1, v2, v3⟩ := rit_V hV n (by omega)
      refine x_aload_n (pc' := 22) rfl rfl rfl (x_invQ1 (pc' := 25) rfl rfl rfl (rem_M hi v1.1 v1.2.2.1.1) (fun vq Mq hq22 => ?_))
      obtain ⟨rfl, w1, rfl, h1, hx⟩ := hq22
      have q3 : RR w1 (rit a n).K 0 (rit a n).s := h1.2.1
      have q2 : KM w1 (rit a n).K := h1.1
      have q5 : w1 9 0 1 129 = nI (rit a n).sd := h1.2.2.2.2.1
      have hsd : (rit a n).sd < 2 ^ 31 := v1.2.2.2.2.1
      have hv7 := v1.1.1
      have ihn := fun wn z => ih (n + 1) wn z
      show WP l X _ md_X9_drift (25, _, [], _) _
      refine x_aload_n (pc' := 26) rfl rfl rfl (x_getI (pc' := 29) rfl rfl rfl ?_)
      rw [q2.2.2.1]
      refine x_if_le (pc' := 32) rfl rfl (fun h29 => ?_) (fun h29 => ?_)
      · exact r_X9_drift hV m hm hd n (by omega) (fun wn z a1 a2 => ih (n + 1) wn z a1 a2 (by omega) (by omega)) w1 h1 (fun c i o q hc => (hx c i o q hc).trans (hy c i o q hc)) (rit a n).s (rit a n).sd hsd w1 (fr9.rf w1) (fun _ _ => rfl) q3 q5 (by unfold wthA; rw [if_neg (by have := (nI_leI (by omega) (by decide)).mp (show nI (rit a n).K.np ≤ nI 0 from h29); omega)]) (by unfold wsdA; rw [if_neg (by have := (nI_leI (by omega) (by decide)).mp (show nI (rit a n).K.np ≤ nI 0 from h29); omega)]) _
      · have hp : 0 < (rit a n).K.np := Nat.pos_of_ne_zero (fun e => h29 (by rw [e]; decide))
        have hlt : drw (rit a n).sd / 65536 % (rit a n).K.np < (rit a n).K.np := Nat.mod_lt _ hp
        refine x_aload_n (pc' := 33) rfl rfl rfl (x_aload_n (pc' := 34) rfl rfl rfl (x_getI (pc' := 37) rfl rfl rfl ?_))
        rw [q2.2.2.1]
        refine x_invI2 (pc' := 40) rfl rfl rfl rfl (c_X9_draw (rit a n).K.np (rit a n).sd q5 hsd (by omega) (by omega)) ?_
        refine x_istore_n3 (pc' := 41) rfl rfl rfl (x_aload_n (pc' := 42) rfl rfl rfl (x_getR (pc' := 45) (t := (9, _, 1)) rfl rfl rfl (x_bipush (pc' := 47) rfl rfl (x_iload_n (pc' := 48) rfl rfl rfl (x_iaddN (pc' := 49) rfl rfl ?_)))))
        refine x_aload_n (pc' := 50) rfl rfl rfl (x_bipush (pc' := 52) rfl rfl (x_invI2 (pc' := 55) rfl rfl rfl rfl (c_X9_draw 10 (drw (rit a n).sd) (u4_self _ _ _ _ _ _) (drw_lt _) (by omega) (by omega)) ?_))
        refine x_iast (pc' := 56) (N := 4420) rfl rfl rfl (by decide) rfl (by omega) (by decide) ?_
        exact r_X9_drift hV m hm hd n (by omega) (fun wn z a1 a2 => ih (n + 1) wn z a1 a2 (by omega) (by omega)) w1 h1 (fun c i o q hc => (hx c i o q hc).trans (hy c i o q hc)) ((rit a n).s.setE (drw (rit a n).sd / 65536 % (rit a n).K.np) (nI (drw (drw (rit a n).sd) / 65536 % 10))) (drw (drw (rit a n).sd)) (drw_lt _) _ ((((fr9.rf w1).u _ _).u _ _).u _ _) (fun q hq => by rw [u4_k (by omega), u4_k (by omega), u4_k (by omega)]) (by have hz := RR_setE (p := drw (rit a n).sd / 65536 % (rit a n).K.np) (v := nI (drw (drw (rit a n).sd) / 65536 % 10)) v1.1 (RR_cg (w := w1) (w' := u4 (u4 w1 9 0 1 129 (nI (drw (rit a n).sd))) 9 0 1 129 (nI (drw (drw (rit a n).sd)))) (fun q _ _ => by rw [u4_k (by omega), u4_k (by omega)]) v1.1 q3) (by omega); rw [show 0 + 21 + drw (rit a n).sd / 65536 % (rit a n).K.np = 21 + drw (rit a n).sd / 65536 % (rit a n).K.np by omega] at hz; exact hz) (by rw [u4_k (by omega), u4_self]) (by unfold wthA; rw [if_pos hp]) (by unfold wsdA; rw [if_pos hp]) _
set_option maxRecDepth 20000 in
theorem M_X9_drift {l : Launch} {X : XT} {d Lz : Nat} {w : WF} {a : AS} (h : MRel w a) (hV : AVl a) (n : Int32) : okM l X (d + 8) Lz md_X9_drift [.inl (n)] w ((f_drift a n).1) ((f_drift a n).2) := by
  have hr := h
  obtain ⟨r1, r2, r3, r4, r5, r6, r7, r8, r9⟩ := h
  have hK := hV.1
  have hv7 := hK.1
  have hv4 := hK.2.1
  have hs := hV.2.1
  have hnp := r1.2.2.1
  have hno := r1.2.2.2.2.1
  show WP l X _ md_X9_drift (0, [some (.inr (.inr (9, 0, 0))), some (.inl (n)), none, none], [], _) _
  refine x_aload_n (pc' := 1) rfl rfl rfl (x_iload_n (pc' := 2) rfl rfl rfl (x_invI2 (pc' := 5) rfl rfl rfl rfl (c_X9_whyNot r1 r2 hs.2 _) ?_))
  refine x_if_ge (pc' := 8) rfl rfl (fun h5 => ?_) (fun h5 => ?_)
  · have hw : wnd a n = 0 := Decidable.byContradiction (fun e => by
      have h6 := wnd_n e
      unfold wnm at h5
      rw [if_neg e] at h5
      exact Int32.not_lt.mpr h5 h6)
    obtain ⟨g1, g2, g3⟩ := wnd_0 hw
    obtain ⟨m, -, hm, rfl⟩ := in_num (by omega) g1 (by omega)
    refine x_iconst (pc' := 15) rfl rfl (x_istore_n2 (pc' := 16) rfl rfl rfl ?_)
    refine wp_cons (l_X9_drift (d := d) hV m hm g3 (m + 1) 0 _ _ hr (fun _ _ _ _ _ => rfl) (by omega) (by omega)) (fun v M hq => ?_)
    obtain ⟨rfl, w2, rfl, hy, hi⟩ := hq
    exact ok_id (by unfold f_drift; rw [if_pos hw, ix_nI (by omega)]) hy (by unfold f_drift; rw [if_pos hw, ix_nI (by omega)]; exact hi)
  · refine x_aload_n (pc' := 9) rfl rfl rfl (x_iload_n (pc' := 10) rfl rfl rfl (x_invI2 (pc' := 13) rfl rfl rfl rfl (c_X9_whyNot r1 r2 hs.2 _) ?_))
    refine x_iret rfl rfl ?_
    have hw : ¬ wnd a n = 0 := fun e => h5 (by unfold wnm; rw [if_pos e]; decide)
    exact ok_id (by unfold f_drift wnm; rw [if_neg hw, if_neg hw]) (fun _ _ _ _ _ => rfl) (by unfold f_drift; rw [if_neg hw]; exact hr)
