/-! days -/
theorem drw_ex : ∃ f : Nat → Nat, ∀ sd, f sd = (sd * 1103515245 + 12345) % 2147483648 := ⟨fun sd => (sd * 1103515245 + 12345) % 2147483648, fun _ => rfl⟩
/-- the next seed (chosen, so that nobody unfolds it) -/
noncomputable def drw : Nat → Nat := Classical.choose drw_ex
theorem drw_eq (sd : Nat) : drw sd = (sd * 1103515245 + 12345) % 2147483648 := Classical.choose_spec drw_ex sd
theorem drw_lt (sd : Nat) : drw sd < 2 ^ 31 := by
  rw [drw_eq]; exact Nat.mod_lt _ (by decide)
theorem nI_bit (n i : Nat) (hi : i < 32) : (nI n).toBitVec.getLsbD i = n.testBit i := by
  show (Int32.ofNat n).toBitVec.getLsbD i = _
  rw [Int32.toBitVec_ofNat', BitVec.getLsbD_ofNat]
  simp [hi]
theorem and_mask (n : Nat) : nI n &&& nI 2147483647 = nI (n % 2147483648) := by
  apply i32_ext
  intro i hi
  rw [and_bit, nI_bit _ _ hi, nI_bit _ _ hi, nI_bit _ _ hi, show (2147483648 : Nat) = 2 ^ 31 from rfl, Nat.testBit_mod_two_pow, show (2147483647 : Nat) = 2 ^ 31 - 1 from rfl, Nat.testBit_two_pow_sub_one, Bool.and_comm]
theorem bmL {z : Int} (h1 : -9223372036854775808 ≤ z) (h2 : z < 9223372036854775808) : z.bmod (2 ^ 64) = z := by
  rw [Int.bmod_eq_of_le (by omega) (by omega)]
theorem lcg {sd : Nat} (h : sd < 2 ^ 31) : (((nI sd).toInt64 * 1103515245 + 12345) - ((nI sd).toInt64 * 1103515245 + 12345) / 2147483648 * 2147483648).toInt32 = nI (drw sd) := by
  have h1 : ((nI sd).toInt64).toInt = sd := by rw [Int32.toInt_toInt64, nI_toInt h]
  have c1 : (1103515245 : Int64).toInt = 1103515245 := by decide
  have c2 : (12345 : Int64).toInt = 12345 := by decide
  have c3 : (2147483648 : Int64).toInt = 2147483648 := by decide
  have hv : ((nI sd).toInt64 * 1103515245 + 12345).toInt = sd * 1103515245 + 12345 := by
    rw [Int64.toInt_add, Int64.toInt_mul, h1, c1, c2, show ((sd : Int) * 1103515245).bmod (2 ^ 64) = sd * 1103515245 from bmL (by omega) (by omega), bmL (by omega) (by omega)]
  generalize (nI sd).toInt64 * 1103515245 + 12345 = v at hv
  have hd : (v / 2147483648).toInt = (sd * 1103515245 + 12345) / 2147483648 := by
    rw [Int64.toInt_div_of_ne_right _ _ (by decide), hv, c3, Int.tdiv_eq_ediv_of_nonneg (by omega)]
  have hr : (v - v / 2147483648 * 2147483648).toInt = ((sd * 1103515245 + 12345) % 2147483648 : Nat) := by
    rw [Int64.toInt_sub, Int64.toInt_mul, hv, hd, c3, show (((sd : Int) * 1103515245 + 12345) / 2147483648 * 2147483648).bmod (2 ^ 64) = ((sd : Int) * 1103515245 + 12345) / 2147483648 * 2147483648 from bmL (by omega) (by omega), bmL (by omega) (by omega)]
    omega
  apply Int32.toInt_inj.mp
  rw [nI_toInt (drw_lt sd), Int64.toInt_toInt32, hr, drw_eq]
  rw [Int.bmod_eq_of_le (by omega) (by omega)]
def wnd (a : AS) (n : Int32) : Int32 := bif inB n (nI 1) (nI 30) then (if a.K.law = -1 then NOTT else if 90000 < a.s.dd then FULLL else nI 0) else OUTS
theorem wnd_0 {a : AS} {n : Int32} (h : wnd a n = 0) : inB n (nI 1) (nI 30) = true ∧ ¬ a.K.law = -1 ∧ a.s.dd ≤ 90000 := by
  unfold wnd at h
  cases hb : inB n (nI 1) (nI 30) with
  | false => rw [hb] at h; exact absurd (show OUTS = 0 from h) (by decide)
  | true =>
    rw [hb] at h
    refine ⟨rfl, ?_⟩
    by_cases z : a.K.law = -1
    · rw [if_pos z] at h; exact absurd (show NOTT = 0 from h) (by decide)
    · rw [if_neg z] at h
      by_cases y : 90000 < a.s.dd
      · rw [if_pos y] at h; exact absurd (show FULLL = 0 from h) (by decide)
      · exact ⟨z, by omega⟩
theorem wnd_n {a : AS} {n : Int32} (h : ¬ wnd a n = 0) : wnd a n < 0 := by
  unfold wnd at h ⊢
  cases hb : inB n (nI 1) (nI 30) with
  | false => exact (by decide : (-1000000002 : Int32) < 0)
  | true =>
    rw [hb] at h
    by_cases z : a.K.law = -1
    · rw [if_pos z]; exact (by decide : (-1000000003 : Int32) < 0)
    · rw [if_neg z] at h ⊢
      by_cases y : 90000 < a.s.dd
      · rw [if_pos y]; exact (by decide : (-1000000004 : Int32) < 0)
      · rw [if_neg y] at h; exact absurd rfl h
def dstep (a : AS) : AS := a.rem (dayA a.K a.s) a.sd
def dit (a : AS) : Nat → AS
  | 0 => a
  | n + 1 => dstep (dit a n)
theorem psh_V {n : Nat} {pa : Nat → Sa} {s : Sa} (h30 : n ≤ 30) (h : ∀ m, m < n → SW (pa m)) (hs : SW s) : min (n + 1) 30 ≤ 30 ∧ ∀ m, m < min (n + 1) 30 → SW (psh n pa s m) := by
  refine ⟨by omega, fun m hm => ?_⟩
  unfold psh
  by_cases z : n = 30
  · rw [if_pos z]
    by_cases y : m = 29
    · rw [if_pos y]; exact hs
    · rw [if_neg y]; exact h _ (by omega)
  · rw [if_neg z]
    by_cases y : m = n
    · rw [if_pos y]; exact hs
    · rw [if_neg y]; exact h _ (by omega)
theorem rem_V {a : AS} {s : Sa} {sd : Nat} (hV : AVl a) (hs : SW s) (hd : sd < 2 ^ 31) : AVl (a.rem s sd) := by
  obtain ⟨v1, v2, v3, v4, v5, v6, v7, v8⟩ := hV
  exact ⟨v1, hs, psh_V v3.1 v3.2 v2, v4, hd, v6, v7, v8⟩
theorem dit_V {a : AS} (hV : AVl a) : ∀ n, a.s.dd + n ≤ 90030 → AVl (dit a n) ∧ (dit a n).s.dd = a.s.dd + n ∧ (dit a n).K = a.K
  | 0, _ => ⟨hV, rfl, rfl⟩
  | n + 1, h => by
    obtain ⟨h1, h2, h3⟩ := dit_V hV n (by omega)
    refine ⟨rem_V h1 ⟨SV_day h1.2.1.1, ?_⟩ h1.2.2.2.2.1, ?_, h3⟩
    · show (dit a n).s.dd + 1 ≤ 90030
      omega
    · show (dit a n).s.dd + 1 = _
      omega
def f_day (a : AS) (n : Int32) : Int32 × AS := if wnd a n = 0 then (nI (dit a (ix n)).s.dd, dit a (ix n)) else (wnd a n, a)
theorem CRel_nw {w1 w3 : WF} {a : AS} {s s' : Sa} {sd sd' : Nat} (h1 : CRel w1 (a.rem s sd)) (hf : ∀ c i o q, c ≠ 1 → ¬ (c = 6 ∧ i = 0) → ¬ (c = 8 ∧ i = 0 ∧ o = 0 ∧ q = 10) → w3 c i o q = w1 c i o q) (h0 : RC w3 a.K 0 s') (hs : w3 8 0 0 10 = nI sd') : CRel w3 (a.rem s' sd') :=
  CRel_D (a := a.rem s sd) h1 (fun c i o q h1 _ h3 _ _ h6 => hf c i o q h1 (by omega) (by omega)) h0 (PaC_cg (fun q => hf 3 0 0 q (by omega) (by omega) (by omega)) (fun i o q _ _ => hf 6 i o q (by omega) (by omega) (by omega)) h1.2.2.2.1) hs
theorem MRel_nw {w1 w2 : WF} {a : AS} {s s' : Sa} {sd sd' : Nat} (hK : KV a.K) (h1 : MRel w1 (a.rem s sd)) (hf : fr9 w1 w2) (hf2 : ∀ q, 130 ≤ q → w2 9 0 1 q = w1 9 0 1 q) (h0 : RR w2 a.K 0 s') (hs : w2 9 0 1 129 = nI sd') : MRel w2 (a.rem s' sd') :=
  MRel_D (a := a.rem s sd) hK h1 ⟨fun i o q hn => hf 9 i o q (by omega), fun q _ => hf 9 0 0 q (by omega), fun q hq _ => hf2 q (by omega)⟩ h0 (PaM_cg (hf 9 0 0 9 (by omega)) (fun q hq => hf2 q (by omega)) hK h1.2.2.1) hs
set_option maxRecDepth 20000 in
theorem c_X8_whyNoDays {l : Launch} {X : XT} {d Lz : Nat} {w : WF} {a : AS} (hK : KX w a.K) (h : RC w a.K 0 a.s) (hd : a.s.dd ≤ 90030) (x : Int32) : CT l X (d + 2) md_X8_whyNoDays [.inr (.inr (8, 0, 0)), .inl (x)] (mk Lz w) (some (.inl (wnd a x))) (mk Lz w) := by
  show WP l X _ md_X8_whyNoDays (0, [some (.inr (.inr (8, 0, 0))), some (.inl (x))], [], _) _
  refine x_iload_n (pc' := 1) rfl rfl rfl (x_iconst (pc' := 2) rfl rfl (x_bipush (pc' := 4) rfl rfl (x_invS3 (pc' := 7) rfl rfl rfl rfl rfl rfl (c_X8_isWithin _ _ _) ?_)))
  refine x_if_ne (pc' := 10) rfl rfl (fun h7 => ?_) (fun h7 => ?_)
  · refine x_ldc (pc' := 12) rfl rfl ?_
    refine x_iret rfl rfl ?_
    exact rI (by unfold wnd; rw [bI_eq0.mp h7]; rfl)
  · refine x_aload_n (pc' := 14) rfl rfl rfl (x_getR5 (pc' := 17) rfl rfl rfl (x_invI1 (pc' := 20) rfl rfl rfl (c_X4_isThere _) ?_))
    rw [hK.1]
    refine x_if_ne (pc' := 23) rfl rfl (fun h20 => ?_) (fun h20 => ?_)
    · refine x_ldc (pc' := 25) rfl rfl ?_
      refine x_iret rfl rfl ?_
      exact rI (by unfold wnd; rw [bq h7, if_pos (Decidable.not_not.mp (of_decide_eq_false (bI_eq0.mp h20)))]; rfl)
    · refine x_aload_n (pc' := 27) rfl rfl rfl (x_getR (pc' := 30) (t := (6, 0, 0)) rfl rfl rfl (x_getI (pc' := 33) rfl rfl rfl ?_))
      rw [h.2.2.2.2.2.2.1]
      refine x_ldc_w (pc' := 36) rfl rfl ?_
      refine x_icmp_leN (pc' := 39) rfl rfl (by omega) (by omega) (fun h36 => ?_) (fun h36 => ?_)
      · refine x_iconst (pc' := 45) rfl rfl ?_
        refine x_iret rfl rfl ?_
        have hl := of_decide_eq_true (bq h20)
        first | exact rI (by unfold wnd; rw [bq h7, if_neg hl, if_neg (by omega)]; rfl) | exact rI (by unfold wnd; rw [bq h7, if_neg hl, if_pos (by omega)]; rfl)
      · refine x_ldc (pc' := 41) rfl rfl (x_goto rfl ?_)
        refine x_iret rfl rfl ?_
        have hl := of_decide_eq_true (bq h20)
        first | exact rI (by unfold wnd; rw [bq h7, if_neg hl, if_neg (by omega)]; rfl) | exact rI (by unfold wnd; rw [bq h7, if_neg hl, if_pos (by omega)]; rfl)
def wnm (a : AS) (n : Int32) : Int32 := if wnd a n = 0 then nI 1 else wnd a n
theorem wnm_of {a : AS} {n r : Int32} (h : r = if wnd a n = 0 then nI 1 else wnd a n) : r = wnm a n := h
theorem wnm_1 {a : AS} {n r : Int32} (h : wnd a n = r) (hr : ¬ r = 0) : r = wnm a n := by unfold wnm; rw [h, if_neg hr]
theorem wnm_2 {a : AS} {n : Int32} (h : wnd a n = nI 0) : nI 1 = wnm a n := by unfold wnm; rw [if_pos (show wnd a n = 0 from h)]
set_option maxRecDepth 20000 in
theorem c_X9_whyNot {l : Launch} {X : XT} {d Lz : Nat} {w : WF} {a : AS} (hK : KM w a.K) (h : RR w a.K 0 a.s) (hd : a.s.dd ≤ 90030) (x : Int32) : CT l X (d + 2) md_X9_whyNot [.inr (.inr (9, 0, 0)), .inl (x)] (mk Lz w) (some (.inl (wnm a x))) (mk Lz w) := by
  show WP l X _ md_X9_whyNot (0, [some (.inr (.inr (9, 0, 0))), some (.inl (x))], [], _) _
  refine x_iload_n (pc' := 1) rfl rfl rfl (x_iconst (pc' := 2) rfl rfl (x_bipush (pc' := 4) rfl rfl (x_invS3 (pc' := 7) rfl rfl rfl rfl rfl rfl (c_X9_in _ _ _) ?_)))
  refine x_if_ne (pc' := 10) rfl rfl (fun h7 => ?_) (fun h7 => ?_)
  · refine x_ldc (pc' := 12) rfl rfl (x_goto rfl ?_)
    refine x_iret rfl rfl ?_
    first | exact rI (wnm_1 (by unfold wnd; rw [bI_eq0.mp h7]; rfl) (by decide)) | exact rI (wnm_1 (by unfold wnd; rw [bq h7, if_pos h20]; rfl) (by decide)) | exact rI (wnm_2 (by unfold wnd; rw [bq h7, if_neg h20, if_neg (by omega)]; rfl)) | exact rI (wnm_1 (by unfold wnd; rw [bq h7, if_neg h20, if_pos (by omega)]; rfl) (by decide))
  · refine x_aload_n (pc' := 16) rfl rfl rfl (x_getI (pc' := 19) rfl rfl rfl ?_)
    rw [hK.1]
    refine x_iconst (pc' := 20) rfl rfl ?_
    refine x_icmp_ne (pc' := 23) rfl rfl (fun h20 => ?_) (fun h20 => ?_)
    · refine x_ldc (pc' := 25) rfl rfl (x_goto rfl ?_)
      refine x_iret rfl rfl ?_
      first | exact rI (wnm_1 (by unfold wnd; rw [bI_eq0.mp h7]; rfl) (by decide)) | exact rI (wnm_1 (by unfold wnd; rw [bq h7, if_pos h20]; rfl) (by decide)) | exact rI (wnm_2 (by unfold wnd; rw [bq h7, if_neg h20, if_neg (by omega)]; rfl)) | exact rI (wnm_1 (by unfold wnd; rw [bq h7, if_neg h20, if_pos (by omega)]; rfl) (by decide))
    · refine x_aload_n (pc' := 29) rfl rfl rfl (x_getR (pc' := 32) (t := (9, _, 1)) rfl rfl rfl (x_bipush (pc' := 34) rfl rfl (x_iald (pc' := 35) (N := 4420) rfl rfl rfl rfl (by first | assumption | omega) (by decide) ?_)))
      rw [show w 9 0 1 47 = nI a.s.dd from h.2.2.2.2.2.2.1]
      refine x_ldc (pc' := 37) rfl rfl ?_
      refine x_icmp_leN (pc' := 40) rfl rfl (by omega) (by omega) (fun h37 => ?_) (fun h37 => ?_)
      · refine x_iconst (pc' := 46) rfl rfl ?_
        refine x_iret rfl rfl ?_
        first | exact rI (wnm_1 (by unfold wnd; rw [bI_eq0.mp h7]; rfl) (by decide)) | exact rI (wnm_1 (by unfold wnd; rw [bq h7, if_pos h20]; rfl) (by decide)) | exact rI (wnm_2 (by unfold wnd; rw [bq h7, if_neg h20, if_neg (by omega)]; rfl)) | exact rI (wnm_1 (by unfold wnd; rw [bq h7, if_neg h20, if_pos (by omega)]; rfl) (by decide))
      · refine x_ldc (pc' := 42) rfl rfl (x_goto rfl ?_)
        refine x_iret rfl rfl ?_
        first | exact rI (wnm_1 (by unfold wnd; rw [bI_eq0.mp h7]; rfl) (by decide)) | exact rI (wnm_1 (by unfold wnd; rw [bq h7, if_pos h20]; rfl) (by decide)) | exact rI (wnm_2 (by unfold wnd; rw [bq h7, if_neg h20, if_neg (by omega)]; rfl)) | exact rI (wnm_1 (by unfold wnd; rw [bq h7, if_neg h20, if_pos (by omega)]; rfl) (by decide))
set_option maxRecDepth 20000 in
theorem l_X8_day {zz : Int32} {l : Launch} {X : XT} {d Lz : Nat} {w : WF} {a : AS} (hV : AVl a) (m : Nat) (hm : m ≤ 30) (hd : a.s.dd ≤ 90000) : ∀ (kk n : Nat), ∀ (wn : WF), CRel wn (dit a n) → (∀ c i o q, 9 ≤ c → wn c i o q = w c i o q) →  n ≤ m → m + 1 ≤ n + kk → WP l X (d + 5) md_X8_day (14, [some (.inr (.inr (8, 0, 0))), some (.inl (nI m)), some (.inl (zz)), some (.inl (nI n))], [], mk Lz wn) (fun v M' => v = some (.inl (nI (dit a m).s.dd)) ∧ ∃ w', M' = mk Lz w' ∧ (∀ c i o q, 9 ≤ c → w' c i o q = w c i o q) ∧ CRel w' (dit a m)) := by
  intro kk
  induction kk with
  | zero =>
    intro n wn hi hy h1 h2
    exact absurd h2 (by omega)
  | succ kk ih =>
    intro n wn hi hy hi1 hi2
    refine x_iload_n (pc' := 15) rfl rfl rfl (x_iload_n (pc' := 16) rfl rfl rfl ?_)
    refine x_icmp_geN (pc' := 19) rfl rfl (by omega) (by omega) (fun h16 => ?_) (fun h16 => ?_)
    · refine x_aload_n (pc' := 52) rfl rfl rfl (x_getR (pc' := 55) (t := (6, 0, 0)) rfl rfl rfl (x_getI (pc' := 58) rfl rfl rfl ?_))
      rw [hi.2.2.1.2.2.2.2.2.2.1]
      refine x_iret rfl rfl ?_
      have e : n = m := by omega
      subst e
      exact ⟨rfl, _, rfl, hy, hi⟩
    · obtain ⟨v1, v2, v3⟩ := dit_V hV n (by omega)
      refine x_aload_n (pc' := 20) rfl rfl rfl (x_getR (pc' := 23) (t := (3, 0, 0)) rfl rfl rfl (x_aload_n (pc' := 24) rfl rfl rfl (x_getR (pc' := 27) (t := (6, 0, 0)) rfl rfl rfl (x_invQ2 (pc' := 30) rfl rfl rfl rfl (rem_C hi v1.2.1.1 v1.2.2.1.1) (fun vq Mq hq27 => ?_)))))
      obtain ⟨rfl, w1, rfl, h1, hx⟩ := hq27
      have q3 : RC w1 (dit a n).K 0 (dit a n).s := h1.2.2.1
      have q2 : KX w1 (dit a n).K := h1.2.1
      show WP l X _ md_X8_day (30, _, [], _) _
      refine x_aload_n (pc' := 31) rfl rfl rfl (x_getR (pc' := 34) (t := (6, 0, 0)) rfl rfl rfl (x_aload_n (pc' := 35) rfl rfl rfl (x_getR5 (pc' := 38) rfl rfl rfl (x_aload_n (pc' := 39) rfl rfl rfl (x_getR (pc' := 42) (t := (1, 0, 0)) rfl rfl rfl ?_)))))
      refine x_invQ3 (pc' := 45) rfl rfl rfl rfl rfl (a_X6_passDay 0 _ v1.1 q2 q3 v1.2.1.1 (by have := v1.2.1.2; omega)) (fun vq Mq hq42 => ?_)
      obtain ⟨rfl, w2, rfl, q4, hf⟩ := hq42
      show WP l X _ md_X8_day (45, _, [], _) _
      refine x_iinc3 (pc' := 48) rfl rfl rfl (nI_add _ _) (x_goto rfl ?_)
      exact ih (n + 1) w2 (CRel_nw h1 (fun c i o q a1 a2 _ => hf c i o q a1 a2) q4 ((hf 8 0 0 10 (by omega) (by omega)).trans h1.2.2.2.2.2.1)) (fun c i o q hc => (hf c i o q (by omega) (by omega)).trans ((hx c i o q hc).trans (hy c i o q hc))) (by omega) (by omega)
set_option maxRecDepth 20000 in
theorem C_X8_day {l : Launch} {X : XT} {d Lz : Nat} {w : WF} {a : AS} (h : CRel w a) (hV : AVl a) (n : Int32) : okC l X (d + 7) Lz md_X8_day [.inl (n)] w ((f_day a n).1) ((f_day a n).2) := by
  have hr := h
  obtain ⟨r1, r2, r3, r4, r5, r6, r7, r8, r9, r10⟩ := h
  have hK := hV.1
  have hv7 := hK.1
  have hv4 := hK.2.1
  have hs := hV.2.1
  have hnp := r2.2.2.1
  show WP l X _ md_X8_day (0, [some (.inr (.inr (8, 0, 0))), some (.inl (n)), none, none], [], _) _
  refine x_aload_n (pc' := 1) rfl rfl rfl (x_iload_n (pc' := 2) rfl rfl rfl (x_invI2 (pc' := 5) rfl rfl rfl rfl (c_X8_whyNoDays r2 r3 hs.2 _) ?_))
  refine x_istore_n2 (pc' := 6) rfl rfl rfl (x_iload_n (pc' := 7) rfl rfl rfl ?_)
  refine x_if_eq (pc' := 10) rfl rfl (fun h7 => ?_) (fun h7 => ?_)
  · obtain ⟨g1, g2, g3⟩ := wnd_0 h7
    have hw := h7
    obtain ⟨m, -, hm, rfl⟩ := in_num (by omega) g1 (by omega)
    refine x_iconst (pc' := 13) rfl rfl (x_istore_n3 (pc' := 14) rfl rfl rfl ?_)
    refine wp_cons (wp_mono (by omega) (l_X8_day (d := d) hV m hm g3 (m + 1) 0 _ hr (fun _ _ _ _ _ => rfl) (by omega) (by omega))) (fun v M hq => ?_)
    obtain ⟨rfl, w2, rfl, hy, hi⟩ := hq
    exact ok_id (by unfold f_day; rw [if_pos h7, ix_nI (by omega)]) hy (by unfold f_day; rw [if_pos h7, ix_nI (by omega)]; exact hi)
  · refine x_iload_n (pc' := 11) rfl rfl rfl ?_
    refine x_iret rfl rfl ?_
    exact ok_id (by unfold f_day; rw [if_neg h7]) (fun _ _ _ _ _ => rfl) (by unfold f_day; rw [if_neg h7]; exact hr)
set_option maxRecDepth 20000 in
theorem l_X9_day {l : Launch} {X : XT} {d Lz : Nat} {w : WF} {a : AS} (hV : AVl a) (m : Nat) (hm : m ≤ 30) (hd : a.s.dd ≤ 90000) : ∀ (kk n : Nat), ∀ (wn : WF), MRel wn (dit a n) → (∀ c i o q, c ≠ 9 → wn c i o q = w c i o q) →  n ≤ m → m + 1 ≤ n + kk → WP l X (d + 8) md_X9_day (16, [some (.inr (.inr (9, 0, 0))), some (.inl (nI m)), some (.inl (nI n))], [], mk Lz wn) (fun v M' => v = some (.inl (nI (dit a m).s.dd)) ∧ ∃ w', M' = mk Lz w' ∧ (∀ c i o q, c ≠ 9 → w' c i o q = w c i o q) ∧ MRel w' (dit a m)) := by
  intro kk
  induction kk with
  | zero =>
    intro n wn hi hy h1 h2
    exact absurd h2 (by omega)
  | succ kk ih =>
    intro n wn hi hy hi1 hi2
    refine x_iload_n (pc' := 17) rfl rfl rfl (x_iload_n (pc' := 18) rfl rfl rfl ?_)
    refine x_icmp_geN (pc' := 21) rfl rfl (by omega) (by omega) (fun h18 => ?_) (fun h18 => ?_)
    · refine x_aload_n (pc' := 37) rfl rfl rfl (x_getR (pc' := 40) (t := (9, _, 1)) rfl rfl rfl (x_bipush (pc' := 42) rfl rfl (x_iald (pc' := 43) (N := 4420) rfl rfl rfl rfl (by first | assumption | omega) (by decide) ?_)))
      rw [show wn 9 0 1 47 = nI (dit a n).s.dd from hi.2.1.2.2.2.2.2.2.1]
      refine x_iret rfl rfl ?_
      have e : n = m := by omega
      subst e
      exact ⟨rfl, _, rfl, hy, hi⟩
    · obtain ⟨v1, v2, v3⟩ := dit_V hV n (by omega)
      refine x_aload_n (pc' := 22) rfl rfl rfl (x_invQ1 (pc' := 25) rfl rfl rfl (rem_M hi v1.1 v1.2.2.1.1) (fun vq Mq hq22 => ?_))
      obtain ⟨rfl, w1, rfl, h1, hx⟩ := hq22
      have q3 : RR w1 (dit a n).K 0 (dit a n).s := h1.2.1
      have q2 : KM w1 (dit a n).K := h1.1
      show WP l X _ md_X9_day (25, _, [], _) _
      refine x_aload_n (pc' := 26) rfl rfl rfl (x_iconst (pc' := 27) rfl rfl (x_invQ2 (pc' := 30) rfl rfl rfl rfl (a_X9_dayIn 0 (by omega) v1.1 q2 q3 v1.2.1.1 (by have := v1.2.1.2; omega)) (fun vq Mq hq27 => ?_)))
      obtain ⟨rfl, w2, rfl, q4, hf⟩ := hq27
      show WP l X _ md_X9_day (30, _, [], _) _
      refine x_iinc2 (pc' := 33) rfl rfl rfl (nI_add _ _) (x_goto rfl ?_)
      exact ih (n + 1) w2 (MRel_nw v1.1 h1 hf.1 (fun q hq => hf.2 q (by omega)) q4 ((hf.2 129 (by omega)).trans h1.2.2.2.2.1)) (fun c i o q hc => (hf.1 c i o q (by omega)).trans ((hx c i o q hc).trans (hy c i o q hc))) (by omega) (by omega)
set_option maxRecDepth 20000 in
theorem M_X9_day {l : Launch} {X : XT} {d Lz : Nat} {w : WF} {a : AS} (h : MRel w a) (hV : AVl a) (n : Int32) : okM l X (d + 8) Lz md_X9_day [.inl (n)] w ((f_day a n).1) ((f_day a n).2) := by
  have hr := h
  obtain ⟨r1, r2, r3, r4, r5, r6, r7, r8, r9⟩ := h
  have hK := hV.1
  have hv7 := hK.1
  have hv4 := hK.2.1
  have hs := hV.2.1
  have hnp := r1.2.2.1
  have hno := r1.2.2.2.2.1
  show WP l X _ md_X9_day (0, [some (.inr (.inr (9, 0, 0))), some (.inl (n)), none], [], _) _
  refine x_aload_n (pc' := 1) rfl rfl rfl (x_iload_n (pc' := 2) rfl rfl rfl (x_invI2 (pc' := 5) rfl rfl rfl rfl (c_X9_whyNot r1 r2 hs.2 _) ?_))
  refine x_if_ge (pc' := 8) rfl rfl (fun h5 => ?_) (fun h5 => ?_)
  · have hw : wnd a n = 0 := Decidable.byContradiction (fun e => by
      have h6 := wnd_n e
      unfold wnm at h5
      rw [if_neg e] at h5
      exact Int32.not_lt.mpr h5 h6)
    obtain ⟨g1, g2, g3⟩ := wnd_0 hw
    obtain ⟨m, -, hm, rfl⟩ := in_num (by omega) g1 (by omega)
    refine x_iconst (pc' := 15) rfl rfl (x_istore_n2 (pc' := 16) rfl rfl rfl ?_)
    refine wp_cons (l_X9_day (d := d) hV m hm g3 (m + 1) 0 _ hr (fun _ _ _ _ _ => rfl) (by omega) (by omega)) (fun v M hq => ?_)
    obtain ⟨rfl, w2, rfl, hy, hi⟩ := hq
    exact ok_id (by unfold f_day; rw [if_pos hw, ix_nI (by omega)]) hy (by unfold f_day; rw [if_pos hw, ix_nI (by omega)]; exact hi)
  · refine x_aload_n (pc' := 9) rfl rfl rfl (x_iload_n (pc' := 10) rfl rfl rfl (x_invI2 (pc' := 13) rfl rfl rfl rfl (c_X9_whyNot r1 r2 hs.2 _) ?_))
    refine x_iret rfl rfl ?_
    have hw : ¬ wnd a n = 0 := fun e => h5 (by unfold wnm; rw [if_pos e]; decide)
    exact ok_id (by unfold f_day wnm; rw [if_neg hw, if_neg hw]) (fun _ _ _ _ _ => rfl) (by unfold f_day; rw [if_neg hw]; exact hr)
