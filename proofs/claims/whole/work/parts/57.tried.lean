/-! what is tried, with the object -/
theorem setE_setE (s : Sa) (p : Nat) (x v : Int32) : (s.setE p x).setE p v = s.setE p v := by
  show ((s.1, (fun q => if q = p then v else (if q = p then x else s.e q)), s.2.2) : Sa) = (s.1, (fun q => if q = p then v else s.e q), s.2.2)
  have e : (fun q => if q = p then v else (if q = p then x else s.e q)) = (fun q => if q = p then v else s.e q) := by
    funext q
    by_cases z : q = p
    · rw [if_pos z, if_pos z]
    · rw [if_neg z, if_neg z, if_neg z]
  rw [e]
def idA (s : Sa) (x : Int32) (n : Nat) : Sa := (s.1, (fun q => if q < n ∧ has x q = true then nI 0 else s.e q), s.2.2)
def wnF (K : Kg) (s : Sa) (p o m : Nat) : Nat → Nat → Option Nat
  | _, 0 => none
  | e, k + 1 => if (daysA K m (s.setE p (nI e))).ho o = nI p then some e else wnF K s p o m (e + 1) k
theorem wnF_t {K : Kg} {s : Sa} {p o m e k : Nat} (h : (daysA K m (s.setE p (nI e))).ho o = nI p) : wnF K s p o m e (k + 1) = some e := by
  show (if _ then _ else _) = _
  rw [if_pos h]
theorem wnF_f {K : Kg} {s : Sa} {p o m e k : Nat} (h : ¬ (daysA K m (s.setE p (nI e))).ho o = nI p) : wnF K s p o m e (k + 1) = wnF K s p o m (e + 1) k := by
  show (if _ then _ else _) = _
  rw [if_neg h]
def f_holds (a : AS) (o n : Int32) : Int32 := bif isO a o then (bif inB n (nI 0) (nI 60) then (daysA a.K (ix n) a.s).ho (ix o) else OUTS) else UNK
def f_win (a : AS) (p o n : Int32) : Int32 := bif isP a p && isO a o then (bif inB n (nI 1) (nI 60) then oI (wnF a.K a.s (ix p) (ix o) (ix n) 0 10) else OUTS) else UNK
def efB (K : Kg) (s : Sa) (p k : Nat) : Nat → Bool := fun e => decide (oI (snA K (s.setE p (nI e)) k) = nI p)
def f_efforts (a : AS) (p k : Int32) : Int32 := bif isP a p then (bif isKd k then (bif coA a.s (ix p) then enc (efB a.K a.s (ix p) (ix k)) 10 else NOTT) else OUTS) else UNK
def rsA (K : Kg) (s : Sa) (k : Nat) : Nat → Bool := fun p => coA s p && (!decide (oI (snA K s k) = nI p) && !decide (enc (efB K s p k) 10 = 0))
def f_restless (a : AS) (k : Int32) : Int32 := bif isKd k then enc (rsA a.K a.s (ix k)) a.K.np else OUTS
def lwA (K : Kg) (s : Sa) (p k : Nat) (x : Int32) : Bool := decide (oI (snA K (idA s x K.np) k) = nI p)
def otA (K : Kg) (s : Sa) (p : Nat) : Int32 := enc (coA s) K.np &&& ((nI 1 <<< (nI p &&& 31)) ^^^ -1)
def fwr (m : Nat) (b : Option Nat) : Bool := match b with
  | none => true
  | some b => decide (pop 7 m < pop 7 b)
def lwC (K : Kg) (s : Sa) (p k m : Nat) (b : Option Nat) : Bool := decide (nI m &&& (otA K s p ^^^ -1) = 0) && (fwr m b && lwA K s p k (nI m))
def lwf (K : Kg) (s : Sa) (p k : Nat) : Nat → Option Nat
  | 0 => none
  | m + 1 => bif lwC K s p k m (lwf K s p k m) then some m else lwf K s p k m
theorem lwf_t {K : Kg} {s : Sa} {p k m : Nat} {b : Option Nat} (hb : lwf K s p k m = b) (h : lwC K s p k m b = true) : lwf K s p k (m + 1) = some m := by
  show (bif lwC K s p k m (lwf K s p k m) then _ else _) = _
  rw [hb, h]; rfl
theorem lwf_f {K : Kg} {s : Sa} {p k m : Nat} {b : Option Nat} (hb : lwf K s p k m = b) (h : lwC K s p k m b = false) : lwf K s p k (m + 1) = b := by
  show (bif lwC K s p k m (lwf K s p k m) then _ else _) = _
  rw [hb, h]; rfl
theorem lwf_lt {K : Kg} {s : Sa} {p k : Nat} : ∀ m b, lwf K s p k m = some b → b < m
  | 0, b, h => by cases h
  | m + 1, b, h => by
    cases hc : lwC K s p k m (lwf K s p k m) with
    | true => rw [lwf_t rfl hc] at h; cases h; omega
    | false => rw [lwf_f rfl hc] at h; have := lwf_lt m b h; omega
def f_letWin (a : AS) (p k x : Int32) : Int32 := bif isP a p then (bif isKd k && inB x (nI 0) (nI 1) then (bif coA a.s (ix p) then (match lwf a.K a.s (ix p) (ix k) (2 ^ a.K.np) with
  | none => -1
  | some m => if x = nI 0 then nI (pop 7 m) else nI m) else NOTT) else OUTS) else UNK
theorem KX_S {w w2 : WF} {K : Kg} (h : KX w K) (hf : frS 1 w w2) : KX w2 K := KX_cg (fun i o q => hf 4 i o q (by omega) (by omega)) (hf 8 0 0 8 (by omega) (by omega)) h
theorem RC_S {w w2 : WF} {K : Kg} {s : Sa} (h : RC w K 0 s) (hf : frS 1 w w2) : RC w2 K 0 s := RC_fr h hf (by omega)
theorem frQ_S {w w2 : WF} (hf : frS 1 w w2) : frQ w w2 := fun c i o q h1 _ h3 _ => hf c i o q h1 h3
theorem frS_9 {w w2 : WF} (hf : frS 1 w w2) : ∀ c i o q, 9 ≤ c → w2 c i o q = w c i o q := fun c i o q hc => hf c i o q (by omega) (by omega)
set_option maxRecDepth 20000 in
theorem l_X8_holderBehind {l : Launch} {X : XT} {d Lz : Nat} {w : Nat → Nat → Nat → Nat → Int32} {K : Kg} {s : Sa} (o m : Nat) (hV : KV K) (hK : KX w K) (h : RC w K 1 s) (hs : SV s) (ho : o < K.no) (hd : s.dd + m < 2 ^ 30) : ∀ (kk n : Nat), ∀ (wn : WF), RC wn K 1 (daysA K n s) → frS 1 w wn →  n ≤ m → m + 1 ≤ n + kk → WP l X (d + 5) md_X8_holderBehind (2, [some (.inr (.inr (8, 0, 0))), some (.inl (nI o)), some (.inl (nI m)), some (.inl (nI n))], [], mk Lz wn) (fun v M' => v = some (.inl ((daysA K m s).ho o)) ∧ ∃ w', M' = mk Lz w' ∧ frS 1 w w') := by
  intro kk
  induction kk with
  | zero =>
    intro n wn hi hf h1 h2
    exact absurd h2 (by omega)
  | succ kk ih =>
    intro n wn hi hf hi1 hi2
    have hv4 := hV.2.1
    refine x_iload_n (pc' := 3) rfl rfl rfl (x_iload_n (pc' := 4) rfl rfl rfl ?_)
    refine x_icmp_geN (pc' := 7) rfl rfl (by omega) (by omega) (fun h4 => ?_) (fun h4 => ?_)
    · refine x_aload_n (pc' := 29) rfl rfl rfl (x_getR (pc' := 32) (t := (6, 1, 0)) rfl rfl rfl (x_getR (pc' := 35) (t := (6, _, 5)) rfl rfl rfl (x_iload_n (pc' := 36) rfl rfl rfl (x_iald (pc' := 37) (N := 4) rfl rfl rfl rfl (by first | assumption | omega) (by decide) ?_))))
      rw [hi.2.2.2.2.1 o ho]
      refine x_iret rfl rfl ?_
      have e : n = m := by omega
      subst e
      exact ⟨rfl, _, rfl, hf⟩
    · refine x_aload_n (pc' := 8) rfl rfl rfl (x_getR (pc' := 11) (t := (6, 1, 0)) rfl rfl rfl (x_aload_n (pc' := 12) rfl rfl rfl (x_getR5 (pc' := 15) rfl rfl rfl (x_aload_n (pc' := 16) rfl rfl rfl (x_getR (pc' := 19) (t := (1, 0, 0)) rfl rfl rfl ?_)))))
      refine x_invQ3 (pc' := 22) rfl rfl rfl rfl rfl (a_X6_passDay 1 _ hV (KX_S hK hf) hi (SV_days hs n) (by rw [daysA_dd]; omega)) (fun vq Mq hq19 => ?_)
      obtain ⟨rfl, w2, rfl, q4, hf2⟩ := hq19
      show WP l X _ md_X8_holderBehind (22, _, [], _) _
      refine x_iinc3 (pc' := 25) rfl rfl rfl (nI_add _ _) (x_goto rfl ?_)
      exact ih (n + 1) w2 q4 (hf.tr hf2) (by omega) (by omega)
set_option maxRecDepth 20000 in
theorem c_X8_holderBehind {l : Launch} {X : XT} {d Lz : Nat} {w : Nat → Nat → Nat → Nat → Int32} {K : Kg} {s : Sa} (o m : Nat) (hV : KV K) (hK : KX w K) (h : RC w K 1 s) (hs : SV s) (ho : o < K.no) (hd : s.dd + m < 2 ^ 30) : WP l X (d + 5) md_X8_holderBehind (en md_X8_holderBehind [.inr (.inr (8, 0, 0)), .inl (nI o), .inl (nI m)] (mk Lz w)) (fun v M' => v = some (.inl ((daysA K m s).ho o)) ∧ ∃ w', M' = mk Lz w' ∧ frS 1 w w') := by
  show WP l X _ md_X8_holderBehind (0, [some (.inr (.inr (8, 0, 0))), some (.inl (nI o)), some (.inl (nI m)), none], [], _) _
  refine x_iconst (pc' := 1) rfl rfl (x_istore_n3 (pc' := 2) rfl rfl rfl ?_)
  exact l_X8_holderBehind o m hV hK h hs ho hd (m + 1) 0 w h (frS.rf 1 w) (by omega) (by omega)
set_option maxRecDepth 20000 in
theorem C_X8_holds {l : Launch} {X : XT} {d Lz : Nat} {w : WF} {a : AS} (h : CRel w a) (hV : AVl a) (o : Int32) (n : Int32) : okC l X (d + 7) Lz md_X8_holds [.inl (o), .inl (n)] w (f_holds a o n) (a) := by
  have hr := h
  obtain ⟨r1, r2, r3, r4, r5, r6, r7, r8, r9, r10⟩ := h
  have hK := hV.1
  have hv7 := hK.1
  have hv4 := hK.2.1
  have hs := hV.2.1
  have hnp := r2.2.2.1
  show WP l X _ md_X8_holds (0, [some (.inr (.inr (8, 0, 0))), some (.inl (o)), some (.inl (n))], [], _) _
  refine x_aload_n (pc' := 1) rfl rfl rfl (x_iload_n (pc' := 2) rfl rfl rfl (x_invI2 (pc' := 5) rfl rfl rfl rfl (p_X8_isOffice r2 _) ?_))
  refine x_if_ne (pc' := 8) rfl rfl (fun h5 => ?_) (fun h5 => ?_)
  · refine x_ldc (pc' := 10) rfl rfl ?_
    refine x_iret rfl rfl ?_
    exact ok_id (by unfold f_holds; rw [bI_eq0.mp h5]; rfl) (fun _ _ _ _ _ => rfl) hr
  · obtain ⟨o2, ho, rfl⟩ := in_np (by omega) (bq h5)
    refine x_iload_n (pc' := 12) rfl rfl rfl (x_iconst (pc' := 13) rfl rfl (x_bipush (pc' := 15) rfl rfl (x_invS3 (pc' := 18) rfl rfl rfl rfl rfl rfl (c_X8_isWithin _ _ _) ?_)))
    refine x_if_ne (pc' := 21) rfl rfl (fun h18 => ?_) (fun h18 => ?_)
    · refine x_ldc (pc' := 23) rfl rfl ?_
      refine x_iret rfl rfl ?_
      exact ok_id (by unfold f_holds; rw [bq h5, bI_eq0.mp h18]; rfl) (fun _ _ _ _ _ => rfl) hr
    · obtain ⟨m, -, hm, rfl⟩ := in_num (by omega) (bq h18) (by omega)
      have hz : w 6 0 0 8 = 0 ∨ w 6 0 0 8 = 1 := by rw [r3.2.2.2.2.2.1]; exact hs.1.1
      refine x_aload_n (pc' := 25) rfl rfl rfl (x_getR (pc' := 28) (t := (6, 1, 0)) rfl rfl rfl (x_aload_n (pc' := 29) rfl rfl rfl (x_getR (pc' := 32) (t := (6, 0, 0)) rfl rfl rfl (x_invQ2 (pc' := 35) rfl rfl rfl rfl (c_X6_copyFrom 1 0 (by omega) hz) (fun vq Mq hq32 => ?_)))))
      obtain ⟨rfl, w1, rfl, hc⟩ := hq32
      show WP l X _ md_X8_holds (35, _, [], _) _
      refine x_aload_n (pc' := 36) rfl rfl rfl (x_iload_n (pc' := 37) rfl rfl rfl (x_iload_n (pc' := 38) rfl rfl rfl (x_invQ3 (pc' := 41) rfl rfl rfl rfl rfl (c_X8_holderBehind o2 m hK (KX_S r2 hc.fr) (RC_cpy r3 hc) hs.1 ho (by have := hs.2; omega)) (fun vq Mq hq38 => ?_))))
      obtain ⟨rfl, w2, rfl, hf⟩ := hq38
      show WP l X _ md_X8_holds (41, _, [.inl ((daysA a.K m a.s).ho o2)], _) _
      refine x_iret rfl rfl ?_
      exact ok_id (by unfold f_holds; rw [bq h5, bq h18, ix_nI (by omega), ix_nI (by omega)]; rfl) (frS_9 (hc.fr.tr hf)) (CRel_Q hr (frQ_S (hc.fr.tr hf)))
set_option maxRecDepth 20000 in
theorem l_X8_win {l : Launch} {X : XT} {d Lz : Nat} {w : Nat → Nat → Nat → Nat → Int32} {K : Kg} {s : Sa} (p o m : Nat) (hV : KV K) (hK : KX w K) (h : RC w K 0 s) (hs : SV s) (hp : p < K.np) (ho : o < K.no) (hm : m ≤ 60) (hd : s.dd ≤ 90030) : ∀ (kk n : Nat), ∀ (wn : WF), frS 1 w wn → wnF K s p o m 0 10 = wnF K s p o m n (10 - n) →  n ≤ 10 → 10 + 1 ≤ n + kk → WP l X (d + 6) md_X8_win (35, [some (.inr (.inr (8, 0, 0))), some (.inl (nI p)), some (.inl (nI o)), some (.inl (nI m)), some (.inl (nI n))], [], mk Lz wn) (fun v M' => v = some (.inl (oI (wnF K s p o m 0 10))) ∧ ∃ w', M' = mk Lz w' ∧ frS 1 w w') := by
  intro kk
  induction kk with
  | zero =>
    intro n wn hf hL h1 h2
    exact absurd h2 (by omega)
  | succ kk ih =>
    intro n wn hf hL hi1 hi2
    have hv7 := hV.1
    refine x_iload (pc' := 37) rfl rfl rfl (x_bipush (pc' := 39) rfl rfl ?_)
    refine x_icmp_geN (pc' := 42) rfl rfl (by omega) (by omega) (fun h39 => ?_) (fun h39 => ?_)
    · refine x_iconst (pc' := 84) rfl rfl ?_
      refine x_iret rfl rfl ?_
      have e : n = 10 := by omega
      subst e
      exact ⟨by rw [hL]; rfl, _, rfl, hf⟩
    · refine x_aload_n (pc' := 43) rfl rfl rfl (x_getR (pc' := 46) (t := (6, 1, 0)) rfl rfl rfl (x_aload_n (pc' := 47) rfl rfl rfl (x_getR (pc' := 50) (t := (6, 0, 0)) rfl rfl rfl (x_invQ2 (pc' := 53) rfl rfl rfl rfl (c_X6_copyFrom 1 0 (by omega) (by rw [(RC_S h hf).2.2.2.2.2.1]; exact hs.1)) (fun vq Mq hq50 => ?_)))))
      obtain ⟨rfl, w1, rfl, hc⟩ := hq50
      have hc1 := RC_setE (p := p) (v := nI n) (RC_cpy (RC_S h hf) hc)
      have hf1 : frS 1 w (u4 w1 6 1 2 p (nI n)) := (hf.tr hc.fr).u _ _ _
      have hL2 := hL
      rw [show 10 - n = 10 - (n + 1) + 1 by omega] at hL2
      show WP l X _ md_X8_win (53, _, [], _) _
      refine x_aload_n (pc' := 54) rfl rfl rfl (x_getR (pc' := 57) (t := (6, 1, 0)) rfl rfl rfl (x_getR (pc' := 60) (t := (6, _, 2)) rfl rfl rfl (x_iload_n (pc' := 61) rfl rfl rfl (x_iload (pc' := 63) rfl rfl rfl (x_iast (pc' := 64) (N := 7) rfl rfl rfl (by decide) rfl (by omega) (by decide) ?_)))))
      refine x_aload_n (pc' := 65) rfl rfl rfl (x_iload_n (pc' := 66) rfl rfl rfl (x_iload_n (pc' := 67) rfl rfl rfl (x_invQ3 (pc' := 70) rfl rfl rfl rfl rfl (c_X8_holderBehind o m hV (KX_S hK hf1) hc1 ⟨hs.1, hs.2.1, hs.2.2⟩ ho (by show s.dd + m < 2 ^ 30; omega)) (fun vq Mq hq67 => ?_))))
      obtain ⟨rfl, w2, rfl, hf2⟩ := hq67
      show WP l X _ md_X8_win (70, _, [.inl ((daysA K m (s.setE p (nI n))).ho o)], _) _
      refine x_iload_n (pc' := 71) rfl rfl rfl ?_
      refine x_icmp_ne (pc' := 74) rfl rfl (fun h71 => ?_) (fun h71 => ?_)
      · refine x_iload (pc' := 76) rfl rfl rfl ?_
        refine x_iret rfl rfl ?_
        exact ⟨by rw [hL2, wnF_t h71]; rfl, _, rfl, hf1.tr hf2⟩
      · refine x_iinc4 (pc' := 80) rfl rfl rfl (nI_add _ _) (x_goto rfl ?_)
        exact ih (n + 1) w2 (hf1.tr hf2) (by rw [hL2, wnF_f h71]) (by omega) (by omega)
set_option maxRecDepth 20000 in
theorem C_X8_win {l : Launch} {X : XT} {d Lz : Nat} {w : WF} {a : AS} (h : CRel w a) (hV : AVl a) (p : Int32) (o : Int32) (n : Int32) : okC l X (d + 7) Lz md_X8_win [.inl (p), .inl (o), .inl (n)] w (f_win a p o n) (a) := by
  have hr := h
  obtain ⟨r1, r2, r3, r4, r5, r6, r7, r8, r9, r10⟩ := h
  have hK := hV.1
  have hv7 := hK.1
  have hv4 := hK.2.1
  have hs := hV.2.1
  have hnp := r2.2.2.1
  show WP l X _ md_X8_win (0, [some (.inr (.inr (8, 0, 0))), some (.inl (p)), some (.inl (o)), some (.inl (n)), none], [], _) _
  refine x_aload_n (pc' := 1) rfl rfl rfl (x_iload_n (pc' := 2) rfl rfl rfl (x_invI2 (pc' := 5) rfl rfl rfl rfl (p_X8_isPerson r2 _) ?_))
  refine x_if_eq (pc' := 8) rfl rfl (fun h5 => ?_) (fun h5 => ?_)
  · refine x_ldc (pc' := 18) rfl rfl ?_
    refine x_iret rfl rfl ?_
    first | exact ok_id (by unfold f_win; rw [bI_eq0.mp h5]; rfl) (fun _ _ _ _ _ => rfl) hr | exact ok_id (by unfold f_win; rw [bq h5, bI_eq0.mp h13]; rfl) (fun _ _ _ _ _ => rfl) hr
  · refine x_aload_n (pc' := 9) rfl rfl rfl (x_iload_n (pc' := 10) rfl rfl rfl (x_invI2 (pc' := 13) rfl rfl rfl rfl (p_X8_isOffice r2 _) ?_))
    refine x_if_ne (pc' := 16) rfl rfl (fun h13 => ?_) (fun h13 => ?_)
    · refine x_ldc (pc' := 18) rfl rfl ?_
      refine x_iret rfl rfl ?_
      first | exact ok_id (by unfold f_win; rw [bI_eq0.mp h5]; rfl) (fun _ _ _ _ _ => rfl) hr | exact ok_id (by unfold f_win; rw [bq h5, bI_eq0.mp h13]; rfl) (fun _ _ _ _ _ => rfl) hr
    · obtain ⟨p2, hp, rfl⟩ := in_np (by omega) (bq h5)
      obtain ⟨o2, ho, rfl⟩ := in_np (by omega) (bq h13)
      refine x_iload_n (pc' := 20) rfl rfl rfl (x_iconst (pc' := 21) rfl rfl (x_bipush (pc' := 23) rfl rfl (x_invS3 (pc' := 26) rfl rfl rfl rfl rfl rfl (c_X8_isWithin _ _ _) ?_)))
      refine x_if_ne (pc' := 29) rfl rfl (fun h26 => ?_) (fun h26 => ?_)
      · refine x_ldc (pc' := 31) rfl rfl ?_
        refine x_iret rfl rfl ?_
        exact ok_id (by unfold f_win; rw [bq h5, bq h13, bI_eq0.mp h26]; rfl) (fun _ _ _ _ _ => rfl) hr
      · obtain ⟨m, -, hm, rfl⟩ := in_num (by omega) (bq h26) (by omega)
        refine x_iconst (pc' := 33) rfl rfl (x_istore4 (pc' := 35) rfl rfl rfl ?_)
        refine wp_cons (l_X8_win (d := d + 1) p2 o2 m hK r2 r3 hs.1 hp ho hm hs.2 11 0 w (frS.rf 1 w) rfl (by omega) (by omega)) (fun v M hq => ?_)
        obtain ⟨rfl, w2, rfl, hf⟩ := hq
        exact ok_id (by unfold f_win; rw [bq h5, bq h13, bq h26, ix_nI (by omega), ix_nI (by omega), ix_nI (by omega)]; rfl) (frS_9 hf) (CRel_Q hr (frQ_S hf))
set_option maxRecDepth 20000 in
theorem l_X8_secondByEfforts {l : Launch} {X : XT} {d Lz : Nat} {w : Nat → Nat → Nat → Nat → Int32} {K : Kg} {s : Sa} (p k : Nat) (hk : k < 3) (hV : KV K) (hK : KX w K) (h : RC w K 0 s) (hs : SV s) (hp : p < K.np) : ∀ (kk n : Nat), ∀ (wn : WF) (s1 : Sa), RC wn K 1 s1 → (∀ v, s1.setE p v = s.setE p v) → frS 1 w wn →  n ≤ 10 → 10 + 1 ≤ n + kk → WP l X (d + 5) md_X8_secondByEfforts (16, [some (.inr (.inr (8, 0, 0))), some (.inl (nI p)), some (.inl (nI k)), some (.inl (enc (efB K s p k) n)), some (.inl (nI n))], [], mk Lz wn) (fun v M' => v = some (.inl (enc (efB K s p k) 10)) ∧ ∃ w', M' = mk Lz w' ∧ frS 1 w w') := by
  intro kk
  induction kk with
  | zero =>
    intro n wn s1 hi hx hf h1 h2
    exact absurd h2 (by omega)
  | succ kk ih =>
    intro n wn s1 hi hx hf hi1 hi2
    have hv7 := hV.1
    refine x_iload (pc' := 18) rfl rfl rfl (x_bipush (pc' := 20) rfl rfl ?_)
    refine x_icmp_geN (pc' := 23) rfl rfl (by omega) (by omega) (fun h20 => ?_) (fun h20 => ?_)
    · refine x_iload_n (pc' := 61) rfl rfl rfl ?_
      refine x_iret rfl rfl ?_
      have e : n = 10 := by omega
      subst e
      exact ⟨rfl, _, rfl, hf⟩
    · have hc1 : RC (u4 wn 6 1 2 p (nI n)) K 1 (s.setE p (nI n)) := by rw [← hx (nI n)]; exact RC_setE hi
      refine x_aload_n (pc' := 24) rfl rfl rfl (x_getR (pc' := 27) (t := (6, 1, 0)) rfl rfl rfl (x_getR (pc' := 30) (t := (6, _, 2)) rfl rfl rfl (x_iload_n (pc' := 31) rfl rfl rfl (x_iload (pc' := 33) rfl rfl rfl (x_iast (pc' := 34) (N := 7) rfl rfl rfl (by decide) rfl (by omega) (by decide) ?_)))))
      refine x_aload_n (pc' := 35) rfl rfl rfl (x_aload_n (pc' := 36) rfl rfl rfl (x_getR (pc' := 39) (t := (6, 1, 0)) rfl rfl rfl (x_iload_n (pc' := 40) rfl rfl rfl (x_invQ3 (pc' := 43) rfl rfl rfl rfl rfl (c_X8_secondIn 1 k hk hV (KX_S hK (hf.u _ _ _)) hc1) (fun vq Mq hq40 => ?_)))))
      obtain ⟨rfl, w2, rfl, hf2⟩ := hq40
      show WP l X _ md_X8_secondByEfforts (43, _, [.inl (oI (snA K (s.setE p (nI n)) k))], _) _
      refine x_iload_n (pc' := 44) rfl rfl rfl ?_
      refine x_icmp_ne (pc' := 47) rfl rfl (fun h44 => ?_) (fun h44 => ?_)
      · refine x_iload_n (pc' := 48) rfl rfl rfl (x_iconst (pc' := 49) rfl rfl (x_iload (pc' := 51) rfl rfl rfl (x_ishl (pc' := 52) rfl rfl (x_ior (pc' := 53) rfl rfl (x_istore_n3 (pc' := 54) rfl rfl rfl ?_)))))
        refine x_iinc4 (pc' := 57) rfl rfl rfl (nI_add _ _) (x_goto rfl ?_)
        exact WPc (ih (n + 1) w2 (s.setE p (nI n)) (RC_1 hc1 hf2) (fun v => setE_setE s p (nI n) v) ((hf.u _ _ _).tr (frS.of1 hf2)) (by omega) (by omega)) (by first | rw [← enc_t (f := efB K s p k) (dT h44)] | rw [← enc_f (f := efB K s p k) (dF h44)]) rfl
      · refine x_iinc4 (pc' := 57) rfl rfl rfl (nI_add _ _) (x_goto rfl ?_)
        exact WPc (ih (n + 1) w2 (s.setE p (nI n)) (RC_1 hc1 hf2) (fun v => setE_setE s p (nI n) v) ((hf.u _ _ _).tr (frS.of1 hf2)) (by omega) (by omega)) (by first | rw [← enc_t (f := efB K s p k) (dT h44)] | rw [← enc_f (f := efB K s p k) (dF h44)]) rfl
set_option maxRecDepth 20000 in
theorem c_X8_secondByEfforts {l : Launch} {X : XT} {d Lz : Nat} {w : Nat → Nat → Nat → Nat → Int32} {K : Kg} {s : Sa} (p k : Nat) (hk : k < 3) (hV : KV K) (hK : KX w K) (h : RC w K 0 s) (hs : SV s) (hp : p < K.np) : WP l X (d + 5) md_X8_secondByEfforts (en md_X8_secondByEfforts [.inr (.inr (8, 0, 0)), .inl (nI p), .inl (nI k)] (mk Lz w)) (fun v M' => v = some (.inl (enc (efB K s p k) 10)) ∧ ∃ w', M' = mk Lz w' ∧ frS 1 w w') := by
  show WP l X _ md_X8_secondByEfforts (0, [some (.inr (.inr (8, 0, 0))), some (.inl (nI p)), some (.inl (nI k)), none, none], [], _) _
  refine x_iconst (pc' := 1) rfl rfl (x_istore_n3 (pc' := 2) rfl rfl rfl (x_aload_n (pc' := 3) rfl rfl rfl (x_getR (pc' := 6) (t := (6, 1, 0)) rfl rfl rfl (x_aload_n (pc' := 7) rfl rfl rfl (x_getR (pc' := 10) (t := (6, 0, 0)) rfl rfl rfl ?_)))))
  refine x_invQ2 (pc' := 13) rfl rfl rfl rfl (c_X6_copyFrom 1 0 (by omega) (by rw [h.2.2.2.2.2.1]; exact hs.1)) (fun vq Mq hq10 => ?_)
  obtain ⟨rfl, w1, rfl, hc⟩ := hq10
  show WP l X _ md_X8_secondByEfforts (13, _, [], _) _
  refine x_iconst (pc' := 14) rfl rfl (x_istore4 (pc' := 16) rfl rfl rfl ?_)
  exact l_X8_secondByEfforts p k hk hV hK h hs hp 11 0 w1 s (RC_cpy h hc) (fun _ => rfl) hc.fr (by omega) (by omega)
set_option maxRecDepth 20000 in
theorem C_X8_efforts {l : Launch} {X : XT} {d Lz : Nat} {w : WF} {a : AS} (h : CRel w a) (hV : AVl a) (p : Int32) (k : Int32) : okC l X (d + 7) Lz md_X8_efforts [.inl (p), .inl (k)] w (f_efforts a p k) (a) := by
  have hr := h
  obtain ⟨r1, r2, r3, r4, r5, r6, r7, r8, r9, r10⟩ := h
  have hK := hV.1
  have hv7 := hK.1
  have hv4 := hK.2.1
  have hs := hV.2.1
  have hnp := r2.2.2.1
  show WP l X _ md_X8_efforts (0, [some (.inr (.inr (8, 0, 0))), some (.inl (p)), some (.inl (k))], [], _) _
  refine x_aload_n (pc' := 1) rfl rfl rfl (x_iload_n (pc' := 2) rfl rfl rfl (x_invI2 (pc' := 5) rfl rfl rfl rfl (p_X8_isPerson r2 _) ?_))
  refine x_if_ne (pc' := 8) rfl rfl (fun h5 => ?_) (fun h5 => ?_)
  · refine x_ldc (pc' := 10) rfl rfl ?_
    refine x_iret rfl rfl ?_
    exact ok_id (by unfold f_efforts; rw [bI_eq0.mp h5]; rfl) (fun _ _ _ _ _ => rfl) hr
  · obtain ⟨p2, hp, rfl⟩ := in_np (by omega) (bq h5)
    refine x_iload_n (pc' := 12) rfl rfl rfl (x_invS1 (pc' := 15) rfl rfl rfl rfl (c_X8_isKind _) ?_)
    refine x_if_ne (pc' := 18) rfl rfl (fun h15 => ?_) (fun h15 => ?_)
    · refine x_ldc (pc' := 20) rfl rfl ?_
      refine x_iret rfl rfl ?_
      exact ok_id (by unfold f_efforts isKd; rw [bq h5, bI_eq0.mp h15]; rfl) (fun _ _ _ _ _ => rfl) hr
    · obtain ⟨k2, -, hk2, rfl⟩ := in_num (by omega) (bq h15) (by omega)
      refine x_aload_n (pc' := 22) rfl rfl rfl (x_getR (pc' := 25) (t := (6, 0, 0)) rfl rfl rfl (x_iload_n (pc' := 26) rfl rfl rfl (x_invI2 (pc' := 29) rfl rfl rfl rfl (c_X6_isAtCourt _ _ (by omega)) ?_)))
      rw [show decide (w 6 0 3 p2 = 0) = coA a.s p2 from r3.co p2 hp]
      refine x_if_eq (pc' := 32) rfl rfl (fun h29 => ?_) (fun h29 => ?_)
      · refine x_ldc (pc' := 43) rfl rfl ?_
        refine x_iret rfl rfl ?_
        exact ok_id (by unfold f_efforts isKd; rw [bq h5, bq h15, ix_nI (by omega), bI_eq0.mp h29]; rfl) (fun _ _ _ _ _ => rfl) hr
      · refine x_aload_n (pc' := 33) rfl rfl rfl (x_iload_n (pc' := 34) rfl rfl rfl (x_iload_n (pc' := 35) rfl rfl rfl (x_invQ3 (pc' := 38) rfl rfl rfl rfl rfl (c_X8_secondByEfforts p2 k2 (by omega) hK r2 r3 hs.1 hp) (fun vq Mq hq35 => ?_))))
        obtain ⟨rfl, w2, rfl, hf⟩ := hq35
        show WP l X _ md_X8_efforts (38, _, [.inl (enc (efB a.K a.s p2 k2) 10)], _) _
        refine x_goto rfl ?_
        refine x_iret rfl rfl ?_
        exact ok_id (by unfold f_efforts isKd; rw [bq h5, bq h15, ix_nI (by omega), bq h29, ix_nI (by omega)]; rfl) (frS_9 hf) (CRel_Q hr (frQ_S hf))
set_option maxRecDepth 20000 in
theorem c_X8_isRestless {l : Launch} {X : XT} {d Lz : Nat} {w : Nat → Nat → Nat → Nat → Int32} {K : Kg} {s : Sa} (p k : Nat) (hk : k < 3) (hV : KV K) (hK : KX w K) (h : RC w K 0 s) (hs : SV s) (hp : p < K.np) : WP l X (d + 6) md_X8_isRestless (en md_X8_isRestless [.inr (.inr (8, 0, 0)), .inl (nI p), .inl (nI k)] (mk Lz w)) (fun v M' => v = some (.inl (bI (rsA K s k p))) ∧ ∃ w', M' = mk Lz w' ∧ frS 1 w w') := by
  show WP l X _ md_X8_isRestless (0, [some (.inr (.inr (8, 0, 0))), some (.inl (nI p)), some (.inl (nI k))], [], _) _
  refine x_aload_n (pc' := 1) rfl rfl rfl (x_getR (pc' := 4) (t := (6, 0, 0)) rfl rfl rfl (x_iload_n (pc' := 5) rfl rfl rfl (x_invI2 (pc' := 8) rfl rfl rfl rfl (c_X6_isAtCourt _ _ (by have := hV.1; omega)) ?_)))
  rw [show decide (w 6 0 3 p = 0) = coA s p from h.co p hp]
  refine x_if_eq (pc' := 11) rfl rfl (fun h8 => ?_) (fun h8 => ?_)
  · refine x_iconst (pc' := 38) rfl rfl ?_
    refine x_zret rfl rfl (by decide) ?_
    exact ⟨by unfold rsA; rw [bI_eq0.mp h8]; rfl, _, rfl, frS.rf 1 w⟩
  · refine x_aload_n (pc' := 12) rfl rfl rfl (x_aload_n (pc' := 13) rfl rfl rfl (x_getR (pc' := 16) (t := (6, 0, 0)) rfl rfl rfl (x_iload_n (pc' := 17) rfl rfl rfl (x_invQ3 (pc' := 20) rfl rfl rfl rfl rfl (c_X8_secondIn 0 k hk hV hK h) (fun vq Mq hq17 => ?_)))))
    obtain ⟨rfl, w1, rfl, hf1⟩ := hq17
    show WP l X _ md_X8_isRestless (20, _, [.inl (oI (snA K s k))], _) _
    refine x_iload_n (pc' := 21) rfl rfl rfl ?_
    refine x_icmp_eq (pc' := 24) rfl rfl (fun h21 => ?_) (fun h21 => ?_)
    · refine x_iconst (pc' := 38) rfl rfl ?_
      refine x_zret rfl rfl (by decide) ?_
      exact ⟨by unfold rsA; rw [bq h8, dT h21]; rfl, _, rfl, frS.of1 hf1⟩
    · refine x_aload_n (pc' := 25) rfl rfl rfl (x_iload_n (pc' := 26) rfl rfl rfl (x_iload_n (pc' := 27) rfl rfl rfl (x_invQ3 (pc' := 30) rfl rfl rfl rfl rfl (c_X8_secondByEfforts p k hk hV (KX_1 hK hf1) (RC_1 h hf1) hs hp) (fun vq Mq hq27 => ?_))))
      obtain ⟨rfl, w2, rfl, hf2⟩ := hq27
      show WP l X _ md_X8_isRestless (30, _, [.inl (enc (efB K s p k) 10)], _) _
      refine x_if_eq (pc' := 33) rfl rfl (fun h30 => ?_) (fun h30 => ?_)
      · refine x_iconst (pc' := 38) rfl rfl ?_
        refine x_zret rfl rfl (by decide) ?_
        exact ⟨by unfold rsA; rw [bq h8, dF h21, dT h30]; rfl, _, rfl, (frS.of1 hf1).tr hf2⟩
      · refine x_iconst (pc' := 34) rfl rfl (x_goto rfl ?_)
        refine x_zret rfl rfl (by decide) ?_
        exact ⟨by unfold rsA; rw [bq h8, dF h21, dF h30]; rfl, _, rfl, (frS.of1 hf1).tr hf2⟩
set_option maxRecDepth 20000 in
theorem l_X8_restless {l : Launch} {X : XT} {d Lz : Nat} {w : Nat → Nat → Nat → Nat → Int32} {K : Kg} {s : Sa} (k : Nat) (hk : k < 3) (hV : KV K) (hK : KX w K) (h : RC w K 0 s) (hs : SV s) : ∀ (kk n : Nat), ∀ (wn : WF), frS 1 w wn →  n ≤ K.np → K.np + 1 ≤ n + kk → WP l X (d + 7) md_X8_restless (14, [some (.inr (.inr (8, 0, 0))), some (.inl (nI k)), some (.inl (enc (rsA K s k) n)), some (.inl (nI n))], [], mk Lz wn) (fun v M' => v = some (.inl (enc (rsA K s k) K.np)) ∧ ∃ w', M' = mk Lz w' ∧ frS 1 w w') := by
  intro kk
  induction kk with
  | zero =>
    intro n wn hf h1 h2
    exact absurd h2 (by omega)
  | succ kk ih =>
    intro n wn hf hi1 hi2
    have hv7 := hV.1
    refine x_iload_n (pc' := 15) rfl rfl rfl (x_aload_n (pc' := 16) rfl rfl rfl (x_getR5 (pc' := 19) rfl rfl rfl (x_getI (pc' := 22) rfl rfl rfl ?_)))
    rw [(KX_S hK hf).2.2.1]
    refine x_icmp_geN (pc' := 25) rfl rfl (by omega) (by omega) (fun h22 => ?_) (fun h22 => ?_)
    · refine x_iload_n (pc' := 47) rfl rfl rfl ?_
      refine x_iret rfl rfl ?_
      have e : n = K.np := by omega
      subst e
      exact ⟨rfl, _, rfl, hf⟩
    · refine x_aload_n (pc' := 26) rfl rfl rfl (x_iload_n (pc' := 27) rfl rfl rfl (x_iload_n (pc' := 28) rfl rfl rfl (x_invQ3 (pc' := 31) rfl rfl rfl rfl rfl (c_X8_isRestless n k hk hV (KX_S hK hf) (RC_S h hf) hs h22) (fun vq Mq hq28 => ?_))))
      obtain ⟨rfl, w2, rfl, hf2⟩ := hq28
      show WP l X _ md_X8_restless (31, _, [.inl (bI (rsA K s k n))], _) _
      refine x_if_eq (pc' := 34) rfl rfl (fun h31 => ?_) (fun h31 => ?_)
      · refine x_iinc3 (pc' := 43) rfl rfl rfl (nI_add _ _) (x_goto rfl ?_)
        exact WPc (ih (n + 1) w2 (hf.tr hf2) (by omega) (by omega)) (by first | rw [← enc_t (f := rsA K s k) (bq h31)] | rw [← enc_f (f := rsA K s k) (bI_eq0.mp h31)]) rfl
      · refine x_iload_n (pc' := 35) rfl rfl rfl (x_iconst (pc' := 36) rfl rfl (x_iload_n (pc' := 37) rfl rfl rfl (x_ishl (pc' := 38) rfl rfl (x_ior (pc' := 39) rfl rfl (x_istore_n2 (pc' := 40) rfl rfl rfl ?_)))))
        refine x_iinc3 (pc' := 43) rfl rfl rfl (nI_add _ _) (x_goto rfl ?_)
        exact WPc (ih (n + 1) w2 (hf.tr hf2) (by omega) (by omega)) (by first | rw [← enc_t (f := rsA K s k) (bq h31)] | rw [← enc_f (f := rsA K s k) (bI_eq0.mp h31)]) rfl
set_option maxRecDepth 20000 in
theorem C_X8_restless {l : Launch} {X : XT} {d Lz : Nat} {w : WF} {a : AS} (h : CRel w a) (hV : AVl a) (k : Int32) : okC l X (d + 7) Lz md_X8_restless [.inl (k)] w (f_restless a k) (a) := by
  have hr := h
  obtain ⟨r1, r2, r3, r4, r5, r6, r7, r8, r9, r10⟩ := h
  have hK := hV.1
  have hv7 := hK.1
  have hv4 := hK.2.1
  have hs := hV.2.1
  have hnp := r2.2.2.1
  show WP l X _ md_X8_restless (0, [some (.inr (.inr (8, 0, 0))), some (.inl (k)), none, none], [], _) _
  refine x_iload_n (pc' := 1) rfl rfl rfl (x_invS1 (pc' := 4) rfl rfl rfl rfl (c_X8_isKind _) ?_)
  refine x_if_ne (pc' := 7) rfl rfl (fun h4 => ?_) (fun h4 => ?_)
  · refine x_ldc (pc' := 9) rfl rfl ?_
    refine x_iret rfl rfl ?_
    exact ok_id (by unfold f_restless isKd; rw [bI_eq0.mp h4]; rfl) (fun _ _ _ _ _ => rfl) hr
  · obtain ⟨k2, -, hk2, rfl⟩ := in_num (by omega) (bq h4) (by omega)
    refine x_iconst (pc' := 11) rfl rfl (x_istore_n2 (pc' := 12) rfl rfl rfl (x_iconst (pc' := 13) rfl rfl (x_istore_n3 (pc' := 14) rfl rfl rfl ?_)))
    refine wp_cons (l_X8_restless (d := d) k2 (by omega) hK r2 r3 hs.1 (a.K.np + 1) 0 w (frS.rf 1 w) (by omega) (by omega)) (fun v M hq => ?_)
    obtain ⟨rfl, w2, rfl, hf⟩ := hq
    exact ok_id (by unfold f_restless isKd; rw [bq h4, ix_nI (by omega)]; rfl) (frS_9 hf) (CRel_Q hr (frQ_S hf))
theorem idA_0 (s : Sa) (x : Int32) : idA s x 0 = s := by
  show ((s.1, (fun q => if q < 0 ∧ has x q = true then nI 0 else s.e q), s.2.2) : Sa) = s
  have e : (fun q => if q < 0 ∧ has x q = true then nI 0 else s.e q) = s.2.1 := by
    funext q
    rw [if_neg (by omega)]; rfl
  rw [e]
theorem idA_t {s : Sa} {x : Int32} {n : Nat} (h : has x n = true) : (idA s x n).setE n (nI 0) = idA s x (n + 1) := by
  show ((s.1, (fun q => if q = n then nI 0 else (if q < n ∧ has x q = true then nI 0 else s.e q)), s.2.2) : Sa) = (s.1, (fun q => if q < n + 1 ∧ has x q = true then nI 0 else s.e q), s.2.2)
  have e : (fun q => if q = n then nI 0 else (if q < n ∧ has x q = true then nI 0 else s.e q)) = (fun q => if q < n + 1 ∧ has x q = true then nI 0 else s.e q) := by
    funext q
    by_cases z : q = n
    · rw [if_pos z, if_pos ⟨by omega, by rw [z]; exact h⟩]
    · rw [if_neg z]
      by_cases y : q < n ∧ has x q = true
      · rw [if_pos y, if_pos ⟨by omega, y.2⟩]
      · rw [if_neg y, if_neg (fun t => y ⟨by omega, t.2⟩)]
  rw [e]
theorem idA_f {s : Sa} {x : Int32} {n : Nat} (h : has x n = false) : idA s x n = idA s x (n + 1) := by
  show ((s.1, (fun q => if q < n ∧ has x q = true then nI 0 else s.e q), s.2.2) : Sa) = (s.1, (fun q => if q < n + 1 ∧ has x q = true then nI 0 else s.e q), s.2.2)
  have e : (fun q => if q < n ∧ has x q = true then nI 0 else s.e q) = (fun q => if q < n + 1 ∧ has x q = true then nI 0 else s.e q) := by
    funext q
    by_cases y : q < n ∧ has x q = true
    · rw [if_pos y, if_pos ⟨by omega, y.2⟩]
    · rw [if_neg y, if_neg (fun t => y ⟨by
        by_cases z : q = n
        · rw [z, h] at t; cases t.2
        · omega, t.2⟩)]
  rw [e]
set_option maxRecDepth 20000 in
theorem l_X8_isSecondIfLet {l : Launch} {X : XT} {d Lz : Nat} {w : Nat → Nat → Nat → Nat → Int32} {K : Kg} {s : Sa} (p k : Nat) (x : Int32) (hk : k < 3) (hV : KV K) (hK : KX w K) (h : RC w K 0 s) (hs : SV s) : ∀ (kk n : Nat), ∀ (wn : WF), RC wn K 1 (idA s x n) → frS 1 w wn →  n ≤ K.np → K.np + 1 ≤ n + kk → WP l X (d + 5) md_X8_isSecondIfLet (14, [some (.inr (.inr (8, 0, 0))), some (.inl (nI p)), some (.inl (nI k)), some (.inl (x)), some (.inl (nI n))], [], mk Lz wn) (fun v M' => v = some (.inl (bI (lwA K s p k x))) ∧ ∃ w', M' = mk Lz w' ∧ frS 1 w w') := by
  intro kk
  induction kk with
  | zero =>
    intro n wn hi hf h1 h2
    exact absurd h2 (by omega)
  | succ kk ih =>
    intro n wn hi hf hi1 hi2
    have hv7 := hV.1
    refine x_iload (pc' := 16) rfl rfl rfl (x_aload_n (pc' := 17) rfl rfl rfl (x_getR5 (pc' := 20) rfl rfl rfl (x_getI (pc' := 23) rfl rfl rfl ?_)))
    rw [(KX_S hK hf).2.2.1]
    refine x_icmp_geN (pc' := 26) rfl rfl (by omega) (by omega) (fun h23 => ?_) (fun h23 => ?_)
    · have e : n = K.np := by omega
      have hi2 : RC wn K 1 (idA s x K.np) := by rw [← e]; exact hi
      refine x_aload_n (pc' := 54) rfl rfl rfl (x_aload_n (pc' := 55) rfl rfl rfl (x_getR (pc' := 58) (t := (6, 1, 0)) rfl rfl rfl (x_iload_n (pc' := 59) rfl rfl rfl (x_invQ3 (pc' := 62) rfl rfl rfl rfl rfl (c_X8_secondIn 1 k hk hV (KX_S hK hf) hi2) (fun vq Mq hq59 => ?_)))))
      obtain ⟨rfl, w2, rfl, hf2⟩ := hq59
      show WP l X _ md_X8_isSecondIfLet (62, _, [.inl (oI (snA K (idA s x K.np) k))], _) _
      refine x_iload_n (pc' := 63) rfl rfl rfl ?_
      refine x_icmp_ne (pc' := 66) rfl rfl (fun h63 => ?_) (fun h63 => ?_)
      · refine x_iconst (pc' := 67) rfl rfl (x_goto rfl ?_)
        refine x_zret rfl rfl (by decide) ?_
        first | exact ⟨by unfold lwA; rw [dT h63]; rfl, _, rfl, hf.tr (frS.of1 hf2)⟩ | exact ⟨by unfold lwA; rw [dF h63]; rfl, _, rfl, hf.tr (frS.of1 hf2)⟩
      · refine x_iconst (pc' := 71) rfl rfl ?_
        refine x_zret rfl rfl (by decide) ?_
        first | exact ⟨by unfold lwA; rw [dT h63]; rfl, _, rfl, hf.tr (frS.of1 hf2)⟩ | exact ⟨by unfold lwA; rw [dF h63]; rfl, _, rfl, hf.tr (frS.of1 hf2)⟩
    · refine x_iload_n (pc' := 27) rfl rfl rfl (x_iload (pc' := 29) rfl rfl rfl (x_ishr (pc' := 30) rfl rfl (x_iconst (pc' := 31) rfl rfl (x_iand (pc' := 32) rfl rfl (x_iconst (pc' := 33) rfl rfl ?_)))))
      refine x_icmp_ne (pc' := 36) rfl rfl (fun h33 => ?_) (fun h33 => ?_)
      · refine x_aload_n (pc' := 37) rfl rfl rfl (x_getR (pc' := 40) (t := (6, 1, 0)) rfl rfl rfl (x_getR (pc' := 43) (t := (6, _, 2)) rfl rfl rfl (x_iload (pc' := 45) rfl rfl rfl (x_iconst (pc' := 46) rfl rfl (x_iast (pc' := 47) (N := 7) rfl rfl rfl (by decide) rfl (by omega) (by decide) ?_)))))
        refine x_iinc4 (pc' := 50) rfl rfl rfl (nI_add _ _) (x_goto rfl ?_)
        exact ih (n + 1) _ (by rw [← idA_t (hT h33)]; exact RC_setE hi) (hf.u _ _ _) (by omega) (by omega)
      · refine x_iinc4 (pc' := 50) rfl rfl rfl (nI_add _ _) (x_goto rfl ?_)
        exact ih (n + 1) _ (by rw [← idA_f (hF h33)]; exact hi) hf (by omega) (by omega)
set_option maxRecDepth 20000 in
theorem c_X8_isSecondIfLet {l : Launch} {X : XT} {d Lz : Nat} {w : Nat → Nat → Nat → Nat → Int32} {K : Kg} {s : Sa} (p k : Nat) (x : Int32) (hk : k < 3) (hV : KV K) (hK : KX w K) (h : RC w K 0 s) (hs : SV s) : WP l X (d + 5) md_X8_isSecondIfLet (en md_X8_isSecondIfLet [.inr (.inr (8, 0, 0)), .inl (nI p), .inl (nI k), .inl (x)] (mk Lz w)) (fun v M' => v = some (.inl (bI (lwA K s p k x))) ∧ ∃ w', M' = mk Lz w' ∧ frS 1 w w') := by
  show WP l X _ md_X8_isSecondIfLet (0, [some (.inr (.inr (8, 0, 0))), some (.inl (nI p)), some (.inl (nI k)), some (.inl (x)), none], [], _) _
  refine x_aload_n (pc' := 1) rfl rfl rfl (x_getR (pc' := 4) (t := (6, 1, 0)) rfl rfl rfl (x_aload_n (pc' := 5) rfl rfl rfl (x_getR (pc' := 8) (t := (6, 0, 0)) rfl rfl rfl (x_invQ2 (pc' := 11) rfl rfl rfl rfl (c_X6_copyFrom 1 0 (by omega) (by rw [h.2.2.2.2.2.1]; exact hs.1)) (fun vq Mq hq8 => ?_)))))
  obtain ⟨rfl, w1, rfl, hc⟩ := hq8
  show WP l X _ md_X8_isSecondIfLet (11, _, [], _) _
  refine x_iconst (pc' := 12) rfl rfl (x_istore4 (pc' := 14) rfl rfl rfl ?_)
  exact l_X8_isSecondIfLet p k x hk hV hK h hs (K.np + 1) 0 w1 (by rw [idA_0]; exact RC_cpy h hc) hc.fr (by omega) (by omega)
section
variable {K : Kg} {s : Sa} {p k m : Nat} {b : Option Nat}
theorem lwC_1 (h : ¬ nI m &&& (otA K s p ^^^ -1) = 0) : lwC K s p k m b = false := by unfold lwC; rw [dF h]; rfl
theorem lwC_2 (h : fwr m b = false) : lwC K s p k m b = false := by unfold lwC; rw [h]; simp
theorem lwC_3 (h : bI (lwA K s p k (nI m)) = 0) : lwC K s p k m b = false := by unfold lwC; rw [bI_eq0.mp h]; simp
theorem lwC_4 (h : nI m &&& (otA K s p ^^^ -1) = 0) (h2 : fwr m b = true) (h3 : ¬ bI (lwA K s p k (nI m)) = 0) : lwC K s p k m b = true := by unfold lwC; rw [dT h, h2, bq h3]; rfl
end
set_option maxRecDepth 20000 in
theorem r_X8_fewest {l : Launch} {X : XT} {d Lz : Nat} {w : Nat → Nat → Nat → Nat → Int32} {K : Kg} {s : Sa} (p k ot : Nat) (hk : k < 3) (hV : KV K) (hK : KX w K) (h : RC w K 0 s) (hs : SV s) (hot : otA K s p = nI ot) (h128 : ot < 128) (n : Nat) (hn : n ≤ ot) (b : Option Nat) (hb : lwf K s p k n = b) (hbl : ∀ x, b = some x → x < 128) (wn : WF) (hf : frS 1 w wn) (ih : ∀ (wn : WF) (z : Option AV) (b : Option Nat), lwf K s p k (n + 1) = b → frS 1 w wn → WP l X (d + 6) md_X8_fewestWhoLet (24, [some (.inr (.inr (8, 0, 0))), some (.inl (nI p)), some (.inl (nI k)), some (.inl (nI ot)), some (.inl (oI b)), some (.inl (nI (n + 1))), z], [], mk Lz wn) (fun v M' => v = some (.inl (oI (lwf K s p k (ot + 1)))) ∧ ∃ w', M' = mk Lz w' ∧ frS 1 w w')) : WP l X (d + 6) md_X8_fewestWhoLet (56, [some (.inr (.inr (8, 0, 0))), some (.inl (nI p)), some (.inl (nI k)), some (.inl (nI ot)), some (.inl (oI b)), some (.inl (nI n)), some (.inl (bI (fwr n b)))], [], mk Lz wn) (fun v M' => v = some (.inl (oI (lwf K s p k (ot + 1)))) ∧ ∃ w', M' = mk Lz w' ∧ frS 1 w w') := by
  refine x_iload (pc' := 58) rfl rfl rfl (x_iload_n (pc' := 59) rfl rfl rfl (x_iconst (pc' := 60) rfl rfl (x_ixor (pc' := 61) rfl rfl (x_iand (pc' := 62) rfl rfl ?_))))
  refine x_if_ne (pc' := 65) rfl rfl (fun h62 => ?_) (fun h62 => ?_)
  · refine x_iload (pc' := 67) rfl rfl rfl ?_
    refine x_if_eq (pc' := 70) rfl rfl (fun h67 => ?_) (fun h67 => ?_)
    · refine x_iinc5 (pc' := 88) rfl rfl rfl (nI_add _ _) (x_goto rfl ?_)
      exact ih _ _ b (lwf_f hb (lwC_2 (bI_eq0.mp h67))) hf
    · refine x_aload_n (pc' := 71) rfl rfl rfl (x_iload_n (pc' := 72) rfl rfl rfl (x_iload_n (pc' := 73) rfl rfl rfl (x_iload (pc' := 75) rfl rfl rfl (x_invQ4 (pc' := 78) rfl rfl rfl rfl rfl rfl (c_X8_isSecondIfLet p k (nI n) hk hV (KX_S hK hf) (RC_S h hf) hs) (fun vq Mq hq75 => ?_)))))
      obtain ⟨rfl, w2, rfl, hf2⟩ := hq75
      show WP l X _ md_X8_fewestWhoLet (78, _, [.inl (bI (lwA K s p k (nI n)))], _) _
      refine x_if_eq (pc' := 81) rfl rfl (fun h78 => ?_) (fun h78 => ?_)
      · refine x_iinc5 (pc' := 88) rfl rfl rfl (nI_add _ _) (x_goto rfl ?_)
        exact ih _ _ b (lwf_f hb (lwC_3 h78)) (hf.tr hf2)
      · refine x_iload (pc' := 83) rfl rfl rfl (x_istore4 (pc' := 85) rfl rfl rfl (x_iinc5 (pc' := 88) rfl rfl rfl (nI_add _ _) (x_goto rfl ?_)))
        exact ih _ _ (some n) (lwf_t hb (lwC_4 (by rw [hot]; exact h62) (bq h67) h78)) (hf.tr hf2)
  · refine x_iinc5 (pc' := 88) rfl rfl rfl (nI_add _ _) (x_goto rfl ?_)
    exact ih _ _ b (lwf_f hb (lwC_1 (by rw [hot]; exact h62))) hf
set_option maxRecDepth 20000 in
theorem l_X8_fewestWhoLet {l : Launch} {X : XT} {d Lz : Nat} {w : Nat → Nat → Nat → Nat → Int32} {K : Kg} {s : Sa} (p k ot : Nat) (hk : k < 3) (hV : KV K) (hK : KX w K) (h : RC w K 0 s) (hs : SV s) (hot : otA K s p = nI ot) (h128 : ot < 128) : ∀ (kk n : Nat), ∀ (wn : WF) (z : Option AV) (b : Option Nat), lwf K s p k n = b → frS 1 w wn →  n ≤ (ot + 1) → (ot + 1) + 1 ≤ n + kk → WP l X (d + 6) md_X8_fewestWhoLet (24, [some (.inr (.inr (8, 0, 0))), some (.inl (nI p)), some (.inl (nI k)), some (.inl (nI ot)), some (.inl (oI b)), some (.inl (nI n)), z], [], mk Lz wn) (fun v M' => v = some (.inl (oI (lwf K s p k (ot + 1)))) ∧ ∃ w', M' = mk Lz w' ∧ frS 1 w w') := by
  intro kk
  induction kk with
  | zero =>
    intro n wn z b hb hf h1 h2
    exact absurd h2 (by omega)
  | succ kk ih =>
    intro n wn z b hb hf hi1 hi2
    have hv7 := hV.1
    cases b with
    | none =>
      show WP l X _ md_X8_fewestWhoLet (24, [some (.inr (.inr (8, 0, 0))), some (.inl (nI p)), some (.inl (nI k)), some (.inl (nI ot)), some (.inl (-1)), some (.inl (nI n)), z], [], _) _
      refine x_iload (pc' := 26) rfl rfl rfl (x_iload_n (pc' := 27) rfl rfl rfl ?_)
      refine x_icmp_gtN (pc' := 30) rfl rfl (by omega) (by omega) (fun h27 => ?_) (fun h27 => ?_)
      · refine x_iload (pc' := 93) rfl rfl rfl ?_
        refine x_iret rfl rfl ?_
        have e : n = ot + 1 := by omega
        subst e
        exact ⟨by rw [hb]; rfl, _, rfl, hf⟩
      · refine x_iload (pc' := 32) rfl rfl rfl (x_iconst (pc' := 33) rfl rfl ?_)
        refine x_icmp_eq (pc' := 36) rfl rfl (fun h33 => ?_) (fun h33 => absurd rfl h33)
        refine x_iconst (pc' := 50) rfl rfl (x_goto rfl (x_istore6 (pc' := 56) rfl rfl rfl ?_))
        exact r_X8_fewest p k ot hk hV hK h hs hot h128 n (by omega) none hb (fun x e => by cases e) wn hf (fun wn z b a1 a2 => ih (n + 1) wn z b a1 a2 (by omega) (by omega))
    | some x =>
      have hxl := lwf_lt n x hb
      have hp1 := pop_le 7 n
      have hp2 := pop_le 7 x
      show WP l X _ md_X8_fewestWhoLet (24, [some (.inr (.inr (8, 0, 0))), some (.inl (nI p)), some (.inl (nI k)), some (.inl (nI ot)), some (.inl (nI x)), some (.inl (nI n)), z], [], _) _
      refine x_iload (pc' := 26) rfl rfl rfl (x_iload_n (pc' := 27) rfl rfl rfl ?_)
      refine x_icmp_gtN (pc' := 30) rfl rfl (by omega) (by omega) (fun h27 => ?_) (fun h27 => ?_)
      · refine x_iload (pc' := 93) rfl rfl rfl ?_
        refine x_iret rfl rfl ?_
        have e : n = ot + 1 := by omega
        subst e
        exact ⟨by rw [hb]; rfl, _, rfl, hf⟩
      · refine x_iload (pc' := 32) rfl rfl rfl (x_iconst (pc' := 33) rfl rfl ?_)
        refine x_icmp_eq (pc' := 36) rfl rfl (fun h33 => absurd h33 (nI_ne1 (by omega))) (fun h33 => ?_)
        refine x_iload (pc' := 38) rfl rfl rfl (x_invS1 (pc' := 41) rfl rfl rfl rfl (c_J6_bitCount_0f7a4 _) ?_)
        rw [bc_pop n (by omega)]
        refine x_iload (pc' := 43) rfl rfl rfl (x_invS1 (pc' := 46) rfl rfl rfl rfl (c_J6_bitCount_0f7a4 _) ?_)
        rw [bc_pop x (by omega)]
        refine x_icmp_geN (pc' := 49) rfl rfl (by omega) (by omega) (fun h46 => ?_) (fun h46 => ?_)
        · refine x_iconst (pc' := 54) rfl rfl (x_istore6 (pc' := 56) rfl rfl rfl ?_)
          refine WPc (r_X8_fewest p k ot hk hV hK h hs hot h128 n (by omega) (some x) hb (fun y e => by cases e; omega) wn hf (fun wn z b a1 a2 => ih (n + 1) wn z b a1 a2 (by omega) (by omega))) (by rw [show fwr n (some x) = false from dF (by omega)]; rfl) rfl
        · refine x_iconst (pc' := 50) rfl rfl (x_goto rfl (x_istore6 (pc' := 56) rfl rfl rfl ?_))
          refine WPc (r_X8_fewest p k ot hk hV hK h hs hot h128 n (by omega) (some x) hb (fun y e => by cases e; omega) wn hf (fun wn z b a1 a2 => ih (n + 1) wn z b a1 a2 (by omega) (by omega))) (by rw [show fwr n (some x) = true from dT (by omega)]; rfl) rfl
set_option maxRecDepth 20000 in
theorem c_X8_fewestWhoLet {l : Launch} {X : XT} {d Lz : Nat} {w : Nat → Nat → Nat → Nat → Int32} {K : Kg} {s : Sa} (p k ot : Nat) (hk : k < 3) (hV : KV K) (hK : KX w K) (h : RC w K 0 s) (hs : SV s) (hot : otA K s p = nI ot) (h128 : ot < 128) : WP l X (d + 6) md_X8_fewestWhoLet (en md_X8_fewestWhoLet [.inr (.inr (8, 0, 0)), .inl (nI p), .inl (nI k)] (mk Lz w)) (fun v M' => v = some (.inl (oI (lwf K s p k (ot + 1)))) ∧ ∃ w', M' = mk Lz w' ∧ frS 1 w w') := by
  show WP l X _ md_X8_fewestWhoLet (0, [some (.inr (.inr (8, 0, 0))), some (.inl (nI p)), some (.inl (nI k)), none, none, none, none], [], _) _
  refine x_aload_n (pc' := 1) rfl rfl rfl (x_getR (pc' := 4) (t := (6, 0, 0)) rfl rfl rfl (x_aload_n (pc' := 5) rfl rfl rfl (x_getR5 (pc' := 8) rfl rfl rfl (x_invI2 (pc' := 11) rfl rfl rfl rfl (c_X6_courtOf 0 _ _ hK.2.2.1 hV.1) ?_))))
  rw [enc_congr (g := coA s) _ (fun q hq => h.co q hq)]
  refine x_iconst (pc' := 12) rfl rfl (x_iload_n (pc' := 13) rfl rfl rfl (x_ishl (pc' := 14) rfl rfl (x_iconst (pc' := 15) rfl rfl (x_ixor (pc' := 16) rfl rfl (x_iand (pc' := 17) rfl rfl ?_)))))
  rw [show enc (coA s) K.np &&& ((nI 1 <<< (nI p &&& 31)) ^^^ -1) = nI ot from hot]
  refine x_istore_n3 (pc' := 18) rfl rfl rfl (x_iconst (pc' := 19) rfl rfl (x_istore4 (pc' := 21) rfl rfl rfl (x_iconst (pc' := 22) rfl rfl (x_istore5 (pc' := 24) rfl rfl rfl ?_))))
  exact l_X8_fewestWhoLet p k ot hk hV hK h hs hot h128 (ot + 2) 0 w _ none rfl (frS.rf 1 w) (by omega) (by omega)
/-- who are others, as a number; and no set beyond it is among them -/
theorem otA_num {K : Kg} (hV : KV K) (s : Sa) {p : Nat} (hp : p < K.np) : ∃ ot, ot < 2 ^ K.np ∧ otA K s p = nI ot ∧ ∀ m, m < 2 ^ 31 → nI m &&& (otA K s p ^^^ -1) = 0 → m ≤ ot := by
  have h7 := hV.1
  have e : otA K s p = enc (fun q => coA s q && !decide (q = p)) K.np := by
    unfold otA
    rw [enc_one (n := K.np) (by omega) hp, enc_diff (by omega)]
  obtain ⟨ot, h1, h2, h3⟩ := enc_num (f := fun q => coA s q && !decide (q = p)) h7
  refine ⟨ot, h1, e.trans h2, fun m hm h0 => ?_⟩
  have h128 : ot < 128 := Nat.lt_of_lt_of_le h1 (Nat.pow_le_pow_right (by decide) h7)
  have hb : ∀ i, m.testBit i = true → ot.testBit i = true := by
    intro i hi
    by_cases z : i < 32
    · have h4 : (nI m &&& (otA K s p ^^^ -1)).toBitVec.getLsbD i = false := by rw [h0]; exact z_bit i z
      rw [and_bit, not_bit _ z, e, h2] at h4
      have h5 : (nI m).toBitVec.getLsbD i = true := by rw [nI_bit m i z]; exact hi
      have h6 : (nI ot).toBitVec.getLsbD i = ot.testBit i := nI_bit ot i z
      rw [h5, h6] at h4
      simpa using h4
    · have : m.testBit i = false := Nat.testBit_lt_two_pow (Nat.lt_of_lt_of_le hm (Nat.pow_le_pow_right (by decide) (by omega)))
      rw [this] at hi; cases hi
  have h4 : m &&& ot = m := by
    apply Nat.eq_of_testBit_eq
    intro i
    rw [Nat.testBit_and]
    cases hi : m.testBit i with
    | false => rfl
    | true => rw [hb i hi]; rfl
  rw [← h4]; exact Nat.and_le_right
theorem lwf_end {K : Kg} {s : Sa} {p k ot : Nat} (h : ∀ m, m < 2 ^ 31 → nI m &&& (otA K s p ^^^ -1) = 0 → m ≤ ot) : ∀ n, ot + 1 ≤ n → n ≤ 128 → lwf K s p k n = lwf K s p k (ot + 1)
  | 0, h1, _ => absurd h1 (by omega)
  | n + 1, h1, h2 => by
    by_cases z : ot = n
    · subst z; rfl
    · rw [lwf_f rfl (lwC_1 (fun e => by have := h n (by omega) e; omega))]
      exact lwf_end h n (by omega) (by omega)
set_option maxRecDepth 20000 in
theorem C_X8_letWin {l : Launch} {X : XT} {d Lz : Nat} {w : WF} {a : AS} (h : CRel w a) (hV : AVl a) (p : Int32) (k : Int32) (x : Int32) : okC l X (d + 7) Lz md_X8_letWin [.inl (p), .inl (k), .inl (x)] w (f_letWin a p k x) (a) := by
  have hr := h
  obtain ⟨r1, r2, r3, r4, r5, r6, r7, r8, r9, r10⟩ := h
  have hK := hV.1
  have hv7 := hK.1
  have hv4 := hK.2.1
  have hs := hV.2.1
  have hnp := r2.2.2.1
  show WP l X _ md_X8_letWin (0, [some (.inr (.inr (8, 0, 0))), some (.inl (p)), some (.inl (k)), some (.inl (x)), none], [], _) _
  refine x_aload_n (pc' := 1) rfl rfl rfl (x_iload_n (pc' := 2) rfl rfl rfl (x_invI2 (pc' := 5) rfl rfl rfl rfl (p_X8_isPerson r2 _) ?_))
  refine x_if_ne (pc' := 8) rfl rfl (fun h5 => ?_) (fun h5 => ?_)
  · refine x_ldc (pc' := 10) rfl rfl ?_
    refine x_iret rfl rfl ?_
    exact ok_id (by unfold f_letWin; rw [bI_eq0.mp h5]; rfl) (fun _ _ _ _ _ => rfl) hr
  · obtain ⟨p2, hp, rfl⟩ := in_np (by omega) (bq h5)
    refine x_iload_n (pc' := 12) rfl rfl rfl (x_invS1 (pc' := 15) rfl rfl rfl rfl (c_X8_isKind _) ?_)
    refine x_if_eq (pc' := 18) rfl rfl (fun h15 => ?_) (fun h15 => ?_)
    · refine x_ldc (pc' := 29) rfl rfl ?_
      refine x_iret rfl rfl ?_
      first | exact ok_id (by unfold f_letWin isKd; rw [bq h5, bI_eq0.mp h15]; rfl) (fun _ _ _ _ _ => rfl) hr | exact ok_id (by unfold f_letWin isKd; rw [bq h5, bq h15, bI_eq0.mp h24]; rfl) (fun _ _ _ _ _ => rfl) hr
    · refine x_iload_n (pc' := 19) rfl rfl rfl (x_iconst (pc' := 20) rfl rfl (x_iconst (pc' := 21) rfl rfl (x_invS3 (pc' := 24) rfl rfl rfl rfl rfl rfl (c_X8_isWithin _ _ _) ?_)))
      refine x_if_ne (pc' := 27) rfl rfl (fun h24 => ?_) (fun h24 => ?_)
      · refine x_ldc (pc' := 29) rfl rfl ?_
        refine x_iret rfl rfl ?_
        first | exact ok_id (by unfold f_letWin isKd; rw [bq h5, bI_eq0.mp h15]; rfl) (fun _ _ _ _ _ => rfl) hr | exact ok_id (by unfold f_letWin isKd; rw [bq h5, bq h15, bI_eq0.mp h24]; rfl) (fun _ _ _ _ _ => rfl) hr
      · obtain ⟨k2, -, hk2, rfl⟩ := in_num (by omega) (bq h15) (by omega)
        obtain ⟨x2, -, hx2, rfl⟩ := in_num (by omega) (bq h24) (by omega)
        refine x_aload_n (pc' := 31) rfl rfl rfl (x_getR (pc' := 34) (t := (6, 0, 0)) rfl rfl rfl (x_iload_n (pc' := 35) rfl rfl rfl (x_invI2 (pc' := 38) rfl rfl rfl rfl (c_X6_isAtCourt _ _ (by omega)) ?_)))
        rw [show decide (w 6 0 3 p2 = 0) = coA a.s p2 from r3.co p2 hp]
        refine x_if_ne (pc' := 41) rfl rfl (fun h38 => ?_) (fun h38 => ?_)
        · refine x_ldc (pc' := 43) rfl rfl ?_
          refine x_iret rfl rfl ?_
          exact ok_id (by unfold f_letWin isKd; rw [bq h5, bq h15, bq h24, ix_nI (by omega), bI_eq0.mp h38]; rfl) (fun _ _ _ _ _ => rfl) hr
        · obtain ⟨ot, g1, g2, g3⟩ := otA_num hK a.s hp
          have g4 : 2 ^ a.K.np ≤ 128 := Nat.pow_le_pow_right (by decide) hv7
          have g5 := lwf_end (k := k2) g3 (2 ^ a.K.np) (by omega) g4
          refine x_aload_n (pc' := 45) rfl rfl rfl (x_iload_n (pc' := 46) rfl rfl rfl (x_iload_n (pc' := 47) rfl rfl rfl (x_invQ3 (pc' := 50) rfl rfl rfl rfl rfl (c_X8_fewestWhoLet p2 k2 ot (by omega) hK r2 r3 hs.1 g2 (by omega)) (fun vq Mq hq47 => ?_))))
          obtain ⟨rfl, w2, rfl, hf⟩ := hq47
          rw [← g5]
          have hv : f_letWin a (nI p2) (nI k2) (nI x2) = (match lwf a.K a.s p2 k2 (2 ^ a.K.np) with | none => -1 | some m => if nI x2 = nI 0 then nI (pop 7 m) else nI m) := by
            unfold f_letWin isKd; rw [bq h5, bq h15, bq h24, ix_nI (by omega), bq h38, ix_nI (by omega)]; rfl
          cases hb : lwf a.K a.s p2 k2 (2 ^ a.K.np) with
          | none =>
            show WP l X _ md_X8_letWin (50, [some (.inr (.inr (8, 0, 0))), some (.inl (nI p2)), some (.inl (nI k2)), some (.inl (nI x2)), none], [.inl (-1)], _) _
            refine x_istore4 (pc' := 52) rfl rfl rfl (x_iload (pc' := 54) rfl rfl rfl (x_iconst (pc' := 55) rfl rfl ?_))
            refine x_icmp_eq (pc' := 58) rfl rfl (fun h55 => ?_) (fun h55 => absurd rfl h55)
            refine x_iload (pc' := 65) rfl rfl rfl (x_goto rfl ?_)
            refine x_iret rfl rfl ?_
            exact ok_id (by rw [hv, hb]) (frS_9 hf) (CRel_Q hr (frQ_S hf))
          | some b =>
            have hbl := lwf_lt _ b hb
            show WP l X _ md_X8_letWin (50, [some (.inr (.inr (8, 0, 0))), some (.inl (nI p2)), some (.inl (nI k2)), some (.inl (nI x2)), none], [.inl (nI b)], _) _
            refine x_istore4 (pc' := 52) rfl rfl rfl (x_iload (pc' := 54) rfl rfl rfl (x_iconst (pc' := 55) rfl rfl ?_))
            refine x_icmp_eq (pc' := 58) rfl rfl (fun h55 => absurd h55 (nI_ne1 (by omega))) (fun h55 => ?_)
            refine x_iload_n (pc' := 59) rfl rfl rfl (x_iconst (pc' := 60) rfl rfl ?_)
            refine x_icmp_neN (pc' := 63) rfl rfl (by omega) (by omega) (fun h60 => ?_) (fun h60 => ?_)
            · refine x_iload (pc' := 65) rfl rfl rfl (x_goto rfl ?_)
              refine x_iret rfl rfl ?_
              first | exact ok_id (by rw [hv, hb, h60]; rfl) (frS_9 hf) (CRel_Q hr (frQ_S hf)) | exact ok_id (by rw [hv, hb, show x2 = 0 by omega]; rfl) (frS_9 hf) (CRel_Q hr (frQ_S hf))
            · refine x_iload (pc' := 70) rfl rfl rfl (x_invS1 (pc' := 73) rfl rfl rfl rfl (c_J6_bitCount_0f7a4 _) ?_)
              rw [bc_pop b (by omega)]
              refine x_iret rfl rfl ?_
              first | exact ok_id (by rw [hv, hb, h60]; rfl) (frS_9 hf) (CRel_Q hr (frQ_S hf)) | exact ok_id (by rw [hv, hb, show x2 = 0 by omega]; rfl) (frS_9 hf) (CRel_Q hr (frQ_S hf))
