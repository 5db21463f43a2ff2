/-! deeds -/
def Sa.setE (s : Sa) (p : Nat) (v : Int32) : Sa := (s.1, (fun q => if q = p then v else s.e q), s.2.2)
def Sa.setR (s : Sa) (v : Int32) : Sa := (s.1, s.2.1, s.2.2.1, s.2.2.2.1, s.2.2.2.2.1, v, s.2.2.2.2.2.2)
def Sa.setG (s : Sa) (p : Nat) (v : Int32) : Sa := ((fun q => if q = p then v else s.g q), s.2)
def Sa.setC (s : Sa) (p : Nat) (v : Int32) : Sa := (s.1, s.2.1, (fun q => if q = p then v else s.co q), s.2.2.2)
def Sa.off (s : Sa) (t : Int32) (p : Nat) : Sa := (s.1, s.2.1, (fun q => if q = p then t else s.co q), s.2.2.2.1, (fun q => if s.ho q = nI p then -1 else s.ho q), s.2.2.2.2.2)
def AS.rem (a : AS) (s : Sa) (sd : Nat) : AS := a.deed s (min (a.n + 1) 30) (psh a.n a.pa a.s) sd
section
variable {w : WF} {K : Kg} {s : Sa} {i x p : Nat} {v : Int32}
theorem RC_setE (h : RC w K i s) : RC (u4 w 6 i 2 p v) K i (s.setE p v) := by
  obtain ⟨h1, h2, h3, h4, h5, h6, h7, h8, h9⟩ := h
  refine ⟨fun q hq => by rw [u4_ne (by intro z; cases z)]; exact h1 q hq, fun q hq => ?_, fun q hq => by rw [u4_ne (by intro z; cases z)]; exact h3 q hq, fun q hq => by rw [u4_ne (by intro z; cases z)]; exact h4 q hq, fun q hq => by rw [u4_ne (by intro z; cases z)]; exact h5 q hq, by rw [u4_ne (by intro z; cases z)]; exact h6, by rw [u4_ne (by intro z; cases z)]; exact h7, by rw [u4_ne (by intro z; cases z)]; exact h8, fun n t a b c => by rw [u4_ne (by intro z; cases z)]; exact h9 n t a b c⟩
  rw [u4_at]
  show _ = if q = p then v else s.e q
  rw [h2 q hq]
theorem RC_setR (h : RC w K i s) : RC (u4 w 6 i 0 8 v) K i (s.setR v) := by
  obtain ⟨h1, h2, h3, h4, h5, h6, h7, h8, h9⟩ := h
  exact ⟨fun q hq => by rw [u4_ne (by intro z; cases z)]; exact h1 q hq, fun q hq => by rw [u4_ne (by intro z; cases z)]; exact h2 q hq, fun q hq => by rw [u4_ne (by intro z; cases z)]; exact h3 q hq, fun q hq => by rw [u4_ne (by intro z; cases z)]; exact h4 q hq, fun q hq => by rw [u4_ne (by intro z; cases z)]; exact h5 q hq, u4_self _ _ _ _ _ _, by rw [u4_k (by omega)]; exact h7, by rw [u4_k (by omega)]; exact h8, fun n t a b c => by rw [u4_ne (by intro z; cases z)]; exact h9 n t a b c⟩
theorem RC_setG (h : RC w K i s) : RC (u4 w 6 i 1 p v) K i (s.setG p v) := by
  obtain ⟨h1, h2, h3, h4, h5, h6, h7, h8, h9⟩ := h
  refine ⟨fun q hq => ?_, fun q hq => by rw [u4_ne (by intro z; cases z)]; exact h2 q hq, fun q hq => by rw [u4_ne (by intro z; cases z)]; exact h3 q hq, fun q hq => by rw [u4_ne (by intro z; cases z)]; exact h4 q hq, fun q hq => by rw [u4_ne (by intro z; cases z)]; exact h5 q hq, by rw [u4_ne (by intro z; cases z)]; exact h6, by rw [u4_ne (by intro z; cases z)]; exact h7, by rw [u4_ne (by intro z; cases z)]; exact h8, fun n t a b c => by rw [u4_ne (by intro z; cases z)]; exact h9 n t a b c⟩
  rw [u4_at]
  show _ = if q = p then v else s.g q
  rw [h1 q hq]
theorem RC_setC (h : RC w K i s) : RC (u4 w 6 i 3 p v) K i (s.setC p v) := by
  obtain ⟨h1, h2, h3, h4, h5, h6, h7, h8, h9⟩ := h
  refine ⟨fun q hq => by rw [u4_ne (by intro z; cases z)]; exact h1 q hq, fun q hq => by rw [u4_ne (by intro z; cases z)]; exact h2 q hq, fun q hq => ?_, fun q hq => by rw [u4_ne (by intro z; cases z)]; exact h4 q hq, fun q hq => by rw [u4_ne (by intro z; cases z)]; exact h5 q hq, by rw [u4_ne (by intro z; cases z)]; exact h6, by rw [u4_ne (by intro z; cases z)]; exact h7, by rw [u4_ne (by intro z; cases z)]; exact h8, fun n t a b c => by rw [u4_ne (by intro z; cases z)]; exact h9 n t a b c⟩
  rw [u4_at]
  show _ = if q = p then v else s.co q
  rw [h3 q hq]
theorem RC_off {w' : WF} (h : RC w K i s) (ht : TCi w i p v K.no w') : RC w' K i (s.off v p) := by
  obtain ⟨h1, h2, h3, h4, h5, h6, h7, h8, h9⟩ := h
  obtain ⟨t1, t2, t3, t4⟩ := ht
  refine ⟨fun q hq => (t1 6 i 1 q (by omega)).trans (h1 q hq), fun q hq => (t1 6 i 2 q (by omega)).trans (h2 q hq), fun q hq => ?_, fun q hq => (t1 6 i 4 q (by omega)).trans (h4 q hq), fun q hq => ?_, (t1 6 i 0 8 (by omega)).trans h6, (t1 6 i 0 7 (by omega)).trans h7, (t1 6 i 0 6 (by omega)).trans h8, fun n t a b c => (t1 6 i 6 _ (by omega)).trans (h9 n t a b c)⟩
  · rw [t2, h3 q hq]; rfl
  · rw [t3 q hq, h5 q hq]; rfl
theorem RR_setE (hV : KV K) (h : RR w K x s) (hp : p < 7) : RR (u4 w 9 0 1 (x + 21 + p) v) K x (s.setE p v) := by
  obtain ⟨h1, h2, h3, h4, h5, h6, h7, h8, h9⟩ := h
  have v7 := hV.1
  have v4 := hV.2.1
  refine ⟨fun q hq => by rw [u4_k (by omega)]; exact h1 q hq, fun q hq => ?_, fun q hq => by rw [u4_k (by omega)]; exact h3 q hq, fun q hq => by rw [u4_k (by omega)]; exact h4 q hq, fun q hq => by rw [u4_k (by omega)]; exact h5 q hq, by rw [u4_k (by omega)]; exact h6, by rw [u4_k (by omega)]; exact h7, by rw [u4_k (by omega)]; exact h8, fun n t a b c => by rw [u4_k (by omega)]; exact h9 n t a b c⟩
  rw [u4_at]
  show _ = if q = p then v else s.e q
  by_cases z : q = p
  · rw [if_pos (by omega), if_pos z]
  · rw [if_neg (by omega), if_neg z]; exact h2 q hq
theorem RR_setR (hV : KV K) (h : RR w K x s) : RR (u4 w 9 0 1 (x + 46) v) K x (s.setR v) := by
  obtain ⟨h1, h2, h3, h4, h5, h6, h7, h8, h9⟩ := h
  have v7 := hV.1
  have v4 := hV.2.1
  exact ⟨fun q hq => by rw [u4_k (by omega)]; exact h1 q hq, fun q hq => by rw [u4_k (by omega)]; exact h2 q hq, fun q hq => by rw [u4_k (by omega)]; exact h3 q hq, fun q hq => by rw [u4_k (by omega)]; exact h4 q hq, fun q hq => by rw [u4_k (by omega)]; exact h5 q hq, u4_self _ _ _ _ _ _, by rw [u4_k (by omega)]; exact h7, by rw [u4_k (by omega)]; exact h8, fun n t a b c => by rw [u4_k (by omega)]; exact h9 n t a b c⟩
theorem RR_setG (hV : KV K) (h : RR w K x s) (hp : p < 21) : RR (u4 w 9 0 1 (x + p) v) K x (s.setG p v) := by
  obtain ⟨h1, h2, h3, h4, h5, h6, h7, h8, h9⟩ := h
  have v7 := hV.1
  have v4 := hV.2.1
  refine ⟨fun q hq => ?_, fun q hq => by rw [u4_k (by omega)]; exact h2 q hq, fun q hq => by rw [u4_k (by omega)]; exact h3 q hq, fun q hq => by rw [u4_k (by omega)]; exact h4 q hq, fun q hq => by rw [u4_k (by omega)]; exact h5 q hq, by rw [u4_k (by omega)]; exact h6, by rw [u4_k (by omega)]; exact h7, by rw [u4_k (by omega)]; exact h8, fun n t a b c => by rw [u4_k (by omega)]; exact h9 n t a b c⟩
  rw [u4_at]
  show _ = if q = p then v else s.g q
  by_cases z : q = p
  · rw [if_pos (by omega), if_pos z]
  · rw [if_neg (by omega), if_neg z]; exact h1 q hq
theorem RR_setC (hV : KV K) (h : RR w K x s) (hp : p < 7) : RR (u4 w 9 0 1 (x + 28 + p) v) K x (s.setC p v) := by
  obtain ⟨h1, h2, h3, h4, h5, h6, h7, h8, h9⟩ := h
  have v7 := hV.1
  have v4 := hV.2.1
  refine ⟨fun q hq => by rw [u4_k (by omega)]; exact h1 q hq, fun q hq => by rw [u4_k (by omega)]; exact h2 q hq, fun q hq => ?_, fun q hq => by rw [u4_k (by omega)]; exact h4 q hq, fun q hq => by rw [u4_k (by omega)]; exact h5 q hq, by rw [u4_k (by omega)]; exact h6, by rw [u4_k (by omega)]; exact h7, by rw [u4_k (by omega)]; exact h8, fun n t a b c => by rw [u4_k (by omega)]; exact h9 n t a b c⟩
  rw [u4_at]
  show _ = if q = p then v else s.co q
  by_cases z : q = p
  · rw [if_pos (by omega), if_pos z]
  · rw [if_neg (by omega), if_neg z]; exact h3 q hq
theorem RR_off {w' : WF} (hV : KV K) (h : RR w K x s) (ht : GOi w x p v K.no w') : RR w' K x (s.off v p) := by
  obtain ⟨h1, h2, h3, h4, h5, h6, h7, h8, h9⟩ := h
  obtain ⟨t0, t1, t2, t3, t4⟩ := ht
  have v7 := hV.1
  have v4 := hV.2.1
  refine ⟨fun q hq => (t1 _ (by omega) (by omega)).trans (h1 q hq), fun q hq => (t1 _ (by omega) (by omega)).trans (h2 q hq), fun q hq => ?_, fun q hq => (t1 _ (by omega) (by omega)).trans (h4 q hq), fun q hq => ?_, (t1 _ (by omega) (by omega)).trans h6, (t1 _ (by omega) (by omega)).trans h7, (t1 _ (by omega) (by omega)).trans h8, fun n t a b c => (t1 _ (by omega) (by omega)).trans (h9 n t a b c)⟩
  · rw [t2 q (by omega), h3 q hq]; rfl
  · rw [t3 q hq, h5 q hq]; rfl
end
theorem bt_enc {f : Nat → Bool} {n : Nat} (hn : n ≤ 7) : btV (enc f n) 7 = bcV (enc f n) := by
  obtain ⟨m, hm, e, -⟩ := enc_num (f := f) hn
  have h7 : m < 128 := Nat.lt_of_lt_of_le hm (Nat.pow_le_pow_right (by decide) hn)
  rw [e, bt_pop m h7, bc_pop m h7]
def f_effort (a : AS) (p e : Int32) : Int32 × AS := bif isP a p then (bif inB e (nI 0) (nI 9) then (a.s.e (ix p), a.rem (a.s.setE (ix p) e) a.sd) else (OUTS, a)) else (UNK, a)
def f_rain (a : AS) (v : Int32) : Int32 × AS := if a.K.law = -1 then (NOTT, a) else (a.s.rn, a.rem (a.s.setR v) a.sd)
def f_teach (a : AS) (p k v : Int32) : Int32 × AS := bif isP a p then (bif isKd k && inB v (nI 0) (nI 9) then (a.s.g (ix p * 3 + ix k), a.rem (a.s.setG (ix p * 3 + ix k) v) a.sd) else (OUTS, a)) else (UNK, a)
def f_send (a : AS) (p : Int32) : Int32 × AS := bif isP a p then (bif coA a.s (ix p) then (bcV (enc (coA (a.s.off a.K.term (ix p))) a.K.np), a.rem (a.s.off a.K.term (ix p)) a.sd) else (NOTT, a)) else (UNK, a)
def f_recall (a : AS) (p : Int32) : Int32 × AS := bif isP a p then (bif coA a.s (ix p) then (NOTT, a) else (bcV (enc (coA (a.s.setC (ix p) (nI 0))) a.K.np), a.rem (a.s.setC (ix p) (nI 0)) a.sd)) else (UNK, a)
def f_undo (a : AS) (n : Int32) : Int32 × AS := bif inB n (nI 1) (nI 30) then (if ix n ≤ a.n then (nI (a.pa (a.n - ix n)).dd, a.deed (a.pa (a.n - ix n)) (a.n - ix n) a.pa a.sd) else (NOTT, a)) else (OUTS, a)
/-- it is remembered -/
theorem rem_C {l : Launch} {X : XT} {d Lz : Nat} {w : WF} {a : AS} (h : CRel w a) (hs : SV a.s) (h30 : a.n ≤ 30) : WP l X (d + 2) md_X3_remember (en md_X3_remember [.inr (.inr (3, 0, 0)), .inr (.inr (6, 0, 0))] (mk Lz w)) (fun v M' => v = none ∧ ∃ w', M' = mk Lz w' ∧ CRel w' (a.rem a.s a.sd) ∧ (∀ c i o q, 9 ≤ c → w' c i o q = w c i o q)) :=
  wp_cons (c_X3_remember a.n a.pa h.2.2.1 hs h.2.2.2.1 h30) (fun v M hq => by
    obtain ⟨rfl, w', rfl, h1, h2⟩ := hq
    refine ⟨rfl, w', rfl, CRel_D h (fun c i o q _ _ h3 h4 _ _ => h2 c i o q h4 (by omega)) (RC_cg (fun o q => h2 6 0 o q (by omega) (by omega)) h.2.2.1) h1 ((h2 8 0 0 10 (by omega) (by omega)).trans h.2.2.2.2.2.1), fun c i o q hc => h2 c i o q (by omega) (by omega)⟩)
/-- rows of what was so ahead are moved -/
def MVi (w : WF) (K : Kg) (pa : Nat → Sa) (n : Nat) (w' : WF) : Prop := fr9 w w' ∧ (∀ q, q < 520 → w' 9 0 1 q = w 9 0 1 q) ∧ (∀ m, m + 1 < n → RR w' K (520 + 130 * m) (pa (m + 1))) ∧ (∀ m, n ≤ m + 1 → m < 30 → RR w' K (520 + 130 * m) (pa m))
theorem MVi_s {w w' w2 : WF} {K : Kg} {pa : Nat → Sa} {n : Nat} (hV : KV K) (h1 : 1 ≤ n) (h30 : n < 30) (h : MVi w K pa n w') (hc : CRi w' (520 + 130 * n) (520 + 130 * (n - 1)) 130 w2) : MVi w K pa (n + 1) w2 := by
  obtain ⟨a1, a2, a3, a4⟩ := h
  obtain ⟨c1, c2, c3⟩ := hc
  refine ⟨a1.tr c1, fun q hq => (c2 q (by omega)).trans (a2 q hq), fun m hm => ?_, fun m hm hm2 => RR_cg (fun q b1 b2 => c2 q (by omega)) hV (a4 m (by omega) hm2)⟩
  by_cases z : m = n - 1
  · subst z
    rw [show n - 1 + 1 = n by omega]
    exact RR_cp (fun q hq => c3 q (by omega)) hV (a4 n (by omega) h30)
  · exact RR_cg (fun q b1 b2 => c2 q (by omega)) hV (a3 m (by omega))
def frB (w w' : WF) : Prop := ∀ c i o q, ¬ (c = 9 ∧ i = 0 ∧ o = 1 ∧ 520 ≤ q) → ¬ (c = 9 ∧ i = 0 ∧ o = 0 ∧ q = 9) → w' c i o q = w c i o q
set_option maxRecDepth 20000 in
theorem r_X9_remember {l : Launch} {X : XT} {d Lz : Nat} {w : Nat → Nat → Nat → Nat → Int32} {K : Kg} {s : Sa} (n0 : Nat) (pa : Nat → Sa) (hV : KV K) (h0 : RR w K 0 s) (hP : PaM w K n0 pa) (h30 : n0 ≤ 30) (m : Nat) (hm : m < 30) (wn : WF) (hn : wn 9 0 0 9 = nI m) (hf : frB w wn) (hmm : min (n0 + 1) 30 = m + 1) (hr : ∀ q, q < m → RR wn K (520 + 130 * q) (psh n0 pa s q)) (hl : psh n0 pa s m = s) (z : Option AV) : WP l X (d + 2) md_X9_remember (57, [some (.inr (.inr (9, 0, 0))), z], [], mk Lz wn) (fun v M' => v = none ∧ ∃ w', M' = mk Lz w' ∧ PaM w' K (min (n0 + 1) 30) (psh n0 pa s) ∧ frB w w') := by
  refine x_aload_n (pc' := 58) rfl rfl rfl (x_iconst (pc' := 59) rfl rfl (x_sipush (pc' := 62) rfl rfl (x_sipush (pc' := 65) rfl rfl (x_aload_n (pc' := 66) rfl rfl rfl (x_getI (pc' := 69) rfl rfl rfl ?_)))))
  rw [hn]
  refine x_imulN (pc' := 70) rfl rfl (x_iaddN (pc' := 71) rfl rfl (x_invQ3 (pc' := 74) rfl rfl rfl rfl rfl (c_X9_copyRow 0 (520 + 130 * m) (by omega) (by omega) (by omega)) (fun vq Mq hq71 => ?_)))
  obtain ⟨rfl, w2, rfl, hc⟩ := hq71
  show WP l X _ md_X9_remember (74, _, [], _) _
  refine x_aload_n (pc' := 75) rfl rfl rfl (x_dup (pc' := 76) rfl rfl rfl (x_getI (pc' := 79) rfl rfl rfl ?_))
  rw [hc.1 9 0 0 9 (by omega), hn]
  refine x_iconst (pc' := 80) rfl rfl (x_iaddN (pc' := 81) rfl rfl (x_putI (pc' := 84) rfl rfl rfl ?_))
  refine x_vret rfl rfl ?_
  refine ⟨rfl, _, rfl, ⟨by rw [u4_self, hmm], fun q hq => ?_⟩, fun c i o q h1 h2 => ?_⟩
  · refine RR_cg (w := w2) (fun q _ _ => by rw [u4_ne (by decide)]) hV ?_
    by_cases y : q = m
    · subst y
      rw [hl]
      exact RR_cp (fun k hk => hc.2.2 k (by omega)) hV (RR_cg (fun k _ hk => hf 9 0 1 k (by omega) (by omega)) hV h0)
    · exact RR_cg (fun k h1 h2 => hc.2.1 k (by omega)) hV (hr q (by omega))
  · have e1 : u4 w2 9 0 0 9 (nI (m + 1)) c i o q = w2 c i o q := by unfold u4; rw [if_neg (by omega)]
    rw [e1, show w2 c i o q = wn c i o q from ?_]
    · exact hf c i o q h1 h2
    · by_cases y : c = 9 ∧ i = 0 ∧ o = 1
      · obtain ⟨rfl, rfl, rfl⟩ := y
        exact hc.2.1 q (by omega)
      · exact hc.1 c i o q y
set_option maxRecDepth 20000 in
theorem l_X9_remember {l : Launch} {X : XT} {d Lz : Nat} {w : Nat → Nat → Nat → Nat → Int32} {K : Kg} {s : Sa} (n0 : Nat) (pa : Nat → Sa) (hV : KV K) (h0 : RR w K 0 s) (hP : PaM w K n0 pa) (h30 : n0 ≤ 30) (hn0 : n0 = 30) : ∀ (kk n : Nat), ∀ (wn : WF), MVi w K pa n wn → 1 ≤ n →  n ≤ 30 → 30 + 1 ≤ n + kk → WP l X (d + 2) md_X9_remember (11, [some (.inr (.inr (9, 0, 0))), some (.inl (nI n))], [], mk Lz wn) (fun v M' => v = none ∧ ∃ w', M' = mk Lz w' ∧ PaM w' K (min (n0 + 1) 30) (psh n0 pa s) ∧ frB w w') := by
  intro kk
  induction kk with
  | zero =>
    intro n wn hi hn1 h1 h2
    exact absurd h2 (by omega)
  | succ kk ih =>
    intro n wn hi hn1 hi1 hi2
    refine x_iload_n (pc' := 12) rfl rfl rfl (x_bipush (pc' := 14) rfl rfl ?_)
    refine x_icmp_geN (pc' := 17) rfl rfl (by omega) (by omega) (fun h14 => ?_) (fun h14 => ?_)
    · refine x_aload_n (pc' := 48) rfl rfl rfl (x_dup (pc' := 49) rfl rfl rfl (x_getI (pc' := 52) rfl rfl rfl ?_))
      have hP1 : w 9 0 0 9 = nI 30 := by rw [hP.1, hn0]
      rw [hi.1 9 0 0 9 (by omega), hP1]
      refine x_iconst (pc' := 53) rfl rfl (x_isubN (pc' := 54) rfl rfl (by first | assumption | omega) (x_putI (pc' := 57) rfl rfl rfl ?_))
      have e : n = 30 := by omega
      subst e
      refine r_X9_remember n0 pa hV h0 hP h30 29 (by omega) _ (u4_self _ _ _ _ _ _) (fun c i o q h1 h2 => ?_) (by omega) (fun q hq => ?_) (by unfold psh; rw [if_pos hn0, if_pos rfl]) _
      · have e1 : u4 wn 9 0 0 9 (nI (30 - 1)) c i o q = wn c i o q := by unfold u4; rw [if_neg (by omega)]
        refine e1.trans ?_
        by_cases y : c = 9 ∧ i = 0 ∧ o = 1
        · obtain ⟨rfl, rfl, rfl⟩ := y
          exact hi.2.1 q (by omega)
        · exact hi.1 c i o q y
      · refine RR_cg (w := wn) (fun k _ _ => by rw [u4_ne (by decide)]) hV ?_
        unfold psh
        rw [if_pos hn0, if_neg (by omega)]
        exact hi.2.2.1 q (by omega)
    · refine x_aload_n (pc' := 18) rfl rfl rfl (x_sipush (pc' := 21) rfl rfl (x_sipush (pc' := 24) rfl rfl (x_iload_n (pc' := 25) rfl rfl rfl (x_imulN (pc' := 26) rfl rfl (x_iaddN (pc' := 27) rfl rfl ?_)))))
      refine x_sipush (pc' := 30) rfl rfl (x_sipush (pc' := 33) rfl rfl (x_iload_n (pc' := 34) rfl rfl rfl (x_iconst (pc' := 35) rfl rfl (x_isubN (pc' := 36) rfl rfl (by first | assumption | omega) (x_imulN (pc' := 37) rfl rfl ?_)))))
      refine x_iaddN (pc' := 38) rfl rfl (x_invQ3 (pc' := 41) rfl rfl rfl rfl rfl (c_X9_copyRow (520 + 130 * n) (520 + 130 * (n - 1)) (by omega) (by omega) (by omega)) (fun vq Mq hq38 => ?_))
      obtain ⟨rfl, w2, rfl, hc⟩ := hq38
      show WP l X _ md_X9_remember (41, _, [], _) _
      refine x_iinc1 (pc' := 44) rfl rfl rfl (nI_add _ _) (x_goto rfl ?_)
      exact ih (n + 1) _ (MVi_s hV hn1 (by omega) hi hc) (by omega) (by omega) (by omega)
set_option maxRecDepth 20000 in
theorem c_X9_remember {l : Launch} {X : XT} {d Lz : Nat} {w : Nat → Nat → Nat → Nat → Int32} {K : Kg} {s : Sa} (n0 : Nat) (pa : Nat → Sa) (hV : KV K) (h0 : RR w K 0 s) (hP : PaM w K n0 pa) (h30 : n0 ≤ 30) : WP l X (d + 2) md_X9_remember (en md_X9_remember [.inr (.inr (9, 0, 0))] (mk Lz w)) (fun v M' => v = none ∧ ∃ w', M' = mk Lz w' ∧ PaM w' K (min (n0 + 1) 30) (psh n0 pa s) ∧ frB w w') := by
  show WP l X _ md_X9_remember (0, [some (.inr (.inr (9, 0, 0))), none], [], _) _
  refine x_aload_n (pc' := 1) rfl rfl rfl (x_getI (pc' := 4) rfl rfl rfl ?_)
  rw [hP.1]
  refine x_bipush (pc' := 6) rfl rfl ?_
  refine x_icmp_neN (pc' := 9) rfl rfl (by omega) (by omega) (fun h6 => ?_) (fun h6 => ?_)
  · refine x_iconst (pc' := 10) rfl rfl (x_istore_n1 (pc' := 11) rfl rfl rfl ?_)
    exact l_X9_remember n0 pa hV h0 hP h30 h6 30 1 _ ⟨fr9.rf w, fun _ _ => rfl, fun m hm => absurd hm (by omega), fun m _ hm => hP.2 m (by omega)⟩ (by omega) (by omega) (by omega)
  · refine r_X9_remember n0 pa hV h0 hP h30 n0 (by omega) _ hP.1 (fun _ _ _ _ _ _ => rfl) (by omega) (fun q hq => ?_) (by unfold psh; rw [if_neg h6, if_pos rfl]) _
    unfold psh
    rw [if_neg h6, if_neg (by omega)]
    exact hP.2 q hq
theorem rem_M {l : Launch} {X : XT} {d Lz : Nat} {w : WF} {a : AS} (h : MRel w a) (hK : KV a.K) (h30 : a.n ≤ 30) : WP l X (d + 2) md_X9_remember (en md_X9_remember [.inr (.inr (9, 0, 0))] (mk Lz w)) (fun v M' => v = none ∧ ∃ w', M' = mk Lz w' ∧ MRel w' (a.rem a.s a.sd) ∧ (∀ c i o q, c ≠ 9 → w' c i o q = w c i o q)) :=
  wp_cons (c_X9_remember a.n a.pa hK h.2.1 h.2.2.1 h30) (fun v M hq => by
    obtain ⟨rfl, w', rfl, h1, h2⟩ := hq
    refine ⟨rfl, w', rfl, MRel_D hK h ⟨fun i o q hn => h2 9 i o q (by omega) (by omega), fun q hq => h2 9 0 0 q (by omega) (by omega), fun q _ hq => h2 9 0 1 q (by omega) (by omega)⟩ (RR_cg (fun q _ hq => h2 9 0 1 q (by omega) (by omega)) hK h.2.1) h1 ((h2 9 0 1 129 (by omega) (by omega)).trans h.2.2.2.2.1), fun c i o q hc => h2 c i o q (by omega) (by omega)⟩)
