/-! answers, as such -/
abbrev UNK : Int32 := -1000000001
abbrev OUTS : Int32 := -1000000002
abbrev NOTT : Int32 := -1000000003
abbrev FULLL : Int32 := -1000000004
def isP (a : AS) (p : Int32) : Bool := inB p (nI 0) (nI a.K.np - nI 1)
def isO (a : AS) (p : Int32) : Bool := inB p (nI 0) (nI a.K.no - nI 1)
def isKd (k : Int32) : Bool := inB k (nI 0) (nI 2)
def AS.feed (a : AS) (x : Nat) : AS := (a.1, a.2.1, a.2.2.1, a.2.2.2.1, a.2.2.2.2.1, a.2.2.2.2.2.1, a.2.2.2.2.2.2.1, (a.tn + 1, fun q => if q = a.tn then x else a.tx q), a.fl)
def f_feed (a : AS) (x : Int32) : Int32 × AS := bif inB x (nI 0) (nI 255) then (if a.tn < 240 then (nI (a.tn + 1), a.feed (ix x)) else (FULLL, a)) else (OUTS, a)
def f_told (a : AS) (x : Int32) : Int32 := if x = nI 0 then a.K.law else if x = nI 1 then a.K.term else if x = nI 2 then nI a.K.np else if x = nI 3 then nI a.K.no else if x = nI 4 then nI a.K.nt else if x = nI 5 then nI a.tn else if x = nI 6 then nI a.s.dd else if x = nI 7 then a.s.rn else if x = nI 8 then enc (coA a.s) a.K.np else if x = nI 9 then enc (fun o => decide (a.s.ho o = -1)) a.K.no else if x = nI 10 then oI (nrl a.s.ti a.K.np).2 else if x = nI 11 then c1 a.s.g a.K.np a.K.np else if x = nI 12 then brl a.s a.K.np else if x = nI 13 then nI (min a.s.cc 20) else if x = nI 14 then nI a.sn else if x = nI 15 then nI a.bn else if x = nI 16 then nI a.n else OUTS
def f_person (a : AS) (p x : Int32) : Int32 := bif isP a p then (if x = nI 0 then a.s.g (ix p * 3 + 0) else if x = nI 1 then a.s.g (ix p * 3 + 1) else if x = nI 2 then a.s.g (ix p * 3 + 2) else if x = nI 3 then a.K.dr (ix p) else if x = nI 4 then a.s.e (ix p) else if x = nI 5 then a.s.co (ix p) else if x = nI 6 then a.s.ti (ix p) else if x = nI 7 then enc (fun o => decide (a.s.ho o = p)) a.K.no else OUTS) else UNK
def f_office (a : AS) (p x : Int32) : Int32 := bif isO a p then (if x = nI 0 then nI (a.K.ok (ix p)) else if x = nI 1 then a.s.ho (ix p) else OUTS) else UNK
def f_ahead (a : AS) (n : Int32) : Int32 := bif inB n (nI 0) (nI 60) then (if a.K.law = -1 then NOTT else nI (kdA a.K (a.s.dd + ix n))) else OUTS
def f_logged (a : AS) (i x : Int32) : Int32 := bif inB x (nI 0) (nI 3) then lgE a.s i (ix x) else OUTS
def f_mark (a : AS) (p k : Int32) : Int32 := bif isP a p then (bif isKd k then mkA a.K a.s (ix k) (ix p) else OUTS) else UNK
def f_place (a : AS) (p k : Int32) : Int32 := bif isP a p then (bif isKd k then (bif coA a.s (ix p) then (bif fsA a.K a.s (ix k) (ix p) then nI 0 else plA a.K a.s (ix k) (ix p) a.K.np) else -1) else OUTS) else UNK
def f_wouldBe (a : AS) (k x : Int32) : Int32 := bif isKd k && inB x (nI 0) (nI 1) then (if x = 0 then enc (fsA a.K a.s (ix k)) a.K.np else oI (snA a.K a.s (ix k))) else OUTS
def f_next (a : AS) (p : Int32) : Int32 := bif isP a p then enc (fun k => decide (oI (snA a.K a.s k) = p)) 3 else UNK
def f_beats (a : AS) (p q : Int32) : Int32 := bif isP a p && (isP a q && !decide (p = q)) then bI (btA a.s.g (ix p) (ix q)) else UNK
def f_spread (a : AS) (k : Int32) : Int32 := bif isKd k then spA a.s.g (ix k) a.K.np else OUTS
section
variable {l : Launch} {X : XT} {d Lz : Nat} {w : WF} {a : AS}
theorem p_X8_isPerson (h : KX w a.K) (v : Int32) : CT l X (d + 2) md_X8_isPerson [.inr (.inr (8, 0, 0)), .inl v] (mk Lz w) (some (.inl (bI (isP a v)))) (mk Lz w) := by
  have z := c_X8_isPerson (l := l) (X := X) (d := d) (Lz := Lz) (w := w) v
  rw [h.2.2.1] at z
  exact z
theorem p_X8_isOffice (h : KX w a.K) (v : Int32) : CT l X (d + 2) md_X8_isOffice [.inr (.inr (8, 0, 0)), .inl v] (mk Lz w) (some (.inl (bI (isO a v)))) (mk Lz w) := by
  have z := c_X8_isOffice (l := l) (X := X) (d := d) (Lz := Lz) (w := w) v
  rw [h.2.2.2.2.1] at z
  exact z
theorem p_X9_isPerson (h : KM w a.K) (v : Int32) : CT l X (d + 2) md_X9_isPerson [.inr (.inr (9, 0, 0)), .inl v] (mk Lz w) (some (.inl (bI (isP a v)))) (mk Lz w) := by
  have z := c_X9_isPerson (l := l) (X := X) (d := d) (Lz := Lz) (w := w) v
  rw [h.2.2.1] at z
  exact z
theorem p_X9_isOffice (h : KM w a.K) (v : Int32) : CT l X (d + 2) md_X9_isOffice [.inr (.inr (9, 0, 0)), .inl v] (mk Lz w) (some (.inl (bI (isO a v)))) (mk Lz w) := by
  have z := c_X9_isOffice (l := l) (X := X) (d := d) (Lz := Lz) (w := w) v
  rw [h.2.2.2.2.1] at z
  exact z
end
set_option maxRecDepth 20000 in
theorem l_X8_countRings3 {l : Launch} {X : XT} {d Lz : Nat} {w : WF} {a : AS} (hK : KX w a.K) (hV : KV a.K) (h : RC w a.K 0 a.s) (R : Int32) (a1 b : Nat) (ha : a1 < b) (hb : b < a.K.np) {Q : Option AV → Mem → Prop} (hQ : ∀ z, WP l X (d + 4) md_X8_countRings (84, [some (.inr (.inr (8, 0, 0))), some (.inl (c3 a.s.g R a1 b (a.K.np - b - 1))), some (.inl (nI a1)), some (.inl (nI b)), z], [], mk Lz w) Q) : ∀ (kk n : Nat),  n ≤ (a.K.np - b - 1) → (a.K.np - b - 1) + 1 ≤ n + kk → WP l X (d + 4) md_X8_countRings (35, [some (.inr (.inr (8, 0, 0))), some (.inl (c3 a.s.g R a1 b n)), some (.inl (nI a1)), some (.inl (nI b)), some (.inl (nI (b + 1 + n)))], [], mk Lz w) (Q) := by
  intro kk
  induction kk with
  | zero =>
    intro n h1 h2
    exact absurd h2 (by omega)
  | succ kk ih =>
    intro n hi1 hi2
    have hv7 := hV.1
    have hnp := hK.2.2.1
    refine x_iload (pc' := 37) rfl rfl rfl (x_aload_n (pc' := 38) rfl rfl rfl (x_getR5 (pc' := 41) rfl rfl rfl (x_getI (pc' := 44) rfl rfl rfl ?_)))
    rw [hnp]
    refine x_icmp_geN (pc' := 47) rfl rfl (by omega) (by omega) (fun h44 => ?_) (fun h44 => ?_)
    · have e : n = a.K.np - b - 1 := by omega
      have e2 : b + 1 + n = a.K.np := by omega
      rw [e2, e]
      exact hQ _
    · refine x_aload_n (pc' := 48) rfl rfl rfl (x_getR (pc' := 51) (t := (6, 0, 0)) rfl rfl rfl (x_iload_n (pc' := 52) rfl rfl rfl (x_iload_n (pc' := 53) rfl rfl rfl (x_iload (pc' := 55) rfl rfl rfl (x_invI4 (pc' := 58) rfl rfl rfl rfl rfl rfl (c_X6_isRing 0 hV h _ _ _ (by omega) (by omega) (by omega)) ?_)))))
      refine x_if_ne (pc' := 61) rfl rfl (fun h58 => ?_) (fun h58 => ?_)
      · refine x_aload_n (pc' := 62) rfl rfl rfl (x_getR (pc' := 65) (t := (6, 0, 0)) rfl rfl rfl (x_iload_n (pc' := 66) rfl rfl rfl (x_iload (pc' := 68) rfl rfl rfl (x_iload_n (pc' := 69) rfl rfl rfl (x_invI4 (pc' := 72) rfl rfl rfl rfl rfl rfl (c_X6_isRing 0 hV h _ _ _ (by omega) (by omega) (by omega)) ?_)))))
        refine x_if_eq (pc' := 75) rfl rfl (fun h72 => ?_) (fun h72 => ?_)
        · refine x_iinc4 (pc' := 81) rfl rfl rfl (nI_add _ _) (x_goto rfl ?_)
          exact WPc (ih (n + 1) (by omega) (by omega)) (by first | rw [← c3_t (b := b) (by show (r1A a.s.g a1 b (b + 1 + n) || r1A a.s.g a1 (b + 1 + n) b) = _; rw [bq h58]; simp)] <;> rfl | rw [← c3_t (b := b) (by show (r1A a.s.g a1 b (b + 1 + n) || r1A a.s.g a1 (b + 1 + n) b) = _; rw [bq h72]; simp)] <;> rfl | rw [← c3_f (b := b) (by show (r1A a.s.g a1 b (b + 1 + n) || r1A a.s.g a1 (b + 1 + n) b) = _; rw [bI_eq0.mp h58, bI_eq0.mp h72]; simp)] <;> rfl) rfl
        · refine x_iinc1 (pc' := 78) rfl rfl rfl rfl (x_iinc4 (pc' := 81) rfl rfl rfl (nI_add _ _) (x_goto rfl ?_))
          exact WPc (ih (n + 1) (by omega) (by omega)) (by first | rw [← c3_t (b := b) (by show (r1A a.s.g a1 b (b + 1 + n) || r1A a.s.g a1 (b + 1 + n) b) = _; rw [bq h58]; simp)] <;> rfl | rw [← c3_t (b := b) (by show (r1A a.s.g a1 b (b + 1 + n) || r1A a.s.g a1 (b + 1 + n) b) = _; rw [bq h72]; simp)] <;> rfl | rw [← c3_f (b := b) (by show (r1A a.s.g a1 b (b + 1 + n) || r1A a.s.g a1 (b + 1 + n) b) = _; rw [bI_eq0.mp h58, bI_eq0.mp h72]; simp)] <;> rfl) rfl
      · refine x_iinc1 (pc' := 78) rfl rfl rfl rfl (x_iinc4 (pc' := 81) rfl rfl rfl (nI_add _ _) (x_goto rfl ?_))
        exact WPc (ih (n + 1) (by omega) (by omega)) (by first | rw [← c3_t (b := b) (by show (r1A a.s.g a1 b (b + 1 + n) || r1A a.s.g a1 (b + 1 + n) b) = _; rw [bq h58]; simp)] <;> rfl | rw [← c3_t (b := b) (by show (r1A a.s.g a1 b (b + 1 + n) || r1A a.s.g a1 (b + 1 + n) b) = _; rw [bq h72]; simp)] <;> rfl | rw [← c3_f (b := b) (by show (r1A a.s.g a1 b (b + 1 + n) || r1A a.s.g a1 (b + 1 + n) b) = _; rw [bI_eq0.mp h58, bI_eq0.mp h72]; simp)] <;> rfl) rfl
set_option maxRecDepth 20000 in
theorem l_X8_countRings2 {l : Launch} {X : XT} {d Lz : Nat} {w : WF} {a : AS} (hK : KX w a.K) (hV : KV a.K) (h : RC w a.K 0 a.s) (R : Int32) (a1 : Nat) (ha : a1 < a.K.np) {Q : Option AV → Mem → Prop} (hQ : ∀ z z2, WP l X (d + 4) md_X8_countRings (90, [some (.inr (.inr (8, 0, 0))), some (.inl (c2 a.s.g a.K.np R a1 (a.K.np - a1 - 1))), some (.inl (nI a1)), z, z2], [], mk Lz w) Q) : ∀ (kk n : Nat), ∀ (z : Option AV),  n ≤ (a.K.np - a1 - 1) → (a.K.np - a1 - 1) + 1 ≤ n + kk → WP l X (d + 4) md_X8_countRings (19, [some (.inr (.inr (8, 0, 0))), some (.inl (c2 a.s.g a.K.np R a1 n)), some (.inl (nI a1)), some (.inl (nI (a1 + 1 + n))), z], [], mk Lz w) (Q) := by
  intro kk
  induction kk with
  | zero =>
    intro n z h1 h2
    exact absurd h2 (by omega)
  | succ kk ih =>
    intro n z hi1 hi2
    have hv7 := hV.1
    have hnp := hK.2.2.1
    refine x_iload_n (pc' := 20) rfl rfl rfl (x_aload_n (pc' := 21) rfl rfl rfl (x_getR5 (pc' := 24) rfl rfl rfl (x_getI (pc' := 27) rfl rfl rfl ?_)))
    rw [hnp]
    refine x_icmp_geN (pc' := 30) rfl rfl (by omega) (by omega) (fun h27 => ?_) (fun h27 => ?_)
    · have e : n = a.K.np - a1 - 1 := by omega
      rw [e]
      exact hQ _ _
    · refine x_iload_n (pc' := 31) rfl rfl rfl (x_iconst (pc' := 32) rfl rfl (x_iaddN (pc' := 33) rfl rfl (x_istore4 (pc' := 35) rfl rfl rfl ?_)))
      refine l_X8_countRings3 hK hV h _ a1 (a1 + 1 + n) (by omega) (by omega) (fun z => ?_) (a.K.np + 1) 0 (by omega) (by omega)
      refine x_iinc3 (pc' := 87) rfl rfl rfl (nI_add _ _) (x_goto rfl ?_)
      exact ih (n + 1) _ (by omega) (by omega)
set_option maxRecDepth 20000 in
theorem l_X8_countRings {l : Launch} {X : XT} {d Lz : Nat} {w : WF} {a : AS} (hK : KX w a.K) (hV : KV a.K) (h : RC w a.K 0 a.s) : ∀ (kk n : Nat), ∀ (z z2 : Option AV),  n ≤ a.K.np → a.K.np + 1 ≤ n + kk → WP l X (d + 4) md_X8_countRings (4, [some (.inr (.inr (8, 0, 0))), some (.inl (c1 a.s.g a.K.np n)), some (.inl (nI n)), z, z2], [], mk Lz w) (fun v M' => v = some (.inl (c1 a.s.g a.K.np a.K.np)) ∧ M' = mk Lz w) := by
  intro kk
  induction kk with
  | zero =>
    intro n z z2 h1 h2
    exact absurd h2 (by omega)
  | succ kk ih =>
    intro n z z2 hi1 hi2
    have hv7 := hV.1
    have hnp := hK.2.2.1
    refine x_iload_n (pc' := 5) rfl rfl rfl (x_aload_n (pc' := 6) rfl rfl rfl (x_getR5 (pc' := 9) rfl rfl rfl (x_getI (pc' := 12) rfl rfl rfl ?_)))
    rw [hnp]
    refine x_icmp_geN (pc' := 15) rfl rfl (by omega) (by omega) (fun h12 => ?_) (fun h12 => ?_)
    · refine x_iload_n (pc' := 97) rfl rfl rfl ?_
      refine x_iret rfl rfl ?_
      have e : n = a.K.np := by omega
      subst e
      exact rI rfl
    · refine x_iload_n (pc' := 16) rfl rfl rfl (x_iconst (pc' := 17) rfl rfl (x_iaddN (pc' := 18) rfl rfl (x_istore_n3 (pc' := 19) rfl rfl rfl ?_)))
      refine l_X8_countRings2 hK hV h _ n h12 (fun z z2 => ?_) (a.K.np + 1) 0 _ (by omega) (by omega)
      refine x_iinc2 (pc' := 93) rfl rfl rfl (nI_add _ _) (x_goto rfl ?_)
      exact ih (n + 1) _ _ (by omega) (by omega)
set_option maxRecDepth 20000 in
theorem c_X8_countRings {l : Launch} {X : XT} {d Lz : Nat} {w : WF} {a : AS} (hK : KX w a.K) (hV : KV a.K) (h : RC w a.K 0 a.s) : CT l X (d + 4) md_X8_countRings [.inr (.inr (8, 0, 0))] (mk Lz w) (some (.inl (c1 a.s.g a.K.np a.K.np))) (mk Lz w) := by
  show WP l X _ md_X8_countRings (0, [some (.inr (.inr (8, 0, 0))), none, none, none, none], [], _) _
  refine x_iconst (pc' := 1) rfl rfl (x_istore_n1 (pc' := 2) rfl rfl rfl (x_iconst (pc' := 3) rfl rfl (x_istore_n2 (pc' := 4) rfl rfl rfl ?_)))
  exact l_X8_countRings hK hV h (a.K.np + 1) 0 _ _ (by omega) (by omega)
section
variable {K : Kg} {s : Sa} {k p q : Nat}
theorem plc_1 (h : bI (coA s q) = 0) : plc K s k p q = false := by unfold plc; rw [bI_eq0.mp h]; rfl
theorem plc_2 (h : ¬ bI (fsA K s k q) = 0) : plc K s k p q = false := by unfold plc; rw [bq h]; simp
theorem plc_3 (h : q = p) : plc K s k p q = false := by unfold plc; rw [dF (fun z => z h)]; simp
theorem plc_4 (h : bI (ahd K.law K.dr (mkA K s k) q p) = 0) : plc K s k p q = false := by unfold plc; rw [bI_eq0.mp h]; simp
theorem plc_5 (h : ¬ bI (coA s q) = 0) (h2 : bI (fsA K s k q) = 0) (h3 : ¬ q = p) (h4 : ¬ bI (ahd K.law K.dr (mkA K s k) q p) = 0) : plc K s k p q = true := by unfold plc; rw [bq h, bI_eq0.mp h2, dT h3, bq h4]; rfl
end
set_option maxRecDepth 20000 in
theorem l_X1_placeOf {l : Launch} {X : XT} {d Lz : Nat} {w : Nat → Nat → Nat → Nat → Int32} (j i k p : Nat) (hk : k < 3) {K : Kg} {s : Sa} (hV : KV K) (hK : KC w j K) (h : RC w K i s) (w0 : WF) (hK0 : KC w0 j K) (h0 : RC w0 K i s) (hr : RK w0 i j k K.np w) (hp : p < K.np) (hfp : fsA K s k p = false) : ∀ (kk n : Nat),  n ≤ K.np → K.np + 1 ≤ n + kk → WP l X (d + 2) md_X1_placeOf (16, [some (.inr (.inr (1, 0, 0))), some (.inr (.inr (4, j, 0))), some (.inr (.inr (6, i, 0))), some (.inl (nI p)), some (.inl (plA K s k p n)), some (.inl (nI n))], [], mk Lz w) (fun v M' => v = some (.inl (bif fsA K s k p then nI 0 else plA K s k p K.np)) ∧ M' = mk Lz w) := by
  intro kk
  induction kk with
  | zero =>
    intro n h1 h2
    exact absurd h2 (by omega)
  | succ kk ih =>
    intro n hi1 hi2
    have hv7 := hV.1
    have hnp := hK.2.2.1
    have hF : ∀ q, q < K.np → has (w 1 0 0 1) q = fsA K s k q := fun q hq => by rw [hr.2.1, has_enc (by omega) hq]; exact h0.fs hK0 hk q hq
    have hA : ∀ q, q < K.np → ahd (w 4 j 0 4) (w 4 j 2) (w 1 0 1) q p = ahd K.law K.dr (mkA K s k) q p := fun q hq => by rw [hK.1]; exact ahd_congr (hK.2.2.2.2.2.1 q hq) (hK.2.2.2.2.2.1 p hp) ((hr.2.2.2.2 q hq).trans (h0.mk hK0 hk q hq)) ((hr.2.2.2.2 p hp).trans (h0.mk hK0 hk p hp))
    have hC : ∀ q, q < K.np → decide (w 6 i 3 q = 0) = coA s q := fun q hq => h.co q hq
    refine x_iload (pc' := 18) rfl rfl rfl (x_aload_n (pc' := 19) rfl rfl rfl (x_getI (pc' := 22) rfl rfl rfl ?_))
    rw [hnp]
    refine x_icmp_geN (pc' := 25) rfl rfl (by omega) (by omega) (fun h22 => ?_) (fun h22 => ?_)
    · refine x_iload (pc' := 71) rfl rfl rfl ?_
      refine x_iret rfl rfl ?_
      have e : n = K.np := by omega
      subst e
      exact rI (by rw [hfp]; rfl)
    · refine x_aload_n (pc' := 26) rfl rfl rfl (x_iload (pc' := 28) rfl rfl rfl (x_invI2 (pc' := 31) rfl rfl rfl rfl (c_X6_isAtCourt _ _ (by omega)) ?_))
      rw [hC n (by omega)]
      refine x_if_eq (pc' := 34) rfl rfl (fun h31 => ?_) (fun h31 => ?_)
      · refine x_iinc5 (pc' := 66) rfl rfl rfl (nI_add _ _) (x_goto rfl ?_)
        exact WPc (ih (n + 1) (by omega) (by omega)) (by first | rw [← plA_f (plc_1 h31)] | rw [← plA_f (plc_2 h40)] | rw [← plA_f (plc_3 h46)] | rw [← plA_f (plc_4 h57)] | rw [← plA_t (plc_5 h31 h40 h46 h57)]) rfl
      · refine x_aload_n (pc' := 35) rfl rfl rfl (x_iload (pc' := 37) rfl rfl rfl (x_invI2 (pc' := 40) rfl rfl rfl rfl (c_X1_isFirst _) ?_))
        rw [hF n (by omega)]
        refine x_if_ne (pc' := 43) rfl rfl (fun h40 => ?_) (fun h40 => ?_)
        · refine x_iload (pc' := 45) rfl rfl rfl (x_iload_n (pc' := 46) rfl rfl rfl ?_)
          refine x_icmp_eqN (pc' := 49) rfl rfl (by omega) (by omega) (fun h46 => ?_) (fun h46 => ?_)
          · refine x_iinc5 (pc' := 66) rfl rfl rfl (nI_add _ _) (x_goto rfl ?_)
            exact WPc (ih (n + 1) (by omega) (by omega)) (by first | rw [← plA_f (plc_1 h31)] | rw [← plA_f (plc_2 h40)] | rw [← plA_f (plc_3 h46)] | rw [← plA_f (plc_4 h57)] | rw [← plA_t (plc_5 h31 h40 h46 h57)]) rfl
          · refine x_aload_n (pc' := 50) rfl rfl rfl (x_aload_n (pc' := 51) rfl rfl rfl (x_iload (pc' := 53) rfl rfl rfl (x_iload_n (pc' := 54) rfl rfl rfl (x_invI4 (pc' := 57) rfl rfl rfl rfl rfl rfl (c_X1_isAheadOf _ _ _ (by omega) (by omega)) ?_))))
            rw [hA n (by omega)]
            refine x_if_eq (pc' := 60) rfl rfl (fun h57 => ?_) (fun h57 => ?_)
            · refine x_iinc5 (pc' := 66) rfl rfl rfl (nI_add _ _) (x_goto rfl ?_)
              exact WPc (ih (n + 1) (by omega) (by omega)) (by first | rw [← plA_f (plc_1 h31)] | rw [← plA_f (plc_2 h40)] | rw [← plA_f (plc_3 h46)] | rw [← plA_f (plc_4 h57)] | rw [← plA_t (plc_5 h31 h40 h46 h57)]) rfl
            · refine x_iinc4 (pc' := 63) rfl rfl rfl rfl (x_iinc5 (pc' := 66) rfl rfl rfl (nI_add _ _) (x_goto rfl ?_))
              exact WPc (ih (n + 1) (by omega) (by omega)) (by first | rw [← plA_f (plc_1 h31)] | rw [← plA_f (plc_2 h40)] | rw [← plA_f (plc_3 h46)] | rw [← plA_f (plc_4 h57)] | rw [← plA_t (plc_5 h31 h40 h46 h57)]) rfl
        · refine x_iinc5 (pc' := 66) rfl rfl rfl (nI_add _ _) (x_goto rfl ?_)
          exact WPc (ih (n + 1) (by omega) (by omega)) (by first | rw [← plA_f (plc_1 h31)] | rw [← plA_f (plc_2 h40)] | rw [← plA_f (plc_3 h46)] | rw [← plA_f (plc_4 h57)] | rw [← plA_t (plc_5 h31 h40 h46 h57)]) rfl
set_option maxRecDepth 20000 in
theorem c_X1_placeOf {l : Launch} {X : XT} {d Lz : Nat} {w : Nat → Nat → Nat → Nat → Int32} (j i k p : Nat) (hk : k < 3) {K : Kg} {s : Sa} (hV : KV K) (hK : KC w j K) (h : RC w K i s) (w0 : WF) (hK0 : KC w0 j K) (h0 : RC w0 K i s) (hr : RK w0 i j k K.np w) (hp : p < K.np) : CT l X (d + 2) md_X1_placeOf [.inr (.inr (1, 0, 0)), .inr (.inr (4, j, 0)), .inr (.inr (6, i, 0)), .inl (nI p)] (mk Lz w) (some (.inl (bif fsA K s k p then nI 0 else plA K s k p K.np))) (mk Lz w) := by
  have hv7 := hV.1
  have hnp := hK.2.2.1
  have hF : ∀ q, q < K.np → has (w 1 0 0 1) q = fsA K s k q := fun q hq => by rw [hr.2.1, has_enc (by omega) hq]; exact h0.fs hK0 hk q hq
  have hA : ∀ q, q < K.np → ahd (w 4 j 0 4) (w 4 j 2) (w 1 0 1) q p = ahd K.law K.dr (mkA K s k) q p := fun q hq => by rw [hK.1]; exact ahd_congr (hK.2.2.2.2.2.1 q hq) (hK.2.2.2.2.2.1 p hp) ((hr.2.2.2.2 q hq).trans (h0.mk hK0 hk q hq)) ((hr.2.2.2.2 p hp).trans (h0.mk hK0 hk p hp))
  have hC : ∀ q, q < K.np → decide (w 6 i 3 q = 0) = coA s q := fun q hq => h.co q hq
  show WP l X _ md_X1_placeOf (0, [some (.inr (.inr (1, 0, 0))), some (.inr (.inr (4, j, 0))), some (.inr (.inr (6, i, 0))), some (.inl (nI p)), none, none], [], _) _
  refine x_aload_n (pc' := 1) rfl rfl rfl (x_iload_n (pc' := 2) rfl rfl rfl (x_invI2 (pc' := 5) rfl rfl rfl rfl (c_X1_isFirst _) ?_))
  rw [hF p hp]
  refine x_if_eq (pc' := 8) rfl rfl (fun h5 => ?_) (fun h5 => ?_)
  · refine x_iconst (pc' := 11) rfl rfl (x_istore4 (pc' := 13) rfl rfl rfl (x_iconst (pc' := 14) rfl rfl (x_istore5 (pc' := 16) rfl rfl rfl ?_)))
    exact l_X1_placeOf j i k p hk hV hK h w0 hK0 h0 hr hp (bI_eq0.mp h5) (K.np + 1) 0 (by omega) (by omega)
  · refine x_iconst (pc' := 9) rfl rfl ?_
    refine x_iret rfl rfl ?_
    exact rI (by rw [bq h5]; rfl)
