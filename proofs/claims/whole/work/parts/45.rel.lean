/-! all that both keep, as such, and how each keeps it -/
abbrev AS : Type := Kg × Sa × (Nat × (Nat → Sa)) × ((Nat → Bool) × (Nat → Sa) × (Nat → Nat)) × Nat × (Nat × (Nat → Nat) × (Nat → Nat)) × (Nat × (Nat → Nat) × (Nat → Int32)) × (Nat × (Nat → Nat)) × Int32
def AS.K (a : AS) : Kg := a.1
def AS.s (a : AS) : Sa := a.2.1
def AS.n (a : AS) : Nat := a.2.2.1.1
def AS.pa (a : AS) : Nat → Sa := a.2.2.1.2
def AS.kp (a : AS) : Nat → Bool := a.2.2.2.1.1
def AS.im (a : AS) : Nat → Sa := a.2.2.2.1.2.1
def AS.is (a : AS) : Nat → Nat := a.2.2.2.1.2.2
def AS.sd (a : AS) : Nat := a.2.2.2.2.1
def AS.sn (a : AS) : Nat := a.2.2.2.2.2.1.1
def AS.se (a : AS) : Nat → Nat := a.2.2.2.2.2.1.2.1
def AS.sm (a : AS) : Nat → Nat := a.2.2.2.2.2.1.2.2
def AS.bn (a : AS) : Nat := a.2.2.2.2.2.2.1.1
def AS.bo (a : AS) : Nat → Nat := a.2.2.2.2.2.2.1.2.1
def AS.bh (a : AS) : Nat → Int32 := a.2.2.2.2.2.2.1.2.2
def AS.tn (a : AS) : Nat := a.2.2.2.2.2.2.2.1.1
def AS.tx (a : AS) : Nat → Nat := a.2.2.2.2.2.2.2.1.2
def AS.fl (a : AS) : Int32 := a.2.2.2.2.2.2.2.2
def KX (w : WF) (K : Kg) : Prop := KC w (w 8 0 0 8).toNatClampNeg K
def D2 (w : WF) : Prop := ∃ j, j < 2 ∧ w 8 0 0 8 = nI j ∧ w 8 0 0 9 = nI (1 - j)
def ImC (w : WF) (K : Kg) (kp : Nat → Bool) (im : Nat → Sa) (is : Nat → Nat) : Prop := ∀ i, i < 2 → w 2 i 0 2 = bI (kp i) ∧ (kp i = true → w 2 i 0 1 = nI (is i) ∧ RC w K (32 + i) (im i))
def SeC (w : WF) (n : Nat) (se sm : Nat → Nat) : Prop := w 5 0 0 3 = nI n ∧ ∀ q, q < n → w 5 0 1 q = nI (se q) ∧ w 5 0 2 q = nI (sm q)
def BoC (w : WF) (n : Nat) (bo : Nat → Nat) (bh : Nat → Int32) : Prop := w 0 0 0 2 = nI n ∧ ∀ q, q < n → w 0 0 1 q = nI (bo q) ∧ w 0 0 2 q = bh q
def TxC (w : WF) (n : Nat) (tx : Nat → Nat) : Prop := w 7 0 0 1 = nI n ∧ ∀ q, q < n → w 7 0 1 q = nI (tx q)
def CRel (w : WF) (a : AS) : Prop := D2 w ∧ KX w a.K ∧ RC w a.K 0 a.s ∧ PaC w a.K a.n a.pa ∧ ImC w a.K a.kp a.im a.is ∧ w 8 0 0 10 = nI a.sd ∧ SeC w a.sn a.se a.sm ∧ BoC w a.bn a.bo a.bh ∧ TxC w a.tn a.tx ∧ w 7 0 0 4 = a.fl
def PaM (w : WF) (K : Kg) (n : Nat) (pa : Nat → Sa) : Prop := w 9 0 0 9 = nI n ∧ ∀ m, m < n → RR w K (520 + 130 * m) (pa m)
def ImM (w : WF) (K : Kg) (kp : Nat → Bool) (im : Nat → Sa) (is : Nat → Nat) : Prop := w 9 0 0 10 = enc kp 2 ∧ ∀ i, i < 2 → kp i = true → RR w K (260 + 130 * i) (im i) ∧ w 9 0 1 (260 + 130 * i + 129) = nI (is i)
def SeM (w : WF) (n : Nat) (se sm : Nat → Nat) : Prop := w 9 0 0 16 = nI n ∧ ∀ q, q < n → w 9 0 15 q = nI (se q) ∧ w 9 0 16 q = nI (sm q)
def BoM (w : WF) (n : Nat) (bo : Nat → Nat) (bh : Nat → Int32) : Prop := w 9 0 0 19 = nI n ∧ ∀ q, q < n → w 9 0 18 q = nI (bo q) ∧ w 9 0 19 q = bh q
def TxM (w : WF) (n : Nat) (tx : Nat → Nat) : Prop := w 9 0 0 12 = nI n ∧ ∀ q, q < n → w 9 0 12 q = nI (tx q)
def MRel (w : WF) (a : AS) : Prop := KM w a.K ∧ RR w a.K 0 a.s ∧ PaM w a.K a.n a.pa ∧ ImM w a.K a.kp a.im a.is ∧ w 9 0 1 129 = nI a.sd ∧ SeM w a.sn a.se a.sm ∧ BoM w a.bn a.bo a.bh ∧ TxM w a.tn a.tx ∧ w 9 0 0 13 = a.fl
def SW (s : Sa) : Prop := SV s ∧ s.dd ≤ 90030
def AVl (a : AS) : Prop := KV a.K ∧ SW a.s ∧ (a.n ≤ 30 ∧ ∀ m, m < a.n → SW (a.pa m)) ∧ (∀ i, i < 2 → a.kp i = true → SW (a.im i) ∧ a.is i < 2 ^ 31) ∧ a.sd < 2 ^ 31 ∧ (a.sn ≤ 6 ∧ ∀ q, q < a.sn → a.se q < 10 ∧ a.sm q < 100) ∧ (a.bn ≤ 20 ∧ ∀ q, q < a.bn → a.bo q < a.K.no) ∧ (a.tn ≤ 240 ∧ ∀ q, q < a.tn → a.tx q < 256)
section
variable {w w' : WF} {K : Kg}
theorem D2_cg (e : ∀ q, q < 10 → w' 8 0 0 q = w 8 0 0 q) (h : D2 w) : D2 w' := by
  unfold D2; rw [e 8 (by omega), e 9 (by omega)]; exact h
theorem KX_cg (e : ∀ i o q, w' 4 i o q = w 4 i o q) (e8 : w' 8 0 0 8 = w 8 0 0 8) (h : KX w K) : KX w' K := by
  unfold KX KC; simp only [e, e8]; exact h
theorem PaC_cg {n : Nat} {pa : Nat → Sa} (e : ∀ q, w' 3 0 0 q = w 3 0 0 q) (e6 : ∀ i o q, 2 ≤ i → i < 32 → w' 6 i o q = w 6 i o q) (h : PaC w K n pa) : PaC w' K n pa := by
  obtain ⟨h1, t, h2, h3, h4⟩ := h
  exact ⟨(e 2).trans h1, t, h2, (e 1).trans h3, fun m hm => RC_cg (fun o q => e6 _ o q (by omega) (by omega)) (h4 m hm)⟩
theorem ImC_cg {kp : Nat → Bool} {im : Nat → Sa} {is : Nat → Nat} (e : ∀ i o q, w' 2 i o q = w 2 i o q) (e6 : ∀ i o q, 32 ≤ i → w' 6 i o q = w 6 i o q) (h : ImC w K kp im is) : ImC w' K kp im is := fun i hi => by
  obtain ⟨h1, h2⟩ := h i hi
  exact ⟨(e i 0 2).trans h1, fun hk => ⟨(e i 0 1).trans (h2 hk).1, RC_cg (fun o q => e6 _ o q (by omega)) (h2 hk).2⟩⟩
theorem SeC_cg {n : Nat} {se sm : Nat → Nat} (e : ∀ o q, o ≠ 3 → w' 5 0 o q = w 5 0 o q) (h : SeC w n se sm) : SeC w' n se sm := by
  obtain ⟨h1, h2⟩ := h
  exact ⟨(e 0 3 (by omega)).trans h1, fun q hq => ⟨(e 1 q (by omega)).trans (h2 q hq).1, (e 2 q (by omega)).trans (h2 q hq).2⟩⟩
theorem BoC_cg {n : Nat} {bo : Nat → Nat} {bh : Nat → Int32} (e : ∀ o q, w' 0 0 o q = w 0 0 o q) (h : BoC w n bo bh) : BoC w' n bo bh := by
  unfold BoC; simp only [e]; exact h
theorem TxC_cg {n : Nat} {tx : Nat → Nat} (e : ∀ o q, w' 7 0 o q = w 7 0 o q) (h : TxC w n tx) : TxC w' n tx := by
  unfold TxC; simp only [e]; exact h
theorem RR_cg {x : Nat} {s : Sa} (e : ∀ q, x ≤ q → q < x + 129 → w' 9 0 1 q = w 9 0 1 q) (hV : KV K) (h : RR w K x s) : RR w' K x s := by
  obtain ⟨h1, h2, h3, h4, h5, h6, h7, h8, h9⟩ := h
  have h7v := hV.1
  have h4v := hV.2.1
  exact ⟨fun q hq => (e _ (by omega) (by omega)).trans (h1 q hq), fun q hq => (e _ (by omega) (by omega)).trans (h2 q hq), fun q hq => (e _ (by omega) (by omega)).trans (h3 q hq), fun q hq => (e _ (by omega) (by omega)).trans (h4 q hq), fun q hq => (e _ (by omega) (by omega)).trans (h5 q hq), (e _ (by omega) (by omega)).trans h6, (e _ (by omega) (by omega)).trans h7, (e _ (by omega) (by omega)).trans h8, fun n t a b c => (e _ (by omega) (by omega)).trans (h9 n t a b c)⟩
theorem RR_cp {x y : Nat} {s : Sa} (e : ∀ q, q < 129 → w' 9 0 1 (y + q) = w 9 0 1 (x + q)) (hV : KV K) (h : RR w K x s) : RR w' K y s := by
  obtain ⟨h1, h2, h3, h4, h5, h6, h7, h8, h9⟩ := h
  have h7v := hV.1
  have h4v := hV.2.1
  have e2 : ∀ (c q : Nat), c + q < 129 → w' 9 0 1 (y + c + q) = w 9 0 1 (x + c + q) := fun c q hq => by
    rw [Nat.add_assoc, Nat.add_assoc]; exact e _ hq
  exact ⟨fun q hq => (e q (by omega)).trans (h1 q hq), fun q hq => (e2 21 q (by omega)).trans (h2 q hq), fun q hq => (e2 28 q (by omega)).trans (h3 q hq), fun q hq => (e2 35 q (by omega)).trans (h4 q hq), fun q hq => (e2 42 q (by omega)).trans (h5 q hq), (e 46 (by omega)).trans h6, (e 47 (by omega)).trans h7, (e 48 (by omega)).trans h8, fun n t a b c => (e2 49 _ (by omega)).trans (h9 n t a b c)⟩
theorem PaM_cg {n : Nat} {pa : Nat → Sa} (e0 : w' 9 0 0 9 = w 9 0 0 9) (e : ∀ q, 520 ≤ q → w' 9 0 1 q = w 9 0 1 q) (hV : KV K) (h : PaM w K n pa) : PaM w' K n pa :=
  ⟨e0.trans h.1, fun m hm => RR_cg (fun q h1 _ => e q (by omega)) hV (h.2 m hm)⟩
theorem ImM_cg {kp : Nat → Bool} {im : Nat → Sa} {is : Nat → Nat} (e0 : w' 9 0 0 10 = w 9 0 0 10) (e : ∀ q, 260 ≤ q → q < 520 → w' 9 0 1 q = w 9 0 1 q) (hV : KV K) (h : ImM w K kp im is) : ImM w' K kp im is :=
  ⟨e0.trans h.1, fun i hi hk => ⟨RR_cg (fun q h1 _ => e q (by omega) (by omega)) hV (h.2 i hi hk).1, (e _ (by omega) (by omega)).trans (h.2 i hi hk).2⟩⟩
theorem SeM_cg {n : Nat} {se sm : Nat → Nat} (e0 : w' 9 0 0 16 = w 9 0 0 16) (e1 : ∀ q, w' 9 0 15 q = w 9 0 15 q) (e2 : ∀ q, w' 9 0 16 q = w 9 0 16 q) (h : SeM w n se sm) : SeM w' n se sm := by
  unfold SeM; simp only [e0, e1, e2]; exact h
theorem BoM_cg {n : Nat} {bo : Nat → Nat} {bh : Nat → Int32} (e0 : w' 9 0 0 19 = w 9 0 0 19) (e1 : ∀ q, w' 9 0 18 q = w 9 0 18 q) (e2 : ∀ q, w' 9 0 19 q = w 9 0 19 q) (h : BoM w n bo bh) : BoM w' n bo bh := by
  unfold BoM; simp only [e0, e1, e2]; exact h
theorem TxM_cg {n : Nat} {tx : Nat → Nat} (e0 : w' 9 0 0 12 = w 9 0 0 12) (e1 : ∀ q, w' 9 0 12 q = w 9 0 12 q) (h : TxM w n tx) : TxM w' n tx := by
  unfold TxM; simp only [e0, e1]; exact h
end
/-- what a deed changes -/
def AS.deed (a : AS) (s : Sa) (n : Nat) (pa : Nat → Sa) (sd : Nat) : AS := (a.K, s, (n, pa), a.2.2.2.1, sd, a.2.2.2.2.2)
/-- what questions leave as it is, and what deeds do -/
def frQ (w w' : WF) : Prop := ∀ c i o q, c ≠ 1 → c < 9 → ¬ (c = 6 ∧ i = 1) → ¬ (c = 5 ∧ o = 3) → w' c i o q = w c i o q
def frD (w w' : WF) : Prop := ∀ c i o q, c ≠ 1 → c < 9 → ¬ (c = 6 ∧ i < 32) → ¬ (c = 3 ∧ i = 0 ∧ o = 0) → ¬ (c = 5 ∧ o = 3) → ¬ (c = 8 ∧ o = 0 ∧ q = 10) → w' c i o q = w c i o q
def frM (w w' : WF) : Prop := (∀ i o q, ¬ (i = 0 ∧ (o = 0 ∨ o = 1)) → w' 9 i o q = w 9 i o q) ∧ (∀ q, q ≠ 9 → w' 9 0 0 q = w 9 0 0 q) ∧ (∀ q, 260 ≤ q → q < 520 → w' 9 0 1 q = w 9 0 1 q)
theorem CRel_D {w w' : WF} {a : AS} {s : Sa} {n sd : Nat} {pa : Nat → Sa} (h : CRel w a) (hf : frD w w') (h0 : RC w' a.K 0 s) (hp : PaC w' a.K n pa) (hs : w' 8 0 0 10 = nI sd) : CRel w' (a.deed s n pa sd) := by
  obtain ⟨r1, r2, r3, r4, r5, r6, r7, r8, r9, r10⟩ := h
  exact ⟨D2_cg (fun q hq => hf 8 0 0 q (by omega) (by omega) (by omega) (by omega) (by omega) (by omega)) r1, KX_cg (fun i o q => hf 4 i o q (by omega) (by omega) (by omega) (by omega) (by omega) (by omega)) (hf 8 0 0 8 (by omega) (by omega) (by omega) (by omega) (by omega) (by omega)) r2, h0, hp, ImC_cg (fun i o q => hf 2 i o q (by omega) (by omega) (by omega) (by omega) (by omega) (by omega)) (fun i o q hi => hf 6 i o q (by omega) (by omega) (by omega) (by omega) (by omega) (by omega)) r5, hs, SeC_cg (fun o q ho => hf 5 0 o q (by omega) (by omega) (by omega) (by omega) (by omega) (by omega)) r7, BoC_cg (fun o q => hf 0 0 o q (by omega) (by omega) (by omega) (by omega) (by omega) (by omega)) r8, TxC_cg (fun o q => hf 7 0 o q (by omega) (by omega) (by omega) (by omega) (by omega) (by omega)) r9, (hf 7 0 0 4 (by omega) (by omega) (by omega) (by omega) (by omega) (by omega)).trans r10⟩
theorem CRel_Q {w w' : WF} {a : AS} (h : CRel w a) (hf : frQ w w') : CRel w' a := by
  obtain ⟨r1, r2, r3, r4, r5, r6, r7, r8, r9, r10⟩ := h
  exact CRel_D (s := a.s) (n := a.n) (pa := a.pa) (sd := a.sd) ⟨r1, r2, r3, r4, r5, r6, r7, r8, r9, r10⟩ (fun c i o q h1 h2 h3 h4 h5 h6 => hf c i o q h1 h2 (by omega) h5) (RC_cg (fun o q => hf 6 0 o q (by omega) (by omega) (by omega) (by omega)) r3) (PaC_cg (fun q => hf 3 0 0 q (by omega) (by omega) (by omega) (by omega)) (fun i o q h1 h2 => hf 6 i o q (by omega) (by omega) (by omega) (by omega)) r4) ((hf 8 0 0 10 (by omega) (by omega) (by omega) (by omega)).trans r6)
theorem MRel_D {w w' : WF} {a : AS} {s : Sa} {n sd : Nat} {pa : Nat → Sa} (hV : KV a.K) (h : MRel w a) (hf : frM w w') (h0 : RR w' a.K 0 s) (hp : PaM w' a.K n pa) (hs : w' 9 0 1 129 = nI sd) : MRel w' (a.deed s n pa sd) := by
  obtain ⟨r1, r2, r3, r4, r5, r6, r7, r8, r9⟩ := h
  obtain ⟨f1, f2, f3⟩ := hf
  have e : ∀ o, 2 ≤ o → ∀ q, w' 9 0 o q = w 9 0 o q := fun o ho q => f1 0 o q (by omega)
  refine ⟨?_, h0, hp, ImM_cg (f2 10 (by omega)) f3 hV r4, hs, SeM_cg (f2 16 (by omega)) (e 15 (by omega)) (e 16 (by omega)) r6, BoM_cg (f2 19 (by omega)) (e 18 (by omega)) (e 19 (by omega)) r7, TxM_cg (f2 12 (by omega)) (e 12 (by omega)) r8, (f2 13 (by omega)).trans r9⟩
  show KM w' a.K
  unfold KM
  rw [f2 4 (by omega), f2 5 (by omega), f2 6 (by omega), f2 8 (by omega), f2 7 (by omega)]
  simp only [e 2 (by omega), e 3 (by omega), e 4 (by omega)]
  exact r1
/-- what questions leave as it is in the reference -/
def frT (w w' : WF) : Prop := fr9 w w' ∧ ∀ q, q < 130 ∨ 260 ≤ q → w' 9 0 1 q = w 9 0 1 q
theorem MRel_Q {w w' : WF} {a : AS} (hV : KV a.K) (h : MRel w a) (hf : frT w w') : MRel w' a := by
  obtain ⟨f1, f2⟩ := hf
  have h' := h
  obtain ⟨r1, r2, r3, r4, r5, r6, r7, r8, r9⟩ := h
  exact MRel_D (s := a.s) (n := a.n) (pa := a.pa) (sd := a.sd) hV h' ⟨fun i o q hn => f1 9 i o q (by omega), fun q _ => f1 9 0 0 q (by omega), fun q h1 h2 => f2 q (by omega)⟩ (RR_cg (fun q h1 h2 => f2 q (by omega)) hV r2) (PaM_cg (f1 9 0 0 9 (by omega)) (fun q hq => f2 q (by omega)) hV r3) ((f2 129 (by omega)).trans r5)
theorem CRel_9 {w w' : WF} {a : AS} (h : CRel w a) (hf : ∀ c i o q, c ≠ 9 → w' c i o q = w c i o q) : CRel w' a := CRel_Q h (fun c i o q _ h9 _ _ => hf c i o q (by omega))
theorem MRel_9 {w w' : WF} {a : AS} (hV : KV a.K) (h : MRel w a) (hf : ∀ c i o q, 9 ≤ c → w' c i o q = w c i o q) : MRel w' a := by
  obtain ⟨r1, r2, r3, r4, r5, r6, r7, r8, r9⟩ := h
  have e : ∀ o q, w' 9 0 o q = w 9 0 o q := fun o q => hf 9 0 o q (by omega)
  exact ⟨by unfold KM; simp only [e]; exact r1, by unfold RR; simp only [e]; exact r2, by unfold PaM RR; simp only [e]; exact r3, by unfold ImM RR; simp only [e]; exact r4, by rw [e]; exact r5, by unfold SeM; simp only [e]; exact r6, by unfold BoM; simp only [e]; exact r7, by unfold TxM; simp only [e]; exact r8, by rw [e]; exact r9⟩
/-- a call on either, answered by r, and what is kept then -/
def okC (l : Launch) (X : XT) (d Lz : Nat) (md : MD) (as : List AV) (w : WF) (r : Int32) (a' : AS) : Prop := WP l X d md (en md (.inr (.inr (8, 0, 0)) :: as) (mk Lz w)) (fun v M' => v = some (.inl r) ∧ ∃ w', M' = mk Lz w' ∧ (∀ c i o q, 9 ≤ c → w' c i o q = w c i o q) ∧ CRel w' a')
def okM (l : Launch) (X : XT) (d Lz : Nat) (md : MD) (as : List AV) (w : WF) (r : Int32) (a' : AS) : Prop := WP l X d md (en md (.inr (.inr (9, 0, 0)) :: as) (mk Lz w)) (fun v M' => v = some (.inl r) ∧ ∃ w', M' = mk Lz w' ∧ (∀ c i o q, c ≠ 9 → w' c i o q = w c i o q) ∧ MRel w' a')
theorem ok_id {w : WF} {Lz : Nat} {P : WF → Prop} {R : WF → Prop} {x y : Int32} (e : x = y) (hR : R w) (hP : P w) : some (Sum.inl x) = (some (Sum.inl y) : Option AV) ∧ ∃ w', mk Lz w = mk Lz w' ∧ R w' ∧ P w' := ⟨by rw [e], w, rfl, hR, hP⟩
def ix (x : Int32) : Nat := x.toNatClampNeg
theorem ix_nI {n : Nat} (h : n < 2 ^ 31) : ix (nI n) = n := nI_clamp h
theorem in_num {x : Int32} {c e : Nat} (he : e < 2 ^ 31) (h : inB x (nI c) (nI e) = true) (hc : c < 2 ^ 31) : ∃ m, c ≤ m ∧ m ≤ e ∧ x = nI m := by
  simp only [inB, Bool.and_eq_true, decide_eq_true_eq] at h
  have h0 : ¬ x < 0 := fun z => by
    have h1 := Int32.lt_iff_toInt_lt.mp z
    have h2 := Int32.le_iff_toInt_le.mp h.1
    rw [nI_toInt hc] at h2
    have h3 : (0 : Int32).toInt = 0 := by decide
    omega
  obtain ⟨m, hm, rfl⟩ := nI_of h0
  exact ⟨m, (nI_leI hc hm).mp h.1, (nI_leI hm he).mp h.2, rfl⟩
theorem in_np {x : Int32} {n : Nat} (hn : n < 2 ^ 31) (h : inB x (nI 0) (nI n - nI 1) = true) : ∃ m, m < n ∧ x = nI m := by
  cases n with
  | zero =>
    exfalso
    simp only [inB, Bool.and_eq_true, decide_eq_true_eq] at h
    have h1 := Int32.le_iff_toInt_le.mp (Int32.le_trans h.1 h.2)
    revert h1
    decide
  | succ n =>
    have e : nI (n + 1) - nI 1 = nI n := by
      rw [← nI_add]; exact Int32.add_sub_cancel _ _
    rw [e] at h
    obtain ⟨m, _, h2, h3⟩ := in_num (by omega) h (by omega)
    exact ⟨m, by omega, h3⟩
