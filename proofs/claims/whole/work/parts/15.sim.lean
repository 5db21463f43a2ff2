/-! the memory of the small machine, and the machine's heap -/
def ixOf (a : AA) : List AA → Nat
  | [] => 0
  | b :: l => if b = a then 0 else ixOf a l + 1
theorem ixOf_get (a : AA) : ∀ l : List AA, ixOf a l < l.length → l[ixOf a l]? = some a
  | [], h => by simp at h
  | b :: l, h => by
    unfold ixOf at h ⊢
    by_cases e : b = a
    · simp [e]
    · rw [if_neg e] at h ⊢
      rw [List.getElem?_cons_succ]
      exact ixOf_get a l (by simpa using h)
theorem ixOf_le (a : AA) : ∀ l : List AA, ixOf a l ≤ l.length
  | [] => by simp [ixOf]
  | b :: l => by
    unfold ixOf
    by_cases e : b = a
    · simp [e]
    · rw [if_neg e]; simpa using ixOf_le a l
def sq (a : AA) : Nat := ixOf a ordL
def od (k : Nat) : AA := ordL.getD k (0, 0, 0)
theorem ord_len : ordL.length = 279 := by decide +kernel
theorem sq_od : ∀ k, k < 279 → sq (od k) = k := by decide +kernel
theorem od_sq {a : AA} (h : sq a < 279) : od (sq a) = a := by
  have := ixOf_get a ordL (by rw [ord_len]; exact h)
  unfold od
  rw [List.getD_eq_getElem?_getD]
  show (ordL[ixOf a ordL]?).getD _ = a
  rw [this]; rfl
theorem sq_inj {a b : AA} (h : sq a < 279) (e : sq a = sq b) : a = b := by rw [← od_sq h, e, od_sq (e ▸ h)]
theorem ord_get {k : Nat} {a : AA} (h : ordL[k]? = some a) : k < 279 ∧ od k = a ∧ sq a = k := by
  have hk : k < 279 := by rw [← ord_len]; exact (List.getElem?_eq_some_iff.mp h).1
  have e : od k = a := by unfold od; rw [List.getD_eq_getElem?_getD, h]; rfl
  exact ⟨hk, e, by rw [← e]; exact sq_od k hk⟩
/-- base, numbers of slots, the array kinds, the script -/
abbrev XT : Type := Nat × va_G × (ClassId × ClassId × ClassId) × (Nat × Nat × (Nat → Int32))
abbrev xB (X : XT) : Nat := X.1
abbrev xD (X : XT) : va_G := X.2.1
abbrev xI (X : XT) : ClassId := X.2.2.1.1
abbrev xS (X : XT) : ClassId := X.2.2.1.2.1
abbrev xM (X : XT) : ClassId := X.2.2.1.2.2
abbrev xb (X : XT) : Nat := X.2.2.2.1
abbrev xL (X : XT) : Nat := X.2.2.2.2.1
abbrev xs (X : XT) : Nat → Int32 := X.2.2.2.2.2
abbrev xA (X : XT) : Nat → Prop := fun q => xB X ≤ q
abbrev xT (X : XT) : List (ClassId × FieldType) := [(xI X, .int), (xS X, .object RX6), (xM X, .object RX2)]
def aR (X : XT) (a : AA) : Nat := bif a.1.beq 13 then xb X else xB X + sq a
def tv (X : XT) : AV → Value
  | .inl x => .int x
  | .inr (.inl z) => .long z
  | .inr (.inr a) => .ref (aR X a)
def okA (n : Nat) (a : AA) : Prop := a = (13, 0, 0) ∨ (a.1 < 10 ∧ sq a < n)
def okV (n : Nat) : AV → Prop
  | .inr (.inr a) => okA n a
  | _ => True
def fv (X : XT) (M : Mem) (c i k : Nat) : Value := match fk c k with
  | 0 => .int (M.2.2.2 c i 0 k)
  | 1 => .int (M.2.2.2 c i 0 k)
  | _ + 2 => bif M.2.1 c i k then .ref (xB X + sq (tg M.2.2.2 c i k)) else .null
def cR (X : XT) (c : Nat) : ClassId := bif c.beq 3 then xS X else xM X
def ce (X : XT) (M : Mem) (a : AA) : va_E := match a.2.2 with
  | 0 => .inr (a.1, (List.range (nF a.1)).map (fv X M a.1 a.2.1))
  | o + 1 => bif (fk a.1 o).beq 3 then .inl (cR X a.1, al a.1 (o + 1), .inr (.inr (.inr (.inr (fun j => bif M.2.1 a.1 a.2.1 (1000 + j) then some (xB X + sq (et a.1 j)) else none))))) else .inl (xI X, al a.1 (o + 1), .inl (fun j => M.2.2.2 a.1 a.2.1 (o + 1) j))
def wld (X : XT) (M : Mem) : va_W := (List.range M.1).map (fun k => (xB X + k, ce X M (od k)))
/-- what is set points into what is made -/
def okF (M : Mem) (c i o : Nat) : Prop := (o = 0 → ∀ k, k < nF c → 2 ≤ fk c k → M.2.1 c i k = true → (tg M.2.2.2 c i k).1 < 10 ∧ sq (tg M.2.2.2 c i k) < M.1) ∧ (isRA c o = true → ∀ j, j < al c o → M.2.1 c i (1000 + j) = true → (et c j).1 < 10 ∧ sq (et c j) < M.1)
/-- what isn't made yet is blank -/
def zro (M : Mem) (c i o : Nat) : Prop := (∀ j, M.2.2.2 c i o j = 0) ∧ (o = 0 → ∀ k, k < 1000 → M.2.1 c i k = false) ∧ (isRA c o = true → ∀ j, M.2.1 c i (1000 + j) = false)
def Sim (X : XT) (M : Mem) (H : Heap) : Prop := M.1 ≤ 279 ∧ va_P (xD X) vwCl (wld X M) H ∧ (∀ c i o, sq (c, i, o) < M.1 → okF M c i o) ∧ (∀ c i o, M.1 ≤ sq (c, i, o) → sq (c, i, o) < 279 → zro M c i o) ∧ M.2.2.1 = xL X ∧ (∀ j, M.2.2.2 13 0 0 j = xs X j)
theorem wld_get {X : XT} {M : Mem} {q : Nat} (h : q < M.1) : (wld X M)[q]? = some (xB X + q, ce X M (od q)) := by
  unfold wld
  rw [List.getElem?_map, List.getElem?_range h]; rfl
theorem wld_at {X : XT} {M : Mem} {a : AA} (h : sq a < M.1) (hn : M.1 ≤ 279) : (wld X M)[sq a]? = some (xB X + sq a, ce X M a) := by
  rw [wld_get h, od_sq (Nat.lt_of_lt_of_le h hn)]
theorem wld_len (X : XT) (M : Mem) : (wld X M).length = M.1 := by simp [wld]
theorem wld_D (X : XT) (M : Mem) : va_D (xA X) (wld X M) := by
  have key : ∀ (k : Nat) (q : Nat × va_E), (wld X M)[k]? = some q → q.1 = xB X + k := by
    intro k q hk
    have hl : k < M.1 := by rw [← wld_len X M]; exact (List.getElem?_eq_some_iff.mp hk).1
    rw [wld_get hl] at hk
    cases hk; rfl
  refine ⟨fun i j p q hi hj e => ?_, fun k q hk => ?_⟩
  · rw [key i p hi, key j q hj] at e; omega
  · show xB X ≤ q.1
    rw [key k q hk]; omega
theorem wld_set {X : XT} {M M' : Mem} {a : AA} (hn : M'.1 = M.1) (hl : M.1 ≤ 279) (ha : sq a < M.1) (h : ∀ b, sq b < M.1 → b ≠ a → ce X M' b = ce X M b) : (wld X M).set (sq a) (xB X + sq a, ce X M' a) = wld X M' := by
  apply List.ext_getElem?
  intro k
  by_cases hk : k < M.1
  · rw [wld_get (M := M') (by omega)]
    by_cases e : k = sq a
    · subst e
      rw [List.getElem?_set_self (by rw [wld_len]; exact ha), od_sq (by omega)]
    · rw [List.getElem?_set_ne (Ne.symm e), wld_get hk, h (od k) (by rw [sq_od k (by omega)]; exact hk) (fun q => e (by rw [← q, sq_od k (by omega)]))]
  · rw [List.getElem?_eq_none (by rw [List.length_set, wld_len]; omega), List.getElem?_eq_none (by rw [wld_len]; omega)]
/-- the two memories hold the same in this cell -/
def smC (M M' : Mem) (c i o : Nat) : Prop := (∀ j, M'.2.2.2 c i o j = M.2.2.2 c i o j) ∧ (o = 0 → ∀ k, k < 1000 → M'.2.1 c i k = M.2.1 c i k) ∧ (isRA c o = true → ∀ j, M'.2.1 c i (1000 + j) = M.2.1 c i (1000 + j))
theorem nF_lt (c : Nat) : nF c < 1000 := by
  unfold nF
  by_cases h : c < 10
  · exact (by decide : ∀ c, c < 10 → [3, 4, 3, 3, 9, 4, 9, 5, 11, 32].getD c 0 < 1000) c h
  · rw [List.getD_eq_getElem?_getD, List.getElem?_eq_none (by simpa using h)]; decide
theorem tg_eq {w w' : Nat → Nat → Nat → Nat → Int32} {c i : Nat} (h : ∀ j, w' c i 0 j = w c i 0 j) (k : Nat) : tg w' c i k = tg w c i k := by
  unfold tg
  split <;> simp [h]
theorem ce_same {X : XT} {M M' : Mem} {c i o : Nat} (h : smC M M' c i o) : ce X M' (c, i, o) = ce X M (c, i, o) := by
  obtain ⟨h1, h2, h3⟩ := h
  unfold ce
  cases o with
  | zero =>
    show Sum.inr (c, (List.range (nF c)).map (fv X M' c i)) = Sum.inr (c, (List.range (nF c)).map (fv X M c i))
    congr 2
    apply List.map_congr_left
    intro k hk
    have hk2 : k < 1000 := Nat.lt_trans (List.mem_range.mp hk) (nF_lt c)
    unfold fv
    rw [tg_eq h1]
    split <;> simp [h1, h2 rfl k hk2]
  | succ o =>
    show (bif (fk c o).beq 3 then _ else _) = (bif (fk c o).beq 3 then _ else _)
    cases hb : (fk c o).beq 3 with
    | true =>
      simp only [cond_true]
      have : (fun j => bif M'.2.1 c i (1000 + j) then some (xB X + sq (et c j)) else none) = (fun j => bif M.2.1 c i (1000 + j) then some (xB X + sq (et c j)) else none) := by
        funext j; rw [h3 hb j]
      rw [this]
    | false =>
      simp only [cond_false]
      have : (fun j => M'.2.2.2 c i (o + 1) j) = (fun j => M.2.2.2 c i (o + 1) j) := by
        funext j; rw [h1 j]
      rw [this]
theorem okF_same {M M' : Mem} {c i o : Nat} (hn : M.1 ≤ M'.1) (h : smC M M' c i o) (hk : okF M c i o) : okF M' c i o := by
  obtain ⟨h1, h2, h3⟩ := h
  refine ⟨fun e k hk1 hk2 hk3 => ?_, fun e j hj hf => ?_⟩
  · subst e
    rw [tg_eq h1]
    have hb := hk.1 rfl k hk1 hk2 (by rw [← h2 rfl k (Nat.lt_trans hk1 (nF_lt c))]; exact hk3)
    exact ⟨hb.1, Nat.lt_of_lt_of_le hb.2 hn⟩
  · have hb := hk.2 e j hj (by rw [← h3 e j]; exact hf)
    exact ⟨hb.1, Nat.lt_of_lt_of_le hb.2 hn⟩
theorem zro_same {M M' : Mem} {c i o : Nat} (h : smC M M' c i o) (hk : zro M c i o) : zro M' c i o := by
  obtain ⟨h1, h2, h3⟩ := h
  exact ⟨fun j => by rw [h1]; exact hk.1 j, fun e k hk1 => by rw [h2 e k hk1]; exact hk.2.1 e k hk1, fun e j => by rw [h3 e j]; exact hk.2.2 e j⟩
/-- one cell changes -/
theorem sim_set {X : XT} {M M' : Mem} {H H' : Heap} {c i o : Nat} (hS : Sim X M H) (hn : M'.1 = M.1) (hL : M'.2.2.1 = M.2.2.1) (ha : sq (c, i, o) < M.1) (hc : c ≠ 13) (h : ∀ c' i' o', (c', i', o') ≠ (c, i, o) → smC M M' c' i' o') (hf : okF M' c i o)
    (hP : va_P (xD X) vwCl ((wld X M).set (sq (c, i, o)) (xB X + sq (c, i, o), ce X M' (c, i, o))) H') : Sim X M' H' := by
  obtain ⟨s2, s3, s4, s5, s6, s7⟩ := hS
  rw [wld_set hn s2 ha (fun b _ hb => ce_same (h b.1 b.2.1 b.2.2 hb))] at hP
  refine ⟨by omega, hP, fun c' i' o' hq => ?_, fun c' i' o' hq hq2 => ?_, by rw [hL]; exact s6, fun j => ?_⟩
  · by_cases e : (c', i', o') = (c, i, o)
    · cases e; exact hf
    · exact okF_same (by omega) (h c' i' o' e) (s4 c' i' o' (by omega))
  · refine zro_same (h c' i' o' (fun e => ?_)) (s5 c' i' o' (by omega) hq2)
    rw [e] at hq; omega
  · rw [(h 13 0 0 (fun e => hc (by cases e; rfl))).1 j]; exact s7 j
theorem u4_ne {w : Nat → Nat → Nat → Nat → Int32} {c i o k : Nat} {v : Int32} {c' i' o' : Nat} (h : (c', i', o') ≠ (c, i, o)) (j : Nat) : u4 w c i o k v c' i' o' j = w c' i' o' j := by
  unfold u4
  rw [if_neg]
  rintro ⟨rfl, rfl, rfl, -⟩
  exact h rfl
theorem uc_ne {w : Nat → Nat → Nat → Nat → Int32} {c i o : Nat} {f : Nat → Int32} {c' i' o' : Nat} (h : (c', i', o') ≠ (c, i, o)) (j : Nat) : uc w c i o f c' i' o' j = w c' i' o' j := by
  unfold uc
  rw [if_neg]
  rintro ⟨rfl, rfl, rfl⟩
  exact h rfl
theorem uf_eq {fl : Nat → Nat → Nat → Bool} {c i k c' i' k' : Nat} (h : ¬ (c' = c ∧ i' = i ∧ k' = k)) : uf fl c i k c' i' k' = fl c' i' k' := by
  unfold uf
  have : (c'.beq c && i'.beq i && k'.beq k) = false := by
    by_cases h1 : c' = c
    · by_cases h2 : i' = i
      · have h3 : k'.beq k = false := by
          cases hb : k'.beq k with
          | true => exact absurd ⟨h1, h2, Nat.eq_of_beq_eq_true hb⟩ h
          | false => rfl
        rw [h3, Bool.and_false]
      · simp [h2]
    · simp [h1]
  rw [this]; rfl
theorem uf_self (fl : Nat → Nat → Nat → Bool) (c i k : Nat) : uf fl c i k c i k = true := by simp [uf]
theorem fk_out {c : Nat} (h : ¬ c < 10) (k : Nat) : fk c k = 9 := by
  unfold fk
  rw [List.getD_eq_getElem?_getD, List.getD_eq_getElem?_getD, List.getElem?_eq_none (l := fkT) (by simp [fkT]; omega)]
  rfl
theorem fk_big {c k : Nat} (h : ¬ k < 32) : fk c k = 9 := by
  by_cases hc : c < 10
  · unfold fk
    have hl : ∀ c, c < 10 → (fkT.getD c []).length ≤ 32 := by decide
    have := hl c hc
    rw [List.getD_eq_getElem?_getD, List.getElem?_eq_none (by omega)]; rfl
  · exact fk_out hc k
theorem fk3 {c k : Nat} (h : fk c k = 3) : (c = 3 ∧ k = 0) ∨ (c = 8 ∧ k = 5) := by
  by_cases hc : c < 10
  · by_cases hk : k < 32
    · exact (by decide : ∀ c, c < 10 → ∀ k, k < 32 → fk c k = 3 → (c = 3 ∧ k = 0) ∨ (c = 8 ∧ k = 5)) c hc k hk h
    · rw [fk_big hk] at h; omega
  · rw [fk_out hc] at h; omega
theorem fk_lt {c k : Nat} (h : fk c k ≠ 9) : c < 10 := by
  by_cases hc : c < 10
  · exact hc
  · exact absurd (fk_out hc k) h
theorem isRA_one {c o o' : Nat} (h : isRA c o = true) (h' : isRA c o' = true) : o = o' := by
  cases o with
  | zero => cases h
  | succ o =>
    cases o' with
    | zero => cases h'
    | succ o' =>
      have h1 : fk c o = 3 := by simpa [isRA] using h
      have h2 : fk c o' = 3 := by simpa [isRA] using h'
      rcases fk3 h1 with ⟨a, b⟩ | ⟨a, b⟩ <;> rcases fk3 h2 with ⟨a', b'⟩ | ⟨a', b'⟩ <;> omega
