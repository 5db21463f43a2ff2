/-! what the small machine does, the machine does -/
def XW (s : State) : Prop := (∀ q ∈ MNt, va_Nw (.methodLinkNest (rN q.1) q.2.1 (mdOf q.2.2.1).2.1 (rN q.2.2.2)) s) ∧ va_AO RX6 s ∧ va_AO RX2 s
/-- what holds of a frame of a method -/
def PR (X : XT) (d : Nat) (md : MD) (p : Program) (R : Room) (s : State) (m : MethodId) (args : Array Value) (meth : Method) (c : Code) : Prop :=
  p.tables.exec = Jvm.exec ∧ c.code = md.2.2.1 ∧ c.maxLocals = md.2.2.2.1 ∧ s.vm.findClass (rN md.1) = some m.cls ∧ (∀ w ∈ gT, w.before args s = true) ∧ va_K (xD X) vwCl (xT X) s ∧ (md.2.2.2.2.2.1 = true → meth.name = "<init>") ∧ xB X ≤ s.heap.size ∧ XW s ∧ (va_X (xb X) (xL X) (xs X) s s.heap ∧ xb X < s.heap.size ∧ xb X < xB X) ∧ d ≤ R.frames ∧ 30 * d ≤ R.locals
def LX (X : XT) (nL n : Nat) (L : List (Option AV)) (ls : Array Slot) : Prop := ls.size = nL ∧ lv_wf ls ∧ ∀ (i : Nat) (v : AV), L[i]? = some (some v) → ls[i]? = some (Slot.val (tv X v)) ∧ okV n v
def sl (n : Nat) : Nat := ((ordL.take n).map slO).sum
def RT (md : MD) (pc : Nat) (v : Option AV) : Prop := (decode md.2.2.1 pc = .ok (.ireturn, 1) ∧ ∃ x ty, v = some (.inl x) ∧ md.2.2.2.2.1 = some ty ∧ narrow ty (.int x) = .int x) ∨ (decode md.2.2.1 pc = .ok (.return_, 1) ∧ v = none ∧ md.2.2.2.2.1 = none)
def KR (l : Launch) (X : XT) (md : MD) (v : Option AV) (M' : Mem) (p : Program) (e : Env) (R : Room) (s : State) (m : MethodId) (args : Array Value) (below : List Frame) (meth : Method) (c : Code) (Q : State → Prop) (k n : Nat) : Prop :=
  ∀ (H' : Heap) (locs' : List Loc) (pc' : Nat) (ls' : Array Slot), Sim X M' H' → va_S (xA X) s.heap H' locs' → RT md pc' v → W p l e R s m args below meth c H' locs' k n Q (F0 m pc' ls' (v.toList.map (tv X)))
def Good (l : Launch) (X : XT) (d : Nat) (md : MD) (S : St) (v : Option AV) (M' : Mem) : Prop := S.2.2.2.1 ≤ M'.1 ∧ (v = none ∨ ∃ z : Int32, v = some (.inl z)) ∧
  ∀ (p : Program) (e : Env) (R : Room) (s : State) (m : MethodId) (args : Array Value) (below : List Frame) (meth : Method) (c : Code) (Q : State → Prop) (H : Heap) (locs : List Loc) (cells slots : Nat) (ls : Array Slot),
    PR X d md p R s m args meth c → s.heap.size + cells = xB X + S.2.2.2.1 → cells + (M'.1 - S.2.2.2.1) ≤ R.cells → slots + (sl M'.1 - sl S.2.2.2.1) ≤ R.slots → Sim X S.2.2.2 H → va_S (xA X) s.heap H locs → LX X md.2.2.2.1 S.2.2.2.1 S.2.1 ls → (∀ x ∈ S.2.2.1, okV S.2.2.2.1 x) →
    KR l X md v M' p e R s m args below meth c Q (cells + (M'.1 - S.2.2.2.1)) (slots + (sl M'.1 - sl S.2.2.2.1)) → W p l e R s m args below meth c H locs cells slots Q (F0 m S.1 ls (S.2.2.1.map (tv X)))
theorem G_of {l : Launch} {X : XT} {d : Nat} {md : MD} {pc pc' : Nat} {L L' : List (Option AV)} {st st' : List AV} {M M1 M' : Mem} {v : Option AV} (hn : M1.1 = M.1) (hG : Good l X d md (pc', L', st', M1) v M')
    (h : ∀ (p : Program) (e : Env) (R : Room) (s : State) (m : MethodId) (args : Array Value) (below : List Frame) (meth : Method) (c : Code) (Q : State → Prop) (H : Heap) (locs : List Loc) (cells slots : Nat) (ls : Array Slot),
      PR X d md p R s m args meth c → Sim X M H → va_S (xA X) s.heap H locs → LX X md.2.2.2.1 M.1 L ls → (∀ x ∈ st, okV M.1 x) →
      (∀ (H' : Heap) (locs' : List Loc) (ls' : Array Slot), Sim X M1 H' → va_S (xA X) s.heap H' locs' → LX X md.2.2.2.1 M.1 L' ls' → (∀ x ∈ st', okV M.1 x) → W p l e R s m args below meth c H' locs' cells slots Q (F0 m pc' ls' (st'.map (tv X)))) →
      W p l e R s m args below meth c H locs cells slots Q (F0 m pc ls (st.map (tv X)))) : Good l X d md (pc, L, st, M) v M' := by
  obtain ⟨g1, gv, g2⟩ := hG
  have g1 : M1.1 ≤ M'.1 := g1
  refine ⟨show M.1 ≤ M'.1 by omega, gv, fun p e R s m args below meth c Q H locs cells slots ls hP hz hc hs hS hV hL hk hR => ?_⟩
  have hz : s.heap.size + cells = xB X + M.1 := hz
  have hc : cells + (M'.1 - M.1) ≤ R.cells := hc
  have hs : slots + (sl M'.1 - sl M.1) ≤ R.slots := hs
  have hR : KR l X md v M' p e R s m args below meth c Q (cells + (M'.1 - M.1)) (slots + (sl M'.1 - sl M.1)) := hR
  rw [← hn] at hz hc hs hR
  refine h p e R s m args below meth c Q H locs cells slots ls hP hS hV hL hk (fun H' locs' ls' a1 a2 a3 a4 => ?_)
  rw [← hn] at a3 a4
  exact g2 p e R s m args below meth c Q H' locs' cells slots ls' hP hz hc hs a1 a2 a3 a4 hR
/-- the set values, as the kit lists them -/
def prs (X : XT) (L : List (Option AV)) : List (Nat × Value) := (List.range L.length).filterMap (fun i => match L[i]? with
  | some (some v) => some (i, tv X v)
  | _ => none)
theorem prs_mem {X : XT} {L : List (Option AV)} {i : Nat} {v : AV} (h : L[i]? = some (some v)) : (i, tv X v) ∈ prs X L := by
  refine List.mem_filterMap.mpr ⟨i, List.mem_range.mpr (List.getElem?_eq_some_iff.mp h).1, ?_⟩
  rw [h]
theorem prs_of {X : XT} {L : List (Option AV)} {q : Nat × Value} (h : q ∈ prs X L) : ∃ v, L[q.1]? = some (some v) ∧ q.2 = tv X v := by
  obtain ⟨i, -, hi⟩ := List.mem_filterMap.mp h
  split at hi
  · rename_i v hv
    cases hi
    exact ⟨v, hv, rfl⟩
  · cases hi
theorem LX.has {X : XT} {nL n : Nat} {L : List (Option AV)} {ls : Array Slot} (h : LX X nL n L ls) : lv_has ls nL (prs X L) :=
  ⟨h.1, h.2.1, fun q hq => by
    obtain ⟨v, h1, h2⟩ := prs_of hq
    rw [h2]; exact (h.2.2 q.1 v h1).1⟩
theorem cat_tv (X : XT) (v : AV) : (tv X v).category = (if isL v then 2 else 1) := by
  rcases v with x | x | x <;> rfl
theorem lS_get {L : List (Option AV)} {i : Nat} {v : AV} {j : Nat} {u : AV} (h : (lS L i v)[j]? = some (some u)) : (j = i ∧ u = v) ∨ (j ≠ i ∧ L[j]? = some (some u) ∧ ¬ (j + 1 = i ∧ isL u = true)) := by
  cases i with
  | zero =>
    unfold lS at h
    by_cases e : j = 0
    · subst e
      by_cases hl : 0 < L.length
      · rw [List.getElem?_set_self hl] at h
        exact Or.inl ⟨rfl, by cases h; rfl⟩
      · rw [List.getElem?_eq_none (by rw [List.length_set]; omega)] at h; cases h
    · rw [List.getElem?_set_ne (Ne.symm e)] at h
      exact Or.inr ⟨e, h, fun q => by omega⟩
  | succ i =>
    unfold lS at h
    simp only at h
    split at h
    · rename_i z hz
      by_cases e : j = i + 1
      · subst e
        by_cases hl : i + 1 < ((L.set i none)).length
        · rw [List.getElem?_set_self hl] at h
          exact Or.inl ⟨rfl, by cases h; rfl⟩
        · rw [List.getElem?_eq_none (by rw [List.length_set]; omega)] at h; cases h
      · rw [List.getElem?_set_ne (Ne.symm e)] at h
        by_cases e2 : j = i
        · subst e2
          rw [List.getElem?_set_self (List.getElem?_eq_some_iff.mp hz).1] at h; cases h
        · rw [List.getElem?_set_ne (Ne.symm e2)] at h
          exact Or.inr ⟨e, h, fun q => by omega⟩
    · rename_i hz
      by_cases e : j = i + 1
      · subst e
        by_cases hl : i + 1 < L.length
        · rw [List.getElem?_set_self hl] at h
          exact Or.inl ⟨rfl, by cases h; rfl⟩
        · rw [List.getElem?_eq_none (by rw [List.length_set]; omega)] at h; cases h
      · rw [List.getElem?_set_ne (Ne.symm e)] at h
        refine Or.inr ⟨e, h, fun q => ?_⟩
        obtain ⟨q1, q2⟩ := q
        have : j = i := by omega
        subst this
        rcases u with x | x | x
        · cases q2
        · exact hz x h
        · cases q2
theorem LX.store {X : XT} {nL n : Nat} {L : List (Option AV)} {ls ls' : Array Slot} {i : Nat} {v : AV} {x : Value} (hx : x = tv X v) (h : LX X nL n L ls) (hv : okV n v) (h' : lv_has ls' nL ((i, x) :: (prs X L).filter (fun q => !(q.1 == i) && !(q.1 + 1 == i && q.2.category == 2)))) : LX X nL n (lS L i v) ls' := by
  subst hx
  refine ⟨h'.1, h'.2.1, fun j u hj => ?_⟩
  rcases lS_get hj with ⟨rfl, rfl⟩ | ⟨e, e2, e3⟩
  · exact ⟨h'.2.2 _ List.mem_cons_self, hv⟩
  · refine ⟨h'.2.2 (j, tv X u) (List.mem_cons_of_mem _ (List.mem_filter.mpr ⟨prs_mem e2, ?_⟩)), (h.2.2 j u e2).2⟩
    have h1 : (j == i) = false := by simpa using e
    show (!(j == i) && !(j + 1 == i && (tv X u).category == 2)) = true
    rw [h1, cat_tv]
    by_cases q : j + 1 = i
    · have : isL u = false := by
        cases hu : isL u with
        | true => exact absurd ⟨q, hu⟩ e3
        | false => rfl
      simp [this]
    · simp [q]
theorem LX.storeL {X : XT} {nL n : Nat} {L : List (Option AV)} {ls ls' : Array Slot} {i : Nat} {v : AV} {x : Value} (hx : x = tv X v) (h : LX X nL n L ls) (hv : okV n v) (h' : lv_has ls' nL ((i, x) :: (prs X L).filter (fun q => !(q.1 == i) && (!(q.1 == i + 1) && !(q.1 + 1 == i && q.2.category == 2))))) : LX X nL n (lSL L i v) ls' := by
  subst hx
  refine ⟨h'.1, h'.2.1, fun j u hj => ?_⟩
  unfold lSL at hj
  have e0 : j ≠ i + 1 := by
    intro e; subst e
    by_cases hl : i + 1 < (lS L i v).length
    · rw [List.getElem?_set_self hl] at hj; cases hj
    · rw [List.getElem?_eq_none (by rw [List.length_set]; omega)] at hj; cases hj
  rw [List.getElem?_set_ne (Ne.symm e0)] at hj
  rcases lS_get hj with ⟨rfl, rfl⟩ | ⟨e, e2, e3⟩
  · exact ⟨h'.2.2 _ List.mem_cons_self, hv⟩
  · refine ⟨h'.2.2 (j, tv X u) (List.mem_cons_of_mem _ (List.mem_filter.mpr ⟨prs_mem e2, ?_⟩)), (h.2.2 j u e2).2⟩
    have h1 : (j == i) = false := by simpa using e
    have h2 : (j == i + 1) = false := by simpa using e0
    show (!(j == i) && (!(j == i + 1) && !(j + 1 == i && (tv X u).category == 2))) = true
    rw [h1, h2, cat_tv]
    by_cases q : j + 1 = i
    · have : isL u = false := by
        cases hu : isL u with
        | true => exact absurd ⟨q, hu⟩ e3
        | false => rfl
      simp [this]
    · simp [q]
theorem LX.mono {X : XT} {nL n n' : Nat} {L : List (Option AV)} {ls : Array Slot} (h : LX X nL n L ls) (hn : n ≤ n') : LX X nL n' L ls :=
  ⟨h.1, h.2.1, fun i v hi => ⟨(h.2.2 i v hi).1, by
    have := (h.2.2 i v hi).2
    rcases v with x | x | x
    · trivial
    · trivial
    · rcases this with e | e
      · exact Or.inl e
      · exact Or.inr ⟨e.1, Nat.lt_of_lt_of_le e.2 hn⟩⟩⟩
