/-! THE CLAIM OUT OF ONE WALK OF THE LAW'S BODY. Your part is whole_start (and what it stands on); all else here is the same for every law, but numbers. -/
def R_law : String := "SecondBestLaw"
def lw_P (b : Addr) (xs : List Int32) (args : Array Value) (s : State) : Prop := args = #[.ref b] ∧ s.IntsAt b xs ∧ xs.length ≤ 256 ∧ (Jvm.Cond.and given_1 narrow_1).before args s = true
def lw_Q (_ : Array Value) (s : State) (o : Outcome) (t : State) : Prop := o = .returned (some (.int 1)) ∧ Framed s o t [] 600000 7302250
def lw_Z (below : List Frame) (a : Array Value) (s : State) : State → Prop := fun t => ∃ o, t.status = .running ∧ Ended t below o ∧ lw_Q a s o t
/-- the law's own end, with 1 on the stack, nothing written that was there before, its room as the claim has it -/
theorem lw_ret {p : Program} {l : Launch} {e : Env} {s : State} {m : MethodId} {below : List Frame} {meth : Method} {c : Code} {b : Nat} (hx : p.tables.exec = Jvm.exec) (hb : c.code = code) (hr : meth.sig.returnType = ret) (hlocks : meth.locks = false) {pc : Nat} {H : Heap} {ls : Array Slot} (hdg : decode code pc = .ok (.ireturn, 1)) : W p l e room_1 s m #[Value.ref b] below meth c H [] 600000 7302250 (lw_Z below #[Value.ref b] s) (F0 m pc ls [.int 1]) := by
  intro T hT X
  obtain ⟨fs, hret, hrun, hended, hW, hframe⟩ := X.leave (v := some (.int 1)) (hlocks := hlocks) (fun h => by rw [hr] at h; cases h)
  have hmeth' : T.vm.method? m = some meth := X.method'
  refine ⟨T.setFrames fs, ?_, .returned (some (.int 1)), hrun, hended, rfl, ⟨_, rfl⟩, hW, hframe⟩
  jvm_step X.here [X.here.top, hx, hb, hdg, hmeth', hr, ret, narrow_b1]
  (try refine ⟨rfl, ?_⟩); (try refine ⟨rfl, ?_⟩)
  first | (intro acts; rw [hret _ acts rfl rfl rfl]) | rw [hret _ _ rfl rfl rfl]
  exact Steps.refl _
/-- what holds at the law's entry: the machine, the code, the tables' words (any of lw_tbl by 'hts w (by decide +kernel)'), the script of L ints xs at the cell b, what the Statement gives of the start (any of its parts by flat_of_before) -/
def lw_At (p : Program) (s : State) (m : MethodId) (meth : Method) (c : Code) (b L : Nat) (xs : Nat → Int32) : Prop :=
  p.tables.exec = Jvm.exec ∧ c.code = code ∧ meth.sig.returnType = ret ∧ c.maxLocals = 4 ∧ s.vm.findClass R_law = some m.cls ∧ (∀ w ∈ lw_tbl, w.before #[Value.ref b] s = true) ∧ va_X b L xs s s.heap ∧ b < s.heap.size ∧ meth.locks = false ∧ (Jvm.Cond.and given_1 narrow_1).before #[Value.ref b] s = true
/-! from the law's entry -/
theorem ar_i {s : State} {A : Array Value} (h : (Cond.arrayClass .int).before A s = true) : ∃ cA, ArrOfT s cA .int ∧ va_RA s cA .int := by
  obtain ⟨cA, kA, comp, h1, h2, h3⟩ := Cond.arrayClass_spec h
  exact ⟨cA, fun n z => ⟨fun k h => (by cases h), kA, h2, comp, h3⟩, h1⟩
theorem ar_o {s : State} {C : String} {A : Array Value} (h : (Cond.arrayOver (.object C)).before A s = true) : ∃ cA, ArrOfT s cA (.object C) ∧ va_RA s cA (.object C) := by
  obtain ⟨comp, c, k, h1, h2, h3, h4, h5⟩ := Cond.arrayOver_spec h
  exact ⟨c, fun N z => ⟨(fun k h => by cases h), k, h3, comp, h4⟩, k, comp, h3, h4, h1, h5⟩
theorem kn_all {s : State} {A : Array Value} (hts : ∀ w ∈ lw_tbl, w.before A s = true) : ∃ D : va_G, ∀ (c : Nat) (q : vw_C), vwCl[c]? = some q → u_Kn s q.1 q.2.1 q.2.2 (D.1 c) (D.2 c) := by
  have h : ∀ c : Nat, ∃ q : ClassId × (Nat → Nat), c < 10 → u_Kn s (rN c) (tN c) (nF c) q.1 q.2 := by
    intro c
    by_cases hc : c < 10
    · obtain ⟨a, b, h⟩ := u_known (C := rN c) (T := tN c) (N := nF c) (n := nF c) hts (tb_in c hc) (hts _ (pick_of tb_IB0 c (tb_IBn c hc)))
      exact ⟨(a, b), fun _ => h⟩
    · exact ⟨((0 : Nat), fun _ => 0), fun h => absurd h hc⟩
  obtain ⟨f, hf⟩ := Classical.axiomOfChoice h
  refine ⟨(fun c => (f c).1, fun c => (f c).2), fun c q hq => ?_⟩
  have hc : c < 10 := (List.getElem?_eq_some_iff.mp hq).1
  rw [tb_cl c hc] at hq
  cases hq
  exact hf c hc
theorem od_c : ∀ k, k < 279 → (od k).1 < 10 := by decide +kernel
theorem sl_all : sl 279 ≤ 7302250 := by decide +kernel
/-- nothing is made yet -/
def w0 (X : XT) : WF := fun c i o q => if c = 13 ∧ i = 0 ∧ o = 0 then xs X q else nI 0
theorem sim_0 {X : XT} {H : Heap} : Sim X (0, fun _ _ _ => false, xL X, w0 X) H := by
  refine ⟨Nat.zero_le _, fun k q h => ?_, fun c i o h => absurd h (Nat.not_lt_zero _), fun c i o _ h => ?_, rfl, fun j => ?_⟩
  · have h : ([] : va_W)[k]? = some q := h
    simp at h
  · have hc := od_c _ h
    rw [od_sq h] at hc
    have hc : c < 10 := hc
    refine ⟨fun j => ?_, fun _ _ _ => rfl, fun _ _ => rfl⟩
    show (if c = 13 ∧ i = 0 ∧ o = 0 then xs X j else nI 0) = nI 0
    exact if_neg (by omega)
  · show (if 13 = 13 ∧ 0 = 0 ∧ 0 = 0 then xs X j else nI 0) = xs X j
    exact if_pos ⟨rfl, rfl, rfl⟩
set_option maxRecDepth 20000 in
theorem go_law {p : Program} {e : Env} {s : State} {m : MethodId} {below : List Frame} {meth : Method} {c : Code} (l : Launch) {X : XT} (hL : xL X ≤ 256) (C0 : lw_At p s m meth c (xb X) (xL X) (xs X)) (hB : xB X = s.heap.size) (hK : va_K (xD X) vwCl (xT X) s) : W p l e room_1 s m #[Value.ref (xb X)] below meth c s.heap [] 0 0 (lw_Z below #[Value.ref (xb X)] s) (entryFrame m ([Value.ref (xb X)] : List Value).toArray 4) := by
  obtain ⟨hx, hb, hr, hml, hown, hts, hX, hbl, hlocks, hgv⟩ := C0
  obtain ⟨v, M', ⟨hv, hn⟩, g1, gv, g3⟩ := c_L_law (l := l) (X := X) (d := 0) (w := w0 X) (fl := fun _ _ _ => false) hL (fun c i o q hc => by show (if c = 13 ∧ i = 0 ∧ o = 0 then xs X q else nI 0) = nI 0; exact if_neg (by omega)) 199 rfl
  subst hv
  have hsl : sl M'.1 ≤ 7302250 := Nat.le_trans (sl_mono hn) sl_all
  have hPR : PR X (0 + 9) md_L_law p room_1 s m #[Value.ref (xb X)] meth c := by
    refine ⟨hx, hb, hml, hown, fun w hw => hts w (List.mem_filter.mp hw).1, hK, (fun h => by cases h), (by omega), ⟨fun q hq => va_Nw.of rfl (hts _ (pick_of tb_MN0 q hq)), va_AO.of (hts _ tb_as), va_AO.of (hts _ tb_ai)⟩, ⟨hX, hbl, by omega⟩, ?_, ?_⟩
    · show 0 + 9 ≤ 10
      omega
    · show 30 * (0 + 9) ≤ 392
      omega
  rw [lg_entry_eq]
  refine g3 p e room_1 s m #[Value.ref (xb X)] below meth c (lw_Z below #[Value.ref (xb X)] s) s.heap [] 0 0 _ hPR (by show s.heap.size + 0 = xB X + 0; omega) (by show 0 + (M'.1 - 0) ≤ 600000; omega) (by show 0 + (sl M'.1 - sl 0) ≤ 7302250; omega) sim_0 va_S.rf (lx_entry (X := X) (n := 0) (nL := 4) (as := [.inr (.inr (13, 0, 0))]) (by decide) (fun x hx => by rw [List.mem_singleton.mp hx]; rfl) (fun x hx => by rw [List.mem_singleton.mp hx]; exact Or.inl rfl)) (fun x hx => by cases hx) ?_
  intro H' locs' pc' ls' hS' hV' hrt
  rcases hrt with ⟨hd, x, ty, e1, hr1, hn1⟩ | ⟨hd, e1, hr1⟩
  · refine va_forget (fun q hq => ?_) (W.widen (k := 600000) (n := 7302250) ?_ ?_ (lw_ret hx hb hr hlocks hd))
    · rw [← hB]; exact hV'.2.2 q hq
    · show 0 + (M'.1 - 0) ≤ 600000
      omega
    · show 0 + (sl M'.1 - sl 0) ≤ 7302250
      omega
  · cases e1
/-- from the entry, for every script of at most 256 ints, the law comes to its end with true -/
theorem whole_start {p : Program} {e : Env} {s : State} {m : MethodId} {below : List Frame} {meth : Method} {c : Code} (l : Launch) {b L : Nat} {xs : Nat → Int32} (hL : L ≤ 256) (C0 : lw_At p s m meth c b L xs) : W p l e room_1 s m #[Value.ref b] below meth c s.heap [] 0 0 (lw_Z below #[Value.ref b] s) (entryFrame m ([Value.ref b] : List Value).toArray 4) := by
  have hts := C0.2.2.2.2.2.1
  obtain ⟨D, hD⟩ := kn_all hts
  obtain ⟨cI, i1, i2⟩ := ar_i (hts _ tb_ar)
  obtain ⟨cS, s1, s2⟩ := ar_o (hts _ tb_as)
  obtain ⟨cM, m1, m2⟩ := ar_o (hts _ tb_ai)
  refine go_law l (X := (s.heap.size, D, (cI, cS, cM), (b, L, xs))) hL C0 rfl ⟨hD, fun k q hk => ?_⟩
  match k, hk with
  | 0, hk => cases hk; exact ⟨i1, i2⟩
  | 1, hk => cases hk; exact ⟨s1, s2⟩
  | 2, hk => cases hk; exact ⟨m1, m2⟩
  | k + 3, hk => cases hk
