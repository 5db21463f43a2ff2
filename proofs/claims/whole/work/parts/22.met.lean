/-! a method's contract out of the small machine's run of it -/
theorem Met.ofWF {l : Launch} {y : MethodName} {ws ws' : List Cond} {rm : Room} {Pc : Array Value → State → Prop} {Qc : Array Value → State → Outcome → State → Prop} {mc ms : Nat} {free : Addr → Prop} {cc : ByteArray} {maxL : Nat} {ret : Option FieldType}
    (hy : plainFor y = true) (hw : ws = Cond.code y cc maxL ret :: ws')
    (body : ∀ p e s m args below meth c s₁, BodyLoose p l y (headSpec ws rm) cc maxL ret e s m args below meth c s₁ → c.maxLocals = maxL → Pc args s →
      W p l e (headSpec ws rm).room s m args below meth c s.heap [] 0 0 (MQ below Qc args s mc ms free) (entryFrame m args maxL)) : Met l y ws rm Pc Qc mc ms free := by
  refine MetFree.of_bodySF (code := cc) (maxLocals := maxL) (ret := ret) hy ?_ ?_
  · intro args s m h hn
    obtain ⟨meth, c, h1, h2, h3, h4, h5, h6, -, -⟩ := Cond.code_spec hn (atoms_spec (ws := ws) h _ (by rw [hw]; exact List.mem_cons_self))
    exact ⟨meth, c, h1, h2, h3, h4, h5, h6⟩
  · intro p e s m args below meth c s₁ B hml hP _
    have hh0 : s₁.heap = s.heap := by rw [B.state]; rfl
    obtain ⟨t, a1, o, b1, b2, b3⟩ := body p e s m args below meth c s₁ B hml hP s₁ hh0 (Stand.of_body B)
    exact ⟨t, o, a1, b1, b2, ⟨b3.1, b3.2⟩⟩
def wsOf (mi : Nat) : List Cond := Cond.code (mdOf mi).2.1 (mdOf mi).2.2.1 (mdOf mi).2.2.2.1 (mdOf mi).2.2.2.2.1 :: gT
def rmOf (d n n' : Nat) : Room := { frames := d, cells := n' - n, slots := sl n' - sl n, locals := 30 * d }
def bO (X : XT) (M : Mem) (U : State) : Prop := Sim X M U.heap ∧ U.heap.size = xB X + M.1 ∧ va_K (xD X) vwCl (xT X) U ∧ XW U ∧ (va_X (xb X) (xL X) (xs X) U U.heap ∧ xb X < U.heap.size ∧ xb X < xB X)
def qO (X : XT) (v : Option AV) (M1 : Mem) : Array Value → State → Outcome → State → Prop := fun _ st o t => o = .returned (v.map (tv X)) ∧ Sim X M1 t.heap ∧ va_F (xA X) st t
theorem sl_one {vs : List Value} (h : ∀ v ∈ vs, ¬ v.category = 2) : lg_sl vs = vs.map Slot.val := by
  unfold lg_sl
  induction vs with
  | nil => rfl
  | cons v r ih =>
    rw [List.flatMap_cons, if_neg (h v List.mem_cons_self), ih (fun w hw => h w (List.mem_cons_of_mem _ hw))]
    rfl
theorem lx_entry {X : XT} {n nL : Nat} {as : List AV} (hl : as.length ≤ nL) (h1 : ∀ x ∈ as, isL x = false) (hk : ∀ x ∈ as, okV n x) : LX X nL n (as.map some ++ List.replicate (nL - as.length) none) ((lg_sl (as.map (tv X)) ++ List.replicate (nL - (lg_sl (as.map (tv X))).length) Slot.unset).toArray) := by
  have e := sl_one (vs := as.map (tv X)) (fun v hv => by
    obtain ⟨x, hx, rfl⟩ := List.mem_map.mp hv
    rw [cat_tv, h1 x hx]; decide)
  have hL := lv_entry (as.map (tv X)) (n := nL) (by rw [e]; simpa using hl)
  refine ⟨hL.1, hL.2.1, fun i v hi => ?_⟩
  have hi2 : i < as.length := by
    rcases Nat.lt_or_ge i as.length with q | q
    · exact q
    · rw [List.getElem?_append_right (by simpa using q)] at hi
      have := List.eq_of_mem_replicate (List.mem_of_getElem? hi)
      cases this
  rw [List.getElem?_append_left (by simpa using hi2), List.getElem?_map] at hi
  have hv : as[i]? = some v := by
    cases hq : as[i]? with
    | none => rw [hq] at hi; cases hi
    | some u => rw [hq] at hi; cases hi; rfl
  refine ⟨?_, hk v (List.mem_of_getElem? hv)⟩
  rw [e, List.getElem?_toArray, List.getElem?_append_left (by simpa using hi2), List.getElem?_map, List.getElem?_map, hv]
  rfl
theorem met_of {l : Launch} {X : XT} {d mi : Nat} {as : List AV} {M M1 : Mem} {v : Option AV} (hmi : mi < 199) (hG : Good l X d (mdOf mi) (en (mdOf mi) as M) v M1) (hl : as.length ≤ (mdOf mi).2.2.2.1) (h1 : ∀ x ∈ as, isL x = false) (hk : ∀ x ∈ as, okV M.1 x) :
    Met l (mdOf mi).2.1 (wsOf mi) (rmOf d M.1 M1.1) (va_Pc (as.map (tv X)) (bO X M)) (qO X v M1) (M1.1 - M.1) (sl M1.1 - sl M.1) (xA X) := by
  obtain ⟨g1, gv, g2⟩ := hG
  refine Met.ofWF (cc := (mdOf mi).2.2.1) (maxL := (mdOf mi).2.2.2.1) (ret := (mdOf mi).2.2.2.2.1) (tb_pf hmi) rfl ?_
  intro p e s m args below meth c s₁ B hml hv
  obtain ⟨rfl, hS, hz, hK, hXW, hX⟩ := hv
  have hts := atoms_spec (ws := wsOf mi) B.pre
  have hlocks := B.notSynchronized
  have hnm := (name_of_methodNamed B.named B.method).1
  have hPR : PR X d (mdOf mi) p (headSpec (wsOf mi) (rmOf d M.1 M1.1)).room s m (as.map (tv X)).toArray meth c := by
    refine ⟨B.exec, B.bytes, hml, ?_, fun w hw => hts w (List.mem_cons_of_mem _ hw), hK, fun h => ?_, by omega, hXW, hX, Nat.le_refl _, Nat.le_refl _⟩
    · rw [← tb_cls hmi]; exact findClass_of_methodNamed B.named
    · rw [hnm]; exact (tb_m2 mi hmi).1 h
  rw [lg_entry_eq]
  refine g2 p e (headSpec (wsOf mi) (rmOf d M.1 M1.1)).room s m (as.map (tv X)).toArray below meth c (MQ below (qO X v M1) (as.map (tv X)).toArray s (M1.1 - M.1) (sl M1.1 - sl M.1) (xA X)) s.heap [] 0 0 _ hPR (by show s.heap.size + 0 = xB X + M.1; omega) (by show 0 + (M1.1 - M.1) ≤ M1.1 - M.1; omega) (by show 0 + (sl M1.1 - sl M.1) ≤ sl M1.1 - sl M.1; omega) hS va_S.rf (lx_entry hl h1 hk) (fun x hx => by cases hx) ?_
  show KR l X (mdOf mi) v M1 p e (headSpec (wsOf mi) (rmOf d M.1 M1.1)).room s m (as.map (tv X)).toArray below meth c _ (0 + (M1.1 - M.1)) (0 + (sl M1.1 - sl M.1))
  rw [Nat.zero_add, Nat.zero_add]
  intro H' locs' pc' ls' hS' hV' hrt
  rcases hrt with ⟨hd, x, ty, rfl, hr, hn⟩ | ⟨hd, rfl, hr⟩
  · exact W.zret (v := x) B.exec B.bytes (B.returns.trans hr) hn (fun t ht hW => ⟨rfl, by rw [ht]; exact hS', hV'.F ht⟩) hV'.2.2 hd
  · exact W.vret B.exec B.bytes (B.returns.trans hr) (fun t ht hW => ⟨rfl, by rw [ht]; exact hS', hV'.F ht⟩) hV'.2.2 hd
theorem gd_ws {l : List Cond} (h : ∀ w ∈ l, w ∈ gT) : GoodIn gT l := fun w hw => ⟨h w hw, good_of_word (List.mem_filter.mp (h w hw)).2⟩
theorem ws_in {mi : Nat} (hmi : mi < 199) : ∀ w ∈ wsOf mi, w ∈ gT := by
  intro w hw
  rcases List.mem_cons.mp hw with rfl | h
  · exact gT_in (pick_of tb_CW0 mi (tb_CWn mi hmi)) rfl
  · exact h
theorem bO_blind {X : XT} {M : Mem} {as : List Value} : FrameBlind (va_Pc as (bO X M)) := by
  intro a U g mk h
  obtain ⟨h0, h1, h2, h3, h4, h5⟩ := h
  have hvm : U.vm.Alike (U.calling g mk a).vm := Vm.Alike.refl U.vm
  exact ⟨h0, h1, h2, va_K.moved (u := U) (U := U.calling g mk a) hvm h3, ⟨fun q hq => va_Nw.same rfl (rfl : U.vm = (U.calling g mk a).vm) (h4.1 q hq), va_AO.moved (u := U) (U := U.calling g mk a) hvm h4.2.1, va_AO.moved (u := U) (U := U.calling g mk a) hvm h4.2.2⟩, va_X.moved (u := U) (U := U.calling g mk a) hvm h5.1, h5.2⟩
theorem bO_at {X : XT} {d : Nat} {md : MD} {M : Mem} {p : Program} {R : Room} {s U : State} {m : MethodId} {args : Array Value} {meth : Method} {c : Code} {H : Heap} {locs : List Loc} (hP : PR X d md p R s m args meth c) (hS : Sim X M H) (hV : va_S (xA X) s.heap H locs) (hsz : H.size = xB X + M.1) (hU : U.heap = H) (hW : s.WarmedH U.vm) : bO X M U := by
  obtain ⟨hX, hb1, hb2⟩ := hP.2.2.2.2.2.2.2.2.2.1
  refine ⟨by rw [hU]; exact hS, by rw [hU]; exact hsz, va_K.moved hW.alike hP.2.2.2.2.2.1, ⟨fun q hq => va_Nw.warmM hW (hP.2.2.2.2.2.2.2.2.1.1 q hq), va_AO.moved hW.alike hP.2.2.2.2.2.2.2.2.1.2.1, va_AO.moved hW.alike hP.2.2.2.2.2.2.2.2.1.2.2⟩, ?_, ?_, hb2⟩
  · rw [hU]
    exact (hX.kept (hV.2.1 _ hb1 (Nat.not_le.mpr hb2))).moved hW.alike
  · rw [hU]
    exact Nat.lt_of_lt_of_le hb1 hV.1
/-- behind a call -/
theorem G_back {l : Launch} {X : XT} {d : Nat} {md : MD} {pc : Nat} {L : List (Option AV)} {st r : List AV} {M M1 M' : Mem} {v1 v : Option AV} (g1 : M.1 ≤ M1.1) (gv1 : v1 = none ∨ ∃ z : Int32, v1 = some (.inl z)) (hr : ∀ x ∈ r, x ∈ st) (hG : Good l X d md (af v1 (pc + 3, L, r, M) M1) v M')
    (h : ∀ (p : Program) (e : Env) (R : Room) (s : State) (m : MethodId) (args : Array Value) (below : List Frame) (meth : Method) (c : Code) (H : Heap) (locs : List Loc) (cells slots : Nat) (ls : Array Slot),
      PR X d md p R s m args meth c → Sim X M H → va_S (xA X) s.heap H locs → H.size = xB X + M.1 → LX X md.2.2.2.1 M.1 L ls → (∀ x ∈ st, okV M.1 x) → cells + (M1.1 - M.1) ≤ R.cells → slots + (sl M1.1 - sl M.1) ≤ R.slots →
      ∃ (a : Array Value), va_Run p l e R s m args below meth c H locs cells slots (M1.1 - M.1) (sl M1.1 - sl M.1) (F0 m pc ls (st.map (tv X))) (r.map (tv X)) (qO X v1 M1 a) (xA X)) : Good l X d md (pc, L, st, M) v M' := by
  obtain ⟨g2, gv, g3⟩ := hG
  have g2 : M1.1 ≤ M'.1 := g2
  have hm1 : sl M.1 ≤ sl M1.1 := sl_mono g1
  have hm2 : sl M1.1 ≤ sl M'.1 := sl_mono g2
  refine ⟨show M.1 ≤ M'.1 by omega, gv, fun p e R s m args below meth c Q H locs cells slots ls hP hz hc hs hS hV hL hk hR => ?_⟩
  have hz : s.heap.size + cells = xB X + M.1 := hz
  have hc : cells + (M'.1 - M.1) ≤ R.cells := hc
  have hs : slots + (sl M'.1 - sl M.1) ≤ R.slots := hs
  have hR : KR l X md v M' p e R s m args below meth c Q (cells + (M'.1 - M.1)) (slots + (sl M'.1 - sl M.1)) := hR
  refine W_size (fun hle => ?_)
  have hsz := sim_size hS hV hz hP.2.2.2.2.2.2.2.1 hle
  obtain ⟨a, hrun⟩ := h p e R s m args below meth c H locs cells slots ls hP hS hV hsz hL hk (by omega) (by omega)
  intro T hT Xt
  obtain ⟨v', st₀, t, T', L', h0, X', hL', e1, e2, ⟨hq1, hq2, hz1, hk1⟩, go⟩ := hrun T hT Xt
  have ev : v' = v1.map (tv X) := by cases hq1; rfl
  subst ev
  rw [h0] at hz1 hk1
  have hV' : va_S (xA X) s.heap T'.heap (locs ++ L') := by
    refine ⟨Nat.le_trans hV.1 (by rw [e1]; exact hz1), fun q q1 q2 => ?_, fun q hq => ?_⟩
    · rw [e1, hk1 q (Nat.lt_of_lt_of_le q1 hV.1) q2]; exact hV.2.1 q q1 q2
    · rcases List.mem_append.mp hq with h | h
      · exact hV.2.2 q h
      · exact hL' q h
  have hok : ∀ x ∈ v1.toList ++ r, okV M1.1 x := by
    intro x hx
    rcases List.mem_append.mp hx with h | h
    · rcases gv1 with rfl | ⟨z, rfl⟩
      · cases h
      · rw [show x = .inl z by simpa using h]; trivial
    · exact okV_mono g1 (hk x (hr x h))
  obtain ⟨t2, a1, b1⟩ := g3 p e R s m args below meth c Q T'.heap (locs ++ L') (cells + (M1.1 - M.1)) (slots + (sl M1.1 - sl M.1)) ls hP (show s.heap.size + (cells + (M1.1 - M.1)) = xB X + M1.1 by omega) (show (cells + (M1.1 - M.1)) + (M'.1 - M1.1) ≤ R.cells by omega) (show (slots + (sl M1.1 - sl M.1)) + (sl M'.1 - sl M1.1) ≤ R.slots by omega) (show Sim X M1 T'.heap by rw [e1]; exact hq2) hV' (hL.mono g1) hok (by
    show KR l X md v M' p e R s m args below meth c Q ((cells + (M1.1 - M.1)) + (M'.1 - M1.1)) ((slots + (sl M1.1 - sl M.1)) + (sl M'.1 - sl M1.1))
    rw [show (cells + (M1.1 - M.1)) + (M'.1 - M1.1) = cells + (M'.1 - M.1) by omega, show (slots + (sl M1.1 - sl M.1)) + (sl M'.1 - sl M1.1) = slots + (sl M'.1 - sl M.1) by omega]
    exact hR) T' rfl X'
  refine ⟨t2, go t2 ?_, b1⟩
  have e5 : (v1.map (tv X)).toList ++ r.map (tv X) = (v1.toList ++ r).map (tv X) := by
    cases v1 <;> simp
  show Steps p.tables e below (T'.setTop (F0 m (pc + 3) ls ((v1.map (tv X)).toList ++ r.map (tv X)))) t2
  rw [e5]
  exact a1
