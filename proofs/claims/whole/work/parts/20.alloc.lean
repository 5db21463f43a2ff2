/-! making cells -/
theorem W_size {p : Program} {l : Launch} {e : Env} {R : Room} {s : State} {m : MethodId} {args : Array Value} {below : List Frame} {meth : Method} {c : Code} {H : Heap} {locs : List Loc} {cells slots : Nat} {Q : State → Prop} {g : JFrame} (h : H.size ≤ s.heap.size + cells → W p l e R s m args below meth c H locs cells slots Q g) : W p l e R s m args below meth c H locs cells slots Q g := fun T hT X => h (by rw [← hT]; exact X.heapSize) T hT X
theorem sim_size {X : XT} {M : Mem} {H : Heap} {s : State} {locs : List Loc} {cells : Nat} (hS : Sim X M H) (hV : va_S (xA X) s.heap H locs) (hz : s.heap.size + cells = xB X + M.1) (hB : xB X ≤ s.heap.size) (hle : H.size ≤ s.heap.size + cells) : H.size = xB X + M.1 := by
  have h1 := hV.1
  by_cases h0 : M.1 = 0
  · omega
  · have h2 := (hS.2.1 (M.1 - 1) _ (wld_get (by omega))).lt
    have h2 : xB X + (M.1 - 1) < H.size := h2
    omega
theorem sl_succ {n : Nat} (h : n < 279) : sl (n + 1) = sl n + slO (od n) := by
  unfold sl od
  have hl : n < ordL.length := by rw [ord_len]; exact h
  rw [List.take_succ, List.map_append, List.sum_append, List.getElem?_eq_getElem hl, List.getD_eq_getElem?_getD, List.getElem?_eq_getElem hl]
  show _ + (slO ordL[n] + 0) = _ + slO ordL[n]
  omega
theorem sl_le1 (n : Nat) : sl n ≤ sl (n + 1) := by
  by_cases h : n < 279
  · rw [sl_succ h]; omega
  · unfold sl
    rw [List.take_of_length_le (by rw [ord_len]; omega), List.take_of_length_le (by rw [ord_len]; omega)]
    exact Nat.le_refl _
theorem sl_mono {n k : Nat} (h : n ≤ k) : sl n ≤ sl k := by
  induction k with
  | zero => rw [show n = 0 by omega]; exact Nat.le_refl _
  | succ k ih =>
    by_cases e : n = k + 1
    · rw [e]; exact Nat.le_refl _
    · exact Nat.le_trans (ih (by omega)) (sl_le1 k)
theorem smC_n (n n' : Nat) (fl : Nat → Nat → Nat → Bool) (Lz : Nat) (w : Nat → Nat → Nat → Nat → Int32) (c i o : Nat) : smC (n, fl, Lz, w) (n', fl, Lz, w) c i o := ⟨fun _ => rfl, fun _ _ _ => rfl, fun _ _ => rfl⟩
theorem sim_new {X : XT} {n : Nat} {fl : Nat → Nat → Nat → Bool} {Lz : Nat} {w : Nat → Nat → Nat → Nat → Int32} {H H' : Heap} {a : AA} (hS : Sim X (n, fl, Lz, w) H) (ha : ordL[n]? = some a) (hH : ∀ q, q < H.size → H'[q]? = H[q]?) (hc : va_at (xD X) vwCl (xB X + n, ce X (n, fl, Lz, w) a) H') : Sim X (n + 1, fl, Lz, w) H' := by
  obtain ⟨s1, s2, s3, s4, s5, s6⟩ := hS
  obtain ⟨hn, e1, e2⟩ := ord_get ha
  have hce : ∀ b, ce X (n + 1, fl, Lz, w) b = ce X (n, fl, Lz, w) b := fun b => ce_same (smC_n n (n + 1) fl Lz w b.1 b.2.1 b.2.2)
  refine ⟨hn, fun k q hk => ?_, fun c i o hq => ?_, fun c i o hq hq2 => ?_, s5, s6⟩
  · have hk1 : k < n + 1 := by
      have := (List.getElem?_eq_some_iff.mp hk).1
      rw [wld_len] at this; exact this
    rw [wld_get (M := (n + 1, fl, Lz, w)) hk1] at hk
    cases hk
    rw [hce]
    by_cases e : k = n
    · subst e; rw [e1]; exact hc
    · have h1 := s2 k _ (wld_get (M := (n, fl, Lz, w)) (show k < n by omega))
      exact h1.kept (hH _ h1.lt)
  · by_cases e : sq (c, i, o) = n
    · have hz := s4 c i o (show n ≤ sq (c, i, o) by omega) (by omega)
      refine ⟨fun e0 k k1 k2 k3 => ?_, fun e0 j j1 j2 => ?_⟩
      · rw [show (n + 1, fl, Lz, w).2.1 c i k = false from hz.2.1 e0 k (Nat.lt_trans k1 (nF_lt c))] at k3; cases k3
      · rw [show (n + 1, fl, Lz, w).2.1 c i (1000 + j) = false from hz.2.2 e0 j] at j2; cases j2
    · have hq : sq (c, i, o) < n + 1 := hq
      exact okF_same (show n ≤ n + 1 by omega) (smC_n n (n + 1) fl Lz w c i o) (s3 c i o (show sq (c, i, o) < n by omega))
  · have hq : n + 1 ≤ sq (c, i, o) := hq
    exact zro_same (smC_n n (n + 1) fl Lz w c i o) (s4 c i o (show n ≤ sq (c, i, o) by omega) hq2)
theorem okV_mono {n n' : Nat} (h : n ≤ n') {x : AV} (hx : okV n x) : okV n' x := by
  rcases x with x | x | x
  · trivial
  · trivial
  · rcases hx with e | e
    · exact Or.inl e
    · exact Or.inr ⟨e.1, Nat.lt_of_lt_of_le e.2 h⟩
theorem G_alloc {l : Launch} {X : XT} {d : Nat} {md : MD} {pc pc' : Nat} {L : List (Option AV)} {st st' : List AV} {M M' : Mem} {v : Option AV} {a : AA} (ha : ordL[M.1]? = some a) (ha10 : a.1 < 10) (hst : ∀ x ∈ st', x ∈ st) (hG : Good l X d md (pc', L, .inr (.inr a) :: st', (M.1 + 1, M.2.1, M.2.2.1, M.2.2.2)) v M')
    (h : ∀ (p : Program) (e : Env) (R : Room) (s : State) (m : MethodId) (args : Array Value) (below : List Frame) (meth : Method) (c : Code) (Q : State → Prop) (H : Heap) (locs : List Loc) (cells slots : Nat) (ls : Array Slot),
      PR X d md p R s m args meth c → Sim X M H → H.size = xB X + M.1 → cells + 1 ≤ R.cells → slots + slO a ≤ R.slots →
      (∀ (H' : Heap), (∀ q, q < H.size → H'[q]? = H[q]?) → H.size ≤ H'.size → va_at (xD X) vwCl (xB X + M.1, ce X M a) H' → W p l e R s m args below meth c H' locs (cells + 1) (slots + slO a) Q (F0 m pc' ls (.ref (xB X + M.1) :: st'.map (tv X)))) →
      W p l e R s m args below meth c H locs cells slots Q (F0 m pc ls (st.map (tv X)))) : Good l X d md (pc, L, st, M) v M' := by
  obtain ⟨g1, gv, g2⟩ := hG
  obtain ⟨mn, mf, ml, mw⟩ := M
  have ha : ordL[mn]? = some a := ha
  obtain ⟨hn, e1, e2⟩ := ord_get ha
  have g1 : mn + 1 ≤ M'.1 := g1
  refine ⟨show mn ≤ M'.1 by omega, gv, fun p e R s m args below meth c Q H locs cells slots ls hP hz hc hs hS hV hL hk hR => ?_⟩
  have hz : s.heap.size + cells = xB X + mn := hz
  have hc : cells + (M'.1 - mn) ≤ R.cells := hc
  have hs : slots + (sl M'.1 - sl mn) ≤ R.slots := hs
  have hR : KR l X md v M' p e R s m args below meth c Q (cells + (M'.1 - mn)) (slots + (sl M'.1 - sl mn)) := hR
  have hsl : sl (mn + 1) = sl mn + slO a := by rw [sl_succ hn, e1]
  have hmo : sl (mn + 1) ≤ sl M'.1 := sl_mono g1
  refine W_size (fun hle => ?_)
  have hsz := sim_size hS hV hz hP.2.2.2.2.2.2.2.1 hle
  refine h p e R s m args below meth c Q H locs cells slots ls hP hS hsz (by omega) (by omega) (fun H' o1 o2 o3 => ?_)
  have hS' : Sim X (mn + 1, mf, ml, mw) H' := sim_new hS ha o1 o3
  have hV' : va_S (xA X) s.heap H' locs := ⟨Nat.le_trans hV.1 o2, fun q q1 q2 => by rw [o1 q (Nat.lt_of_lt_of_le q1 hV.1)]; exact hV.2.1 q q1 q2, hV.2.2⟩
  have hK := g2 p e R s m args below meth c Q H' locs (cells + 1) (slots + slO a) ls hP (show s.heap.size + (cells + 1) = xB X + (mn + 1) by omega) (show (cells + 1) + (M'.1 - (mn + 1)) ≤ R.cells by omega) (show (slots + slO a) + (sl M'.1 - sl (mn + 1)) ≤ R.slots by omega) hS' hV' (hL.mono (show mn ≤ mn + 1 by omega)) (ok1 (Or.inr ⟨ha10, by show sq a < mn + 1; omega⟩) (fun y hy => okV_mono (show mn ≤ mn + 1 by omega) (hk y (hst y hy)))) (by
    show KR l X md v M' p e R s m args below meth c Q ((cells + 1) + (M'.1 - (mn + 1))) ((slots + slO a) + (sl M'.1 - sl (mn + 1)))
    rw [show (cells + 1) + (M'.1 - (mn + 1)) = cells + (M'.1 - mn) by omega, show (slots + slO a) + (sl M'.1 - sl (mn + 1)) = slots + (sl M'.1 - sl mn) by omega]
    exact hR)
  have e3 : tv X (.inr (.inr a)) = .ref (xB X + mn) := by
    show Value.ref (aR X a) = _
    rw [aR_eq ha10, e2]
  show W p l e R s m args below meth c H' locs (cells + 1) (slots + slO a) Q (F0 m pc' ls (.ref (xB X + mn) :: st'.map (tv X)))
  rw [← e3]
  exact hK
theorem df_ty {c k : Nat} (hc : c < 10) (hk : k < nF c) : defaultValue (tyN c k) = (if 2 ≤ fk c k then .null else .int 0) := by
  have h32 : k < 32 := Nat.lt_of_lt_of_le hk (nF_32 c hc)
  by_cases h : 2 ≤ fk c k
  · rw [if_pos h]
    have := fk_ty2 c hc k h32 hk h
    cases ht : tyN c k <;> rw [ht] at this <;> first | rfl | cases this
  · rw [if_neg h]
    rcases (by omega : fk c k = 0 ∨ fk c k = 1) with e | e
    · rw [fk_ty0 c hc k h32 hk e]; rfl
    · rw [fk_ty1 c hc k h32 hk e]; rfl
theorem gi_new {l : Launch} {X : XT} {d : Nat} {md : MD} {pc len a b c' : Nat} {x0 : Int32} {lg : Int64} {ks : List (Int32 × Nat)} {L : List (Option AV)} {st : List AV} {M M' : Mem} {v : Option AV} {S' : St} {n : Nat} (hdc : decode md.2.2.1 pc = .ok (.new n, len)) (hx : okX md.1 md.2.2.2.1 md.2.2.2.2.2.1 pc (.new n) len a b c' x0 lg ks = true) (hs : exI md.2.2.2.2.1 (.new n) len a b c' x0 lg ks pc L st M = some (.inl S')) (hd : 1 ≤ d) (hG : Good l X d md S' v M') : Good l X d md (pc, L, st, M) v M' := by
  simp only [okX, Bool.and_eq_true, decide_eq_true_eq] at hx
  obtain ⟨⟨rfl, hm⟩, ha10⟩ := hx
  simp only [exI, nx] at hs
  split at hs
  · rename_i ci i ho
    cases hb : ci.beq a with
    | false => rw [hb] at hs; cases hs
    | true =>
      rw [hb] at hs
      have e := beq_eq hb
      subst e
      cases hs
      refine G_alloc ho ha10 (fun _ h => h) hG (fun p e R s m args below meth c Q H locs cells slots ls hP hS hsz hcl hsl K => ?_)
      obtain ⟨hn, e1, e2⟩ := ord_get ho
      have hz := hS.2.2.2.1 ci i 0 (by rw [e2]; exact Nat.le_refl _) (by rw [e2]; exact hn)
      have hKn := hP.2.2.2.2.2.1.1 ci _ (tb_cl ci ha10)
      refine W.newcK hP.1 hP.2.1 hP.2.2.2.1 (hP.2.2.2.2.1 _ (gT_in (pick_of tb_NL0 _ hm) rfl)) (hP.2.2.2.2.1 _ (gT_in (pick_of tb_IB0 _ (tb_IBn ci ha10)) rfl)) (hP.2.2.2.2.1 _ (gT_in (pick_of tb_IN0 _ (tb_INn ci (by omega))) rfl)) rfl hdc hcl hsl hKn.2.1 hsz fun H1 kC hkC h1 z1 o1 => ?_
      refine K H1 (by rw [hsz]; exact o1) (by omega) ?_
      refine ⟨_, tb_cl ci ha10, (u_born (tyN ci) hP.2.2.2.2.1 (tb_gin ha10) hKn hkC h1 (tb_ty ci ha10)).to (fun j hj => ?_)⟩
      show _ = (((List.range (nF ci)).map (fv X M ci i)).getD j .null)
      rw [List.getD_eq_getElem?_getD, fv_at hj, df_ty ha10 hj]
      show _ = fv X M ci i j
      unfold fv
      by_cases h2 : 2 ≤ fk ci j
      · rw [if_pos h2]
        obtain ⟨z, hz2⟩ : ∃ z, fk ci j = z + 2 := ⟨fk ci j - 2, by omega⟩
        rw [hz2]
        show _ = (bif M.2.1 ci i j then _ else _)
        rw [hz.2.1 rfl j (Nat.lt_trans hj (nF_lt ci))]; rfl
      · rw [if_neg h2]
        rcases (by omega : fk ci j = 0 ∨ fk ci j = 1) with e | e
        · rw [e]; show _ = Value.int _; rw [hz.1 j]
        · rw [e]; show _ = Value.int _; rw [hz.1 j]
  · cases hs
theorem al_lt {c o : Nat} : al c o ≤ 5000 := by
  unfold al
  by_cases hc : c < 10
  · by_cases ho : o < 33
    · exact (by decide +kernel : ∀ c, c < 10 → ∀ o, o < 33 → (alT.getD c []).getD o 0 ≤ 5000) c hc o ho
    · rw [List.getD_eq_getElem?_getD, List.getElem?_eq_none (by
        have : ∀ c, c < 10 → (alT.getD c []).length ≤ 33 := by decide +kernel
        have := this c hc
        omega)]
      decide
  · rw [List.getD_eq_getElem?_getD, List.getD_eq_getElem?_getD, List.getElem?_eq_none (l := alT) (by simp [alT]; omega)]
    show (([] : List Nat)[o]?).getD 0 ≤ 5000
    simp
theorem gi_newarray {l : Launch} {X : XT} {d : Nat} {md : MD} {pc len a b c' : Nat} {x0 : Int32} {lg : Int64} {ks : List (Int32 × Nat)} {L : List (Option AV)} {st : List AV} {M M' : Mem} {v : Option AV} {S' : St} {n : ArrayType} (hdc : decode md.2.2.1 pc = .ok (.newarray n, len)) (hx : okX md.1 md.2.2.2.1 md.2.2.2.2.2.1 pc (.newarray n) len a b c' x0 lg ks = true) (hs : exI md.2.2.2.2.1 (.newarray n) len a b c' x0 lg ks pc L st M = some (.inl S')) (hd : 1 ≤ d) (hG : Good l X d md S' v M') : Good l X d md (pc, L, st, M) v M' := by
  simp only [okX, Bool.and_eq_true, decide_eq_true_eq] at hx
  obtain ⟨rfl, rfl⟩ := hx
  simp only [exI, nx] at hs
  split at hs
  · rename_i x r
    split at hs
    · rename_i ci i o ho
      split at hs
      · rename_i hq
        obtain ⟨hb, hx0, hxl⟩ := hq
        cases hs
        have ha10 := isIA_lt hb
        refine G_alloc ho ha10 (fun _ h => List.mem_cons_of_mem _ h) hG (fun p e R s m args below meth c Q H locs cells slots ls hP hS hsz hcl hsl K => ?_)
        obtain ⟨hn, e1, e2⟩ := ord_get ho
        have hz := hS.2.2.2.1 ci i (o + 1) (by rw [e2]; exact Nat.le_refl _) (by rw [e2]; exact hn)
        have hal := al_lt (c := ci) (o := o + 1)
        refine va_newaK hP.1 hP.2.1 (atype := .int) (hP.2.2.2.2.1 _ (gT_in tb_ar rfl)) rfl hdc (n := x) (rest := r.map (tv X)) rfl hx0 hxl (by
          show al ci (o + 1) * 4 ≤ _
          omega) hcl hsl hsz fun H1 cA h1 z1 o1 hA hF => ?_
        refine K H1 (by rw [hsz]; exact o1) (by omega) ?_
        have hcA : cA = xI X := by
          have h2 : s.vm.findClass ("[" ++ FieldType.int.toString) = some (xI X) := (hP.2.2.2.2.2.1.2 0 _ rfl).2
          exact Option.some.inj (hF.symm.trans h2)
        subst hcA
        rw [ce_ia hb]
        show H1[xB X + M.1]? = some (vp_cell (xI X) (al ci (o + 1), .inl (fun j => M.2.2.2 ci i (o + 1) j)))
        rw [h1, vp_cell_i]
        have : (fun j => Value.int (M.2.2.2 ci i (o + 1) j)) = (fun _ => Value.int 0) := by funext j; rw [hz.1 j]
        rw [this]
        rfl
      · cases hs
    · cases hs
  · cases hs
theorem gi_anewarray {l : Launch} {X : XT} {d : Nat} {md : MD} {pc len a b c' : Nat} {x0 : Int32} {lg : Int64} {ks : List (Int32 × Nat)} {L : List (Option AV)} {st : List AV} {M M' : Mem} {v : Option AV} {S' : St} {n : Nat} (hdc : decode md.2.2.1 pc = .ok (.anewarray n, len)) (hx : okX md.1 md.2.2.2.1 md.2.2.2.2.2.1 pc (.anewarray n) len a b c' x0 lg ks = true) (hs : exI md.2.2.2.2.1 (.anewarray n) len a b c' x0 lg ks pc L st M = some (.inl S')) (hd : 1 ≤ d) (hG : Good l X d md S' v M') : Good l X d md (pc, L, st, M) v M' := by
  simp only [okX, Bool.and_eq_true, decide_eq_true_eq] at hx
  obtain ⟨⟨rfl, hm⟩, hor⟩ := hx
  simp only [exI, nx] at hs
  split at hs
  · rename_i x r
    split at hs
    · rename_i ci i o ho
      split at hs
      · rename_i hq
        obtain ⟨hb, hx0, hxl, hca⟩ := hq
        cases hs
        have ha10 := isRA_lt hb
        refine G_alloc ho ha10 (fun _ h => List.mem_cons_of_mem _ h) hG (fun p e R s m args below meth c Q H locs cells slots ls hP hS hsz hcl hsl K => ?_)
        obtain ⟨hn, e1, e2⟩ := ord_get ho
        have hz := hS.2.2.2.1 ci i (o + 1) (by rw [e2]; exact Nat.le_refl _) (by rw [e2]; exact hn)
        have hal := al_lt (c := ci) (o := o + 1)
        have hAO : va_AO (rN a) s := by
          rcases hca with ⟨-, e⟩ | ⟨-, e⟩
          · rw [e]; exact hP.2.2.2.2.2.2.2.2.1.2.1
          · rw [e]; exact hP.2.2.2.2.2.2.2.2.1.2.2
        have hFc : s.vm.findClass ("[" ++ (FieldType.object (rN a)).toString) = some (cR X ci) := by
          rcases hca with ⟨e0, e⟩ | ⟨e0, e⟩
          · obtain ⟨kA, comp, -, -, -, h4⟩ := (hP.2.2.2.2.2.1.2 1 _ rfl).2
            rw [e, e0]; exact h4
          · obtain ⟨kA, comp, -, -, -, h4⟩ := (hP.2.2.2.2.2.1.2 2 _ rfl).2
            rw [e, e0]; exact h4
        have hsl2 : slots + x.toNatClampNeg ≤ R.slots := by rw [hxl]; exact hsl
        refine W.anew hP.1 hP.2.1 hP.2.2.2.1 (hP.2.2.2.2.1 _ (gT_in (pick_of tb_NL0 _ hm) rfl)) (va_AO.use hAO) rfl hdc (n := x) (rest := r.map (tv X)) rfl hx0 (by rw [hxl]; omega) hcl hsl2 fun cA kA comp f1 f2 f3 f4 => ?_
        have hcA : cA = cR X ci := Option.some.inj (f1.symm.trans hFc)
        subst hcA
        have hK := K (H.push { cls := cR X ci, slots := Array.replicate x.toNatClampNeg .null, vm := .none }) (fun q hq => by rw [Array.getElem?_push, if_neg (Nat.ne_of_lt hq)]) (by simp) (by
          rw [ce_ra hb]
          show (H.push _)[xB X + M.1]? = some (vp_cell (cR X ci) (al ci (o + 1), .inr (.inr (.inr (.inr (fun j => bif M.2.1 ci i (1000 + j) then some (xB X + sq (et ci j)) else none))))))
          rw [← hsz, Array.getElem?_push_size, arrV_new, vp_cell_q, hxl]
          have : (fun j => va_rf (bif M.2.1 ci i (1000 + j) then some (xB X + sq (et ci j)) else none)) = (fun _ => Value.null) := by
            funext j; rw [hz.2.2 hb j]; rfl
          rw [this])
        rw [hsz]
        rw [hxl] at hK ⊢
        exact hK
      · cases hs
    · cases hs
  · cases hs
