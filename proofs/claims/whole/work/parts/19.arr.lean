/-! arrays -/
theorem ce_ia {X : XT} {M : Mem} {c i o : Nat} (h : isIA c (o + 1) = true) : ce X M (c, i, o + 1) = .inl (xI X, al c (o + 1), .inl (fun j => M.2.2.2 c i (o + 1) j)) := by
  have h2 : fk c o = 2 := beq_eq h
  unfold ce
  show (bif (fk c o).beq 3 then _ else _) = _
  rw [h2]; rfl
theorem ce_ra {X : XT} {M : Mem} {c i o : Nat} (h : isRA c (o + 1) = true) : ce X M (c, i, o + 1) = .inl (cR X c, al c (o + 1), .inr (.inr (.inr (.inr (fun j => bif M.2.1 c i (1000 + j) then some (xB X + sq (et c j)) else none))))) := by
  have h2 : fk c o = 3 := beq_eq h
  unfold ce
  show (bif (fk c o).beq 3 then _ else _) = _
  rw [h2]; rfl
theorem isIA_lt {c o : Nat} (h : isIA c (o + 1) = true) : c < 10 := fk_lt (k := o) (by rw [show fk c o = 2 from beq_eq h]; decide)
theorem isRA_lt {c o : Nat} (h : isRA c (o + 1) = true) : c < 10 := fk_lt (k := o) (by rw [show fk c o = 3 from beq_eq h]; decide)
theorem isIA_not {c o : Nat} (h : isIA c (o + 1) = true) : isRA c (o + 1) = false := by
  show (fk c o).beq 3 = false
  rw [show fk c o = 2 from beq_eq h]; rfl
theorem fits_int (x : Int32) : fits .int (.int x) = true := rfl
/-- two arrays that agree up to their length are one cell -/
theorem va_P_arr {X : XT} {ws : va_W} {H : Heap} {q A N : Nat} {f g : Nat → Int32} {E : va_E} (hE : E = .inl (xI X, N, .inl g)) (h : ∀ j, j < N → g j = f j) (hp : va_P (xD X) vwCl (ws.set q (A, .inl (xI X, N, .inl f))) H) : va_P (xD X) vwCl (ws.set q (A, E)) H := by
  subst hE
  intro k z hk
  by_cases e : k = q
  · subst e
    by_cases hl : k < ws.length
    · rw [List.getElem?_set_self hl] at hk
      cases hk
      have h1 := hp k (A, .inl (xI X, N, .inl f)) (List.getElem?_set_self hl)
      show H[A]? = some (vp_cell (xI X) (N, .inl g))
      have h1 : H[A]? = some (vp_cell (xI X) (N, .inl f)) := h1
      rw [h1, vp_cell_i, vp_cell_i]
      congr 1
      show arrV _ _ _ = arrV _ _ _
      unfold arrV
      congr 1
      apply Array.ext
      · simp
      · intro j h1 h2
        simp only [Array.getElem_ofFn]
        rw [h j (by simpa using h2)]
    · rw [List.getElem?_eq_none (by rw [List.length_set]; omega)] at hk; cases hk
  · rw [List.getElem?_set_ne (Ne.symm e)] at hk
    exact hp k z (by rw [List.getElem?_set_ne (Ne.symm e)]; exact hk)
theorem gi_iaload {l : Launch} {X : XT} {d : Nat} {md : MD} {pc len a b c' : Nat} {x0 : Int32} {lg : Int64} {ks : List (Int32 × Nat)} {L : List (Option AV)} {st : List AV} {M M' : Mem} {v : Option AV} {S' : St}  (hdc : decode md.2.2.1 pc = .ok (.iaload, len)) (hx : okX md.1 md.2.2.2.1 md.2.2.2.2.2.1 pc (.iaload) len a b c' x0 lg ks = true) (hs : exI md.2.2.2.2.1 (.iaload) len a b c' x0 lg ks pc L st M = some (.inl S')) (hd : 1 ≤ d) (hG : Good l X d md S' v M') : Good l X d md (pc, L, st, M) v M' := by
  simp only [okX, decide_eq_true_eq] at hx
  subst hx
  simp only [exI, nx] at hs
  split at hs
  · rename_i j ci i o r
    cases hb : isIA ci o with
    | false => rw [hb] at hs; cases hs
    | true =>
      rw [hb] at hs
      simp only [cond_true] at hs
      split at hs
      · cases hs
      · rename_i hin
        cases hs
        refine G_of rfl hG (fun p e R s m args below meth c Q H locs cells slots ls hP hS hV hL hk K => ?_)
        cases o with
        | zero =>
          have e13 : ci = 13 := beq_eq hb
          subst e13
          have ha : okA M.1 (13, i, 0) := hk _ (List.mem_cons_of_mem _ List.mem_cons_self)
          have hi : i = 0 := by
            rcases ha with q | q
            · cases q; rfl
            · exact absurd q.1 (show ¬ (13 : Nat) < 10 by decide)
          subst hi
          obtain ⟨hX, hbl, hbA⟩ := hP.2.2.2.2.2.2.2.2.2.1
          show W p l e R s m args below meth c H locs cells slots Q (F0 m pc ls (.int j :: .ref (xb X) :: r.map (tv X)))
          refine va_sld hP.1 hP.2.1 hX hbl (A := xA X) (Nat.not_le.mpr hbA) hV (i := j) (by
            show ¬ (j < 0 ∨ xL X ≤ j.toNatClampNeg)
            rw [← hS.2.2.2.2.1]; exact hin) hdc ?_
          have e := hS.2.2.2.2.2 j.toNatClampNeg
          rw [← e]
          exact K H locs ls hS hV hL (ok1 trivial (okt (okt hk)))
        | succ o =>
          have hc := isIA_lt hb
          have ho := okA_lt (hk _ (List.mem_cons_of_mem _ List.mem_cons_self)) (show ci ≠ 13 by omega)
          show W p l e R s m args below meth c H locs cells slots Q (F0 m pc ls (.int j :: .ref (aR X (ci, i, o + 1)) :: r.map (tv X)))
          rw [aR_eq ho.1]
          have hb13 : ci.beq 13 = false := by
            cases hq : ci.beq 13 with
            | true => have := beq_eq hq; omega
            | false => rfl
          exact va_iald (D := xD X) (ws := wld X M) hP.1 hP.2.1 hP.2.2.2.2.2.1 hS.2.1 (sq (ci, i, o + 1)) 0 (by rw [wld_at ho.2 hS.1, ce_ia hb]) rfl (i := j) (by
            show ¬ (j < 0 ∨ al ci (o + 1) ≤ j.toNatClampNeg)
            unfold aLen at hin
            rw [hb13] at hin; exact hin) hdc (K H locs ls hS hV hL (ok1 trivial (okt (okt hk))))
  · cases hs
theorem gi_iastore {l : Launch} {X : XT} {d : Nat} {md : MD} {pc len a b c' : Nat} {x0 : Int32} {lg : Int64} {ks : List (Int32 × Nat)} {L : List (Option AV)} {st : List AV} {M M' : Mem} {v : Option AV} {S' : St}  (hdc : decode md.2.2.1 pc = .ok (.iastore, len)) (hx : okX md.1 md.2.2.2.1 md.2.2.2.2.2.1 pc (.iastore) len a b c' x0 lg ks = true) (hs : exI md.2.2.2.2.1 (.iastore) len a b c' x0 lg ks pc L st M = some (.inl S')) (hd : 1 ≤ d) (hG : Good l X d md S' v M') : Good l X d md (pc, L, st, M) v M' := by
  simp only [okX, decide_eq_true_eq] at hx
  subst hx
  obtain ⟨mn, mf, ml, mw⟩ := M
  simp only [exI, nx] at hs
  split at hs
  · rename_i x j ci i o r
    cases hb : isIA ci (o + 1) with
    | false => rw [hb] at hs; cases hs
    | true =>
      rw [hb] at hs
      simp only [cond_true] at hs
      split at hs
      · cases hs
      · rename_i hin
        cases hs
        refine G_of (M1 := (mn, mf, ml, u4 mw ci i (o + 1) j.toNatClampNeg x)) rfl hG (fun p e R s m args below meth c Q H locs cells slots ls hP hS hV hL hk K => ?_)
        have hc := isIA_lt hb
        have ho := okA_lt (hk _ (List.mem_cons_of_mem _ (List.mem_cons_of_mem _ List.mem_cons_self))) (show ci ≠ 13 by omega)
        show W p l e R s m args below meth c H locs cells slots Q (F0 m pc ls (.int x :: .int j :: .ref (aR X (ci, i, o + 1)) :: r.map (tv X)))
        rw [aR_eq ho.1]
        refine va_iast (D := xD X) (ws := wld X (mn, mf, ml, mw)) hP.1 hP.2.1 hP.2.2.2.2.2.1 hS.2.1 (wld_D X _) hV (sq (ci, i, o + 1)) 0 (by rw [wld_at ho.2 hS.1, ce_ia hb]) rfl (i := j) hin hdc (fun H1 locs1 p1 _ v1 => ?_)
        refine K H1 locs1 ls (sim_set (M' := (mn, mf, ml, u4 mw ci i (o + 1) j.toNatClampNeg x)) hS rfl rfl ho.2 (by omega) sm_u4 ?_ ?_) v1 hL (okt (okt (okt hk)))
        · exact ⟨fun q => by omega, fun q => by rw [isIA_not hb] at q; cases q⟩
        · rw [ce_ia hb]
          have : upd (fun j => mw ci i (o + 1) j) j.toNatClampNeg x = (fun k => u4 mw ci i (o + 1) j.toNatClampNeg x ci i (o + 1) k) := by
            funext k
            by_cases hq : k = j.toNatClampNeg
            · subst hq; simp [upd, u4]
            · simp [upd, u4, hq]
          rw [← this]
          exact p1
  · cases hs
theorem tys_at {X : XT} {c o : Nat} (h : isRA c (o + 1) = true) : ∃ (t : Nat) (C : String), (xT X)[t]? = some (cR X c, FieldType.object C) ∧ (c = 3 → C = RX6) ∧ (c = 8 → C = RX2) := by
  rcases fk3 (show fk c o = 3 from beq_eq h) with ⟨rfl, rfl⟩ | ⟨rfl, rfl⟩
  · exact ⟨1, RX6, rfl, fun _ => rfl, fun q => by omega⟩
  · exact ⟨2, RX2, rfl, fun q => by omega, fun _ => rfl⟩
theorem gi_aaload {l : Launch} {X : XT} {d : Nat} {md : MD} {pc len a b c' : Nat} {x0 : Int32} {lg : Int64} {ks : List (Int32 × Nat)} {L : List (Option AV)} {st : List AV} {M M' : Mem} {v : Option AV} {S' : St}  (hdc : decode md.2.2.1 pc = .ok (.aaload, len)) (hx : okX md.1 md.2.2.2.1 md.2.2.2.2.2.1 pc (.aaload) len a b c' x0 lg ks = true) (hs : exI md.2.2.2.2.1 (.aaload) len a b c' x0 lg ks pc L st M = some (.inl S')) (hd : 1 ≤ d) (hG : Good l X d md S' v M') : Good l X d md (pc, L, st, M) v M' := by
  simp only [okX, decide_eq_true_eq] at hx
  subst hx
  simp only [exI, nx] at hs
  split at hs
  · rename_i j ci i o r
    cases hb : isRA ci (o + 1) with
    | false => rw [hb] at hs; cases hs
    | true =>
      rw [hb] at hs
      simp only [cond_true] at hs
      split at hs
      · cases hs
      · rename_i hin
        cases hf : M.2.1 ci i (1000 + j.toNatClampNeg) with
        | false => rw [hf] at hs; cases hs
        | true =>
          rw [hf] at hs
          cases hs
          refine G_of rfl hG (fun p e R s m args below meth c Q H locs cells slots ls hP hS hV hL hk K => ?_)
          have hc := isRA_lt hb
          have ho := okA_lt (hk _ (List.mem_cons_of_mem _ List.mem_cons_self)) (show ci ≠ 13 by omega)
          obtain ⟨t, C, ht, -, -⟩ := tys_at (X := X) hb
          have he := (hS.2.2.1 ci i (o + 1) ho.2).2 hb j.toNatClampNeg (Nat.not_le.mp fun q => hin (Or.inr q)) hf
          show W p l e R s m args below meth c H locs cells slots Q (F0 m pc ls (.int j :: .ref (aR X (ci, i, o + 1)) :: r.map (tv X)))
          rw [aR_eq ho.1]
          refine va_aldq (D := xD X) (ws := wld X M) hP.1 hP.2.1 hP.2.2.2.2.2.1 hS.2.1 (sq (ci, i, o + 1)) t (by rw [wld_at ho.2 hS.1, ce_ra hb]) ht (i := j) hin hdc ?_
          rw [hf]
          have hK := K H locs ls hS hV hL (ok1 (Or.inr he) (okt (okt hk)))
          have e2 : tv X (.inr (.inr (et ci j.toNatClampNeg))) = .ref (xB X + sq (et ci j.toNatClampNeg)) := by
            show Value.ref _ = _
            rw [aR_eq he.1]
          rw [List.map_cons, e2] at hK
          exact hK
  · cases hs
theorem gi_aastore {l : Launch} {X : XT} {d : Nat} {md : MD} {pc len a b c' : Nat} {x0 : Int32} {lg : Int64} {ks : List (Int32 × Nat)} {L : List (Option AV)} {st : List AV} {M M' : Mem} {v : Option AV} {S' : St}  (hdc : decode md.2.2.1 pc = .ok (.aastore, len)) (hx : okX md.1 md.2.2.2.1 md.2.2.2.2.2.1 pc (.aastore) len a b c' x0 lg ks = true) (hs : exI md.2.2.2.2.1 (.aastore) len a b c' x0 lg ks pc L st M = some (.inl S')) (hd : 1 ≤ d) (hG : Good l X d md S' v M') : Good l X d md (pc, L, st, M) v M' := by
  simp only [okX, decide_eq_true_eq] at hx
  subst hx
  obtain ⟨mn, mf, ml, mw⟩ := M
  simp only [exI, nx] at hs
  split at hs
  · rename_i x j ci i o r
    cases hb : isRA ci (o + 1) with
    | false => rw [hb] at hs; cases hs
    | true =>
      rw [hb] at hs
      simp only [cond_true] at hs
      split at hs
      · cases hs
      · rename_i hin0
        have hin : ¬ (j < 0 ∨ al ci (o + 1) ≤ j.toNatClampNeg) := fun q => hin0 (Or.inl q)
        have hxe : x = et ci j.toNatClampNeg := Classical.not_not.mp fun q => hin0 (Or.inr q)
        cases hs
        refine G_of (M1 := (mn, uf mf ci i (1000 + j.toNatClampNeg), ml, mw)) rfl hG (fun p e R s m args below meth c Q H locs cells slots ls hP hS hV hL hk K => ?_)
        have hc := isRA_lt hb
        have hr := fk3 (show fk ci o = 3 from beq_eq hb)
        have ho := okA_lt (hk _ (List.mem_cons_of_mem _ (List.mem_cons_of_mem _ List.mem_cons_self))) (show ci ≠ 13 by omega)
        have hx0 : x.2.2 = 0 ∧ ((ci = 3 → x.1 = 6) ∧ (ci = 8 → x.1 = 2)) := by
          rw [hxe]
          unfold et
          rcases hr with ⟨rfl, -⟩ | ⟨rfl, -⟩
          · exact ⟨rfl, fun _ => rfl, fun q => by omega⟩
          · exact ⟨rfl, fun q => by omega, fun _ => rfl⟩
        have hx13 : x.1 ≠ 13 := by
          rcases hr with ⟨e, -⟩ | ⟨e, -⟩
          · rw [hx0.2.1 e]; decide
          · rw [hx0.2.2 e]; decide
        have hj := okA_lt (hk _ List.mem_cons_self) hx13
        obtain ⟨t, C, ht, hC3, hC8⟩ := tys_at (X := X) hb
        have hC : C = rN x.1 := by
          rcases hr with ⟨e, -⟩ | ⟨e, -⟩
          · rw [hC3 e, hx0.2.1 e]; rfl
          · rw [hC8 e, hx0.2.2 e]; rfl
        subst hC
        show W p l e R s m args below meth c H locs cells slots Q (F0 m pc ls (.ref (aR X x) :: .int j :: .ref (aR X (ci, i, o + 1)) :: r.map (tv X)))
        rw [aR_eq ho.1, aR_eq hj.1]
        have hxc : ce X (mn, mf, ml, mw) x = .inr (x.1, (List.range (nF x.1)).map (fv X (mn, mf, ml, mw) x.1 x.2.1)) := by
          unfold ce
          rw [hx0.1]
        refine va_astq (D := xD X) (ws := wld X (mn, mf, ml, mw)) (r := (rN x.1, tN x.1, nF x.1)) hP.1 hP.2.1 hP.2.2.2.2.2.1 hS.2.1 (wld_D X _) hV (sq (ci, i, o + 1)) t (sq x) x.1 (by rw [wld_at ho.2 hS.1, ce_ra hb]) ht (by rw [wld_at hj.2 hS.1, hxc]) (tb_cl x.1 hj.1) (i := j) hin hdc (fun H1 locs1 p1 _ v1 => ?_)
        refine K H1 locs1 ls (sim_set (M' := (mn, uf mf ci i (1000 + j.toNatClampNeg), ml, mw)) hS rfl rfl ho.2 (by omega) ?_ ?_ ?_) v1 hL (okt (okt (okt hk)))
        · intro c1 i1 o1 hne
          refine ⟨fun k => rfl, fun e k k1 => uf_eq (fun q => by omega), fun e k => uf_eq (fun q => ?_)⟩
          obtain ⟨q1, q2, q3⟩ := q
          subst q1; subst q2
          exact hne (by rw [isRA_one e hb])
        · refine ⟨fun q => by omega, fun _ k k1 k2 => ?_⟩
          by_cases e : k = j.toNatClampNeg
          · rw [e, ← hxe]; exact hj
          · exact (hS.2.2.1 ci i (o + 1) ho.2).2 hb k k1 (by rw [← k2]; exact (uf_eq (fun q => e (by omega))).symm)
        · rw [ce_ra hb]
          have : (va_up (fun k => bif mf ci i (1000 + k) then some (xB X + sq (et ci k)) else none) j.toNatClampNeg (some (xB X + sq x))) = (fun k => bif uf mf ci i (1000 + j.toNatClampNeg) ci i (1000 + k) then some (xB X + sq (et ci k)) else none) := by
            funext k
            by_cases hq : k = j.toNatClampNeg
            · subst hq; rw [uf_self, hxe]; simp [va_up]
            · rw [uf_eq (fun q => hq (by omega))]; simp [va_up, hq]
          rw [← this]
          exact p1
  · cases hs
theorem gi_arraylength {l : Launch} {X : XT} {d : Nat} {md : MD} {pc len a b c' : Nat} {x0 : Int32} {lg : Int64} {ks : List (Int32 × Nat)} {L : List (Option AV)} {st : List AV} {M M' : Mem} {v : Option AV} {S' : St}  (hdc : decode md.2.2.1 pc = .ok (.arraylength, len)) (hx : okX md.1 md.2.2.2.1 md.2.2.2.2.2.1 pc (.arraylength) len a b c' x0 lg ks = true) (hs : exI md.2.2.2.2.1 (.arraylength) len a b c' x0 lg ks pc L st M = some (.inl S')) (hd : 1 ≤ d) (hG : Good l X d md S' v M') : Good l X d md (pc, L, st, M) v M' := by
  simp only [okX, decide_eq_true_eq] at hx
  subst hx
  simp only [exI, nx] at hs
  split at hs
  · rename_i r
    cases hs
    refine G_of rfl hG (fun p e R s m args below meth c Q H locs cells slots ls hP hS hV hL hk K => ?_)
    obtain ⟨hX, hbl, hbA⟩ := hP.2.2.2.2.2.2.2.2.2.1
    show W p l e R s m args below meth c H locs cells slots Q (F0 m pc ls (.ref (xb X) :: r.map (tv X)))
    refine va_slen hP.1 hP.2.1 hX hbl (A := xA X) (Nat.not_le.mpr hbA) hV hdc ?_
    rw [← hS.2.2.2.2.1]
    exact K H locs ls hS hV hL (ok1 trivial (okt hk))
  · cases hs
theorem cat_le (X : XT) (st : List AV) : ((st.map (tv X)).map fun v => v.category).sum ≤ 2 * st.length := by
  induction st with
  | nil => simp
  | cons x r ih =>
    simp only [List.map_cons, List.sum_cons, List.length_cons]
    have : (tv X x).category ≤ 2 := by rw [cat_tv]; split <;> omega
    omega
theorem ble_le {a b : Nat} (h : a.ble b = true) : a ≤ b := Nat.le_of_ble_eq_true h
theorem gi_invokespecial {l : Launch} {X : XT} {d : Nat} {md : MD} {pc len a b c' : Nat} {x0 : Int32} {lg : Int64} {ks : List (Int32 × Nat)} {L : List (Option AV)} {st : List AV} {M M' : Mem} {v : Option AV} {S' : St} {n : Nat} (hdc : decode md.2.2.1 pc = .ok (.invokespecial n, len)) (hx : okX md.1 md.2.2.2.1 md.2.2.2.2.2.1 pc (.invokespecial n) len a b c' x0 lg ks = true) (hs : exI md.2.2.2.2.1 (.invokespecial n) len a b c' x0 lg ks pc L st M = some (.inl S')) (hd : 1 ≤ d) (hG : Good l X d md S' v M') : Good l X d md (pc, L, st, M) v M' := by
  simp only [okX, Bool.and_eq_true, decide_eq_true_eq] at hx
  obtain ⟨rfl, hx⟩ := hx
  simp only [exI, nx] at hs
  split at hs
  · split at hs
    · rename_i y r
      cases hb : r.length.ble 4 with
      | false => rw [hb] at hs; cases hs
      | true =>
        rw [hb] at hs
        cases hs
        have hm : (md.1, n) ∈ OIt := by simpa using hx
        refine G_of rfl hG (fun p e R s m args below meth c Q H locs cells slots ls hP hS hV hL hk K => ?_)
        have hc := cat_le X r
        have hl := ble_le hb
        show W p l e R s m args below meth c H locs cells slots Q (F0 m pc ls (.ref (aR X y) :: r.map (tv X)))
        refine W.objInit hP.1 hP.2.1 hP.2.2.2.1 (hP.2.2.2.2.1 _ (gT_in (pick_of tb_OI0 _ hm) rfl)) (hP.2.2.2.2.1 _ (gT_in tb_o1 rfl)) (hP.2.2.2.2.1 _ (gT_in tb_o2 rfl)) rfl (by rw [hP.2.2.1]; exact hL.1) rfl hdc (Nat.le_trans hd hP.2.2.2.2.2.2.2.2.2.2.1) (by
          have h30 := hP.2.2.2.2.2.2.2.2.2.2.2
          show 2 * 0 + _ + 12 ≤ R.locals
          omega) ?_
        exact K H locs ls hS hV hL (okt hk)
    · cases hs
  · split at hs
    · rename_i i r hdr
      cases hb : r.length.ble 4 with
      | false => rw [hb] at hs; cases hs
      | true => rw [hb] at hs; cases hs
    · cases hs
theorem gi_invokestatic {l : Launch} {X : XT} {d : Nat} {md : MD} {pc len a b c' : Nat} {x0 : Int32} {lg : Int64} {ks : List (Int32 × Nat)} {L : List (Option AV)} {st : List AV} {M M' : Mem} {v : Option AV} {S' : St} {n : Nat} (hdc : decode md.2.2.1 pc = .ok (.invokestatic n, len)) (hx : okX md.1 md.2.2.2.1 md.2.2.2.2.2.1 pc (.invokestatic n) len a b c' x0 lg ks = true) (hs : exI md.2.2.2.2.1 (.invokestatic n) len a b c' x0 lg ks pc L st M = some (.inl S')) (hd : 1 ≤ d) (hG : Good l X d md S' v M') : Good l X d md (pc, L, st, M) v M' := by
  simp only [okX, Bool.and_eq_true, decide_eq_true_eq] at hx
  obtain ⟨rfl, hx⟩ := hx
  obtain ⟨mn, mf, ml, mw⟩ := M
  simp only [exI, nx] at hs
  split at hs
  · split at hs
    · rename_i k dp c1 i1 o1 sp c0 i0 o0 r
      cases hb1 : isIA c1 (o1 + 1) with
      | false => rw [hb1] at hs; cases hs
      | true =>
        cases hb0 : isIA c0 (o0 + 1) with
        | false => rw [hb1, hb0] at hs; cases hs
        | true =>
          cases hbl : r.length.ble 4 with
          | false => rw [hb1, hb0, hbl] at hs; cases hs
          | true =>
            rw [hb1, hb0, hbl] at hs
            simp only [Bool.and_self, cond_true] at hs
            split at hs
            · rename_i hz
              obtain ⟨rfl, rfl, hk1, hal, hk0⟩ := hz
              cases hs
              have hm : (md.1, n) ∈ ACt := by simpa using hx
              refine G_of (M1 := (mn, mf, ml, uc mw c1 i1 (o1 + 1) (mw c0 i0 (o0 + 1)))) rfl hG (fun p e R s m args below meth c Q H locs cells slots ls hP hS hV hL hk K => ?_)
              have hc1 := isIA_lt hb1
              have hc0 := isIA_lt hb0
              have ho1 := okA_lt (hk _ (List.mem_cons_of_mem _ (List.mem_cons_of_mem _ List.mem_cons_self))) (show c1 ≠ 13 by omega)
              have ho0 := okA_lt (hk _ (List.mem_cons_of_mem _ (List.mem_cons_of_mem _ (List.mem_cons_of_mem _ (List.mem_cons_of_mem _ List.mem_cons_self))))) (show c0 ≠ 13 by omega)
              have hc := cat_le X r
              have hl := ble_le hbl
              show W p l e R s m args below meth c H locs cells slots Q (F0 m pc ls (.int k :: .int 0 :: .ref (aR X (c1, i1, o1 + 1)) :: .int 0 :: .ref (aR X (c0, i0, o0 + 1)) :: r.map (tv X)))
              rw [aR_eq ho1.1, aR_eq ho0.1]
              have e00 : (0 : Int32).toNatClampNeg = 0 := by decide
              refine va_copyi (D := xD X) (ws := wld X (mn, mf, ml, mw)) (ty := .int) hP.1 hP.2.1 (by rw [hP.2.2.1]; exact hL.1.symm) hP.2.2.2.1 (hP.2.2.2.2.1 _ (gT_in (pick_of tb_AC0 _ hm) rfl)) (hP.2.2.2.2.1 _ (gT_in tb_a1 rfl)) (hP.2.2.2.2.1 _ (gT_in tb_a2 rfl)) (hP.2.2.2.2.1 _ (gT_in tb_a3 rfl)) hP.2.2.2.2.2.1 hS.2.1 (wld_D X _) hV (sq (c0, i0, o0 + 1)) (sq (c1, i1, o1 + 1)) 0 0 (by rw [wld_at ho0.2 hS.1, ce_ia hb0]) (by rw [wld_at ho1.2 hS.1, ce_ia hb1]) rfl rfl rfl (by decide) (by decide) hk0 (by rw [e00, hk1, hal]; omega) (by rw [e00, hk1]; omega) (fun _ _ => rfl) (Nat.le_trans hd hP.2.2.2.2.2.2.2.2.2.2.1) (by
                have h30 := hP.2.2.2.2.2.2.2.2.2.2.2
                have hw : nativeFrameWords "java/lang/System" "arraycopy" 5 = 7 := by decide
                rw [hw]; omega) hdc (fun H1 locs1 p1 _ v1 => ?_)
              refine K H1 locs1 ls (sim_set (M' := (mn, mf, ml, uc mw c1 i1 (o1 + 1) (mw c0 i0 (o0 + 1)))) hS rfl rfl ho1.2 (by omega) (fun c2 i2 o2 hne => ⟨fun q => uc_ne hne q, fun _ _ _ => rfl, fun _ _ => rfl⟩) ?_ ?_) v1 hL (okt (okt (okt (okt (okt hk)))))
              · exact ⟨fun q => by omega, fun q => by rw [isIA_not hb1] at q; cases q⟩
              · have e5 : va_E := ce X (mn, mf, ml, uc mw c1 i1 (o1 + 1) (mw c0 i0 (o0 + 1))) (c1, i1, o1 + 1)
                refine va_P_arr (f := va_cpy (fun j => mw c0 i0 (o0 + 1) j) (fun j => mw c1 i1 (o1 + 1) j) (0 : Int32).toNatClampNeg (0 : Int32).toNatClampNeg k.toNatClampNeg) (N := al c1 (o1 + 1)) (ce_ia hb1) ?_ p1
                intro j hj
                show (if c1 = c1 ∧ i1 = i1 ∧ o1 + 1 = o1 + 1 then mw c0 i0 (o0 + 1) j else mw c1 i1 (o1 + 1) j) = _
                rw [if_pos ⟨rfl, rfl, rfl⟩, e00, hk1, pk_cpy_in (Nat.zero_le j) (by omega)]
                simp
            · cases hs
    · cases hs
  · cases hb : ((st.drop b).length.ble 4 && b.ble st.length) with
    | false => rw [hb] at hs; cases hs
    | true => rw [hb] at hs; cases hs
