theorem all_isL {as : List AV} (h : as.all (fun x => !isL x) = true) : ∀ x ∈ as, isL x = false := by
  intro x hx
  have := List.all_eq_true.mp h x hx
  simpa using this
theorem tb_ini {mi : Nat} (hmi : mi < 199) : Cond.initialized (mdOf mi).2.1.cls ∈ gT := by
  rw [tb_cls hmi]
  exact gT_in (pick_of tb_IN0 _ (tb_INn _ (by have := (tb_m1 mi hmi).1; omega))) rfl
theorem tb_no {mi : Nat} (hmi : mi < 199) : (mdOf mi).2.1.cls ≠ "java/lang/invoke/MethodHandle" ∧ (mdOf mi).2.1.cls ≠ "java/lang/invoke/VarHandle" ∧ (parseMethodDescriptor (mdOf mi).2.1.desc).map (fun d => d.parameters.length) = some (npT.getD mi 0) := by
  have h := tb_nh (mdOf mi).1 (by have := (tb_m1 mi hmi).1; omega)
  rw [tb_cls hmi]
  exact ⟨h.1, h.2, tb_np hmi⟩
theorem lo_room {X : XT} {d mi : Nat} {md : MD} {p : Program} {R : Room} {s : State} {m : MethodId} {args : Array Value} {meth : Method} {c : Code} {n n' : Nat} (hmi : mi < 199) (hP : PR X (d + 1) md p R s m args meth c) : (rmOf d n n').frames + 1 ≤ R.frames ∧ 8 + ((mdOf mi).2.2.2.1 + 11) + (rmOf d n n').locals ≤ R.locals := by
  have h1 := hP.2.2.2.2.2.2.2.2.2.2.1
  have h2 := hP.2.2.2.2.2.2.2.2.2.2.2
  have h3 := (tb_m1 mi hmi).2.1
  exact ⟨h1, by show 8 + ((mdOf mi).2.2.2.1 + 11) + 30 * d ≤ R.locals; omega⟩
theorem rest_room {X : XT} {m : MethodId} {pc : Nat} {ls : Array Slot} {q : List Value} {r : List AV} (h : r.length ≤ 4) : 2 * (F0 m pc ls q).monitorRoom + ((r.map (tv X)).map fun v => v.category).sum ≤ 8 := by
  have := cat_le X r
  show 2 * 0 + _ ≤ 8
  omega
def isInv : Instr → Bool
  | .invokevirtual _ => true
  | .invokespecial _ => true
  | .invokestatic _ => true
  | _ => false
theorem not_call {ret : Option FieldType} {ins : Instr} {len a b c : Nat} {x : Int32} {z : Int64} {ks : List (Int32 × Nat)} {pc : Nat} {L : List (Option AV)} {st : List AV} {M : Mem} {q : Nat × List AV × St} (h : isInv ins = false) : ¬ exI ret ins len a b c x z ks pc L st M = some (.inr (.inl q)) := by
  intro hs
  cases ins with
  | invokevirtual n => cases h
  | invokespecial n => cases h
  | invokestatic n => cases h
  | ireturn =>
    simp only [exI] at hs
    split at hs
    · split at hs
      · cases hs
      · split at hs <;> cases hs
      · cases hs
    · cases hs
  | return_ =>
    simp only [exI] at hs
    split at hs
    · split at hs <;> cases hs
    · cases hs
  | if_icmp op off =>
    simp only [exI, cmpI, nx] at hs
    split at hs
    · cases op <;> (simp only at hs; split at hs <;> cases hs)
    · cases hs
  | ifCond op off =>
    simp only [exI, cmpI, nx] at hs
    split at hs
    · cases op <;> (simp only at hs; split at hs <;> cases hs)
    · cases hs
  | getfield n =>
    simp only [exI, nx] at hs
    split at hs
    · rename_i ci i r
      cases hb : ci.beq a with
      | true =>
        rw [hb] at hs
        simp only [cond_true] at hs
        split at hs <;> cases hs
      | false => rw [hb] at hs; cases hs
    · cases hs
  | putfield n =>
    simp only [exI, nx] at hs
    split at hs
    · rename_i y ci i r
      cases hb : ci.beq a with
      | true =>
        rw [hb] at hs
        simp only [cond_true, exP, nx] at hs
        (repeat' split at hs) <;> cases hs
      | false => rw [hb] at hs; cases hs
    · cases hs
  | iaload =>
    simp only [exI, nx] at hs
    split at hs
    · rename_i j ci i o r
      cases hb : isIA ci o with
      | true => rw [hb] at hs; simp only [cond_true] at hs; split at hs <;> cases hs
      | false => rw [hb] at hs; cases hs
    · cases hs
  | iastore =>
    simp only [exI, nx] at hs
    split at hs
    · rename_i y j ci i o r
      cases hb : isIA ci (o + 1) with
      | true => rw [hb] at hs; simp only [cond_true] at hs; split at hs <;> cases hs
      | false => rw [hb] at hs; cases hs
    · cases hs
  | aaload =>
    simp only [exI, nx] at hs
    split at hs
    · rename_i j ci i o r
      cases hb : isRA ci (o + 1) with
      | true =>
        rw [hb] at hs
        simp only [cond_true] at hs
        split at hs
        · cases hs
        · cases hf : M.2.1 ci i (1000 + j.toNatClampNeg) <;> rw [hf] at hs <;> cases hs
      | false => rw [hb] at hs; cases hs
    · cases hs
  | aastore =>
    simp only [exI, nx] at hs
    split at hs
    · rename_i y j ci i o r
      cases hb : isRA ci (o + 1) with
      | true => rw [hb] at hs; simp only [cond_true] at hs; split at hs <;> cases hs
      | false => rw [hb] at hs; cases hs
    · cases hs
  | dup =>
    simp only [exI, nx] at hs
    split at hs
    · rename_i y r
      cases hb : isL y <;> rw [hb] at hs <;> cases hs
    · cases hs
  | dup2 =>
    simp only [exI, nx] at hs
    split at hs
    · rename_i y y2 r
      cases hb : (isL y || isL y2) <;> rw [hb] at hs <;> cases hs
    · cases hs
  | new n =>
    simp only [exI, nx] at hs
    split at hs
    · rename_i ci i ho
      cases hb : ci.beq a <;> rw [hb] at hs <;> cases hs
    · cases hs
  | _ => first | cases hs | (simp only [exI, bin, binL, nx] at hs; (repeat' split at hs) <;> cases hs)
set_option maxHeartbeats 4000000 in
theorem G_callV {l : Launch} {X : XT} {d mi cm pc : Nat} {L : List (Option AV)} {st : List AV} {M : Mem} {S1 : St} {as : List AV} {v1 v : Option AV} {M1 M' : Mem} {len a b c' : Nat} {x : Int32} {z : Int64} {ks : List (Int32 × Nat)} {n : Nat} (hdc : decode (mdOf mi).2.2.1 pc = .ok (.invokevirtual n, len)) (hx : okX (mdOf mi).1 (mdOf mi).2.2.2.1 (mdOf mi).2.2.2.2.2.1 pc (.invokevirtual n) len a b c' x z ks = true) (hs : exI (mdOf mi).2.2.2.2.1 (.invokevirtual n) len a b c' x z ks pc L st M = some (.inr (.inl (cm, as, S1)))) (hl1 : as.all (fun x => !isL x) = true) (hC : Good l X d (mdOf cm) (en (mdOf cm) as S1.2.2.2) v1 M1) (hG : Good l X (d + 1) (mdOf mi) (af v1 S1 M1) v M') : Good l X (d + 1) (mdOf mi) (pc, L, st, M) v M' := by
  simp only [okX, Bool.and_eq_true, decide_eq_true_eq] at hx
  obtain ⟨⟨⟨⟨⟨rfl, hm⟩, hsk⟩, hnp⟩, hcl⟩, ha⟩ := hx
  simp only [exI] at hs
  split at hs
  · rename_i ci i r hdr
    cases hb : (ci.beq c' && r.length.ble 4) with
    | false => rw [hb] at hs; cases hs
    | true =>
      rw [hb] at hs
      cases hs
      simp only [Bool.and_eq_true] at hb
      have hci : ci = c' := beq_eq hb.1
      have hrl := ble_le hb.2
      subst hci
      have hst : st = st.take (b - 1) ++ (.inr (.inr (ci, i, 0)) :: r) := by rw [← hdr, List.take_append_drop]
      have htl : (st.take (b - 1)).length = npT.getD cm 0 := by
        have : (st.drop (b - 1)).length = r.length + 1 := by rw [hdr]; rfl
        rw [List.length_drop] at this
        rw [List.length_take]; omega
      have hmx := (tb_m1 cm ha).2.2.1
      rw [if_neg (by omega)] at hmx
      refine G_back hC.1 hC.2.1 (fun y hy => by rw [hst]; exact List.mem_append_right _ (List.mem_cons_of_mem _ hy)) hG (fun p e R s m args below meth c H locs cells slots ls hP hS hV hsz hL hk hcc hss => ?_)
      have hok : ∀ y ∈ Sum.inr (Sum.inr (ci, i, 0)) :: (st.take (b - 1)).reverse, okV M.1 y := by
        intro y hy
        rcases List.mem_cons.mp hy with rfl | h
        · exact hk _ (by rw [hst]; exact List.mem_append_right _ List.mem_cons_self)
        · exact hk y (List.mem_of_mem_take (List.mem_reverse.mp h))
      have hm10 := (tb_m1 cm ha).1
      have ho := okA_lt (hok _ List.mem_cons_self) (show ci ≠ 13 by omega)
      have hM := met_of (X := X) ha hC (by simp only [List.length_cons, List.length_reverse]; omega) (all_isL hl1) hok
      refine ⟨_, va_runV (own := rN (mdOf mi).1) (C := rN (mdOf cm).1) (As := ((st.take (b - 1)).reverse).map (tv X)) (b := aR X (ci, i, 0)) (n := npT.getD cm 0) (g := F0 m pc ls (st.map (tv X))) ⟨hP.1, hP.2.1, hP.2.2.1, hP.2.2.2.1, hP.2.2.2.2.1⟩ hM (cwV (npT.getD cm 0) hP.2.2.2.2.1 (gd_ws ?_) rfl rfl rfl ⟨tb_cls ha, tb_no ha⟩ (lo_room ha hP)) ⟨bO_blind, ?_, fun U hU hW => ⟨rfl, bO_at hP hS hV hsz hU hW⟩⟩ rfl (by rw [List.length_map, List.length_reverse]; exact htl) hL.1 ?_ (rest_room hrl) hdc ⟨hcc, hss⟩⟩
      · intro w hw
        unfold wsV at hw
        rcases List.mem_append.mp hw with h | h
        · simp only [List.mem_cons, List.not_mem_nil, or_false] at h
          rcases h with rfl | rfl | rfl | rfl
          · exact gT_in (pick_of tb_ML0 _ hm) rfl
          · exact gT_in (pick_of tb_IM0 _ (tb_IMn cm ha (by omega))) rfl
          · exact gT_in (pick_of tb_SE0 _ (tb_SEn cm ha hsk)) rfl
          · have := tb_ini ha
            rw [tb_cls ha] at this; exact this
        · exact ws_in ha w h
      · have h := va_recv (s := s) (D := xD X) hP.2.2.2.2.2.1 hS.2.1 (tb_cl ci ho.1) (wld_at ho.2 hS.1)
        rw [aR_eq ho.1, show (mdOf cm).1 = ci from hcl]
        exact h
      · show st.map (tv X) = (((st.take (b - 1)).reverse).map (tv X)).reverse ++ .ref (aR X (ci, i, 0)) :: r.map (tv X)
        rw [← List.map_reverse, List.reverse_reverse]
        conv => lhs; rw [hst, List.map_append]
        rfl
  · cases hs
set_option maxHeartbeats 4000000 in
theorem G_callS {l : Launch} {X : XT} {d mi cm pc : Nat} {L : List (Option AV)} {st : List AV} {M : Mem} {S1 : St} {as : List AV} {v1 v : Option AV} {M1 M' : Mem} {len a b c' : Nat} {x : Int32} {z : Int64} {ks : List (Int32 × Nat)} {n : Nat} (hdc : decode (mdOf mi).2.2.1 pc = .ok (.invokestatic n, len)) (hx : okX (mdOf mi).1 (mdOf mi).2.2.2.1 (mdOf mi).2.2.2.2.2.1 pc (.invokestatic n) len a b c' x z ks = true) (hs : exI (mdOf mi).2.2.2.2.1 (.invokestatic n) len a b c' x z ks pc L st M = some (.inr (.inl (cm, as, S1)))) (hl1 : as.all (fun x => !isL x) = true) (hC : Good l X d (mdOf cm) (en (mdOf cm) as S1.2.2.2) v1 M1) (hG : Good l X (d + 1) (mdOf mi) (af v1 S1 M1) v M') : Good l X (d + 1) (mdOf mi) (pc, L, st, M) v M' := by
  simp only [okX, Bool.and_eq_true, decide_eq_true_eq] at hx
  obtain ⟨rfl, hx⟩ := hx
  simp only [exI, nx] at hs
  split at hs
  · split at hs
    · rename_i k dp c1 i1 o1 sp c0 i0 o0 r
      cases hb : (isIA c1 (o1 + 1) && isIA c0 (o0 + 1) && r.length.ble 4) with
      | true => rw [hb] at hs; simp only [cond_true] at hs; split at hs <;> cases hs
      | false => rw [hb] at hs; cases hs
    · cases hs
  · rename_i hc1
    have hb1 : c'.beq 1 = false := by
      cases hq : c'.beq 1 with
      | true => exact absurd (beq_eq hq) hc1
      | false => rfl
    rw [hb1] at hx
    simp only [cond_false, Bool.and_eq_true, decide_eq_true_eq] at hx
    obtain ⟨⟨⟨hm, hsk⟩, hnp⟩, ha⟩ := hx
    cases hbb : ((st.drop b).length.ble 4 && b.ble st.length) with
    | false => rw [hbb] at hs; cases hs
    | true =>
      rw [hbb] at hs
      cases hs
      simp only [Bool.and_eq_true] at hbb
      have hrl := ble_le hbb.1
      have hb2 := ble_le hbb.2
      have hmx := (tb_m1 cm ha).2.2.1
      rw [if_pos hsk] at hmx
      by_cases hlen : b ≤ st.length
      · have htl : (st.take b).length = npT.getD cm 0 := by rw [List.length_take]; omega
        refine G_back hC.1 hC.2.1 (fun y hy => List.mem_of_mem_drop hy) hG (fun p e R s m args below meth c H locs cells slots ls hP hS hV hsz hL hk hcc hss => ?_)
        have hok : ∀ y ∈ (st.take b).reverse, okV M.1 y := fun y hy => hk y (List.mem_of_mem_take (List.mem_reverse.mp hy))
        have hM := met_of (X := X) ha hC (by rw [List.length_reverse]; omega) (all_isL hl1) hok
        refine ⟨_, va_runS (own := rN (mdOf mi).1) (As := ((st.take b).reverse).map (tv X)) (n := npT.getD cm 0) (g := F0 m pc ls (st.map (tv X))) ⟨hP.1, hP.2.1, hP.2.2.1, hP.2.2.2.1, hP.2.2.2.2.1⟩ hM ⟨callB_of (npT.getD cm 0) hP.2.2.2.2.1 (gd_ws (ws_in ha)) rfl rfl rfl (hP.2.2.2.2.1 _ (tb_ini ha)) (hP.2.2.2.2.1 _ (gT_in (pick_of tb_ML0 _ hm) rfl)) (tb_no ha) (lo_room ha hP), hP.2.2.2.2.1 _ (gT_in (pick_of tb_SM0 _ (tb_SMn cm ha hsk)) rfl)⟩ ⟨bO_blind, fun U hU hW => ⟨rfl, bO_at hP hS hV hsz hU hW⟩⟩ rfl (by rw [List.length_map, List.length_reverse]; exact htl) hL.1 ?_ (rest_room hrl) hdc ⟨hcc, hss⟩⟩
        show st.map (tv X) = (((st.take b).reverse).map (tv X)).reverse ++ (st.drop b).map (tv X)
        rw [← List.map_reverse, List.reverse_reverse, ← List.map_append, List.take_append_drop]
      · exact absurd hb2 hlen
set_option maxHeartbeats 4000000 in
theorem G_callI {l : Launch} {X : XT} {d mi cm pc : Nat} {L : List (Option AV)} {st : List AV} {M : Mem} {S1 : St} {as : List AV} {v1 v : Option AV} {M1 M' : Mem} {len a b c' : Nat} {x : Int32} {z : Int64} {ks : List (Int32 × Nat)} {n : Nat} (hdc : decode (mdOf mi).2.2.1 pc = .ok (.invokespecial n, len)) (hx : okX (mdOf mi).1 (mdOf mi).2.2.2.1 (mdOf mi).2.2.2.2.2.1 pc (.invokespecial n) len a b c' x z ks = true) (hs : exI (mdOf mi).2.2.2.2.1 (.invokespecial n) len a b c' x z ks pc L st M = some (.inr (.inl (cm, as, S1)))) (hl1 : as.all (fun x => !isL x) = true) (hC : Good l X d (mdOf cm) (en (mdOf cm) as S1.2.2.2) v1 M1) (hG : Good l X (d + 1) (mdOf mi) (af v1 S1 M1) v M') : Good l X (d + 1) (mdOf mi) (pc, L, st, M) v M' := by
  simp only [okX, Bool.and_eq_true, decide_eq_true_eq] at hx
  obtain ⟨rfl, hx⟩ := hx
  simp only [exI, nx] at hs
  split at hs
  · split at hs
    · rename_i y r
      cases hb : r.length.ble 4 <;> rw [hb] at hs <;> cases hs
    · cases hs
  · rename_i hc1
    have hb1 : c'.beq 1 = false := by
      cases hq : c'.beq 1 with
      | true => exact absurd (beq_eq hq) hc1
      | false => rfl
    rw [hb1] at hx
    simp only [cond_false, Bool.and_eq_true, Bool.or_eq_true, decide_eq_true_eq] at hx
    obtain ⟨⟨⟨hm, hsk⟩, hnp⟩, ha⟩ := hx
    split at hs
    · rename_i ci i r hdr
      cases hb : r.length.ble 4 with
      | false => rw [hb] at hs; cases hs
      | true =>
        rw [hb] at hs
        cases hs
        have hrl := ble_le hb
        have hst : st = st.take (b - 1) ++ (.inr (.inr (ci, i, 0)) :: r) := by rw [← hdr, List.take_append_drop]
        have htl : (st.take (b - 1)).length = npT.getD cm 0 := by
          have : (st.drop (b - 1)).length = r.length + 1 := by rw [hdr]; rfl
          rw [List.length_drop] at this
          rw [List.length_take]; omega
        have hmx := (tb_m1 cm ha).2.2.1
        rw [if_neg (by omega)] at hmx
        have hret := ((tb_m1 cm ha).2.2.2 hsk).1
        refine G_back hC.1 hC.2.1 (fun y hy => by rw [hst]; exact List.mem_append_right _ (List.mem_cons_of_mem _ hy)) hG (fun p e R s m args below meth c H locs cells slots ls hP hS hV hsz hL hk hcc hss => ?_)
        have hok : ∀ y ∈ Sum.inr (Sum.inr (ci, i, 0)) :: (st.take (b - 1)).reverse, okV M.1 y := by
          intro y hy
          rcases List.mem_cons.mp hy with rfl | h
          · exact hk _ (by rw [hst]; exact List.mem_append_right _ List.mem_cons_self)
          · exact hk y (List.mem_of_mem_take (List.mem_reverse.mp h))
        have hM := met_of (X := X) ha hC (by simp only [List.length_cons, List.length_reverse]; omega) (all_isL hl1) hok
        have hw : wsOf cm = Cond.code (mdOf cm).2.1 (mdOf cm).2.2.1 (mdOf cm).2.2.2.1 none :: gT := by unfold wsOf; rw [hret]
        have hstk : st.map (tv X) = (((st.take (b - 1)).reverse).map (tv X)).reverse ++ .ref (aR X (ci, i, 0)) :: r.map (tv X) := by
          rw [← List.map_reverse, List.reverse_reverse]
          conv => lhs; rw [hst, List.map_append]
          rfl
        rcases hm with hm | hm
        · exact ⟨_, va_runI (own := rN (mdOf mi).1) (As := ((st.take (b - 1)).reverse).map (tv X)) (b := aR X (ci, i, 0)) (n := npT.getD cm 0) (g := F0 m pc ls (st.map (tv X))) ⟨hP.1, hP.2.1, hP.2.2.1, hP.2.2.2.1, hP.2.2.2.2.1⟩ hM (cwI (npT.getD cm 0) hP.2.2.2.2.1 (gd_ws (ws_in ha)) hw rfl rfl (hP.2.2.2.2.1 _ (tb_ini ha)) (hP.2.2.2.2.1 _ (gT_in (pick_of tb_ML0 _ hm) rfl)) (hP.2.2.2.2.1 _ (gT_in (pick_of tb_IM0 _ (tb_IMn cm ha (by omega))) rfl)) ((tb_m2 cm ha).2 hsk) (tb_no ha) (lo_room ha hP)) ⟨bO_blind, fun U hU hW => ⟨rfl, bO_at hP hS hV hsz hU hW⟩⟩ rfl (by rw [List.length_map, List.length_reverse]; exact htl) hL.1 hstk (rest_room hrl) hdc ⟨hcc, hss⟩⟩
        · obtain ⟨q, hq, hq2⟩ := List.any_eq_true.mp hm
          obtain ⟨q1, q2, q3, q4⟩ := q
          simp only [Bool.and_eq_true, decide_eq_true_eq] at hq2
          obtain ⟨⟨rfl, rfl⟩, rfl⟩ := hq2
          exact ⟨_, va_runIN (own := rN (mdOf mi).1) (host := rN q4) (As := ((st.take (b - 1)).reverse).map (tv X)) (b := aR X (ci, i, 0)) (n := npT.getD q3 0) (g := F0 m pc ls (st.map (tv X))) ⟨hP.1, hP.2.1, hP.2.2.1, hP.2.2.2.1, hP.2.2.2.2.1⟩ hM ⟨va_cnB (npT.getD q3 0) hP.2.2.2.2.1 (gd_ws (ws_in ha)) hw rfl rfl (hP.2.2.2.2.2.2.2.2.1.1 _ hq) (hP.2.2.2.2.1 _ (tb_ini ha)) (tb_no ha) (lo_room ha hP), (tb_m2 q3 ha).2 hsk, hP.2.2.2.2.1 _ (gT_in (pick_of tb_IM0 _ (tb_IMn q3 ha (by omega))) rfl)⟩ ⟨bO_blind, fun U hU hW => ⟨rfl, bO_at hP hS hV hsz hU hW⟩⟩ rfl (by rw [List.length_map, List.length_reverse]; exact htl) hL.1 hstk (rest_room hrl) hdc ⟨hcc, hss⟩⟩
    · cases hs
theorem G_call {l : Launch} {X : XT} {d mi cm : Nat} {S S1 : St} {as : List AV} {v1 v : Option AV} {M1 M' : Mem} (hs : stI (mdOf mi) S = some (.inr (.inl (cm, as, S1)))) (hl1 : as.all (fun x => !isL x) = true) (hC : Good l X d (mdOf cm) (en (mdOf cm) as S1.2.2.2) v1 M1) (hG : Good l X (d + 1) (mdOf mi) (af v1 S1 M1) v M') : Good l X (d + 1) (mdOf mi) S v M' := by
  obtain ⟨pc, L, st, M⟩ := S
  have hs0 := st_row hs
  clear hs
  obtain ⟨ins, len, a, b, c', x, z, ks, hdc, hx, hs⟩ := hs0
  cases hi : isInv ins with
  | false => exact absurd hs (not_call hi)
  | true =>
    cases ins <;> first
      | exact G_callV hdc hx hs hl1 hC hG
      | exact G_callS hdc hx hs hl1 hC hG
      | exact G_callI hdc hx hs hl1 hC hG
      | cases hi
