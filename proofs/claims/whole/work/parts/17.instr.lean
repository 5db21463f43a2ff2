theorem ok1 {n : Nat} {x : AV} {st : List AV} (h : okV n x) (hk : ∀ y ∈ st, okV n y) : ∀ y ∈ x :: st, okV n y := fun y hy => by
  rcases List.mem_cons.mp hy with rfl | h2
  · exact h
  · exact hk y h2
theorem okt {n : Nat} {x : AV} {st : List AV} (hk : ∀ y ∈ x :: st, okV n y) : ∀ y ∈ st, okV n y := fun y hy => hk y (List.mem_cons_of_mem _ hy)
theorem ts_in {pc : Nat} {x : Int32} {a : Nat} : ∀ (os : List Int) (ks : List (Int32 × Nat)) (i j : Nat), tsOK pc os ks i = true → i ≤ j → j < i + ks.length → i + ks.length < 2 ^ 31 → x = nI j → ∃ o, os[j - i]? = some o ∧ (pc : Int) + o = (swT x ks a : Int)
  | [], [], i, j, _, h1, h2, _, _ => by simp at h2; omega
  | [], q :: r, _, _, h, _, _, _, _ => by simp [tsOK] at h
  | o :: os, [], _, _, h, _, _, _, _ => by simp [tsOK] at h
  | o :: os, q :: r, i, j, h, h1, h2, h3, hx => by
    simp only [tsOK, Bool.and_eq_true, decide_eq_true_eq] at h
    obtain ⟨⟨e1, e2⟩, e3⟩ := h
    simp only [List.length_cons] at h2 h3
    unfold swT
    by_cases e : i = j
    · subst e
      rw [if_pos (by rw [hx, e1])]
      exact ⟨o, by simp, e2⟩
    · rw [if_neg (by rw [hx, e1, nI_eq (by omega) (by omega)]; omega)]
      obtain ⟨o', f1, f2⟩ := ts_in (x := x) (a := a) os r (i + 1) j e3 (by omega) (by omega) (by omega) hx
      refine ⟨o', ?_, f2⟩
      rw [show j - i = (j - (i + 1)) + 1 by omega, List.getElem?_cons_succ]
      exact f1
theorem ts_out {pc : Nat} {x : Int32} {a : Nat} : ∀ (os : List Int) (ks : List (Int32 × Nat)) (i : Nat), tsOK pc os ks i = true → (∀ j, i ≤ j → j < i + ks.length → x ≠ nI j) → swT x ks a = a
  | [], [], _, _, _ => rfl
  | [], q :: r, _, h, _ => by simp [tsOK] at h
  | o :: os, [], _, h, _ => by simp [tsOK] at h
  | o :: os, q :: r, i, h, hx => by
    simp only [tsOK, Bool.and_eq_true, decide_eq_true_eq] at h
    obtain ⟨⟨e1, e2⟩, e3⟩ := h
    simp only [List.length_cons] at hx
    unfold swT
    rw [if_neg (by rw [e1]; exact hx i (Nat.le_refl i) (by omega))]
    exact ts_out os r (i + 1) e3 (fun j h1 h2 => hx j (by omega) (by omega))
theorem ls_off {pc : Nat} {x : Int32} {a : Nat} {df : Int} (hd : (pc : Int) + df = (a : Int)) : ∀ (os : List (Int × Int)) (ks : List (Int32 × Nat)), lsOK pc os ks = true → (pc : Int) + Op.lookupswitch.offset os df x.toInt = (swT x ks a : Int)
  | [], [], _ => by simpa [swT, Op.lookupswitch.offset] using hd
  | [], q :: r, h => by simp [lsOK] at h
  | o :: os, [], h => by simp [lsOK] at h
  | o :: os, q :: r, h => by
    simp only [lsOK, Bool.and_eq_true, decide_eq_true_eq] at h
    obtain ⟨⟨e1, e2⟩, e3⟩ := h
    obtain ⟨o1, o2⟩ := o
    unfold swT
    rw [Op.lookupswitch.offset_cons]
    by_cases e : x = q.1
    · rw [if_pos e, if_pos (by rw [e]; exact e1.symm)]
      exact e2
    · rw [if_neg e, if_neg (fun z => e (Int32.toInt_inj.mp (by rw [e1]; exact z.symm)))]
      exact ls_off hd os r e3
theorem gi_iconst {l : Launch} {X : XT} {d : Nat} {md : MD} {pc len a b c' : Nat} {x0 : Int32} {lg : Int64} {ks : List (Int32 × Nat)} {L : List (Option AV)} {st : List AV} {M M' : Mem} {v : Option AV} {S' : St} {n : Int} (hdc : decode md.2.2.1 pc = .ok (.iconst n, len)) (hx : okX md.1 md.2.2.2.1 md.2.2.2.2.2.1 pc (.iconst n) len a b c' x0 lg ks = true) (hs : exI md.2.2.2.2.1 (.iconst n) len a b c' x0 lg ks pc L st M = some (.inl S')) (hd : 1 ≤ d) (hG : Good l X d md S' v M') : Good l X d md (pc, L, st, M) v M' := by
  simp only [okX, Bool.and_eq_true, decide_eq_true_eq] at hx
  obtain ⟨rfl, hv⟩ := hx
  cases hs
  refine G_of rfl hG (fun p e R s m args below meth c Q H locs cells slots ls hP hS hV hL hk K => ?_)
  exact lv_iconst hP.1 hP.2.1 hdc hv (K H locs ls hS hV hL (ok1 trivial hk))
theorem gi_bipush {l : Launch} {X : XT} {d : Nat} {md : MD} {pc len a b c' : Nat} {x0 : Int32} {lg : Int64} {ks : List (Int32 × Nat)} {L : List (Option AV)} {st : List AV} {M M' : Mem} {v : Option AV} {S' : St} {n : Int} (hdc : decode md.2.2.1 pc = .ok (.bipush n, len)) (hx : okX md.1 md.2.2.2.1 md.2.2.2.2.2.1 pc (.bipush n) len a b c' x0 lg ks = true) (hs : exI md.2.2.2.2.1 (.bipush n) len a b c' x0 lg ks pc L st M = some (.inl S')) (hd : 1 ≤ d) (hG : Good l X d md S' v M') : Good l X d md (pc, L, st, M) v M' := by
  simp only [okX, Bool.and_eq_true, decide_eq_true_eq] at hx
  obtain ⟨rfl, hv⟩ := hx
  cases hs
  refine G_of rfl hG (fun p e R s m args below meth c Q H locs cells slots ls hP hS hV hL hk K => ?_)
  exact lv_bipush hP.1 hP.2.1 hdc hv (K H locs ls hS hV hL (ok1 trivial hk))
theorem gi_sipush {l : Launch} {X : XT} {d : Nat} {md : MD} {pc len a b c' : Nat} {x0 : Int32} {lg : Int64} {ks : List (Int32 × Nat)} {L : List (Option AV)} {st : List AV} {M M' : Mem} {v : Option AV} {S' : St} {n : Int} (hdc : decode md.2.2.1 pc = .ok (.sipush n, len)) (hx : okX md.1 md.2.2.2.1 md.2.2.2.2.2.1 pc (.sipush n) len a b c' x0 lg ks = true) (hs : exI md.2.2.2.2.1 (.sipush n) len a b c' x0 lg ks pc L st M = some (.inl S')) (hd : 1 ≤ d) (hG : Good l X d md S' v M') : Good l X d md (pc, L, st, M) v M' := by
  simp only [okX, Bool.and_eq_true, decide_eq_true_eq] at hx
  obtain ⟨rfl, hv⟩ := hx
  cases hs
  refine G_of rfl hG (fun p e R s m args below meth c Q H locs cells slots ls hP hS hV hL hk K => ?_)
  exact lv_sipush hP.1 hP.2.1 hdc hv (K H locs ls hS hV hL (ok1 trivial hk))
theorem gi_ldc {l : Launch} {X : XT} {d : Nat} {md : MD} {pc len a b c' : Nat} {x0 : Int32} {lg : Int64} {ks : List (Int32 × Nat)} {L : List (Option AV)} {st : List AV} {M M' : Mem} {v : Option AV} {S' : St} {n : Nat} (hdc : decode md.2.2.1 pc = .ok (.ldc n, len)) (hx : okX md.1 md.2.2.2.1 md.2.2.2.2.2.1 pc (.ldc n) len a b c' x0 lg ks = true) (hs : exI md.2.2.2.2.1 (.ldc n) len a b c' x0 lg ks pc L st M = some (.inl S')) (hd : 1 ≤ d) (hG : Good l X d md S' v M') : Good l X d md (pc, L, st, M) v M' := by
  simp only [okX, Bool.and_eq_true, decide_eq_true_eq] at hx
  obtain ⟨rfl, hv⟩ := hx
  cases hs
  refine G_of rfl hG (fun p e R s m args below meth c Q H locs cells slots ls hP hS hV hL hk K => ?_)
  exact lv_ldc hP.1 hP.2.1 hP.2.2.2.1 (hP.2.2.2.2.1 _ (gT_in (pick_of tb_KI0 _ hv) rfl)) hdc (K H locs ls hS hV hL (ok1 trivial hk))
theorem gi_ldc_w {l : Launch} {X : XT} {d : Nat} {md : MD} {pc len a b c' : Nat} {x0 : Int32} {lg : Int64} {ks : List (Int32 × Nat)} {L : List (Option AV)} {st : List AV} {M M' : Mem} {v : Option AV} {S' : St} {n : Nat} (hdc : decode md.2.2.1 pc = .ok (.ldc_w n, len)) (hx : okX md.1 md.2.2.2.1 md.2.2.2.2.2.1 pc (.ldc_w n) len a b c' x0 lg ks = true) (hs : exI md.2.2.2.2.1 (.ldc_w n) len a b c' x0 lg ks pc L st M = some (.inl S')) (hd : 1 ≤ d) (hG : Good l X d md S' v M') : Good l X d md (pc, L, st, M) v M' := by
  simp only [okX, Bool.and_eq_true, decide_eq_true_eq] at hx
  obtain ⟨rfl, hv⟩ := hx
  cases hs
  refine G_of rfl hG (fun p e R s m args below meth c Q H locs cells slots ls hP hS hV hL hk K => ?_)
  exact lv_ldcw hP.1 hP.2.1 hP.2.2.2.1 (hP.2.2.2.2.1 _ (gT_in (pick_of tb_KI0 _ hv) rfl)) hdc (K H locs ls hS hV hL (ok1 trivial hk))
theorem gi_ldc2_w {l : Launch} {X : XT} {d : Nat} {md : MD} {pc len a b c' : Nat} {x0 : Int32} {lg : Int64} {ks : List (Int32 × Nat)} {L : List (Option AV)} {st : List AV} {M M' : Mem} {v : Option AV} {S' : St} {n : Nat} (hdc : decode md.2.2.1 pc = .ok (.ldc2_w n, len)) (hx : okX md.1 md.2.2.2.1 md.2.2.2.2.2.1 pc (.ldc2_w n) len a b c' x0 lg ks = true) (hs : exI md.2.2.2.2.1 (.ldc2_w n) len a b c' x0 lg ks pc L st M = some (.inl S')) (hd : 1 ≤ d) (hG : Good l X d md S' v M') : Good l X d md (pc, L, st, M) v M' := by
  simp only [okX, Bool.and_eq_true, decide_eq_true_eq] at hx
  obtain ⟨rfl, hv⟩ := hx
  cases hs
  refine G_of rfl hG (fun p e R s m args below meth c Q H locs cells slots ls hP hS hV hL hk K => ?_)
  exact lv_ldc2 hP.1 hP.2.1 hP.2.2.2.1 (hP.2.2.2.2.1 _ (gT_in (pick_of tb_KL0 _ hv) rfl)) hdc (K H locs ls hS hV hL (ok1 trivial hk))
theorem gi_iload_n {l : Launch} {X : XT} {d : Nat} {md : MD} {pc len a b c' : Nat} {x0 : Int32} {lg : Int64} {ks : List (Int32 × Nat)} {L : List (Option AV)} {st : List AV} {M M' : Mem} {v : Option AV} {S' : St} {n : Fin 4} (hdc : decode md.2.2.1 pc = .ok (.iload_n n, len)) (hx : okX md.1 md.2.2.2.1 md.2.2.2.2.2.1 pc (.iload_n n) len a b c' x0 lg ks = true) (hs : exI md.2.2.2.2.1 (.iload_n n) len a b c' x0 lg ks pc L st M = some (.inl S')) (hd : 1 ≤ d) (hG : Good l X d md S' v M') : Good l X d md (pc, L, st, M) v M' := by
  simp only [okX, Bool.and_eq_true, decide_eq_true_eq] at hx
  obtain ⟨rfl, hka⟩ := hx
  simp only [exI, nx] at hs
  split at hs
  · rename_i z hz
    cases hs
    refine G_of rfl hG (fun p e R s m args below meth c Q H locs cells slots ls hP hS hV hL hk K => ?_)
    exact lv_iload_n hP.1 hP.2.1 hdc hka (hL.2.2 a _ hz).1 (K H locs ls hS hV hL (ok1 (hL.2.2 a _ hz).2 hk))
  · cases hs
theorem gi_aload_n {l : Launch} {X : XT} {d : Nat} {md : MD} {pc len a b c' : Nat} {x0 : Int32} {lg : Int64} {ks : List (Int32 × Nat)} {L : List (Option AV)} {st : List AV} {M M' : Mem} {v : Option AV} {S' : St} {n : Fin 4} (hdc : decode md.2.2.1 pc = .ok (.aload_n n, len)) (hx : okX md.1 md.2.2.2.1 md.2.2.2.2.2.1 pc (.aload_n n) len a b c' x0 lg ks = true) (hs : exI md.2.2.2.2.1 (.aload_n n) len a b c' x0 lg ks pc L st M = some (.inl S')) (hd : 1 ≤ d) (hG : Good l X d md S' v M') : Good l X d md (pc, L, st, M) v M' := by
  simp only [okX, Bool.and_eq_true, decide_eq_true_eq] at hx
  obtain ⟨rfl, hka⟩ := hx
  simp only [exI, nx] at hs
  split at hs
  · rename_i z hz
    cases hs
    refine G_of rfl hG (fun p e R s m args below meth c Q H locs cells slots ls hP hS hV hL hk K => ?_)
    exact lv_aload_n hP.1 hP.2.1 hdc hka (hL.2.2 a _ hz).1 (K H locs ls hS hV hL (ok1 (hL.2.2 a _ hz).2 hk))
  · cases hs
theorem gi_lload_n {l : Launch} {X : XT} {d : Nat} {md : MD} {pc len a b c' : Nat} {x0 : Int32} {lg : Int64} {ks : List (Int32 × Nat)} {L : List (Option AV)} {st : List AV} {M M' : Mem} {v : Option AV} {S' : St} {n : Fin 4} (hdc : decode md.2.2.1 pc = .ok (.lload_n n, len)) (hx : okX md.1 md.2.2.2.1 md.2.2.2.2.2.1 pc (.lload_n n) len a b c' x0 lg ks = true) (hs : exI md.2.2.2.2.1 (.lload_n n) len a b c' x0 lg ks pc L st M = some (.inl S')) (hd : 1 ≤ d) (hG : Good l X d md S' v M') : Good l X d md (pc, L, st, M) v M' := by
  simp only [okX, Bool.and_eq_true, decide_eq_true_eq] at hx
  obtain ⟨rfl, hka⟩ := hx
  simp only [exI, nx] at hs
  split at hs
  · rename_i z hz
    cases hs
    refine G_of rfl hG (fun p e R s m args below meth c Q H locs cells slots ls hP hS hV hL hk K => ?_)
    exact lv_lload_n hP.1 hP.2.1 hdc hka (hL.2.2 a _ hz).1 (K H locs ls hS hV hL (ok1 (hL.2.2 a _ hz).2 hk))
  · cases hs
theorem gi_iload {l : Launch} {X : XT} {d : Nat} {md : MD} {pc len a b c' : Nat} {x0 : Int32} {lg : Int64} {ks : List (Int32 × Nat)} {L : List (Option AV)} {st : List AV} {M M' : Mem} {v : Option AV} {S' : St} {n : Nat} (hdc : decode md.2.2.1 pc = .ok (.iload n, len)) (hx : okX md.1 md.2.2.2.1 md.2.2.2.2.2.1 pc (.iload n) len a b c' x0 lg ks = true) (hs : exI md.2.2.2.2.1 (.iload n) len a b c' x0 lg ks pc L st M = some (.inl S')) (hd : 1 ≤ d) (hG : Good l X d md S' v M') : Good l X d md (pc, L, st, M) v M' := by
  simp only [okX, Bool.and_eq_true, decide_eq_true_eq] at hx
  obtain ⟨rfl, rfl⟩ := hx
  simp only [exI, nx] at hs
  split at hs
  · rename_i z hz
    cases hs
    refine G_of rfl hG (fun p e R s m args below meth c Q H locs cells slots ls hP hS hV hL hk K => ?_)
    exact lv_iload hP.1 hP.2.1 hdc (hL.2.2 _ _ hz).1 (K H locs ls hS hV hL (ok1 (hL.2.2 _ _ hz).2 hk))
  · cases hs
theorem gi_istore_n {l : Launch} {X : XT} {d : Nat} {md : MD} {pc len a b c' : Nat} {x0 : Int32} {lg : Int64} {ks : List (Int32 × Nat)} {L : List (Option AV)} {st : List AV} {M M' : Mem} {v : Option AV} {S' : St} {n : Fin 4} (hdc : decode md.2.2.1 pc = .ok (.istore_n n, len)) (hx : okX md.1 md.2.2.2.1 md.2.2.2.2.2.1 pc (.istore_n n) len a b c' x0 lg ks = true) (hs : exI md.2.2.2.2.1 (.istore_n n) len a b c' x0 lg ks pc L st M = some (.inl S')) (hd : 1 ≤ d) (hG : Good l X d md S' v M') : Good l X d md (pc, L, st, M) v M' := by
  simp only [okX, Bool.and_eq_true, decide_eq_true_eq] at hx
  obtain ⟨⟨rfl, hka⟩, hlt⟩ := hx
  simp only [exI, nx] at hs
  split at hs
  · cases hs
    refine G_of rfl hG (fun p e R s m args below meth c Q H locs cells slots ls hP hS hV hL hk K => ?_)
    exact lv_istore_n (lv := prs X L) hP.1 hP.2.1 hdc hka hL.has hlt rfl (fun ls' h' => K H locs ls' hS hV (hL.store rfl (trivial) h') (okt hk))
  · cases hs
theorem gi_istore {l : Launch} {X : XT} {d : Nat} {md : MD} {pc len a b c' : Nat} {x0 : Int32} {lg : Int64} {ks : List (Int32 × Nat)} {L : List (Option AV)} {st : List AV} {M M' : Mem} {v : Option AV} {S' : St} {n : Nat} (hdc : decode md.2.2.1 pc = .ok (.istore n, len)) (hx : okX md.1 md.2.2.2.1 md.2.2.2.2.2.1 pc (.istore n) len a b c' x0 lg ks = true) (hs : exI md.2.2.2.2.1 (.istore n) len a b c' x0 lg ks pc L st M = some (.inl S')) (hd : 1 ≤ d) (hG : Good l X d md S' v M') : Good l X d md (pc, L, st, M) v M' := by
  simp only [okX, Bool.and_eq_true, decide_eq_true_eq] at hx
  obtain ⟨⟨rfl, hka⟩, hlt⟩ := hx
  subst hka
  simp only [exI, nx] at hs
  split at hs
  · cases hs
    refine G_of rfl hG (fun p e R s m args below meth c Q H locs cells slots ls hP hS hV hL hk K => ?_)
    exact lv_istore (lv := prs X L) hP.1 hP.2.1 hdc hL.has hlt rfl (fun ls' h' => K H locs ls' hS hV (hL.store rfl (trivial) h') (okt hk))
  · cases hs
theorem gi_astore_n {l : Launch} {X : XT} {d : Nat} {md : MD} {pc len a b c' : Nat} {x0 : Int32} {lg : Int64} {ks : List (Int32 × Nat)} {L : List (Option AV)} {st : List AV} {M M' : Mem} {v : Option AV} {S' : St} {n : Fin 4} (hdc : decode md.2.2.1 pc = .ok (.astore_n n, len)) (hx : okX md.1 md.2.2.2.1 md.2.2.2.2.2.1 pc (.astore_n n) len a b c' x0 lg ks = true) (hs : exI md.2.2.2.2.1 (.astore_n n) len a b c' x0 lg ks pc L st M = some (.inl S')) (hd : 1 ≤ d) (hG : Good l X d md S' v M') : Good l X d md (pc, L, st, M) v M' := by
  simp only [okX, Bool.and_eq_true, decide_eq_true_eq] at hx
  obtain ⟨⟨rfl, hka⟩, hlt⟩ := hx
  simp only [exI, nx] at hs
  split at hs
  · cases hs
    refine G_of rfl hG (fun p e R s m args below meth c Q H locs cells slots ls hP hS hV hL hk K => ?_)
    exact lv_astore_n (lv := prs X L) hP.1 hP.2.1 hdc hka hL.has hlt rfl (fun ls' h' => K H locs ls' hS hV (hL.store rfl (hk _ List.mem_cons_self) h') (okt hk))
  · cases hs
theorem gi_lstore_n {l : Launch} {X : XT} {d : Nat} {md : MD} {pc len a b c' : Nat} {x0 : Int32} {lg : Int64} {ks : List (Int32 × Nat)} {L : List (Option AV)} {st : List AV} {M M' : Mem} {v : Option AV} {S' : St} {n : Fin 4} (hdc : decode md.2.2.1 pc = .ok (.lstore_n n, len)) (hx : okX md.1 md.2.2.2.1 md.2.2.2.2.2.1 pc (.lstore_n n) len a b c' x0 lg ks = true) (hs : exI md.2.2.2.2.1 (.lstore_n n) len a b c' x0 lg ks pc L st M = some (.inl S')) (hd : 1 ≤ d) (hG : Good l X d md S' v M') : Good l X d md (pc, L, st, M) v M' := by
  simp only [okX, Bool.and_eq_true, decide_eq_true_eq] at hx
  obtain ⟨⟨rfl, hka⟩, hlt⟩ := hx
  simp only [exI, nx] at hs
  split at hs
  · cases hs
    refine G_of rfl hG (fun p e R s m args below meth c Q H locs cells slots ls hP hS hV hL hk K => ?_)
    exact lv_lstore_n (lv := prs X L) hP.1 hP.2.1 hdc hka hL.has hlt rfl (fun ls' h' => K H locs ls' hS hV (hL.storeL rfl (trivial) h') (okt hk))
  · cases hs
theorem gi_iinc {l : Launch} {X : XT} {d : Nat} {md : MD} {pc len a b c' : Nat} {x0 : Int32} {lg : Int64} {ks : List (Int32 × Nat)} {L : List (Option AV)} {st : List AV} {M M' : Mem} {v : Option AV} {S' : St} {n : Nat} {k : Int} (hdc : decode md.2.2.1 pc = .ok (.iinc n k, len)) (hx : okX md.1 md.2.2.2.1 md.2.2.2.2.2.1 pc (.iinc n k) len a b c' x0 lg ks = true) (hs : exI md.2.2.2.2.1 (.iinc n k) len a b c' x0 lg ks pc L st M = some (.inl S')) (hd : 1 ≤ d) (hG : Good l X d md S' v M') : Good l X d md (pc, L, st, M) v M' := by
  simp only [okX, Bool.and_eq_true, decide_eq_true_eq] at hx
  obtain ⟨⟨⟨rfl, rfl⟩, rfl⟩, hlt⟩ := hx
  simp only [exI, nx] at hs
  split at hs
  · rename_i z hz
    cases hs
    obtain ⟨j, hj⟩ := List.getElem?_of_mem (prs_mem (X := X) hz)
    refine G_of rfl hG (fun p e R s m args below meth c Q H locs cells slots ls hP hS hV hL hk K => ?_)
    exact lv_iinc (lv := prs X L) hP.1 hP.2.1 hdc hL.has hj rfl hlt rfl (fun ls' h' => K H locs ls' hS hV (hL.store rfl trivial h') hk)
  · cases hs
theorem gi_iadd {l : Launch} {X : XT} {d : Nat} {md : MD} {pc len a b c' : Nat} {x0 : Int32} {lg : Int64} {ks : List (Int32 × Nat)} {L : List (Option AV)} {st : List AV} {M M' : Mem} {v : Option AV} {S' : St}  (hdc : decode md.2.2.1 pc = .ok (.iadd, len)) (hx : okX md.1 md.2.2.2.1 md.2.2.2.2.2.1 pc (.iadd) len a b c' x0 lg ks = true) (hs : exI md.2.2.2.2.1 (.iadd) len a b c' x0 lg ks pc L st M = some (.inl S')) (hd : 1 ≤ d) (hG : Good l X d md S' v M') : Good l X d md (pc, L, st, M) v M' := by
  simp only [okX, Bool.and_eq_true, decide_eq_true_eq] at hx
  subst hx
  simp only [exI, bin, nx] at hs
  split at hs
  · cases hs
    refine G_of rfl hG (fun p e R s m args below meth c Q H locs cells slots ls hP hS hV hL hk K => ?_)
    exact lv_iadd hP.1 hP.2.1 hdc (K H locs ls hS hV hL (ok1 trivial (okt (okt hk))))
  · cases hs
theorem gi_isub {l : Launch} {X : XT} {d : Nat} {md : MD} {pc len a b c' : Nat} {x0 : Int32} {lg : Int64} {ks : List (Int32 × Nat)} {L : List (Option AV)} {st : List AV} {M M' : Mem} {v : Option AV} {S' : St}  (hdc : decode md.2.2.1 pc = .ok (.isub, len)) (hx : okX md.1 md.2.2.2.1 md.2.2.2.2.2.1 pc (.isub) len a b c' x0 lg ks = true) (hs : exI md.2.2.2.2.1 (.isub) len a b c' x0 lg ks pc L st M = some (.inl S')) (hd : 1 ≤ d) (hG : Good l X d md S' v M') : Good l X d md (pc, L, st, M) v M' := by
  simp only [okX, Bool.and_eq_true, decide_eq_true_eq] at hx
  subst hx
  simp only [exI, bin, nx] at hs
  split at hs
  · cases hs
    refine G_of rfl hG (fun p e R s m args below meth c Q H locs cells slots ls hP hS hV hL hk K => ?_)
    exact lv_isub hP.1 hP.2.1 hdc (K H locs ls hS hV hL (ok1 trivial (okt (okt hk))))
  · cases hs
theorem gi_imul {l : Launch} {X : XT} {d : Nat} {md : MD} {pc len a b c' : Nat} {x0 : Int32} {lg : Int64} {ks : List (Int32 × Nat)} {L : List (Option AV)} {st : List AV} {M M' : Mem} {v : Option AV} {S' : St}  (hdc : decode md.2.2.1 pc = .ok (.imul, len)) (hx : okX md.1 md.2.2.2.1 md.2.2.2.2.2.1 pc (.imul) len a b c' x0 lg ks = true) (hs : exI md.2.2.2.2.1 (.imul) len a b c' x0 lg ks pc L st M = some (.inl S')) (hd : 1 ≤ d) (hG : Good l X d md S' v M') : Good l X d md (pc, L, st, M) v M' := by
  simp only [okX, Bool.and_eq_true, decide_eq_true_eq] at hx
  subst hx
  simp only [exI, bin, nx] at hs
  split at hs
  · cases hs
    refine G_of rfl hG (fun p e R s m args below meth c Q H locs cells slots ls hP hS hV hL hk K => ?_)
    exact lv_imul hP.1 hP.2.1 hdc (K H locs ls hS hV hL (ok1 trivial (okt (okt hk))))
  · cases hs
theorem gi_iand {l : Launch} {X : XT} {d : Nat} {md : MD} {pc len a b c' : Nat} {x0 : Int32} {lg : Int64} {ks : List (Int32 × Nat)} {L : List (Option AV)} {st : List AV} {M M' : Mem} {v : Option AV} {S' : St}  (hdc : decode md.2.2.1 pc = .ok (.iand, len)) (hx : okX md.1 md.2.2.2.1 md.2.2.2.2.2.1 pc (.iand) len a b c' x0 lg ks = true) (hs : exI md.2.2.2.2.1 (.iand) len a b c' x0 lg ks pc L st M = some (.inl S')) (hd : 1 ≤ d) (hG : Good l X d md S' v M') : Good l X d md (pc, L, st, M) v M' := by
  simp only [okX, Bool.and_eq_true, decide_eq_true_eq] at hx
  subst hx
  simp only [exI, bin, nx] at hs
  split at hs
  · cases hs
    refine G_of rfl hG (fun p e R s m args below meth c Q H locs cells slots ls hP hS hV hL hk K => ?_)
    exact lv_iand hP.1 hP.2.1 hdc (K H locs ls hS hV hL (ok1 trivial (okt (okt hk))))
  · cases hs
theorem gi_ior {l : Launch} {X : XT} {d : Nat} {md : MD} {pc len a b c' : Nat} {x0 : Int32} {lg : Int64} {ks : List (Int32 × Nat)} {L : List (Option AV)} {st : List AV} {M M' : Mem} {v : Option AV} {S' : St}  (hdc : decode md.2.2.1 pc = .ok (.ior, len)) (hx : okX md.1 md.2.2.2.1 md.2.2.2.2.2.1 pc (.ior) len a b c' x0 lg ks = true) (hs : exI md.2.2.2.2.1 (.ior) len a b c' x0 lg ks pc L st M = some (.inl S')) (hd : 1 ≤ d) (hG : Good l X d md S' v M') : Good l X d md (pc, L, st, M) v M' := by
  simp only [okX, Bool.and_eq_true, decide_eq_true_eq] at hx
  subst hx
  simp only [exI, bin, nx] at hs
  split at hs
  · cases hs
    refine G_of rfl hG (fun p e R s m args below meth c Q H locs cells slots ls hP hS hV hL hk K => ?_)
    exact lv_ior hP.1 hP.2.1 hdc (K H locs ls hS hV hL (ok1 trivial (okt (okt hk))))
  · cases hs
theorem gi_ixor {l : Launch} {X : XT} {d : Nat} {md : MD} {pc len a b c' : Nat} {x0 : Int32} {lg : Int64} {ks : List (Int32 × Nat)} {L : List (Option AV)} {st : List AV} {M M' : Mem} {v : Option AV} {S' : St}  (hdc : decode md.2.2.1 pc = .ok (.ixor, len)) (hx : okX md.1 md.2.2.2.1 md.2.2.2.2.2.1 pc (.ixor) len a b c' x0 lg ks = true) (hs : exI md.2.2.2.2.1 (.ixor) len a b c' x0 lg ks pc L st M = some (.inl S')) (hd : 1 ≤ d) (hG : Good l X d md S' v M') : Good l X d md (pc, L, st, M) v M' := by
  simp only [okX, Bool.and_eq_true, decide_eq_true_eq] at hx
  subst hx
  simp only [exI, bin, nx] at hs
  split at hs
  · cases hs
    refine G_of rfl hG (fun p e R s m args below meth c Q H locs cells slots ls hP hS hV hL hk K => ?_)
    exact lv_ixor hP.1 hP.2.1 hdc (K H locs ls hS hV hL (ok1 trivial (okt (okt hk))))
  · cases hs
theorem gi_ishl {l : Launch} {X : XT} {d : Nat} {md : MD} {pc len a b c' : Nat} {x0 : Int32} {lg : Int64} {ks : List (Int32 × Nat)} {L : List (Option AV)} {st : List AV} {M M' : Mem} {v : Option AV} {S' : St}  (hdc : decode md.2.2.1 pc = .ok (.ishl, len)) (hx : okX md.1 md.2.2.2.1 md.2.2.2.2.2.1 pc (.ishl) len a b c' x0 lg ks = true) (hs : exI md.2.2.2.2.1 (.ishl) len a b c' x0 lg ks pc L st M = some (.inl S')) (hd : 1 ≤ d) (hG : Good l X d md S' v M') : Good l X d md (pc, L, st, M) v M' := by
  simp only [okX, Bool.and_eq_true, decide_eq_true_eq] at hx
  subst hx
  simp only [exI, bin, nx] at hs
  split at hs
  · cases hs
    refine G_of rfl hG (fun p e R s m args below meth c Q H locs cells slots ls hP hS hV hL hk K => ?_)
    exact lv_ishl hP.1 hP.2.1 hdc (K H locs ls hS hV hL (ok1 trivial (okt (okt hk))))
  · cases hs
theorem gi_ishr {l : Launch} {X : XT} {d : Nat} {md : MD} {pc len a b c' : Nat} {x0 : Int32} {lg : Int64} {ks : List (Int32 × Nat)} {L : List (Option AV)} {st : List AV} {M M' : Mem} {v : Option AV} {S' : St}  (hdc : decode md.2.2.1 pc = .ok (.ishr, len)) (hx : okX md.1 md.2.2.2.1 md.2.2.2.2.2.1 pc (.ishr) len a b c' x0 lg ks = true) (hs : exI md.2.2.2.2.1 (.ishr) len a b c' x0 lg ks pc L st M = some (.inl S')) (hd : 1 ≤ d) (hG : Good l X d md S' v M') : Good l X d md (pc, L, st, M) v M' := by
  simp only [okX, Bool.and_eq_true, decide_eq_true_eq] at hx
  subst hx
  simp only [exI, bin, nx] at hs
  split at hs
  · cases hs
    refine G_of rfl hG (fun p e R s m args below meth c Q H locs cells slots ls hP hS hV hL hk K => ?_)
    exact lv_ishr hP.1 hP.2.1 hdc (K H locs ls hS hV hL (ok1 trivial (okt (okt hk))))
  · cases hs
theorem gi_iushr {l : Launch} {X : XT} {d : Nat} {md : MD} {pc len a b c' : Nat} {x0 : Int32} {lg : Int64} {ks : List (Int32 × Nat)} {L : List (Option AV)} {st : List AV} {M M' : Mem} {v : Option AV} {S' : St}  (hdc : decode md.2.2.1 pc = .ok (.iushr, len)) (hx : okX md.1 md.2.2.2.1 md.2.2.2.2.2.1 pc (.iushr) len a b c' x0 lg ks = true) (hs : exI md.2.2.2.2.1 (.iushr) len a b c' x0 lg ks pc L st M = some (.inl S')) (hd : 1 ≤ d) (hG : Good l X d md S' v M') : Good l X d md (pc, L, st, M) v M' := by
  simp only [okX, Bool.and_eq_true, decide_eq_true_eq] at hx
  subst hx
  simp only [exI, bin, nx] at hs
  split at hs
  · cases hs
    refine G_of rfl hG (fun p e R s m args below meth c Q H locs cells slots ls hP hS hV hL hk K => ?_)
    exact lv_iushr hP.1 hP.2.1 hdc rfl (K H locs ls hS hV hL (ok1 trivial (okt (okt hk))))
  · cases hs
theorem gi_ladd {l : Launch} {X : XT} {d : Nat} {md : MD} {pc len a b c' : Nat} {x0 : Int32} {lg : Int64} {ks : List (Int32 × Nat)} {L : List (Option AV)} {st : List AV} {M M' : Mem} {v : Option AV} {S' : St}  (hdc : decode md.2.2.1 pc = .ok (.ladd, len)) (hx : okX md.1 md.2.2.2.1 md.2.2.2.2.2.1 pc (.ladd) len a b c' x0 lg ks = true) (hs : exI md.2.2.2.2.1 (.ladd) len a b c' x0 lg ks pc L st M = some (.inl S')) (hd : 1 ≤ d) (hG : Good l X d md S' v M') : Good l X d md (pc, L, st, M) v M' := by
  simp only [okX, Bool.and_eq_true, decide_eq_true_eq] at hx
  subst hx
  simp only [exI, binL, nx] at hs
  split at hs
  · cases hs
    refine G_of rfl hG (fun p e R s m args below meth c Q H locs cells slots ls hP hS hV hL hk K => ?_)
    exact lv_ladd hP.1 hP.2.1 hdc (K H locs ls hS hV hL (ok1 trivial (okt (okt hk))))
  · cases hs
theorem gi_lmul {l : Launch} {X : XT} {d : Nat} {md : MD} {pc len a b c' : Nat} {x0 : Int32} {lg : Int64} {ks : List (Int32 × Nat)} {L : List (Option AV)} {st : List AV} {M M' : Mem} {v : Option AV} {S' : St}  (hdc : decode md.2.2.1 pc = .ok (.lmul, len)) (hx : okX md.1 md.2.2.2.1 md.2.2.2.2.2.1 pc (.lmul) len a b c' x0 lg ks = true) (hs : exI md.2.2.2.2.1 (.lmul) len a b c' x0 lg ks pc L st M = some (.inl S')) (hd : 1 ≤ d) (hG : Good l X d md S' v M') : Good l X d md (pc, L, st, M) v M' := by
  simp only [okX, Bool.and_eq_true, decide_eq_true_eq] at hx
  subst hx
  simp only [exI, binL, nx] at hs
  split at hs
  · cases hs
    refine G_of rfl hG (fun p e R s m args below meth c Q H locs cells slots ls hP hS hV hL hk K => ?_)
    exact lv_lmul hP.1 hP.2.1 hdc (K H locs ls hS hV hL (ok1 trivial (okt (okt hk))))
  · cases hs
theorem gi_idiv {l : Launch} {X : XT} {d : Nat} {md : MD} {pc len a b c' : Nat} {x0 : Int32} {lg : Int64} {ks : List (Int32 × Nat)} {L : List (Option AV)} {st : List AV} {M M' : Mem} {v : Option AV} {S' : St}  (hdc : decode md.2.2.1 pc = .ok (.idiv, len)) (hx : okX md.1 md.2.2.2.1 md.2.2.2.2.2.1 pc (.idiv) len a b c' x0 lg ks = true) (hs : exI md.2.2.2.2.1 (.idiv) len a b c' x0 lg ks pc L st M = some (.inl S')) (hd : 1 ≤ d) (hG : Good l X d md S' v M') : Good l X d md (pc, L, st, M) v M' := by
  simp only [okX, Bool.and_eq_true, decide_eq_true_eq] at hx
  subst hx
  simp only [exI, nx] at hs
  split at hs
  · split at hs
    · cases hs
    · rename_i hz
      cases hs
      refine G_of rfl hG (fun p e R s m args below meth c Q H locs cells slots ls hP hS hV hL hk K => ?_)
      exact lv_idiv hP.1 hP.2.1 hdc hz (K H locs ls hS hV hL (ok1 trivial (okt (okt hk))))
  · cases hs
theorem gi_irem {l : Launch} {X : XT} {d : Nat} {md : MD} {pc len a b c' : Nat} {x0 : Int32} {lg : Int64} {ks : List (Int32 × Nat)} {L : List (Option AV)} {st : List AV} {M M' : Mem} {v : Option AV} {S' : St}  (hdc : decode md.2.2.1 pc = .ok (.irem, len)) (hx : okX md.1 md.2.2.2.1 md.2.2.2.2.2.1 pc (.irem) len a b c' x0 lg ks = true) (hs : exI md.2.2.2.2.1 (.irem) len a b c' x0 lg ks pc L st M = some (.inl S')) (hd : 1 ≤ d) (hG : Good l X d md S' v M') : Good l X d md (pc, L, st, M) v M' := by
  simp only [okX, Bool.and_eq_true, decide_eq_true_eq] at hx
  subst hx
  simp only [exI, nx] at hs
  split at hs
  · split at hs
    · cases hs
    · rename_i hz
      cases hs
      refine G_of rfl hG (fun p e R s m args below meth c Q H locs cells slots ls hP hS hV hL hk K => ?_)
      exact lv_irem hP.1 hP.2.1 hdc hz (K H locs ls hS hV hL (ok1 trivial (okt (okt hk))))
  · cases hs
theorem gi_ldiv {l : Launch} {X : XT} {d : Nat} {md : MD} {pc len a b c' : Nat} {x0 : Int32} {lg : Int64} {ks : List (Int32 × Nat)} {L : List (Option AV)} {st : List AV} {M M' : Mem} {v : Option AV} {S' : St}  (hdc : decode md.2.2.1 pc = .ok (.ldiv, len)) (hx : okX md.1 md.2.2.2.1 md.2.2.2.2.2.1 pc (.ldiv) len a b c' x0 lg ks = true) (hs : exI md.2.2.2.2.1 (.ldiv) len a b c' x0 lg ks pc L st M = some (.inl S')) (hd : 1 ≤ d) (hG : Good l X d md S' v M') : Good l X d md (pc, L, st, M) v M' := by
  simp only [okX, Bool.and_eq_true, decide_eq_true_eq] at hx
  subst hx
  simp only [exI, nx] at hs
  split at hs
  · split at hs
    · cases hs
    · rename_i hz
      cases hs
      refine G_of rfl hG (fun p e R s m args below meth c Q H locs cells slots ls hP hS hV hL hk K => ?_)
      exact lv_ldiv hP.1 hP.2.1 hdc hz (K H locs ls hS hV hL (ok1 trivial (okt (okt hk))))
  · cases hs
theorem gi_lrem {l : Launch} {X : XT} {d : Nat} {md : MD} {pc len a b c' : Nat} {x0 : Int32} {lg : Int64} {ks : List (Int32 × Nat)} {L : List (Option AV)} {st : List AV} {M M' : Mem} {v : Option AV} {S' : St}  (hdc : decode md.2.2.1 pc = .ok (.lrem, len)) (hx : okX md.1 md.2.2.2.1 md.2.2.2.2.2.1 pc (.lrem) len a b c' x0 lg ks = true) (hs : exI md.2.2.2.2.1 (.lrem) len a b c' x0 lg ks pc L st M = some (.inl S')) (hd : 1 ≤ d) (hG : Good l X d md S' v M') : Good l X d md (pc, L, st, M) v M' := by
  simp only [okX, Bool.and_eq_true, decide_eq_true_eq] at hx
  subst hx
  simp only [exI, nx] at hs
  split at hs
  · split at hs
    · cases hs
    · rename_i hz
      cases hs
      refine G_of rfl hG (fun p e R s m args below meth c Q H locs cells slots ls hP hS hV hL hk K => ?_)
      exact lv_lrem hP.1 hP.2.1 hdc hz (K H locs ls hS hV hL (ok1 trivial (okt (okt hk))))
  · cases hs
theorem gi_i2l {l : Launch} {X : XT} {d : Nat} {md : MD} {pc len a b c' : Nat} {x0 : Int32} {lg : Int64} {ks : List (Int32 × Nat)} {L : List (Option AV)} {st : List AV} {M M' : Mem} {v : Option AV} {S' : St}  (hdc : decode md.2.2.1 pc = .ok (.i2l, len)) (hx : okX md.1 md.2.2.2.1 md.2.2.2.2.2.1 pc (.i2l) len a b c' x0 lg ks = true) (hs : exI md.2.2.2.2.1 (.i2l) len a b c' x0 lg ks pc L st M = some (.inl S')) (hd : 1 ≤ d) (hG : Good l X d md S' v M') : Good l X d md (pc, L, st, M) v M' := by
  simp only [okX, Bool.and_eq_true, decide_eq_true_eq] at hx
  subst hx
  simp only [exI, nx] at hs
  split at hs
  · cases hs
    refine G_of rfl hG (fun p e R s m args below meth c Q H locs cells slots ls hP hS hV hL hk K => ?_)
    exact lv_i2l hP.1 hP.2.1 hdc rfl (K H locs ls hS hV hL (ok1 trivial (okt hk)))
  · cases hs
theorem gi_l2i {l : Launch} {X : XT} {d : Nat} {md : MD} {pc len a b c' : Nat} {x0 : Int32} {lg : Int64} {ks : List (Int32 × Nat)} {L : List (Option AV)} {st : List AV} {M M' : Mem} {v : Option AV} {S' : St}  (hdc : decode md.2.2.1 pc = .ok (.l2i, len)) (hx : okX md.1 md.2.2.2.1 md.2.2.2.2.2.1 pc (.l2i) len a b c' x0 lg ks = true) (hs : exI md.2.2.2.2.1 (.l2i) len a b c' x0 lg ks pc L st M = some (.inl S')) (hd : 1 ≤ d) (hG : Good l X d md S' v M') : Good l X d md (pc, L, st, M) v M' := by
  simp only [okX, Bool.and_eq_true, decide_eq_true_eq] at hx
  subst hx
  simp only [exI, nx] at hs
  split at hs
  · cases hs
    refine G_of rfl hG (fun p e R s m args below meth c Q H locs cells slots ls hP hS hV hL hk K => ?_)
    exact lv_l2i hP.1 hP.2.1 hdc rfl (K H locs ls hS hV hL (ok1 trivial (okt hk)))
  · cases hs
theorem gi_dup {l : Launch} {X : XT} {d : Nat} {md : MD} {pc len a b c' : Nat} {x0 : Int32} {lg : Int64} {ks : List (Int32 × Nat)} {L : List (Option AV)} {st : List AV} {M M' : Mem} {v : Option AV} {S' : St}  (hdc : decode md.2.2.1 pc = .ok (.dup, len)) (hx : okX md.1 md.2.2.2.1 md.2.2.2.2.2.1 pc (.dup) len a b c' x0 lg ks = true) (hs : exI md.2.2.2.2.1 (.dup) len a b c' x0 lg ks pc L st M = some (.inl S')) (hd : 1 ≤ d) (hG : Good l X d md S' v M') : Good l X d md (pc, L, st, M) v M' := by
  simp only [okX, Bool.and_eq_true, decide_eq_true_eq] at hx
  subst hx
  simp only [exI, nx] at hs
  split at hs
  · rename_i z r
    cases hz : isL z with
    | true => rw [hz] at hs; cases hs
    | false =>
      rw [hz] at hs
      cases hs
      refine G_of rfl hG (fun p e R s m args below meth c Q H locs cells slots ls hP hS hV hL hk K => ?_)
      exact lv_dup hP.1 hP.2.1 hdc (by rw [cat_tv, hz]; rfl) (K H locs ls hS hV hL (ok1 (hk _ List.mem_cons_self) hk))
  · cases hs
theorem gi_dup2 {l : Launch} {X : XT} {d : Nat} {md : MD} {pc len a b c' : Nat} {x0 : Int32} {lg : Int64} {ks : List (Int32 × Nat)} {L : List (Option AV)} {st : List AV} {M M' : Mem} {v : Option AV} {S' : St}  (hdc : decode md.2.2.1 pc = .ok (.dup2, len)) (hx : okX md.1 md.2.2.2.1 md.2.2.2.2.2.1 pc (.dup2) len a b c' x0 lg ks = true) (hs : exI md.2.2.2.2.1 (.dup2) len a b c' x0 lg ks pc L st M = some (.inl S')) (hd : 1 ≤ d) (hG : Good l X d md S' v M') : Good l X d md (pc, L, st, M) v M' := by
  simp only [okX, Bool.and_eq_true, decide_eq_true_eq] at hx
  subst hx
  simp only [exI, nx] at hs
  split at hs
  · rename_i z y r
    cases hz : isL z with
    | true => rw [hz] at hs; cases hs
    | false =>
      cases hy : isL y with
      | true => rw [hz, hy] at hs; cases hs
      | false =>
        rw [hz, hy] at hs
        cases hs
        refine G_of rfl hG (fun p e R s m args below meth c Q H locs cells slots ls hP hS hV hL hk K => ?_)
        exact lv_dup2_11 hP.1 hP.2.1 hdc (by rw [cat_tv, hz]; rfl) (by rw [cat_tv, hy]; rfl) (K H locs ls hS hV hL (ok1 (hk _ List.mem_cons_self) (ok1 (hk _ (List.mem_cons_of_mem _ List.mem_cons_self)) hk)))
  · cases hs
theorem gi_icmp_eq {l : Launch} {X : XT} {d : Nat} {md : MD} {pc len a b c' : Nat} {x0 : Int32} {lg : Int64} {ks : List (Int32 × Nat)} {L : List (Option AV)} {st : List AV} {M M' : Mem} {v : Option AV} {S' : St} {off : Int} (hdc : decode md.2.2.1 pc = .ok (.if_icmp .eq off, len)) (hx : okX md.1 md.2.2.2.1 md.2.2.2.2.2.1 pc (.if_icmp .eq off) len a b c' x0 lg ks = true) (hs : exI md.2.2.2.2.1 (.if_icmp .eq off) len a b c' x0 lg ks pc L st M = some (.inl S')) (hd : 1 ≤ d) (hG : Good l X d md S' v M') : Good l X d md (pc, L, st, M) v M' := by
  simp only [okX, Bool.and_eq_true, decide_eq_true_eq] at hx
  obtain ⟨rfl, ht⟩ := hx
  simp only [exI, cmpI, nx] at hs
  split at hs
  · rename_i y x r
    by_cases hc : x = y
    · rw [if_pos hc] at hs
      cases hs
      refine G_of rfl hG (fun p e R s m args below meth c Q H locs cells slots ls hP hS hV hL hk K => ?_)
      exact lv_icmp_eq hP.1 hP.2.1 hdc ht (fun _ => (K H locs ls hS hV hL (okt (okt hk)))) (fun q => absurd hc q)
    · rw [if_neg hc] at hs
      cases hs
      refine G_of rfl hG (fun p e R s m args below meth c Q H locs cells slots ls hP hS hV hL hk K => ?_)
      exact lv_icmp_eq hP.1 hP.2.1 hdc ht (fun q => absurd q hc) (fun _ => (K H locs ls hS hV hL (okt (okt hk))))
  · cases hs
theorem gi_icmp_ne {l : Launch} {X : XT} {d : Nat} {md : MD} {pc len a b c' : Nat} {x0 : Int32} {lg : Int64} {ks : List (Int32 × Nat)} {L : List (Option AV)} {st : List AV} {M M' : Mem} {v : Option AV} {S' : St} {off : Int} (hdc : decode md.2.2.1 pc = .ok (.if_icmp .ne off, len)) (hx : okX md.1 md.2.2.2.1 md.2.2.2.2.2.1 pc (.if_icmp .ne off) len a b c' x0 lg ks = true) (hs : exI md.2.2.2.2.1 (.if_icmp .ne off) len a b c' x0 lg ks pc L st M = some (.inl S')) (hd : 1 ≤ d) (hG : Good l X d md S' v M') : Good l X d md (pc, L, st, M) v M' := by
  simp only [okX, Bool.and_eq_true, decide_eq_true_eq] at hx
  obtain ⟨rfl, ht⟩ := hx
  simp only [exI, cmpI, nx] at hs
  split at hs
  · rename_i y x r
    by_cases hc : x = y
    · rw [if_pos hc] at hs
      cases hs
      refine G_of rfl hG (fun p e R s m args below meth c Q H locs cells slots ls hP hS hV hL hk K => ?_)
      exact lv_icmp_ne hP.1 hP.2.1 hdc ht (fun q => absurd hc q) (fun _ => (K H locs ls hS hV hL (okt (okt hk))))
    · rw [if_neg hc] at hs
      cases hs
      refine G_of rfl hG (fun p e R s m args below meth c Q H locs cells slots ls hP hS hV hL hk K => ?_)
      exact lv_icmp_ne hP.1 hP.2.1 hdc ht (fun _ => (K H locs ls hS hV hL (okt (okt hk)))) (fun q => absurd q hc)
  · cases hs
theorem gi_icmp_lt {l : Launch} {X : XT} {d : Nat} {md : MD} {pc len a b c' : Nat} {x0 : Int32} {lg : Int64} {ks : List (Int32 × Nat)} {L : List (Option AV)} {st : List AV} {M M' : Mem} {v : Option AV} {S' : St} {off : Int} (hdc : decode md.2.2.1 pc = .ok (.if_icmp .lt off, len)) (hx : okX md.1 md.2.2.2.1 md.2.2.2.2.2.1 pc (.if_icmp .lt off) len a b c' x0 lg ks = true) (hs : exI md.2.2.2.2.1 (.if_icmp .lt off) len a b c' x0 lg ks pc L st M = some (.inl S')) (hd : 1 ≤ d) (hG : Good l X d md S' v M') : Good l X d md (pc, L, st, M) v M' := by
  simp only [okX, Bool.and_eq_true, decide_eq_true_eq] at hx
  obtain ⟨rfl, ht⟩ := hx
  simp only [exI, cmpI, nx] at hs
  split at hs
  · rename_i y x r
    by_cases hc : x < y
    · rw [if_pos hc] at hs
      cases hs
      refine G_of rfl hG (fun p e R s m args below meth c Q H locs cells slots ls hP hS hV hL hk K => ?_)
      exact lv_icmp_lt hP.1 hP.2.1 hdc ht (fun _ => (K H locs ls hS hV hL (okt (okt hk)))) (fun q => absurd hc q)
    · rw [if_neg hc] at hs
      cases hs
      refine G_of rfl hG (fun p e R s m args below meth c Q H locs cells slots ls hP hS hV hL hk K => ?_)
      exact lv_icmp_lt hP.1 hP.2.1 hdc ht (fun q => absurd q hc) (fun _ => (K H locs ls hS hV hL (okt (okt hk))))
  · cases hs
theorem gi_icmp_ge {l : Launch} {X : XT} {d : Nat} {md : MD} {pc len a b c' : Nat} {x0 : Int32} {lg : Int64} {ks : List (Int32 × Nat)} {L : List (Option AV)} {st : List AV} {M M' : Mem} {v : Option AV} {S' : St} {off : Int} (hdc : decode md.2.2.1 pc = .ok (.if_icmp .ge off, len)) (hx : okX md.1 md.2.2.2.1 md.2.2.2.2.2.1 pc (.if_icmp .ge off) len a b c' x0 lg ks = true) (hs : exI md.2.2.2.2.1 (.if_icmp .ge off) len a b c' x0 lg ks pc L st M = some (.inl S')) (hd : 1 ≤ d) (hG : Good l X d md S' v M') : Good l X d md (pc, L, st, M) v M' := by
  simp only [okX, Bool.and_eq_true, decide_eq_true_eq] at hx
  obtain ⟨rfl, ht⟩ := hx
  simp only [exI, cmpI, nx] at hs
  split at hs
  · rename_i y x r
    by_cases hc : y ≤ x
    · rw [if_pos hc] at hs
      cases hs
      refine G_of rfl hG (fun p e R s m args below meth c Q H locs cells slots ls hP hS hV hL hk K => ?_)
      exact lv_icmp_ge hP.1 hP.2.1 hdc ht (fun _ => (K H locs ls hS hV hL (okt (okt hk)))) (fun q => absurd hc q)
    · rw [if_neg hc] at hs
      cases hs
      refine G_of rfl hG (fun p e R s m args below meth c Q H locs cells slots ls hP hS hV hL hk K => ?_)
      exact lv_icmp_ge hP.1 hP.2.1 hdc ht (fun q => absurd q hc) (fun _ => (K H locs ls hS hV hL (okt (okt hk))))
  · cases hs
theorem gi_icmp_gt {l : Launch} {X : XT} {d : Nat} {md : MD} {pc len a b c' : Nat} {x0 : Int32} {lg : Int64} {ks : List (Int32 × Nat)} {L : List (Option AV)} {st : List AV} {M M' : Mem} {v : Option AV} {S' : St} {off : Int} (hdc : decode md.2.2.1 pc = .ok (.if_icmp .gt off, len)) (hx : okX md.1 md.2.2.2.1 md.2.2.2.2.2.1 pc (.if_icmp .gt off) len a b c' x0 lg ks = true) (hs : exI md.2.2.2.2.1 (.if_icmp .gt off) len a b c' x0 lg ks pc L st M = some (.inl S')) (hd : 1 ≤ d) (hG : Good l X d md S' v M') : Good l X d md (pc, L, st, M) v M' := by
  simp only [okX, Bool.and_eq_true, decide_eq_true_eq] at hx
  obtain ⟨rfl, ht⟩ := hx
  simp only [exI, cmpI, nx] at hs
  split at hs
  · rename_i y x r
    by_cases hc : y < x
    · rw [if_pos hc] at hs
      cases hs
      refine G_of rfl hG (fun p e R s m args below meth c Q H locs cells slots ls hP hS hV hL hk K => ?_)
      exact lv_icmp_gt hP.1 hP.2.1 hdc ht (fun _ => (K H locs ls hS hV hL (okt (okt hk)))) (fun q => absurd hc q)
    · rw [if_neg hc] at hs
      cases hs
      refine G_of rfl hG (fun p e R s m args below meth c Q H locs cells slots ls hP hS hV hL hk K => ?_)
      exact lv_icmp_gt hP.1 hP.2.1 hdc ht (fun q => absurd q hc) (fun _ => (K H locs ls hS hV hL (okt (okt hk))))
  · cases hs
theorem gi_icmp_le {l : Launch} {X : XT} {d : Nat} {md : MD} {pc len a b c' : Nat} {x0 : Int32} {lg : Int64} {ks : List (Int32 × Nat)} {L : List (Option AV)} {st : List AV} {M M' : Mem} {v : Option AV} {S' : St} {off : Int} (hdc : decode md.2.2.1 pc = .ok (.if_icmp .le off, len)) (hx : okX md.1 md.2.2.2.1 md.2.2.2.2.2.1 pc (.if_icmp .le off) len a b c' x0 lg ks = true) (hs : exI md.2.2.2.2.1 (.if_icmp .le off) len a b c' x0 lg ks pc L st M = some (.inl S')) (hd : 1 ≤ d) (hG : Good l X d md S' v M') : Good l X d md (pc, L, st, M) v M' := by
  simp only [okX, Bool.and_eq_true, decide_eq_true_eq] at hx
  obtain ⟨rfl, ht⟩ := hx
  simp only [exI, cmpI, nx] at hs
  split at hs
  · rename_i y x r
    by_cases hc : x ≤ y
    · rw [if_pos hc] at hs
      cases hs
      refine G_of rfl hG (fun p e R s m args below meth c Q H locs cells slots ls hP hS hV hL hk K => ?_)
      exact lv_icmp_le hP.1 hP.2.1 hdc ht (fun _ => (K H locs ls hS hV hL (okt (okt hk)))) (fun q => absurd hc q)
    · rw [if_neg hc] at hs
      cases hs
      refine G_of rfl hG (fun p e R s m args below meth c Q H locs cells slots ls hP hS hV hL hk K => ?_)
      exact lv_icmp_le hP.1 hP.2.1 hdc ht (fun q => absurd q hc) (fun _ => (K H locs ls hS hV hL (okt (okt hk))))
  · cases hs
theorem gi_if_eq {l : Launch} {X : XT} {d : Nat} {md : MD} {pc len a b c' : Nat} {x0 : Int32} {lg : Int64} {ks : List (Int32 × Nat)} {L : List (Option AV)} {st : List AV} {M M' : Mem} {v : Option AV} {S' : St} {off : Int} (hdc : decode md.2.2.1 pc = .ok (.ifCond .eq off, len)) (hx : okX md.1 md.2.2.2.1 md.2.2.2.2.2.1 pc (.ifCond .eq off) len a b c' x0 lg ks = true) (hs : exI md.2.2.2.2.1 (.ifCond .eq off) len a b c' x0 lg ks pc L st M = some (.inl S')) (hd : 1 ≤ d) (hG : Good l X d md S' v M') : Good l X d md (pc, L, st, M) v M' := by
  simp only [okX, Bool.and_eq_true, decide_eq_true_eq] at hx
  obtain ⟨rfl, ht⟩ := hx
  simp only [exI, cmpI, nx] at hs
  split at hs
  · rename_i x r
    by_cases hc : x = 0
    · rw [if_pos hc] at hs
      cases hs
      refine G_of rfl hG (fun p e R s m args below meth c Q H locs cells slots ls hP hS hV hL hk K => ?_)
      exact lv_if_eq hP.1 hP.2.1 hdc ht (fun _ => (K H locs ls hS hV hL (okt hk))) (fun q => absurd hc q)
    · rw [if_neg hc] at hs
      cases hs
      refine G_of rfl hG (fun p e R s m args below meth c Q H locs cells slots ls hP hS hV hL hk K => ?_)
      exact lv_if_eq hP.1 hP.2.1 hdc ht (fun q => absurd q hc) (fun _ => (K H locs ls hS hV hL (okt hk)))
  · cases hs
theorem gi_if_ne {l : Launch} {X : XT} {d : Nat} {md : MD} {pc len a b c' : Nat} {x0 : Int32} {lg : Int64} {ks : List (Int32 × Nat)} {L : List (Option AV)} {st : List AV} {M M' : Mem} {v : Option AV} {S' : St} {off : Int} (hdc : decode md.2.2.1 pc = .ok (.ifCond .ne off, len)) (hx : okX md.1 md.2.2.2.1 md.2.2.2.2.2.1 pc (.ifCond .ne off) len a b c' x0 lg ks = true) (hs : exI md.2.2.2.2.1 (.ifCond .ne off) len a b c' x0 lg ks pc L st M = some (.inl S')) (hd : 1 ≤ d) (hG : Good l X d md S' v M') : Good l X d md (pc, L, st, M) v M' := by
  simp only [okX, Bool.and_eq_true, decide_eq_true_eq] at hx
  obtain ⟨rfl, ht⟩ := hx
  simp only [exI, cmpI, nx] at hs
  split at hs
  · rename_i x r
    by_cases hc : x = 0
    · rw [if_pos hc] at hs
      cases hs
      refine G_of rfl hG (fun p e R s m args below meth c Q H locs cells slots ls hP hS hV hL hk K => ?_)
      exact lv_if_ne hP.1 hP.2.1 hdc ht (fun q => absurd hc q) (fun _ => (K H locs ls hS hV hL (okt hk)))
    · rw [if_neg hc] at hs
      cases hs
      refine G_of rfl hG (fun p e R s m args below meth c Q H locs cells slots ls hP hS hV hL hk K => ?_)
      exact lv_if_ne hP.1 hP.2.1 hdc ht (fun _ => (K H locs ls hS hV hL (okt hk))) (fun q => absurd q hc)
  · cases hs
theorem gi_if_lt {l : Launch} {X : XT} {d : Nat} {md : MD} {pc len a b c' : Nat} {x0 : Int32} {lg : Int64} {ks : List (Int32 × Nat)} {L : List (Option AV)} {st : List AV} {M M' : Mem} {v : Option AV} {S' : St} {off : Int} (hdc : decode md.2.2.1 pc = .ok (.ifCond .lt off, len)) (hx : okX md.1 md.2.2.2.1 md.2.2.2.2.2.1 pc (.ifCond .lt off) len a b c' x0 lg ks = true) (hs : exI md.2.2.2.2.1 (.ifCond .lt off) len a b c' x0 lg ks pc L st M = some (.inl S')) (hd : 1 ≤ d) (hG : Good l X d md S' v M') : Good l X d md (pc, L, st, M) v M' := by
  simp only [okX, Bool.and_eq_true, decide_eq_true_eq] at hx
  obtain ⟨rfl, ht⟩ := hx
  simp only [exI, cmpI, nx] at hs
  split at hs
  · rename_i x r
    by_cases hc : x < 0
    · rw [if_pos hc] at hs
      cases hs
      refine G_of rfl hG (fun p e R s m args below meth c Q H locs cells slots ls hP hS hV hL hk K => ?_)
      exact lv_if_lt hP.1 hP.2.1 hdc ht (fun _ => (K H locs ls hS hV hL (okt hk))) (fun q => absurd hc q)
    · rw [if_neg hc] at hs
      cases hs
      refine G_of rfl hG (fun p e R s m args below meth c Q H locs cells slots ls hP hS hV hL hk K => ?_)
      exact lv_if_lt hP.1 hP.2.1 hdc ht (fun q => absurd q hc) (fun _ => (K H locs ls hS hV hL (okt hk)))
  · cases hs
theorem gi_if_ge {l : Launch} {X : XT} {d : Nat} {md : MD} {pc len a b c' : Nat} {x0 : Int32} {lg : Int64} {ks : List (Int32 × Nat)} {L : List (Option AV)} {st : List AV} {M M' : Mem} {v : Option AV} {S' : St} {off : Int} (hdc : decode md.2.2.1 pc = .ok (.ifCond .ge off, len)) (hx : okX md.1 md.2.2.2.1 md.2.2.2.2.2.1 pc (.ifCond .ge off) len a b c' x0 lg ks = true) (hs : exI md.2.2.2.2.1 (.ifCond .ge off) len a b c' x0 lg ks pc L st M = some (.inl S')) (hd : 1 ≤ d) (hG : Good l X d md S' v M') : Good l X d md (pc, L, st, M) v M' := by
  simp only [okX, Bool.and_eq_true, decide_eq_true_eq] at hx
  obtain ⟨rfl, ht⟩ := hx
  simp only [exI, cmpI, nx] at hs
  split at hs
  · rename_i x r
    by_cases hc : 0 ≤ x
    · rw [if_pos hc] at hs
      cases hs
      refine G_of rfl hG (fun p e R s m args below meth c Q H locs cells slots ls hP hS hV hL hk K => ?_)
      exact lv_if_ge hP.1 hP.2.1 hdc ht (fun _ => (K H locs ls hS hV hL (okt hk))) (fun q => absurd hc q)
    · rw [if_neg hc] at hs
      cases hs
      refine G_of rfl hG (fun p e R s m args below meth c Q H locs cells slots ls hP hS hV hL hk K => ?_)
      exact lv_if_ge hP.1 hP.2.1 hdc ht (fun q => absurd q hc) (fun _ => (K H locs ls hS hV hL (okt hk)))
  · cases hs
theorem gi_if_gt {l : Launch} {X : XT} {d : Nat} {md : MD} {pc len a b c' : Nat} {x0 : Int32} {lg : Int64} {ks : List (Int32 × Nat)} {L : List (Option AV)} {st : List AV} {M M' : Mem} {v : Option AV} {S' : St} {off : Int} (hdc : decode md.2.2.1 pc = .ok (.ifCond .gt off, len)) (hx : okX md.1 md.2.2.2.1 md.2.2.2.2.2.1 pc (.ifCond .gt off) len a b c' x0 lg ks = true) (hs : exI md.2.2.2.2.1 (.ifCond .gt off) len a b c' x0 lg ks pc L st M = some (.inl S')) (hd : 1 ≤ d) (hG : Good l X d md S' v M') : Good l X d md (pc, L, st, M) v M' := by
  simp only [okX, Bool.and_eq_true, decide_eq_true_eq] at hx
  obtain ⟨rfl, ht⟩ := hx
  simp only [exI, cmpI, nx] at hs
  split at hs
  · rename_i x r
    by_cases hc : 0 < x
    · rw [if_pos hc] at hs
      cases hs
      refine G_of rfl hG (fun p e R s m args below meth c Q H locs cells slots ls hP hS hV hL hk K => ?_)
      exact lv_if_gt hP.1 hP.2.1 hdc ht (fun _ => (K H locs ls hS hV hL (okt hk))) (fun q => absurd hc q)
    · rw [if_neg hc] at hs
      cases hs
      refine G_of rfl hG (fun p e R s m args below meth c Q H locs cells slots ls hP hS hV hL hk K => ?_)
      exact lv_if_gt hP.1 hP.2.1 hdc ht (fun q => absurd q hc) (fun _ => (K H locs ls hS hV hL (okt hk)))
  · cases hs
theorem gi_if_le {l : Launch} {X : XT} {d : Nat} {md : MD} {pc len a b c' : Nat} {x0 : Int32} {lg : Int64} {ks : List (Int32 × Nat)} {L : List (Option AV)} {st : List AV} {M M' : Mem} {v : Option AV} {S' : St} {off : Int} (hdc : decode md.2.2.1 pc = .ok (.ifCond .le off, len)) (hx : okX md.1 md.2.2.2.1 md.2.2.2.2.2.1 pc (.ifCond .le off) len a b c' x0 lg ks = true) (hs : exI md.2.2.2.2.1 (.ifCond .le off) len a b c' x0 lg ks pc L st M = some (.inl S')) (hd : 1 ≤ d) (hG : Good l X d md S' v M') : Good l X d md (pc, L, st, M) v M' := by
  simp only [okX, Bool.and_eq_true, decide_eq_true_eq] at hx
  obtain ⟨rfl, ht⟩ := hx
  simp only [exI, cmpI, nx] at hs
  split at hs
  · rename_i x r
    by_cases hc : x ≤ 0
    · rw [if_pos hc] at hs
      cases hs
      refine G_of rfl hG (fun p e R s m args below meth c Q H locs cells slots ls hP hS hV hL hk K => ?_)
      exact lv_if_le hP.1 hP.2.1 hdc ht (fun _ => (K H locs ls hS hV hL (okt hk))) (fun q => absurd hc q)
    · rw [if_neg hc] at hs
      cases hs
      refine G_of rfl hG (fun p e R s m args below meth c Q H locs cells slots ls hP hS hV hL hk K => ?_)
      exact lv_if_le hP.1 hP.2.1 hdc ht (fun q => absurd q hc) (fun _ => (K H locs ls hS hV hL (okt hk)))
  · cases hs
theorem gi_goto {l : Launch} {X : XT} {d : Nat} {md : MD} {pc len a b c' : Nat} {x0 : Int32} {lg : Int64} {ks : List (Int32 × Nat)} {L : List (Option AV)} {st : List AV} {M M' : Mem} {v : Option AV} {S' : St} {off : Int} (hdc : decode md.2.2.1 pc = .ok (.goto off, len)) (hx : okX md.1 md.2.2.2.1 md.2.2.2.2.2.1 pc (.goto off) len a b c' x0 lg ks = true) (hs : exI md.2.2.2.2.1 (.goto off) len a b c' x0 lg ks pc L st M = some (.inl S')) (hd : 1 ≤ d) (hG : Good l X d md S' v M') : Good l X d md (pc, L, st, M) v M' := by
  simp only [okX, Bool.and_eq_true, decide_eq_true_eq] at hx
  obtain ⟨rfl, ht⟩ := hx
  cases hs
  refine G_of rfl hG (fun p e R s m args below meth c Q H locs cells slots ls hP hS hV hL hk K => ?_)
  exact lv_goto hP.1 hP.2.1 hdc ht (K H locs ls hS hV hL hk)
theorem gi_lookupswitch {l : Launch} {X : XT} {d : Nat} {md : MD} {pc len a b c' : Nat} {x0 : Int32} {lg : Int64} {ks : List (Int32 × Nat)} {L : List (Option AV)} {st : List AV} {M M' : Mem} {v : Option AV} {S' : St} {df : Int} {ps : Array (Int × Int)} (hdc : decode md.2.2.1 pc = .ok (.lookupswitch df ps, len)) (hx : okX md.1 md.2.2.2.1 md.2.2.2.2.2.1 pc (.lookupswitch df ps) len a b c' x0 lg ks = true) (hs : exI md.2.2.2.2.1 (.lookupswitch df ps) len a b c' x0 lg ks pc L st M = some (.inl S')) (hd : 1 ≤ d) (hG : Good l X d md S' v M') : Good l X d md (pc, L, st, M) v M' := by
  simp only [okX, Bool.and_eq_true, decide_eq_true_eq] at hx
  obtain ⟨⟨hdf, hsort⟩, hls⟩ := hx
  simp only [exI, nx] at hs
  split at hs
  · cases hs
    refine G_of rfl hG (fun p e R s m args below meth c Q H locs cells slots ls hP hS hV hL hk K => ?_)
    exact lv_lookup hP.1 hP.2.1 hdc hsort rfl (ls_off hdf _ _ hls) (K H locs ls hS hV hL (okt hk))
  · cases hs
theorem gi_tableswitch {l : Launch} {X : XT} {d : Nat} {md : MD} {pc len a b c' : Nat} {x0 : Int32} {lg : Int64} {ks : List (Int32 × Nat)} {L : List (Option AV)} {st : List AV} {M M' : Mem} {v : Option AV} {S' : St} {df lo hi : Int} {offs : Array Int} (hdc : decode md.2.2.1 pc = .ok (.tableswitch df lo hi offs, len)) (hx : okX md.1 md.2.2.2.1 md.2.2.2.2.2.1 pc (.tableswitch df lo hi offs) len a b c' x0 lg ks = true) (hs : exI md.2.2.2.2.1 (.tableswitch df lo hi offs) len a b c' x0 lg ks pc L st M = some (.inl S')) (hd : 1 ≤ d) (hG : Good l X d md S' v M') : Good l X d md (pc, L, st, M) v M' := by
  simp only [okX, Bool.and_eq_true, decide_eq_true_eq] at hx
  obtain ⟨⟨⟨⟨hdf, hlo⟩, hhi⟩, hsm⟩, hts⟩ := hx
  subst hlo
  simp only [exI, nx] at hs
  split at hs
  · rename_i x r
    cases hs
    by_cases h1 : x.toInt < 0 ∨ hi < x.toInt
    · have e : swT x ks a = a := ts_out _ _ 0 hts (fun j _ hj e => by
        rw [e, nI_toInt (by omega)] at h1
        omega)
      rw [e] at hG
      refine G_of rfl hG (fun p e R s m args below meth c Q H locs cells slots ls hP hS hV hL hk K => ?_)
      exact lv_tableOut hP.1 hP.2.1 hdc h1 hdf (K H locs ls hS hV hL (okt hk))
    · obtain ⟨j, hj, ee⟩ : ∃ j : Nat, j < ks.length ∧ x = nI j := by
        obtain ⟨j, h2, h3⟩ := nI_of (x := x) (fun z => h1 (Or.inl (by simpa using Int32.lt_iff_toInt_lt.mp z)))
        refine ⟨j, ?_, h3⟩
        rw [h3, nI_toInt h2] at h1
        omega
      obtain ⟨o, f1, f2⟩ := ts_in (x := x) (a := a) _ _ 0 j hts (Nat.zero_le _) (by omega) (by omega) ee
      refine G_of rfl hG (fun p e R s m args below meth c Q H locs cells slots ls hP hS hV hL hk K => ?_)
      refine lv_tableIn hP.1 hP.2.1 hdc (fun z => h1 (Or.inl z)) (fun z => h1 (Or.inr z)) ?_ f2 (K H locs ls hS hV hL (okt hk))
      rw [← Array.getElem?_toList, ← f1]
      congr 1
      rw [ee, nI_toInt (by omega)]
      omega
  · cases hs
