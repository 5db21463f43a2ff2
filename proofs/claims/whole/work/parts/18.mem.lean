/-! instructions that read and write memory -/
def isRefTy : FieldType → Bool
  | .object _ => true
  | .array _ => true
  | _ => false
theorem ref_nar {ty : FieldType} (h : isRefTy ty = true) (q : Nat) : narrow ty (.ref q) = .ref q ∧ fits ty (.ref q) = true := by
  cases ty <;> first | exact ⟨rfl, rfl⟩ | cases h
theorem bool_nar {x : Int32} (h : x = 0 ∨ x = 1) : narrow .boolean (.int x) = .int x ∧ fits .boolean (.int x) = true := by
  rcases h with rfl | rfl
  · exact ⟨by decide, by decide⟩
  · exact ⟨by decide, by decide⟩
theorem int_nar (x : Int32) : narrow .int (.int x) = .int x ∧ fits .int (.int x) = true := ⟨rfl, rfl⟩
theorem fk_ty0 : ∀ c, c < 10 → ∀ k, k < 32 → k < nF c → fk c k = 0 → tyN c k = .int := by decide +kernel
theorem fk_ty1 : ∀ c, c < 10 → ∀ k, k < 32 → k < nF c → fk c k = 1 → tyN c k = .boolean := by decide +kernel
theorem fk_ty2 : ∀ c, c < 10 → ∀ k, k < 32 → k < nF c → 2 ≤ fk c k → isRefTy (tyN c k) = true := by decide +kernel
theorem nF_32 : ∀ c, c < 10 → nF c ≤ 32 := by decide +kernel
theorem tb_dec : ∀ c, c < 10 → ∀ k, k < nF c → (tN c k).1 = rN c := by
  intro c hc
  match c, hc with
  | 0, _ => exact fun k _ => by show (TX0 k).1 = RX0; unfold TX0; split <;> rfl
  | 1, _ => exact fun k _ => by show (TX1 k).1 = RX1; unfold TX1; split <;> rfl
  | 2, _ => exact fun k _ => by show (TX2 k).1 = RX2; unfold TX2; split <;> rfl
  | 3, _ => exact fun k _ => by show (TX3 k).1 = RX3; unfold TX3; split <;> rfl
  | 4, _ => exact fun k _ => by show (TX4 k).1 = RX4; unfold TX4; split <;> rfl
  | 5, _ => exact fun k _ => by show (TX5 k).1 = RX5; unfold TX5; split <;> rfl
  | 6, _ => exact fun k _ => by show (TX6 k).1 = RX6; unfold TX6; split <;> rfl
  | 7, _ => exact fun k _ => by show (TX7 k).1 = RX7; unfold TX7; split <;> rfl
  | 8, _ => exact fun k _ => by show (TX8 k).1 = RX8; unfold TX8; split <;> rfl
  | 9, _ => exact fun k _ => by show (TX9 k).1 = RX9; unfold TX9; split <;> rfl
  | n + 10, h => omega
theorem tb_FLk {q : Nat × Nat × Nat × Nat} (h : q ∈ FLt) : q.2.2.2 < nF q.2.2.1 ∧ q.2.2.1 < 10 := by
  have := List.all_eq_true.mp tb_FL1 q h
  simpa using this
theorem aR_eq {X : XT} {a : AA} (h : a.1 < 10) : aR X a = xB X + sq a := by
  unfold aR
  have : a.1.beq 13 = false := by
    cases hb : a.1.beq 13 with
    | true => have := Nat.eq_of_beq_eq_true hb; omega
    | false => rfl
  rw [this]; rfl
theorem okA_lt {n : Nat} {a : AA} (h : okA n a) (hc : a.1 ≠ 13) : a.1 < 10 ∧ sq a < n := by
  rcases h with e | e
  · rw [e] at hc; exact absurd rfl hc
  · exact e
theorem beq_eq {a b : Nat} (h : a.beq b = true) : a = b := Nat.eq_of_beq_eq_true h
theorem fv_at {X : XT} {M : Mem} {c i k : Nat} (hk : k < nF c) : ((List.range (nF c)).map (fv X M c i))[k]? = some (fv X M c i k) := by
  rw [List.getElem?_map, List.getElem?_range hk]; rfl
theorem fv_ex {X : XT} {M : Mem} {c i k : Nat} {x : AV} (hk : k < nF c) (ho : okF M c i 0) (h : exF M c i k = some x) : fv X M c i k = tv X x ∧ okV M.1 x := by
  unfold exF at h
  unfold fv
  split at h
  · rename_i e; rw [e]; cases h; exact ⟨rfl, trivial⟩
  · rename_i e; rw [e]; cases h; exact ⟨rfl, trivial⟩
  · rename_i z e
    rw [e]
    cases hf : M.2.1 c i k with
    | false => rw [hf] at h; cases h
    | true =>
      rw [hf] at h
      cases h
      have hb := ho.1 rfl k hk (by rw [e]; omega) hf
      refine ⟨?_, Or.inr hb⟩
      show Value.ref _ = Value.ref _
      rw [aR_eq hb.1]
theorem gi_getfield {l : Launch} {X : XT} {d : Nat} {md : MD} {pc len a b c' : Nat} {x0 : Int32} {lg : Int64} {ks : List (Int32 × Nat)} {L : List (Option AV)} {st : List AV} {M M' : Mem} {v : Option AV} {S' : St} {n : Nat} (hdc : decode md.2.2.1 pc = .ok (.getfield n, len)) (hx : okX md.1 md.2.2.2.1 md.2.2.2.2.2.1 pc (.getfield n) len a b c' x0 lg ks = true) (hs : exI md.2.2.2.2.1 (.getfield n) len a b c' x0 lg ks pc L st M = some (.inl S')) (hd : 1 ≤ d) (hG : Good l X d md S' v M') : Good l X d md (pc, L, st, M) v M' := by
  simp only [okX, Bool.and_eq_true, decide_eq_true_eq] at hx
  obtain ⟨rfl, hm⟩ := hx
  obtain ⟨hbn, ha10⟩ := tb_FLk hm
  have hbn : b < nF a := hbn
  have ha10 : a < 10 := ha10
  simp only [exI, nx] at hs
  split at hs
  · rename_i ci i r
    cases hb : ci.beq a with
    | false => rw [hb] at hs; cases hs
    | true =>
      rw [hb] at hs
      have e := beq_eq hb
      subst e
      cases hf : exF M ci i b with
      | none => rw [hf] at hs; cases hs
      | some x =>
        rw [hf] at hs
        cases hs
        refine G_of rfl hG (fun p e R s m args below meth c Q H locs cells slots ls hP hS hV hL hk K => ?_)
        have ho := okA_lt (hk _ List.mem_cons_self) (show ci ≠ 13 by omega)
        obtain ⟨e1, e2⟩ := fv_ex (X := X) hbn (hS.2.2.1 ci i 0 ho.2) hf
        show W p l e R s m args below meth c H locs cells slots Q (F0 m pc ls (.ref (aR X (ci, i, 0)) :: r.map (tv X)))
        rw [aR_eq ho.1]
        refine va_get (D := xD X) (ws := wld X M) (ref := rN ci) (C := rN ci) (T := tN ci) (N := nF ci) (ci := ci) hP.1 hP.2.1 hP.2.2.2.2.1 (tb_gin ha10) hP.2.2.2.1 hP.2.2.2.2.2.1 hS.2.1 (sq (ci, i, 0)) (wld_at ho.2 hS.1) (tb_cl ci ha10) b hbn (hP.2.2.2.2.1 _ (gT_in (pick_of tb_FL0 _ hm) rfl)) (fun x h => by rw [tb_dec ci ha10 b hbn] at h; exact h) (fv_at hbn) hdc ?_
        rw [e1]
        exact K H locs ls hS hV hL (ok1 e2 (okt hk))
  · cases hs
theorem put_gen {l : Launch} {X : XT} {d : Nat} {md : MD} {pc a b i n : Nat} {M M1 : Mem} {y : Value} {rest : List Value} {p : Program} {e : Env} {R : Room} {s : State} {m : MethodId} {args : Array Value} {below : List Frame} {meth : Method} {c : Code} {Q : State → Prop} {H : Heap} {locs : List Loc} {cells slots : Nat} {ls : Array Slot} (hP : PR X d md p R s m args meth c) (hS : Sim X M H) (hV : va_S (xA X) s.heap H locs) (ha10 : a < 10) (hbn : b < nF a) (ha : sq (a, i, 0) < M.1) (hm : (md.1, n, a, b) ∈ FLt) (hfin : (!(tN a b).2.2.2 || (md.2.2.2.2.2.1 && decide (md.1 = a))) = true) (hn : M1.1 = M.1) (hL : M1.2.2.1 = M.2.2.1)
    (hsm : ∀ c' i' o', (c', i', o') ≠ (a, i, 0) → smC M M1 c' i' o') (hok : okF M1 a i 0) (h1 : fv X M1 a i b = y) (h2 : ∀ k, k < nF a → k ≠ b → fv X M1 a i k = fv X M a i k) (hty : narrow (tyN a b) y = y ∧ fits (tyN a b) y = true) (hdc : decode md.2.2.1 pc = .ok (.putfield n, 3))
    (K : ∀ (H' : Heap) (locs' : List Loc), Sim X M1 H' → va_S (xA X) s.heap H' locs' → W p l e R s m args below meth c H' locs' cells slots Q (F0 m (pc + 3) ls rest)) : W p l e R s m args below meth c H locs cells slots Q (F0 m pc ls (y :: .ref (xB X + sq (a, i, 0)) :: rest)) := by
  have hset : ((List.range (nF a)).map (fv X M a i)).set b y = (List.range (nF a)).map (fv X M1 a i) := by
    apply List.ext_getElem?
    intro k
    by_cases hk : k < nF a
    · rw [fv_at hk]
      by_cases e : k = b
      · subst e
        rw [List.getElem?_set_self (by simpa using hk), h1]
      · rw [List.getElem?_set_ne (Ne.symm e), fv_at hk, h2 k hk e]
    · rw [List.getElem?_eq_none (by simpa using Nat.le_of_not_lt hk), List.getElem?_eq_none (by simpa using Nat.le_of_not_lt hk)]
  have hdone : ∀ (H1 : Heap), va_P (xD X) vwCl ((wld X M).set (sq (a, i, 0)) (xB X + sq (a, i, 0), .inr (a, ((List.range (nF a)).map (fv X M a i)).set b y))) H1 → Sim X M1 H1 := by
    intro H1 hp
    rw [hset] at hp
    exact sim_set hS hn hL ha (by omega) hsm hok hp
  have hl : b < ((List.range (nF a)).map (fv X M a i)).length := by simpa using hbn
  cases hf : (tN a b).2.2.2 with
  | false =>
    exact va_put (D := xD X) (ws := wld X M) (ref := rN a) (C := rN a) (T := tN a) (N := nF a) (ci := a) hP.1 hP.2.1 hP.2.2.2.2.1 (tb_gin ha10) (tyN a) (tb_ty a ha10) (tb_nm a ha10) hP.2.2.2.1 hP.2.2.2.2.2.1 hS.2.1 (wld_D X M) hV (sq (a, i, 0)) (wld_at ha hS.1) (tb_cl a ha10) b hbn (hP.2.2.2.2.1 _ (gT_in (pick_of tb_FL0 _ hm) rfl)) (fun x h => by rw [tb_dec a ha10 b hbn] at h; exact h) hf (tb_ty a ha10 b hbn) hty.1 hty.2 hl hdc (fun H1 locs1 p1 _ v1 => K H1 locs1 (hdone H1 p1) v1)
  | true =>
    rw [hf] at hfin
    simp only [Bool.not_true, Bool.false_or, Bool.and_eq_true, decide_eq_true_eq] at hfin
    exact va_putF (D := xD X) (ws := wld X M) (ref := rN a) (C := rN a) (T := tN a) (N := nF a) (ci := a) hP.1 hP.2.1 hP.2.2.2.2.1 (tb_gin ha10) (tyN a) (tb_ty a ha10) (tb_nm a ha10) hP.2.2.2.1 hP.2.2.2.2.2.1 hS.2.1 (wld_D X M) hV (sq (a, i, 0)) (wld_at ha hS.1) (tb_cl a ha10) b hbn (hP.2.2.2.2.1 _ (gT_in (pick_of tb_FL0 _ hm) rfl)) (fun x h => by rw [tb_dec a ha10 b hbn] at h; exact h) hf (hP.2.2.2.2.2.2.1 hfin.1) (by rw [tb_dec a ha10 b hbn, hfin.2]) (tb_ty a ha10 b hbn) hty.1 hty.2 hl hdc (fun H1 locs1 p1 _ v1 => K H1 locs1 (hdone H1 p1) v1)
theorem tg_u4 {w : Nat → Nat → Nat → Nat → Int32} {c i b : Nat} {x : Int32} (h : fk c b ≠ 5) (k : Nat) : tg (u4 w c i 0 b x) c i k = tg w c i k := by
  unfold tg
  split
  · rfl
  · rename_i e
    have : k ≠ b := fun z => h (by rw [← z]; exact e)
    simp [u4, this]
  · rfl
theorem u4_self (w : Nat → Nat → Nat → Nat → Int32) (c i o k : Nat) (x : Int32) : u4 w c i o k x c i o k = x := by simp [u4]
theorem u4_k {w : Nat → Nat → Nat → Nat → Int32} {c i o k k' : Nat} {x : Int32} (h : k' ≠ k) : u4 w c i o k x c i o k' = w c i o k' := by simp [u4, h]
theorem sm_u4 {n : Nat} {fl : Nat → Nat → Nat → Bool} {Lz : Nat} {w : Nat → Nat → Nat → Nat → Int32} {c i o k : Nat} {x : Int32} : ∀ c' i' o', (c', i', o') ≠ (c, i, o) → smC (n, fl, Lz, w) (n, fl, Lz, u4 w c i o k x) c' i' o' := fun _ _ _ h => ⟨fun j => u4_ne h j, fun _ _ _ => rfl, fun _ _ => rfl⟩
theorem gi_putfield {l : Launch} {X : XT} {d : Nat} {md : MD} {pc len a b c' : Nat} {x0 : Int32} {lg : Int64} {ks : List (Int32 × Nat)} {L : List (Option AV)} {st : List AV} {M M' : Mem} {v : Option AV} {S' : St} {n : Nat} (hdc : decode md.2.2.1 pc = .ok (.putfield n, len)) (hx : okX md.1 md.2.2.2.1 md.2.2.2.2.2.1 pc (.putfield n) len a b c' x0 lg ks = true) (hs : exI md.2.2.2.2.1 (.putfield n) len a b c' x0 lg ks pc L st M = some (.inl S')) (hd : 1 ≤ d) (hG : Good l X d md S' v M') : Good l X d md (pc, L, st, M) v M' := by
  simp only [okX, Bool.and_eq_true, decide_eq_true_eq] at hx
  obtain ⟨⟨rfl, hm⟩, hfin⟩ := hx
  obtain ⟨hbn, ha10⟩ := tb_FLk hm
  have hbn : b < nF a := hbn
  have ha10 : a < 10 := ha10
  have hb32 : b < 32 := Nat.lt_of_lt_of_le hbn (nF_32 a ha10)
  obtain ⟨mn, mf, ml, mw⟩ := M
  simp only [exI, nx] at hs
  split at hs
  · rename_i x ci i r
    cases hb : ci.beq a with
    | false => rw [hb] at hs; cases hs
    | true =>
      rw [hb] at hs
      have e := beq_eq hb
      subst e
      simp only [cond_true, exP, nx] at hs
      split at hs
      · rename_i h0
        split at hs
        · rename_i z
          cases hs
          refine G_of (M1 := (mn, mf, ml, u4 mw ci i 0 b z)) rfl hG (fun p e R s m args below meth c Q H locs cells slots ls hP hS hV hL hk K => ?_)
          have ho := okA_lt (hk _ (List.mem_cons_of_mem _ List.mem_cons_self)) (show ci ≠ 13 by omega)
          show W p l e R s m args below meth c H locs cells slots Q (F0 m pc ls (.int z :: .ref (aR X (ci, i, 0)) :: r.map (tv X)))
          rw [aR_eq ho.1]
          refine put_gen (M1 := (mn, mf, ml, u4 mw ci i 0 b z)) hP hS hV ha10 hbn ho.2 hm hfin rfl rfl sm_u4 ?_ ?_ ?_ ?_ hdc (fun H' locs' s1 v1 => K H' locs' ls s1 v1 hL (okt (okt hk)))
          · have hb := hS.2.2.1 ci i 0 ho.2
            refine ⟨fun _ k k1 k2 k3 => ?_, fun q => (by cases q)⟩
            show (tg (u4 mw ci i 0 b z) ci i k).1 < 10 ∧ _
            rw [show tg (mn, mf, ml, u4 mw ci i 0 b z).2.2.2 ci i k = tg mw ci i k from tg_u4 (by omega) k]
            exact hb.1 rfl k k1 k2 k3
          · show fv X (mn, mf, ml, u4 mw ci i 0 b z) ci i b = _
            unfold fv
            rw [h0]
            show Value.int (u4 mw ci i 0 b z ci i 0 b) = _
            rw [u4_self]
          · intro k _ hkb
            unfold fv
            show (match fk ci k with | 0 => Value.int (u4 mw ci i 0 b z ci i 0 k) | 1 => Value.int (u4 mw ci i 0 b z ci i 0 k) | _ + 2 => bif mf ci i k then .ref (xB X + sq (tg (u4 mw ci i 0 b z) ci i k)) else .null) = _
            rw [u4_k hkb, tg_u4 (by omega)]
            rfl
          · rw [fk_ty0 ci ha10 b hb32 hbn h0]; exact int_nar z
        · cases hs
      · rename_i h0
        split at hs
        · rename_i z
          split at hs
          · rename_i hz
            cases hs
            refine G_of (M1 := (mn, mf, ml, u4 mw ci i 0 b z)) rfl hG (fun p e R s m args below meth c Q H locs cells slots ls hP hS hV hL hk K => ?_)
            have ho := okA_lt (hk _ (List.mem_cons_of_mem _ List.mem_cons_self)) (show ci ≠ 13 by omega)
            show W p l e R s m args below meth c H locs cells slots Q (F0 m pc ls (.int z :: .ref (aR X (ci, i, 0)) :: r.map (tv X)))
            rw [aR_eq ho.1]
            refine put_gen (M1 := (mn, mf, ml, u4 mw ci i 0 b z)) hP hS hV ha10 hbn ho.2 hm hfin rfl rfl sm_u4 ?_ ?_ ?_ ?_ hdc (fun H' locs' s1 v1 => K H' locs' ls s1 v1 hL (okt (okt hk)))
            · have hb := hS.2.2.1 ci i 0 ho.2
              refine ⟨fun _ k k1 k2 k3 => ?_, fun q => (by cases q)⟩
              show (tg (u4 mw ci i 0 b z) ci i k).1 < 10 ∧ _
              rw [show tg (mn, mf, ml, u4 mw ci i 0 b z).2.2.2 ci i k = tg mw ci i k from tg_u4 (by omega) k]
              exact hb.1 rfl k k1 k2 k3
            · show fv X (mn, mf, ml, u4 mw ci i 0 b z) ci i b = _
              unfold fv
              rw [h0]
              show Value.int (u4 mw ci i 0 b z ci i 0 b) = _
              rw [u4_self]
            · intro k _ hkb
              unfold fv
              show (match fk ci k with | 0 => Value.int (u4 mw ci i 0 b z ci i 0 k) | 1 => Value.int (u4 mw ci i 0 b z ci i 0 k) | _ + 2 => bif mf ci i k then .ref (xB X + sq (tg (u4 mw ci i 0 b z) ci i k)) else .null) = _
              rw [u4_k hkb, tg_u4 (by omega)]
              rfl
            · rw [fk_ty1 ci ha10 b hb32 hbn h0]; exact bool_nar hz
          · cases hs
        · cases hs
      · rename_i h0
        split at hs
        · rename_i j
          split at hs
          · rename_i hz
            cases hs
            refine G_of (M1 := (mn, uf mf ci i b, ml, u4 mw ci i 0 b (Int32.ofNat j))) rfl hG (fun p e R s m args below meth c Q H locs cells slots ls hP hS hV hL hk K => ?_)
            have ho := okA_lt (hk _ (List.mem_cons_of_mem _ List.mem_cons_self)) (show ci ≠ 13 by omega)
            have hj := okA_lt (hk _ List.mem_cons_self) (show (4 : Nat) ≠ 13 by decide)
            have htg : tg (u4 mw ci i 0 b (Int32.ofNat j)) ci i b = (4, j, 0) := by
              unfold tg
              rw [h0]
              show ((4, (u4 mw ci i 0 b (Int32.ofNat j) ci i 0 b).toNatClampNeg, 0) : AA) = _
              rw [u4_self, show (Int32.ofNat j).toNatClampNeg = j from nI_clamp (by omega)]
            have htk : ∀ k, k ≠ b → tg (u4 mw ci i 0 b (Int32.ofNat j)) ci i k = tg mw ci i k := by
              intro k hkb
              unfold tg
              split
              · rfl
              · rw [u4_k hkb]
              · rfl
            show W p l e R s m args below meth c H locs cells slots Q (F0 m pc ls (.ref (aR X (4, j, 0)) :: .ref (aR X (ci, i, 0)) :: r.map (tv X)))
            rw [aR_eq ho.1, aR_eq hj.1]
            refine put_gen (M1 := (mn, uf mf ci i b, ml, u4 mw ci i 0 b (Int32.ofNat j))) hP hS hV ha10 hbn ho.2 hm hfin rfl rfl ?_ ?_ ?_ ?_ ?_ hdc (fun H' locs' s1 v1 => K H' locs' ls s1 v1 hL (okt (okt hk)))
            · intro c1 i1 o1 hne
              refine ⟨fun k => u4_ne hne k, fun e k k1 => ?_, fun e k => ?_⟩
              · subst e
                exact uf_eq (fun q => hne (by rw [q.1, q.2.1]))
              · exact uf_eq (fun q => by omega)
            · have hb := hS.2.2.1 ci i 0 ho.2
              refine ⟨fun _ k k1 k2 k3 => ?_, fun q => (by cases q)⟩
              by_cases e : k = b
              · subst e
                show (tg (u4 mw ci i 0 k (Int32.ofNat j)) ci i k).1 < 10 ∧ _
                rw [show tg (mn, uf mf ci i k, ml, u4 mw ci i 0 k (Int32.ofNat j)).2.2.2 ci i k = (4, j, 0) from htg]
                exact hj
              · rw [show tg (mn, uf mf ci i b, ml, u4 mw ci i 0 b (Int32.ofNat j)).2.2.2 ci i k = tg mw ci i k from htk k e]
                exact hb.1 rfl k k1 k2 (by rw [← k3]; exact (uf_eq (fun q => e q.2.2)).symm)
            · show fv X (mn, uf mf ci i b, ml, u4 mw ci i 0 b (Int32.ofNat j)) ci i b = _
              unfold fv
              rw [h0]
              show (bif uf mf ci i b ci i b then Value.ref (xB X + sq (tg (u4 mw ci i 0 b (Int32.ofNat j)) ci i b)) else .null) = _
              rw [uf_self, htg]; rfl
            · intro k _ hkb
              unfold fv
              show (match fk ci k with | 0 => Value.int (u4 mw ci i 0 b (Int32.ofNat j) ci i 0 k) | 1 => Value.int (u4 mw ci i 0 b (Int32.ofNat j) ci i 0 k) | _ + 2 => bif uf mf ci i b ci i k then .ref (xB X + sq (tg (u4 mw ci i 0 b (Int32.ofNat j)) ci i k)) else .null) = _
              rw [u4_k hkb, htk k hkb, uf_eq (fun q => hkb q.2.2)]
              rfl
            · exact ref_nar (fk_ty2 ci ha10 b hb32 hbn (by omega)) _
          · cases hs
        · cases hs
      · rename_i h0 h1 h5
        split at hs
        · rename_i a1
          split at hs
          · rename_i hz
            cases hs
            have h2 : 2 ≤ fk ci b := by
              rcases Nat.lt_or_ge (fk ci b) 2 with q | q
              · rcases (by omega : fk ci b = 0 ∨ fk ci b = 1) with z | z
                · exact absurd z h0
                · exact absurd z h1
              · exact q
            refine G_of (M1 := (mn, uf mf ci i b, ml, mw)) rfl hG (fun p e R s m args below meth c Q H locs cells slots ls hP hS hV hL hk K => ?_)
            have ho := okA_lt (hk _ (List.mem_cons_of_mem _ List.mem_cons_self)) (show ci ≠ 13 by omega)
            have h13 : a1.1 ≠ 13 := by
              rw [hz]
              show (tg mw ci i b).1 ≠ 13
              unfold tg
              split
              · unfold og
                cases hq : ci.beq 2 with
                | true => exact (by decide : (6 : Nat) ≠ 13)
                | false => exact (by decide : ∀ k, k < 32 → (ogT.getD k (99, 0, 0)).1 ≠ 13) b hb32
              · exact (by decide : (4 : Nat) ≠ 13)
              · show ci ≠ 13
                omega
            have hj := okA_lt (hk _ List.mem_cons_self) h13
            show W p l e R s m args below meth c H locs cells slots Q (F0 m pc ls (.ref (aR X a1) :: .ref (aR X (ci, i, 0)) :: r.map (tv X)))
            rw [aR_eq ho.1, aR_eq hj.1]
            refine put_gen (M1 := (mn, uf mf ci i b, ml, mw)) hP hS hV ha10 hbn ho.2 hm hfin rfl rfl ?_ ?_ ?_ ?_ ?_ hdc (fun H' locs' s1 v1 => K H' locs' ls s1 v1 hL (okt (okt hk)))
            · intro c1 i1 o1 hne
              refine ⟨fun k => rfl, fun e k k1 => ?_, fun e k => ?_⟩
              · subst e
                exact uf_eq (fun q => hne (by rw [q.1, q.2.1]))
              · exact uf_eq (fun q => by omega)
            · have hb := hS.2.2.1 ci i 0 ho.2
              refine ⟨fun _ k k1 k2 k3 => ?_, fun q => (by cases q)⟩
              by_cases e : k = b
              · subst e
                show (tg mw ci i k).1 < 10 ∧ sq (tg mw ci i k) < mn
                rw [← show a1 = tg mw ci i k from hz]
                exact hj
              · exact hb.1 rfl k k1 k2 (by rw [← k3]; exact (uf_eq (fun q => e q.2.2)).symm)
            · show fv X (mn, uf mf ci i b, ml, mw) ci i b = _
              obtain ⟨z, hz2⟩ : ∃ z, fk ci b = z + 2 := ⟨fk ci b - 2, by omega⟩
              unfold fv
              rw [hz2]
              show (bif uf mf ci i b ci i b then Value.ref (xB X + sq (tg mw ci i b)) else .null) = _
              rw [uf_self, ← show a1 = tg mw ci i b from hz]; rfl
            · intro k _ hkb
              unfold fv
              show (match fk ci k with | 0 => Value.int (mw ci i 0 k) | 1 => Value.int (mw ci i 0 k) | _ + 2 => bif uf mf ci i b ci i k then .ref (xB X + sq (tg mw ci i k)) else .null) = _
              rw [uf_eq (fun q => hkb q.2.2)]
              rfl
            · exact ref_nar (fk_ty2 ci ha10 b hb32 hbn h2) _
          · cases hs
        · cases hs
  · cases hs
