/-! the step as a whole; returns; calls -/
theorem G_ins {l : Launch} {X : XT} {d : Nat} {md : MD} {pc len a b c' : Nat} {x0 : Int32} {lg : Int64} {ks : List (Int32 × Nat)} {L : List (Option AV)} {st : List AV} {M M' : Mem} {v : Option AV} {S' : St} {ins : Instr} (hdc : decode md.2.2.1 pc = .ok (ins, len)) (hx : okX md.1 md.2.2.2.1 md.2.2.2.2.2.1 pc ins len a b c' x0 lg ks = true) (hs : exI md.2.2.2.2.1 ins len a b c' x0 lg ks pc L st M = some (.inl S')) (hd : 1 ≤ d) (hG : Good l X d md S' v M') : Good l X d md (pc, L, st, M) v M' := by
  cases ins with
  | iconst n => exact gi_iconst hdc hx hs hd hG
  | bipush n => exact gi_bipush hdc hx hs hd hG
  | sipush n => exact gi_sipush hdc hx hs hd hG
  | ldc n => exact gi_ldc hdc hx hs hd hG
  | ldc_w n => exact gi_ldc_w hdc hx hs hd hG
  | ldc2_w n => exact gi_ldc2_w hdc hx hs hd hG
  | iload_n n => exact gi_iload_n hdc hx hs hd hG
  | aload_n n => exact gi_aload_n hdc hx hs hd hG
  | lload_n n => exact gi_lload_n hdc hx hs hd hG
  | iload n => exact gi_iload hdc hx hs hd hG
  | istore_n n => exact gi_istore_n hdc hx hs hd hG
  | istore n => exact gi_istore hdc hx hs hd hG
  | astore_n n => exact gi_astore_n hdc hx hs hd hG
  | lstore_n n => exact gi_lstore_n hdc hx hs hd hG
  | iinc n k => exact gi_iinc hdc hx hs hd hG
  | iadd => exact gi_iadd hdc hx hs hd hG
  | isub => exact gi_isub hdc hx hs hd hG
  | imul => exact gi_imul hdc hx hs hd hG
  | iand => exact gi_iand hdc hx hs hd hG
  | ior => exact gi_ior hdc hx hs hd hG
  | ixor => exact gi_ixor hdc hx hs hd hG
  | ishl => exact gi_ishl hdc hx hs hd hG
  | ishr => exact gi_ishr hdc hx hs hd hG
  | iushr => exact gi_iushr hdc hx hs hd hG
  | ladd => exact gi_ladd hdc hx hs hd hG
  | lmul => exact gi_lmul hdc hx hs hd hG
  | idiv => exact gi_idiv hdc hx hs hd hG
  | irem => exact gi_irem hdc hx hs hd hG
  | ldiv => exact gi_ldiv hdc hx hs hd hG
  | lrem => exact gi_lrem hdc hx hs hd hG
  | i2l => exact gi_i2l hdc hx hs hd hG
  | l2i => exact gi_l2i hdc hx hs hd hG
  | dup => exact gi_dup hdc hx hs hd hG
  | dup2 => exact gi_dup2 hdc hx hs hd hG
  | goto n => exact gi_goto hdc hx hs hd hG
  | lookupswitch n k => exact gi_lookupswitch hdc hx hs hd hG
  | tableswitch n k j q => exact gi_tableswitch hdc hx hs hd hG
  | getfield n => exact gi_getfield hdc hx hs hd hG
  | putfield n => exact gi_putfield hdc hx hs hd hG
  | iaload => exact gi_iaload hdc hx hs hd hG
  | iastore => exact gi_iastore hdc hx hs hd hG
  | aaload => exact gi_aaload hdc hx hs hd hG
  | aastore => exact gi_aastore hdc hx hs hd hG
  | arraylength => exact gi_arraylength hdc hx hs hd hG
  | invokespecial n => exact gi_invokespecial hdc hx hs hd hG
  | invokestatic n => exact gi_invokestatic hdc hx hs hd hG
  | new n => exact gi_new hdc hx hs hd hG
  | newarray n => exact gi_newarray hdc hx hs hd hG
  | anewarray n => exact gi_anewarray hdc hx hs hd hG
  | if_icmp op off =>
    cases op with
    | eq => exact gi_icmp_eq hdc hx hs hd hG
    | ne => exact gi_icmp_ne hdc hx hs hd hG
    | lt => exact gi_icmp_lt hdc hx hs hd hG
    | ge => exact gi_icmp_ge hdc hx hs hd hG
    | gt => exact gi_icmp_gt hdc hx hs hd hG
    | le => exact gi_icmp_le hdc hx hs hd hG
  | ifCond op off =>
    cases op with
    | eq => exact gi_if_eq hdc hx hs hd hG
    | ne => exact gi_if_ne hdc hx hs hd hG
    | lt => exact gi_if_lt hdc hx hs hd hG
    | ge => exact gi_if_ge hdc hx hs hd hG
    | gt => exact gi_if_gt hdc hx hs hd hG
    | le => exact gi_if_le hdc hx hs hd hG
  | invokevirtual n =>
    simp only [exI] at hs
    split at hs
    · rename_i ci i r hq
      cases hb : (ci.beq c' && r.length.ble 4) with
      | true => rw [hb] at hs; cases hs
      | false => rw [hb] at hs; cases hs
    · cases hs
  | ireturn =>
    simp only [exI] at hs
    split at hs
    · split at hs
      · cases hs
      · split at hs <;> cases hs
      · cases hs
    · cases hs
  | return_ =>
    simp only [exI] at hs
    split at hs
    · split at hs <;> cases hs
    · cases hs
  | _ => first | cases hs | (simp only [exI] at hs; cases hs)
theorem st_row {mi : Nat} {pc : Nat} {L : List (Option AV)} {st : List AV} {M : Mem} {r : St ⊕ ((Nat × List AV × St) ⊕ (Option AV × Mem))} (hs : stI (mdOf mi) (pc, L, st, M) = some r) : ∃ (ins : Instr) (len a b c : Nat) (x : Int32) (z : Int64) (ks : List (Int32 × Nat)), decode (mdOf mi).2.2.1 pc = .ok (ins, len) ∧ okX (mdOf mi).1 (mdOf mi).2.2.2.1 (mdOf mi).2.2.2.2.2.1 pc ins len a b c x z ks = true ∧ exI (mdOf mi).2.2.2.2.1 ins len a b c x z ks pc L st M = some r := by
  unfold stI at hs
  cases hr : cRow (mdOf mi).2.2.2.2.2.2 pc with
  | none =>
    have hr : cRow (mdOf mi).2.2.2.2.2.2 (pc, L, st, M).1 = none := hr
    rw [hr] at hs; cases hs
  | some q =>
    have hok := row_ok hr
    have hr : cRow (mdOf mi).2.2.2.2.2.2 (pc, L, st, M).1 = some q := hr
    rw [hr] at hs
    obtain ⟨ins, len, a, b, c, x, z, ks⟩ := q
    simp only [okR, Bool.and_eq_true] at hok
    exact ⟨ins, len, a, b, c, x, z, ks, dcOK_spec hok.1, hok.2, hs⟩
theorem G_next {l : Launch} {X : XT} {d mi : Nat} {S S' : St} {v : Option AV} {M' : Mem} (hd : 1 ≤ d) (hs : stI (mdOf mi) S = some (.inl S')) (hG : Good l X d (mdOf mi) S' v M') : Good l X d (mdOf mi) S v M' := by
  obtain ⟨pc, L, st, M⟩ := S
  obtain ⟨ins, len, a, b, c, x, z, ks, hdc, hx, hs⟩ := st_row hs
  exact G_ins hdc hx hs hd hG
def isRet : Instr → Bool
  | .ireturn => true
  | .return_ => true
  | _ => false
theorem not_ret {ret : Option FieldType} {ins : Instr} {len a b c : Nat} {x : Int32} {z : Int64} {ks : List (Int32 × Nat)} {pc : Nat} {L : List (Option AV)} {st : List AV} {M : Mem} {q : Option AV × Mem} (h : isRet ins = false) : ¬ exI ret ins len a b c x z ks pc L st M = some (.inr (.inr q)) := by
  intro hs
  cases ins with
  | ireturn => cases h
  | return_ => cases h
  | if_icmp op off =>
    simp only [exI, cmpI, nx] at hs
    split at hs
    · cases op <;> (simp only at hs; split at hs <;> cases hs)
    · cases hs
  | ifCond op off =>
    simp only [exI, cmpI, nx] at hs
    split at hs
    · cases op <;> (simp only at hs; split at hs <;> cases hs)
    · cases hs
  | getfield n =>
    simp only [exI, nx] at hs
    split at hs
    · rename_i ci i r
      cases hb : ci.beq a with
      | true =>
        rw [hb] at hs
        simp only [cond_true] at hs
        split at hs <;> cases hs
      | false => rw [hb] at hs; cases hs
    · cases hs
  | putfield n =>
    simp only [exI, nx] at hs
    split at hs
    · rename_i y ci i r
      cases hb : ci.beq a with
      | true =>
        rw [hb] at hs
        simp only [cond_true, exP, nx] at hs
        (repeat' split at hs) <;> cases hs
      | false => rw [hb] at hs; cases hs
    · cases hs
  | iaload =>
    simp only [exI, nx] at hs
    split at hs
    · rename_i j ci i o r
      cases hb : isIA ci o with
      | true => rw [hb] at hs; simp only [cond_true] at hs; split at hs <;> cases hs
      | false => rw [hb] at hs; cases hs
    · cases hs
  | iastore =>
    simp only [exI, nx] at hs
    split at hs
    · rename_i y j ci i o r
      cases hb : isIA ci (o + 1) with
      | true => rw [hb] at hs; simp only [cond_true] at hs; split at hs <;> cases hs
      | false => rw [hb] at hs; cases hs
    · cases hs
  | aaload =>
    simp only [exI, nx] at hs
    split at hs
    · rename_i j ci i o r
      cases hb : isRA ci (o + 1) with
      | true =>
        rw [hb] at hs
        simp only [cond_true] at hs
        split at hs
        · cases hs
        · cases hf : M.2.1 ci i (1000 + j.toNatClampNeg) <;> rw [hf] at hs <;> cases hs
      | false => rw [hb] at hs; cases hs
    · cases hs
  | aastore =>
    simp only [exI, nx] at hs
    split at hs
    · rename_i y j ci i o r
      cases hb : isRA ci (o + 1) with
      | true => rw [hb] at hs; simp only [cond_true] at hs; split at hs <;> cases hs
      | false => rw [hb] at hs; cases hs
    · cases hs
  | dup =>
    simp only [exI, nx] at hs
    split at hs
    · rename_i y r
      cases hb : isL y <;> rw [hb] at hs <;> cases hs
    · cases hs
  | dup2 =>
    simp only [exI, nx] at hs
    split at hs
    · rename_i y y2 r
      cases hb : (isL y || isL y2) <;> rw [hb] at hs <;> cases hs
    · cases hs
  | new n =>
    simp only [exI, nx] at hs
    split at hs
    · rename_i ci i ho
      cases hb : ci.beq a <;> rw [hb] at hs <;> cases hs
    · cases hs
  | invokevirtual n =>
    simp only [exI] at hs
    split at hs
    · rename_i ci i r hq
      cases hb : (ci.beq c && r.length.ble 4) <;> rw [hb] at hs <;> cases hs
    · cases hs
  | invokespecial n =>
    simp only [exI, nx] at hs
    split at hs
    · split at hs
      · rename_i y r
        cases hb : r.length.ble 4 <;> rw [hb] at hs <;> cases hs
      · cases hs
    · split at hs
      · rename_i i r hq
        cases hb : r.length.ble 4 <;> rw [hb] at hs <;> cases hs
      · cases hs
  | invokestatic n =>
    simp only [exI, nx] at hs
    split at hs
    · split at hs
      · rename_i k dp c1 i1 o1 sp c0 i0 o0 r
        cases hb : (isIA c1 (o1 + 1) && isIA c0 (o0 + 1) && r.length.ble 4) with
        | true => rw [hb] at hs; simp only [cond_true] at hs; split at hs <;> cases hs
        | false => rw [hb] at hs; cases hs
      · cases hs
    · cases hb : ((st.drop b).length.ble 4 && b.ble st.length) <;> rw [hb] at hs <;> cases hs
  | _ => first | cases hs | (simp only [exI, bin, binL, nx] at hs; (repeat' split at hs) <;> cases hs)
theorem G_ret {l : Launch} {X : XT} {d mi : Nat} {S : St} {v : Option AV} {M' : Mem} (hs : stI (mdOf mi) S = some (.inr (.inr (v, M')))) : Good l X d (mdOf mi) S v M' := by
  obtain ⟨pc, L, st, M⟩ := S
  obtain ⟨ins, len, a, b, c, x, z, ks, hdc, hx, hs⟩ := st_row hs
  have key : M' = M ∧ (v = none ∨ ∃ z : Int32, v = some (.inl z)) ∧ st = v.toList ∧ RT (mdOf mi) pc v := by
    cases ins with
    | ireturn =>
      simp only [okX, decide_eq_true_eq] at hx
      subst hx
      simp only [exI] at hs
      split at hs
      · split at hs
        · rename_i e
          cases hs
          exact ⟨rfl, Or.inr ⟨_, rfl⟩, rfl, Or.inl ⟨hdc, _, _, rfl, e, rfl⟩⟩
        · rename_i e
          split at hs
          · rename_i hz
            cases hs
            exact ⟨rfl, Or.inr ⟨_, rfl⟩, rfl, Or.inl ⟨hdc, _, _, rfl, e, (bool_nar hz).1⟩⟩
          · cases hs
        · cases hs
      · cases hs
    | return_ =>
      simp only [okX, decide_eq_true_eq] at hx
      subst hx
      simp only [exI] at hs
      split at hs
      · split at hs
        · rename_i e
          cases hs
          exact ⟨rfl, Or.inl rfl, rfl, Or.inr ⟨hdc, rfl, e⟩⟩
        · cases hs
      · cases hs
    | _ => exact absurd hs (not_ret (by rfl))
  obtain ⟨rfl, gv, hst, hrt⟩ := key
  refine ⟨Nat.le_refl _, gv, fun p e R s m args below meth c Q H locs cells slots ls hP hz hc hs hS hV hL hk hR => ?_⟩
  have hR : KR l X (mdOf mi) v M' p e R s m args below meth c Q (cells + (M'.1 - M'.1)) (slots + (sl M'.1 - sl M'.1)) := hR
  rw [Nat.sub_self, Nat.sub_self] at hR
  have := hR H locs pc ls hS hV hrt
  show W p l e R s m args below meth c H locs cells slots Q (F0 m pc ls (st.map (tv X)))
  rw [hst]
  exact this
