/-! a small machine of our own, over the memory as it is laid out: ints and longs by value, addresses as triples -/
abbrev AV : Type := Int32 ⊕ (Int64 ⊕ AA)
/-- cells made so far; which references are set; the script's length; all ints, by address and place -/
abbrev Mem : Type := Nat × (Nat → Nat → Nat → Bool) × Nat × (Nat → Nat → Nat → Nat → Int32)
abbrev St : Type := Nat × List (Option AV) × List AV × Mem
abbrev Res : Type := Option (St ⊕ ((Nat × List AV × St) ⊕ (Option AV × Mem)))
def u4 (w : Nat → Nat → Nat → Nat → Int32) (c i o k : Nat) (v : Int32) : Nat → Nat → Nat → Nat → Int32 := fun c' i' o' k' => if c' = c ∧ i' = i ∧ o' = o ∧ k' = k then v else w c' i' o' k'
def uf (fl : Nat → Nat → Nat → Bool) (c i k : Nat) : Nat → Nat → Nat → Bool := fun c' i' k' => (c'.beq c && i'.beq i && k'.beq k) || fl c' i' k'
/-- a whole array is copied -/
def uc (w : Nat → Nat → Nat → Nat → Int32) (c i o : Nat) (f : Nat → Int32) : Nat → Nat → Nat → Nat → Int32 := fun c' i' o' k' => if c' = c ∧ i' = i ∧ o' = o then f k' else w c' i' o' k'
/-- which address a reference in a field is, if it is set -/
def tg (w : Nat → Nat → Nat → Nat → Int32) (c i k : Nat) : AA := match fk c k with
  | 4 => og c i k
  | 5 => (4, (w c i 0 k).toNatClampNeg, 0)
  | _ => (c, i, k + 1)
def aLen (L c o : Nat) : Nat := bif c.beq 13 then L else al c o
def isIA (c o : Nat) : Bool := match o with
  | 0 => c.beq 13
  | k + 1 => (fk c k).beq 2
def isRA (c o : Nat) : Bool := match o with
  | 0 => false
  | k + 1 => (fk c k).beq 3
def isL (v : AV) : Bool := match v with
  | .inr (.inl _) => true
  | _ => false
def swT (x : Int32) : List (Int32 × Nat) → Nat → Nat
  | [], d => d
  | q :: r, d => if x = q.1 then q.2 else swT x r d
def nx (S : St) : Res := some (.inl S)
/-- a value of one word is stored -/
def lS (ls : List (Option AV)) (i : Nat) (v : AV) : List (Option AV) := match i with
  | 0 => ls.set 0 (some v)
  | j + 1 => match ls[j]? with
    | some (some (.inr (.inl _))) => (ls.set j none).set (j + 1) (some v)
    | _ => ls.set (j + 1) (some v)
/-- a long is stored -/
def lSL (ls : List (Option AV)) (i : Nat) (v : AV) : List (Option AV) := (lS ls i v).set (i + 1) none
def brs (b : Bool) (t f : Nat) : Nat := match b with
  | true => t
  | false => f
def cRow (rws : List (List Row)) (pc : Nat) : Option (Instr × Nat × Nat × Nat × Nat × Int32 × Int64 × List (Int32 × Nat)) := match rws[pc / 16]? with
  | some l => l.lookup pc
  | none => none
def cmpI (op : Jvm.ClassFile.Cond) (x y : Int32) (t f : St) : Res := match op with
  | .eq => if x = y then nx t else nx f
  | .ne => if x = y then nx f else nx t
  | .lt => if x < y then nx t else nx f
  | .ge => if y ≤ x then nx t else nx f
  | .gt => if y < x then nx t else nx f
  | .le => if x ≤ y then nx t else nx f
def exF (M : Mem) (c i k : Nat) : Option AV := match fk c k with
  | 0 => some (.inl (M.2.2.2 c i 0 k))
  | 1 => some (.inl (M.2.2.2 c i 0 k))
  | _ + 2 => bif M.2.1 c i k then some (.inr (.inr (tg M.2.2.2 c i k))) else none
/-- a field is set -/
def exP (pc : Nat) (ls : List (Option AV)) (r : List AV) (M : Mem) (c i k : Nat) (v : AV) : Res := match fk c k with
  | 0 => match v with
    | .inl x => nx (pc, ls, r, (M.1, M.2.1, M.2.2.1, u4 M.2.2.2 c i 0 k x))
    | _ => none
  | 1 => match v with
    | .inl x => if x = 0 ∨ x = 1 then nx (pc, ls, r, (M.1, M.2.1, M.2.2.1, u4 M.2.2.2 c i 0 k x)) else none
    | _ => none
  | 5 => match v with
    | .inr (.inr (4, j, 0)) => if j < 2 then nx (pc, ls, r, (M.1, uf M.2.1 c i k, M.2.2.1, u4 M.2.2.2 c i 0 k (Int32.ofNat j))) else none
    | _ => none
  | _ => match v with
    | .inr (.inr a) => if a = tg M.2.2.2 c i k then nx (pc, ls, r, (M.1, uf M.2.1 c i k, M.2.2.1, M.2.2.2)) else none
    | _ => none
def bin (f : Int32 → Int32 → Int32) (pc : Nat) (ls : List (Option AV)) (st : List AV) (M : Mem) : Res := match st with
  | .inl y :: .inl x :: r => nx (pc + 1, ls, .inl (f x y) :: r, M)
  | _ => none
def binL (f : Int64 → Int64 → Int64) (pc : Nat) (ls : List (Option AV)) (st : List AV) (M : Mem) : Res := match st with
  | .inr (.inl y) :: .inr (.inl x) :: r => nx (pc + 1, ls, .inr (.inl (f x y)) :: r, M)
  | _ => none
/-- one instruction -/
def exI (ret : Option FieldType) (ins : Instr) (len a b c : Nat) (v : Int32) (l : Int64) (ks : List (Int32 × Nat)) (pc : Nat) (ls : List (Option AV)) (st : List AV) (M : Mem) : Res := match ins with
  | .iconst _ => nx (pc + 1, ls, .inl v :: st, M)
  | .bipush _ => nx (pc + 2, ls, .inl v :: st, M)
  | .sipush _ => nx (pc + 3, ls, .inl v :: st, M)
  | .ldc _ => nx (pc + 2, ls, .inl v :: st, M)
  | .ldc_w _ => nx (pc + 3, ls, .inl v :: st, M)
  | .ldc2_w _ => nx (pc + 3, ls, .inr (.inl l) :: st, M)
  | .iload_n _ => match ls[a]? with
    | some (some (.inl x)) => nx (pc + 1, ls, .inl x :: st, M)
    | _ => none
  | .iload _ => match ls[a]? with
    | some (some (.inl x)) => nx (pc + 2, ls, .inl x :: st, M)
    | _ => none
  | .lload_n _ => match ls[a]? with
    | some (some (.inr (.inl x))) => nx (pc + 1, ls, .inr (.inl x) :: st, M)
    | _ => none
  | .aload_n _ => match ls[a]? with
    | some (some (.inr (.inr x))) => nx (pc + 1, ls, .inr (.inr x) :: st, M)
    | _ => none
  | .istore_n _ => match st with
    | .inl x :: r => nx (pc + 1, lS ls a (.inl x), r, M)
    | _ => none
  | .istore _ => match st with
    | .inl x :: r => nx (pc + 2, lS ls a (.inl x), r, M)
    | _ => none
  | .astore_n _ => match st with
    | .inr (.inr x) :: r => nx (pc + 1, lS ls a (.inr (.inr x)), r, M)
    | _ => none
  | .lstore_n _ => match st with
    | .inr (.inl x) :: r => nx (pc + 1, lSL ls a (.inr (.inl x)), r, M)
    | _ => none
  | .iinc _ _ => match ls[a]? with
    | some (some (.inl x)) => nx (pc + 3, lS ls a (.inl (x + v)), st, M)
    | _ => none
  | .iadd => bin (· + ·) pc ls st M
  | .isub => bin (· - ·) pc ls st M
  | .imul => bin (· * ·) pc ls st M
  | .iand => bin (· &&& ·) pc ls st M
  | .ior => bin (· ||| ·) pc ls st M
  | .ixor => bin (· ^^^ ·) pc ls st M
  | .ishl => bin (fun x y => x <<< (y &&& 31)) pc ls st M
  | .ishr => bin (fun x y => x >>> (y &&& 31)) pc ls st M
  | .iushr => bin (fun x y => (x.toUInt32 >>> (y.toUInt32 &&& Int32.toUInt32 31)).toInt32) pc ls st M
  | .idiv => match st with
    | .inl y :: .inl x :: r => if y = 0 then none else nx (pc + 1, ls, .inl (x / y) :: r, M)
    | _ => none
  | .irem => match st with
    | .inl y :: .inl x :: r => if y = 0 then none else nx (pc + 1, ls, .inl (x - x / y * y) :: r, M)
    | _ => none
  | .ladd => binL (· + ·) pc ls st M
  | .lmul => binL (· * ·) pc ls st M
  | .ldiv => match st with
    | .inr (.inl y) :: .inr (.inl x) :: r => if y = 0 then none else nx (pc + 1, ls, .inr (.inl (x / y)) :: r, M)
    | _ => none
  | .lrem => match st with
    | .inr (.inl y) :: .inr (.inl x) :: r => if y = 0 then none else nx (pc + 1, ls, .inr (.inl (x - x / y * y)) :: r, M)
    | _ => none
  | .i2l => match st with
    | .inl x :: r => nx (pc + 1, ls, .inr (.inl x.toInt64) :: r, M)
    | _ => none
  | .l2i => match st with
    | .inr (.inl x) :: r => nx (pc + 1, ls, .inl x.toInt32 :: r, M)
    | _ => none
  | .dup => match st with
    | x :: r => bif isL x then none else nx (pc + 1, ls, x :: x :: r, M)
    | _ => none
  | .dup2 => match st with
    | x :: y :: r => bif isL x || isL y then none else nx (pc + 1, ls, x :: y :: x :: y :: r, M)
    | _ => none
  | .if_icmp op _ => match st with
    | .inl y :: .inl x :: r => cmpI op x y (a, ls, r, M) (pc + 3, ls, r, M)
    | _ => none
  | .ifCond op _ => match st with
    | .inl x :: r => cmpI op x 0 (a, ls, r, M) (pc + 3, ls, r, M)
    | _ => none
  | .goto _ => nx (a, ls, st, M)
  | .tableswitch _ _ _ _ => match st with
    | .inl x :: r => nx (swT x ks a, ls, r, M)
    | _ => none
  | .lookupswitch _ _ => match st with
    | .inl x :: r => nx (swT x ks a, ls, r, M)
    | _ => none
  | .getfield _ => match st with
    | .inr (.inr (c', i, 0)) :: r => bif c'.beq a then (match exF M a i b with
      | some x => nx (pc + 3, ls, x :: r, M)
      | none => none) else none
    | _ => none
  | .putfield _ => match st with
    | x :: .inr (.inr (c', i, 0)) :: r => bif c'.beq a then exP (pc + 3) ls r M a i b x else none
    | _ => none
  | .iaload => match st with
    | .inl j :: .inr (.inr (c', i, o)) :: r => bif isIA c' o then (if j < 0 ∨ aLen M.2.2.1 c' o ≤ j.toNatClampNeg then none else nx (pc + 1, ls, .inl (M.2.2.2 c' i o j.toNatClampNeg) :: r, M)) else none
    | _ => none
  | .iastore => match st with
    | .inl x :: .inl j :: .inr (.inr (c', i, o + 1)) :: r => bif isIA c' (o + 1) then (if j < 0 ∨ al c' (o + 1) ≤ j.toNatClampNeg then none else nx (pc + 1, ls, r, (M.1, M.2.1, M.2.2.1, u4 M.2.2.2 c' i (o + 1) j.toNatClampNeg x))) else none
    | _ => none
  | .aaload => match st with
    | .inl j :: .inr (.inr (c', i, o + 1)) :: r => bif isRA c' (o + 1) then (if j < 0 ∨ al c' (o + 1) ≤ j.toNatClampNeg then none else bif M.2.1 c' i (1000 + j.toNatClampNeg) then nx (pc + 1, ls, .inr (.inr (et c' j.toNatClampNeg)) :: r, M) else none) else none
    | _ => none
  | .aastore => match st with
    | .inr (.inr x) :: .inl j :: .inr (.inr (c', i, o + 1)) :: r => bif isRA c' (o + 1) then (if (j < 0 ∨ al c' (o + 1) ≤ j.toNatClampNeg) ∨ ¬ x = et c' j.toNatClampNeg then none else nx (pc + 1, ls, r, (M.1, uf M.2.1 c' i (1000 + j.toNatClampNeg), M.2.2.1, M.2.2.2))) else none
    | _ => none
  | .arraylength => match st with
    | .inr (.inr (13, 0, 0)) :: r => nx (pc + 1, ls, .inl (Int32.ofNat M.2.2.1) :: r, M)
    | _ => none
  | .new _ => match ordL[M.1]? with
    | some (c', i, 0) => bif c'.beq a then nx (pc + 3, ls, .inr (.inr (c', i, 0)) :: st, (M.1 + 1, M.2.1, M.2.2.1, M.2.2.2)) else none
    | _ => none
  | .newarray _ => match st with
    | .inl x :: r => (match ordL[M.1]? with
      | some (c', i, o + 1) => if isIA c' (o + 1) = true ∧ ¬ x < 0 ∧ x.toNatClampNeg = al c' (o + 1) then nx (pc + 2, ls, .inr (.inr (c', i, o + 1)) :: r, (M.1 + 1, M.2.1, M.2.2.1, M.2.2.2)) else none
      | _ => none)
    | _ => none
  | .anewarray _ => match st with
    | .inl x :: r => (match ordL[M.1]? with
      | some (c', i, o + 1) => if isRA c' (o + 1) = true ∧ ¬ x < 0 ∧ x.toNatClampNeg = al c' (o + 1) ∧ ((c' = 3 ∧ a = 6) ∨ (c' = 8 ∧ a = 2)) then nx (pc + 3, ls, .inr (.inr (c', i, o + 1)) :: r, (M.1 + 1, M.2.1, M.2.2.1, M.2.2.2)) else none
      | _ => none)
    | _ => none
  | .invokevirtual _ => match st.drop (b - 1) with
    | .inr (.inr (c', i, 0)) :: r => bif c'.beq c && r.length.ble 4 then some (.inr (.inl (a, .inr (.inr (c', i, 0)) :: (st.take (b - 1)).reverse, (pc + 3, ls, r, M)))) else none
    | _ => none
  | .invokestatic _ => match c with
    | 1 => (match st with
      | .inl n :: .inl dp :: .inr (.inr (c1, i1, o1 + 1)) :: .inl sp :: .inr (.inr (c0, i0, o0 + 1)) :: r =>
        bif isIA c1 (o1 + 1) && isIA c0 (o0 + 1) && r.length.ble 4 then (if sp = 0 ∧ dp = 0 ∧ n.toNatClampNeg = al c1 (o1 + 1) ∧ al c0 (o0 + 1) = al c1 (o1 + 1) ∧ ¬ n < 0 then nx (pc + 3, ls, r, (M.1, M.2.1, M.2.2.1, uc M.2.2.2 c1 i1 (o1 + 1) (M.2.2.2 c0 i0 (o0 + 1)))) else none) else none
      | _ => none)
    | _ => bif (st.drop b).length.ble 4 && b.ble st.length then some (.inr (.inl (a, (st.take b).reverse, (pc + 3, ls, st.drop b, M)))) else none
  | .invokespecial _ => match c with
    | 1 => (match st with
      | .inr (.inr _) :: r => bif r.length.ble 4 then nx (pc + 3, ls, r, M) else none
      | _ => none)
    | _ => match st.drop (b - 1) with
      | .inr (.inr (c', i, 0)) :: r => bif r.length.ble 4 then some (.inr (.inl (a, .inr (.inr (c', i, 0)) :: (st.take (b - 1)).reverse, (pc + 3, ls, r, M)))) else none
      | _ => none
  | .ireturn => match st with
    | .inl x :: [] => (match ret with
      | some .int => some (.inr (.inr (some (.inl x), M)))
      | some .boolean => if x = 0 ∨ x = 1 then some (.inr (.inr (some (.inl x), M))) else none
      | _ => none)
    | _ => none
  | .return_ => match st with
    | [] => (match ret with
      | none => some (.inr (.inr (none, M)))
      | _ => none)
    | _ => none
  | _ => none
def stI (md : MD) (S : St) : Res := match cRow md.2.2.2.2.2.2 S.1 with
  | some r => exI md.2.2.2.2.1 r.1 r.2.1 r.2.2.1 r.2.2.2.1 r.2.2.2.2.1 r.2.2.2.2.2.1 r.2.2.2.2.2.2.1 r.2.2.2.2.2.2.2 S.1 S.2.1 S.2.2.1 S.2.2.2
  | none => none
/-- where a method begins -/
def en (md : MD) (as : List AV) (M : Mem) : St := (0, as.map some ++ List.replicate (md.2.2.2.1 - as.length) none, [], M)
/-- behind a call -/
def af (v : Option AV) (S : St) (M : Mem) : St := (S.1, S.2.1, v.toList ++ S.2.2.1, M)
/-- the small machine runs: fuel, depth -/
def run : Nat → Nat → MD → St → Option (Option AV × Mem)
  | 0, _, _, _ => none
  | n + 1, d, md, S => match stI md S with
    | none => none
    | some (.inl S') => run n d md S'
    | some (.inr (.inr r)) => some r
    | some (.inr (.inl (mi, as, S'))) => match d with
      | 0 => none
      | d' + 1 => bif !(as.all (fun x => !isL x)) then none else match run n d' (mdOf mi) (en (mdOf mi) as S'.2.2.2) with
        | none => none
        | some (v, M1) => run n (d' + 1) md (af v S' M1)
