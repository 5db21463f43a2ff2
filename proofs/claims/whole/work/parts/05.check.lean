/-! the tables of methods are those of the bytecode: checked by the kernel -/
def dcOK (b : ByteArray) (pc : Nat) (ins : Instr) (len : Nat) : Bool := match decode b pc with
  | .ok q => decide (q = (ins, len))
  | .error _ => false
theorem dcOK_spec {b : ByteArray} {pc : Nat} {ins : Instr} {len : Nat} (h : dcOK b pc ins len = true) : decode b pc = .ok (ins, len) := by
  unfold dcOK at h
  split at h
  · rename_i q hq
    rw [hq, of_decide_eq_true h]
  · cases h
def tsOK (pc : Nat) : List Int → List (Int32 × Nat) → Nat → Bool
  | [], [], _ => true
  | o :: os, q :: r, i => decide (q.1 = nI i) && decide ((pc : Int) + o = (q.2 : Int)) && tsOK pc os r (i + 1)
  | _, _, _ => false
def lsOK (pc : Nat) : List (Int × Int) → List (Int32 × Nat) → Bool
  | [], [] => true
  | o :: os, q :: r => decide (q.1.toInt = o.1) && decide ((pc : Int) + o.2 = (q.2 : Int)) && lsOK pc os r
  | _, _ => false
def okX (own maxL : Nat) (ini : Bool) (pc : Nat) (ins : Instr) (len a b c : Nat) (v : Int32) (l : Int64) (ks : List (Int32 × Nat)) : Bool := match ins with
  | .iconst n => decide (len = 1) && decide (Int32.ofInt n = v)
  | .bipush n => decide (len = 2) && decide ((Int8.ofInt n).toInt32 = v)
  | .sipush n => decide (len = 3) && decide ((Int16.ofInt n).toInt32 = v)
  | .ldc i => decide (len = 2) && decide ((own, i, v) ∈ KIt)
  | .ldc_w i => decide (len = 3) && decide ((own, i, v) ∈ KIt)
  | .ldc2_w i => decide (len = 3) && decide ((own, i, l) ∈ KLt)
  | .iload_n k => decide (len = 1) && decide ((k : Nat) = a)
  | .iload k => decide (len = 2) && decide (k = a)
  | .lload_n k => decide (len = 1) && decide ((k : Nat) = a)
  | .aload_n k => decide (len = 1) && decide ((k : Nat) = a)
  | .istore_n k => decide (len = 1) && decide ((k : Nat) = a) && decide (a < maxL)
  | .istore k => decide (len = 2) && decide (k = a) && decide (a < maxL)
  | .astore_n k => decide (len = 1) && decide ((k : Nat) = a) && decide (a < maxL)
  | .lstore_n k => decide (len = 1) && decide ((k : Nat) = a) && decide (a + 1 < maxL)
  | .iinc k n => decide (len = 3) && decide (k = a) && decide (Int32.ofInt n = v) && decide (a < maxL)
  | .if_icmp _ off => decide (len = 3) && decide ((pc : Int) + off = (a : Int))
  | .ifCond _ off => decide (len = 3) && decide ((pc : Int) + off = (a : Int))
  | .goto off => decide (len = 3) && decide ((pc : Int) + off = (a : Int))
  | .tableswitch df lo hi offs => decide ((pc : Int) + df = (a : Int)) && decide (lo = 0) && decide (hi + 1 = (ks.length : Int)) && decide (ks.length < 1000) && tsOK pc offs.toList ks 0
  | .lookupswitch df ps => decide ((pc : Int) + df = (a : Int)) && (ps.toList.zip (ps.toList.drop 1)).all (fun (x, y) => x.1 < y.1) && lsOK pc ps.toList ks
  | .getfield i => decide (len = 3) && decide ((own, i, a, b) ∈ FLt)
  | .putfield i => decide (len = 3) && decide ((own, i, a, b) ∈ FLt) && (!(tN a b).2.2.2 || (ini && decide (own = a)))
  | .new i => decide (len = 3) && decide ((own, i, a) ∈ NLt) && decide (a < 10)
  | .newarray t => decide (len = 2) && decide (t = .int)
  | .anewarray i => decide (len = 3) && decide ((own, i, a) ∈ NLt) && decide (a = 6 ∨ a = 2)
  | .invokevirtual i => decide (len = 3) && decide ((own, i, a) ∈ MLt) && decide (skT.getD a 9 = 0) && decide (npT.getD a 0 + 1 = b) && decide ((mdOf a).1 = c) && decide (a < 199)
  | .invokestatic i => decide (len = 3) && (bif c.beq 1 then decide ((own, i) ∈ ACt) else decide ((own, i, a) ∈ MLt) && decide (skT.getD a 9 = 1) && decide (npT.getD a 0 = b) && decide (a < 199))
  | .invokespecial i => decide (len = 3) && (bif c.beq 1 then decide ((own, i) ∈ OIt) else (decide ((own, i, a) ∈ MLt) || MNt.any (fun q => decide (q.1 = own) && decide (q.2.1 = i) && decide (q.2.2.1 = a))) && decide (skT.getD a 9 = 2) && decide (npT.getD a 0 + 1 = b) && decide (a < 199))
  | _ => decide (len = 1)
def okR (md : MD) (r : Row) : Bool := dcOK md.2.2.1 r.1 r.2.1 r.2.2.1 && okX md.1 md.2.2.2.1 md.2.2.2.2.2.1 r.1 r.2.1 r.2.2.1 r.2.2.2.1 r.2.2.2.2.1 r.2.2.2.2.2.1 r.2.2.2.2.2.2.1 r.2.2.2.2.2.2.2.1 r.2.2.2.2.2.2.2.2
def okMD (md : MD) : Bool := md.2.2.2.2.2.2.all (fun ch => ch.all (okR md))
/-- a word that the tables have, and that holds at every later time -/
def gT : List Jvm.Cond := lw_tbl.filter goodWord
theorem gT_in {w : Jvm.Cond} (h : w ∈ lw_tbl) (hg : goodWord w = true) : w ∈ gT := List.mem_filter.mpr ⟨h, hg⟩
/-- words picked out of a list, by how many are passed over -/
def pick : List Nat → List Jvm.Cond → List Jvm.Cond
  | [], _ => []
  | g :: gs, l => match l.drop g with
    | [] => []
    | a :: r => a :: pick gs r
theorem pick_mem : ∀ (gs : List Nat) (l : List Jvm.Cond) (x : Jvm.Cond), x ∈ pick gs l → x ∈ l
  | [], _, x, h => by simp [pick] at h
  | g :: gs, l, x, h => by
    unfold pick at h
    split at h
    · simp at h
    · rename_i a r hd
      have hs : ∀ y, y ∈ a :: r → y ∈ l := fun y hy => List.mem_of_mem_drop (by rw [hd]; exact hy)
      rcases List.mem_cons.mp h with rfl | h
      · exact hs _ List.mem_cons_self
      · exact hs _ (List.mem_cons_of_mem _ (pick_mem gs r x h))
theorem pick_of {α : Type} {f : α → Jvm.Cond} {gs : List Nat} {l : List α} (h : pick gs lw_tbl = l.map f) : ∀ q ∈ l, f q ∈ lw_tbl := fun q hq => pick_mem gs lw_tbl _ (by rw [h]; exact List.mem_map.mpr ⟨q, hq, rfl⟩)
set_option maxRecDepth 100000 in
theorem tb_FL0 : pick FLtg lw_tbl = FLt.map (fun q => Jvm.Cond.fieldLink (rN q.1) q.2.1 (rN q.2.2.1) (tN q.2.2.1 q.2.2.2).2.1 (tN q.2.2.1 q.2.2.2).2.2.1) := rfl
set_option maxRecDepth 100000 in
theorem tb_FL1 : FLt.all (fun q => decide (q.2.2.2 < nF q.2.2.1) && decide (q.2.2.1 < 10)) = true := by decide +kernel
set_option maxRecDepth 100000 in
theorem tb_ML0 : pick MLtg lw_tbl = MLt.map (fun q => Jvm.Cond.methodLink (rN q.1) q.2.1 (mdOf q.2.2).2.1) := rfl
set_option maxRecDepth 100000 in
theorem tb_MN0 : pick MNtg lw_tbl = MNt.map (fun q => Jvm.Cond.methodLinkNest (rN q.1) q.2.1 (mdOf q.2.2.1).2.1 (rN q.2.2.2)) := rfl
set_option maxRecDepth 100000 in
theorem tb_OI0 : pick OItg lw_tbl = OIt.map (fun q => Jvm.Cond.methodLink (rN q.1) q.2 Lib.objectInit) := rfl
set_option maxRecDepth 100000 in
theorem tb_AC0 : pick ACtg lw_tbl = ACt.map (fun q => Jvm.Cond.methodLink (rN q.1) q.2 arraycopyName) := rfl
set_option maxRecDepth 100000 in
theorem tb_KI0 : pick KItg lw_tbl = KIt.map (fun q => Jvm.Cond.constant (rN q.1) q.2.1 q.2.2) := rfl
set_option maxRecDepth 100000 in
theorem tb_KL0 : pick KLtg lw_tbl = KLt.map (fun q => Jvm.Cond.constantLong (rN q.1) q.2.1 q.2.2) := rfl
set_option maxRecDepth 100000 in
theorem tb_NL0 : pick NLtg lw_tbl = NLt.map (fun q => Jvm.Cond.classLink (rN q.1) q.2.1 (rN q.2.2)) := rfl
set_option maxRecDepth 100000 in
theorem tb_CW0 : pick CWtg lw_tbl = CWt.map (fun n => Jvm.Cond.code (mdOf n).2.1 (mdOf n).2.2.1 (mdOf n).2.2.2.1 (mdOf n).2.2.2.2.1) := rfl
set_option maxRecDepth 100000 in
theorem tb_IM0 : pick IMtg lw_tbl = IMt.map (fun n => Jvm.Cond.instanceMethod (mdOf n).2.1) := rfl
set_option maxRecDepth 100000 in
theorem tb_SM0 : pick SMtg lw_tbl = SMt.map (fun n => Jvm.Cond.static (mdOf n).2.1) := rfl
set_option maxRecDepth 100000 in
theorem tb_SE0 : pick SEtg lw_tbl = SEt.map (fun n => Jvm.Cond.selects (rN (mdOf n).1) (mdOf n).2.1 (mdOf n).2.1) := rfl
set_option maxRecDepth 100000 in
theorem tb_IN0 : pick INtg lw_tbl = INt.map (fun n => Jvm.Cond.initialized (rN n)) := rfl
set_option maxRecDepth 100000 in
theorem tb_IB0 : pick IBtg lw_tbl = IBt.map (fun n => Jvm.Cond.instantiable (rN n) (nF n)) := rfl
theorem tb_o1 : Jvm.Cond.instanceMethod Lib.objectInit ∈ lw_tbl := List.mem_of_getElem? (i := 88) rfl
theorem tb_o2 : Jvm.Cond.code Lib.objectInit ⟨#[0xb1]⟩ 1 none ∈ lw_tbl := List.mem_of_getElem? (i := 89) rfl
theorem tb_a1 : Jvm.Cond.native arraycopyName ∈ lw_tbl := List.mem_of_getElem? (i := 433) rfl
theorem tb_a2 : Jvm.Cond.static arraycopyName ∈ lw_tbl := List.mem_of_getElem? (i := 432) rfl
theorem tb_a3 : Jvm.Cond.initialized "java/lang/System" ∈ lw_tbl := List.mem_of_getElem? (i := 79) rfl
theorem tb_ar : Jvm.Cond.arrayClass .int ∈ lw_tbl := List.mem_of_getElem? (i := 115) rfl
theorem tb_as : Jvm.Cond.arrayOver (.object RX6) ∈ lw_tbl := List.mem_of_getElem? (i := 187) rfl
theorem tb_ai : Jvm.Cond.arrayOver (.object RX2) ∈ lw_tbl := List.mem_of_getElem? (i := 201) rfl
set_option maxRecDepth 100000 in
theorem tb_in : ∀ c, c < 10 → ∀ w ∈ u_ws (rN c) (tN c) (nF c), w ∈ lw_tbl := by
  intro c hc
  match c, hc with
  | 0, _ => exact in_X0
  | 1, _ => exact in_X1
  | 2, _ => exact in_X2
  | 3, _ => exact in_X3
  | 4, _ => exact in_X4
  | 5, _ => exact in_X5
  | 6, _ => exact in_X6
  | 7, _ => exact in_X7
  | 8, _ => exact in_X8
  | 9, _ => exact in_X9
  | n + 10, h => omega
theorem tb_lg (C : String) (T : u_T) (N : Nat) : ∀ w ∈ u_ws C T N, goodWord w = true := by
  intro w hw
  obtain ⟨k, -, rfl⟩ := List.mem_map.mp hw
  unfold u_lay
  split <;> rfl
theorem tb_gin {c : Nat} (hc : c < 10) : ∀ w ∈ u_ws (rN c) (tN c) (nF c), w ∈ gT := fun w hw => gT_in (tb_in c hc w hw) (tb_lg _ _ _ w hw)
theorem tb_ty : ∀ c, c < 10 → ∀ k, k < nF c → parseFieldDescriptor (tN c k).2.2.1 = some (tyN c k) := by
  intro c hc
  match c, hc with
  | 0, _ => exact tyX0_ok
  | 1, _ => exact tyX1_ok
  | 2, _ => exact tyX2_ok
  | 3, _ => exact tyX3_ok
  | 4, _ => exact tyX4_ok
  | 5, _ => exact tyX5_ok
  | 6, _ => exact tyX6_ok
  | 7, _ => exact tyX7_ok
  | 8, _ => exact tyX8_ok
  | 9, _ => exact tyX9_ok
  | n + 10, h => omega
theorem tb_nm : ∀ c, c < 10 → ∀ a, a < nF c → ∀ b, b < nF c → a ≠ b → (tN c a).2.1 ≠ (tN c b).2.1 := by
  intro c hc
  match c, hc with
  | 0, _ => exact nmX0
  | 1, _ => exact nmX1
  | 2, _ => exact nmX2
  | 3, _ => exact nmX3
  | 4, _ => exact nmX4
  | 5, _ => exact nmX5
  | 6, _ => exact nmX6
  | 7, _ => exact nmX7
  | 8, _ => exact nmX8
  | 9, _ => exact nmX9
  | n + 10, h => omega
theorem tb_cl : ∀ c, c < 10 → vwCl[c]? = some (rN c, tN c, nF c) := by
  intro c hc
  match c, hc with
  | 0, _ => rfl
  | 1, _ => rfl
  | 2, _ => rfl
  | 3, _ => rfl
  | 4, _ => rfl
  | 5, _ => rfl
  | 6, _ => rfl
  | 7, _ => rfl
  | 8, _ => rfl
  | 9, _ => rfl
  | n + 10, h => omega
theorem tb_CWn : ∀ n, n < 199 → n ∈ CWt := by decide +kernel
theorem tb_IMn : ∀ n, n < 199 → skT.getD n 9 ≠ 1 → n ∈ IMt := by decide +kernel
theorem tb_SMn : ∀ n, n < 199 → skT.getD n 9 = 1 → n ∈ SMt := by decide +kernel
theorem tb_SEn : ∀ n, n < 199 → skT.getD n 9 = 0 → n ∈ SEt := by decide +kernel
theorem tb_INn : ∀ n, n < 13 → n ∈ INt := by decide +kernel
theorem tb_IBn : ∀ n, n < 10 → n ∈ IBt := by decide +kernel
set_option maxRecDepth 100000 in
theorem tb_mc : (List.range 199).map (fun n => (mdOf n).2.1.cls) = (List.range 199).map (fun n => rN (mdOf n).1) := rfl
set_option maxRecDepth 100000 in
theorem tb_md : (List.range 199).map (fun n => (mdOf n).2.1.desc) = (List.range 199).map (fun n => (dsT.getD (dxT.getD n 0) ("", 0)).1) := rfl
theorem tb_mn : ∀ n, n < 199 → (dsT.getD (dxT.getD n 0) ("", 0)).2 = npT.getD n 0 := by decide +kernel
theorem tb_dp : ∀ q ∈ dsT, (parseMethodDescriptor q.1).map (fun d => d.parameters.length) = some q.2 := by decide +kernel
theorem tb_dx : ∀ n, n < 199 → dxT.getD n 0 < dsT.length := by decide +kernel
theorem tb_pl : ∀ c, c < 10 → plainName (rN c) = true := by decide +kernel
theorem tb_nh : ∀ c, c < 13 → rN c ≠ "java/lang/invoke/MethodHandle" ∧ rN c ≠ "java/lang/invoke/VarHandle" := by decide +kernel
theorem tb_pf1 : plainFor (mdOf 195).2.1 = true := by decide +kernel
theorem tb_pf2 : plainFor (mdOf 196).2.1 = true := by decide +kernel
theorem tb_pf3 : plainFor (mdOf 197).2.1 = true := by decide +kernel
theorem tb_pf4 : plainFor (mdOf 198).2.1 = true := by decide +kernel
theorem tb_m0 : ∀ n, n < 195 → (mdOf n).1 < 10 := by decide +kernel
theorem tb_m1 : ∀ n, n < 199 → (mdOf n).1 < 12 ∧ (mdOf n).2.2.2.1 ≤ 11 ∧ npT.getD n 0 + (if skT.getD n 9 = 1 then 0 else 1) ≤ (mdOf n).2.2.2.1 ∧ (skT.getD n 9 = 2 → (mdOf n).2.2.2.2.1 = none ∧ (mdOf n).2.2.2.2.2.1 = true) := by decide +kernel
theorem tb_m2 : ∀ n, n < 199 → ((mdOf n).2.2.2.2.2.1 = true → (mdOf n).2.1.name = "<init>") ∧ (skT.getD n 9 = 2 → (mdOf n).2.1.name = "<init>") := by decide +kernel
theorem map_range_eq {α : Type} {N : Nat} {f g : Nat → α} (h : (List.range N).map f = (List.range N).map g) : ∀ n, n < N → f n = g n := by
  intro n hn
  have h1 := congrArg (fun l => l[n]?) h
  simpa [List.getElem?_map, List.getElem?_range hn] using h1
theorem tb_cls {n : Nat} (hn : n < 199) : (mdOf n).2.1.cls = rN (mdOf n).1 := map_range_eq tb_mc n hn
theorem tb_np {n : Nat} (hn : n < 199) : (parseMethodDescriptor (mdOf n).2.1.desc).map (fun d => d.parameters.length) = some (npT.getD n 0) := by
  rw [map_range_eq tb_md n hn, ← tb_mn n hn]
  have hl := tb_dx n hn
  have hm : dsT.getD (dxT.getD n 0) ("", 0) ∈ dsT := by
    rw [List.getD_eq_getElem?_getD, List.getElem?_eq_getElem hl]
    exact List.getElem_mem hl
  exact tb_dp _ hm
theorem tb_pf {n : Nat} (hn : n < 199) : plainFor (mdOf n).2.1 = true := by
  by_cases h : n < 195
  · exact plainFor_of_name (by rw [tb_cls hn]; exact tb_pl _ (tb_m0 n h))
  · rcases (by omega : n = 195 ∨ n = 196 ∨ n = 197 ∨ n = 198) with rfl | rfl | rfl | rfl
    · exact tb_pf1
    · exact tb_pf2
    · exact tb_pf3
    · exact tb_pf4
