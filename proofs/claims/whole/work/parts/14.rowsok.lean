set_option maxRecDepth 100000 in
theorem tb_law : okMD md_L_law = true := by
  show rw_L_law.all (fun ch => ch.all (okR md_L_law)) = true
  have e : rw_L_law = rw_L_law.take 20 ++ ((rw_L_law.drop 20).take 20 ++ ((rw_L_law.drop 40).take 18 ++ rw_L_law.drop 58)) := by
    rw [show rw_L_law.drop 58 = (rw_L_law.drop 40).drop 18 by rw [List.drop_drop], List.take_append_drop, show rw_L_law.drop 40 = (rw_L_law.drop 20).drop 20 by rw [List.drop_drop], List.take_append_drop, List.take_append_drop]
  rw [e, List.all_append, List.all_append, List.all_append, tb_rows5, tb_rows6, tb_rows7, tb_rows8]
  rfl
set_option maxRecDepth 100000 in
theorem tb_rows (n : Nat) : okMD (mdOf n) = true := by
  unfold mdOf
  rw [List.getD_eq_getElem?_getD]
  cases h : mdT[n]? with
  | none => exact tb_law
  | some md =>
    show okMD md = true
    have hm := List.mem_of_getElem? h
    have e : mdT = mdT.take 60 ++ ((mdT.drop 60).take 60 ++ ((mdT.drop 120).take 40 ++ ((mdT.drop 160).take 39 ++ [md_L_law]))) := rfl
    rw [e] at hm
    rcases List.mem_append.mp hm with h1 | h1
    · exact List.all_eq_true.mp tb_rows1 md h1
    · rcases List.mem_append.mp h1 with h1 | h1
      · exact List.all_eq_true.mp tb_rows2 md h1
      · rcases List.mem_append.mp h1 with h1 | h1
        · exact List.all_eq_true.mp tb_rows3 md h1
        · rcases List.mem_append.mp h1 with h1 | h1
          · exact List.all_eq_true.mp tb_rows4 md h1
          · rw [List.mem_singleton.mp h1]; exact tb_law
theorem lookup_mem {β : Type} : ∀ (l : List (Nat × β)) (k : Nat) (v : β), l.lookup k = some v → (k, v) ∈ l
  | [], _, _, h => by simp at h
  | (a, b) :: l, k, v, h => by
    rw [List.lookup_cons] at h
    split at h
    · rename_i e
      cases h
      rw [show k = a from by simpa using e]
      exact List.mem_cons_self
    · exact List.mem_cons_of_mem _ (lookup_mem l k v h)
/-- a row that the small machine finds is a checked one -/
theorem row_ok {n pc : Nat} {r : Instr × Nat × Nat × Nat × Nat × Int32 × Int64 × List (Int32 × Nat)} (h : cRow (mdOf n).2.2.2.2.2.2 pc = some r) : okR (mdOf n) (pc, r) = true := by
  have ho := tb_rows n
  unfold okMD at ho
  unfold cRow at h
  split at h
  · rename_i l hl
    exact List.all_eq_true.mp (List.all_eq_true.mp ho l (List.mem_of_getElem? hl)) _ (lookup_mem l pc r h)
  · cases h
