/-! a kingdom and its state, as such -/
abbrev Kg : Type := Int32 × Int32 × Nat × Nat × Nat × (Nat → Int32) × (Nat → Nat) × (Nat → Nat)
def Kg.law (K : Kg) : Int32 := K.1
def Kg.term (K : Kg) : Int32 := K.2.1
def Kg.np (K : Kg) : Nat := K.2.2.1
def Kg.no (K : Kg) : Nat := K.2.2.2.1
def Kg.nt (K : Kg) : Nat := K.2.2.2.2.1
def Kg.dr (K : Kg) : Nat → Int32 := K.2.2.2.2.2.1
def Kg.ok (K : Kg) : Nat → Nat := K.2.2.2.2.2.2.1
def Kg.kd (K : Kg) : Nat → Nat := K.2.2.2.2.2.2.2
abbrev Sa : Type := (Nat → Int32) × (Nat → Int32) × (Nat → Int32) × (Nat → Int32) × (Nat → Int32) × Int32 × Nat × Nat × (Nat → Nat → Int32)
def Sa.g (s : Sa) : Nat → Int32 := s.1
def Sa.e (s : Sa) : Nat → Int32 := s.2.1
def Sa.co (s : Sa) : Nat → Int32 := s.2.2.1
def Sa.ti (s : Sa) : Nat → Int32 := s.2.2.2.1
def Sa.ho (s : Sa) : Nat → Int32 := s.2.2.2.2.1
def Sa.rn (s : Sa) : Int32 := s.2.2.2.2.2.1
def Sa.dd (s : Sa) : Nat := s.2.2.2.2.2.2.1
def Sa.cc (s : Sa) : Nat := s.2.2.2.2.2.2.2.1
def Sa.lg (s : Sa) : Nat → Nat → Int32 := s.2.2.2.2.2.2.2.2
def KV (K : Kg) : Prop := K.np ≤ 7 ∧ K.no ≤ 4 ∧ K.nt ≤ 12 ∧ (∀ q, K.kd q < 3) ∧ (∀ q, K.ok q < 3)
def SV (s : Sa) : Prop := (s.rn = 0 ∨ s.rn = nI 1) ∧ (∀ q, q < 21 → ∃ v, v ≤ 9 ∧ s.g q = nI v) ∧ s.cc ≤ s.dd
/-- the realm j is the kingdom -/
def KC (w : WF) (j : Nat) (K : Kg) : Prop := w 4 j 0 4 = K.law ∧ w 4 j 0 5 = K.term ∧ w 4 j 0 6 = nI K.np ∧ w 4 j 0 7 = nI K.nt ∧ w 4 j 0 8 = nI K.no ∧ (∀ q, q < K.np → w 4 j 2 q = K.dr q) ∧ (∀ q, q < K.nt → w 4 j 3 q = nI (K.kd q)) ∧ (∀ q, q < K.no → w 4 j 4 q = nI (K.ok q))
def KM (w : WF) (K : Kg) : Prop := w 9 0 0 4 = K.law ∧ w 9 0 0 5 = K.term ∧ w 9 0 0 6 = nI K.np ∧ w 9 0 0 8 = nI K.nt ∧ w 9 0 0 7 = nI K.no ∧ (∀ q, q < K.np → w 9 0 2 q = K.dr q) ∧ (∀ q, q < K.nt → w 9 0 4 q = nI (K.kd q)) ∧ (∀ q, q < K.no → w 9 0 3 q = nI (K.ok q))
/-- the state i is s -/
def RC (w : WF) (K : Kg) (i : Nat) (s : Sa) : Prop := (∀ q, q < 3 * K.np → w 6 i 1 q = s.g q) ∧ (∀ q, q < K.np → w 6 i 2 q = s.e q) ∧ (∀ q, q < K.np → w 6 i 3 q = s.co q) ∧ (∀ q, q < K.np → w 6 i 4 q = s.ti q) ∧ (∀ q, q < K.no → w 6 i 5 q = s.ho q) ∧ w 6 i 0 8 = s.rn ∧ w 6 i 0 7 = nI s.dd ∧ w 6 i 0 6 = nI s.cc ∧ (∀ n t, n < s.cc → s.cc ≤ n + 20 → t < 4 → w 6 i 6 (n % 20 * 4 + t) = s.lg n t)
/-- the row at x is s -/
def RR (w : WF) (K : Kg) (x : Nat) (s : Sa) : Prop := (∀ q, q < 21 → w 9 0 1 (x + q) = s.g q) ∧ (∀ q, q < K.np → w 9 0 1 (x + 21 + q) = s.e q) ∧ (∀ q, q < K.np → w 9 0 1 (x + 28 + q) = s.co q) ∧ (∀ q, q < K.np → w 9 0 1 (x + 35 + q) = s.ti q) ∧ (∀ q, q < K.no → w 9 0 1 (x + 42 + q) = s.ho q) ∧ w 9 0 1 (x + 46) = s.rn ∧ w 9 0 1 (x + 47) = nI s.dd ∧ w 9 0 1 (x + 48) = nI (min s.cc 20) ∧ (∀ n t, n < s.cc → s.cc ≤ n + 20 → t < 4 → w 9 0 1 (x + 49 + (4 * (n - (s.cc - 20)) + t)) = s.lg n t)
def coA (s : Sa) : Nat → Bool := fun p => decide (s.co p = 0)
def mkA (K : Kg) (s : Sa) (k : Nat) : Nat → Int32 := mkV s.g s.e K.dr s.rn k
def ldA (K : Kg) (s : Sa) (k : Nat) : Option Nat := ldr (coA s) K.law K.dr (mkA K s k) K.np
def fsA (K : Kg) (s : Sa) (k : Nat) : Nat → Bool := fst' (coA s) K.law K.dr (mkA K s k) K.np
def snA (K : Kg) (s : Sa) (k : Nat) : Option Nat := snd' (coA s) K.law K.dr (mkA K s k) K.np
def kdA (K : Kg) (n : Nat) : Nat := if K.nt = 0 then 0 else K.kd (n % K.nt)
theorem kdA_lt {K : Kg} (h : KV K) (n : Nat) : kdA K n < 3 := by
  unfold kdA
  split
  · decide
  · exact h.2.2.2.1 _
def lgA (K : Kg) (s : Sa) (k t : Nat) : Int32 := if t = 0 then nI s.dd else if t = 1 then nI k else if t = 2 then oI (ldA K s k) else oI (snA K s k)
def dayK (K : Kg) (s : Sa) (k : Nat) : Sa := (gf2 s.g (snA K s k) k, s.e, (fun q => if q < K.np ∧ coA s q = false then (if q < K.np ∧ fsA K s k q = true then K.term else s.co q) - nI 1 else (if q < K.np ∧ fsA K s k q = true then K.term else s.co q)), (fun q => if snA K s k = some q then s.ti q + nI 1 else s.ti q), ho2 s.ho (fun o => nI (K.ok o)) (fsA K s k) (snA K s k) k K.np, s.rn, s.dd + 1, (if ldA K s k = none then s.cc else s.cc + 1), (fun n t => if ldA K s k ≠ none ∧ n = s.cc then lgA K s k t else s.lg n t))
def dayA (K : Kg) (s : Sa) : Sa := dayK K s (kdA K s.dd)
theorem ho1_congr {h h' : Nat → Int32} {F F' : Nat → Bool} {q : Nat} (hh : h q = h' q) : ∀ n, (∀ p, p < n → F p = F' p) → ho1 h F n q = ho1 h' F' n q
  | 0, _ => hh
  | n + 1, hF => by
    show (if F n = true ∧ ho1 h F n q = nI n then -1 else ho1 h F n q) = (if F' n = true ∧ ho1 h' F' n q = nI n then -1 else ho1 h' F' n q)
    rw [ho1_congr hh n (fun p hp => hF p (by omega)), hF n (by omega)]
theorem ho2_congr {h h' ok ok' : Nat → Int32} {F F' : Nat → Bool} {S : Option Nat} {k n q : Nat} (hh : h q = h' q) (hk : ok q = ok' q) (hF : ∀ p, p < n → F p = F' p) : ho2 h ok F S k n q = ho2 h' ok' F' S k n q := by
  cases S with
  | none => exact ho1_congr hh n hF
  | some s =>
    show (if ok q = nI k then nI s else ho1 h F n q) = (if ok' q = nI k then nI s else ho1 h' F' n q)
    rw [hk, ho1_congr hh n hF]
theorem gf2_congr {g g' : Nat → Int32} {S : Option Nat} {k q : Nat} (h : g q = g' q) : gf2 g S k q = gf2 g' S k q := by
  cases S with
  | none => exact h
  | some s =>
    show (if q = s * 3 + k then mxI (nI 0) (g q - nI 1) else g q) = (if q = s * 3 + k then mxI (nI 0) (g' q - nI 1) else g' q)
    rw [h]
section
variable {w : WF} {K : Kg} {s : Sa} {i j x k : Nat}
theorem RC.co (h : RC w K i s) : ∀ p, p < K.np → cC w i p = coA s p := fun p hp => by unfold cC coA; rw [h.2.2.1 p hp]
theorem RC.mk (h : RC w K i s) (hK : KC w j K) (hk : k < 3) : ∀ p, p < K.np → mC w i j k p = mkA K s k p := fun p hp => by
  unfold mC mkA mkV
  rw [h.1 _ (by omega), h.2.1 p hp, hK.2.2.2.2.2.1 p hp, h.2.2.2.2.2.1]
theorem RC.ld (h : RC w K i s) (hK : KC w j K) (hk : k < 3) : LDR w i j k K.np = ldA K s k := by
  unfold LDR ldA; rw [hK.1]; exact ldr_congr h.co hK.2.2.2.2.2.1 (h.mk hK hk)
theorem RC.fs (h : RC w K i s) (hK : KC w j K) (hk : k < 3) : ∀ p, p < K.np → FST w i j k K.np p = fsA K s k p := fun p hp => by
  unfold FST fsA; rw [hK.1]; exact fst_congr hp h.co hK.2.2.2.2.2.1 (h.mk hK hk)
theorem RC.sn (h : RC w K i s) (hK : KC w j K) (hk : k < 3) : SND w i j k K.np = snA K s k := by
  unfold SND snA; rw [hK.1]; exact snd_congr h.co hK.2.2.2.2.2.1 (h.mk hK hk)
theorem RR.co (h : RR w K x s) : ∀ p, p < K.np → cM w x p = coA s p := fun p hp => by unfold cM coA; rw [h.2.2.1 p hp]
theorem RR.mk (hV : KV K) (h : RR w K x s) (hK : KM w K) (hk : k < 3) : ∀ p, p < K.np → mM w x k p = mkA K s k p := fun p hp => by
  have h7 := hV.1
  unfold mM mkA mkV
  show w 9 0 1 (x + (p * 3 + k)) * w 9 0 1 (x + 21 + p) + _ = _
  rw [h.1 (p * 3 + k) (by omega), h.2.1 p hp, hK.2.2.2.2.2.1 p hp, h.2.2.2.2.2.1]
theorem RR.ld (hV : KV K) (h : RR w K x s) (hK : KM w K) (hk : k < 3) : LDM w x k K.np = ldA K s k := by
  unfold LDM ldA; rw [hK.1]; exact ldr_congr h.co hK.2.2.2.2.2.1 (h.mk hV hK hk)
theorem RR.fs (hV : KV K) (h : RR w K x s) (hK : KM w K) (hk : k < 3) : ∀ p, p < K.np → FSM w x k K.np p = fsA K s k p := fun p hp => by
  unfold FSM fsA; rw [hK.1]; exact fst_congr hp h.co hK.2.2.2.2.2.1 (h.mk hV hK hk)
theorem RR.sn (hV : KV K) (h : RR w K x s) (hK : KM w K) (hk : k < 3) : SNM w x k K.np = snA K s k := by
  unfold SNM snA; rw [hK.1]; exact snd_congr h.co hK.2.2.2.2.2.1 (h.mk hV hK hk)
theorem KC.kd (hK : KC w j K) (n : Nat) : kdV (w 4 j 3) K.nt n = nI (kdA K n) := by
  unfold kdV kdA
  split
  · rfl
  · exact hK.2.2.2.2.2.2.1 _ (Nat.mod_lt _ (by omega))
theorem KM.kd (hK : KM w K) (n : Nat) : kdV (w 9 0 4) K.nt n = nI (kdA K n) := by
  unfold kdV kdA
  split
  · rfl
  · exact hK.2.2.2.2.2.2.1 _ (Nat.mod_lt _ (by omega))
end
theorem lg_ring {cc n t : Nat} (hn : n < cc) (h20 : cc + 1 ≤ n + 20) (ht : t < 4) : ∀ u, u < 4 → n % 20 * 4 + t ≠ cc % 20 * 4 + u := by
  intro u hu; omega
theorem RC_day {w w' : WF} {i j : Nat} {K : Kg} {s : Sa} {k : Nat} (hk : k < 3) (hK : KC w j K) (h : RC w K i s) (hd : DY w i j k K.np K.no s.cc s.dd w') : RC w' K i (dayK K s k) := by
  have hL := h.ld hK hk
  have hF := h.fs hK hk
  have hS := h.sn hK hk
  have hC := h.co
  obtain ⟨h1, h2, h3, h4, h5, h6, h7, h8, h9⟩ := h
  obtain ⟨w2, ⟨m1, m2, m3, m4, m5, m6, m7, m8, m9⟩, d1, d2, d3⟩ := hd
  have e5 : w' 6 i 0 6 = w2 6 i 0 6 := d1 6 i 0 6 (by omega)
  refine ⟨fun q hq => ?_, fun q hq => ?_, fun q hq => ?_, fun q hq => ?_, fun q hq => ?_, ?_, d2, ?_, fun n t hn h20 ht => ?_⟩
  · rw [d1 6 i 1 q (by omega), m5, hS]; exact gf2_congr (h1 q hq)
  · rw [d1 6 i 2 q (by omega), m2]; exact h2 q hq
  · rw [d3, m3, hF q hq, hC q hq, h3 q hq, hK.2.1]; rfl
  · rw [d1 6 i 4 q (by omega), m4, hS, h4 q hq]; rfl
  · rw [d1 6 i 5 q (by omega), m6 q hq, hS]; exact ho2_congr (h := w 6 i 5) (h' := s.ho) (ok := w 4 j 4) (ok' := fun o => nI (K.ok o)) (h5 q hq) (hK.2.2.2.2.2.2.2 q hq) hF
  · rw [d1 6 i 0 8 (by omega), m7 8 (by omega)]; exact h6
  · rw [e5]
    show _ = nI (if ldA K s k = none then s.cc else s.cc + 1)
    by_cases z : ldA K s k = none
    · rw [if_pos z]; exact (m8 (hL.trans z)).1
    · rw [if_neg z]; exact (m9 (by rw [hL]; exact z)).1
  · rw [d1 6 i 6 _ (by omega)]
    change n < (if ldA K s k = none then s.cc else s.cc + 1) at hn
    change (if ldA K s k = none then s.cc else s.cc + 1) ≤ n + 20 at h20
    show _ = if ldA K s k ≠ none ∧ n = s.cc then lgA K s k t else s.lg n t
    by_cases z : ldA K s k = none
    · rw [if_pos z] at hn h20
      rw [if_neg (fun y => y.1 z), (m8 (hL.trans z)).2]
      exact h9 n t hn h20 ht
    · rw [if_neg z] at hn h20
      rw [(m9 (by rw [hL]; exact z)).2, hL, hS, h7]
      by_cases y : n = s.cc
      · rw [if_pos ⟨z, y⟩, y]
        unfold lg2 lgA
        have ht4 : t = 0 ∨ t = 1 ∨ t = 2 ∨ t = 3 := by omega
        rcases ht4 with rfl | rfl | rfl | rfl
        · rw [if_neg (by omega), if_neg (by omega), if_neg (by omega), if_pos (by omega), if_pos rfl]
        · rw [if_neg (by omega), if_neg (by omega), if_pos rfl, if_neg (by omega), if_pos rfl]
        · rw [if_neg (by omega), if_pos rfl, if_neg (by omega), if_neg (by omega), if_pos rfl]
        · rw [if_pos rfl, if_neg (by omega), if_neg (by omega), if_neg (by omega)]
      · rw [if_neg (fun z => y z.2)]
        have hr := lg_ring (show n < s.cc by omega) h20 ht
        unfold lg2
        rw [if_neg (hr 3 (by omega)), if_neg (hr 2 (by omega)), if_neg (hr 1 (by omega)), if_neg (fun e => hr 0 (by omega) (by omega))]
        exact h9 n t (by omega) (by omega) ht
theorem RR_day {w w' : WF} {x : Nat} {K : Kg} {s : Sa} {k : Nat} (hV : KV K) (hk : k < 3) (hK : KM w K) (h : RR w K x s) (hd : DYm w x k K.np K.no (min s.cc 20) s.dd w') : RR w' K x (dayK K s k) := by
  have hv7 := hV.1
  have hL := h.ld hV hK hk
  have hF := h.fs hV hK hk
  have hS := h.sn hV hK hk
  have hC := h.co
  have hv4 := hV.2.1
  obtain ⟨h1, h2, h3, h4, h5, h6, h7, h8, h9⟩ := h
  obtain ⟨w2, ⟨m0, m1, m2, m3, m4, m5, m6, m7, m8, m9, m10⟩, d0, d1, d2, d3⟩ := hd
  refine ⟨fun q hq => ?_, fun q hq => ?_, fun q hq => ?_, fun q hq => ?_, fun q hq => ?_, ?_, d2, ?_, fun n t hn h20 ht => ?_⟩
  · rw [d1 _ (by omega) (by omega), m5 q hq, hS]; exact gf2_congr (h1 q hq)
  · rw [d1 _ (by omega) (by omega), m2 q (by omega)]; exact h2 q hq
  · rw [d3 q (by omega), m3 q (by omega), hF q hq, hC q hq, h3 q hq, hK.2.1]; rfl
  · rw [d1 _ (by omega) (by omega), m4 q (by omega), hS, h4 q hq]; rfl
  · rw [d1 _ (by omega) (by omega), m6 q hq, hS]; exact ho2_congr (h := fun q => w 9 0 1 (x + 42 + q)) (h' := s.ho) (ok := w 9 0 3) (ok' := fun o => nI (K.ok o)) (h5 q hq) (hK.2.2.2.2.2.2.2 q hq) hF
  · rw [d1 _ (by omega) (by omega), m7]; exact h6
  · rw [d1 _ (by omega) (by omega)]
    show _ = nI (min (if ldA K s k = none then s.cc else s.cc + 1) 20)
    by_cases z : ldA K s k = none
    · rw [if_pos z, (m9 (hL.trans z)).1]; exact h8
    · rw [if_neg z]
      obtain ⟨L, hL2⟩ : ∃ L, ldA K s k = some L := by
        cases hl : ldA K s k with
        | none => exact absurd hl z
        | some L => exact ⟨L, rfl⟩
      rw [(m10 L (by rw [hL]; exact hL2)).1]
      unfold lcn
      split
      · rw [show min (s.cc + 1) 20 = 19 + 1 by omega]
      · rw [show min (s.cc + 1) 20 = min s.cc 20 + 1 by omega]
  · change n < (if ldA K s k = none then s.cc else s.cc + 1) at hn
    change (if ldA K s k = none then s.cc else s.cc + 1) ≤ n + 20 at h20
    show w' 9 0 1 (x + 49 + (4 * (n - ((if ldA K s k = none then s.cc else s.cc + 1) - 20)) + t)) = if ldA K s k ≠ none ∧ n = s.cc then lgA K s k t else s.lg n t
    by_cases z : ldA K s k = none
    · rw [if_pos z] at hn h20
      rw [if_pos z, if_neg (fun y => y.1 z), d1 _ (by omega) (by omega), (m9 (hL.trans z)).2 _ (by omega)]
      exact h9 n t hn h20 ht
    · rw [if_neg z] at hn h20
      obtain ⟨L, hL2⟩ : ∃ L, ldA K s k = some L := by
        cases hl : ldA K s k with
        | none => exact absurd hl z
        | some L => exact ⟨L, rfl⟩
      obtain ⟨l1, l2, l3, l4, l5, l6⟩ := m10 L (by rw [hL]; exact hL2)
      have hc : lcn (min s.cc 20) = s.cc - (s.cc + 1 - 20) := by unfold lcn; split <;> omega
      rw [if_neg z, d1 _ (by omega) (by omega)]
      by_cases y : n = s.cc
      · rw [if_pos ⟨z, y⟩, y, ← hc]
        unfold lgA
        have ht4 : t = 0 ∨ t = 1 ∨ t = 2 ∨ t = 3 := by omega
        rcases ht4 with rfl | rfl | rfl | rfl
        · rw [if_pos rfl]; exact l3.trans h7
        · rw [if_neg (by omega), if_pos rfl]; exact l4
        · rw [if_neg (by omega), if_neg (by omega), if_pos rfl, hL2]; exact l5
        · rw [if_neg (by omega), if_neg (by omega), if_neg (by omega), ← hS]; exact l6
      · rw [if_neg (fun z => y z.2), l2 _ (by omega), ← h9 n t (by omega) (by omega) ht]
        congr 1
        split <;> omega
theorem SV_day {K : Kg} {s : Sa} {k : Nat} (h : SV s) : SV (dayK K s k) := by
  obtain ⟨h1, h2, h3⟩ := h
  refine ⟨h1, fun q hq => ?_, ?_⟩
  · show ∃ v, v ≤ 9 ∧ gf2 s.g (snA K s k) k q = nI v
    cases snA K s k with
    | none => exact h2 q hq
    | some p =>
      obtain ⟨v, hv, hg⟩ := h2 q hq
      show ∃ v, v ≤ 9 ∧ (if q = p * 3 + k then mxI (nI 0) (s.g q - nI 1) else s.g q) = nI v
      by_cases z : q = p * 3 + k
      · rw [if_pos z, hg, mx_dec hv rfl]
        have hv9 : ∀ v, v ≤ 9 → (if nI v ≤ 0 then nI 0 else nI v - nI 1) = nI (v - 1) := by decide
        exact ⟨v - 1, by omega, hv9 v hv⟩
      · rw [if_neg z]; exact ⟨v, hv, hg⟩
  · show (if ldA K s k = none then s.cc else s.cc + 1) ≤ s.dd + 1
    split <;> omega
/-- days go by -/
def daysA (K : Kg) : Nat → Sa → Sa
  | 0, s => s
  | n + 1, s => dayA K (daysA K n s)
theorem daysA_dd (K : Kg) (s : Sa) : ∀ n, (daysA K n s).dd = s.dd + n
  | 0 => rfl
  | n + 1 => by
    show (daysA K n s).dd + 1 = _
    rw [daysA_dd K s n]; omega
theorem SV_days {K : Kg} {s : Sa} (h : SV s) : ∀ n, SV (daysA K n s)
  | 0 => h
  | n + 1 => SV_day (SV_days h n)
/-- what a day of the state i leaves as it is -/
def frS (i : Nat) (w w' : WF) : Prop := ∀ c i' o q, c ≠ 1 → ¬ (c = 6 ∧ i' = i) → w' c i' o q = w c i' o q
theorem frS.rf (i : Nat) (w : WF) : frS i w w := fun _ _ _ _ _ _ => rfl
theorem frS.tr {i : Nat} {a b c : WF} (h : frS i a b) (h2 : frS i b c) : frS i a c := fun x y o q hx hy => (h2 x y o q hx hy).trans (h x y o q hx hy)
theorem frS.u {i : Nat} {w w' : WF} (h : frS i w w') (o k : Nat) (v : Int32) : frS i w (u4 w' 6 i o k v) := fun c i' o' q h1 h2 => by
  rw [u4_ne (fun e => h2 (by cases e; exact ⟨rfl, rfl⟩))]; exact h c i' o' q h1 h2
theorem frS.of1 {i : Nat} {w w' : WF} (h : fr1 w w') : frS i w w' := fun c i' o q hc _ => h c i' o q hc
theorem KC_fr {w w' : WF} {i j : Nat} {K : Kg} (h : KC w j K) (hf : frS i w w') : KC w' j K := by
  have e : ∀ o q, w' 4 j o q = w 4 j o q := fun o q => hf 4 j o q (by omega) (by omega)
  unfold KC
  simp only [e]
  exact h
/-- what a day of the row at x leaves as it is -/
def frR (x : Nat) (w w' : WF) : Prop := fr9 w w' ∧ ∀ q, q < x ∨ x + 129 ≤ q → w' 9 0 1 q = w 9 0 1 q
theorem frR.rf (x : Nat) (w : WF) : frR x w w := ⟨fr9.rf w, fun _ _ => rfl⟩
theorem frR.tr {x : Nat} {a b c : WF} (h : frR x a b) (h2 : frR x b c) : frR x a c := ⟨h.1.tr h2.1, fun q hq => (h2.2 q hq).trans (h.2 q hq)⟩
theorem KM_fr9 {w w' : WF} {K : Kg} (h : KM w K) (hf : fr9 w w') : KM w' K := by
  have e0 : ∀ q, w' 9 0 0 q = w 9 0 0 q := fun q => hf 9 0 0 q (by omega)
  have e2 : ∀ q, w' 9 0 2 q = w 9 0 2 q := fun q => hf 9 0 2 q (by omega)
  have e3 : ∀ q, w' 9 0 3 q = w 9 0 3 q := fun q => hf 9 0 3 q (by omega)
  have e4 : ∀ q, w' 9 0 4 q = w 9 0 4 q := fun q => hf 9 0 4 q (by omega)
  unfold KM
  simp only [e0, e2, e3, e4]
  exact h
theorem DY_fr {w w' : WF} {i j k np no cc dd : Nat} (h : DY w i j k np no cc dd w') : frS i w w' := by
  obtain ⟨w2, m, d1, d2, d3⟩ := h
  intro c i' o q h1 h2
  rw [d1 c i' o q (fun y => h2 ⟨y.1, y.2.1⟩)]; exact m.1 c i' o q h1 h2
theorem DYm_fr {w w' : WF} {x k np no lc dd : Nat} (h : DYm w x k np no lc dd w') : frR x w w' := by
  obtain ⟨w2, m, d0, d1, d2, d3⟩ := h
  exact ⟨m.1.tr d0, fun q hq => by rw [d1 q (by omega) (by omega)]; exact m.2.1 q hq⟩
/-- a day, for both -/
theorem a_X6_passDay {l : Launch} {X : XT} {d Lz : Nat} {w : WF} (i j : Nat) {K : Kg} {s : Sa} (hV : KV K) (hK : KC w j K) (h : RC w K i s) (hs : SV s) (hd : s.dd < 2 ^ 30) : WP l X (d + 4) md_X6_passDay (en md_X6_passDay [.inr (.inr (6, i, 0)), .inr (.inr (4, j, 0)), .inr (.inr (1, 0, 0))] (mk Lz w)) (fun v M' => v = none ∧ ∃ w', M' = mk Lz w' ∧ RC w' K i (dayA K s) ∧ frS i w w') :=
  wp_cons (c_X6_passDay i j (kdA K s.dd) (kdA_lt hV _) K.np hK.2.2.1 hV.1 K.no hK.2.2.2.2.1 hV.2.1 s.cc h.2.2.2.2.2.2.2.1 (by have := hs.2.2; omega) s.dd h.2.2.2.2.2.2.1 hd K.nt hK.2.2.2.1 hV.2.2.1 (hK.kd _)) (fun v M hq => by
    obtain ⟨rfl, w', rfl, h2⟩ := hq
    exact ⟨rfl, w', rfl, RC_day (kdA_lt hV _) hK h h2, DY_fr h2⟩)
theorem a_X9_dayIn {l : Launch} {X : XT} {d Lz : Nat} {w : WF} (x : Nat) (hx : x + 130 ≤ 4420) {K : Kg} {s : Sa} (hV : KV K) (hK : KM w K) (h : RR w K x s) (hs : SV s) (hd : s.dd < 2 ^ 30) : WP l X (d + 7) md_X9_dayIn (en md_X9_dayIn [.inr (.inr (9, 0, 0)), .inl (nI x)] (mk Lz w)) (fun v M' => v = none ∧ ∃ w', M' = mk Lz w' ∧ RR w' K x (dayA K s) ∧ frR x w w') :=
  wp_cons (c_X9_dayIn x hx (kdA K s.dd) (kdA_lt hV _) (by rw [h.2.2.2.2.2.1]; exact hs.1) K.np hK.2.2.1 hV.1 K.no hK.2.2.2.2.1 hV.2.1 (min s.cc 20) h.2.2.2.2.2.2.2.1 (by omega) (fun q hq => by rw [h.1 q hq]; exact hs.2.1 q hq) s.dd h.2.2.2.2.2.2.1 hd K.nt hK.2.2.2.1 hV.2.2.1 (hK.kd _)) (fun v M hq => by
    obtain ⟨rfl, w', rfl, h2⟩ := hq
    exact ⟨rfl, w', rfl, RR_day hV (kdA_lt hV _) hK h h2, DYm_fr h2⟩)
