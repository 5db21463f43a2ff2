/-! what is kept stays as it may be -/
theorem ix_in {x : Int32} {c e : Nat} (he : e < 2 ^ 31) (hc : c < 2 ^ 31) (h : inB x (nI c) (nI e) = true) : c ≤ ix x ∧ ix x ≤ e := by
  obtain ⟨m, h1, h2, rfl⟩ := in_num he h hc
  rw [ix_nI (by omega)]; exact ⟨h1, h2⟩
theorem ix_np {x : Int32} {n : Nat} (hn : n < 2 ^ 31) (h : inB x (nI 0) (nI n - nI 1) = true) : ix x < n := by
  obtain ⟨m, h1, rfl⟩ := in_np hn h
  rw [ix_nI (by omega)]; exact h1
theorem SW_e {s : Sa} {p : Nat} {v : Int32} (h : SW s) : SW (s.setE p v) := h
theorem SW_c {s : Sa} {p : Nat} {v : Int32} (h : SW s) : SW (s.setC p v) := h
theorem SW_o {s : Sa} {p : Nat} {v : Int32} (h : SW s) : SW (s.off v p) := h
theorem SW_r {s : Sa} {v : Int32} (hv : v = 0 ∨ v = nI 1) (h : SW s) : SW (s.setR v) := ⟨⟨hv, h.1.2⟩, h.2⟩
theorem SW_g {s : Sa} {p v : Nat} (hv : v ≤ 9) (h : SW s) : SW (s.setG p (nI v)) := ⟨⟨h.1.1, fun q hq => by
  show ∃ u, u ≤ 9 ∧ (if q = p then nI v else s.g q) = nI u
  by_cases z : q = p
  · exact ⟨v, hv, by rw [if_pos z]⟩
  · rw [if_neg z]; exact h.1.2.1 q hq, h.1.2.2⟩, h.2⟩
theorem feed_V {a : AS} {x : Int32} (hV : AVl a) : AVl (f_feed a x).2 := by
  unfold f_feed
  cases hb : inB x (nI 0) (nI 255) with
  | false => exact hV
  | true =>
    by_cases z : a.tn < 240
    · rw [if_pos z]
      have hx := ix_in (by omega) (by omega) hb
      obtain ⟨v1, v2, v3, v4, v5, v6, v7, v8⟩ := hV
      refine ⟨v1, v2, v3, v4, v5, v6, v7, ⟨z, fun q hq => ?_⟩⟩
      show (if q = a.tn then ix x else a.tx q) < 256
      have hq : q < a.tn + 1 := hq
      split
      · omega
      · exact v8.2 q (by omega)
    · rw [if_neg z]; exact hV
theorem see_V {a : AS} {e m : Int32} (hV : AVl a) : AVl (f_see a e m).2 := by
  unfold f_see
  cases hb : inB e (nI 0) (nI 9) with
  | false => exact hV
  | true =>
    cases hc : inB m (nI 0) (nI 99) with
    | false => exact hV
    | true =>
      by_cases z : a.sn < 6
      · rw [if_pos z]
        have hx := ix_in (by omega) (by omega) hb
        have hy := ix_in (by omega) (by omega) hc
        obtain ⟨v1, v2, v3, v4, v5, v6, v7, v8⟩ := hV
        refine ⟨v1, v2, v3, v4, v5, ⟨z, fun q hq => ?_⟩, v7, v8⟩
        show (if q = a.sn then ix e else a.se q) < 10 ∧ (if q = a.sn then ix m else a.sm q) < 100
        have hq : q < a.sn + 1 := hq
        by_cases y : q = a.sn
        · rw [if_pos y, if_pos y]; omega
        · rw [if_neg y, if_neg y]; exact v6.2 q (by omega)
      · rw [if_neg z]; exact hV
theorem write_V {a : AS} {x p : Int32} (hV : AVl a) : AVl (f_write a x p).2 := by
  unfold f_write
  cases hb : isO a x with
  | false => exact hV
  | true =>
    cases hc : (decide (p = -1) || isP a p) with
    | false => exact hV
    | true =>
      by_cases z : a.bn < 20
      · rw [if_pos z]
        have h4 := hV.1.2.1
        have hx := ix_np (by omega) hb
        obtain ⟨v1, v2, v3, v4, v5, v6, v7, v8⟩ := hV
        refine ⟨v1, v2, v3, v4, v5, v6, ⟨z, fun q hq => ?_⟩, v8⟩
        show (if q = a.bn then ix x else a.bo q) < a.K.no
        have hq : q < a.bn + 1 := hq
        split
        · exact hx
        · exact v7.2 q (by omega)
      · rw [if_neg z]; exact hV
theorem tear_V {a : AS} (hV : AVl a) : AVl a.tear := by
  obtain ⟨v1, v2, v3, v4, v5, v6, v7, v8⟩ := hV
  exact ⟨v1, v2, v3, v4, v5, ⟨Nat.zero_le _, fun q hq => absurd hq (Nat.not_lt_zero q)⟩, ⟨Nat.zero_le _, fun q hq => absurd hq (Nat.not_lt_zero q)⟩, v8⟩
theorem seed_V {a : AS} {v : Int32} (hV : AVl a) : AVl (f_seed a v).2 := by
  unfold f_seed
  by_cases z : v < 0
  · rw [if_pos z]; exact hV
  · rw [if_neg z]
    obtain ⟨m, hm, rfl⟩ := nI_of z
    obtain ⟨v1, v2, v3, v4, v5, v6, v7, v8⟩ := hV
    exact ⟨v1, v2, v3, v4, by show ix (nI m) < 2 ^ 31; rw [ix_nI hm]; exact hm, v6, v7, v8⟩
theorem keep_V {a : AS} {i : Int32} (hV : AVl a) : AVl (f_keep a i).2 := by
  unfold f_keep
  cases hb : inB i (nI 0) (nI 1) with
  | false => exact hV
  | true =>
    obtain ⟨v1, v2, v3, v4, v5, v6, v7, v8⟩ := hV
    refine ⟨v1, v2, ⟨Nat.zero_le _, fun q hq => absurd hq (Nat.not_lt_zero q)⟩, fun q hq hk => ?_, v5, v6, v7, v8⟩
    have hk : (if q = ix i then true else a.kp q) = true := hk
    show SW (if q = ix i then a.s else a.im q) ∧ (if q = ix i then a.sd else a.is q) < 2 ^ 31
    by_cases y : q = ix i
    · rw [if_pos y, if_pos y]; exact ⟨v2, v5⟩
    · rw [if_neg y] at hk
      rw [if_neg y, if_neg y]; exact v4 q hq hk
theorem goBack_V {a : AS} {i : Int32} (hV : AVl a) : AVl (f_goBack a i).2 := by
  unfold f_goBack
  cases hb : inB i (nI 0) (nI 1) with
  | false => exact hV
  | true =>
    have hx := ix_in (by omega) (by omega) hb
    cases hk : a.kp (ix i) with
    | false => exact hV
    | true =>
      obtain ⟨v1, v2, v3, v4, v5, v6, v7, v8⟩ := hV
      have h4 := v4 (ix i) (by omega) hk
      exact ⟨v1, h4.1, ⟨Nat.zero_le _, fun q hq => absurd hq (Nat.not_lt_zero q)⟩, v4, h4.2, v6, v7, v8⟩
theorem effort_V {a : AS} {p e : Int32} (hV : AVl a) : AVl (f_effort a p e).2 := by
  unfold f_effort
  cases isP a p with
  | false => exact hV
  | true =>
    cases inB e (nI 0) (nI 9) with
    | false => exact hV
    | true => exact rem_V hV (SW_e hV.2.1) hV.2.2.2.2.1
theorem rain_V {a : AS} {v : Int32} (hv : v = 0 ∨ v = 1) (hV : AVl a) : AVl (f_rain a v).2 := by
  unfold f_rain
  by_cases z : a.K.law = -1
  · rw [if_pos z]; exact hV
  · rw [if_neg z]; exact rem_V hV (SW_r hv hV.2.1) hV.2.2.2.2.1
theorem teach_V {a : AS} {p k v : Int32} (hV : AVl a) : AVl (f_teach a p k v).2 := by
  unfold f_teach
  cases isP a p with
  | false => exact hV
  | true =>
    cases isKd k with
    | false => exact hV
    | true =>
      cases hb : inB v (nI 0) (nI 9) with
      | false => exact hV
      | true =>
        obtain ⟨m, _, h2, rfl⟩ := in_num (by omega) hb (by omega)
        exact rem_V hV (SW_g h2 hV.2.1) hV.2.2.2.2.1
theorem send_V {a : AS} {p : Int32} (hV : AVl a) : AVl (f_send a p).2 := by
  unfold f_send
  cases isP a p with
  | false => exact hV
  | true =>
    cases coA a.s (ix p) with
    | false => exact hV
    | true => exact rem_V hV (SW_o hV.2.1) hV.2.2.2.2.1
theorem recall_V {a : AS} {p : Int32} (hV : AVl a) : AVl (f_recall a p).2 := by
  unfold f_recall
  cases isP a p with
  | false => exact hV
  | true =>
    cases coA a.s (ix p) with
    | true => exact hV
    | false => exact rem_V hV (SW_c hV.2.1) hV.2.2.2.2.1
theorem undo_V {a : AS} {n : Int32} (hV : AVl a) : AVl (f_undo a n).2 := by
  unfold f_undo
  cases hb : inB n (nI 1) (nI 30) with
  | false => exact hV
  | true =>
    have hx := ix_in (by omega) (by omega) hb
    by_cases z : ix n ≤ a.n
    · rw [if_pos z]
      obtain ⟨v1, v2, v3, v4, v5, v6, v7, v8⟩ := hV
      refine ⟨v1, v3.2 (a.n - ix n) (by omega), ⟨?_, fun m hm => ?_⟩, v4, v5, v6, v7, v8⟩
      · show a.n - ix n ≤ 30
        have := v3.1; omega
      · have hm : m < a.n - ix n := hm
        exact v3.2 m (by omega)
    · rw [if_neg z]; exact hV
theorem day_V {a : AS} {n : Int32} (hV : AVl a) : AVl (f_day a n).2 := by
  unfold f_day
  by_cases z : wnd a n = 0
  · rw [if_pos z]
    obtain ⟨h1, h2, h3⟩ := wnd_0 z
    have hx := ix_in (by omega) (by omega) h1
    exact (dit_V hV (ix n) (by omega)).1
  · rw [if_neg z]; exact hV
theorem drift_V {a : AS} {n : Int32} (hV : AVl a) : AVl (f_drift a n).2 := by
  unfold f_drift
  by_cases z : wnd a n = 0
  · rw [if_pos z]
    obtain ⟨h1, h2, h3⟩ := wnd_0 z
    have hx := ix_in (by omega) (by omega) h1
    exact (rit_V hV (ix n) (by omega)).1
  · rw [if_neg z]; exact hV
/-! at first -/
def a0 : AS := ((-1, nI 0, 0, 0, 0, (fun _ => nI 0), (fun _ => 0), (fun _ => 0)), ((fun _ => nI 0), (fun _ => nI 0), (fun _ => nI 0), (fun _ => nI 0), (fun _ => nI 0), nI 0, 0, 0, (fun _ _ => nI 0)), (0, fun _ => ((fun _ => nI 0), (fun _ => nI 0), (fun _ => nI 0), (fun _ => nI 0), (fun _ => nI 0), nI 0, 0, 0, (fun _ _ => nI 0))), ((fun _ => false), (fun _ => ((fun _ => nI 0), (fun _ => nI 0), (fun _ => nI 0), (fun _ => nI 0), (fun _ => nI 0), nI 0, 0, 0, (fun _ _ => nI 0))), (fun _ => 0)), 0, (0, (fun _ => 0), (fun _ => 0)), (0, (fun _ => 0), (fun _ => nI 0)), (0, (fun _ => 0)), -1)
theorem a0_V : AVl a0 := ⟨⟨Nat.zero_le _, Nat.zero_le _, Nat.zero_le _, fun _ => by show (0 : Nat) < 3; omega, fun _ => by show (0 : Nat) < 3; omega⟩, ⟨⟨Or.inl rfl, fun q _ => ⟨0, by omega, rfl⟩, Nat.le_refl _⟩, Nat.zero_le _⟩, ⟨Nat.zero_le _, fun q hq => absurd hq (Nat.not_lt_zero q)⟩, fun i hi hk => absurd hk Bool.false_ne_true, by show (0 : Nat) < 2 ^ 31; omega, ⟨Nat.zero_le _, fun q hq => absurd hq (Nat.not_lt_zero q)⟩, ⟨Nat.zero_le _, fun q hq => absurd hq (Nat.not_lt_zero q)⟩, ⟨Nat.zero_le _, fun q hq => absurd hq (Nat.not_lt_zero q)⟩⟩
def wB (w : WF) : WF := u4 (u4 (wA w) 9 0 0 4 (-1)) 9 0 0 13 (-1)
theorem wB_13 (w : WF) (q : Nat) : wB w 13 0 0 q = w 13 0 0 q := by
  unfold wB wA
  rw [u4_ne (by decide), u4_ne (by decide), u4_ne (by decide), u4_ne (by decide), u4_ne (by decide), u4_ne (by decide), u4_ne (by decide), u4_ne (by decide), u4_ne (by decide)]
theorem wB_0 {w : WF} (hz : ∀ c i o q, c < 10 → w c i o q = nI 0) {c i o q : Nat} (hc : c < 10) (h : ¬ (o = 0 ∧ (c = 7 ∨ c = 1 ∨ (c = 4 ∧ q = 4) ∨ (c = 8 ∧ (q = 8 ∨ q = 9)) ∨ (c = 9 ∧ (q = 4 ∨ q = 13))))) : wB w c i o q = nI 0 := by
  unfold wB wA u4
  rw [if_neg (by omega), if_neg (by omega), if_neg (by omega), if_neg (by omega), if_neg (by omega), if_neg (by omega), if_neg (by omega), if_neg (by omega), if_neg (by omega)]
  exact hz c i o q hc
theorem wB_C {w : WF} (hz : ∀ c i o q, c < 10 → w c i o q = nI 0) : CRel (wB w) a0 := by
  have e8 : wB w 8 0 0 8 = nI 0 := by
    unfold wB wA
    rw [u4_ne (by decide), u4_ne (by decide), u4_k (by omega), u4_ne (by decide), u4_self]
  have e9 : wB w 8 0 0 9 = nI 1 := by
    unfold wB wA
    rw [u4_ne (by decide), u4_ne (by decide), u4_self]
  have e4 : wB w 4 0 0 4 = -1 := by
    unfold wB wA
    rw [u4_ne (by decide), u4_ne (by decide), u4_ne (by decide), u4_ne (by decide), u4_ne (by decide), u4_self]
  have e7 : wB w 7 0 0 4 = -1 := by
    unfold wB wA
    rw [u4_ne (by decide), u4_ne (by decide), u4_ne (by decide), u4_ne (by decide), u4_ne (by decide), u4_ne (by decide), u4_ne (by decide), u4_ne (by decide), u4_self]
  have e71 : wB w 7 0 0 1 = nI 0 := by
    unfold wB wA
    rw [u4_ne (by decide), u4_ne (by decide), u4_ne (by decide), u4_ne (by decide), u4_ne (by decide), u4_ne (by decide), u4_ne (by decide), u4_ne (by decide), u4_k (by omega)]
    exact hz _ _ _ _ (by decide)
  refine ⟨⟨0, by omega, e8, e9⟩, ?_, ⟨fun q hq => absurd hq (by show ¬ q < 3 * 0; omega), fun q hq => absurd hq (Nat.not_lt_zero q), fun q hq => absurd hq (Nat.not_lt_zero q), fun q hq => absurd hq (Nat.not_lt_zero q), fun q hq => absurd hq (Nat.not_lt_zero q), wB_0 hz (by omega) (by omega), wB_0 hz (by omega) (by omega), wB_0 hz (by omega) (by omega), fun n t hn _ _ => absurd hn (Nat.not_lt_zero n)⟩, ⟨wB_0 hz (by omega) (by omega), 0, by omega, wB_0 hz (by omega) (by omega), fun m hm => absurd hm (Nat.not_lt_zero m)⟩, fun i hi => ⟨wB_0 hz (by omega) (by omega), fun hk => absurd hk Bool.false_ne_true⟩, wB_0 hz (by omega) (by omega), ⟨wB_0 hz (by omega) (by omega), fun q hq => absurd hq (Nat.not_lt_zero q)⟩, ⟨wB_0 hz (by omega) (by omega), fun q hq => absurd hq (Nat.not_lt_zero q)⟩, ⟨e71, fun q hq => absurd hq (Nat.not_lt_zero q)⟩, e7⟩
  unfold KX
  rw [e8, nI_clamp (by omega)]
  exact ⟨e4, wB_0 hz (by omega) (by omega), wB_0 hz (by omega) (by omega), wB_0 hz (by omega) (by omega), wB_0 hz (by omega) (by omega), fun q hq => absurd hq (Nat.not_lt_zero q), fun q hq => absurd hq (Nat.not_lt_zero q), fun q hq => absurd hq (Nat.not_lt_zero q)⟩
theorem wB_M {w : WF} (hz : ∀ c i o q, c < 10 → w c i o q = nI 0) : MRel (wB w) a0 := by
  have e4 : wB w 9 0 0 4 = -1 := by
    unfold wB
    rw [u4_k (by omega), u4_self]
  have e13 : wB w 9 0 0 13 = -1 := by
    unfold wB
    rw [u4_self]
  have z : ∀ q, wB w 9 0 1 q = nI 0 := fun q => wB_0 hz (by omega) (by omega)
  have z0 : ∀ q, q ≠ 4 → q ≠ 13 → wB w 9 0 0 q = nI 0 := fun q h1 h2 => wB_0 hz (by omega) (by omega)
  exact ⟨⟨e4, z0 5 (by omega) (by omega), z0 6 (by omega) (by omega), z0 8 (by omega) (by omega), z0 7 (by omega) (by omega), fun q hq => absurd hq (Nat.not_lt_zero q), fun q hq => absurd hq (Nat.not_lt_zero q), fun q hq => absurd hq (Nat.not_lt_zero q)⟩, ⟨fun q hq => z _, fun q hq => absurd hq (Nat.not_lt_zero q), fun q hq => absurd hq (Nat.not_lt_zero q), fun q hq => absurd hq (Nat.not_lt_zero q), fun q hq => absurd hq (Nat.not_lt_zero q), z _, z _, z _, fun n t hn _ _ => absurd hn (Nat.not_lt_zero n)⟩, ⟨z0 9 (by omega) (by omega), fun m hm => absurd hm (Nat.not_lt_zero m)⟩, ⟨z0 10 (by omega) (by omega), fun i hi hk => absurd hk Bool.false_ne_true⟩, z _, ⟨z0 16 (by omega) (by omega), fun q hq => absurd hq (Nat.not_lt_zero q)⟩, ⟨z0 19 (by omega) (by omega), fun q hq => absurd hq (Nat.not_lt_zero q)⟩, ⟨z0 12 (by omega) (by omega), fun q hq => absurd hq (Nat.not_lt_zero q)⟩, e13⟩
