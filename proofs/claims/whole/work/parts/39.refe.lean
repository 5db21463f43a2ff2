/-! the reference: a day, together -/
def STm (w : WF) (x : Nat) (F : Nat → Bool) (tm : Int32) (no n : Nat) (w' : WF) : Prop := fr9 w w' ∧ (∀ q, ¬ (x + 28 ≤ q ∧ q < x + 35) → ¬ (x + 42 ≤ q ∧ q < x + 46) → w' 9 0 1 q = w 9 0 1 q) ∧ (∀ q, q < 7 → w' 9 0 1 (x + 28 + q) = if q < n ∧ F q = true then tm else w 9 0 1 (x + 28 + q)) ∧ (∀ q, q < no → w' 9 0 1 (x + 42 + q) = ho1 (fun o => w 9 0 1 (x + 42 + o)) F n q)
theorem STm_0 (w : WF) (x : Nat) (F : Nat → Bool) (tm : Int32) (no : Nat) : STm w x F tm no 0 w := ⟨fr9.rf w, fun _ _ _ => rfl, fun q _ => by rw [if_neg (by omega)], fun _ _ => rfl⟩
theorem STm_t {w w' w2 : WF} {x n no : Nat} {F : Nat → Bool} {tm : Int32} (h : STm w x F tm no n w') (hF : F n = true) (ht : GOi w' x n tm no w2) : STm w x F tm no (n + 1) w2 := by
  obtain ⟨h1, h2, h3, h4⟩ := h
  obtain ⟨t1, t2, t3, t4, -⟩ := ht
  refine ⟨h1.tr t1, fun q a b => by rw [t2 q a b]; exact h2 q a b, fun q hq => ?_, fun q hq => ?_⟩
  · rw [t3 q hq]
    by_cases z : q = n
    · subst z; rw [if_pos rfl, if_pos ⟨by omega, hF⟩]
    · rw [if_neg z, h3 q hq]
      by_cases z2 : q < n ∧ F q = true
      · rw [if_pos z2, if_pos ⟨by omega, z2.2⟩]
      · rw [if_neg z2, if_neg (fun y => z2 ⟨by omega, y.2⟩)]
  · rw [t4 q hq, h4 q hq]
    show _ = if F n = true ∧ ho1 (fun o => w 9 0 1 (x + 42 + o)) F n q = nI n then -1 else ho1 (fun o => w 9 0 1 (x + 42 + o)) F n q
    by_cases z : ho1 (fun o => w 9 0 1 (x + 42 + o)) F n q = nI n
    · rw [if_pos z, if_pos ⟨hF, z⟩]
    · rw [if_neg z, if_neg (fun y => z y.2)]
theorem STm_f {w w' : WF} {x n no : Nat} {F : Nat → Bool} {tm : Int32} (h : STm w x F tm no n w') (hF : F n = false) : STm w x F tm no (n + 1) w' := by
  obtain ⟨h1, h2, h3, h4⟩ := h
  refine ⟨h1, h2, fun q hq => ?_, fun q hq => ?_⟩
  · rw [h3 q hq]
    by_cases z2 : q < n ∧ F q = true
    · rw [if_pos z2, if_pos ⟨by omega, z2.2⟩]
    · rw [if_neg z2, if_neg (fun y => ?_)]
      by_cases z : q = n
      · subst z; rw [hF] at y; cases y.2
      · exact z2 ⟨by omega, y.2⟩
  · rw [h4 q hq]
    show _ = if F n = true ∧ ho1 (fun o => w 9 0 1 (x + 42 + o)) F n q = nI n then -1 else ho1 (fun o => w 9 0 1 (x + 42 + o)) F n q
    rw [if_neg (fun y => by rw [hF] at y; cases y.1)]
def PHi (w : WF) (x s k n : Nat) (w' : WF) : Prop := fr9 w w' ∧ (∀ q, ¬ (x + 42 ≤ q ∧ q < x + 46) → w' 9 0 1 q = w 9 0 1 q) ∧ (∀ q, q < n → w' 9 0 1 (x + 42 + q) = if w 9 0 3 q = nI k then nI s else w 9 0 1 (x + 42 + q)) ∧ (∀ q, n ≤ q → w' 9 0 1 (x + 42 + q) = w 9 0 1 (x + 42 + q))
theorem PHi_0 (w : WF) (x s k : Nat) : PHi w x s k 0 w := ⟨fr9.rf w, fun _ _ => rfl, fun q hq => absurd hq (by omega), fun _ _ => rfl⟩
theorem PHi_s {w w' : WF} {x s k n : Nat} {v : Int32} (hn : n < 4) (h : PHi w x s k n w') (hv : v = if w 9 0 3 n = nI k then nI s else w 9 0 1 (x + 42 + n)) : PHi w x s k (n + 1) (u4 w' 9 0 1 (x + 42 + n) v) := by
  obtain ⟨h1, h2, h4, h5⟩ := h
  refine ⟨h1.u _ _, fun q a => ?_, fun q hq => ?_, fun q hq => ?_⟩
  · rw [u4_k (by omega)]; exact h2 q a
  · rw [u4_at]
    by_cases e : q = n
    · subst e; rw [if_pos rfl]; exact hv
    · rw [if_neg (by omega)]; exact h4 q (by omega)
  · rw [u4_k (by omega)]; exact h5 q (by omega)
/-- being made, in the reference -/
def PMm (w : WF) (x s k no : Nat) (w' : WF) : Prop := fr9 w w' ∧ (∀ q, ¬ q < x + 21 ∨ q < x → ¬ (x + 35 ≤ q ∧ q < x + 46) → w' 9 0 1 q = w 9 0 1 q) ∧ (∀ q, q < no → w' 9 0 1 (x + 42 + q) = if w 9 0 3 q = nI k then nI s else w 9 0 1 (x + 42 + q)) ∧ (∀ q, q < 7 → w' 9 0 1 (x + 35 + q) = if q = s then w 9 0 1 (x + 35 + q) + nI 1 else w 9 0 1 (x + 35 + q)) ∧ (∀ q, q < 21 → w' 9 0 1 (x + q) = if q = s * 3 + k then mxI (nI 0) (w 9 0 1 (x + q) - nI 1) else w 9 0 1 (x + q))
theorem mx_dec {g : Int32} {v : Nat} (hv : v ≤ 9) (hg : g = nI v) : mxI (nI 0) (g - nI 1) = if g ≤ 0 then nI 0 else g - nI 1 := by
  subst hg
  exact (by decide : ∀ v, v ≤ 9 → mxI (nI 0) (nI v - nI 1) = if nI v ≤ 0 then nI 0 else nI v - nI 1) v hv
theorem PMm_of {w wn : WF} {x s k no : Nat} {g : Int32} (hs : s < 7) (hk : k < 3) (h4 : no ≤ 4) (h : PHi w x s k no wn) (hg : g = mxI (nI 0) (w 9 0 1 (x + (s * 3 + k)) - nI 1)) : PMm w x s k no (u4 (u4 wn 9 0 1 (x + 35 + s) (wn 9 0 1 (x + 35 + s) + nI 1)) 9 0 1 (x + 3 * s + k) g) := by
  obtain ⟨h1, h2, h3, h5⟩ := h
  refine ⟨(h1.u _ _).u _ _, fun q a b => ?_, fun q hq => ?_, fun q hq => ?_, fun q hq => ?_⟩
  · rw [u4_k (by omega), u4_k (by omega)]; exact h2 q (by omega)
  · rw [u4_k (by omega), u4_k (by omega)]; exact h3 q hq
  · rw [u4_k (by omega), u4_at, h2 _ (by omega), h2 _ (by omega)]
    by_cases e : q = s
    · subst e; simp
    · rw [if_neg (by omega), if_neg e]
  · rw [u4_at]
    by_cases e : q = s * 3 + k
    · rw [if_pos (by omega), if_pos e, hg, e]
    · rw [if_neg (by omega), if_neg e, u4_k (by omega)]; exact h2 _ (by omega)
/-- what a contest leaves in a row -/
def SEm (w : WF) (x k np no lc : Nat) (F : Nat → Bool) (a b : Int32) (S : Option Nat) (w' : WF) : Prop := fr9 w w' ∧ (∀ q, q < x ∨ x + 129 ≤ q → w' 9 0 1 q = w 9 0 1 q) ∧ (∀ q, q < 7 → w' 9 0 1 (x + 21 + q) = w 9 0 1 (x + 21 + q)) ∧ (∀ q, q < 7 → w' 9 0 1 (x + 28 + q) = if q < np ∧ F q = true then w 9 0 0 5 else w 9 0 1 (x + 28 + q)) ∧ (∀ q, q < 7 → w' 9 0 1 (x + 35 + q) = if S = some q then w 9 0 1 (x + 35 + q) + nI 1 else w 9 0 1 (x + 35 + q)) ∧ (∀ q, q < 21 → w' 9 0 1 (x + q) = gf2 (fun q => w 9 0 1 (x + q)) S k q) ∧ (∀ q, q < no → w' 9 0 1 (x + 42 + q) = ho2 (fun q => w 9 0 1 (x + 42 + q)) (w 9 0 3) F S k np q) ∧ w' 9 0 1 (x + 46) = w 9 0 1 (x + 46) ∧ w' 9 0 1 (x + 47) = w 9 0 1 (x + 47) ∧ (w' 9 0 1 (x + 48) = nI (lcn lc + 1) ∧ (∀ q, q < 4 * lcn lc → w' 9 0 1 (x + 49 + q) = w 9 0 1 (x + 49 + (if lc = 20 then q + 4 else q))) ∧ w' 9 0 1 (x + 49 + 4 * lcn lc) = w 9 0 1 (x + 47) ∧ w' 9 0 1 (x + 49 + (4 * lcn lc + 1)) = nI k ∧ w' 9 0 1 (x + 49 + (4 * lcn lc + 2)) = a ∧ w' 9 0 1 (x + 49 + (4 * lcn lc + 3)) = b)
theorem SEm_of0 {w wn w' : WF} {x k np no lc : Nat} {F : Nat → Bool} {a b : Int32} (h4 : no ≤ 4) (hl : lc ≤ 20) (h : STm w x F (w 9 0 0 5) no np wn) (hg : LGM wn x lc (wn 9 0 1 (x + 47)) (nI k) a b w') : SEm w x k np no lc F a b none w' := by
  obtain ⟨h1, h2, h3, h5⟩ := h
  obtain ⟨g1, g2, g3, g4, g5, g6, g7, g8⟩ := hg
  have hc : lcn lc ≤ 19 := by unfold lcn; split <;> omega
  refine ⟨h1.tr g1, fun q hq => ?_, fun q hq => ?_, fun q hq => ?_, fun q hq => ?_, fun q hq => ?_, fun q hq => ?_, ?_, ?_, g3, fun q hq => ?_, ?_, g6, g7, g8⟩
  · rw [g2 q (by omega)]; exact h2 q (by omega) (by omega)
  · rw [g2 _ (by omega)]; exact h2 _ (by omega) (by omega)
  · rw [g2 _ (by omega)]; exact h3 q hq
  · rw [g2 _ (by omega), h2 _ (by omega) (by omega), if_neg (by intro z; cases z)]
  · rw [g2 _ (by omega), h2 _ (by omega) (by omega)]; rfl
  · rw [g2 _ (by omega), h5 q hq]; rfl
  · rw [g2 _ (by omega), h2 _ (by omega) (by omega)]
  · rw [g2 _ (by omega), h2 _ (by omega) (by omega)]
  · rw [g4 q hq, h2 _ (by omega) (by omega)]
  · rw [g5, h2 _ (by omega) (by omega)]
theorem SEm_of1 {w wn w3 w' : WF} {x k np no lc s : Nat} {F : Nat → Bool} {a b : Int32} (h4 : no ≤ 4) (hl : lc ≤ 20) (h : STm w x F (w 9 0 0 5) no np wn) (hp : PMm wn x s k no w3) (hg : LGM w3 x lc (w3 9 0 1 (x + 47)) (nI k) a b w') : SEm w x k np no lc F a b (some s) w' := by
  obtain ⟨h1, h2, h3, h5⟩ := h
  obtain ⟨p1, p2, p3, p4, p5⟩ := hp
  obtain ⟨g1, g2, g3, g4, g5, g6, g7, g8⟩ := hg
  have hc : lcn lc ≤ 19 := by unfold lcn; split <;> omega
  refine ⟨(h1.tr p1).tr g1, fun q hq => ?_, fun q hq => ?_, fun q hq => ?_, fun q hq => ?_, fun q hq => ?_, fun q hq => ?_, ?_, ?_, g3, fun q hq => ?_, ?_, g6, g7, g8⟩
  · rw [g2 q (by omega), p2 q (by omega) (by omega)]; exact h2 q (by omega) (by omega)
  · rw [g2 _ (by omega), p2 _ (by omega) (by omega)]; exact h2 _ (by omega) (by omega)
  · rw [g2 _ (by omega), p2 _ (by omega) (by omega)]; exact h3 q hq
  · rw [g2 _ (by omega), p4 q hq, h2 _ (by omega) (by omega)]
    by_cases z : q = s
    · subst z; simp
    · rw [if_neg z, if_neg (fun y => z (by cases y; rfl))]
  · rw [g2 _ (by omega), p5 q hq, h2 _ (by omega) (by omega)]; rfl
  · rw [g2 _ (by omega), p3 q hq, h5 q hq, h1 9 0 3 q (by omega)]; rfl
  · rw [g2 _ (by omega), p2 _ (by omega) (by omega), h2 _ (by omega) (by omega)]
  · rw [g2 _ (by omega), p2 _ (by omega) (by omega), h2 _ (by omega) (by omega)]
  · rw [g4 q hq, p2 _ (by omega) (by omega), h2 _ (by omega) (by omega)]
  · rw [g5, p2 _ (by omega) (by omega), h2 _ (by omega) (by omega)]
/-- the leader is the least of the first ones -/
theorem ldr_least {co : Nat → Bool} {law : Int32} {dr mk : Nat → Int32} (h2 : law = nI 2) : ∀ n b, bst co (ahd law dr mk) n = some b → ∀ q, q < n → co q = true → (mk q ≤ mk b ∧ (mk q = mk b → b ≤ q))
  | 0, b, h, q, hq, _ => by omega
  | n + 1, b, h, q, hq, hc => by
    have h1 : ¬ law = nI 1 := by rw [h2]; decide
    cases hb : bst co (ahd law dr mk) n with
    | none =>
      have hn := bst_some n hb
      by_cases e : q = n
      · subst e
        rw [bst_new hb hc] at h
        cases h
        exact ⟨Int32.le_refl _, fun _ => Nat.le_refl _⟩
      · rw [hn q (by omega)] at hc; cases hc
    | some c =>
      have ih := ldr_least (dr := dr) h2 n c hb
      have hcl := bst_lt n c hb
      cases hs : co n with
      | false =>
        rw [bst_no hs, hb] at h
        cases h
        by_cases e : q = n
        · subst e; rw [hs] at hc; cases hc
        · exact ih q (by omega) hc
      | true =>
        cases ha : ahd law dr mk n c with
        | true =>
          rw [bst_up hb hs ha] at h
          cases h
          unfold ahd at ha
          by_cases em : mk n = mk c
          · rw [if_pos em, if_neg h1] at ha
            have := of_decide_eq_true ha
            omega
          · rw [if_neg em] at ha
            have hlt : mk c < mk n := of_decide_eq_true ha
            by_cases e : q = n
            · subst e; exact ⟨Int32.le_refl _, fun _ => Nat.le_refl _⟩
            · have := (ih q (by omega) hc).1
              have h3 : mk q < mk n := Int32.lt_of_le_of_lt this hlt
              exact ⟨Int32.le_of_lt h3, fun z => absurd h3 (by rw [z]; exact Int32.lt_irrefl)⟩
        | false =>
          rw [bst_keep hb ha] at h
          cases h
          by_cases e : q = n
          · subst e
            unfold ahd at ha
            by_cases em : mk q = mk b
            · exact ⟨by rw [em]; exact Int32.le_refl _, fun _ => by omega⟩
            · rw [if_neg em] at ha
              have := of_decide_eq_false ha
              exact ⟨Int32.not_lt.mp this, fun z => absurd z em⟩
          · exact ih q (by omega) hc
theorem fst_least {co : Nat → Bool} {law : Int32} {dr mk : Nat → Int32} {np b : Nat} (h : ldr co law dr mk np = some b) : b < np ∧ fst' co law dr mk np b = true ∧ ∀ q, q < b → fst' co law dr mk np q = false := by
  have hb := bst_lt np b h
  unfold fst'
  rw [h]
  refine ⟨hb.1, ?_, fun q hq => ?_⟩
  · show (if law = nI 2 then co b && decide (mk b = mk b) else decide (b = b)) = true
    split
    · rw [hb.2]; simp
    · simp
  · show (if law = nI 2 then co q && decide (mk q = mk b) else decide (q = b)) = false
    split
    · rename_i h2
      cases hc : co q with
      | false => rfl
      | true =>
        have := ldr_least h2 np b h q (by omega) hc
        have hne : ¬ mk q = mk b := fun z => by have := this.2 z; omega
        simp [hne]
    · simp; omega
set_option maxRecDepth 20000 in
theorem r_X9_contest0 {l : Launch} {X : XT} {d Lz : Nat} {w : Nat → Nat → Nat → Nat → Int32} (x : Nat) (hx : x + 130 ≤ 4420) (k : Nat) (hk : k < 3) (hr : w 9 0 1 (x + 46) = 0 ∨ w 9 0 1 (x + 46) = nI 1) (np : Nat) (hnp : w 9 0 0 6 = nI np) (hn7 : np ≤ 7) (no : Nat) (hno : w 9 0 0 7 = nI no) (hn4 : no ≤ 4) (lc : Nat) (hlc : w 9 0 1 (x + 48) = nI lc) (hl : lc ≤ 20) (hg : ∀ q, q < 21 → ∃ v, v ≤ 9 ∧ w 9 0 1 (x + q) = nI v) (L : Nat) (hL : LDM w x k np = some L) (wn : WF) (hi : STm w x (FSM w x k np) (w 9 0 0 5) no np wn) (hS : SNM w x k np = none) (z : Option AV) : WP l X (d + 3) md_X9_contestIn (49, [some (.inr (.inr (9, 0, 0))), some (.inl (nI x)), some (.inl (nI k)), some (.inl (enc (FSM w x k np) np)), some (.inl (-1)), z], [], mk Lz wn) (fun v M' => v = none ∧ ∃ w', M' = mk Lz w' ∧ SEm w x k np no lc (FSM w x k np) (nI L) (oI (SNM w x k np)) (SNM w x k np) w') := by
  refine x_iload (pc' := 51) rfl rfl rfl (x_iconst (pc' := 52) rfl rfl ?_)
  refine x_icmp_eq (pc' := 55) rfl rfl (fun h52 => ?_) (fun h52 => absurd rfl h52)
  refine x_aload_n (pc' := 170) rfl rfl rfl (x_iload_n (pc' := 171) rfl rfl rfl (x_iload_n (pc' := 172) rfl rfl rfl (x_iload_n (pc' := 173) rfl rfl rfl (x_invS1 (pc' := 176) rfl rfl rfl rfl (c_X9_least (FSM w x k np) np L hn7 (fst_least hL).1 (fst_least hL).2.1 (fst_least hL).2.2) ?_))))
  refine x_iload (pc' := 178) rfl rfl rfl (x_invQ5 (pc' := 181) rfl rfl rfl rfl rfl rfl rfl (c_X9_logIn x hx lc (by rw [hi.2.1 _ (by omega) (by omega)]; exact hlc) hl (nI k) (nI L) (-1)) (fun vq Mq hq178 => ?_))
  obtain ⟨rfl, w4, rfl, hg4⟩ := hq178
  show WP l X _ md_X9_contestIn (181, _, [], _) _
  refine x_vret rfl rfl ?_
  exact ⟨rfl, _, rfl, by rw [hS]; exact SEm_of0 hn4 hl hi hg4⟩
set_option maxRecDepth 20000 in
theorem r_X9_contest2 {l : Launch} {X : XT} {d Lz : Nat} {w : Nat → Nat → Nat → Nat → Int32} (x : Nat) (hx : x + 130 ≤ 4420) (k : Nat) (hk : k < 3) (hr : w 9 0 1 (x + 46) = 0 ∨ w 9 0 1 (x + 46) = nI 1) (np : Nat) (hnp : w 9 0 0 6 = nI np) (hn7 : np ≤ 7) (no : Nat) (hno : w 9 0 0 7 = nI no) (hn4 : no ≤ 4) (lc : Nat) (hlc : w 9 0 1 (x + 48) = nI lc) (hl : lc ≤ 20) (hg : ∀ q, q < 21 → ∃ v, v ≤ 9 ∧ w 9 0 1 (x + q) = nI v) (L : Nat) (hL : LDM w x k np = some L) (wn : WF) (hi : STm w x (FSM w x k np) (w 9 0 0 5) no np wn) (s : Nat) (hS : SNM w x k np = some s) (hs : s < np) (wm : WF) (hm : PHi wn x s k no wm) (g : Int32) (hgg : g = mxI (nI 0) (wn 9 0 1 (x + (s * 3 + k)) - nI 1)) (z : Option AV) : WP l X (d + 3) md_X9_contestIn (169, [some (.inr (.inr (9, 0, 0))), some (.inl (nI x)), some (.inl (nI k)), some (.inl (enc (FSM w x k np) np)), some (.inl (nI s)), z], [], mk Lz (u4 (u4 wm 9 0 1 (x + 35 + s) (wm 9 0 1 (x + 35 + s) + nI 1)) 9 0 1 (x + 3 * s + k) g)) (fun v M' => v = none ∧ ∃ w', M' = mk Lz w' ∧ SEm w x k np no lc (FSM w x k np) (nI L) (oI (SNM w x k np)) (SNM w x k np) w') := by
  have hpm := PMm_of (by omega) hk hn4 hm hgg
  refine x_aload_n (pc' := 170) rfl rfl rfl (x_iload_n (pc' := 171) rfl rfl rfl (x_iload_n (pc' := 172) rfl rfl rfl (x_iload_n (pc' := 173) rfl rfl rfl (x_invS1 (pc' := 176) rfl rfl rfl rfl (c_X9_least (FSM w x k np) np L hn7 (fst_least hL).1 (fst_least hL).2.1 (fst_least hL).2.2) ?_))))
  refine x_iload (pc' := 178) rfl rfl rfl (x_invQ5 (pc' := 181) rfl rfl rfl rfl rfl rfl rfl (c_X9_logIn x hx lc (by rw [hpm.2.1 _ (by omega) (by omega), hi.2.1 _ (by omega) (by omega)]; exact hlc) hl (nI k) (nI L) (nI s)) (fun vq Mq hq178 => ?_))
  obtain ⟨rfl, w4, rfl, hg4⟩ := hq178
  show WP l X _ md_X9_contestIn (181, _, [], _) _
  refine x_vret rfl rfl ?_
  exact ⟨rfl, _, rfl, by rw [hS]; exact SEm_of1 hn4 hl hi hpm hg4⟩
set_option maxRecDepth 20000 in
theorem r_X9_contest1 {l : Launch} {X : XT} {d Lz : Nat} {w : Nat → Nat → Nat → Nat → Int32} (x : Nat) (hx : x + 130 ≤ 4420) (k : Nat) (hk : k < 3) (hr : w 9 0 1 (x + 46) = 0 ∨ w 9 0 1 (x + 46) = nI 1) (np : Nat) (hnp : w 9 0 0 6 = nI np) (hn7 : np ≤ 7) (no : Nat) (hno : w 9 0 0 7 = nI no) (hn4 : no ≤ 4) (lc : Nat) (hlc : w 9 0 1 (x + 48) = nI lc) (hl : lc ≤ 20) (hg : ∀ q, q < 21 → ∃ v, v ≤ 9 ∧ w 9 0 1 (x + q) = nI v) (L : Nat) (hL : LDM w x k np = some L) (wn : WF) (hi : STm w x (FSM w x k np) (w 9 0 0 5) no np wn) (s : Nat) (hS : SNM w x k np = some s) (hs : s < np) (wm : WF) (hm : PHi wn x s k no wm) (z : Option AV) : WP l X (d + 3) md_X9_contestIn (113, [some (.inr (.inr (9, 0, 0))), some (.inl (nI x)), some (.inl (nI k)), some (.inl (enc (FSM w x k np) np)), some (.inl (nI s)), z], [], mk Lz wm) (fun v M' => v = none ∧ ∃ w', M' = mk Lz w' ∧ SEm w x k np no lc (FSM w x k np) (nI L) (oI (SNM w x k np)) (SNM w x k np) w') := by
  obtain ⟨v, hv, hgv⟩ := hg (s * 3 + k) (by omega)
  have hgn : wm 9 0 1 (x + 3 * s + k) = nI v := by rw [i3, hm.2.1 _ (by omega), hi.2.1 _ (by omega) (by omega)]; exact hgv
  have hwn : wn 9 0 1 (x + (s * 3 + k)) = nI v := by rw [hi.2.1 _ (by omega) (by omega)]; exact hgv
  refine x_aload_n (pc' := 114) rfl rfl rfl (x_getR (pc' := 117) (t := (9, _, 1)) rfl rfl rfl (x_iload_n (pc' := 118) rfl rfl rfl (x_bipush (pc' := 120) rfl rfl (x_iaddN (pc' := 121) rfl rfl (x_iload (pc' := 123) rfl rfl rfl ?_)))))
  refine x_iaddN (pc' := 124) rfl rfl (x_dup2 (pc' := 125) rfl rfl rfl (x_iald (pc' := 126) (N := 4420) rfl rfl rfl rfl (by first | assumption | omega) (by decide) (x_iconst (pc' := 127) rfl rfl (x_iadd (pc' := 128) rfl rfl (x_iast (pc' := 129) (N := 4420) rfl rfl rfl (by decide) rfl (by first | assumption | omega) (by decide) ?_)))))
  refine x_iload_n (pc' := 130) rfl rfl rfl (x_iconst (pc' := 131) rfl rfl (x_iload (pc' := 133) rfl rfl rfl (x_imulN (pc' := 134) rfl rfl (x_iaddN (pc' := 135) rfl rfl (x_iload_n (pc' := 136) rfl rfl rfl ?_)))))
  refine x_iaddN (pc' := 137) rfl rfl (x_istore5 (pc' := 139) rfl rfl rfl (x_aload_n (pc' := 140) rfl rfl rfl (x_getR (pc' := 143) (t := (9, _, 1)) rfl rfl rfl (x_iload (pc' := 145) rfl rfl rfl (x_aload_n (pc' := 146) rfl rfl rfl ?_)))))
  refine x_getR (pc' := 149) (t := (9, _, 1)) rfl rfl rfl (x_iload (pc' := 151) rfl rfl rfl (x_iald (pc' := 152) (N := 4420) rfl rfl rfl rfl (by first | assumption | omega) (by decide) ?_))
  rw [u4_k (by omega), hgn]
  refine x_if_le (pc' := 155) rfl rfl (fun h152 => ?_) (fun h152 => ?_)
  · refine x_iconst (pc' := 168) rfl rfl (x_iast (pc' := 169) (N := 4420) rfl rfl rfl (by decide) rfl (by first | assumption | omega) (by decide) ?_)
    refine r_X9_contest2 x hx k hk hr np hnp hn7 no hno hn4 lc hlc hl hg L hL wn hi s hS hs wm hm _ ?_ _
    rw [hwn, mx_dec hv rfl]
    first | rw [if_pos h152] | rw [if_neg h152]
  · refine x_aload_n (pc' := 156) rfl rfl rfl (x_getR (pc' := 159) (t := (9, _, 1)) rfl rfl rfl (x_iload (pc' := 161) rfl rfl rfl (x_iald (pc' := 162) (N := 4420) rfl rfl rfl rfl (by first | assumption | omega) (by decide) ?_)))
    rw [u4_k (by omega), hgn]
    refine x_iconst (pc' := 163) rfl rfl (x_isub (pc' := 164) rfl rfl (x_goto rfl (x_iast (pc' := 169) (N := 4420) rfl rfl rfl (by decide) rfl (by first | assumption | omega) (by decide) ?_)))
    refine r_X9_contest2 x hx k hk hr np hnp hn7 no hno hn4 lc hlc hl hg L hL wn hi s hS hs wm hm _ ?_ _
    rw [hwn, mx_dec hv rfl]
    first | rw [if_pos h152] | rw [if_neg h152]
set_option maxRecDepth 20000 in
theorem l_X9_contestO {l : Launch} {X : XT} {d Lz : Nat} {w : Nat → Nat → Nat → Nat → Int32} (x : Nat) (hx : x + 130 ≤ 4420) (k : Nat) (hk : k < 3) (hr : w 9 0 1 (x + 46) = 0 ∨ w 9 0 1 (x + 46) = nI 1) (np : Nat) (hnp : w 9 0 0 6 = nI np) (hn7 : np ≤ 7) (no : Nat) (hno : w 9 0 0 7 = nI no) (hn4 : no ≤ 4) (lc : Nat) (hlc : w 9 0 1 (x + 48) = nI lc) (hl : lc ≤ 20) (hg : ∀ q, q < 21 → ∃ v, v ≤ 9 ∧ w 9 0 1 (x + q) = nI v) (L : Nat) (hL : LDM w x k np = some L) (wn : WF) (hi : STm w x (FSM w x k np) (w 9 0 0 5) no np wn) (s : Nat) (hS : SNM w x k np = some s) (hs : s < np) : ∀ (kk n : Nat), ∀ (wm : WF), PHi wn x s k n wm →  n ≤ no → no + 1 ≤ n + kk → WP l X (d + 3) md_X9_contestIn (58, [some (.inr (.inr (9, 0, 0))), some (.inl (nI x)), some (.inl (nI k)), some (.inl (enc (FSM w x k np) np)), some (.inl (nI s)), some (.inl (nI n))], [], mk Lz wm) (fun v M' => v = none ∧ ∃ w', M' = mk Lz w' ∧ SEm w x k np no lc (FSM w x k np) (nI L) (oI (SNM w x k np)) (SNM w x k np) w') := by
  intro kk
  induction kk with
  | zero =>
    intro n wm hm h1 h2
    exact absurd h2 (by omega)
  | succ kk ih =>
    intro n wm hm hi1 hi2
    refine x_iload (pc' := 60) rfl rfl rfl (x_aload_n (pc' := 61) rfl rfl rfl (x_getI (pc' := 64) rfl rfl rfl ?_))
    rw [hm.1 9 0 0 7 (by omega), hi.1 9 0 0 7 (by omega), hno]
    refine x_icmp_geN (pc' := 67) rfl rfl (by omega) (by omega) (fun h64 => ?_) (fun h64 => ?_)
    · have e : n = no := by omega
      subst e
      exact r_X9_contest1 x hx k hk hr np hnp hn7 n hno hn4 lc hlc hl hg L hL wn hi s hS hs wm hm _
    · refine x_aload_n (pc' := 68) rfl rfl rfl (x_getR (pc' := 71) (t := (9, _, 1)) rfl rfl rfl (x_iload_n (pc' := 72) rfl rfl rfl (x_bipush (pc' := 74) rfl rfl (x_iaddN (pc' := 75) rfl rfl (x_iload (pc' := 77) rfl rfl rfl ?_)))))
      refine x_iaddN (pc' := 78) rfl rfl (x_aload_n (pc' := 79) rfl rfl rfl (x_getR (pc' := 82) (t := (9, _, 3)) rfl rfl rfl (x_iload (pc' := 84) rfl rfl rfl (x_iald (pc' := 85) (N := 4) rfl rfl rfl rfl (by first | assumption | omega) (by decide) ?_))))
      rw [hm.1 9 0 3 n (by omega)]
      refine x_iload_n (pc' := 86) rfl rfl rfl ?_
      refine x_icmp_ne (pc' := 89) rfl rfl (fun h86 => ?_) (fun h86 => ?_)
      · refine x_iload (pc' := 91) rfl rfl rfl (x_goto rfl (x_iast (pc' := 107) (N := 4420) rfl rfl rfl (by decide) rfl (by first | assumption | omega) (by decide) (x_iinc5 (pc' := 110) rfl rfl rfl (nI_add _ _) (x_goto rfl ?_))))
        first | exact ih (n + 1) _ (PHi_s (by omega) hm (by rw [if_pos h86])) (by omega) (by omega) | exact ih (n + 1) _ (PHi_s (by omega) hm (by rw [if_neg h86])) (by omega) (by omega)
      · refine x_aload_n (pc' := 95) rfl rfl rfl (x_getR (pc' := 98) (t := (9, _, 1)) rfl rfl rfl (x_iload_n (pc' := 99) rfl rfl rfl (x_bipush (pc' := 101) rfl rfl (x_iaddN (pc' := 102) rfl rfl (x_iload (pc' := 104) rfl rfl rfl ?_)))))
        refine x_iaddN (pc' := 105) rfl rfl (x_iald (pc' := 106) (N := 4420) rfl rfl rfl rfl (by first | assumption | omega) (by decide) ?_)
        rw [hm.2.2.2 n (Nat.le_refl n)]
        refine x_iast (pc' := 107) (N := 4420) rfl rfl rfl (by decide) rfl (by first | assumption | omega) (by decide) (x_iinc5 (pc' := 110) rfl rfl rfl (nI_add _ _) (x_goto rfl ?_))
        first | exact ih (n + 1) _ (PHi_s (by omega) hm (by rw [if_pos h86])) (by omega) (by omega) | exact ih (n + 1) _ (PHi_s (by omega) hm (by rw [if_neg h86])) (by omega) (by omega)
set_option maxRecDepth 20000 in
theorem l_X9_contestP {l : Launch} {X : XT} {d Lz : Nat} {w : Nat → Nat → Nat → Nat → Int32} (x : Nat) (hx : x + 130 ≤ 4420) (k : Nat) (hk : k < 3) (hr : w 9 0 1 (x + 46) = 0 ∨ w 9 0 1 (x + 46) = nI 1) (np : Nat) (hnp : w 9 0 0 6 = nI np) (hn7 : np ≤ 7) (no : Nat) (hno : w 9 0 0 7 = nI no) (hn4 : no ≤ 4) (lc : Nat) (hlc : w 9 0 1 (x + 48) = nI lc) (hl : lc ≤ 20) (hg : ∀ q, q < 21 → ∃ v, v ≤ 9 ∧ w 9 0 1 (x + q) = nI v) (L : Nat) (hL : LDM w x k np = some L) : ∀ (kk n : Nat), ∀ (wn : WF), STm w x (FSM w x k np) (w 9 0 0 5) no n wn →  n ≤ np → np + 1 ≤ n + kk → WP l X (d + 3) md_X9_contestIn (18, [some (.inr (.inr (9, 0, 0))), some (.inl (nI x)), some (.inl (nI k)), some (.inl (enc (FSM w x k np) np)), some (.inl (oI (SNM w x k np))), some (.inl (nI n))], [], mk Lz wn) (fun v M' => v = none ∧ ∃ w', M' = mk Lz w' ∧ SEm w x k np no lc (FSM w x k np) (nI L) (oI (SNM w x k np)) (SNM w x k np) w') := by
  intro kk
  induction kk with
  | zero =>
    intro n wn hi h1 h2
    exact absurd h2 (by omega)
  | succ kk ih =>
    intro n wn hi hi1 hi2
    refine x_iload (pc' := 20) rfl rfl rfl (x_aload_n (pc' := 21) rfl rfl rfl (x_getI (pc' := 24) rfl rfl rfl ?_))
    rw [hi.1 9 0 0 6 (by omega), hnp]
    refine x_icmp_geN (pc' := 27) rfl rfl (by omega) (by omega) (fun h24 => ?_) (fun h24 => ?_)
    · have e : n = np := by omega
      subst e
      have hcs : SNM w x k n = none ∨ ∃ s, SNM w x k n = some s := by
        cases SNM w x k n with
        | none => exact Or.inl rfl
        | some s => exact Or.inr ⟨s, rfl⟩
      rcases hcs with hS | ⟨s, hS⟩
      · exact WPc (r_X9_contest0 x hx k hk hr n hnp hn7 no hno hn4 lc hlc hl hg L hL wn hi hS _) (by rw [hS]; rfl) rfl
      · have hs : s < n := (bst_lt n s hS).1
        refine WPc (L' := [some (.inr (.inr (9, 0, 0))), some (.inl (nI x)), some (.inl (nI k)), some (.inl (enc (FSM w x k n) n)), some (.inl (nI s)), some (.inl (nI n))]) ?_ (by rw [hS]; rfl) rfl
        refine x_iload (pc' := 51) rfl rfl rfl (x_iconst (pc' := 52) rfl rfl ?_)
        refine x_icmp_eq (pc' := 55) rfl rfl (fun h52 => absurd h52 (nI_ne1 (by omega))) (fun h52 => ?_)
        refine x_iconst (pc' := 56) rfl rfl (x_istore5 (pc' := 58) rfl rfl rfl ?_)
        exact l_X9_contestO x hx k hk hr n hnp hn7 no hno hn4 lc hlc hl hg L hL wn hi s hS hs (no + 1) 0 _ (PHi_0 wn x s k) (by omega) (by omega)
    · refine x_iload_n (pc' := 28) rfl rfl rfl (x_iload (pc' := 30) rfl rfl rfl (x_invS2 (pc' := 33) rfl rfl rfl rfl rfl (c_X9_has _ _) ?_))
      rw [has_enc (by omega) (by omega)]
      refine x_if_eq (pc' := 36) rfl rfl (fun h33 => ?_) (fun h33 => ?_)
      · refine x_iinc5 (pc' := 46) rfl rfl rfl (nI_add _ _) (x_goto rfl ?_)
        first | exact ih (n + 1) _ (STm_t hi (bq h33) ht) (by omega) (by omega) | exact ih (n + 1) _ (STm_f hi (bI_eq0.mp h33)) (by omega) (by omega)
      · refine x_aload_n (pc' := 37) rfl rfl rfl (x_iload_n (pc' := 38) rfl rfl rfl (x_iload (pc' := 40) rfl rfl rfl (x_invQ3 (pc' := 43) rfl rfl rfl rfl rfl (c_X9_goOff x hx n (by omega) no (by rw [hi.1 9 0 0 7 (by omega)]; exact hno) hn4) (fun vq Mq hq40 => ?_))))
        obtain ⟨rfl, w2, rfl, ht⟩ := hq40
        rw [hi.1 9 0 0 5 (by omega)] at ht
        show WP l X _ md_X9_contestIn (43, _, [], _) _
        refine x_iinc5 (pc' := 46) rfl rfl rfl (nI_add _ _) (x_goto rfl ?_)
        first | exact ih (n + 1) _ (STm_t hi (bq h33) ht) (by omega) (by omega) | exact ih (n + 1) _ (STm_f hi (bI_eq0.mp h33)) (by omega) (by omega)
set_option maxRecDepth 20000 in
theorem c_X9_contestIn {l : Launch} {X : XT} {d Lz : Nat} {w : Nat → Nat → Nat → Nat → Int32} (x : Nat) (hx : x + 130 ≤ 4420) (k : Nat) (hk : k < 3) (hr : w 9 0 1 (x + 46) = 0 ∨ w 9 0 1 (x + 46) = nI 1) (np : Nat) (hnp : w 9 0 0 6 = nI np) (hn7 : np ≤ 7) (no : Nat) (hno : w 9 0 0 7 = nI no) (hn4 : no ≤ 4) (lc : Nat) (hlc : w 9 0 1 (x + 48) = nI lc) (hl : lc ≤ 20) (hg : ∀ q, q < 21 → ∃ v, v ≤ 9 ∧ w 9 0 1 (x + q) = nI v) (L : Nat) (hL : LDM w x k np = some L) : WP l X (d + 6) md_X9_contestIn (en md_X9_contestIn [.inr (.inr (9, 0, 0)), .inl (nI x), .inl (nI k)] (mk Lz w)) (fun v M' => v = none ∧ ∃ w', M' = mk Lz w' ∧ SEm w x k np no lc (FSM w x k np) (nI L) (oI (SNM w x k np)) (SNM w x k np) w') := by
  show WP l X _ md_X9_contestIn (0, [some (.inr (.inr (9, 0, 0))), some (.inl (nI x)), some (.inl (nI k)), none, none, none], [], _) _
  refine x_aload_n (pc' := 1) rfl rfl rfl (x_iload_n (pc' := 2) rfl rfl rfl (x_iload_n (pc' := 3) rfl rfl rfl (x_invI3 (pc' := 6) rfl rfl rfl rfl rfl (c_X9_firstOnes x hx k hk hr np hnp hn7) ?_)))
  refine x_istore_n3 (pc' := 7) rfl rfl rfl (x_aload_n (pc' := 8) rfl rfl rfl (x_iload_n (pc' := 9) rfl rfl rfl (x_iload_n (pc' := 10) rfl rfl rfl (x_invI3 (pc' := 13) rfl rfl rfl rfl rfl (c_X9_secondOne x hx k hk hr np hnp hn7) ?_))))
  refine x_istore4 (pc' := 15) rfl rfl rfl (x_iconst (pc' := 16) rfl rfl (x_istore5 (pc' := 18) rfl rfl rfl ?_))
  exact wp_mono (by omega) (l_X9_contestP (d := d) x hx k hk hr np hnp hn7 no hno hn4 lc hlc hl hg L hL (np + 1) 0 _ (STm_0 w x _ _ no) (by omega) (by omega))
