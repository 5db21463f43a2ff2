/-! the day, together -/
def ho1 (h : Nat → Int32) (F : Nat → Bool) : Nat → Nat → Int32
  | 0, o => h o
  | n + 1, o => if F n = true ∧ ho1 h F n o = nI n then -1 else ho1 h F n o
def ho2 (h ok : Nat → Int32) (F : Nat → Bool) (S : Option Nat) (k np o : Nat) : Int32 := match S with
  | none => ho1 h F np o
  | some s => if ok o = nI k then nI s else ho1 h F np o
def gf2 (g : Nat → Int32) (S : Option Nat) (k q : Nat) : Int32 := match S with
  | none => g q
  | some s => if q = s * 3 + k then mxI (nI 0) (g q - nI 1) else g q
def lg2 (lg : Nat → Int32) (cc : Nat) (dy kd a b : Int32) (q : Nat) : Int32 := if q = cc % 20 * 4 + 3 then b else if q = cc % 20 * 4 + 2 then a else if q = cc % 20 * 4 + 1 then kd else if q = cc % 20 * 4 then dy else lg q
def STi (w : WF) (i : Nat) (F : Nat → Bool) (tm : Int32) (no n : Nat) (w' : WF) : Prop := (∀ c i' o q, ¬ (c = 6 ∧ i' = i ∧ (o = 3 ∨ o = 5)) → w' c i' o q = w c i' o q) ∧ (∀ q, w' 6 i 3 q = if q < n ∧ F q = true then tm else w 6 i 3 q) ∧ (∀ q, q < no → w' 6 i 5 q = ho1 (w 6 i 5) F n q)
theorem STi_0 (w : WF) (i : Nat) (F : Nat → Bool) (tm : Int32) (no : Nat) : STi w i F tm no 0 w := ⟨fun _ _ _ _ _ => rfl, fun q => by rw [if_neg (by omega)], fun _ _ => rfl⟩
theorem STi_t {w w' w2 : WF} {i n no : Nat} {F : Nat → Bool} {tm : Int32} (h : STi w i F tm no n w') (hF : F n = true) (ht : TCi w' i n tm no w2) : STi w i F tm no (n + 1) w2 := by
  obtain ⟨h1, h2, h3⟩ := h
  obtain ⟨t1, t2, t3, -⟩ := ht
  refine ⟨fun c i' o q hc => by rw [t1 c i' o q hc]; exact h1 c i' o q hc, fun q => ?_, fun q hq => ?_⟩
  · rw [t2 q]
    by_cases z : q = n
    · subst z; rw [if_pos rfl, if_pos ⟨by omega, hF⟩]
    · rw [if_neg z, h2 q]
      by_cases z2 : q < n ∧ F q = true
      · rw [if_pos z2, if_pos ⟨by omega, z2.2⟩]
      · rw [if_neg z2, if_neg (fun y => z2 ⟨by omega, y.2⟩)]
  · rw [t3 q hq, h3 q hq]
    show _ = if F n = true ∧ ho1 (w 6 i 5) F n q = nI n then -1 else ho1 (w 6 i 5) F n q
    by_cases z : ho1 (w 6 i 5) F n q = nI n
    · rw [if_pos z, if_pos ⟨hF, z⟩]
    · rw [if_neg z, if_neg (fun y => z y.2)]
theorem STi_f {w w' : WF} {i n no : Nat} {F : Nat → Bool} {tm : Int32} (h : STi w i F tm no n w') (hF : F n = false) : STi w i F tm no (n + 1) w' := by
  obtain ⟨h1, h2, h3⟩ := h
  refine ⟨h1, fun q => ?_, fun q hq => ?_⟩
  · rw [h2 q]
    by_cases z2 : q < n ∧ F q = true
    · rw [if_pos z2, if_pos ⟨by omega, z2.2⟩]
    · rw [if_neg z2, if_neg (fun y => ?_)]
      by_cases z : q = n
      · subst z; rw [hF] at y; cases y.2
      · exact z2 ⟨by omega, y.2⟩
  · rw [h3 q hq]
    show _ = if F n = true ∧ ho1 (w 6 i 5) F n q = nI n then -1 else ho1 (w 6 i 5) F n q
    rw [if_neg (fun y => by rw [hF] at y; cases y.1)]
/-- what a contest leaves in a state -/
def SE (w : WF) (i j k np no cc : Nat) (F : Nat → Bool) (a b : Int32) (S : Option Nat) (w' : WF) : Prop := (∀ c i' o q, ¬ (c = 6 ∧ i' = i) → w' c i' o q = w c i' o q) ∧ (∀ q, w' 6 i 2 q = w 6 i 2 q) ∧ (∀ q, w' 6 i 3 q = if q < np ∧ F q = true then w 4 j 0 5 else w 6 i 3 q) ∧ (∀ q, w' 6 i 4 q = if S = some q then w 6 i 4 q + nI 1 else w 6 i 4 q) ∧ (∀ q, w' 6 i 1 q = gf2 (w 6 i 1) S k q) ∧ (∀ q, q < no → w' 6 i 5 q = ho2 (w 6 i 5) (w 4 j 4) F S k np q) ∧ (∀ q, q ≠ 6 → w' 6 i 0 q = w 6 i 0 q) ∧ w' 6 i 0 6 = nI (cc + 1) ∧ (∀ q, w' 6 i 6 q = lg2 (w 6 i 6) cc (w 6 i 0 7) (nI k) a b q)
theorem SE_of0 {w wn w' : WF} {i j k np no cc : Nat} {F : Nat → Bool} {a : Int32} (h : STi w i F (w 4 j 0 5) no np wn) (ha : w 1 0 0 2 = a) (hb : w 1 0 0 3 = oI none) (hl : LG wn i cc (nI k) w') : SE w i j k np no cc F a (oI none) none w' := by
  obtain ⟨h1, h2, h3⟩ := h
  obtain ⟨l1, l2, l3⟩ := hl
  refine ⟨fun c i' o q hc => ?_, fun q => ?_, fun q => ?_, fun q => ?_, fun q => ?_, fun q hq => ?_, fun q hq => ?_, l2, fun q => ?_⟩
  · rw [l1 c i' o q (by omega), h1 c i' o q (by omega)]
  · rw [l1 6 i 2 q (by omega), h1 6 i 2 q (by omega)]
  · rw [l1 6 i 3 q (by omega), h2 q]
  · rw [l1 6 i 4 q (by omega), h1 6 i 4 q (by omega), if_neg (by intro z; cases z)]
  · rw [l1 6 i 1 q (by omega), h1 6 i 1 q (by omega)]; rfl
  · rw [l1 6 i 5 q (by omega), h3 q hq]; rfl
  · rw [l1 6 i 0 q (by omega), h1 6 i 0 q (by omega)]
  · rw [l3 q, h1 1 0 0 3 (by omega), h1 1 0 0 2 (by omega), h1 6 i 0 7 (by omega), h1 6 i 6 q (by omega), ha, hb]; rfl
theorem SE_of1 {w wn w3 w' : WF} {i j k np no cc s : Nat} {F : Nat → Bool} {a : Int32} (h : STi w i F (w 4 j 0 5) no np wn) (ha : w 1 0 0 2 = a) (hb : w 1 0 0 3 = oI (some s)) (hp : PM wn i j s k no w3) (hl : LG w3 i cc (nI k) w') : SE w i j k np no cc F a (oI (some s)) (some s) w' := by
  obtain ⟨h1, h2, h3⟩ := h
  obtain ⟨p1, p2, p3, p4⟩ := hp
  obtain ⟨l1, l2, l3⟩ := hl
  refine ⟨fun c i' o q hc => ?_, fun q => ?_, fun q => ?_, fun q => ?_, fun q => ?_, fun q hq => ?_, fun q hq => ?_, l2, fun q => ?_⟩
  · rw [l1 c i' o q (by omega), p1 c i' o q (by omega), h1 c i' o q (by omega)]
  · rw [l1 6 i 2 q (by omega), p1 6 i 2 q (by omega), h1 6 i 2 q (by omega)]
  · rw [l1 6 i 3 q (by omega), p1 6 i 3 q (by omega), h2 q]
  · rw [l1 6 i 4 q (by omega), p3 q, h1 6 i 4 s (by omega), h1 6 i 4 q (by omega)]
    by_cases z : q = s
    · subst z; rw [if_pos rfl, if_pos rfl]
    · rw [if_neg z, if_neg (fun y => z (by cases y; rfl))]
  · rw [l1 6 i 1 q (by omega), p4 q, h1 6 i 1 _ (by omega), h1 6 i 1 q (by omega)]
    show _ = if q = s * 3 + k then mxI (nI 0) (w 6 i 1 q - nI 1) else w 6 i 1 q
    by_cases z : q = s * 3 + k
    · subst z; simp
    · rw [if_neg z, if_neg z]
  · rw [l1 6 i 5 q (by omega), p2 q hq, h3 q hq, h1 4 j 4 q (by omega)]; rfl
  · rw [l1 6 i 0 q (by omega), p1 6 i 0 q (by omega), h1 6 i 0 q (by omega)]
  · rw [l3 q, p1 1 0 0 3 (by omega), p1 1 0 0 2 (by omega), p1 6 i 0 7 (by omega), p1 6 i 6 q (by omega), h1 1 0 0 3 (by omega), h1 1 0 0 2 (by omega), h1 6 i 0 7 (by omega), h1 6 i 6 q (by omega), ha, hb]; rfl
set_option maxRecDepth 20000 in
theorem r_X6_settle {l : Launch} {X : XT} {d Lz : Nat} {w : Nat → Nat → Nat → Nat → Int32} (i j k : Nat) (hk : k < 3) (np : Nat) (hnp : w 4 j 0 6 = nI np) (hn7 : np ≤ 7) (no : Nat) (hno : w 4 j 0 8 = nI no) (hn4 : no ≤ 4) (cc : Nat) (hcc : w 6 i 0 6 = nI cc) (hc : cc < 2 ^ 30) (F : Nat → Bool) (hF : w 1 0 0 1 = enc F np) (a : Int32) (ha : w 1 0 0 2 = a) (S : Option Nat) (hS : w 1 0 0 3 = oI S) (hs : ∀ s, S = some s → s < np) (wn : WF) (hi : STi w i F (w 4 j 0 5) no np wn) : WP l X (d + 3) md_X6_settle (34, [some (.inr (.inr (6, i, 0))), some (.inr (.inr (4, j, 0))), some (.inr (.inr (1, 0, 0))), some (.inl (nI k)), some (.inl (nI np))], [], mk Lz wn) (fun v M' => v = none ∧ ∃ w', M' = mk Lz w' ∧ SE w i j k np no cc F a (oI S) S w') := by
  have h3 : wn 1 0 0 3 = oI S := by rw [hi.1 1 0 0 3 (by omega)]; exact hS
  have h6 : wn 6 i 0 6 = nI cc := by rw [hi.1 6 i 0 6 (by omega)]; exact hcc
  cases S with
  | none =>
    refine x_aload_n (pc' := 35) rfl rfl rfl (x_getI (pc' := 38) rfl rfl rfl ?_)
    rw [h3]
    refine x_iconst (pc' := 39) rfl rfl ?_
    refine x_icmp_eq (pc' := 42) rfl rfl (fun h39 => ?_) (fun h39 => absurd rfl h39)
    refine x_aload_n (pc' := 53) rfl rfl rfl (x_iload_n (pc' := 54) rfl rfl rfl (x_aload_n (pc' := 55) rfl rfl rfl (x_invQ3 (pc' := 58) rfl rfl rfl rfl rfl (c_X6_logContest i cc (nI k) h6 hc) (fun vq Mq hq55 => ?_))))
    obtain ⟨rfl, w4, rfl, hl⟩ := hq55
    show WP l X _ md_X6_settle (58, _, [], _) _
    refine x_vret rfl rfl ?_
    exact ⟨rfl, _, rfl, SE_of0 hi ha hS hl⟩
  | some s =>
    have hsl := hs s rfl
    refine x_aload_n (pc' := 35) rfl rfl rfl (x_getI (pc' := 38) rfl rfl rfl ?_)
    rw [h3]
    refine x_iconst (pc' := 39) rfl rfl ?_
    refine x_icmp_eq (pc' := 42) rfl rfl (fun h39 => absurd h39 (nI_ne1 (by omega))) (fun h39 => ?_)
    refine x_aload_n (pc' := 43) rfl rfl rfl (x_aload_n (pc' := 44) rfl rfl rfl (x_aload_n (pc' := 45) rfl rfl rfl (x_getI (pc' := 48) rfl rfl rfl ?_)))
    rw [h3]
    refine x_iload_n (pc' := 49) rfl rfl rfl (x_invQ4 (pc' := 52) rfl rfl rfl rfl rfl rfl (c_X6_promote i j s k (by omega) hk no (by rw [hi.1 4 j 0 8 (by omega)]; exact hno) hn4) (fun vq Mq hq49 => ?_))
    obtain ⟨rfl, w3, rfl, hp⟩ := hq49
    show WP l X _ md_X6_settle (52, _, [], _) _
    refine x_aload_n (pc' := 53) rfl rfl rfl (x_iload_n (pc' := 54) rfl rfl rfl (x_aload_n (pc' := 55) rfl rfl rfl (x_invQ3 (pc' := 58) rfl rfl rfl rfl rfl (c_X6_logContest i cc (nI k) (by rw [hp.1 6 i 0 6 (by omega)]; exact h6) hc) (fun vq Mq hq55 => ?_))))
    obtain ⟨rfl, w4, rfl, hl⟩ := hq55
    show WP l X _ md_X6_settle (58, _, [], _) _
    refine x_vret rfl rfl ?_
    exact ⟨rfl, _, rfl, SE_of1 hi ha hS hp hl⟩
set_option maxRecDepth 20000 in
theorem l_X6_settle {l : Launch} {X : XT} {d Lz : Nat} {w : Nat → Nat → Nat → Nat → Int32} (i j k : Nat) (hk : k < 3) (np : Nat) (hnp : w 4 j 0 6 = nI np) (hn7 : np ≤ 7) (no : Nat) (hno : w 4 j 0 8 = nI no) (hn4 : no ≤ 4) (cc : Nat) (hcc : w 6 i 0 6 = nI cc) (hc : cc < 2 ^ 30) (F : Nat → Bool) (hF : w 1 0 0 1 = enc F np) (a : Int32) (ha : w 1 0 0 2 = a) (S : Option Nat) (hS : w 1 0 0 3 = oI S) (hs : ∀ s, S = some s → s < np) : ∀ (kk n : Nat), ∀ (wn : WF), STi w i F (w 4 j 0 5) no n wn →  n ≤ np → np + 1 ≤ n + kk → WP l X (d + 3) md_X6_settle (3, [some (.inr (.inr (6, i, 0))), some (.inr (.inr (4, j, 0))), some (.inr (.inr (1, 0, 0))), some (.inl (nI k)), some (.inl (nI n))], [], mk Lz wn) (fun v M' => v = none ∧ ∃ w', M' = mk Lz w' ∧ SE w i j k np no cc F a (oI S) S w') := by
  intro kk
  induction kk with
  | zero =>
    intro n wn hi h1 h2
    exact absurd h2 (by omega)
  | succ kk ih =>
    intro n wn hi hi1 hi2
    refine x_iload (pc' := 5) rfl rfl rfl (x_aload_n (pc' := 6) rfl rfl rfl (x_getI (pc' := 9) rfl rfl rfl ?_))
    rw [hi.1 4 j 0 6 (by omega), hnp]
    refine x_icmp_geN (pc' := 12) rfl rfl (by omega) (by omega) (fun h9 => ?_) (fun h9 => ?_)
    · have e : n = np := by omega
      subst e
      exact r_X6_settle i j k hk n hnp hn7 no hno hn4 cc hcc hc F hF a ha S hS hs wn hi
    · refine x_aload_n (pc' := 13) rfl rfl rfl (x_iload (pc' := 15) rfl rfl rfl (x_invI2 (pc' := 18) rfl rfl rfl rfl (c_X1_isFirst _) ?_))
      rw [hi.1 1 0 0 1 (by omega), hF, has_enc (by omega) (by omega)]
      refine x_if_eq (pc' := 21) rfl rfl (fun h18 => ?_) (fun h18 => ?_)
      · refine x_iinc4 (pc' := 31) rfl rfl rfl (nI_add _ _) (x_goto rfl ?_)
        first | exact ih (n + 1) _ (STi_t hi (bq h18) ht) (by omega) (by omega) | exact ih (n + 1) _ (STi_f hi (bI_eq0.mp h18)) (by omega) (by omega)
      · refine x_aload_n (pc' := 22) rfl rfl rfl (x_aload_n (pc' := 23) rfl rfl rfl (x_iload (pc' := 25) rfl rfl rfl (x_invQ3 (pc' := 28) rfl rfl rfl rfl rfl (c_X6_toCoast i j n (by omega) no (by rw [hi.1 4 j 0 8 (by omega)]; exact hno) hn4) (fun vq Mq hq25 => ?_))))
        obtain ⟨rfl, w2, rfl, ht⟩ := hq25
        rw [hi.1 4 j 0 5 (by omega)] at ht
        show WP l X _ md_X6_settle (28, _, [], _) _
        refine x_iinc4 (pc' := 31) rfl rfl rfl (nI_add _ _) (x_goto rfl ?_)
        first | exact ih (n + 1) _ (STi_t hi (bq h18) ht) (by omega) (by omega) | exact ih (n + 1) _ (STi_f hi (bI_eq0.mp h18)) (by omega) (by omega)
set_option maxRecDepth 20000 in
theorem c_X6_settle {l : Launch} {X : XT} {d Lz : Nat} {w : Nat → Nat → Nat → Nat → Int32} (i j k : Nat) (hk : k < 3) (np : Nat) (hnp : w 4 j 0 6 = nI np) (hn7 : np ≤ 7) (no : Nat) (hno : w 4 j 0 8 = nI no) (hn4 : no ≤ 4) (cc : Nat) (hcc : w 6 i 0 6 = nI cc) (hc : cc < 2 ^ 30) (F : Nat → Bool) (hF : w 1 0 0 1 = enc F np) (a : Int32) (ha : w 1 0 0 2 = a) (S : Option Nat) (hS : w 1 0 0 3 = oI S) (hs : ∀ s, S = some s → s < np) : WP l X (d + 3) md_X6_settle (en md_X6_settle [.inr (.inr (6, i, 0)), .inr (.inr (4, j, 0)), .inr (.inr (1, 0, 0)), .inl (nI k)] (mk Lz w)) (fun v M' => v = none ∧ ∃ w', M' = mk Lz w' ∧ SE w i j k np no cc F a (oI S) S w') := by
  show WP l X _ md_X6_settle (0, [some (.inr (.inr (6, i, 0))), some (.inr (.inr (4, j, 0))), some (.inr (.inr (1, 0, 0))), some (.inl (nI k)), none], [], _) _
  refine x_iconst (pc' := 1) rfl rfl (x_istore4 (pc' := 3) rfl rfl rfl ?_)
  exact l_X6_settle i j k hk np hnp hn7 no hno hn4 cc hcc hc F hF a ha S hS hs (np + 1) 0 _ (STi_0 w i F _ no) (by omega) (by omega)
theorem has0 {x : Int32} {p : Nat} : ((x >>> (nI p &&& 31)) &&& nI 1 = 0) ↔ has x p = false := by
  have h : ∀ y : Int32, y &&& nI 1 = 0 ∨ y &&& nI 1 = nI 1 := by
    intro y
    have : (y &&& nI 1).toBitVec = 0#32 ∨ (y &&& nI 1).toBitVec = 1#32 := by
      show (y.toBitVec &&& 1#32) = 0#32 ∨ (y.toBitVec &&& 1#32) = 1#32
      rw [BitVec.and_one_eq_setWidth_ofBool_getLsbD]
      cases y.toBitVec.getLsbD 0
      · exact Or.inl (by decide)
      · exact Or.inr (by decide)
    rcases this with h | h
    · exact Or.inl (Int32.toBitVec_inj.mp h)
    · exact Or.inr (Int32.toBitVec_inj.mp h)
  unfold has
  rcases h (x >>> (nI p &&& 31)) with e | e
  · rw [e]; exact ⟨fun _ => by decide, fun _ => rfl⟩
  · rw [e]; exact ⟨fun z => absurd z (by decide), fun z => absurd z (by decide)⟩
/-- a contest or none -/
def MID (w : WF) (i j k np no cc : Nat) (w' : WF) : Prop := (∀ c i' o q, c ≠ 1 → ¬ (c = 6 ∧ i' = i) → w' c i' o q = w c i' o q) ∧ (∀ q, w' 6 i 2 q = w 6 i 2 q) ∧ (∀ q, w' 6 i 3 q = if q < np ∧ FST w i j k np q = true then w 4 j 0 5 else w 6 i 3 q) ∧ (∀ q, w' 6 i 4 q = if SND w i j k np = some q then w 6 i 4 q + nI 1 else w 6 i 4 q) ∧ (∀ q, w' 6 i 1 q = gf2 (w 6 i 1) (SND w i j k np) k q) ∧ (∀ q, q < no → w' 6 i 5 q = ho2 (w 6 i 5) (w 4 j 4) (FST w i j k np) (SND w i j k np) k np q) ∧ (∀ q, q ≠ 6 → w' 6 i 0 q = w 6 i 0 q) ∧ (LDR w i j k np = none → w' 6 i 0 6 = nI cc ∧ ∀ q, w' 6 i 6 q = w 6 i 6 q) ∧ (LDR w i j k np ≠ none → w' 6 i 0 6 = nI (cc + 1) ∧ ∀ q, w' 6 i 6 q = lg2 (w 6 i 6) cc (w 6 i 0 7) (nI k) (oI (LDR w i j k np)) (oI (SND w i j k np)) q)
theorem bst_nobody {S : Nat → Bool} {ah : Nat → Nat → Bool} : ∀ n, (∀ p, p < n → S p = false) → bst S ah n = none
  | 0, _ => rfl
  | n + 1, h => by rw [bst_no (h n (by omega))]; exact bst_nobody n (fun p hp => h p (by omega))
theorem bst_some {S : Nat → Bool} {ah : Nat → Nat → Bool} : ∀ n, bst S ah n = none → ∀ p, p < n → S p = false
  | 0, _, p, hp => by omega
  | n + 1, h, p, hp => by
    cases hs : S n with
    | true =>
      cases hb : bst S ah n with
      | none => rw [bst_new hb hs] at h; cases h
      | some b =>
        cases ha : ah n b with
        | true => rw [bst_up hb hs ha] at h; cases h
        | false => rw [bst_keep hb ha] at h; cases h
    | false =>
      rw [bst_no hs] at h
      by_cases e : p = n
      · subst e; exact hs
      · exact bst_some n h p (by omega)
theorem fst_none {co : Nat → Bool} {law : Int32} {dr mk : Nat → Int32} {np : Nat} (h : ldr co law dr mk np = none) (p : Nat) : fst' co law dr mk np p = false := by
  unfold fst'; rw [h]
theorem snd_none {co : Nat → Bool} {law : Int32} {dr mk : Nat → Int32} {np : Nat} (h : ldr co law dr mk np = none) : snd' co law dr mk np = none :=
  bst_nobody np (fun p hp => by show (co p && _) = false; rw [bst_some np h p hp]; rfl)
theorem ho1_no {h : Nat → Int32} {F : Nat → Bool} (hF : ∀ p, F p = false) : ∀ n o, ho1 h F n o = h o
  | 0, _ => rfl
  | n + 1, o => by
    show (if F n = true ∧ _ then _ else _) = _
    rw [if_neg (fun y => by rw [hF n] at y; cases y.1)]; exact ho1_no hF n o
theorem MID_none {w : WF} {i j k np no cc : Nat} (hcc : w 6 i 0 6 = nI cc) (h : LDR w i j k np = none) : MID w i j k np no cc w := by
  have h1 : ∀ p, FST w i j k np p = false := fun p => fst_none h p
  have h2 : SND w i j k np = none := snd_none h
  refine ⟨fun _ _ _ _ _ _ => rfl, fun _ => rfl, fun q => ?_, fun q => ?_, fun q => ?_, fun q _ => ?_, fun _ _ => rfl, fun _ => ⟨hcc, fun _ => rfl⟩, fun z => absurd h z⟩
  · rw [if_neg (fun y => by rw [h1 q] at y; cases y.2)]
  · rw [h2, if_neg (by intro z; cases z)]
  · rw [h2]; rfl
  · rw [h2]; exact (ho1_no h1 np q).symm
theorem MID_some {w w1 w2 : WF} {i j k np no cc : Nat} (hr : RK w i j k np w1) (hL : LDR w i j k np ≠ none) (hs : SE w1 i j k np no cc (FST w i j k np) (oI (LDR w i j k np)) (oI (SND w i j k np)) (SND w i j k np) w2) : MID w i j k np no cc w2 := by
  obtain ⟨r1, -⟩ := hr
  obtain ⟨s1, s2, s3, s4, s5, s6, s7, s8, s9⟩ := hs
  have e5 : w1 6 i 5 = w 6 i 5 := by funext q; exact r1 6 i 5 q (by decide)
  have e1 : w1 6 i 1 = w 6 i 1 := by funext q; exact r1 6 i 1 q (by decide)
  have e6 : w1 6 i 6 = w 6 i 6 := by funext q; exact r1 6 i 6 q (by decide)
  have e4 : w1 4 j 4 = w 4 j 4 := by funext q; exact r1 4 j 4 q (by decide)
  refine ⟨fun c i' o q hc hc2 => ?_, fun q => ?_, fun q => ?_, fun q => ?_, fun q => ?_, fun q hq => ?_, fun q hq => ?_, fun z => absurd z hL, fun _ => ⟨s8, fun q => ?_⟩⟩
  · rw [s1 c i' o q hc2]; exact r1 c i' o q hc
  · rw [s2 q]; exact r1 6 i 2 q (by decide)
  · rw [s3 q, r1 4 j 0 5 (by decide), r1 6 i 3 q (by decide)]
  · rw [s4 q, r1 6 i 4 q (by decide)]
  · rw [s5 q, e1]
  · rw [s6 q hq, e5, e4]
  · rw [s7 q hq]; exact r1 6 i 0 q (by decide)
  · rw [s9 q, e6, r1 6 i 0 7 (by decide)]
def DLi (w2 : WF) (i : Nat) (co : Nat → Bool) (n : Nat) (w' : WF) : Prop := (∀ c i' o q, ¬ (c = 6 ∧ i' = i ∧ o = 3) → w' c i' o q = w2 c i' o q) ∧ (∀ q, w' 6 i 3 q = if q < n ∧ co q = false then w2 6 i 3 q - nI 1 else w2 6 i 3 q)
theorem DLi_0 (w : WF) (i : Nat) (co : Nat → Bool) : DLi w i co 0 w := ⟨fun _ _ _ _ _ => rfl, fun q => by rw [if_neg (by omega)]⟩
theorem DLi_t {w2 w' : WF} {i n : Nat} {co : Nat → Bool} (h : DLi w2 i co n w') (hc : co n = false) : DLi w2 i co (n + 1) (u4 w' 6 i 3 n (w' 6 i 3 n - nI 1)) := by
  obtain ⟨h1, h2⟩ := h
  refine ⟨fun c i' o q hq => by rw [u4_ne (ne3 hq)]; exact h1 c i' o q hq, fun q => ?_⟩
  rw [u4_at]
  by_cases z : q = n
  · subst z; rw [if_pos rfl, if_pos ⟨by omega, hc⟩, h2 q, if_neg (by omega)]
  · rw [if_neg z, h2 q]
    by_cases z2 : q < n ∧ co q = false
    · rw [if_pos z2, if_pos ⟨by omega, z2.2⟩]
    · rw [if_neg z2, if_neg (fun y => z2 ⟨by omega, y.2⟩)]
theorem DLi_f {w2 w' : WF} {i n : Nat} {co : Nat → Bool} (h : DLi w2 i co n w') (hc : co n = true) : DLi w2 i co (n + 1) w' := by
  obtain ⟨h1, h2⟩ := h
  refine ⟨h1, fun q => ?_⟩
  rw [h2 q]
  by_cases z2 : q < n ∧ co q = false
  · rw [if_pos z2, if_pos ⟨by omega, z2.2⟩]
  · rw [if_neg z2, if_neg (fun y => ?_)]
    by_cases z : q = n
    · subst z; rw [hc] at y; cases y.2
    · exact z2 ⟨by omega, y.2⟩
/-- what a day leaves -/
def DY (w : WF) (i j k np no cc dd : Nat) (w' : WF) : Prop := ∃ w2, MID w i j k np no cc w2 ∧ (∀ c i' o q, ¬ (c = 6 ∧ i' = i ∧ (o = 3 ∨ (o = 0 ∧ q = 7))) → w' c i' o q = w2 c i' o q) ∧ w' 6 i 0 7 = nI (dd + 1) ∧ (∀ q, w' 6 i 3 q = if q < np ∧ cC w i q = false then w2 6 i 3 q - nI 1 else w2 6 i 3 q)
theorem DY_of {w w2 wn : WF} {i j k np no cc dd : Nat} (hm : MID w i j k np no cc w2) (hi : DLi w2 i (cC w i) np wn) : DY w i j k np no cc dd (u4 wn 6 i 0 7 (nI (dd + 1))) := by
  obtain ⟨h1, h2⟩ := hi
  refine ⟨w2, hm, fun c i' o q hq => ?_, u4_self _ _ _ _ _ _, fun q => ?_⟩
  · by_cases z : c = 6 ∧ i' = i ∧ o = 0
    · obtain ⟨rfl, rfl, rfl⟩ := z
      rw [u4_k (by omega)]; exact h1 _ _ _ q (by omega)
    · rw [u4_ne (ne3 z)]; exact h1 c i' o q (by omega)
  · rw [u4_ne (ne3 (by omega))]; exact h2 q
set_option maxRecDepth 20000 in
theorem l_X6_passDay {l : Launch} {X : XT} {d Lz : Nat} {w : Nat → Nat → Nat → Nat → Int32} (i j k : Nat) (hk : k < 3) (np : Nat) (hnp : w 4 j 0 6 = nI np) (hn7 : np ≤ 7) (no : Nat) (hno : w 4 j 0 8 = nI no) (hn4 : no ≤ 4) (cc : Nat) (hcc : w 6 i 0 6 = nI cc) (hc : cc < 2 ^ 30) (dd : Nat) (hdd : w 6 i 0 7 = nI dd) (hd : dd < 2 ^ 30) (nt : Nat) (hnt : w 4 j 0 7 = nI nt) (h12 : nt ≤ 12) (hkd : kdV (w 4 j 3) nt dd = nI k) (w2 : WF) (hm : MID w i j k np no cc w2) : ∀ (kk n : Nat), ∀ (wn : WF), DLi w2 i (cC w i) n wn →  n ≤ np → np + 1 ≤ n + kk → WP l X (d + 4) md_X6_passDay (38, [some (.inr (.inr (6, i, 0))), some (.inr (.inr (4, j, 0))), some (.inr (.inr (1, 0, 0))), some (.inl (nI k)), some (.inl (enc (cC w i) np)), some (.inl (nI n))], [], mk Lz wn) (fun v M' => v = none ∧ ∃ w', M' = mk Lz w' ∧ DY w i j k np no cc dd w') := by
  intro kk
  induction kk with
  | zero =>
    intro n wn hi h1 h2
    exact absurd h2 (by omega)
  | succ kk ih =>
    intro n wn hi hi1 hi2
    refine x_iload (pc' := 40) rfl rfl rfl (x_aload_n (pc' := 41) rfl rfl rfl (x_getI (pc' := 44) rfl rfl rfl ?_))
    rw [hi.1 4 j 0 6 (by omega), hm.1 4 j 0 6 (by decide) (by omega), hnp]
    refine x_icmp_geN (pc' := 47) rfl rfl (by omega) (by omega) (fun h44 => ?_) (fun h44 => ?_)
    · refine x_aload_n (pc' := 75) rfl rfl rfl (x_dup (pc' := 76) rfl rfl rfl (x_getI (pc' := 79) rfl rfl rfl ?_))
      rw [hi.1 6 i 0 7 (by omega), hm.2.2.2.2.2.2.1 7 (by decide), hdd]
      refine x_iconst (pc' := 80) rfl rfl (x_iaddN (pc' := 81) rfl rfl (x_putI (pc' := 84) rfl rfl rfl ?_))
      refine x_vret rfl rfl ?_
      have e : n = np := by omega
      subst e
      exact ⟨rfl, _, rfl, DY_of hm hi⟩
    · refine x_iload (pc' := 49) rfl rfl rfl (x_iload (pc' := 51) rfl rfl rfl (x_ishr (pc' := 52) rfl rfl (x_iconst (pc' := 53) rfl rfl (x_iand (pc' := 54) rfl rfl ?_))))
      refine x_if_ne (pc' := 57) rfl rfl (fun h54 => ?_) (fun h54 => ?_)
      · refine x_aload_n (pc' := 58) rfl rfl rfl (x_getR (pc' := 61) (t := (6, _, 3)) rfl rfl rfl (x_iload (pc' := 63) rfl rfl rfl (x_dup2 (pc' := 64) rfl rfl rfl (x_iald (pc' := 65) (N := 7) rfl rfl rfl rfl (by first | assumption | omega) (by decide) (x_iconst (pc' := 66) rfl rfl ?_)))))
        refine x_isub (pc' := 67) rfl rfl (x_iast (pc' := 68) (N := 7) rfl rfl rfl (by decide) rfl (by first | assumption | omega) (by decide) (x_iinc5 (pc' := 71) rfl rfl rfl (nI_add _ _) (x_goto rfl ?_)))
        first | exact ih (n + 1) _ (DLi_t hi (by rw [← has_enc (f := cC w i) (n := np) (by omega) (by omega)]; exact has0.mp h54)) (by omega) (by omega) | exact ih (n + 1) _ (DLi_f hi (by cases hb : cC w i n with | true => rfl | false => exact absurd (has0.mpr (by rw [has_enc (by omega) (by omega)]; exact hb)) h54)) (by omega) (by omega)
      · refine x_iinc5 (pc' := 71) rfl rfl rfl (nI_add _ _) (x_goto rfl ?_)
        first | exact ih (n + 1) _ (DLi_t hi (by rw [← has_enc (f := cC w i) (n := np) (by omega) (by omega)]; exact has0.mp h54)) (by omega) (by omega) | exact ih (n + 1) _ (DLi_f hi (by cases hb : cC w i n with | true => rfl | false => exact absurd (has0.mpr (by rw [has_enc (by omega) (by omega)]; exact hb)) h54)) (by omega) (by omega)
set_option maxRecDepth 20000 in
theorem c_X6_passDay {l : Launch} {X : XT} {d Lz : Nat} {w : Nat → Nat → Nat → Nat → Int32} (i j k : Nat) (hk : k < 3) (np : Nat) (hnp : w 4 j 0 6 = nI np) (hn7 : np ≤ 7) (no : Nat) (hno : w 4 j 0 8 = nI no) (hn4 : no ≤ 4) (cc : Nat) (hcc : w 6 i 0 6 = nI cc) (hc : cc < 2 ^ 30) (dd : Nat) (hdd : w 6 i 0 7 = nI dd) (hd : dd < 2 ^ 30) (nt : Nat) (hnt : w 4 j 0 7 = nI nt) (h12 : nt ≤ 12) (hkd : kdV (w 4 j 3) nt dd = nI k) : WP l X (d + 4) md_X6_passDay (en md_X6_passDay [.inr (.inr (6, i, 0)), .inr (.inr (4, j, 0)), .inr (.inr (1, 0, 0))] (mk Lz w)) (fun v M' => v = none ∧ ∃ w', M' = mk Lz w' ∧ DY w i j k np no cc dd w') := by
  show WP l X _ md_X6_passDay (0, [some (.inr (.inr (6, i, 0))), some (.inr (.inr (4, j, 0))), some (.inr (.inr (1, 0, 0))), none, none, none], [], _) _
  refine x_aload_n (pc' := 1) rfl rfl rfl (x_aload_n (pc' := 2) rfl rfl rfl (x_getI (pc' := 5) rfl rfl rfl ?_))
  rw [hdd]
  refine x_invI2 (pc' := 8) rfl rfl rfl rfl (c_X4_kindOfDay j nt dd hnt h12 (by omega)) ?_
  rw [hkd]
  refine x_istore_n3 (pc' := 9) rfl rfl rfl (x_aload_n (pc' := 10) rfl rfl rfl (x_aload_n (pc' := 11) rfl rfl rfl (x_invI2 (pc' := 14) rfl rfl rfl rfl (c_X6_courtOf i j np hnp hn7) ?_)))
  refine x_istore4 (pc' := 16) rfl rfl rfl (x_iload (pc' := 18) rfl rfl rfl ?_)
  refine x_if_eq (pc' := 21) rfl rfl (fun h18 => ?_) (fun h18 => ?_)
  · refine x_iconst (pc' := 36) rfl rfl (x_istore5 (pc' := 38) rfl rfl rfl ?_)
    first | exact l_X6_passDay i j k hk np hnp hn7 no hno hn4 cc hcc hc dd hdd hd nt hnt h12 hkd _ (MID_none hcc (bst_nobody np (fun p hp => (enc_0 (by omega)).mp h18 p hp))) (np + 1) 0 _ (DLi_0 _ i _) (by omega) (by omega) | exact l_X6_passDay i j k hk np hnp hn7 no hno hn4 cc hcc hc dd hdd hd nt hnt h12 hkd _ (MID_some hr (fun z => h18 ((enc_0 (by omega)).mpr (fun p hp => bst_some np z p hp))) hse) (np + 1) 0 _ (DLi_0 _ i _) (by omega) (by omega)
  · refine x_aload_n (pc' := 22) rfl rfl rfl (x_aload_n (pc' := 23) rfl rfl rfl (x_aload_n (pc' := 24) rfl rfl rfl (x_iload_n (pc' := 25) rfl rfl rfl (x_invQ4 (pc' := 28) rfl rfl rfl rfl rfl rfl (c_X1_rank i k hk j np hnp hn7) (fun vq Mq hq25 => ?_)))))
    obtain ⟨rfl, w1, rfl, hr⟩ := hq25
    show WP l X _ md_X6_passDay (28, _, [], _) _
    refine x_aload_n (pc' := 29) rfl rfl rfl (x_aload_n (pc' := 30) rfl rfl rfl (x_aload_n (pc' := 31) rfl rfl rfl (x_iload_n (pc' := 32) rfl rfl rfl (x_invQ4 (pc' := 35) rfl rfl rfl rfl rfl rfl (c_X6_settle i j k hk np (by rw [hr.1 4 j 0 6 (by decide)]; exact hnp) hn7 no (by rw [hr.1 4 j 0 8 (by decide)]; exact hno) hn4 cc (by rw [hr.1 6 i 0 6 (by decide)]; exact hcc) hc (FST w i j k np) hr.2.1 _ hr.2.2.1 (SND w i j k np) hr.2.2.2.1 (fun s hs => (bst_lt np s hs).1)) (fun vq Mq hq32 => ?_)))))
    obtain ⟨rfl, w2, rfl, hse⟩ := hq32
    show WP l X _ md_X6_passDay (35, _, [], _) _
    refine x_iconst (pc' := 36) rfl rfl (x_istore5 (pc' := 38) rfl rfl rfl ?_)
    first | exact l_X6_passDay i j k hk np hnp hn7 no hno hn4 cc hcc hc dd hdd hd nt hnt h12 hkd _ (MID_none hcc (bst_nobody np (fun p hp => (enc_0 (by omega)).mp h18 p hp))) (np + 1) 0 _ (DLi_0 _ i _) (by omega) (by omega) | exact l_X6_passDay i j k hk np hnp hn7 no hno hn4 cc hcc hc dd hdd hd nt hnt h12 hkd _ (MID_some hr (fun z => h18 ((enc_0 (by omega)).mpr (fun p hp => bst_some np z p hp))) hse) (np + 1) 0 _ (DLi_0 _ i _) (by omega) (by omega)
