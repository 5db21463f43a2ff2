/-! what the small machine comes to, as a predicate -/
def WP (l : Launch) (X : XT) (d : Nat) (md : MD) (S : St) (Q : Option AV → Mem → Prop) : Prop := ∀ mi, md = mdOf mi → ∃ v M', Q v M' ∧ Good l X d md S v M'
theorem wp_next {l : Launch} {X : XT} {d : Nat} {md : MD} {S S' : St} {Q : Option AV → Mem → Prop} (h : stI md S = some (.inl S')) (K : WP l X (d + 1) md S' Q) : WP l X (d + 1) md S Q := fun mi e => by
  subst e
  obtain ⟨v, M', hq, hg⟩ := K mi rfl
  exact ⟨v, M', hq, G_next (by omega) h hg⟩
theorem wp_ret {l : Launch} {X : XT} {d : Nat} {md : MD} {S : St} {Q : Option AV → Mem → Prop} {v : Option AV} {M : Mem} (h : stI md S = some (.inr (.inr (v, M)))) (hq : Q v M) : WP l X d md S Q := fun mi e => by
  subst e
  exact ⟨v, M, hq, G_ret h⟩
theorem wp_call {l : Launch} {X : XT} {d cm : Nat} {md : MD} {S S1 : St} {as : List AV} {Q Q1 : Option AV → Mem → Prop} (h : stI md S = some (.inr (.inl (cm, as, S1)))) (hl : as.all (fun x => !isL x) = true) (C : WP l X d (mdOf cm) (en (mdOf cm) as S1.2.2.2) Q1) (K : ∀ v M, Q1 v M → WP l X (d + 1) md (af v S1 M) Q) : WP l X (d + 1) md S Q := fun mi e => by
  subst e
  obtain ⟨v1, M1, hq1, hg1⟩ := C cm rfl
  obtain ⟨v, M', hq, hg⟩ := K v1 M1 hq1 mi rfl
  exact ⟨v, M', hq, G_call h hl hg1 hg⟩
theorem wp_cons {l : Launch} {X : XT} {d : Nat} {md : MD} {S : St} {Q Q' : Option AV → Mem → Prop} (h : WP l X d md S Q) (hq : ∀ v M, Q v M → Q' v M) : WP l X d md S Q' := fun mi e => by
  obtain ⟨v, M', h1, h2⟩ := h mi e
  exact ⟨v, M', hq v M' h1, h2⟩
theorem good_mono {l : Launch} {X : XT} {d d' : Nat} {md : MD} {S : St} {v : Option AV} {M : Mem} (hd : d ≤ d') (h : Good l X d md S v M) : Good l X d' md S v M :=
  ⟨h.1, h.2.1, fun p e R s m args below meth c Q H locs cells slots ls hP => h.2.2 p e R s m args below meth c Q H locs cells slots ls (by
    obtain ⟨h1, h2, h3, h4, h5, h6, h7, h8, h9, h10, h11, h12⟩ := hP
    exact ⟨h1, h2, h3, h4, h5, h6, h7, h8, h9, h10, Nat.le_trans hd h11, Nat.le_trans (Nat.mul_le_mul_left 30 hd) h12⟩)⟩
theorem wp_mono {l : Launch} {X : XT} {d d' : Nat} {md : MD} {S : St} {Q : Option AV → Mem → Prop} (hd : d ≤ d') (h : WP l X d md S Q) : WP l X d' md S Q := fun mi e => by
  obtain ⟨v, M', h1, h2⟩ := h mi e
  exact ⟨v, M', h1, good_mono hd h2⟩
/-- what a run of the small machine comes to -/
theorem run_good {l : Launch} {X : XT} : ∀ (n d mi : Nat) (S : St) (v : Option AV) (M : Mem), run n d (mdOf mi) S = some (v, M) → Good l X (d + 1) (mdOf mi) S v M
  | 0, _, _, _, _, _, h => by simp [run] at h
  | n + 1, d, mi, S, v, M, h => by
    unfold run at h
    split at h
    · cases h
    · rename_i S' hs
      exact G_next (by omega) hs (run_good n d mi S' v M h)
    · rename_i r hs
      cases h
      exact G_ret hs
    · rename_i cm as S1 hs
      split at h
      · cases h
      · rename_i d'
        cases hb : (!(as.all (fun x => !isL x))) with
        | true => rw [hb] at h; cases h
        | false =>
          rw [hb] at h
          simp only [cond_false] at h
          have hl : as.all (fun x => !isL x) = true := by simpa using hb
          split at h
          · cases h
          · rename_i v1 M1 h1
            exact G_call hs hl (run_good n d' cm _ v1 M1 h1) (run_good n (d' + 1) mi _ v M h)
/-- a contract: arguments and memory, answer and memory -/
def CT (l : Launch) (X : XT) (d : Nat) (md : MD) (as : List AV) (M : Mem) (r : Option AV) (M1 : Mem) : Prop := WP l X d md (en md as M) (fun v M' => v = r ∧ M' = M1)
theorem CT.mono {l : Launch} {X : XT} {d d' : Nat} {md : MD} {as : List AV} {M M1 : Mem} {r : Option AV} (hd : d ≤ d') (h : CT l X d md as M r M1) : CT l X d' md as M r M1 := wp_mono hd h
