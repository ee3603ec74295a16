/-! rules for the small machine -/
theorem wp_mono : ∀ (n n' d d' : Nat) (sc : tSc) (m : Nat) (cf : tC) (Q Q' : tQ), n ≤ n' → d ≤ d' → (∀ v w, Q v w → Q' v w) → wp sc n d m cf Q → wp sc n' d' m cf Q' := by
  intro n
  induction n with
  | zero => intro n' d d' sc m cf Q Q' _ _ _ h; exact h.elim
  | succ n ih =>
    intro n' d d' sc m cf Q Q' hn hd hq h
    obtain ⟨k, rfl⟩ : ∃ k, n' = k + 1 := ⟨n' - 1, by omega⟩
    unfold wp at h ⊢
    cases hi : ins m cf.1 with
    | none => rw [hi] at h; exact h.elim
    | some ix =>
      obtain ⟨i, x⟩ := ix
      rw [hi] at h
      dsimp only at h ⊢
      cases hs : stp sc m i x cf.1 (lflt x.2.2.2 cf.2.1) cf.2.2.1 cf.2.2.2.1 cf.2.2.2.2 with
      | none => rw [hs] at h; exact h.elim
      | some r =>
        rw [hs] at h
        rcases r with c' | ⟨f, as, c'⟩ | v
        · exact ih k d d' sc m c' Q Q' (by omega) hd hq h
        · dsimp only at h ⊢
          cases d with
          | zero => exact h.elim
          | succ d =>
            obtain ⟨e, rfl⟩ : ∃ e, d' = e + 1 := ⟨d' - 1, by omega⟩
            exact ih k d e none f _ _ _ (by omega) (by omega) (fun v w' hw => ih k (d + 1) (e + 1) sc m _ Q Q' (by omega) (by omega) hq hw) h
        · exact hq _ _ h
theorem wp_det : ∀ (n d : Nat) (sc : tSc) (m : Nat) (cf : tC) (Q : tQ), wp sc n d m cf Q → ∃ v w', Q v w' ∧ wp sc n d m cf (fun v2 w2 => v2 = v ∧ w2 = w') := by
  intro n
  induction n with
  | zero => intro d sc m cf Q h; exact h.elim
  | succ n ih =>
    intro d sc m cf Q h
    unfold wp at h
    cases hi : ins m cf.1 with
    | none => rw [hi] at h; exact h.elim
    | some ix =>
      obtain ⟨i, x⟩ := ix
      rw [hi] at h
      dsimp only at h
      cases hs : stp sc m i x cf.1 (lflt x.2.2.2 cf.2.1) cf.2.2.1 cf.2.2.2.1 cf.2.2.2.2 with
      | none => rw [hs] at h; exact h.elim
      | some r =>
        rw [hs] at h
        rcases r with c' | ⟨f, as, c'⟩ | v
        · obtain ⟨v, w', h1, h2⟩ := ih d sc m c' Q h
          refine ⟨v, w', h1, ?_⟩
          unfold wp
          rw [hi]; dsimp only; rw [hs]
          exact h2
        · dsimp only at h
          cases d with
          | zero => exact h.elim
          | succ d =>
            obtain ⟨v1, w1, h1, h2⟩ := ih d none f _ _ h
            obtain ⟨v2, w2, h3, h4⟩ := ih (d + 1) sc m _ Q h1
            refine ⟨v2, w2, h3, ?_⟩
            unfold wp
            rw [hi]; dsimp only; rw [hs]
            exact wp_mono n n d d none f _ _ _ (Nat.le_refl _) (Nat.le_refl _) (fun v w hv => by obtain ⟨rfl, rfl⟩ := hv; exact h4) h2
        · refine ⟨v, _, h, ?_⟩
          unfold wp
          rw [hi]; dsimp only; rw [hs]
          exact ⟨rfl, rfl⟩
/-- from this point the method comes to its end with Q -/
def Wp (sc : tSc) (d m : Nat) (cf : tC) (Q : tQ) : Prop := ∃ n, wp sc n d m cf Q
theorem Wp_mono {sc : tSc} {d d' m : Nat} {cf : tC} {Q Q' : tQ} (hd : d ≤ d') (hq : ∀ v w, Q v w → Q' v w) (h : Wp sc d m cf Q) : Wp sc d' m cf Q' := by
  obtain ⟨n, h⟩ := h
  exact ⟨n, wp_mono n n d d' sc m cf Q Q' (Nat.le_refl _) hd hq h⟩
theorem Wp_next {sc : tSc} {d m pc : Nat} {i : Instr} {x : tX} {ls : tF} {st : List Value} {w : tW} {b : tB} {c' : tC} {Q : tQ} (hi : ins m pc = some (i, x)) (hs : stp sc m i x pc (lflt x.2.2.2 ls) st w b = some (.inl c')) (k : Wp sc d m c' Q) : Wp sc d m (pc, ls, st, w, b) Q := by
  obtain ⟨n, h⟩ := k
  refine ⟨n + 1, ?_⟩
  unfold wp
  dsimp only
  rw [hi]; dsimp only; rw [hs]
  exact h
theorem Wp_ret {sc : tSc} {d m pc : Nat} {i : Instr} {x : tX} {ls : tF} {st : List Value} {w : tW} {b : tB} {v : Option Value} {Q : tQ} (hi : ins m pc = some (i, x)) (hs : stp sc m i x pc (lflt x.2.2.2 ls) st w b = some (.inr (.inr v))) (k : Q v w) : Wp sc d m (pc, ls, st, w, b) Q := by
  refine ⟨1, ?_⟩
  unfold wp
  dsimp only
  rw [hi]; dsimp only; rw [hs]
  exact k
theorem Wp_call {sc : tSc} {d m pc f : Nat} {i : Instr} {x : tX} {ls : tF} {st as : List Value} {w : tW} {b : tB} {c' : tC} {Q Q' : tQ} (hi : ins m pc = some (i, x)) (hs : stp sc m i x pc (lflt x.2.2.2 ls) st w b = some (.inr (.inl (f, as, c')))) (hc : Wp none d f (ent f as c'.2.2.2.1) Q')
    (k : ∀ v w', Q' v w' → Wp sc (d + 1) m (c'.1, c'.2.1, v.toList ++ c'.2.2.1, w', c'.2.2.2.2) Q) : Wp sc (d + 1) m (pc, ls, st, w, b) Q := by
  obtain ⟨n, h⟩ := hc
  obtain ⟨v, w', h1, h2⟩ := wp_det n d none f _ _ h
  obtain ⟨n2, h3⟩ := k v w' h1
  refine ⟨max n n2 + 1, ?_⟩
  unfold wp
  dsimp only
  rw [hi]; dsimp only; rw [hs]
  exact wp_mono n _ d d none f _ _ _ (Nat.le_max_left _ _) (Nat.le_refl _) (fun v2 w2 hv => by
    obtain ⟨rfl, rfl⟩ := hv
    exact wp_mono n2 _ (d + 1) (d + 1) sc m _ Q Q (Nat.le_max_right _ _) (Nat.le_refl _) (fun _ _ h => h) h3) h2
