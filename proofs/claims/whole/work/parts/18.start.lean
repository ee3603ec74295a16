/-! the constructors, run by the kernel -/
theorem stp_sc {sc : tSc} {m : Nat} {i : Instr} {x : tX} {pc : Nat} {ls : tF} {st : List Value} {w : tW} {b : tB} {r : tR} (h : stp none m i x pc ls st w b = some r) : stp sc m i x pc ls st w b = some r := by
  cases i with
  | iaload =>
    simp only [stp] at h ⊢
    split at h
    next j a r' =>
      split at h
      next => cases h
      next hn => rw [if_neg hn]; exact h
    next => cases h
  | arraylength =>
    simp only [stp] at h ⊢
    split at h
    next a r' =>
      split at h
      next => cases h
      next hn => rw [if_neg hn]; exact h
    next => cases h
  | ireturn =>
    simp only [stp] at h ⊢
    split at h
    next v =>
      split at h
      next h1 =>
        rw [if_pos h1]
        split at h
        next h2 =>
          rw [if_pos]
          · exact h
          · rcases h2 with q | q | q
            · exact Or.inl q
            · exact Or.inr (Or.inl q)
            · cases q
        next => cases h
      next => cases h
    next => cases h
  | _ => exact h
/-- the small machine run, up to a pc or to the method's end -/
def exe : Nat → Nat → Nat → Nat → tC → Option (tC ⊕ (Option Value × tW))
  | 0, _, _, _, _ => none
  | n + 1, d, m, s, c => if c.1 = s then some (.inl c) else match ins m c.1 with
    | none => none
    | some (i, x) => match stp none m i x c.1 (lflt x.2.2.2 c.2.1) c.2.2.1 c.2.2.2.1 c.2.2.2.2 with
      | none => none
      | some (.inl c') => exe n d m s c'
      | some (.inr (.inl (f, as, c'))) => match d with
        | 0 => none
        | d' + 1 => match exe n d' f 1000000 (ent f as c'.2.2.2.1) with
          | some (.inr (v, w')) => exe n (d' + 1) m s (c'.1, c'.2.1, v.toList ++ c'.2.2.1, w', c'.2.2.2.2)
          | _ => none
      | some (.inr (.inr v)) => some (.inr (v, c.2.2.2.1))
theorem exe_ok : ∀ (n d m s : Nat) (sc : tSc) (c : tC) (r : tC ⊕ (Option Value × tW)) (Q : tQ), exe n d m s c = some r → (match r with
    | .inl c' => Wp sc d m c' Q
    | .inr (v, w) => Q v w) → Wp sc d m c Q := by
  intro n
  induction n with
  | zero => intro d m s sc c r Q h; cases h
  | succ n ih =>
    intro d m s sc c r Q h k
    unfold exe at h
    split at h
    next => cases Option.some.inj h; exact k
    next =>
      obtain ⟨pc, ls, st, w, b⟩ := c
      dsimp only at h
      cases hi : ins m pc with
      | none => rw [hi] at h; cases h
      | some ix =>
        obtain ⟨i, x⟩ := ix
        rw [hi] at h
        dsimp only at h
        cases hs : stp none m i x pc (lflt x.2.2.2 ls) st w b with
        | none => rw [hs] at h; cases h
        | some t =>
          rw [hs] at h
          rcases t with c' | ⟨f, as, c'⟩ | v
          · exact Wp_next hi (stp_sc hs) (ih d m s sc c' r Q h k)
          · dsimp only at h
            cases d with
            | zero => cases h
            | succ d =>
              dsimp only at h
              split at h
              next v w' he =>
                exact Wp_call hi (stp_sc hs) (ih d f 1000000 none _ _ (fun v2 w2 => v2 = v ∧ w2 = w') he ⟨rfl, rfl⟩) (fun v2 w2 hv => by
                  obtain ⟨rfl, rfl⟩ := hv
                  exact ih (d + 1) m s sc _ r Q h k)
              next => cases h
          · cases Option.some.inj h
            exact Wp_ret hi (stp_sc hs) k
def S0 : List tS := [
  .inl (9, [some 1, some 3, some 5, some 7, some 8, some 144, some 156, some 159, some 165, some 167, none]),
  .inl (7, [some 2, none, none, none, none]),
  .inr (0, 47, []),
  .inl (1, [some 4, none, none, none, none]),
  .inr (0, 47, []),
  .inl (5, [some 6, none, none, none, none]),
  .inr (0, 47, []),
  .inr (2, 3, [some 1, some 3, some 5]),
  .inl (8, [some 1, some 3, some 5, some 9, some 36, some 63, some 90, some 117, none, none, none]),
  .inr (4, 26, [some 10, some 11, some 12, some 13, some 14, some 15, some 16, some 17, some 18, some 19, some 20, some 21, some 22, some 23, some 24, some 25, some 26, some 27, some 28, some 29, some 30, some 31, some 32, some 33, some 34, some 35]),
  .inr (0, 8, []),
  .inr (0, 8, []),
  .inr (0, 8, []),
  .inr (0, 8, []),
  .inr (0, 8, []),
  .inr (0, 8, []),
  .inr (0, 8, []),
  .inr (0, 8, []),
  .inr (0, 8, []),
  .inr (0, 8, []),
  .inr (0, 8, []),
  .inr (0, 8, []),
  .inr (0, 8, []),
  .inr (0, 8, []),
  .inr (0, 8, []),
  .inr (0, 8, []),
  .inr (0, 8, []),
  .inr (0, 8, []),
  .inr (0, 8, []),
  .inr (0, 8, []),
  .inr (0, 8, []),
  .inr (0, 8, []),
  .inr (0, 8, []),
  .inr (0, 8, []),
  .inr (0, 8, []),
  .inr (0, 8, []),
  .inr (4, 26, [some 37, some 38, some 39, some 40, some 41, some 42, some 43, some 44, some 45, some 46, some 47, some 48, some 49, some 50, some 51, some 52, some 53, some 54, some 55, some 56, some 57, some 58, some 59, some 60, some 61, some 62]),
  .inr (0, 8, []),
  .inr (0, 8, []),
  .inr (0, 8, []),
  .inr (0, 8, []),
  .inr (0, 8, []),
  .inr (0, 8, []),
  .inr (0, 8, []),
  .inr (0, 8, []),
  .inr (0, 8, []),
  .inr (0, 8, []),
  .inr (0, 8, []),
  .inr (0, 8, []),
  .inr (0, 8, []),
  .inr (0, 8, []),
  .inr (0, 8, []),
  .inr (0, 8, []),
  .inr (0, 8, []),
  .inr (0, 8, []),
  .inr (0, 8, []),
  .inr (0, 8, []),
  .inr (0, 8, []),
  .inr (0, 8, []),
  .inr (0, 8, []),
  .inr (0, 8, []),
  .inr (0, 8, []),
  .inr (0, 8, []),
  .inr (4, 26, [some 64, some 65, some 66, some 67, some 68, some 69, some 70, some 71, some 72, some 73, some 74, some 75, some 76, some 77, some 78, some 79, some 80, some 81, some 82, some 83, some 84, some 85, some 86, some 87, some 88, some 89]),
  .inr (0, 8, []),
  .inr (0, 8, []),
  .inr (0, 8, []),
  .inr (0, 8, []),
  .inr (0, 8, []),
  .inr (0, 8, []),
  .inr (0, 8, []),
  .inr (0, 8, []),
  .inr (0, 8, []),
  .inr (0, 8, []),
  .inr (0, 8, []),
  .inr (0, 8, []),
  .inr (0, 8, []),
  .inr (0, 8, []),
  .inr (0, 8, []),
  .inr (0, 8, []),
  .inr (0, 8, []),
  .inr (0, 8, []),
  .inr (0, 8, []),
  .inr (0, 8, []),
  .inr (0, 8, []),
  .inr (0, 8, []),
  .inr (0, 8, []),
  .inr (0, 8, []),
  .inr (0, 8, []),
  .inr (0, 8, []),
  .inr (4, 26, [some 91, some 92, some 93, some 94, some 95, some 96, some 97, some 98, some 99, some 100, some 101, some 102, some 103, some 104, some 105, some 106, some 107, some 108, some 109, some 110, some 111, some 112, some 113, some 114, some 115, some 116]),
  .inr (0, 8, []),
  .inr (0, 8, []),
  .inr (0, 8, []),
  .inr (0, 8, []),
  .inr (0, 8, []),
  .inr (0, 8, []),
  .inr (0, 8, []),
  .inr (0, 8, []),
  .inr (0, 8, []),
  .inr (0, 8, []),
  .inr (0, 8, []),
  .inr (0, 8, []),
  .inr (0, 8, []),
  .inr (0, 8, []),
  .inr (0, 8, []),
  .inr (0, 8, []),
  .inr (0, 8, []),
  .inr (0, 8, []),
  .inr (0, 8, []),
  .inr (0, 8, []),
  .inr (0, 8, []),
  .inr (0, 8, []),
  .inr (0, 8, []),
  .inr (0, 8, []),
  .inr (0, 8, []),
  .inr (0, 8, []),
  .inr (4, 26, [some 118, some 119, some 120, some 121, some 122, some 123, some 124, some 125, some 126, some 127, some 128, some 129, some 130, some 131, some 132, some 133, some 134, some 135, some 136, some 137, some 138, some 139, some 140, some 141, some 142, some 143]),
  .inr (0, 8, []),
  .inr (0, 8, []),
  .inr (0, 8, []),
  .inr (0, 8, []),
  .inr (0, 8, []),
  .inr (0, 8, []),
  .inr (0, 8, []),
  .inr (0, 8, []),
  .inr (0, 8, []),
  .inr (0, 8, []),
  .inr (0, 8, []),
  .inr (0, 8, []),
  .inr (0, 8, []),
  .inr (0, 8, []),
  .inr (0, 8, []),
  .inr (0, 8, []),
  .inr (0, 8, []),
  .inr (0, 8, []),
  .inr (0, 8, []),
  .inr (0, 8, []),
  .inr (0, 8, []),
  .inr (0, 8, []),
  .inr (0, 8, []),
  .inr (0, 8, []),
  .inr (0, 8, []),
  .inr (0, 8, []),
  .inl (2, [some 8, some 3, some 145, some 155]),
  .inr (4, 9, [some 146, some 147, some 148, some 149, some 150, some 151, some 152, some 153, some 154]),
  .inr (0, 256, []),
  .inr (0, 256, []),
  .inr (0, 256, []),
  .inr (0, 256, []),
  .inr (0, 256, []),
  .inr (0, 256, []),
  .inr (0, 256, []),
  .inr (0, 256, []),
  .inr (0, 256, []),
  .inr (0, 8, []),
  .inl (3, [some 1, some 157, some 158, none, none, none, none]),
  .inr (0, 6, []),
  .inr (0, 6, []),
  .inl (4, [some 8, some 1, some 5, some 160, some 161, some 162, some 163, some 164, none, none]),
  .inr (0, 8, []),
  .inr (0, 8, []),
  .inr (0, 8, []),
  .inr (0, 28, []),
  .inr (0, 9, []),
  .inl (0, [some 3, some 5, some 166, none, none]),
  .inr (1, 10, []),
  .inr (3, 4, [some 168, some 170, some 172, some 174]),
  .inl (6, [some 169, none, none]),
  .inr (0, 60, []),
  .inl (6, [some 171, none, none]),
  .inr (0, 60, []),
  .inl (6, [some 173, none, none]),
  .inr (0, 60, []),
  .inl (6, [some 175, none, none]),
  .inr (0, 60, []),
  .inl (10, [some 177, some 178, some 179, some 180, none, some 181, some 182, none, some 183, some 184, some 185, some 186, some 187, some 188, some 189, some 190, some 191, some 192, none, some 193, some 194, some 195]),
  .inr (0, 4, []),
  .inr (0, 4, []),
  .inr (0, 240, []),
  .inr (0, 60, []),
  .inr (0, 144, []),
  .inr (0, 3, []),
  .inr (0, 3, []),
  .inr (0, 32, []),
  .inr (0, 32, []),
  .inr (0, 24, []),
  .inr (0, 2, []),
  .inr (0, 24, []),
  .inr (0, 8, []),
  .inr (0, 2304, []),
  .inr (0, 6, []),
  .inr (0, 6, []),
  .inr (0, 24, []),
  .inr (0, 200, []),
  .inr (0, 9, [])]
def st0 : Option (tC ⊕ (Option Value × tW)) := exe 4000 100 220 18 (0, [(0, .ref SCR)], [], w00, (true, 196, 7188))
def cf0 : tC := match st0 with
  | some (.inl c) => c
  | _ => (0, [], [], w00, (false, 0, 0))
set_option maxRecDepth 100000 in
theorem st0_ok : (match st0 with
  | some (.inl c) => decide (c.1 = 18 ∧ c.2.1 = [(0, .ref SCR), (1, .ref 0), (2, .ref 176), (3, .int 0)] ∧ c.2.2.1 = [] ∧ c.2.2.2.1.1 = S0)
  | _ => false) = true := by decide +kernel
/-- the ints behind the constructors -/
def D0 : Nat → Nat → Int32 := cf0.2.2.2.1.2.1
def L0 : Nat → Nat → Int64 := cf0.2.2.2.1.2.2
set_option maxRecDepth 100000 in
theorem D0_ok : D0 1 1 = 39 ∧ D0 3 1 = 47 ∧ D0 5 1 = 24 ∧ D0 1 2 = 0 ∧ D0 3 2 = 0 ∧ D0 5 2 = 0 ∧ D0 1 3 = -1 ∧ D0 3 3 = -1 ∧ D0 5 3 = -1 ∧ D0 1 4 = 0 ∧ D0 3 4 = 0 ∧ D0 5 4 = 0 ∧ D0 8 8 = 15 ∧ D0 8 9 = 0 ∧ D0 8 10 = 1 ∧ D0 159 8 = 0 ∧
    D0 168 1 = -1 ∧ D0 170 1 = -1 ∧ D0 172 1 = -1 ∧ D0 174 1 = -1 ∧ D0 168 2 = 0 ∧ D0 170 2 = 0 ∧ D0 172 2 = 0 ∧ D0 174 2 = 0 ∧ D0 0 10 = 0 ∧ D0 176 4 = 0 ∧ D0 176 18 = 0 ∧ D0 177 0 = -1 ∧ D0 177 1 = -1 ∧ D0 177 2 = -1 ∧ D0 177 3 = -1 ∧ D0 182 0 = 0 ∧ D0 182 1 = 0 ∧ D0 182 2 = 0 ∧ D0 187 0 = 15 ∧ D0 187 1 = 0 := by decide +kernel
set_option maxRecDepth 100000 in
theorem D0_res : (List.range 8).all (fun c => decide (D0 153 c = 0)) = true ∧ (List.range 256).all (fun c => decide (D0 154 c = 0)) = true := by decide +kernel
/-- what is left of the law: its loop, from the world behind the constructors -/
theorem run_of (hloop : ∀ (L : Nat) (xs : Nat → Int32), L ≤ 384 → Wp (some (L, xs)) 100 220 (18, [(0, .ref SCR), (1, .ref 0), (2, .ref 176), (3, .int 0)], [], (S0, D0, L0), cf0.2.2.2.2) (fun v _ => v = some (.int 1))) : ∀ (L : Nat) (xs : Nat → Int32), L ≤ 384 → Wp (some (L, xs)) 100 220 (0, [(0, .ref SCR)], [], w00, (true, 196, 7188)) (fun v _ => v = some (.int 1)) := by
  intro L xs hL
  have h := st0_ok
  cases hs : st0 with
  | none => rw [hs] at h; cases h
  | some r =>
    rw [hs] at h
    cases r with
    | inr r => cases h
    | inl c =>
      dsimp only at h
      have h2 := of_decide_eq_true h
      obtain ⟨h3, h4, h5, h6⟩ := h2
      have hc : cf0 = c := by unfold cf0; rw [hs]
      refine exe_ok 4000 100 220 18 (some (L, xs)) _ (.inl c) _ hs ?_
      have hw : c = (18, [(0, .ref SCR), (1, .ref 0), (2, .ref 176), (3, .int 0)], [], (S0, D0, L0), cf0.2.2.2.2) := by
        unfold D0 L0
        rw [hc, ← h3, ← h4, ← h5, ← h6]
      show Wp (some (L, xs)) 100 220 c _
      rw [hw]
      exact hloop L xs hL
