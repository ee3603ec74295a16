/-! the small machine is sound: by induction on its steps -/
def retOK (mi pc : Nat) (v : Option Value) : Prop := match v with
  | none => decode (mCode mi) pc = .ok (.return_, 1) ∧ mRet mi = none
  | some (.int x) => decode (mCode mi) pc = .ok (.ireturn, 1) ∧ (mRet mi = some .int ∨ (mRet mi = some .boolean ∧ (x = 0 ∨ x = 1)))
  | some (.long _) => decode (mCode mi) pc = .ok (.lreturn, 1) ∧ mRet mi = some .long
  | some (.ref _) => decode (mCode mi) pc = .ok (.areturn, 1) ∧ (mRet mi = some (.object RX8) ∨ mRet mi = some (.object RX6))
  | some .null => decode (mCode mi) pc = .ok (.areturn, 1) ∧ (mRet mi = some (.object RX8) ∨ mRet mi = some (.object RX6))
  | _ => False
/-- a return of the small machine -/
theorem stp_ret {sc : tSc} {mi : Nat} {i : Instr} {x : tX} {pc : Nat} {ls : tF} {st : List Value} {w : tW} {b : tB} {v : Option Value} (hi : ins mi pc = some (i, x)) (h : stp sc mi i x pc ls st w b = some (.inr (.inr v))) : st = v.toList ∧ retOK mi pc v ∧ (mCc mi = 0 ∨ b.1 = true ∨ sc.isSome = true) := by
  have hcall : ∀ (f : Nat) (as rest : List Value), s_call pc f as ls rest w b = some (.inr (.inr v)) → False := by
    intro f as rest h
    unfold s_call at h
    split at h
    · split at h
      · cases h
      · split at h <;> cases h
    · cases h
  cases i with
  | ireturn =>
    simp only [stp] at h
    split at h
    next y =>
      split at h
      next h1 =>
        split at h
        next h2 => cases h; exact ⟨rfl, ⟨dec_of hi rfl rfl, h1⟩, h2⟩
        next => cases h
      next => cases h
    next => cases h
  | lreturn =>
    simp only [stp] at h
    split at h
    next y =>
      split at h
      next h1 => cases h; exact ⟨rfl, ⟨dec_of hi rfl rfl, h1.1⟩, Or.inl h1.2⟩
      next => cases h
    next => cases h
  | areturn =>
    simp only [stp] at h
    split at h
    next y =>
      split at h
      next h1 =>
        split at h
        next h2 => cases h; exact ⟨rfl, ⟨dec_of hi rfl rfl, h1⟩, Or.inl h2⟩
        next => cases h
      next => cases h
    next =>
      split at h
      next h1 =>
        split at h
        next h2 => cases h; exact ⟨rfl, ⟨dec_of hi rfl rfl, h1⟩, Or.inl h2⟩
        next => cases h
      next => cases h
    next => cases h
  | return_ =>
    simp only [stp] at h
    split at h
    next =>
      split at h
      next h1 =>
        cases h
        refine ⟨rfl, ⟨dec_of hi rfl rfl, h1.1⟩, ?_⟩
        rcases h1.2 with h | h
        · exact Or.inl h
        · exact Or.inr (Or.inl h)
      next => cases h
    next => cases h
  | invokevirtual a1 =>
    exfalso
    simp only [stp] at h
    repeat' split at h
    all_goals first | exact hcall _ _ _ h | cases h
  | invokestatic a1 =>
    exfalso
    simp only [stp, nx] at h
    repeat' split at h
    all_goals first | exact hcall _ _ _ h | cases h
  | invokespecial a1 =>
    exfalso
    simp only [stp, nx] at h
    repeat' split at h
    all_goals first | exact hcall _ _ _ h | cases h
  | _ =>
    exfalso
    simp only [stp, nx, s_il, s_ll, s_al, s_is, s_ls, s_as, s_ii, s_jj, s_i, s_br] at h
    repeat' split at h
    all_goals cases h
