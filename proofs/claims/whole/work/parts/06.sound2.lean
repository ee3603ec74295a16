section SD
variable {base bs : Nat} {dC : Nat → ClassId} {dI : Nat → Nat → Nat} {tc : Nat → ClassId} {sc : tSc} {p : Program} {l : Launch} {e : Env} {R : Room} {s : State} {m : MethodId} {args : Array Value} {below : List Frame} {meth : Method} {c : Code} {mi d : Nat} {Z : State → Prop}
variable {x : tX} {pc : Nat} {ls : tF} {st : List Value} {w : tW} {b : tB} {c' : tC}
theorem sd_iconst {n : Int} (C : tCx base bs dC dI tc sc p R s m args meth c mi d) (hi : ins mi pc = some (.iconst n, x)) (h : stp sc mi (.iconst n) x pc ls st w b = some (.inl c')) (k : tG base bs dC dI tc p l e R s m args below meth c mi Z c') : tG base bs dC dI tc p l e R s m args below meth c mi Z (pc, ls, st, w, b) := by
  obtain ⟨hx, hb, hml, hown, hts, hK, hNW, hini, hfr, hlo, hbase, hscr⟩ := C
  cases Option.some.inj h
  intro H locs cells slots la hR hl
  exact lv_iconst hx hb (dec_of hi rfl rfl) rfl (k H locs cells slots la hR hl)
theorem sd_bipush {n : Int} (C : tCx base bs dC dI tc sc p R s m args meth c mi d) (hi : ins mi pc = some (.bipush n, x)) (h : stp sc mi (.bipush n) x pc ls st w b = some (.inl c')) (k : tG base bs dC dI tc p l e R s m args below meth c mi Z c') : tG base bs dC dI tc p l e R s m args below meth c mi Z (pc, ls, st, w, b) := by
  obtain ⟨hx, hb, hml, hown, hts, hK, hNW, hini, hfr, hlo, hbase, hscr⟩ := C
  cases Option.some.inj h
  intro H locs cells slots la hR hl
  exact lv_bipush hx hb (dec_of hi rfl rfl) rfl (k H locs cells slots la hR hl)
theorem sd_sipush {n : Int} (C : tCx base bs dC dI tc sc p R s m args meth c mi d) (hi : ins mi pc = some (.sipush n, x)) (h : stp sc mi (.sipush n) x pc ls st w b = some (.inl c')) (k : tG base bs dC dI tc p l e R s m args below meth c mi Z c') : tG base bs dC dI tc p l e R s m args below meth c mi Z (pc, ls, st, w, b) := by
  obtain ⟨hx, hb, hml, hown, hts, hK, hNW, hini, hfr, hlo, hbase, hscr⟩ := C
  cases Option.some.inj h
  intro H locs cells slots la hR hl
  exact lv_sipush hx hb (dec_of hi rfl rfl) rfl (k H locs cells slots la hR hl)
theorem sd_lconst {n : Fin 2} (C : tCx base bs dC dI tc sc p R s m args meth c mi d) (hi : ins mi pc = some (.lconst n, x)) (h : stp sc mi (.lconst n) x pc ls st w b = some (.inl c')) (k : tG base bs dC dI tc p l e R s m args below meth c mi Z c') : tG base bs dC dI tc p l e R s m args below meth c mi Z (pc, ls, st, w, b) := by
  obtain ⟨hx, hb, hml, hown, hts, hK, hNW, hini, hfr, hlo, hbase, hscr⟩ := C
  cases Option.some.inj h
  intro H locs cells slots la hR hl
  exact lv_lconst hx hb (dec_of hi rfl rfl) rfl (k H locs cells slots la hR hl)
theorem sd_null  (C : tCx base bs dC dI tc sc p R s m args meth c mi d) (hi : ins mi pc = some (.aconst_null, x)) (h : stp sc mi (.aconst_null) x pc ls st w b = some (.inl c')) (k : tG base bs dC dI tc p l e R s m args below meth c mi Z c') : tG base bs dC dI tc p l e R s m args below meth c mi Z (pc, ls, st, w, b) := by
  obtain ⟨hx, hb, hml, hown, hts, hK, hNW, hini, hfr, hlo, hbase, hscr⟩ := C
  cases Option.some.inj h
  intro H locs cells slots la hR hl
  exact lv_null hx hb (dec_of hi rfl rfl) (k H locs cells slots la hR hl)
theorem sd_ldc {n : Nat} (C : tCx base bs dC dI tc sc p R s m args meth c mi d) (hi : ins mi pc = some (.ldc n, x)) (h : stp sc mi (.ldc n) x pc ls st w b = some (.inl c')) (k : tG base bs dC dI tc p l e R s m args below meth c mi Z c') : tG base bs dC dI tc p l e R s m args below meth c mi Z (pc, ls, st, w, b) := by
  obtain ⟨hx, hb, hml, hown, hts, hK, hNW, hini, hfr, hlo, hbase, hscr⟩ := C
  have hc := ins_spec hi
  unfold chk at hc
  simp only [Bool.and_eq_true, decide_eq_true_eq] at hc
  cases Option.some.inj h
  intro H locs cells slots la hR hl
  exact lv_ldc hx hb hown (wd hts hc.2 rfl) (dec_of hi rfl rfl) (k H locs cells slots la hR hl)
theorem sd_ldc_w {n : Nat} (C : tCx base bs dC dI tc sc p R s m args meth c mi d) (hi : ins mi pc = some (.ldc_w n, x)) (h : stp sc mi (.ldc_w n) x pc ls st w b = some (.inl c')) (k : tG base bs dC dI tc p l e R s m args below meth c mi Z c') : tG base bs dC dI tc p l e R s m args below meth c mi Z (pc, ls, st, w, b) := by
  obtain ⟨hx, hb, hml, hown, hts, hK, hNW, hini, hfr, hlo, hbase, hscr⟩ := C
  have hc := ins_spec hi
  unfold chk at hc
  simp only [Bool.and_eq_true, decide_eq_true_eq] at hc
  cases Option.some.inj h
  intro H locs cells slots la hR hl
  exact lv_ldcw hx hb hown (wd hts hc.2 rfl) (dec_of hi rfl rfl) (k H locs cells slots la hR hl)
theorem sd_ldc2_w {n : Nat} (C : tCx base bs dC dI tc sc p R s m args meth c mi d) (hi : ins mi pc = some (.ldc2_w n, x)) (h : stp sc mi (.ldc2_w n) x pc ls st w b = some (.inl c')) (k : tG base bs dC dI tc p l e R s m args below meth c mi Z c') : tG base bs dC dI tc p l e R s m args below meth c mi Z (pc, ls, st, w, b) := by
  obtain ⟨hx, hb, hml, hown, hts, hK, hNW, hini, hfr, hlo, hbase, hscr⟩ := C
  have hc := ins_spec hi
  unfold chk at hc
  simp only [Bool.and_eq_true, decide_eq_true_eq] at hc
  cases Option.some.inj h
  intro H locs cells slots la hR hl
  exact lv_ldc2 hx hb hown (wd hts hc.2 rfl) (dec_of hi rfl rfl) (k H locs cells slots la hR hl)
theorem sd_iload_n {n : Fin 4} (C : tCx base bs dC dI tc sc p R s m args meth c mi d) (hi : ins mi pc = some (.iload_n n, x)) (h : stp sc mi (.iload_n n) x pc ls st w b = some (.inl c')) (k : tG base bs dC dI tc p l e R s m args below meth c mi Z c') : tG base bs dC dI tc p l e R s m args below meth c mi Z (pc, ls, st, w, b) := by
  obtain ⟨hx, hb, hml, hown, hts, hK, hNW, hini, hfr, hlo, hbase, hscr⟩ := C
  simp only [stp, s_il, nx] at h
  split at h
  next v hv =>
    cases Option.some.inj h
    intro H locs cells slots la hR hl
    exact lv_iload_n hx hb (dec_of hi rfl rfl) rfl (lget_at hl hv) (k H locs cells slots la hR hl)
  next => cases h
theorem sd_iload {n : Nat} (C : tCx base bs dC dI tc sc p R s m args meth c mi d) (hi : ins mi pc = some (.iload n, x)) (h : stp sc mi (.iload n) x pc ls st w b = some (.inl c')) (k : tG base bs dC dI tc p l e R s m args below meth c mi Z c') : tG base bs dC dI tc p l e R s m args below meth c mi Z (pc, ls, st, w, b) := by
  obtain ⟨hx, hb, hml, hown, hts, hK, hNW, hini, hfr, hlo, hbase, hscr⟩ := C
  simp only [stp, s_il, nx] at h
  split at h
  next v hv =>
    cases Option.some.inj h
    intro H locs cells slots la hR hl
    exact lv_iload hx hb (dec_of hi rfl rfl) (lget_at hl hv) (k H locs cells slots la hR hl)
  next => cases h
theorem sd_lload_n {n : Fin 4} (C : tCx base bs dC dI tc sc p R s m args meth c mi d) (hi : ins mi pc = some (.lload_n n, x)) (h : stp sc mi (.lload_n n) x pc ls st w b = some (.inl c')) (k : tG base bs dC dI tc p l e R s m args below meth c mi Z c') : tG base bs dC dI tc p l e R s m args below meth c mi Z (pc, ls, st, w, b) := by
  obtain ⟨hx, hb, hml, hown, hts, hK, hNW, hini, hfr, hlo, hbase, hscr⟩ := C
  simp only [stp, s_ll, nx] at h
  split at h
  next v hv =>
    cases Option.some.inj h
    intro H locs cells slots la hR hl
    exact lv_lload_n hx hb (dec_of hi rfl rfl) rfl (lget_at hl hv) (k H locs cells slots la hR hl)
  next => cases h
theorem sd_lload {n : Nat} (C : tCx base bs dC dI tc sc p R s m args meth c mi d) (hi : ins mi pc = some (.lload n, x)) (h : stp sc mi (.lload n) x pc ls st w b = some (.inl c')) (k : tG base bs dC dI tc p l e R s m args below meth c mi Z c') : tG base bs dC dI tc p l e R s m args below meth c mi Z (pc, ls, st, w, b) := by
  obtain ⟨hx, hb, hml, hown, hts, hK, hNW, hini, hfr, hlo, hbase, hscr⟩ := C
  simp only [stp, s_ll, nx] at h
  split at h
  next v hv =>
    cases Option.some.inj h
    intro H locs cells slots la hR hl
    exact lv_lload hx hb (dec_of hi rfl rfl) (lget_at hl hv) (k H locs cells slots la hR hl)
  next => cases h
theorem sd_aload_n {n : Fin 4} (C : tCx base bs dC dI tc sc p R s m args meth c mi d) (hi : ins mi pc = some (.aload_n n, x)) (h : stp sc mi (.aload_n n) x pc ls st w b = some (.inl c')) (k : tG base bs dC dI tc p l e R s m args below meth c mi Z c') : tG base bs dC dI tc p l e R s m args below meth c mi Z (pc, ls, st, w, b) := by
  obtain ⟨hx, hb, hml, hown, hts, hK, hNW, hini, hfr, hlo, hbase, hscr⟩ := C
  simp only [stp, s_al, nx] at h
  split at h
  next v hv =>
    cases Option.some.inj h
    intro H locs cells slots la hR hl
    exact lv_aload_n hx hb (dec_of hi rfl rfl) rfl (lget_at hl hv) (k H locs cells slots la hR hl)
  next hv =>
    cases Option.some.inj h
    intro H locs cells slots la hR hl
    exact lv_aload_nN hx hb (dec_of hi rfl rfl) rfl (lget_at hl hv) (k H locs cells slots la hR hl)
  next => cases h
theorem sd_aload {n : Nat} (C : tCx base bs dC dI tc sc p R s m args meth c mi d) (hi : ins mi pc = some (.aload n, x)) (h : stp sc mi (.aload n) x pc ls st w b = some (.inl c')) (k : tG base bs dC dI tc p l e R s m args below meth c mi Z c') : tG base bs dC dI tc p l e R s m args below meth c mi Z (pc, ls, st, w, b) := by
  obtain ⟨hx, hb, hml, hown, hts, hK, hNW, hini, hfr, hlo, hbase, hscr⟩ := C
  simp only [stp, s_al, nx] at h
  split at h
  next v hv =>
    cases Option.some.inj h
    intro H locs cells slots la hR hl
    exact lv_aload hx hb (dec_of hi rfl rfl) (lget_at hl hv) (k H locs cells slots la hR hl)
  next hv =>
    cases Option.some.inj h
    intro H locs cells slots la hR hl
    exact lv_aloadN hx hb (dec_of hi rfl rfl) (lget_at hl hv) (k H locs cells slots la hR hl)
  next => cases h
theorem sd_istore_n {n : Fin 4} (C : tCx base bs dC dI tc sc p R s m args meth c mi d) (hi : ins mi pc = some (.istore_n n, x)) (h : stp sc mi (.istore_n n) x pc ls st w b = some (.inl c')) (k : tG base bs dC dI tc p l e R s m args below meth c mi Z c') : tG base bs dC dI tc p l e R s m args below meth c mi Z (pc, ls, st, w, b) := by
  obtain ⟨hx, hb, hml, hown, hts, hK, hNW, hini, hfr, hlo, hbase, hscr⟩ := C
  simp only [stp, s_is, nx] at h
  split at h
  next v r =>
    split at h
    next hn =>
      cases Option.some.inj h
      intro H locs cells slots la hR hl
      exact lv_istore_n hx hb (dec_of hi rfl rfl) rfl hl hn rfl (fun la hl => k H locs cells slots la hR (lset1_has hl))
    next => cases h
  next => cases h
theorem sd_istore {n : Nat} (C : tCx base bs dC dI tc sc p R s m args meth c mi d) (hi : ins mi pc = some (.istore n, x)) (h : stp sc mi (.istore n) x pc ls st w b = some (.inl c')) (k : tG base bs dC dI tc p l e R s m args below meth c mi Z c') : tG base bs dC dI tc p l e R s m args below meth c mi Z (pc, ls, st, w, b) := by
  obtain ⟨hx, hb, hml, hown, hts, hK, hNW, hini, hfr, hlo, hbase, hscr⟩ := C
  simp only [stp, s_is, nx] at h
  split at h
  next v r =>
    split at h
    next hn =>
      cases Option.some.inj h
      intro H locs cells slots la hR hl
      exact lv_istore hx hb (dec_of hi rfl rfl) hl hn rfl (fun la hl => k H locs cells slots la hR (lset1_has hl))
    next => cases h
  next => cases h
theorem sd_lstore_n {n : Fin 4} (C : tCx base bs dC dI tc sc p R s m args meth c mi d) (hi : ins mi pc = some (.lstore_n n, x)) (h : stp sc mi (.lstore_n n) x pc ls st w b = some (.inl c')) (k : tG base bs dC dI tc p l e R s m args below meth c mi Z c') : tG base bs dC dI tc p l e R s m args below meth c mi Z (pc, ls, st, w, b) := by
  obtain ⟨hx, hb, hml, hown, hts, hK, hNW, hini, hfr, hlo, hbase, hscr⟩ := C
  simp only [stp, s_ls, nx] at h
  split at h
  next v r =>
    split at h
    next hn =>
      cases Option.some.inj h
      intro H locs cells slots la hR hl
      exact lv_lstore_n hx hb (dec_of hi rfl rfl) rfl hl hn rfl (fun la hl => k H locs cells slots la hR (lset2_has hl))
    next => cases h
  next => cases h
theorem sd_lstore {n : Nat} (C : tCx base bs dC dI tc sc p R s m args meth c mi d) (hi : ins mi pc = some (.lstore n, x)) (h : stp sc mi (.lstore n) x pc ls st w b = some (.inl c')) (k : tG base bs dC dI tc p l e R s m args below meth c mi Z c') : tG base bs dC dI tc p l e R s m args below meth c mi Z (pc, ls, st, w, b) := by
  obtain ⟨hx, hb, hml, hown, hts, hK, hNW, hini, hfr, hlo, hbase, hscr⟩ := C
  simp only [stp, s_ls, nx] at h
  split at h
  next v r =>
    split at h
    next hn =>
      cases Option.some.inj h
      intro H locs cells slots la hR hl
      exact lv_lstore hx hb (dec_of hi rfl rfl) hl hn rfl (fun la hl => k H locs cells slots la hR (lset2_has hl))
    next => cases h
  next => cases h
theorem sd_astore_n {n : Fin 4} (C : tCx base bs dC dI tc sc p R s m args meth c mi d) (hi : ins mi pc = some (.astore_n n, x)) (h : stp sc mi (.astore_n n) x pc ls st w b = some (.inl c')) (k : tG base bs dC dI tc p l e R s m args below meth c mi Z c') : tG base bs dC dI tc p l e R s m args below meth c mi Z (pc, ls, st, w, b) := by
  obtain ⟨hx, hb, hml, hown, hts, hK, hNW, hini, hfr, hlo, hbase, hscr⟩ := C
  simp only [stp, s_as, nx] at h
  split at h
  next v r =>
    split at h
    next hn =>
      cases Option.some.inj h
      intro H locs cells slots la hR hl
      exact lv_astore_n hx hb (dec_of hi rfl rfl) rfl hl hn rfl (fun la hl => k H locs cells slots la hR (lset1_has (v := .ref v) hl))
    next => cases h
  next r =>
    split at h
    next hn =>
      cases Option.some.inj h
      intro H locs cells slots la hR hl
      exact lv_astore_nN hx hb (dec_of hi rfl rfl) rfl hl hn rfl (fun la hl => k H locs cells slots la hR (lset1_has (v := .null) hl))
    next => cases h
  next => cases h
theorem sd_astore {n : Nat} (C : tCx base bs dC dI tc sc p R s m args meth c mi d) (hi : ins mi pc = some (.astore n, x)) (h : stp sc mi (.astore n) x pc ls st w b = some (.inl c')) (k : tG base bs dC dI tc p l e R s m args below meth c mi Z c') : tG base bs dC dI tc p l e R s m args below meth c mi Z (pc, ls, st, w, b) := by
  obtain ⟨hx, hb, hml, hown, hts, hK, hNW, hini, hfr, hlo, hbase, hscr⟩ := C
  simp only [stp, s_as, nx] at h
  split at h
  next v r =>
    split at h
    next hn =>
      cases Option.some.inj h
      intro H locs cells slots la hR hl
      exact lv_astore hx hb (dec_of hi rfl rfl) hl hn rfl (fun la hl => k H locs cells slots la hR (lset1_has (v := .ref v) hl))
    next => cases h
  next r =>
    split at h
    next hn =>
      cases Option.some.inj h
      intro H locs cells slots la hR hl
      exact lv_astoreN hx hb (dec_of hi rfl rfl) hl hn rfl (fun la hl => k H locs cells slots la hR (lset1_has (v := .null) hl))
    next => cases h
  next => cases h
theorem sd_iinc {n : Nat} {t : Int} (C : tCx base bs dC dI tc sc p R s m args meth c mi d) (hi : ins mi pc = some (.iinc n t, x)) (h : stp sc mi (.iinc n t) x pc ls st w b = some (.inl c')) (k : tG base bs dC dI tc p l e R s m args below meth c mi Z c') : tG base bs dC dI tc p l e R s m args below meth c mi Z (pc, ls, st, w, b) := by
  obtain ⟨hx, hb, hml, hown, hts, hK, hNW, hini, hfr, hlo, hbase, hscr⟩ := C
  simp only [stp, nx] at h
  split at h
  next y hv =>
    split at h
    next hn =>
      cases Option.some.inj h
      intro H locs cells slots la hR hl
      have hm : (n, Value.int y) ∈ rl base bs ls := by
        have key : ∀ ls : tF, lget ls n = some (.int y) → (n, Value.int y) ∈ rl base bs ls := by
          intro ls
          induction ls with
          | nil => intro hh; cases hh
          | cons q t ih =>
            intro hh
            obtain ⟨j, u⟩ := q
            unfold lget at hh
            split at hh
            next he => rw [he, Option.some.inj hh]; exact List.mem_cons_self
            next => exact List.mem_cons_of_mem _ (ih hh)
        exact key ls hv
      obtain ⟨j, hj⟩ := List.getElem?_of_mem hm
      exact lv_iinc hx hb (dec_of hi rfl rfl) hl hj rfl hn rfl (fun la hl => k H locs cells slots la hR (lset1_has (v := .int (y + Int32.ofInt t)) hl))
    next => cases h
  next => cases h
theorem sd_iadd  (C : tCx base bs dC dI tc sc p R s m args meth c mi d) (hi : ins mi pc = some (.iadd, x)) (h : stp sc mi (.iadd) x pc ls st w b = some (.inl c')) (k : tG base bs dC dI tc p l e R s m args below meth c mi Z c') : tG base bs dC dI tc p l e R s m args below meth c mi Z (pc, ls, st, w, b) := by
  obtain ⟨hx, hb, hml, hown, hts, hK, hNW, hini, hfr, hlo, hbase, hscr⟩ := C
  simp only [stp, s_ii, nx] at h
  split at h
  next y x r =>
    cases Option.some.inj h
    intro H locs cells slots la hR hl
    exact lv_iadd hx hb (dec_of hi rfl rfl) (k H locs cells slots la hR hl)
  next => cases h
theorem sd_isub  (C : tCx base bs dC dI tc sc p R s m args meth c mi d) (hi : ins mi pc = some (.isub, x)) (h : stp sc mi (.isub) x pc ls st w b = some (.inl c')) (k : tG base bs dC dI tc p l e R s m args below meth c mi Z c') : tG base bs dC dI tc p l e R s m args below meth c mi Z (pc, ls, st, w, b) := by
  obtain ⟨hx, hb, hml, hown, hts, hK, hNW, hini, hfr, hlo, hbase, hscr⟩ := C
  simp only [stp, s_ii, nx] at h
  split at h
  next y x r =>
    cases Option.some.inj h
    intro H locs cells slots la hR hl
    exact lv_isub hx hb (dec_of hi rfl rfl) (k H locs cells slots la hR hl)
  next => cases h
theorem sd_imul  (C : tCx base bs dC dI tc sc p R s m args meth c mi d) (hi : ins mi pc = some (.imul, x)) (h : stp sc mi (.imul) x pc ls st w b = some (.inl c')) (k : tG base bs dC dI tc p l e R s m args below meth c mi Z c') : tG base bs dC dI tc p l e R s m args below meth c mi Z (pc, ls, st, w, b) := by
  obtain ⟨hx, hb, hml, hown, hts, hK, hNW, hini, hfr, hlo, hbase, hscr⟩ := C
  simp only [stp, s_ii, nx] at h
  split at h
  next y x r =>
    cases Option.some.inj h
    intro H locs cells slots la hR hl
    exact lv_imul hx hb (dec_of hi rfl rfl) (k H locs cells slots la hR hl)
  next => cases h
theorem sd_iand  (C : tCx base bs dC dI tc sc p R s m args meth c mi d) (hi : ins mi pc = some (.iand, x)) (h : stp sc mi (.iand) x pc ls st w b = some (.inl c')) (k : tG base bs dC dI tc p l e R s m args below meth c mi Z c') : tG base bs dC dI tc p l e R s m args below meth c mi Z (pc, ls, st, w, b) := by
  obtain ⟨hx, hb, hml, hown, hts, hK, hNW, hini, hfr, hlo, hbase, hscr⟩ := C
  simp only [stp, s_ii, nx] at h
  split at h
  next y x r =>
    cases Option.some.inj h
    intro H locs cells slots la hR hl
    exact lv_iand hx hb (dec_of hi rfl rfl) (k H locs cells slots la hR hl)
  next => cases h
theorem sd_ior  (C : tCx base bs dC dI tc sc p R s m args meth c mi d) (hi : ins mi pc = some (.ior, x)) (h : stp sc mi (.ior) x pc ls st w b = some (.inl c')) (k : tG base bs dC dI tc p l e R s m args below meth c mi Z c') : tG base bs dC dI tc p l e R s m args below meth c mi Z (pc, ls, st, w, b) := by
  obtain ⟨hx, hb, hml, hown, hts, hK, hNW, hini, hfr, hlo, hbase, hscr⟩ := C
  simp only [stp, s_ii, nx] at h
  split at h
  next y x r =>
    cases Option.some.inj h
    intro H locs cells slots la hR hl
    exact lv_ior hx hb (dec_of hi rfl rfl) (k H locs cells slots la hR hl)
  next => cases h
theorem sd_ixor  (C : tCx base bs dC dI tc sc p R s m args meth c mi d) (hi : ins mi pc = some (.ixor, x)) (h : stp sc mi (.ixor) x pc ls st w b = some (.inl c')) (k : tG base bs dC dI tc p l e R s m args below meth c mi Z c') : tG base bs dC dI tc p l e R s m args below meth c mi Z (pc, ls, st, w, b) := by
  obtain ⟨hx, hb, hml, hown, hts, hK, hNW, hini, hfr, hlo, hbase, hscr⟩ := C
  simp only [stp, s_ii, nx] at h
  split at h
  next y x r =>
    cases Option.some.inj h
    intro H locs cells slots la hR hl
    exact lv_ixor hx hb (dec_of hi rfl rfl) (k H locs cells slots la hR hl)
  next => cases h
theorem sd_ishl  (C : tCx base bs dC dI tc sc p R s m args meth c mi d) (hi : ins mi pc = some (.ishl, x)) (h : stp sc mi (.ishl) x pc ls st w b = some (.inl c')) (k : tG base bs dC dI tc p l e R s m args below meth c mi Z c') : tG base bs dC dI tc p l e R s m args below meth c mi Z (pc, ls, st, w, b) := by
  obtain ⟨hx, hb, hml, hown, hts, hK, hNW, hini, hfr, hlo, hbase, hscr⟩ := C
  simp only [stp, s_ii, nx] at h
  split at h
  next y x r =>
    cases Option.some.inj h
    intro H locs cells slots la hR hl
    exact lv_ishl hx hb (dec_of hi rfl rfl) (k H locs cells slots la hR hl)
  next => cases h
theorem sd_ishr  (C : tCx base bs dC dI tc sc p R s m args meth c mi d) (hi : ins mi pc = some (.ishr, x)) (h : stp sc mi (.ishr) x pc ls st w b = some (.inl c')) (k : tG base bs dC dI tc p l e R s m args below meth c mi Z c') : tG base bs dC dI tc p l e R s m args below meth c mi Z (pc, ls, st, w, b) := by
  obtain ⟨hx, hb, hml, hown, hts, hK, hNW, hini, hfr, hlo, hbase, hscr⟩ := C
  simp only [stp, s_ii, nx] at h
  split at h
  next y x r =>
    cases Option.some.inj h
    intro H locs cells slots la hR hl
    exact lv_ishr hx hb (dec_of hi rfl rfl) (k H locs cells slots la hR hl)
  next => cases h
theorem sd_iushr  (C : tCx base bs dC dI tc sc p R s m args meth c mi d) (hi : ins mi pc = some (.iushr, x)) (h : stp sc mi (.iushr) x pc ls st w b = some (.inl c')) (k : tG base bs dC dI tc p l e R s m args below meth c mi Z c') : tG base bs dC dI tc p l e R s m args below meth c mi Z (pc, ls, st, w, b) := by
  obtain ⟨hx, hb, hml, hown, hts, hK, hNW, hini, hfr, hlo, hbase, hscr⟩ := C
  simp only [stp, s_ii, nx] at h
  split at h
  next y x r =>
    cases Option.some.inj h
    intro H locs cells slots la hR hl
    exact lv_iushr hx hb (dec_of hi rfl rfl) rfl (k H locs cells slots la hR hl)
  next => cases h
theorem sd_ladd  (C : tCx base bs dC dI tc sc p R s m args meth c mi d) (hi : ins mi pc = some (.ladd, x)) (h : stp sc mi (.ladd) x pc ls st w b = some (.inl c')) (k : tG base bs dC dI tc p l e R s m args below meth c mi Z c') : tG base bs dC dI tc p l e R s m args below meth c mi Z (pc, ls, st, w, b) := by
  obtain ⟨hx, hb, hml, hown, hts, hK, hNW, hini, hfr, hlo, hbase, hscr⟩ := C
  simp only [stp, s_jj, nx] at h
  split at h
  next y x r =>
    cases Option.some.inj h
    intro H locs cells slots la hR hl
    exact lv_ladd hx hb (dec_of hi rfl rfl) (k H locs cells slots la hR hl)
  next => cases h
theorem sd_lsub  (C : tCx base bs dC dI tc sc p R s m args meth c mi d) (hi : ins mi pc = some (.lsub, x)) (h : stp sc mi (.lsub) x pc ls st w b = some (.inl c')) (k : tG base bs dC dI tc p l e R s m args below meth c mi Z c') : tG base bs dC dI tc p l e R s m args below meth c mi Z (pc, ls, st, w, b) := by
  obtain ⟨hx, hb, hml, hown, hts, hK, hNW, hini, hfr, hlo, hbase, hscr⟩ := C
  simp only [stp, s_jj, nx] at h
  split at h
  next y x r =>
    cases Option.some.inj h
    intro H locs cells slots la hR hl
    exact lv_lsub hx hb (dec_of hi rfl rfl) (k H locs cells slots la hR hl)
  next => cases h
theorem sd_lmul  (C : tCx base bs dC dI tc sc p R s m args meth c mi d) (hi : ins mi pc = some (.lmul, x)) (h : stp sc mi (.lmul) x pc ls st w b = some (.inl c')) (k : tG base bs dC dI tc p l e R s m args below meth c mi Z c') : tG base bs dC dI tc p l e R s m args below meth c mi Z (pc, ls, st, w, b) := by
  obtain ⟨hx, hb, hml, hown, hts, hK, hNW, hini, hfr, hlo, hbase, hscr⟩ := C
  simp only [stp, s_jj, nx] at h
  split at h
  next y x r =>
    cases Option.some.inj h
    intro H locs cells slots la hR hl
    exact lv_lmul hx hb (dec_of hi rfl rfl) (k H locs cells slots la hR hl)
  next => cases h
theorem sd_idiv  (C : tCx base bs dC dI tc sc p R s m args meth c mi d) (hi : ins mi pc = some (.idiv, x)) (h : stp sc mi (.idiv) x pc ls st w b = some (.inl c')) (k : tG base bs dC dI tc p l e R s m args below meth c mi Z c') : tG base bs dC dI tc p l e R s m args below meth c mi Z (pc, ls, st, w, b) := by
  obtain ⟨hx, hb, hml, hown, hts, hK, hNW, hini, hfr, hlo, hbase, hscr⟩ := C
  simp only [stp, nx] at h
  split at h
  next y x r =>
    split at h
    next => cases h
    next hn =>
      cases Option.some.inj h
      intro H locs cells slots la hR hl
      exact lv_idiv hx hb (dec_of hi rfl rfl) hn (k H locs cells slots la hR hl)
  next => cases h
theorem sd_irem  (C : tCx base bs dC dI tc sc p R s m args meth c mi d) (hi : ins mi pc = some (.irem, x)) (h : stp sc mi (.irem) x pc ls st w b = some (.inl c')) (k : tG base bs dC dI tc p l e R s m args below meth c mi Z c') : tG base bs dC dI tc p l e R s m args below meth c mi Z (pc, ls, st, w, b) := by
  obtain ⟨hx, hb, hml, hown, hts, hK, hNW, hini, hfr, hlo, hbase, hscr⟩ := C
  simp only [stp, nx] at h
  split at h
  next y x r =>
    split at h
    next => cases h
    next hn =>
      cases Option.some.inj h
      intro H locs cells slots la hR hl
      exact lv_irem hx hb (dec_of hi rfl rfl) hn (k H locs cells slots la hR hl)
  next => cases h
theorem sd_ldiv  (C : tCx base bs dC dI tc sc p R s m args meth c mi d) (hi : ins mi pc = some (.ldiv, x)) (h : stp sc mi (.ldiv) x pc ls st w b = some (.inl c')) (k : tG base bs dC dI tc p l e R s m args below meth c mi Z c') : tG base bs dC dI tc p l e R s m args below meth c mi Z (pc, ls, st, w, b) := by
  obtain ⟨hx, hb, hml, hown, hts, hK, hNW, hini, hfr, hlo, hbase, hscr⟩ := C
  simp only [stp, nx] at h
  split at h
  next y x r =>
    split at h
    next => cases h
    next hn =>
      cases Option.some.inj h
      intro H locs cells slots la hR hl
      exact lv_ldiv hx hb (dec_of hi rfl rfl) hn (k H locs cells slots la hR hl)
  next => cases h
theorem sd_lrem  (C : tCx base bs dC dI tc sc p R s m args meth c mi d) (hi : ins mi pc = some (.lrem, x)) (h : stp sc mi (.lrem) x pc ls st w b = some (.inl c')) (k : tG base bs dC dI tc p l e R s m args below meth c mi Z c') : tG base bs dC dI tc p l e R s m args below meth c mi Z (pc, ls, st, w, b) := by
  obtain ⟨hx, hb, hml, hown, hts, hK, hNW, hini, hfr, hlo, hbase, hscr⟩ := C
  simp only [stp, nx] at h
  split at h
  next y x r =>
    split at h
    next => cases h
    next hn =>
      cases Option.some.inj h
      intro H locs cells slots la hR hl
      exact lv_lrem hx hb (dec_of hi rfl rfl) hn (k H locs cells slots la hR hl)
  next => cases h
theorem sd_ineg  (C : tCx base bs dC dI tc sc p R s m args meth c mi d) (hi : ins mi pc = some (.ineg, x)) (h : stp sc mi (.ineg) x pc ls st w b = some (.inl c')) (k : tG base bs dC dI tc p l e R s m args below meth c mi Z c') : tG base bs dC dI tc p l e R s m args below meth c mi Z (pc, ls, st, w, b) := by
  obtain ⟨hx, hb, hml, hown, hts, hK, hNW, hini, hfr, hlo, hbase, hscr⟩ := C
  simp only [stp, s_i, nx] at h
  split at h
  next x r =>
    cases Option.some.inj h
    intro H locs cells slots la hR hl
    exact lv_ineg hx hb (dec_of hi rfl rfl) (k H locs cells slots la hR hl)
  next => cases h
theorem sd_i2b  (C : tCx base bs dC dI tc sc p R s m args meth c mi d) (hi : ins mi pc = some (.i2b, x)) (h : stp sc mi (.i2b) x pc ls st w b = some (.inl c')) (k : tG base bs dC dI tc p l e R s m args below meth c mi Z c') : tG base bs dC dI tc p l e R s m args below meth c mi Z (pc, ls, st, w, b) := by
  obtain ⟨hx, hb, hml, hown, hts, hK, hNW, hini, hfr, hlo, hbase, hscr⟩ := C
  simp only [stp, s_i, nx] at h
  split at h
  next x r =>
    cases Option.some.inj h
    intro H locs cells slots la hR hl
    exact lv_i2b hx hb (dec_of hi rfl rfl) rfl (k H locs cells slots la hR hl)
  next => cases h
theorem sd_i2s  (C : tCx base bs dC dI tc sc p R s m args meth c mi d) (hi : ins mi pc = some (.i2s, x)) (h : stp sc mi (.i2s) x pc ls st w b = some (.inl c')) (k : tG base bs dC dI tc p l e R s m args below meth c mi Z c') : tG base bs dC dI tc p l e R s m args below meth c mi Z (pc, ls, st, w, b) := by
  obtain ⟨hx, hb, hml, hown, hts, hK, hNW, hini, hfr, hlo, hbase, hscr⟩ := C
  simp only [stp, s_i, nx] at h
  split at h
  next x r =>
    cases Option.some.inj h
    intro H locs cells slots la hR hl
    exact lv_i2s hx hb (dec_of hi rfl rfl) rfl (k H locs cells slots la hR hl)
  next => cases h
theorem sd_i2l  (C : tCx base bs dC dI tc sc p R s m args meth c mi d) (hi : ins mi pc = some (.i2l, x)) (h : stp sc mi (.i2l) x pc ls st w b = some (.inl c')) (k : tG base bs dC dI tc p l e R s m args below meth c mi Z c') : tG base bs dC dI tc p l e R s m args below meth c mi Z (pc, ls, st, w, b) := by
  obtain ⟨hx, hb, hml, hown, hts, hK, hNW, hini, hfr, hlo, hbase, hscr⟩ := C
  simp only [stp, nx] at h
  split at h
  next x r =>
    cases Option.some.inj h
    intro H locs cells slots la hR hl
    exact lv_i2l hx hb (dec_of hi rfl rfl) rfl (k H locs cells slots la hR hl)
  next => cases h
theorem sd_lcmp  (C : tCx base bs dC dI tc sc p R s m args meth c mi d) (hi : ins mi pc = some (.lcmp, x)) (h : stp sc mi (.lcmp) x pc ls st w b = some (.inl c')) (k : tG base bs dC dI tc p l e R s m args below meth c mi Z c') : tG base bs dC dI tc p l e R s m args below meth c mi Z (pc, ls, st, w, b) := by
  obtain ⟨hx, hb, hml, hown, hts, hK, hNW, hini, hfr, hlo, hbase, hscr⟩ := C
  simp only [stp, nx] at h
  split at h
  next y x r =>
    cases Option.some.inj h
    intro H locs cells slots la hR hl
    exact W.lcmp hx hb (dec_of hi rfl rfl) (k H locs cells slots la hR hl)
  next => cases h
theorem sd_dup  (C : tCx base bs dC dI tc sc p R s m args meth c mi d) (hi : ins mi pc = some (.dup, x)) (h : stp sc mi (.dup) x pc ls st w b = some (.inl c')) (k : tG base bs dC dI tc p l e R s m args below meth c mi Z c') : tG base bs dC dI tc p l e R s m args below meth c mi Z (pc, ls, st, w, b) := by
  obtain ⟨hx, hb, hml, hown, hts, hK, hNW, hini, hfr, hlo, hbase, hscr⟩ := C
  simp only [stp, nx] at h
  split at h
  next v r =>
    split at h
    next hv =>
      cases Option.some.inj h
      intro H locs cells slots la hR hl
      exact lv_dup hx hb (dec_of hi rfl rfl) ((rv_cat base bs v).trans hv) (k H locs cells slots la hR hl)
    next => cases h
  next => cases h
theorem sd_pop  (C : tCx base bs dC dI tc sc p R s m args meth c mi d) (hi : ins mi pc = some (.pop, x)) (h : stp sc mi (.pop) x pc ls st w b = some (.inl c')) (k : tG base bs dC dI tc p l e R s m args below meth c mi Z c') : tG base bs dC dI tc p l e R s m args below meth c mi Z (pc, ls, st, w, b) := by
  obtain ⟨hx, hb, hml, hown, hts, hK, hNW, hini, hfr, hlo, hbase, hscr⟩ := C
  simp only [stp, nx] at h
  split at h
  next v r =>
    split at h
    next hv =>
      cases Option.some.inj h
      intro H locs cells slots la hR hl
      exact lv_pop hx hb (dec_of hi rfl rfl) ((rv_cat base bs v).trans hv) (k H locs cells slots la hR hl)
    next => cases h
  next => cases h
theorem sd_dup2  (C : tCx base bs dC dI tc sc p R s m args meth c mi d) (hi : ins mi pc = some (.dup2, x)) (h : stp sc mi (.dup2) x pc ls st w b = some (.inl c')) (k : tG base bs dC dI tc p l e R s m args below meth c mi Z c') : tG base bs dC dI tc p l e R s m args below meth c mi Z (pc, ls, st, w, b) := by
  obtain ⟨hx, hb, hml, hown, hts, hK, hNW, hini, hfr, hlo, hbase, hscr⟩ := C
  simp only [stp, nx] at h
  split at h
  next v u r =>
    split at h
    next hv =>
      cases Option.some.inj h
      intro H locs cells slots la hR hl
      exact lv_dup2_11 hx hb (dec_of hi rfl rfl) ((rv_cat base bs v).trans hv.1) ((rv_cat base bs u).trans hv.2) (k H locs cells slots la hR hl)
    next => cases h
  next => cases h
theorem sd_ifCond {q : ClassFile.Cond} {n : Int} (C : tCx base bs dC dI tc sc p R s m args meth c mi d) (hi : ins mi pc = some (.ifCond q n, x)) (h : stp sc mi (.ifCond q n) x pc ls st w b = some (.inl c')) (k : tG base bs dC dI tc p l e R s m args below meth c mi Z c') : tG base bs dC dI tc p l e R s m args below meth c mi Z (pc, ls, st, w, b) := by
  obtain ⟨hx, hb, hml, hown, hts, hK, hNW, hini, hfr, hlo, hbase, hscr⟩ := C
  have hc := ins_spec hi
  unfold chk at hc
  simp only [Bool.and_eq_true, decide_eq_true_eq] at hc
  have ht := hc.2
  simp only [stp, s_br, nx] at h
  split at h
  next y r =>
    intro H locs cells slots la hR hl
    cases q with
    | eq =>
      split at h
      next hq =>
        cases Option.some.inj h
        refine lv_if_eq hx hb (dec_of hi rfl rfl) ht (fun _ => k H locs cells slots la hR hl) (fun hn => absurd ?_ hn)
        simpa [cndB] using hq
      next hq =>
        cases Option.some.inj h
        refine lv_if_eq hx hb (dec_of hi rfl rfl) ht (fun hy => absurd ?_ hq) (fun _ => k H locs cells slots la hR hl)
        simpa [cndB] using hy
    | ne =>
      split at h
      next hq =>
        cases Option.some.inj h
        refine lv_if_ne hx hb (dec_of hi rfl rfl) ht (fun _ => k H locs cells slots la hR hl) (fun hn => absurd hn ?_)
        simpa [cndB] using hq
      next hq =>
        cases Option.some.inj h
        refine lv_if_ne hx hb (dec_of hi rfl rfl) ht (fun hy => absurd ?_ hq) (fun _ => k H locs cells slots la hR hl)
        simpa [cndB] using hy
    | lt =>
      split at h
      next hq =>
        cases Option.some.inj h
        refine lv_if_lt hx hb (dec_of hi rfl rfl) ht (fun _ => k H locs cells slots la hR hl) (fun hn => absurd ?_ hn)
        simpa [cndB] using hq
      next hq =>
        cases Option.some.inj h
        refine lv_if_lt hx hb (dec_of hi rfl rfl) ht (fun hy => absurd ?_ hq) (fun _ => k H locs cells slots la hR hl)
        simpa [cndB] using hy
    | ge =>
      split at h
      next hq =>
        cases Option.some.inj h
        refine lv_if_ge hx hb (dec_of hi rfl rfl) ht (fun _ => k H locs cells slots la hR hl) (fun hn => absurd ?_ hn)
        simpa [cndB] using hq
      next hq =>
        cases Option.some.inj h
        refine lv_if_ge hx hb (dec_of hi rfl rfl) ht (fun hy => absurd ?_ hq) (fun _ => k H locs cells slots la hR hl)
        simpa [cndB] using hy
    | gt =>
      split at h
      next hq =>
        cases Option.some.inj h
        refine lv_if_gt hx hb (dec_of hi rfl rfl) ht (fun _ => k H locs cells slots la hR hl) (fun hn => absurd ?_ hn)
        simpa [cndB] using hq
      next hq =>
        cases Option.some.inj h
        refine lv_if_gt hx hb (dec_of hi rfl rfl) ht (fun hy => absurd ?_ hq) (fun _ => k H locs cells slots la hR hl)
        simpa [cndB] using hy
    | le =>
      split at h
      next hq =>
        cases Option.some.inj h
        refine lv_if_le hx hb (dec_of hi rfl rfl) ht (fun _ => k H locs cells slots la hR hl) (fun hn => absurd ?_ hn)
        simpa [cndB] using hq
      next hq =>
        cases Option.some.inj h
        refine lv_if_le hx hb (dec_of hi rfl rfl) ht (fun hy => absurd ?_ hq) (fun _ => k H locs cells slots la hR hl)
        simpa [cndB] using hy
  next => cases h
theorem sd_if_icmp {q : ClassFile.Cond} {n : Int} (C : tCx base bs dC dI tc sc p R s m args meth c mi d) (hi : ins mi pc = some (.if_icmp q n, x)) (h : stp sc mi (.if_icmp q n) x pc ls st w b = some (.inl c')) (k : tG base bs dC dI tc p l e R s m args below meth c mi Z c') : tG base bs dC dI tc p l e R s m args below meth c mi Z (pc, ls, st, w, b) := by
  obtain ⟨hx, hb, hml, hown, hts, hK, hNW, hini, hfr, hlo, hbase, hscr⟩ := C
  have hc := ins_spec hi
  unfold chk at hc
  simp only [Bool.and_eq_true, decide_eq_true_eq] at hc
  have ht := hc.2
  simp only [stp, s_br, nx] at h
  split at h
  next z y r =>
    intro H locs cells slots la hR hl
    cases q with
    | eq =>
      split at h
      next hq =>
        cases Option.some.inj h
        refine lv_icmp_eq hx hb (dec_of hi rfl rfl) ht (fun _ => k H locs cells slots la hR hl) (fun hn => absurd ?_ hn)
        simpa [cndB] using hq
      next hq =>
        cases Option.some.inj h
        refine lv_icmp_eq hx hb (dec_of hi rfl rfl) ht (fun hy => absurd ?_ hq) (fun _ => k H locs cells slots la hR hl)
        simpa [cndB] using hy
    | ne =>
      split at h
      next hq =>
        cases Option.some.inj h
        refine lv_icmp_ne hx hb (dec_of hi rfl rfl) ht (fun _ => k H locs cells slots la hR hl) (fun hn => absurd hn ?_)
        simpa [cndB] using hq
      next hq =>
        cases Option.some.inj h
        refine lv_icmp_ne hx hb (dec_of hi rfl rfl) ht (fun hy => absurd ?_ hq) (fun _ => k H locs cells slots la hR hl)
        simpa [cndB] using hy
    | lt =>
      split at h
      next hq =>
        cases Option.some.inj h
        refine lv_icmp_lt hx hb (dec_of hi rfl rfl) ht (fun _ => k H locs cells slots la hR hl) (fun hn => absurd ?_ hn)
        simpa [cndB] using hq
      next hq =>
        cases Option.some.inj h
        refine lv_icmp_lt hx hb (dec_of hi rfl rfl) ht (fun hy => absurd ?_ hq) (fun _ => k H locs cells slots la hR hl)
        simpa [cndB] using hy
    | ge =>
      split at h
      next hq =>
        cases Option.some.inj h
        refine lv_icmp_ge hx hb (dec_of hi rfl rfl) ht (fun _ => k H locs cells slots la hR hl) (fun hn => absurd ?_ hn)
        simpa [cndB] using hq
      next hq =>
        cases Option.some.inj h
        refine lv_icmp_ge hx hb (dec_of hi rfl rfl) ht (fun hy => absurd ?_ hq) (fun _ => k H locs cells slots la hR hl)
        simpa [cndB] using hy
    | gt =>
      split at h
      next hq =>
        cases Option.some.inj h
        refine lv_icmp_gt hx hb (dec_of hi rfl rfl) ht (fun _ => k H locs cells slots la hR hl) (fun hn => absurd ?_ hn)
        simpa [cndB] using hq
      next hq =>
        cases Option.some.inj h
        refine lv_icmp_gt hx hb (dec_of hi rfl rfl) ht (fun hy => absurd ?_ hq) (fun _ => k H locs cells slots la hR hl)
        simpa [cndB] using hy
    | le =>
      split at h
      next hq =>
        cases Option.some.inj h
        refine lv_icmp_le hx hb (dec_of hi rfl rfl) ht (fun _ => k H locs cells slots la hR hl) (fun hn => absurd ?_ hn)
        simpa [cndB] using hq
      next hq =>
        cases Option.some.inj h
        refine lv_icmp_le hx hb (dec_of hi rfl rfl) ht (fun hy => absurd ?_ hq) (fun _ => k H locs cells slots la hR hl)
        simpa [cndB] using hy
  next => cases h
theorem sd_goto {n : Int} (C : tCx base bs dC dI tc sc p R s m args meth c mi d) (hi : ins mi pc = some (.goto n, x)) (h : stp sc mi (.goto n) x pc ls st w b = some (.inl c')) (k : tG base bs dC dI tc p l e R s m args below meth c mi Z c') : tG base bs dC dI tc p l e R s m args below meth c mi Z (pc, ls, st, w, b) := by
  obtain ⟨hx, hb, hml, hown, hts, hK, hNW, hini, hfr, hlo, hbase, hscr⟩ := C
  have hc := ins_spec hi
  unfold chk at hc
  simp only [Bool.and_eq_true, decide_eq_true_eq] at hc
  have ht := hc.2
  cases Option.some.inj h
  intro H locs cells slots la hR hl
  exact lv_goto hx hb (dec_of hi rfl rfl) ht (k H locs cells slots la hR hl)
theorem sd_ifnull {n : Int} (C : tCx base bs dC dI tc sc p R s m args meth c mi d) (hi : ins mi pc = some (.ifnull n, x)) (h : stp sc mi (.ifnull n) x pc ls st w b = some (.inl c')) (k : tG base bs dC dI tc p l e R s m args below meth c mi Z c') : tG base bs dC dI tc p l e R s m args below meth c mi Z (pc, ls, st, w, b) := by
  obtain ⟨hx, hb, hml, hown, hts, hK, hNW, hini, hfr, hlo, hbase, hscr⟩ := C
  have hc := ins_spec hi
  unfold chk at hc
  simp only [Bool.and_eq_true, decide_eq_true_eq] at hc
  have ht := hc.2
  simp only [stp, nx] at h
  split at h
  next r =>
    cases Option.some.inj h
    intro H locs cells slots la hR hl
    exact lv_ifnullN hx hb (dec_of hi rfl rfl) ht (k H locs cells slots la hR hl)
  next a r =>
    cases Option.some.inj h
    intro H locs cells slots la hR hl
    exact lv_ifnull hx hb (dec_of hi rfl rfl) (k H locs cells slots la hR hl)
  next => cases h
theorem sd_ifnonnull {n : Int} (C : tCx base bs dC dI tc sc p R s m args meth c mi d) (hi : ins mi pc = some (.ifnonnull n, x)) (h : stp sc mi (.ifnonnull n) x pc ls st w b = some (.inl c')) (k : tG base bs dC dI tc p l e R s m args below meth c mi Z c') : tG base bs dC dI tc p l e R s m args below meth c mi Z (pc, ls, st, w, b) := by
  obtain ⟨hx, hb, hml, hown, hts, hK, hNW, hini, hfr, hlo, hbase, hscr⟩ := C
  have hc := ins_spec hi
  unfold chk at hc
  simp only [Bool.and_eq_true, decide_eq_true_eq] at hc
  have ht := hc.2
  simp only [stp, nx] at h
  split at h
  next r =>
    cases Option.some.inj h
    intro H locs cells slots la hR hl
    exact lv_ifnonnullN hx hb (dec_of hi rfl rfl) (k H locs cells slots la hR hl)
  next a r =>
    cases Option.some.inj h
    intro H locs cells slots la hR hl
    exact lv_ifnonnull hx hb (dec_of hi rfl rfl) ht (k H locs cells slots la hR hl)
  next => cases h
end SD
