/-! switches, fields, arrays -/
theorem i32_eq {y : Int32} {k : Nat} (hk : k < 2 ^ 31) : y = Int32.ofNat k ↔ y.toInt = (k : Int) := by
  rw [← nI_toInt hk]
  exact (Int32.toInt_inj (x := y) (y := nI k)).symm
theorem tb_in {pc d : Nat} {y : Int32} : ∀ (k : Nat) (cs : List (Nat × Nat)) (os : List Int) (i : Nat), tbOK pc k cs os = true → k + os.length < 2 ^ 31 → y.toInt = ((k + i : Nat) : Int) → i < os.length → ∃ o, os[i]? = some o ∧ (pc : Int) + o = ((swt cs d y : Nat) : Int)
  | k, [], [], i, _, _, _, h => absurd h (Nat.not_lt_zero _)
  | k, [], o :: os, i, h, _, _, _ => by simp [tbOK] at h
  | k, (c, t) :: cs, [], i, h, _, _, _ => by simp [tbOK] at h
  | k, (c, t) :: cs, o :: os, i, h, hb, hy, hi => by
    simp only [tbOK, Bool.and_eq_true, decide_eq_true_eq] at h
    obtain ⟨⟨h1, h2⟩, h3⟩ := h
    subst h1
    simp only [List.length_cons] at hb hi
    cases i with
    | zero =>
      refine ⟨o, rfl, ?_⟩
      have : y = Int32.ofNat c := (i32_eq (by omega)).mpr (by simpa using hy)
      simp only [swt, if_pos this]
      exact h2
    | succ i =>
      have hne : ¬ y = Int32.ofNat c := fun q => by
        have := (i32_eq (by omega)).mp q
        omega
      simp only [swt, if_neg hne, List.getElem?_cons_succ]
      exact tb_in (c + 1) cs os i h3 (by omega) (by rw [hy]; omega) (by omega)
theorem tb_out {pc d : Nat} {y : Int32} : ∀ (k : Nat) (cs : List (Nat × Nat)) (os : List Int), tbOK pc k cs os = true → k + os.length < 2 ^ 31 → (y.toInt < (k : Int) ∨ ((k + os.length : Nat) : Int) ≤ y.toInt) → swt cs d y = d
  | k, [], [], _, _, _ => rfl
  | k, [], o :: os, h, _, _ => by simp [tbOK] at h
  | k, (c, t) :: cs, [], h, _, _ => by simp [tbOK] at h
  | k, (c, t) :: cs, o :: os, h, hb, hy => by
    simp only [tbOK, Bool.and_eq_true, decide_eq_true_eq] at h
    obtain ⟨⟨h1, h2⟩, h3⟩ := h
    subst h1
    simp only [List.length_cons] at hb hy
    have hne : ¬ y = Int32.ofNat c := fun q => by
      have := (i32_eq (by omega)).mp q
      omega
    simp only [swt, if_neg hne]
    exact tb_out (c + 1) cs os h3 (by omega) (by omega)
theorem lk_off {pc d : Nat} {D : Int} {y : Int32} (hd : (pc : Int) + D = (d : Int)) : ∀ (cs : List (Nat × Nat)) (ps : List (Int × Int)), lkOK pc cs ps = true → (ps.all (fun q => decide (0 ≤ q.1) && decide (q.1 < 100000))) = true → (pc : Int) + Op.lookupswitch.offset ps D y.toInt = ((swt cs d y : Nat) : Int)
  | [], [], _, _ => by rw [show Op.lookupswitch.offset [] D y.toInt = D from rfl]; exact hd
  | [], _ :: _, h, _ => by simp [lkOK] at h
  | (_, _) :: _, [], h, _ => by simp [lkOK] at h
  | (c, t) :: cs, (a, o) :: ps, h, ha => by
    simp only [lkOK, Bool.and_eq_true, decide_eq_true_eq] at h
    obtain ⟨⟨h1, h2⟩, h3⟩ := h
    simp only [List.all_cons, Bool.and_eq_true, decide_eq_true_eq] at ha
    obtain ⟨⟨a1, a2⟩, a3⟩ := ha
    rw [Op.lookupswitch.offset_cons]
    by_cases hy : y = Int32.ofNat c
    · have := (i32_eq (y := y) (by omega)).mp hy
      rw [if_pos (by omega)]
      simp only [swt, if_pos hy]
      exact h2
    · have : ¬ a = y.toInt := fun q => hy ((i32_eq (by omega)).mpr (by omega))
      rw [if_neg this]
      simp only [swt, if_neg hy]
      exact lk_off hd cs ps h3 (by simpa using a3)
theorem rng_get {α : Type} (f : Nat → α) {n k : Nat} (h : k < n) : ((List.range n).map f)[k]? = some (f k) := by
  rw [List.getElem?_map, List.getElem?_range h]; rfl
theorem cls_facts : ∀ (ci : Nat) (r : vw_C), vwCl[ci]? = some r → r.2.2 = cN ci ∧ (∀ w ∈ u_ws r.1 r.2.1 r.2.2, w ∈ tTS) ∧ (∀ k, k < r.2.2 → parseFieldDescriptor (r.2.1 k).2.2.1 = some (cty ci k)) ∧ (∀ a, a < r.2.2 → ∀ b, b < r.2.2 → a ≠ b → (r.2.1 a).2.1 ≠ (r.2.1 b).2.1)
  | 0, r, h => by cases h; exact ⟨rfl, inX0, tyX0_ok, nmX0⟩
  | 1, r, h => by cases h; exact ⟨rfl, inX1, tyX1_ok, nmX1⟩
  | 2, r, h => by cases h; exact ⟨rfl, inX2, tyX2_ok, nmX2⟩
  | 3, r, h => by cases h; exact ⟨rfl, inX3, tyX3_ok, nmX3⟩
  | 4, r, h => by cases h; exact ⟨rfl, inX4, tyX4_ok, nmX4⟩
  | 5, r, h => by cases h; exact ⟨rfl, inX5, tyX5_ok, nmX5⟩
  | 6, r, h => by cases h; exact ⟨rfl, inX6, tyX6_ok, nmX6⟩
  | 7, r, h => by cases h; exact ⟨rfl, inX7, tyX7_ok, nmX7⟩
  | 8, r, h => by cases h; exact ⟨rfl, inX9, tyX9_ok, nmX9⟩
  | 9, r, h => by cases h; exact ⟨rfl, inX10, tyX10_ok, nmX10⟩
  | 10, r, h => by cases h; exact ⟨rfl, inX11, tyX11_ok, nmX11⟩
  | n + 11, r, h => by simp at h
/-- a field's row: how it is linked -/
theorem fld_facts {args : Array Value} {s : State} (hts : ∀ w ∈ tTS, w.before args s = true) (hNW : ∀ w ∈ NWs, va_Nw w s) {r o i ci k ne pl ps : Nat} {ref : String} (h : fLd[r]? = some (o, i, ci, k, ne, pl, ps, ref)) :
    ∃ C T N, vwCl[ci]? = some (C, T, N) ∧ k < N ∧ ((ne = 0 ∧ (Cond.fieldLink (clsN o) i ref (T k).2.1 (T k).2.2.1).before args s = true) ∨ (¬ ne = 0 ∧ (Cond.fieldLinkNest (clsN o) i ref (T k).2.1 (T k).2.2.1 RX10).before args s = true)) ∧
      (∀ x, s.fieldFound? (T k).1 (T k).2.1 (T k).2.2.1 = some x → s.fieldFound? ref (T k).2.1 (T k).2.2.1 = some x) := by
  have h1 := fLd_ok _ (List.mem_of_getElem? h)
  unfold fOK at h1
  dsimp only at h1
  split at h1
  next C T N hc =>
    simp only [Bool.and_eq_true, decide_eq_true_eq, Bool.or_eq_true] at h1
    obtain ⟨⟨h2, h3⟩, h4⟩ := h1
    refine ⟨C, T, N, hc, h2, ?_, ?_⟩
    · split at h3
      next hz => exact Or.inl ⟨hz, wd hts (of_decide_eq_true h3) rfl⟩
      next hz => exact Or.inr ⟨hz, va_Nw.use rfl (hNW _ (List.mem_of_getElem? (of_decide_eq_true h3)))⟩
    · rcases h4 with h4 | h4
      · intro x hx; rw [h4]; exact hx
      · exact u_same (wd hts h4 rfl)
  next => cases h1
theorem ra_of {base bs a : Nat} (h : a < SCR) : ra base bs a = base + a := if_neg (Nat.ne_of_lt h)
theorem rv_rf (base bs : Nat) (o : Option Nat) : rv base bs (va_rf o) = va_rf (o.map (ra base bs)) := by cases o <;> rfl
