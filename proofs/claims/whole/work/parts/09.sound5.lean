theorem ins_pfc {m pc : Nat} {i : Instr} {x : tX} (h : ins m pc = some (i, x)) : pfc m (pc, i, x) = true := by
  unfold ins at h
  cases hz : iZ.find? (fun q => q.1 == m) with
  | none => rw [hz] at h; cases h
  | some q =>
    rw [hz] at h
    have hm : q ∈ iZ := List.mem_of_find?_eq_some hz
    have hq : q.1 = m := by simpa using List.find?_some hz
    have key : ∀ (l : List (Nat × Instr × tX)), fnd l pc = some (i, x) → (pc, i, x) ∈ l := by
      intro l
      induction l with
      | nil => intro hh; cases hh
      | cons e t ih =>
        intro hh
        unfold fnd at hh
        split at hh
        next he =>
          obtain ⟨e1, e2⟩ := e
          have he' : e1 = pc := he
          have h2 : e2 = (i, x) := Option.some.inj hh
          rw [he', h2]
          exact List.mem_cons_self
        next => exact List.mem_cons_of_mem _ (ih hh)
    have := pfc_ok q hm _ (key q.2 h)
    rw [hq] at this
    exact this
theorem fld_rowP {m pc n : Nat} {x : tX} (hi : ins m pc = some (.putfield n, x)) {ci : Nat} (h : (rowOf x ci).isSome = true) : ∃ (r ne pl ps : Nat) (ref : String), fLd[r]? = some (mOwn m, n, ci, x.1, ne, pl, ps, ref) ∧ ∀ rr, vwCl[ci]? = some rr → (rr.2.1 x.1).2.2.2 = true → (rr.2.1 x.1).1 = clsN (mOwn m) ∧ ne = 0 := by
  have hc := ins_spec hi
  unfold chk at hc
  simp only [Bool.and_eq_true] at hc
  have hc2 := hc.2
  have hp := ins_pfc hi
  unfold pfc at hp
  dsimp only at hp
  unfold rowOf at h
  cases hf : x.2.2.1.find? (fun q => q.1 == ci) with
  | none => rw [hf] at h; cases h
  | some q =>
    have hm := List.mem_of_find?_eq_some hf
    have hq : q.1 = ci := by simpa using List.find?_some hf
    have h3 := List.all_eq_true.mp hc2 q hm
    have h5 := List.all_eq_true.mp hp q hm
    cases hr : fLd[q.2]? with
    | none => rw [hr] at h3; cases h3
    | some row =>
      rw [hr] at h3 h5
      obtain ⟨o, i, c1, k, ne, pl, ps, ref⟩ := row
      simp only [Bool.and_eq_true, decide_eq_true_eq] at h3
      obtain ⟨⟨⟨e1, e2⟩, e3⟩, e4⟩ := h3
      subst e1; subst e2; subst e3; subst e4
      refine ⟨q.2, ne, pl, ps, ref, by rw [hr, hq], fun rr hrr hfin => ?_⟩
      rw [hq, hrr] at h5
      dsimp only at h5
      rw [if_pos hfin] at h5
      simpa using h5
theorem fv_put_same {w : tW} {a ci k j : Nat} {rf : List (Option Nat)} {x : Int32} : fv (w.1, up2 w.2.1 a k x, w.2.2) a ci rf j = if j = k then (match cty ci j with
  | .int => .int x
  | .boolean => .int x
  | _ => fv w a ci rf j) else fv w a ci rf j := by
  unfold fv
  by_cases h : j = k
  · subst h; simp [up2]; split <;> simp_all
  · simp [up2, h]
theorem fv_put_long {w : tW} {a ci k j : Nat} {rf : List (Option Nat)} {x : Int64} : fv (w.1, w.2.1, up2 w.2.2 a k x) a ci rf j = if j = k then (match cty ci j with
  | .long => .long x
  | _ => fv w a ci rf j) else fv w a ci rf j := by
  unfold fv
  by_cases h : j = k
  · subst h; simp [up2]; split <;> simp_all
  · simp [up2, h]
theorem fv_put_ref {w : tW} {sh : List tS} {a ci k j r : Nat} {rf : List (Option Nat)} (hk : k < rf.length) : fv (sh, w.2) a ci (rf.set k (some r)) j = if j = k then (match cty ci j with
  | .int => fv w a ci rf j
  | .boolean => fv w a ci rf j
  | .long => fv w a ci rf j
  | _ => .ref r) else fv w a ci rf j := by
  unfold fv
  by_cases h : j = k
  · subst h; simp [List.getD, List.getElem?_set_self hk]; split <;> simp_all [va_rf]
  · simp [List.getD, h, List.getElem?_set_ne (Ne.symm h)]
/-- what a store into a field does to the world -/
theorem pv_spec {base bs : Nat} {tc : Nat → ClassId} {w w' : tW} {a ci k : Nat} {rf : List (Option Nat)} {v : Value} (h : pv w a ci rf k v = some w') (hlen : k < rf.length) (hw : w.1[a]? = some (.inl (ci, rf))) :
    ∃ rf', (∀ q, w'.1[q]? = if q = a then some (.inl (ci, rf')) else w.1[q]?) ∧ (∀ q c, q ≠ a → rE base bs tc w' q c = rE base bs tc w q c) ∧ (∀ j, fv w' a ci rf' j = if j = k then v else fv w a ci rf j) ∧ w'.1.length = w.1.length ∧
      narrow (cty ci k) (rv base bs v) = rv base bs v ∧ fits (cty ci k) (rv base bs v) = true := by
  unfold pv at h
  split at h
  next x hty =>
    cases Option.some.inj h
    refine ⟨rf, same_at hw, rE_i, fun j => ?_, rfl, by rw [hty]; rfl, by rw [hty]; rfl⟩
    rw [fv_put_same]
    by_cases hj : j = k
    · subst hj; simp [hty]
    · simp [hj]
  next x hty =>
    split at h
    next hx =>
      cases Option.some.inj h
      refine ⟨rf, same_at hw, rE_i, fun j => ?_, rfl, ?_, ?_⟩
      · rw [fv_put_same]
        by_cases hj : j = k
        · subst hj; simp [hty]
        · simp [hj]
      · rw [hty]; rcases hx with rfl | rfl <;> rfl
      · rw [hty]; rcases hx with rfl | rfl <;> rfl
    next => cases h
  next x hty =>
    cases Option.some.inj h
    refine ⟨rf, same_at hw, rE_l, fun j => ?_, rfl, by rw [hty]; rfl, by rw [hty]; rfl⟩
    rw [fv_put_long]
    by_cases hj : j = k
    · subst hj; simp [hty]
    · simp [hj]
  next t r hty =>
    cases Option.some.inj h
    refine ⟨rf.set k (some r), set_at hw, fun q c _ => rE_sh q c, fun j => ?_, List.length_set, by rw [hty]; rfl, by rw [hty]; rfl⟩
    rw [fv_put_ref hlen]
    by_cases hj : j = k
    · subst hj; simp [hty]
    · simp [hj]
  next t r hty =>
    cases Option.some.inj h
    refine ⟨rf.set k (some r), set_at hw, fun q c _ => rE_sh q c, fun j => ?_, List.length_set, by rw [hty]; rfl, by rw [hty]; rfl⟩
    rw [fv_put_ref hlen]
    by_cases hj : j = k
    · subst hj; simp [hty]
    · simp [hj]
  next => cases h
section SD2
variable {base bs : Nat} {dC : Nat → ClassId} {dI : Nat → Nat → Nat} {tc : Nat → ClassId} {sc : tSc} {p : Program} {l : Launch} {e : Env} {R : Room} {s : State} {m : MethodId} {args : Array Value} {below : List Frame} {meth : Method} {c : Code} {mi d : Nat} {Z : State → Prop}
variable {x : tX} {pc : Nat} {ls : tF} {st : List Value} {w : tW} {b : tB} {c' : tC}
theorem sd_tableswitch {d0 lo hi0 : Int} {os : Array Int} (C : tCx base bs dC dI tc sc p R s m args meth c mi d) (hi : ins mi pc = some (.tableswitch d0 lo hi0 os, x)) (h : stp sc mi (.tableswitch d0 lo hi0 os) x pc ls st w b = some (.inl c')) (k : tG base bs dC dI tc p l e R s m args below meth c mi Z c') : tG base bs dC dI tc p l e R s m args below meth c mi Z (pc, ls, st, w, b) := by
  obtain ⟨hx, hb, hml, hown, hts, hK, hNW, hini, hfr, hlo, hbase, hscr⟩ := C
  have hc := ins_spec hi
  unfold chk at hc
  simp only [Bool.and_eq_true, decide_eq_true_eq] at hc
  obtain ⟨-, ⟨⟨⟨hd, h0⟩, hh⟩, hlt⟩, htb⟩ := hc
  obtain ⟨n, hdg, -⟩ := ins_dec hi
  simp only [stp, nx] at h
  split at h
  next y r =>
    cases Option.some.inj h
    intro H locs cells slots la hR hl
    have hlo0 : ((lo.toNat : Nat) : Int) = lo := Int.toNat_of_nonneg h0
    have hsz : lo.toNat + os.toList.length < 2 ^ 31 := by
      have : os.toList.length = os.size := Array.length_toList
      omega
    by_cases hout : y.toInt < lo ∨ hi0 < y.toInt
    · refine lv_tableOut (tgt := swt x.2.2.1 x.1 y) hx hb hdg hout ?_ (k H locs cells slots la hR hl)
      rw [tb_out lo.toNat _ _ htb hsz (by
        have : os.toList.length = os.size := Array.length_toList
        omega)]
      exact hd
    · have h1 : ¬ y.toInt < lo := fun q => hout (Or.inl q)
      have h2 : ¬ hi0 < y.toInt := fun q => hout (Or.inr q)
      have hlen : os.toList.length = os.size := Array.length_toList
      obtain ⟨o, ho, ht⟩ := tb_in (d := x.1) (y := y) lo.toNat _ _ (y.toInt - lo).toNat htb hsz (by omega) (by omega)
      exact lv_tableIn (tgt := swt x.2.2.1 x.1 y) hx hb hdg h1 h2 (by rw [← Array.getElem?_toList]; exact ho) ht (k H locs cells slots la hR hl)
  next => cases h
theorem sd_lookupswitch {d0 : Int} {ps : Array (Int × Int)} (C : tCx base bs dC dI tc sc p R s m args meth c mi d) (hi : ins mi pc = some (.lookupswitch d0 ps, x)) (h : stp sc mi (.lookupswitch d0 ps) x pc ls st w b = some (.inl c')) (k : tG base bs dC dI tc p l e R s m args below meth c mi Z c') : tG base bs dC dI tc p l e R s m args below meth c mi Z (pc, ls, st, w, b) := by
  obtain ⟨hx, hb, hml, hown, hts, hK, hNW, hini, hfr, hlo, hbase, hscr⟩ := C
  have hc := ins_spec hi
  unfold chk at hc
  simp only [Bool.and_eq_true, decide_eq_true_eq] at hc
  obtain ⟨-, ⟨⟨hd, hsrt⟩, hlk⟩, hal⟩ := hc
  obtain ⟨n, hdg, -⟩ := ins_dec hi
  simp only [stp, nx] at h
  split at h
  next y r =>
    cases Option.some.inj h
    intro H locs cells slots la hR hl
    exact lv_lookup (tgt := swt x.2.2.1 x.1 y) hx hb hdg hsrt rfl (lk_off hd _ _ hlk (by simpa using hal)) (k H locs cells slots la hR hl)
  next => cases h
theorem sd_getfield {n : Nat} (C : tCx base bs dC dI tc sc p R s m args meth c mi d) (hi : ins mi pc = some (.getfield n, x)) (h : stp sc mi (.getfield n) x pc ls st w b = some (.inl c')) (k : tG base bs dC dI tc p l e R s m args below meth c mi Z c') : tG base bs dC dI tc p l e R s m args below meth c mi Z (pc, ls, st, w, b) := by
  obtain ⟨hx, hb, hml, hown, hts, hK, hNW, hini, hfr, hlo, hbase, hscr⟩ := C
  simp only [stp, nx] at h
  split at h
  next a r =>
    split at h
    next ci rf hw =>
      split at h
      next hq =>
        cases Option.some.inj h
        obtain ⟨hq1, hq2⟩ := hq
        obtain ⟨rr, ne, pl, ps, ref, hrow⟩ := fld_rowG hi hq1
        obtain ⟨Cn, T, N, hcl, hkN, hlink, hsame⟩ := fld_facts hts hNW hrow
        obtain ⟨hN, hin, hty, hnm⟩ := cls_facts ci _ hcl
        intro H locs cells slots la hR hl
        have ha : a < SCR := Nat.lt_of_lt_of_le (List.getElem?_eq_some_iff.mp hw).1 hR.2.2.2.2.2
        have hv : ((List.range (cN ci)).map (fun j => rv base bs (fv w a ci rf j)))[x.1]? = some (rv base bs (fv w a ci rf x.1)) := rng_get _ hq2
        have hst : rs base bs (.ref a :: r) = .ref (base + a) :: rs base bs r := by simp [rs, rv, ra_of ha]
        show W p l e R s m args below meth c H locs cells slots Z (F0 m pc la (rs base bs (.ref a :: r)))
        rw [hst]
        rcases hlink with ⟨-, hlink⟩ | ⟨-, hlink⟩
        · exact va_get hx hb hts hin hown hK hR.1 a (rW_at hw) hcl x.1 hkN hlink hsame hv (dec_of hi rfl rfl) (k H locs cells slots la hR hl)
        · exact va_getN hx hb hts hin hown hK hR.1 a (rW_at hw) hcl x.1 hkN hlink hsame hv (dec_of hi rfl rfl) (k H locs cells slots la hR hl)
      next => cases h
    next => cases h
  next => cases h
theorem sd_putfield {n : Nat} (C : tCx base bs dC dI tc sc p R s m args meth c mi d) (hi : ins mi pc = some (.putfield n, x)) (h : stp sc mi (.putfield n) x pc ls st w b = some (.inl c')) (k : tG base bs dC dI tc p l e R s m args below meth c mi Z c') : tG base bs dC dI tc p l e R s m args below meth c mi Z (pc, ls, st, w, b) := by
  obtain ⟨hx, hb, hml, hown, hts, hK, hNW, hini, hfr, hlo, hbase, hscr⟩ := C
  simp only [stp, nx] at h
  split at h
  next v a r =>
    split at h
    next ci rf hw =>
      split at h
      next hq =>
        obtain ⟨hq1, hq2, hq3, hq4⟩ := hq
        split at h
        next w' hpv =>
          cases Option.some.inj h
          obtain ⟨rr, ne, pl, ps, ref, hrow, hfn⟩ := fld_rowP hi hq1
          obtain ⟨Cn, T, N, hcl, hkN, hlink, hsame⟩ := fld_facts hts hNW hrow
          obtain ⟨hN, hin, hty, hnm⟩ := cls_facts ci _ hcl
          obtain ⟨rf', g1, g2, g3, g4, g5, g6⟩ := pv_spec (base := base) (bs := bs) (tc := tc) hpv (by rw [hq3]; exact hq2) hw
          have hfn2 := hfn _ hcl
          intro H locs cells slots la hR hl
          have ha : a < SCR := Nat.lt_of_lt_of_le (List.getElem?_eq_some_iff.mp hw).1 hR.2.2.2.2.2
          have hst : rs base bs (v :: .ref a :: r) = rv base bs v :: .ref (base + a) :: rs base bs r := by simp [rs, rv, ra_of ha]
          show W p l e R s m args below meth c H locs cells slots Z (F0 m pc la (rs base bs (v :: .ref a :: r)))
          rw [hst]
          have hcf : (T x.1).2.2.2 = cFin ci x.1 := by unfold cFin; rw [hcl]
          refine my_put (host := RX10) hx hb hts hin (cty ci) hty hnm hown hK hR.1 (rW_D base bs tc w) hR.2.1 a (rW_at hw) hcl x.1 hkN ?_ hsame ?_ g5 g6 (by simpa using hq2) (dec_of hi rfl rfl) (fun H1 locs1 p1 p2 p3 => ?_)
          · rcases hlink with ⟨-, hlink⟩ | ⟨hz, hlink⟩
            · exact Or.inl hlink
            · refine Or.inr ⟨?_, hlink⟩
              cases hb2 : (T x.1).2.2.2 with
              | false => rfl
              | true => exact absurd (hfn2 hb2).2 hz
          · intro hf
            exact ⟨hini (hq4 (by rw [← hcf]; exact hf)), (hfn2 hf).1⟩
          · refine k H1 locs1 cells slots la ⟨?_, p3, fun hq => ?_, hR.2.2.2.1, hR.2.2.2.2.1, by show w'.1.length ≤ SCR; rw [g4]; exact hR.2.2.2.2.2⟩ hl
            · have e2 : ((List.range (cN ci)).map (fun j => rv base bs (fv w a ci rf j))).set x.1 (rv base bs v) = (List.range (cN ci)).map (fun j => rv base bs (fv w' a ci rf' j)) := by
                apply List.ext_getElem?
                intro j
                by_cases hj : j = x.1
                · subst hj
                  rw [List.getElem?_set_self (by simpa using hq2), rng_get _ hq2, g3, if_pos rfl]
                · rw [List.getElem?_set_ne (Ne.symm hj)]
                  by_cases hjn : j < cN ci
                  · rw [rng_get _ hjn, rng_get _ hjn, g3, if_neg hj]
                  · rw [List.getElem?_eq_none (by simpa using hjn), List.getElem?_eq_none (by simpa using hjn)]
              rw [e2] at p1
              have := rW_set (base := base) (bs := bs) (tc := tc) (w' := w') (c' := .inl (ci, rf')) hw g1 g2
              rw [← this]
              exact p1
            · show H1.size = base + w'.1.length
              rw [p2, g4]
              exact hR.2.2.1 hq
        next => cases h
      next => cases h
    next => cases h
  next => cases h
theorem sd_iaload (C : tCx base bs dC dI tc sc p R s m args meth c mi d) (hi : ins mi pc = some (.iaload, x)) (h : stp sc mi (.iaload) x pc ls st w b = some (.inl c')) (k : tG base bs dC dI tc p l e R s m args below meth c mi Z c') : tG base bs dC dI tc p l e R s m args below meth c mi Z (pc, ls, st, w, b) := by
  obtain ⟨hx, hb, hml, hown, hts, hK, hNW, hini, hfr, hlo, hbase, hscr⟩ := C
  simp only [stp, nx] at h
  split at h
  next j a r =>
    split at h
    next hS =>
      split at h
      next L xs =>
        split at h
        next hj =>
          cases Option.some.inj h
          intro H locs cells slots la hR hl
          obtain ⟨h1, h2, h3⟩ := hscr L xs rfl
          have hst : rs base bs (.int j :: .ref a :: r) = .int j :: .ref bs :: rs base bs r := by simp [rs, rv, ra, hS]
          show W p l e R s m args below meth c H locs cells slots Z (F0 m pc la (rs base bs (.int j :: .ref a :: r)))
          rw [hst]
          exact va_sld hx hb h1 h2 (Nat.not_le.mpr h3) hR.2.1 (inB_in hj) (dec_of hi rfl rfl) (k H locs cells slots la hR hl)
        next => cases h
      next => cases h
    next hS =>
      split at h
      next n rf hw =>
        split at h
        next hj =>
          cases Option.some.inj h
          intro H locs cells slots la hR hl
          have hst : rs base bs (.int j :: .ref a :: r) = .int j :: .ref (base + a) :: rs base bs r := by simp [rs, rv, ra, hS]
          show W p l e R s m args below meth c H locs cells slots Z (F0 m pc la (rs base bs (.int j :: .ref a :: r)))
          rw [hst]
          exact va_iald hx hb hK hR.1 a 0 (rW_at hw) rfl (inB_in hj) (dec_of hi rfl rfl) (k H locs cells slots la hR hl)
        next => cases h
      next => cases h
  next => cases h
theorem sd_laload (C : tCx base bs dC dI tc sc p R s m args meth c mi d) (hi : ins mi pc = some (.laload, x)) (h : stp sc mi (.laload) x pc ls st w b = some (.inl c')) (k : tG base bs dC dI tc p l e R s m args below meth c mi Z c') : tG base bs dC dI tc p l e R s m args below meth c mi Z (pc, ls, st, w, b) := by
  obtain ⟨hx, hb, hml, hown, hts, hK, hNW, hini, hfr, hlo, hbase, hscr⟩ := C
  simp only [stp, nx] at h
  split at h
  next j a r =>
    split at h
    next n rf hw =>
      split at h
      next hj =>
        cases Option.some.inj h
        intro H locs cells slots la hR hl
        have ha : a < SCR := Nat.lt_of_lt_of_le (List.getElem?_eq_some_iff.mp hw).1 hR.2.2.2.2.2
        have hst : rs base bs (.int j :: .ref a :: r) = .int j :: .ref (base + a) :: rs base bs r := by simp [rs, rv, ra_of ha]
        show W p l e R s m args below meth c H locs cells slots Z (F0 m pc la (rs base bs (.int j :: .ref a :: r)))
        rw [hst]
        exact va_lald hx hb hK hR.1 a 1 (rW_at hw) rfl (inB_in hj) (dec_of hi rfl rfl) (k H locs cells slots la hR hl)
      next => cases h
    next => cases h
  next => cases h
theorem tys_at (tc : Nat → ClassId) (k : Nat) (h : k < 5) : ∃ ty, ([(tc 0, .int), (tc 1, .long), (tc 2, .object RX8), (tc 3, .object RX6), (tc 4, .array .int)] : List (ClassId × FieldType))[k]? = some (tc k, ty) ∧ (2 ≤ k → ty.isReference = true) := by
  match k, h with
  | 0, _ => exact ⟨_, rfl, fun h => absurd h (by decide)⟩
  | 1, _ => exact ⟨_, rfl, fun h => absurd h (by decide)⟩
  | 2, _ => exact ⟨_, rfl, fun _ => rfl⟩
  | 3, _ => exact ⟨_, rfl, fun _ => rfl⟩
  | 4, _ => exact ⟨_, rfl, fun _ => rfl⟩
theorem sd_aaload (C : tCx base bs dC dI tc sc p R s m args meth c mi d) (hi : ins mi pc = some (.aaload, x)) (h : stp sc mi (.aaload) x pc ls st w b = some (.inl c')) (k : tG base bs dC dI tc p l e R s m args below meth c mi Z c') : tG base bs dC dI tc p l e R s m args below meth c mi Z (pc, ls, st, w, b) := by
  obtain ⟨hx, hb, hml, hown, hts, hK, hNW, hini, hfr, hlo, hbase, hscr⟩ := C
  simp only [stp, nx] at h
  split at h
  next j a r =>
    split at h
    next kd n rf hw =>
      split at h
      next hj =>
        cases Option.some.inj h
        intro H locs cells slots la hR hl
        have ha : a < SCR := Nat.lt_of_lt_of_le (List.getElem?_eq_some_iff.mp hw).1 hR.2.2.2.2.2
        have hst : rs base bs (.int j :: .ref a :: r) = .int j :: .ref (base + a) :: rs base bs r := by simp [rs, rv, ra_of ha]
        show W p l e R s m args below meth c H locs cells slots Z (F0 m pc la (rs base bs (.int j :: .ref a :: r)))
        rw [hst]
        obtain ⟨ty, ht, hr⟩ := tys_at tc (kd + 2) (by omega)
        refine my_aald hx hb hK hR.1 a (kd + 2) (rW_at hw) ht (hr (by omega)) (inB_in hj.1) (dec_of hi rfl rfl) ?_
        have := k H locs cells slots la hR hl
        simp only [rs, List.map_cons, rv_rf] at this
        exact this
      next => cases h
    next => cases h
  next => cases h
theorem sd_iastore (C : tCx base bs dC dI tc sc p R s m args meth c mi d) (hi : ins mi pc = some (.iastore, x)) (h : stp sc mi (.iastore) x pc ls st w b = some (.inl c')) (k : tG base bs dC dI tc p l e R s m args below meth c mi Z c') : tG base bs dC dI tc p l e R s m args below meth c mi Z (pc, ls, st, w, b) := by
  obtain ⟨hx, hb, hml, hown, hts, hK, hNW, hini, hfr, hlo, hbase, hscr⟩ := C
  simp only [stp, nx] at h
  split at h
  next v j a r =>
    split at h
    next n rf hw =>
      split at h
      next hj =>
        cases Option.some.inj h
        intro H locs cells slots la hR hl
        have ha : a < SCR := Nat.lt_of_lt_of_le (List.getElem?_eq_some_iff.mp hw).1 hR.2.2.2.2.2
        have hst : rs base bs (.int v :: .int j :: .ref a :: r) = .int v :: .int j :: .ref (base + a) :: rs base bs r := by simp [rs, rv, ra_of ha]
        show W p l e R s m args below meth c H locs cells slots Z (F0 m pc la (rs base bs (.int v :: .int j :: .ref a :: r)))
        rw [hst]
        refine my_iast hx hb hK hR.1 (rW_D base bs tc w) hR.2.1 a 0 (rW_at hw) rfl (inB_in hj) (dec_of hi rfl rfl) (fun H1 locs1 p1 p2 p3 => ?_)
        refine k H1 locs1 cells slots la ⟨?_, p3, fun hq => by show H1.size = base + w.1.length; rw [p2]; exact hR.2.2.1 hq, hR.2.2.2.1, hR.2.2.2.2.1, hR.2.2.2.2.2⟩ hl
        have e1 : upd (w.2.1 a) j.toNatClampNeg v = up2 w.2.1 a j.toNatClampNeg v a := by funext q; simp [upd, up2]
        rw [e1] at p1
        have := rW_set (base := base) (bs := bs) (tc := tc) (w' := (w.1, up2 w.2.1 a j.toNatClampNeg v, w.2.2)) (c' := .inr (0, n, rf)) hw (same_at hw) rE_i
        rw [← this]
        exact p1
      next => cases h
    next => cases h
  next => cases h
theorem sd_lastore (C : tCx base bs dC dI tc sc p R s m args meth c mi d) (hi : ins mi pc = some (.lastore, x)) (h : stp sc mi (.lastore) x pc ls st w b = some (.inl c')) (k : tG base bs dC dI tc p l e R s m args below meth c mi Z c') : tG base bs dC dI tc p l e R s m args below meth c mi Z (pc, ls, st, w, b) := by
  obtain ⟨hx, hb, hml, hown, hts, hK, hNW, hini, hfr, hlo, hbase, hscr⟩ := C
  simp only [stp, nx] at h
  split at h
  next v j a r =>
    split at h
    next n rf hw =>
      split at h
      next hj =>
        cases Option.some.inj h
        intro H locs cells slots la hR hl
        have ha : a < SCR := Nat.lt_of_lt_of_le (List.getElem?_eq_some_iff.mp hw).1 hR.2.2.2.2.2
        have hst : rs base bs (.long v :: .int j :: .ref a :: r) = .long v :: .int j :: .ref (base + a) :: rs base bs r := by simp [rs, rv, ra_of ha]
        show W p l e R s m args below meth c H locs cells slots Z (F0 m pc la (rs base bs (.long v :: .int j :: .ref a :: r)))
        rw [hst]
        refine va_last hx hb hK hR.1 (rW_D base bs tc w) hR.2.1 a 1 (rW_at hw) rfl (inB_in hj) (dec_of hi rfl rfl) (fun H1 locs1 p1 p2 p3 => ?_)
        refine k H1 locs1 cells slots la ⟨?_, p3, fun hq => (by cases hq), hR.2.2.2.1, hR.2.2.2.2.1, hR.2.2.2.2.2⟩ hl
        have e1 : vp_updL (w.2.2 a) j.toNatClampNeg v = up2 w.2.2 a j.toNatClampNeg v a := by funext q; simp [vp_updL, up2]
        rw [e1] at p1
        have := rW_set (base := base) (bs := bs) (tc := tc) (w' := (w.1, w.2.1, up2 w.2.2 a j.toNatClampNeg v)) (c' := .inr (1, n, rf)) hw (same_at hw) rE_l
        rw [← this]
        exact p1
      next => cases h
    next => cases h
  next => cases h
theorem sd_arraylength (C : tCx base bs dC dI tc sc p R s m args meth c mi d) (hi : ins mi pc = some (.arraylength, x)) (h : stp sc mi (.arraylength) x pc ls st w b = some (.inl c')) (k : tG base bs dC dI tc p l e R s m args below meth c mi Z c') : tG base bs dC dI tc p l e R s m args below meth c mi Z (pc, ls, st, w, b) := by
  obtain ⟨hx, hb, hml, hown, hts, hK, hNW, hini, hfr, hlo, hbase, hscr⟩ := C
  simp only [stp, nx] at h
  split at h
  next a r =>
    split at h
    next hS =>
      split at h
      next L xs =>
        cases Option.some.inj h
        intro H locs cells slots la hR hl
        obtain ⟨h1, h2, h3⟩ := hscr L xs rfl
        have hst : rs base bs (.ref a :: r) = .ref bs :: rs base bs r := by simp [rs, rv, ra, hS]
        show W p l e R s m args below meth c H locs cells slots Z (F0 m pc la (rs base bs (.ref a :: r)))
        rw [hst]
        exact va_slen hx hb h1 h2 (Nat.not_le.mpr h3) hR.2.1 (dec_of hi rfl rfl) (k H locs cells slots la hR hl)
      next => cases h
    next hS =>
      split at h
      next kd n rf hw =>
        split at h
        next hk5 =>
          cases Option.some.inj h
          intro H locs cells slots la hR hl
          have hst : rs base bs (.ref a :: r) = .ref (base + a) :: rs base bs r := by simp [rs, rv, ra, hS]
          show W p l e R s m args below meth c H locs cells slots Z (F0 m pc la (rs base bs (.ref a :: r)))
          rw [hst]
          obtain ⟨ty, ht, -⟩ := tys_at tc kd hk5
          match kd, hw, ht with
          | 0, hw, ht => exact va_alen hx hb hK hR.1 a 0 (rW_at hw) ht rfl (dec_of hi rfl rfl) (k H locs cells slots la hR hl)
          | 1, hw, ht => exact va_alen hx hb hK hR.1 a 1 (rW_at hw) ht rfl (dec_of hi rfl rfl) (k H locs cells slots la hR hl)
          | q + 2, hw, ht => exact va_alen hx hb hK hR.1 a (q + 2) (rW_at hw) ht rfl (dec_of hi rfl rfl) (k H locs cells slots la hR hl)
        next => cases h
      next => cases h
  next => cases h
end SD2
