theorem s_call_spec {pc f : Nat} {as : List Value} {ls : tF} {rest : List Value} {w : tW} {b : tB} {r : tR} (h : s_call pc f as ls rest w b = some r) : ∃ b' : tB, r = .inr (.inl (f, as, (pc + 3, ls, rest, w, b'))) ∧ (rest.map fun v => v.category).sum ≤ 8 ∧ (lg_sl as).length ≤ mMax f ∧ f < 220 ∧ (b'.1 = true → ¬ mCc f = 0) ∧ (¬ mCc f = 0 → b.1 = true) ∧ b'.2.1 + mCc f ≤ b.2.1 ∧ b'.2.2 + mSc f ≤ b.2.2 := by
  unfold s_call at h
  split at h
  next hq =>
    obtain ⟨q1, q2, q3⟩ := hq
    split at h
    next h0 =>
      cases Option.some.inj h
      have := (mOK_at q3).2.2.2.2 h0
      exact ⟨(false, b.2), rfl, q1, q2, q3, fun h => (by cases h), fun h => absurd h0 h, by show b.2.1 + mCc f ≤ _; omega, by show b.2.2 + mSc f ≤ _; omega⟩
    next h0 =>
      split at h
      next h1 =>
        obtain ⟨g1, g2, g3⟩ := h1
        cases Option.some.inj h
        exact ⟨(true, b.2.1 - mCc f, b.2.2 - mSc f), rfl, q1, q2, q3, fun _ => h0, fun _ => g1, by show b.2.1 - mCc f + mCc f ≤ _; omega, by show b.2.2 - mSc f + mSc f ≤ _; omega⟩
      next => cases h
  next => cases h
theorem stp_call {sc : tSc} {mi : Nat} {i : Instr} {x : tX} {pc f : Nat} {ls : tF} {st as : List Value} {w : tW} {b : tB} {c' : tC} (h : stp sc mi i x pc ls st w b = some (.inr (.inl (f, as, c')))) : f < 220 ∧ (lg_sl as).length ≤ mMax f ∧ ((∃ n, i = .invokevirtual n) ∨ (∃ n, i = .invokestatic n) ∨ ∃ n, i = .invokespecial n) := by
  have hcall : ∀ (g : Nat) (a2 rest : List Value), s_call pc g a2 ls rest w b = some (.inr (.inl (f, as, c'))) → f < 220 ∧ (lg_sl as).length ≤ mMax f := by
    intro g a2 rest h
    obtain ⟨b', he, -, g6, g7, -⟩ := s_call_spec h
    cases he
    exact ⟨g7, g6⟩
  cases i with
  | invokevirtual a1 =>
    have h9 : f < 220 ∧ (lg_sl as).length ≤ mMax f := by
      simp only [stp] at h
      repeat' split at h
      all_goals first | exact hcall _ _ _ h | cases h
    exact ⟨h9.1, h9.2, Or.inl ⟨a1, rfl⟩⟩
  | invokestatic a1 =>
    have h9 : f < 220 ∧ (lg_sl as).length ≤ mMax f := by
      simp only [stp, nx] at h
      repeat' split at h
      all_goals first | exact hcall _ _ _ h | cases h
    exact ⟨h9.1, h9.2, Or.inr (Or.inl ⟨a1, rfl⟩)⟩
  | invokespecial a1 =>
    have h9 : f < 220 ∧ (lg_sl as).length ≤ mMax f := by
      simp only [stp, nx] at h
      repeat' split at h
      all_goals first | exact hcall _ _ _ h | cases h
    exact ⟨h9.1, h9.2, Or.inr (Or.inr ⟨a1, rfl⟩)⟩
  | _ =>
    exfalso
    simp only [stp, nx, s_il, s_ll, s_al, s_is, s_ls, s_as, s_ii, s_jj, s_i, s_br] at h
    repeat' split at h
    all_goals cases h
section SC
variable {base bs : Nat} {dC : Nat → ClassId} {dI : Nat → Nat → Nat} {tc : Nat → ClassId} {sc : tSc} {p : Program} {l : Launch} {e : Env} {R : Room} {s : State} {m : MethodId} {args : Array Value} {below : List Frame} {meth : Method} {c : Code} {mi d : Nat} {Z : State → Prop}
variable {x : tX} {pc : Nat} {ls : tF} {st : List Value} {w : tW} {b : tB}
def tMet (base bs : Nat) (dC : Nat → ClassId) (dI : Nat → Nat → Nat) (tc : Nat → ClassId) (l : Launch) (d f : Nat) (as : List Value) (w : tW) (Q : tQ) : Prop := Met l (mNm f) (wsF f) (rmF d f) (PcF base bs dC dI tc f as w) (QcF base bs dC dI tc f Q) (mCc f) (mSc f) (fun q => base ≤ q)
theorem call_end {f : Nat} {rest : List Value} {b' : tB} {Q' : tQ} {av : Array Value} {H : Heap} {locs : List Loc} {cells slots : Nat} {la : Array Slot} {st0 : List Value} (hR : tRel base bs dC dI tc R s w b H locs cells slots) (hl : lv_has la (mMax mi) (rl base bs ls)) (g1 : b'.1 = true → ¬ mCc f = 0) (g3 : b'.2.1 + mCc f ≤ b.2.1) (g4 : b'.2.2 + mSc f ≤ b.2.2)
    (hr : va_Run p l e R s m args below meth c H locs cells slots (mCc f) (mSc f) (F0 m pc la st0) (rs base bs rest) (QcF base bs dC dI tc f Q' av) (fun q => base ≤ q))
    (k : ∀ v w', Q' v w' → tG base bs dC dI tc p l e R s m args below meth c mi Z (pc + 3, ls, v.toList ++ rest, w', b')) : W p l e R s m args below meth c H locs cells slots Z (F0 m pc la st0) := by
  have r1 := hR.2.2.2.1
  have r2 := hR.2.2.2.2.1
  exact call_go hr hR.2.1 (fun v w' H1 locs1 hq hP hS hz hL => k v w' hq H1 locs1 (cells + mCc f) (slots + mSc f) la ⟨hP, hS, fun hb => hz (g1 hb), by show cells + mCc f + b'.2.1 ≤ _; omega, by show slots + mSc f + b'.2.2 ≤ _; omega, hL⟩ hl)
theorem sc_virtual {n f : Nat} {as : List Value} {c' : tC} {Q' : tQ} (C : tCx base bs dC dI tc sc p R s m args meth c mi (d + 1)) (hi : ins mi pc = some (.invokevirtual n, x)) (h : stp sc mi (.invokevirtual n) x pc ls st w b = some (.inr (.inl (f, as, c')))) (hM : tMet base bs dC dI tc l d f as c'.2.2.2.1 Q') (k : ∀ v w', Q' v w' → tG base bs dC dI tc p l e R s m args below meth c mi Z (c'.1, c'.2.1, v.toList ++ c'.2.2.1, w', c'.2.2.2.2)) : tG base bs dC dI tc p l e R s m args below meth c mi Z (pc, ls, st, w, b) := by
  obtain ⟨hx, hb, hml, hown, hts, hK, hNW, hini, hfr, hlo, hbase, hscr⟩ := C
  simp only [stp] at h
  split at h
  next a rest hdr =>
    split at h
    next ci rf hw =>
      split at h
      next r hrow =>
        split at h
        next o i kd c1 f' rst hmt =>
          obtain ⟨ref, own, ps⟩ := rst
          obtain ⟨hok, ho, hi2, hci, hpar⟩ := mt_rowV hi hrow hmt
          subst ho; subst hi2; subst hci
          split at h
          next hq =>
            obtain ⟨hkd, htk⟩ := hq
            obtain ⟨b', he, g5, g6, g7, g1, g2, g3, g4⟩ := s_call_spec h
            cases he
            intro H locs cells slots la hR hl
            have ha : a < SCR := Nat.lt_of_lt_of_le (List.getElem?_eq_some_iff.mp hw).1 hR.2.2.2.2.2
            have hstk : rs base bs st = (rs base bs (st.take x.1).reverse).reverse ++ .ref (base + a) :: rs base bs rest := by
              rw [take_rev (n := x.1), hdr]; simp [rs, rv, ra_of ha]
            have has : rs base bs (.ref a :: (st.take x.1).reverse) = .ref (base + a) :: rs base bs (st.take x.1).reverse := by simp [rs, rv, ra_of ha]
            have hlen : (rs base bs (st.take x.1).reverse).length = mPar f := by simp [rs] at htk ⊢; omega
            have hrm := rm_in (R := R) (d := d) g7 hfr hlo
            have r1 := hR.2.2.2.1
            have r2 := hR.2.2.2.2.1
            dsimp only at r1 r2
            have hpc : ∀ U : State, U.heap = H → s.WarmedH U.vm → PcF base bs dC dI tc f (.ref a :: (st.take x.1).reverse) w (Value.ref (base + a) :: rs base bs (st.take x.1).reverse).toArray U := by
              rw [← has]; exact Pc_at hR.1 hK hNW (Nat.le_trans hbase hR.2.1.1) (fun q => hR.2.2.1 (g2 q)) hR.2.2.2.2.2
            have hroom : 2 * (F0 m pc la (rs base bs st)).monitorRoom + ((rs base bs rest).map fun v => v.category).sum ≤ 8 := by rw [rs_cat]; show 2 * 0 + _ ≤ 8; omega
            refine call_end hR hl g1 g3 g4 (av := (Value.ref (base + a) :: rs base bs (st.take x.1).reverse).toArray) ?_ k
            match kd, hkd, hok with
            | 0, _, hok =>
              rw [tOK_0] at hok
              split at hok
              next C1 TT a1 a2 a3 a4 hcl hps9 =>
                simp only [Bool.and_eq_true, decide_eq_true_eq] at hok
                obtain ⟨⟨⟨⟨⟨w0, w1⟩, w2⟩, w3⟩, w4⟩, w5⟩ := hok
                exact va_runV (C := C1) (As := rs base bs (st.take x.1).reverse) (rest := rs base bs rest) ⟨hx, hb, hml, hown, hts⟩ hM ⟨cb_of g7 hts w0 (wd hts w2 rfl) (by rw [w1]; exact wd hts w5 rfl) hrm, wd hts w3 rfl, wd hts w4 rfl⟩ ⟨Pc_blind, va_recv hK hR.1 hcl (rW_at hw), hpc⟩ rfl hlen hl.1 hstk hroom (dec_of hi rfl rfl) ⟨by omega, by omega⟩
              next => cases hok
            | 1, _, hok =>
              rw [tOK_1] at hok
              split at hok
              next C1 TT a1 a2 a3 a4 a5 a6 hcl hps9 =>
                simp only [Bool.and_eq_true, decide_eq_true_eq] at hok
                obtain ⟨⟨⟨⟨⟨⟨w0, w1⟩, w2⟩, w3⟩, w4⟩, w5⟩, w6⟩ := hok
                unfold mhOK at w0
                simp only [Bool.and_eq_true, decide_eq_true_eq] at w0
                have hdecl : va_Decl s ⟨own, (mNm f).name, (mNm f).desc⟩ := by
                  split at w6
                  · have e9 : mNm f = ⟨own, (mNm f).name, (mNm f).desc⟩ := by rw [← of_decide_eq_true w6]
                    rw [← e9]
                    exact va_Decl.of (wd hts w4 rfl) (wd hts (mOK_at g7).1 rfl)
                  · exact va_Decl.abs (hNW _ (List.mem_of_getElem? (of_decide_eq_true w6)))
                refine va_runU (C := C1) (owner := own) (x := ⟨ref, (mNm f).name, (mNm f).desc⟩) (As := rs base bs (st.take x.1).reverse) (rest := rs base bs rest) ⟨hx, hb, hml, hown, hts⟩ hM ⟨⟨rfl, rfl, hrm.1, hrm.2, pay_in hts (wsF_good g7), List.mem_cons_self⟩, wd hts (mOK_at g7).1 rfl, wd hts w5 rfl, ⟨w0.1.1, w0.1.2⟩, fun sig hs => ?_, wd hts w1 rfl, wd hts w2 rfl, hdecl, wd hts w3 rfl, wd hts w4 rfl⟩ ⟨Pc_blind, va_recv hK hR.1 hcl (rW_at hw), hpc⟩ rfl hlen hl.1 hstk hroom (dec_of hi rfl rfl) ⟨by omega, by omega⟩
                have h2 := w0.2
                rw [show parseMethodDescriptor (mNm f).desc = some sig from hs] at h2
                exact (Option.some.inj h2).symm
              next => cases hok
            | k9 + 2, hkd, _ => exact absurd hkd (by omega)
          next => cases h
        next => cases h
      next => cases h
    next => cases h
  next => cases h
theorem sc_static {n f : Nat} {as : List Value} {c' : tC} {Q' : tQ} (C : tCx base bs dC dI tc sc p R s m args meth c mi (d + 1)) (hi : ins mi pc = some (.invokestatic n, x)) (h : stp sc mi (.invokestatic n) x pc ls st w b = some (.inr (.inl (f, as, c')))) (hM : tMet base bs dC dI tc l d f as c'.2.2.2.1 Q') (k : ∀ v w', Q' v w' → tG base bs dC dI tc p l e R s m args below meth c mi Z (c'.1, c'.2.1, v.toList ++ c'.2.2.1, w', c'.2.2.2.2)) : tG base bs dC dI tc p l e R s m args below meth c mi Z (pc, ls, st, w, b) := by
  obtain ⟨hx, hb, hml, hown, hts, hK, hNW, hini, hfr, hlo, hbase, hscr⟩ := C
  simp only [stp, nx] at h
  split at h
  next r hrow =>
    split at h
    next o i kd c1 f' rst hmt =>
      obtain ⟨ref, own, ps⟩ := rst
      obtain ⟨hok, ho, hi2, hpar⟩ := mt_rowS hi hrow hmt
      subst ho; subst hi2
      split at h
      next => 
        exfalso
        repeat' split at h
        all_goals cases h
      next n8 =>
        split at h
        next =>
          exfalso
          repeat' split at h
          all_goals cases h
        next n10 =>
          split at h
          next =>
            exfalso
            repeat' split at h
            all_goals cases h
          next n11 =>
            split at h
            next =>
              exfalso
              repeat' split at h
              all_goals cases h
            next n12 =>
              split at h
              next hq =>
                obtain ⟨hkd, htk⟩ := hq
                have hp2 : mPar f' = x.1 := by
                  rcases hpar with q | q | q | q | q
                  · exact absurd q n8
                  · exact absurd q n10
                  · exact absurd q n11
                  · exact absurd q n12
                  · exact q
                obtain ⟨b', he, g5, g6, g7, g1, g2, g3, g4⟩ := s_call_spec h
                cases he
                intro H locs cells slots la hR hl
                have hstk : rs base bs st = (rs base bs (st.take x.1).reverse).reverse ++ rs base bs (st.drop x.1) := take_rev
                have hlen : (rs base bs (st.take x.1).reverse).length = mPar f := by simp [rs] at htk ⊢; omega
                have hrm := rm_in (R := R) (d := d) g7 hfr hlo
                have r1 := hR.2.2.2.1
                have r2 := hR.2.2.2.2.1
                dsimp only at r1 r2
                have hpc : PreS s H (PcF base bs dC dI tc f (st.take x.1).reverse w) (rs base bs (st.take x.1).reverse) := ⟨Pc_blind, Pc_at hR.1 hK hNW (Nat.le_trans hbase hR.2.1.1) (fun q => hR.2.2.1 (g2 q)) hR.2.2.2.2.2⟩
                have hroom : 2 * (F0 m pc la (rs base bs st)).monitorRoom + ((rs base bs (st.drop x.1)).map fun v => v.category).sum ≤ 8 := by rw [rs_cat]; show 2 * 0 + _ ≤ 8; omega
                refine call_end hR hl g1 g3 g4 (av := (rs base bs (st.take x.1).reverse).toArray) ?_ k
                rcases hkd with rfl | rfl
                · rw [tOK_2] at hok
                  split at hok
                  next a1 a2 a3 a4 =>
                    simp only [Bool.and_eq_true, decide_eq_true_eq] at hok
                    obtain ⟨⟨⟨w0, w1⟩, w2⟩, w3⟩ := hok
                    exact va_runS (As := rs base bs (st.take x.1).reverse) (rest := rs base bs (st.drop x.1)) ⟨hx, hb, hml, hown, hts⟩ hM ⟨cb_of g7 hts w0 (wd hts w1 rfl) (wd hts w3 rfl) hrm, wd hts w2 rfl⟩ hpc rfl hlen hl.1 hstk hroom (dec_of hi rfl rfl) ⟨by omega, by omega⟩
                  next => cases hok
                · rw [tOK_6] at hok
                  split at hok
                  next a1 a2 a3 a4 =>
                    simp only [Bool.and_eq_true, decide_eq_true_eq] at hok
                    obtain ⟨⟨⟨⟨⟨w0, w1⟩, w2⟩, w3⟩, w4⟩, w5⟩ := hok
                    unfold mhOK at w0
                    simp only [Bool.and_eq_true, decide_eq_true_eq] at w0
                    have e9 : mNm f = ⟨own, (mNm f).name, (mNm f).desc⟩ := by rw [← w1]
                    refine my_runSU (x := ⟨ref, (mNm f).name, (mNm f).desc⟩) (owner := own) (As := rs base bs (st.take x.1).reverse) (rest := rs base bs (st.drop x.1)) hx hb hml hown hM rfl rfl hrm.1 hrm.2 (pay_in hts (wsF_good g7)) List.mem_cons_self (wd hts (mOK_at g7).1 rfl) (wd hts w4 rfl) (wd hts w3 rfl) (wd hts w2 rfl) (wd hts w5 rfl) e9 ⟨by rw [← w1]; exact w0.1.1, by rw [← w1]; exact w0.1.2⟩ (fun sig hs => ?_) hpc rfl hl.1 hstk hroom (dec_of hi rfl rfl) ⟨by omega, by omega⟩
                    have h2 := w0.2
                    rw [hs] at h2
                    rw [hlen]
                    exact (Option.some.inj h2).symm
                  next => cases hok
              next => cases h
    next => cases h
  next => cases h
theorem sc_special {n f : Nat} {as : List Value} {c' : tC} {Q' : tQ} (C : tCx base bs dC dI tc sc p R s m args meth c mi (d + 1)) (hi : ins mi pc = some (.invokespecial n, x)) (h : stp sc mi (.invokespecial n) x pc ls st w b = some (.inr (.inl (f, as, c')))) (hM : tMet base bs dC dI tc l d f as c'.2.2.2.1 Q') (k : ∀ v w', Q' v w' → tG base bs dC dI tc p l e R s m args below meth c mi Z (c'.1, c'.2.1, v.toList ++ c'.2.2.1, w', c'.2.2.2.2)) : tG base bs dC dI tc p l e R s m args below meth c mi Z (pc, ls, st, w, b) := by
  obtain ⟨hx, hb, hml, hown, hts, hK, hNW, hini, hfr, hlo, hbase, hscr⟩ := C
  simp only [stp, nx] at h
  split at h
  next r hrow =>
    split at h
    next o i kd c1 f' rst hmt =>
      obtain ⟨ref, own, ps⟩ := rst
      obtain ⟨hok, ho, hi2, hpar⟩ := mt_rowI hi hrow hmt
      subst ho; subst hi2
      split at h
      next a rest hdr =>
        split at h
        next =>
          exfalso
          split at h <;> cases h
        next n9 =>
          split at h
          next hq =>
            obtain ⟨hkd, htk⟩ := hq
            have hp2 : mPar f' = x.1 := by
              rcases hpar with q | q
              · exact absurd q n9
              · exact q
            obtain ⟨b', he, g5, g6, g7, g1, g2, g3, g4⟩ := s_call_spec h
            cases he
            intro H locs cells slots la hR hl
            have hcase : ra base bs a = ra base bs a := rfl
            have hstk : rs base bs st = (rs base bs (st.take x.1).reverse).reverse ++ .ref (ra base bs a) :: rs base bs rest := by
              rw [take_rev (n := x.1), hdr]; simp [rs, rv]
            have has : rs base bs (.ref a :: (st.take x.1).reverse) = .ref (ra base bs a) :: rs base bs (st.take x.1).reverse := by simp [rs, rv]
            have hlen : (rs base bs (st.take x.1).reverse).length = mPar f := by simp [rs] at htk ⊢; omega
            have hrm := rm_in (R := R) (d := d) g7 hfr hlo
            have r1 := hR.2.2.2.1
            have r2 := hR.2.2.2.2.1
            dsimp only at r1 r2
            have hpc : PreS s H (PcF base bs dC dI tc f (.ref a :: (st.take x.1).reverse) w) (.ref (ra base bs a) :: rs base bs (st.take x.1).reverse) := ⟨Pc_blind, by rw [← has]; exact Pc_at hR.1 hK hNW (Nat.le_trans hbase hR.2.1.1) (fun q => hR.2.2.1 (g2 q)) hR.2.2.2.2.2⟩
            have hroom : 2 * (F0 m pc la (rs base bs st)).monitorRoom + ((rs base bs rest).map fun v => v.category).sum ≤ 8 := by rw [rs_cat]; show 2 * 0 + _ ≤ 8; omega
            refine call_end hR hl g1 g3 g4 (av := (Value.ref (ra base bs a) :: rs base bs (st.take x.1).reverse).toArray) ?_ k
            rcases hkd with rfl | rfl
            · rw [tOK_3] at hok
              split at hok
              next a1 a2 a3 a4 =>
                simp only [Bool.and_eq_true, decide_eq_true_eq] at hok
                obtain ⟨⟨⟨⟨⟨w0, w1⟩, w2⟩, w3⟩, w4⟩, w5⟩ := hok
                have hcb := cb_of (R := R) (d := d) g7 hts w0 (wd hts w3 rfl) (wd hts w5 rfl) hrm
                rw [w2] at hcb
                exact va_runI (As := rs base bs (st.take x.1).reverse) (rest := rs base bs rest) ⟨hx, hb, hml, hown, hts⟩ hM ⟨hcb, w1, wd hts w4 rfl⟩ hpc rfl hlen hl.1 hstk hroom (dec_of hi rfl rfl) ⟨by omega, by omega⟩
              next => cases hok
            · rw [tOK_4] at hok
              split at hok
              next a1 a2 a3 a4 =>
                simp only [Bool.and_eq_true, decide_eq_true_eq] at hok
                obtain ⟨⟨⟨⟨⟨w0, w1⟩, w2⟩, w3⟩, w4⟩, w5⟩ := hok
                unfold mhOK at w0
                simp only [Bool.and_eq_true, decide_eq_true_eq] at w0
                have hcw : Cond.code (mNm f) (mCode f) (mMax f) none ∈ wsF f := by rw [← w2]; exact List.mem_cons_self
                have hcd : (Cond.code (mNm f) (mCode f) (mMax f) none).before args s = true := by rw [← w2]; exact wd hts (mOK_at g7).1 rfl
                refine va_runIN (host := RX10) (As := rs base bs (st.take x.1).reverse) (rest := rs base bs rest) ⟨hx, hb, hml, hown, hts⟩ hM ⟨⟨⟨rfl, rfl, hrm.1, hrm.2, pay_in hts (wsF_good g7), hcw⟩, hcd, wd hts w5 rfl, ⟨w0.1.1, w0.1.2⟩, fun sig hs => ?_, va_Nw.use rfl (hNW _ (List.mem_of_getElem? w3))⟩, w1, wd hts w4 rfl⟩ hpc rfl hlen hl.1 hstk hroom (dec_of hi rfl rfl) ⟨by omega, by omega⟩
                have h2 := w0.2
                rw [hs] at h2
                exact (Option.some.inj h2).symm
              next => cases hok
          next => cases h
      next => cases h
    next => cases h
  next => cases h
end SC
