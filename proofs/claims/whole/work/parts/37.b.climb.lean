/-! round: the class -/
theorem iab : ∀ a, a < 10 → ∀ b, b < 10 → iabs (nI a - nI b) = nI (adf a b) := by decide +kernel
def Xs (n : Nat) (x : tXr) (d : tDi) : Prop := match x with
  | none => d 156 6 = -1
  | some p => d 156 6 = nI p.1 ∧ p.1 ≤ 400 ∧ ∀ k, k < n → d 158 k = nI (p.2.getD k 0)
def FX (di d : tDi) : Prop := ∀ a k, ¬ (a = 156 ∧ k = 6) → ¬ a = 157 → ¬ a = 158 → d a k = di a k
theorem FX_tr {a b c : tDi} (h : FX a b) (h2 : FX b c) : FX a c := fun x k z1 z2 z3 => (h2 x k z1 z2 z3).trans (h x k z1 z2 z3)
theorem getD_l {l : List Nat} {x k : Nat} (h : k < l.length) : (l ++ [x]).getD k 0 = l.getD k 0 := by
  rw [List.getD_eq_getElem?_getD, List.getD_eq_getElem?_getD, List.getElem?_append_left h]
theorem getD_e {l : List Nat} {x : Nat} : (l ++ [x]).getD l.length 0 = x := by
  rw [List.getD_eq_getElem?_getD, List.getElem?_append_right (Nat.le_refl _), Nat.sub_self]
  rfl
theorem c_21 {t : tTown} {dl : tDl} (hw : Wt t) {n s T : Nat} (hn : n ≤ 6) (hnS : n ≤ nS t) (hs : s < 8) (hT : T ≤ 99) : ∀ r d, r ≤ d → ∀ (e : tDi) (pre : List Nat) (u : Nat) (st : tRs) (x : tXr), pre.length + r = n → Cs t e → e 156 3 = nI n → e 156 4 = nI s → e 156 5 = nI T → Xs n x e → (∀ k, k < pre.length → e 157 k = nI (pre.getD k 0)) → Bst pre.length st → st.2.2.2 = true → ∀ {K : tDi → tDl → Prop}, (∀ e', Xs n (dfs (fun k => sv t k 1) s T n r u st pre x) e' → (∀ k, k < pre.length → e' 157 k = nI (pre.getD k 0)) → FX e e' → K e' dl) → ClV (d + 2) 21 [.ref 156, .int (nI pre.length), .int (nI u), .int (nI st.1), .int (nI st.2.1), .int (nI st.2.2.1)] e dl K := by
  intro r
  induction r with
  | zero =>
    intro d _ e pre u st x hl hc e3 e4 e5 hx hrow hb hm K kk
    obtain ⟨b1, b2, b3⟩ := hb
    have hl' : pre.length = n := by omega
    have take : (x = none ∨ ∃ p, x = some p ∧ st.2.2.1 < p.1) → K (cpy2 (up2 e 156 6 (nI st.2.2.1)) 157 158 0 0 6) dl := by
      intro h
      have ed : dfs (fun k => sv t k 1) s T n 0 u st pre x = some (st.2.2.1, pre) := by
        show updX x st pre = _
        unfold updX
        rw [if_pos hm]
        rcases h with h | ⟨p, h, h2⟩
        · rw [h]
        · rw [h]
          show (if st.2.2.1 < p.1 then some (st.2.2.1, pre) else some p) = _
          rw [if_pos h2]
      refine kk _ ?_ ?_ ?_
      · rw [ed]
        refine ⟨?_, by show st.2.2.1 ≤ 400; omega, fun k hk => ?_⟩
        · unfold cpy2
          rw [if_neg (by omega), up_eq]
        · unfold cpy2
          rw [if_pos ⟨rfl, by omega, by omega⟩, up_na (by omega), Nat.zero_add, Nat.sub_zero]
          exact hrow k (by omega)
      · intro k hk
        unfold cpy2
        rw [if_neg (by omega), up_na (by omega)]
        exact hrow k hk
      · intro a k z1 z2 z3
        unfold cpy2 up2
        rw [if_neg (by omega), if_neg z1]
    have keep : ∀ p, x = some p → ¬ st.2.2.1 < p.1 → K e dl := by
      intro p h h2
      have ed : dfs (fun k => sv t k 1) s T n 0 u st pre x = x := by
        show updX x st pre = _
        unfold updX
        rw [if_pos hm, h]
        show (if st.2.2.1 < p.1 then some (st.2.2.1, pre) else some p) = _
        rw [if_neg h2]
      exact kk e (by rw [ed]; exact hx) hrow (fun _ _ _ _ _ => rfl)
    rw [hl']
    refine r_21 ?_
    cases x with
    | none =>
      have hx' : e 156 6 = -1 := hx
      have tk := take (Or.inl rfl)
      rw [hx', e3]
      refine pk1 ⟨rfl, fun z => z rfl⟩ ?_
      refine pk2 ⟨fun z => absurd (nI_pos' (n := n) (by omega)) (Int32.not_le.mpr z), nI_pos' (by omega)⟩ ?_
      exact pk1 ⟨Int32.le_refl _, fun z => absurd (Int32.le_refl _) (Int32.not_le.mpr z)⟩ tk
    | some p =>
      obtain ⟨x1, x2, x3⟩ := id hx
      have ne : ¬ e 156 6 = -1 := by rw [x1, fa_eq, nI_toInt (by omega), ti_m1]; omega
      refine pk2 ⟨ne, ne⟩ ?_
      rw [x1, e3]
      by_cases hlt : st.2.2.1 < p.1
      · have tk := take (Or.inr ⟨p, rfl, hlt⟩)
        refine pk1 ⟨nI_lt hlt (by omega), fun z => absurd (nI_lt hlt (by omega)) (Int32.not_lt.mpr z)⟩ ?_
        refine pk2 ⟨fun z => absurd (nI_pos' (n := n) (by omega)) (Int32.not_le.mpr z), nI_pos' (by omega)⟩ ?_
        exact pk1 ⟨Int32.le_refl _, fun z => absurd (Int32.le_refl _) (Int32.not_le.mpr z)⟩ tk
      · exact pk2 ⟨fun z => absurd (nI_le (show p.1 ≤ st.2.2.1 by omega) (by omega)) (Int32.not_le.mpr z), nI_le (by omega) (by omega)⟩ (keep p rfl hlt)
  | succ r ih =>
    intro d hd e pre u st x hl hc e3 e4 e5 hx hrow hb hm K kk
    obtain ⟨b1, b2, b3⟩ := id hb
    obtain ⟨d', rfl⟩ : ∃ d', d = d' + 1 := ⟨d - 1, by omega⟩
    have hlen : pre.length < n := by omega
    have F : ∀ k y, (fun k y => if u.testBit k = true then y else dfs (fun k => sv t k 1) s T n r (u ||| 2 ^ k) (rstp (fun k => sv t k 1) s T st k) (pre ++ [k]) y) k y = if u.testBit k = true then y else dfs (fun k => sv t k 1) s T n r (u ||| 2 ^ k) (rstp (fun k => sv t k 1) s T st k) (pre ++ [k]) y := fun _ _ => rfl
    have loop : Wq none (d' + 1 + 2) 21 61 [(0, .ref 156), (1, .int (nI pre.length)), (2, .int (nI u)), (3, .int (nI st.1)), (4, .int (nI st.2.1)), (5, .int (nI st.2.2.1)), (6, .int 0)] [] e dl (RV K) := by
      refine up_to (n := n) (G := fun k => ∀ e', Xs n (itr (fun k y => if u.testBit k = true then y else dfs (fun k => sv t k 1) s T n r (u ||| 2 ^ k) (rstp (fun k => sv t k 1) s T st k) (pre ++ [k]) y) k x) e' → (∀ k, k < pre.length → e' 157 k = nI (pre.getD k 0)) → FX e e' → Wq none (d' + 1 + 2) 21 61 [(0, .ref 156), (1, .int (nI pre.length)), (2, .int (nI u)), (3, .int (nI st.1)), (4, .int (nI st.2.1)), (5, .int (nI st.2.2.1)), (6, .int (nI k))] [] e' dl (RV K)) ?_ ?_ (Nat.zero_le _) e hx hrow (fun _ _ _ _ _ => rfl)
      · intro e' hx' hr' fx
        have g3 : e' 156 3 = nI n := by rw [fx _ _ (by omega) (by omega) (by omega)]; exact e3
        refine r_21_61 ?_
        rw [g3]
        exact pk1 ⟨Int32.le_refl _, fun z => absurd (Int32.le_refl _) (Int32.not_le.mpr z)⟩ (kk e' hx' hr' fx)
      · intro k hk ik e' hx' hr' fx
        have g3 : e' 156 3 = nI n := by rw [fx _ _ (by omega) (by omega) (by omega)]; exact e3
        have g4 : e' 156 4 = nI s := by rw [fx _ _ (by omega) (by omega) (by omega)]; exact e4
        have g5 : e' 156 5 = nI T := by rw [fx _ _ (by omega) (by omega) (by omega)]; exact e5
        have hc' : Cs t e' := Cs_lo (fun a k z1 z2 => fx a k (by omega) (by omega) (by omega)) hc
        have hP := (hw.2.1 k (by omega)).2.2.1
        have had := adf_le hP b1
        refine r_21_61 ?_
        rw [g3]
        refine pk2 ⟨fun z => absurd (nI_lt hk (by omega)) (Int32.not_lt.mpr z), nI_lt hk (by omega)⟩ (c_48 hc' (by omega) ?_)
        rw [iab _ (by omega) _ (by omega)]
        simp only [nI_add, nI_1]
        rw [g4, g5, nI_clamp (by omega)]
        have ib : inB (nI pre.length) 6 = true := inB_n (by omega) (by decide)
        have eb : (1 : Int32) <<< (nI k &&& 31) = nI (2 ^ k) := b1_nI k (by omega)
        rw [eb, fa_or]
        -- the next one tried
        have go : ¬ u.testBit k = true → (¬ k = s ∨ st.2.1 + adf (sv t k 1) st.1 + 1 ≤ T) → ClV (d' + 1 + 1) 21 [.ref 156, .int (nI (pre.length + 1)), .int (nI (u ||| 2 ^ k)), .int (nI (sv t k 1)), .int (nI (st.2.1 + adf (sv t k 1) st.1 + 1)), .int (nI (st.2.2.1 + (st.2.1 + adf (sv t k 1) st.1 + 1)))] (up2 e' 157 pre.length (nI k)) dl (fun di23 dl23 => Wq none (d' + 1 + 2) 21 61 [(0, .ref 156), (1, .int (nI pre.length)), (2, .int (nI u)), (3, .int (nI st.1)), (4, .int (nI st.2.1)), (5, .int (nI st.2.2.1)), (6, .int (nI (k + 1)))] [] di23 dl23 (RV K)) := by
          intro hbit hok
          have hlen2 : (pre ++ [k]).length = pre.length + 1 := by rw [List.length_append]; rfl
          have := ih d' (by omega) (up2 e' 157 pre.length (nI k)) (pre ++ [k]) (u ||| 2 ^ k) (rstp (fun k => sv t k 1) s T st k) (itr (fun k y => if u.testBit k = true then y else dfs (fun k => sv t k 1) s T n r (u ||| 2 ^ k) (rstp (fun k => sv t k 1) s T st k) (pre ++ [k]) y) k x) (by rw [hlen2]; omega) (Cs_lo (fun a k z1 z2 => up_na (by omega)) hc') (by rw [up_na (by omega)]; exact g3) (by rw [up_na (by omega)]; exact g4) (by rw [up_na (by omega)]; exact g5) ?_ ?_ (by rw [hlen2]; exact Bst_s (P := fun k => sv t k 1) (by omega) hP hb) (by
            show (st.2.2.2 && decide (¬ k = s ∨ st.2.1 + adf (sv t k 1) st.1 + 1 ≤ T)) = true
            rw [hm, decide_eq_true hok]; rfl) (K := fun di23 dl23 => Wq none (d' + 1 + 2) 21 61 [(0, .ref 156), (1, .int (nI pre.length)), (2, .int (nI u)), (3, .int (nI st.1)), (4, .int (nI st.2.1)), (5, .int (nI st.2.2.1)), (6, .int (nI (k + 1)))] [] di23 dl23 (RV K)) ?_
          · rw [hlen2] at this
            exact this
          · revert hx'
            generalize itr (fun k y => if u.testBit k = true then y else dfs (fun k => sv t k 1) s T n r (u ||| 2 ^ k) (rstp (fun k => sv t k 1) s T st k) (pre ++ [k]) y) k x = y
            intro hx'
            cases y with
            | none =>
              show up2 e' 157 pre.length (nI k) 156 6 = -1
              rw [up_na (by omega)]
              exact hx'
            | some p =>
              refine ⟨?_, hx'.2.1, fun i hi => ?_⟩
              · rw [up_na (by omega)]; exact hx'.1
              · rw [up_na (by omega)]; exact hx'.2.2 i hi
          · intro i hi
            rw [hlen2] at hi
            rcases Nat.lt_succ_iff_lt_or_eq.mp hi with z | z
            · rw [up_nk (by omega), getD_l z]
              exact hr' i z
            · subst z
              rw [up_eq, getD_e]
          · intro e2 x2 r2 f2
            refine ik e2 ?_ ?_ ?_
            · show Xs n (if u.testBit k = true then _ else _) e2
              rw [if_neg hbit]
              exact x2
            · intro i hi
              rw [r2 i (by rw [hlen2]; omega), getD_l hi]
            · intro a i z1 z2 z3
              rw [f2 a i z1 z2 z3, up_na z2]
              exact fx a i z1 z2 z3
        -- not this one
        have skip : (u.testBit k = true ∨ ¬ (¬ k = s ∨ st.2.1 + adf (sv t k 1) st.1 + 1 ≤ T)) → Wq none (d' + 1 + 2) 21 61 [(0, .ref 156), (1, .int (nI pre.length)), (2, .int (nI u)), (3, .int (nI st.1)), (4, .int (nI st.2.1)), (5, .int (nI st.2.2.1)), (6, .int (nI (k + 1)))] [] e' dl (RV K) := by
          intro h
          refine ik e' ?_ hr' fx
          show Xs n (if u.testBit k = true then _ else _) e'
          by_cases hbit : u.testBit k = true
          · rw [if_pos hbit]
            exact hx'
          · rw [if_neg hbit]
            rw [dfs_f]
            · exact hx'
            · show (st.2.2.2 && decide (¬ k = s ∨ st.2.1 + adf (sv t k 1) st.1 + 1 ≤ T)) = false
              rw [decide_eq_false (h.resolve_left hbit), Bool.and_false]
        have hbk := bt_nI (u := u) (c := k) (by omega)
        by_cases hbit : u.testBit k = true
        · rw [bit_1 (by omega) (hbk.trans hbit)]
          exact pk1 (by decide) (skip (Or.inl hbit))
        · rw [bit_0 (by omega) (hbk.trans (Bool.eq_false_iff.mpr hbit))]
          refine pk2 (by decide) ?_
          by_cases hks : k = s
          · refine pk2 ⟨fun z => z (by rw [hks]), by rw [hks]⟩ ?_
            by_cases hle : st.2.1 + adf (sv t k 1) st.1 + 1 ≤ T
            · refine pk2 ⟨fun z => absurd (nI_le hle (by omega)) (Int32.not_le.mpr z), nI_le hle (by omega)⟩ ⟨ib, go hbit (Or.inr hle)⟩
            · refine pk1 ⟨nI_lt (by omega) (by omega), fun z => absurd (nI_lt (show T < st.2.1 + adf (sv t k 1) st.1 + 1 by omega) (by omega)) (Int32.not_lt.mpr z)⟩ (skip (Or.inr (by omega)))
          · have ne : ¬ nI k = nI s := fun z => hks ((nI_eq (by omega) (by omega)).mp z)
            exact pk1 ⟨ne, ne⟩ ⟨ib, go hbit (Or.inl hks)⟩
    have l6 := nI_lt (b := 6) (show pre.length < 6 by omega) (by decide)
    have ln := nI_lt hlen (show n < 2 ^ 31 by omega)
    have l0 := nI_pos' (n := pre.length) (by omega)
    have inn : ∀ {A B C D : Prop}, D → (nI pre.length < 0 → A) ∧ (0 ≤ nI pre.length → (nI n ≤ nI pre.length → B) ∧ (nI pre.length < nI n → (nI pre.length < 6 → D) ∧ (6 ≤ nI pre.length → C))) := fun hD => pk2 ⟨fun z => absurd l0 (Int32.not_le.mpr z), l0⟩ (pk2 ⟨fun z => absurd ln (Int32.not_lt.mpr z), ln⟩ (pk1 ⟨l6, fun z => absurd l6 (Int32.not_lt.mpr z)⟩ hD))
    refine r_21 ?_
    rw [e3]
    cases x with
    | none =>
      have hx' : e 156 6 = -1 := hx
      exact pk1 ⟨hx', fun z => z hx'⟩ (inn loop)
    | some p =>
      obtain ⟨x1, x2, x3⟩ := id hx
      have ne : ¬ e 156 6 = -1 := by rw [x1, fa_eq, nI_toInt (by omega), ti_m1]; omega
      refine pk2 ⟨ne, ne⟩ ?_
      rw [x1]
      by_cases hlt : st.2.2.1 < p.1
      · exact pk1 ⟨nI_lt hlt (by omega), fun z => absurd (nI_lt hlt (by omega)) (Int32.not_lt.mpr z)⟩ (inn loop)
      · refine pk2 ⟨fun z => absurd (nI_le (show p.1 ≤ st.2.2.1 by omega) (by omega)) (Int32.not_le.mpr z), nI_le (by omega) (by omega)⟩ ?_
        refine kk e ?_ hrow (fun _ _ _ _ _ => rfl)
        rw [dfs_p (r + 1) u st pre p.1 p.2 (by omega)]
        exact hx
def a_ro (t : tTown) (a b c : Int32) : Int32 := if (0 ≤ a.toInt ∧ a.toInt < nS t ∧ a.toInt < 6) ∧ (0 ≤ b.toInt ∧ b.toInt ≤ 99) ∧ (-1 ≤ c.toInt ∧ c.toInt < 6) then rouV t a.toInt.toNat b.toInt.toNat c else -2
theorem k_106 {t : tTown} {di : tDi} {dl : tDl} {K : Int32 → tDi → tDl → Prop} (hw : Wt t) (hc : Cw t di) (a b c : Int32) (kk : ∀ d, Cw t d → FC di d → K (a_ro t a b c) d dl) : ClI 14 106 [.ref 0, .int a, .int b, .int c] di dl K := by
  have w1 := hw.1.1
  have c1 := hc.1.1.1
  unfold a_ro at kk
  by_cases h : (0 ≤ a.toInt ∧ a.toInt < nS t ∧ a.toInt < 6) ∧ (0 ≤ b.toInt ∧ b.toInt ≤ 99) ∧ (-1 ≤ c.toInt ∧ c.toInt < 6)
  · rcases ixp a with z | ⟨s, hs, rfl⟩
    · omega
    rcases ixp b with z | ⟨T, hT, rfl⟩
    · omega
    rw [nI_toInt hs, nI_toInt hT] at h
    simp only [nI_toInt hs, nI_toInt hT, if_pos h, Int.toNat_natCast] at kk
    have P : ∀ {K : Int32 → tDi → tDl → Prop}, (∀ d, Xs (min 6 (nS t)) (dfs (fun k => sv t k 1) s T (min 6 (nS t)) (min 6 (nS t)) 0 rs0 [] none) d → d 156 3 = nI (min 6 (nS t)) → Cw t d → FC di d → K (d 156 6) d dl) → ClI 13 19 [.ref 156, .int (nI s), .int (nI T)] di dl K := by
      intro K kk
      refine r_19 ?_
      rw [c1, show imin 6 (nI (nS t)) = nI (min 6 (nS t)) from imin_n (a := 6) (by omega) (by omega)]
      have q : ∀ a k, ¬ a = 156 → up2 (up2 (up2 (up2 di 156 3 (nI (min 6 (nS t)))) 156 4 (nI s)) 156 5 (nI T)) 156 6 (-1) a k = di a k := fun a k z => by rw [up_na z, up_na z, up_na z, up_na z]
      refine c_21 (t := t) (n := min 6 (nS t)) (s := s) (T := T) hw (Nat.min_le_left _ _) (Nat.min_le_right _ _) (by omega) (by omega) (min 6 (nS t)) 10 (by omega) _ [] 0 rs0 none (by rw [List.length_nil]; omega) (Cs_lo (fun a k z1 z2 => q a k (by omega)) hc.1) (by simp (disch := omega) only [up_eq, up_na, up_nk]) (by simp (disch := omega) only [up_eq, up_na, up_nk]) (by simp (disch := omega) only [up_eq, up_na, up_nk]) (by show _ = (-1 : Int32); rw [up_eq]) (fun k hk => absurd hk (Nat.not_lt_zero k)) ⟨Nat.zero_le _, Nat.zero_le _, Nat.zero_le _⟩ rfl ?_
      intro e x1 _ fx
      refine kk e x1 ?_ ?_ ?_
      · rw [fx _ _ (by omega) (by omega) (by omega)]
        simp (disch := omega) only [up_eq, up_na, up_nk]
      · exact Cw_cong hw (fun a k z => by rw [fx a k (by omega) (by omega) (by omega), q a k (by omega)]) hc
      · intro a k z1 z2 z3 z4 z5
        rw [fx a k (by omega) (by omega) (by omega), q a k (by omega)]
    unfold rouV at kk
    have hmin : min 6 (nS t) ≤ 6 := Nat.min_le_left _ _
    rcases ixm c 6 (by omega) with hc1 | rfl | ⟨i, hi, rfl⟩ | hc1
    · omega
    · refine r_106 ?_
      simp (disch := omega) only [true_imp_iff, false_imp_iff, not_true_eq_false, not_false_eq_true, and_true, true_and, Int32.reduceToInt, Int64.reduceToInt, Int32.reduceAdd, fa_lt, fa_le, fa_eq, cmi_lt, cmi_le, cmi_gt, cmi_ge, cmi_eq, fa_lt64, fa_le64, fa_eq64, Int32.toInt_toInt64, nI_toInt, ti_m1, sub1_ti, inB_iff, nI_clamp, Int32.add_zero, nI_1, nI_add, nI_p2, nI_p3, nI_p4, nI_p5, nI_p6, nI_p8, nI_p9, nI_p10, nI_m3, nI_m4, nI_m5, nI_m6, nI_m8, nI_m10, nI_m31, nI_m48, nI_m60, nI_m256, nI_t5, nI_t6, nI_a1, nI_a48, nI_a96, nI_d5, nI_d6, nI_d8, nI_d10, nI_d20, nI_s1, nI_s48, pk_sub, c1]
      repeat (first | (with_reducible refine pk1 ?_ ?_; omega) | (with_reducible refine pk2 ?_ ?_; omega) | (with_reducible refine bd1 ?_ ?_; omega))
      refine P ?_
      intro d hx d3 cw fc
      replace kk := kk d cw fc
      revert hx kk
      cases dfs (fun k => sv t k 1) s T (min 6 (nS t)) (min 6 (nS t)) 0 rs0 [] none with
      | none =>
        intro hx kk
        have hx' : d 156 6 = -1 := hx
        rw [hx']
        exact kk
      | some p =>
        intro hx kk
        rw [hx.1]
        exact kk
    · have ni : ¬ nI i = -1 := by rw [fa_eq, nI_toInt (by omega), ti_m1]; omega
      refine r_106 ?_
      simp (disch := omega) only [true_imp_iff, false_imp_iff, not_true_eq_false, not_false_eq_true, and_true, true_and, Int32.reduceToInt, Int64.reduceToInt, Int32.reduceAdd, fa_lt, fa_le, fa_eq, cmi_lt, cmi_le, cmi_gt, cmi_ge, cmi_eq, fa_lt64, fa_le64, fa_eq64, Int32.toInt_toInt64, nI_toInt, ti_m1, sub1_ti, inB_iff, nI_clamp, Int32.add_zero, nI_1, nI_add, nI_p2, nI_p3, nI_p4, nI_p5, nI_p6, nI_p8, nI_p9, nI_p10, nI_m3, nI_m4, nI_m5, nI_m6, nI_m8, nI_m10, nI_m31, nI_m48, nI_m60, nI_m256, nI_t5, nI_t6, nI_a1, nI_a48, nI_a96, nI_d5, nI_d6, nI_d8, nI_d10, nI_d20, nI_s1, nI_s48, pk_sub, c1]
      repeat (first | (with_reducible refine pk1 ?_ ?_; omega) | (with_reducible refine pk2 ?_ ?_; omega) | (with_reducible refine bd1 ?_ ?_; omega))
      refine P ?_
      intro d hx d3 cw fc
      replace kk := kk d cw fc
      refine pk2 (by omega) ?_
      revert hx kk
      cases dfs (fun k => sv t k 1) s T (min 6 (nS t)) (min 6 (nS t)) 0 rs0 [] none with
      | none =>
        intro hx kk
        have hx' : d 156 6 = -1 := hx
        rw [hx']
        exact pk2 ⟨fun z => z rfl, rfl⟩ kk
      | some p =>
        intro hx kk
        have kk' : K (if nI i = -1 then nI p.1 else if (nI i).toInt < (min 6 (nS t) : Nat) then nI (p.2.getD (nI i).toInt.toNat 0) else -1) d dl := kk
        rw [if_neg ni, nI_toInt (by omega), Int.toNat_natCast] at kk'
        obtain ⟨x1, x2, x3⟩ := hx
        by_cases hin : i < min 6 (nS t)
        · rw [if_pos (by omega)] at kk'
          simp (disch := omega) only [true_imp_iff, false_imp_iff, not_true_eq_false, not_false_eq_true, and_true, true_and, Int32.reduceToInt, Int64.reduceToInt, Int32.reduceAdd, fa_lt, fa_le, fa_eq, cmi_lt, cmi_le, cmi_gt, cmi_ge, cmi_eq, fa_lt64, fa_le64, fa_eq64, Int32.toInt_toInt64, nI_toInt, ti_m1, sub1_ti, inB_iff, nI_clamp, Int32.add_zero, nI_1, nI_add, nI_p2, nI_p3, nI_p4, nI_p5, nI_p6, nI_p8, nI_p9, nI_p10, nI_m3, nI_m4, nI_m5, nI_m6, nI_m8, nI_m10, nI_m31, nI_m48, nI_m60, nI_m256, nI_t5, nI_t6, nI_a1, nI_a48, nI_a96, nI_d5, nI_d6, nI_d8, nI_d10, nI_d20, nI_s1, nI_s48, pk_sub, x1, d3, x3]
          repeat (first | (with_reducible refine pk1 ?_ ?_; omega) | (with_reducible refine pk2 ?_ ?_; omega) | (with_reducible refine bd1 ?_ ?_; omega))
          exact kk'
        · rw [if_neg (by omega)] at kk'
          simp (disch := omega) only [true_imp_iff, false_imp_iff, not_true_eq_false, not_false_eq_true, and_true, true_and, Int32.reduceToInt, Int64.reduceToInt, Int32.reduceAdd, fa_lt, fa_le, fa_eq, cmi_lt, cmi_le, cmi_gt, cmi_ge, cmi_eq, fa_lt64, fa_le64, fa_eq64, Int32.toInt_toInt64, nI_toInt, ti_m1, sub1_ti, inB_iff, nI_clamp, Int32.add_zero, nI_1, nI_add, nI_p2, nI_p3, nI_p4, nI_p5, nI_p6, nI_p8, nI_p9, nI_p10, nI_m3, nI_m4, nI_m5, nI_m6, nI_m8, nI_m10, nI_m31, nI_m48, nI_m60, nI_m256, nI_t5, nI_t6, nI_a1, nI_a48, nI_a96, nI_d5, nI_d6, nI_d8, nI_d10, nI_d20, nI_s1, nI_s48, pk_sub, x1, d3]
          repeat (first | (with_reducible refine pk1 ?_ ?_; omega) | (with_reducible refine pk2 ?_ ?_; omega) | (with_reducible refine bd1 ?_ ?_; omega))
          exact kk'
    · omega
  · have kb := kk di hc FC_rf
    rw [if_neg h] at kb
    refine r_106 ?_
    simp (disch := omega) only [true_imp_iff, false_imp_iff, not_true_eq_false, not_false_eq_true, and_true, true_and, Int32.reduceToInt, Int64.reduceToInt, Int32.reduceAdd, fa_lt, fa_le, fa_eq, cmi_lt, cmi_le, cmi_gt, cmi_ge, cmi_eq, fa_lt64, fa_le64, fa_eq64, Int32.toInt_toInt64, nI_toInt, ti_m1, sub1_ti, inB_iff, nI_clamp, Int32.add_zero, nI_1, nI_add, nI_p2, nI_p3, nI_p4, nI_p5, nI_p6, nI_p8, nI_p9, nI_p10, nI_m3, nI_m4, nI_m5, nI_m6, nI_m8, nI_m10, nI_m31, nI_m48, nI_m60, nI_m256, nI_t5, nI_t6, nI_a1, nI_a48, nI_a96, nI_d5, nI_d6, nI_d8, nI_d10, nI_d20, nI_s1, nI_s48, pk_sub, c1]
    exact ⟨fun _ => kb, fun z1 => ⟨fun _ => kb, fun z2 => ⟨fun _ => kb, fun z3 => ⟨fun _ => kb, fun z4 => ⟨fun _ => kb, fun z5 => ⟨fun _ => kb, fun z6 => ⟨fun z7 => absurd ⟨⟨by omega, by omega, by omega⟩, ⟨by omega, by omega⟩, by omega, by omega⟩ h, fun _ => kb⟩⟩⟩⟩⟩⟩⟩
