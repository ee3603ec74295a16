/-! the class's rows: hang, age, measure, dress -/
def RowQ (t : tTown) (q : tClo) (d : tDi) (r : Nat) : Prop := ∀ k, k < nC t → d (10 + r) k = nI (q k 0) ∧ d (37 + r) k = nI (q k 1) ∧ d (64 + r) k = nI (q k 2)
def RowF (t : tTown) (q : tClo) (d : tDi) (r : Nat) : Prop := ∀ s, s < nS t → d (91 + r) s = bts (fun c => fitq t q c s) (nC t)
def RowW (t : tTown) (q : tClo) (d : tDi) (r : Nat) : Prop := ∀ s, s < nS t → d (118 + r) s = worn t q s
/-- texts, settings: what the class's clothes rest on -/
def Lo (di d : tDi) : Prop := ∀ a k, a < 9 → ¬ (a = 8 ∧ k = 10) → d a k = di a k
theorem Cs_lo {t : tTown} {di d : tDi} (h : Lo di d) (hc : Cs t di) : Cs t d := by
  obtain ⟨⟨a1, l1, a2, a3, a4, a5⟩, ⟨b1, l2, b2, b3, b4, b5⟩, ⟨c1, l3, c2, c3, c4, c5⟩, e1, e2⟩ := hc
  refine ⟨⟨?_, l1, a2, ?_, a4, fun k hk => ?_⟩, ⟨?_, l2, b2, ?_, b4, fun k hk => ?_⟩, ⟨?_, l3, c2, ?_, c4, fun k hk => ?_⟩, ?_, ?_⟩
  · rw [h _ _ (by omega) (by omega)]; exact a1
  · rw [h _ _ (by omega) (by omega)]; exact a3
  · rw [h _ _ (by omega) (by omega), h _ _ (by omega) (by omega), h _ _ (by omega) (by omega), h _ _ (by omega) (by omega)]; exact a5 k hk
  · rw [h _ _ (by omega) (by omega)]; exact b1
  · rw [h _ _ (by omega) (by omega)]; exact b3
  · rw [h _ _ (by omega) (by omega), h _ _ (by omega) (by omega), h _ _ (by omega) (by omega), h _ _ (by omega) (by omega), h _ _ (by omega) (by omega)]; exact b5 k hk
  · rw [h _ _ (by omega) (by omega)]; exact c1
  · rw [h _ _ (by omega) (by omega)]; exact c3
  · rw [h _ _ (by omega) (by omega)]; exact c5 k hk
  · rw [h _ _ (by omega) (by omega)]; exact e1
  · rw [h _ _ (by omega) (by omega)]; exact e2
/-- nothing but three rows of clothes is changed -/
def FQ (r : Nat) (di d : tDi) : Prop := ∀ a k, ¬ a = 10 + r → ¬ a = 37 + r → ¬ a = 64 + r → d a k = di a k
theorem FQ_lo {r : Nat} {di d : tDi} (h : FQ r di d) : Lo di d := fun a k h1 _ => h a k (by omega) (by omega) (by omega)
theorem c_83 {t : tTown} {di : tDi} {dl : tDl} (hw : Wt t) (hc : Cs t di) {r : Nat} (hr : r < 26) {K : tDi → tDl → Prop} (kk : ∀ d, RowQ t (qz t) d r → FQ r di d → K d dl) : ClV 2 83 [.ref 8, .int (nI r)] di dl K := by
  have w2 := hw.1.2.1
  refine r_83 ?_
  refine up_to (n := nC t) (G := fun i => ∀ d, (∀ k, k < i → d (10 + r) k = nI (qz t k 0) ∧ d (37 + r) k = nI (qz t k 1) ∧ d (64 + r) k = nI (qz t k 2)) → FQ r di d → Wq none 2 83 2 [(0, .ref 8), (1, .int (nI r)), (2, .int (nI i))] [] d dl (RV K)) ?_ ?_ (Nat.zero_le _) di (fun k hk => absurd hk (Nat.not_lt_zero k)) (fun _ _ _ _ _ => rfl)
  · intro d h fr
    have c1 := (Cs_lo (FQ_lo fr) hc).2.1.1
    refine r_83_2 ?_
    simp (disch := omega) only [true_imp_iff, false_imp_iff, not_true_eq_false, not_false_eq_true, and_true, true_and, Int32.reduceToInt, Int64.reduceToInt, Int32.reduceAdd, fa_lt, fa_le, fa_eq, cmi_lt, cmi_le, cmi_gt, cmi_ge, cmi_eq, fa_lt64, fa_le64, fa_eq64, Int32.toInt_toInt64, nI_toInt, ti_m1, sub1_ti, inB_iff, nI_clamp, Int32.add_zero, nI_1, nI_add, nI_p2, nI_p3, nI_p4, nI_p5, nI_p6, nI_p8, nI_p9, nI_p10, nI_m3, nI_m4, nI_m5, nI_m6, nI_m8, nI_m10, nI_m31, nI_m48, nI_m60, nI_m256, nI_t5, nI_t6, nI_a1, nI_a48, nI_a96, nI_d5, nI_d6, nI_d8, nI_d10, nI_d20, nI_s1, nI_s48, pk_sub, c1]
    repeat (first | (with_reducible refine pk1 ?_ ?_; omega) | (with_reducible refine pk2 ?_ ?_; omega) | (with_reducible refine bd1 ?_ ?_; omega))
    exact kk d h fr
  · intro i hi ih d h fr
    have hc0 := Cs_lo (FQ_lo fr) hc
    have c1 := hc0.2.1.1
    refine r_83_2 ?_
    simp (disch := omega) only [true_imp_iff, false_imp_iff, not_true_eq_false, not_false_eq_true, and_true, true_and, Int32.reduceToInt, Int64.reduceToInt, Int32.reduceAdd, fa_lt, fa_le, fa_eq, cmi_lt, cmi_le, cmi_gt, cmi_ge, cmi_eq, fa_lt64, fa_le64, fa_eq64, Int32.toInt_toInt64, nI_toInt, ti_m1, sub1_ti, inB_iff, nI_clamp, Int32.add_zero, nI_1, nI_add, nI_p2, nI_p3, nI_p4, nI_p5, nI_p6, nI_p8, nI_p9, nI_p10, nI_m3, nI_m4, nI_m5, nI_m6, nI_m8, nI_m10, nI_m31, nI_m48, nI_m60, nI_m256, nI_t5, nI_t6, nI_a1, nI_a48, nI_a96, nI_d5, nI_d6, nI_d8, nI_d10, nI_d20, nI_s1, nI_s48, pk_sub, c1]
    repeat (first | (with_reducible refine pk1 ?_ ?_; omega) | (with_reducible refine pk2 ?_ ?_; omega) | (with_reducible refine bd1 ?_ ?_; omega))
    refine c_8 hw hc0 hi ?_
    repeat (first | (with_reducible refine pk1 ?_ ?_; omega) | (with_reducible refine pk2 ?_ ?_; omega) | (with_reducible refine bd1 ?_ ?_; omega))
    have fr1 : FQ r di (up2 d (10 + r) i (nI (cv t i 0))) := fun a k h1 h2 h3 => by rw [up_na h1]; exact fr a k h1 h2 h3
    refine c_10 (Cs_lo (FQ_lo fr1) hc) hi ?_
    have fr2 : FQ r di (up2 (up2 d (10 + r) i (nI (cv t i 0))) (37 + r) i (nI (cv t i 2))) := fun a k h1 h2 h3 => by rw [up_na h2]; exact fr1 a k h1 h2 h3
    refine c_11 (Cs_lo (FQ_lo fr2) hc) hi ?_
    refine ih _ ?_ (fun a k h1 h2 h3 => by rw [up_na h3]; exact fr2 a k h1 h2 h3)
    intro k hk
    rcases Nat.lt_succ_iff_lt_or_eq.mp hk with z | z
    · simp (disch := omega) only [up_eq, up_na, up_nk]
      exact h k z
    · subst z
      simp (disch := omega) only [up_eq, up_na, up_nk]
      exact ⟨rfl, rfl, rfl⟩
theorem imx0 {a b : Nat} (ha : a < 2 ^ 30) (hb : b < 2 ^ 30) : imax 0 (nI a - nI b) = nI (a - b) := by
  unfold imax
  by_cases h : b < a
  · rw [pk_sub (by omega)]
    exact if_pos (nI_lt (a := 0) (by omega) (by omega))
  · rw [if_neg, show a - b = 0 by omega]
    · rfl
    · intro z
      rw [fa_lt, ti_0, pk_sub_toInt ha hb] at z
      omega
/-- one cloth of age -/
theorem t_84 {t : tTown} {d : tDi} {dl : tDl} (hw : Wt t) (hc : Cs t d) {r r' w i L B A : Nat} (hr : r < 26) (hr' : r' < 26) (hi : i < nC t) (hL : L ≤ 99) (hB : B ≤ 9) (hA : A ≤ 9) (h1 : d (10 + r) i = nI L) (h2 : d (37 + r) i = nI B) (h3 : d (64 + r) i = nI A) (hww : w ≤ 4) {K : tDi → tDl → Prop} (kk : Wq none 2 84 3 [(0, .ref 8), (1, .int (nI r)), (2, .int (nI r')), (3, .int (nI w)), (4, .int (nI (i + 1)))] [] (up2 (up2 (up2 d (10 + r') i (nI (agl w (cv t i 1) L A))) (37 + r') i (nI (agb w (cv t i 1) B A))) (64 + r') i (nI (aga w (cv t i 1) A))) dl (RV K)) : Wq none 2 84 3 [(0, .ref 8), (1, .int (nI r)), (2, .int (nI r')), (3, .int (nI w)), (4, .int (nI i))] [] d dl (RV K) := by
  have w2 := hw.1.2.1
  have c1 := hc.2.1.1
  have hst := (hw.2.2.1 i hi).2.2.1
  have S133 : ∀ x y z, x ≤ L → agl w (cv t i 1) L A = L - x → y ≤ 1 → agb w (cv t i 1) B A = B - y → z ≤ 2 → aga w (cv t i 1) A = A - z → Wq none 2 84 133 [(0, .ref 8), (1, .int (nI r)), (2, .int (nI r')), (3, .int (nI w)), (4, .int (nI i)), (7, .int (nI x)), (8, .int (nI y))] [.int (nI z)] d dl (RV K) := by
    intro x y z hx ex hy ey hz ez
    rw [ex, ey, ez] at kk
    refine r_84_133 ?_
    by_cases e : r' = r
    · subst e
      simp (disch := omega) only [true_imp_iff, false_imp_iff, not_true_eq_false, not_false_eq_true, and_true, true_and, Int32.reduceToInt, Int64.reduceToInt, Int32.reduceAdd, fa_lt, fa_le, fa_eq, cmi_lt, cmi_le, cmi_gt, cmi_ge, cmi_eq, fa_lt64, fa_le64, fa_eq64, Int32.toInt_toInt64, nI_toInt, ti_m1, sub1_ti, inB_iff, nI_clamp, Int32.add_zero, nI_1, nI_add, nI_p2, nI_p3, nI_p4, nI_p5, nI_p6, nI_p8, nI_p9, nI_p10, nI_m3, nI_m4, nI_m5, nI_m6, nI_m8, nI_m10, nI_m31, nI_m48, nI_m60, nI_m256, nI_t5, nI_t6, nI_a1, nI_a48, nI_a96, nI_d5, nI_d6, nI_d8, nI_d10, nI_d20, nI_s1, nI_s48, pk_sub, up_eq, up_na, up_nk, h1, h2, h3, imx0]
      repeat (first | (with_reducible refine pk1 ?_ ?_; omega) | (with_reducible refine pk2 ?_ ?_; omega) | (with_reducible refine bd1 ?_ ?_; omega))
      exact r_84_206 (by rw [nI_1]; exact kk)
    · simp (disch := omega) only [true_imp_iff, false_imp_iff, not_true_eq_false, not_false_eq_true, and_true, true_and, Int32.reduceToInt, Int64.reduceToInt, Int32.reduceAdd, fa_lt, fa_le, fa_eq, cmi_lt, cmi_le, cmi_gt, cmi_ge, cmi_eq, fa_lt64, fa_le64, fa_eq64, Int32.toInt_toInt64, nI_toInt, ti_m1, sub1_ti, inB_iff, nI_clamp, Int32.add_zero, nI_1, nI_add, nI_p2, nI_p3, nI_p4, nI_p5, nI_p6, nI_p8, nI_p9, nI_p10, nI_m3, nI_m4, nI_m5, nI_m6, nI_m8, nI_m10, nI_m31, nI_m48, nI_m60, nI_m256, nI_t5, nI_t6, nI_a1, nI_a48, nI_a96, nI_d5, nI_d6, nI_d8, nI_d10, nI_d20, nI_s1, nI_s48, pk_sub, up_eq, up_na, up_nk, h1, h2, h3, imx0]
      repeat (first | (with_reducible refine pk1 ?_ ?_; omega) | (with_reducible refine pk2 ?_ ?_; omega) | (with_reducible refine bd1 ?_ ?_; omega))
      exact r_84_206 (by rw [nI_1]; exact kk)
  have S117 : ∀ x y, x ≤ L → agl w (cv t i 1) L A = L - x → y ≤ 1 → agb w (cv t i 1) B A = B - y → Wq none 2 84 117 [(0, .ref 8), (1, .int (nI r)), (2, .int (nI r')), (3, .int (nI w)), (4, .int (nI i)), (6, .int (nI (cv t i 1))), (7, .int (nI x))] [.int (nI y)] d dl (RV K) := by
    intro x y hx ex hy ey
    refine r_84_117 ?_
    simp (disch := omega) only [true_imp_iff, false_imp_iff, not_true_eq_false, not_false_eq_true, and_true, true_and, Int32.reduceToInt, Int64.reduceToInt, Int32.reduceAdd, fa_lt, fa_le, fa_eq, cmi_lt, cmi_le, cmi_gt, cmi_ge, cmi_eq, fa_lt64, fa_le64, fa_eq64, Int32.toInt_toInt64, nI_toInt, ti_m1, sub1_ti, inB_iff, nI_clamp, Int32.add_zero, nI_1, nI_add, nI_p2, nI_p3, nI_p4, nI_p5, nI_p6, nI_p8, nI_p9, nI_p10, nI_m3, nI_m4, nI_m5, nI_m6, nI_m8, nI_m10, nI_m31, nI_m48, nI_m60, nI_m256, nI_t5, nI_t6, nI_a1, nI_a48, nI_a96, nI_d5, nI_d6, nI_d8, nI_d10, nI_d20, nI_s1, nI_s48, pk_sub]
    unfold aga eat at S133
    by_cases e : w = 4
    · repeat (first | (with_reducible refine pk1 ?_ ?_; omega) | (with_reducible refine pk2 ?_ ?_; omega) | (with_reducible refine bd1 ?_ ?_; omega))
      rcases (by omega : cv t i 1 = 0 ∨ cv t i 1 = 1 ∨ cv t i 1 = 2) with e1 | e1 | e1
      · repeat (first | (with_reducible refine pk1 ?_ ?_; omega) | (with_reducible refine pk2 ?_ ?_; omega) | (with_reducible refine bd1 ?_ ?_; omega))
        exact S133 x y 2 hx ex hy ey (by omega) (by rw [if_pos e, if_pos e1])
      · repeat (first | (with_reducible refine pk1 ?_ ?_; omega) | (with_reducible refine pk2 ?_ ?_; omega) | (with_reducible refine bd1 ?_ ?_; omega))
        exact S133 x y 0 hx ex hy ey (by omega) (by rw [if_pos e, if_neg (by omega), if_neg (by omega)])
      · repeat (first | (with_reducible refine pk1 ?_ ?_; omega) | (with_reducible refine pk2 ?_ ?_; omega) | (with_reducible refine bd1 ?_ ?_; omega))
        exact S133 x y 1 hx ex hy ey (by omega) (by rw [if_pos e, if_neg (by omega), if_pos e1])
    · repeat (first | (with_reducible refine pk1 ?_ ?_; omega) | (with_reducible refine pk2 ?_ ?_; omega) | (with_reducible refine bd1 ?_ ?_; omega))
      exact S133 x y 0 hx ex hy ey (by omega) (by rw [if_neg e]; rfl)
  have S94 : ∀ x z, x ≤ L → agl w (cv t i 1) L A = L - x → z = (if 0 < A then 1 else 0) → Wq none 2 84 94 [(0, .ref 8), (1, .int (nI r)), (2, .int (nI r')), (3, .int (nI w)), (4, .int (nI i)), (5, .int (nI z)), (6, .int (nI (cv t i 1)))] [.int (nI x)] d dl (RV K) := by
    intro x z hx ex ez
    refine r_84_94 ?_
    unfold agb at S117
    by_cases e : 0 < A
    · rw [if_pos e] at ez
      subst ez
      by_cases e3 : w = 3
      · by_cases e1 : cv t i 1 = 1
        · simp (disch := omega) only [true_imp_iff, false_imp_iff, not_true_eq_false, not_false_eq_true, and_true, true_and, Int32.reduceToInt, Int64.reduceToInt, Int32.reduceAdd, fa_lt, fa_le, fa_eq, cmi_lt, cmi_le, cmi_gt, cmi_ge, cmi_eq, fa_lt64, fa_le64, fa_eq64, Int32.toInt_toInt64, nI_toInt, ti_m1, sub1_ti, inB_iff, nI_clamp, Int32.add_zero, nI_1, nI_add, nI_p2, nI_p3, nI_p4, nI_p5, nI_p6, nI_p8, nI_p9, nI_p10, nI_m3, nI_m4, nI_m5, nI_m6, nI_m8, nI_m10, nI_m31, nI_m48, nI_m60, nI_m256, nI_t5, nI_t6, nI_a1, nI_a48, nI_a96, nI_d5, nI_d6, nI_d8, nI_d10, nI_d20, nI_s1, nI_s48, pk_sub]
          repeat (first | (with_reducible refine pk1 ?_ ?_; omega) | (with_reducible refine pk2 ?_ ?_; omega) | (with_reducible refine bd1 ?_ ?_; omega))
          exact S117 x 1 hx ex (by omega) (by rw [if_pos ⟨e, e3, e1⟩])
        · simp (disch := omega) only [true_imp_iff, false_imp_iff, not_true_eq_false, not_false_eq_true, and_true, true_and, Int32.reduceToInt, Int64.reduceToInt, Int32.reduceAdd, fa_lt, fa_le, fa_eq, cmi_lt, cmi_le, cmi_gt, cmi_ge, cmi_eq, fa_lt64, fa_le64, fa_eq64, Int32.toInt_toInt64, nI_toInt, ti_m1, sub1_ti, inB_iff, nI_clamp, Int32.add_zero, nI_1, nI_add, nI_p2, nI_p3, nI_p4, nI_p5, nI_p6, nI_p8, nI_p9, nI_p10, nI_m3, nI_m4, nI_m5, nI_m6, nI_m8, nI_m10, nI_m31, nI_m48, nI_m60, nI_m256, nI_t5, nI_t6, nI_a1, nI_a48, nI_a96, nI_d5, nI_d6, nI_d8, nI_d10, nI_d20, nI_s1, nI_s48, pk_sub]
          repeat (first | (with_reducible refine pk1 ?_ ?_; omega) | (with_reducible refine pk2 ?_ ?_; omega) | (with_reducible refine bd1 ?_ ?_; omega))
          exact r_84_116 (S117 x 0 hx ex (by omega) (by rw [if_neg (by omega)]; rfl))
      · simp (disch := omega) only [true_imp_iff, false_imp_iff, not_true_eq_false, not_false_eq_true, and_true, true_and, Int32.reduceToInt, Int64.reduceToInt, Int32.reduceAdd, fa_lt, fa_le, fa_eq, cmi_lt, cmi_le, cmi_gt, cmi_ge, cmi_eq, fa_lt64, fa_le64, fa_eq64, Int32.toInt_toInt64, nI_toInt, ti_m1, sub1_ti, inB_iff, nI_clamp, Int32.add_zero, nI_1, nI_add, nI_p2, nI_p3, nI_p4, nI_p5, nI_p6, nI_p8, nI_p9, nI_p10, nI_m3, nI_m4, nI_m5, nI_m6, nI_m8, nI_m10, nI_m31, nI_m48, nI_m60, nI_m256, nI_t5, nI_t6, nI_a1, nI_a48, nI_a96, nI_d5, nI_d6, nI_d8, nI_d10, nI_d20, nI_s1, nI_s48, pk_sub]
        repeat (first | (with_reducible refine pk1 ?_ ?_; omega) | (with_reducible refine pk2 ?_ ?_; omega) | (with_reducible refine bd1 ?_ ?_; omega))
        exact r_84_116 (S117 x 0 hx ex (by omega) (by rw [if_neg (by omega)]; rfl))
    · rw [if_neg e] at ez
      subst ez
      simp (disch := omega) only [true_imp_iff, false_imp_iff, not_true_eq_false, not_false_eq_true, and_true, true_and, Int32.reduceToInt, Int64.reduceToInt, Int32.reduceAdd, fa_lt, fa_le, fa_eq, cmi_lt, cmi_le, cmi_gt, cmi_ge, cmi_eq, fa_lt64, fa_le64, fa_eq64, Int32.toInt_toInt64, nI_toInt, ti_m1, sub1_ti, inB_iff, nI_clamp, Int32.add_zero, nI_1, nI_add, nI_p2, nI_p3, nI_p4, nI_p5, nI_p6, nI_p8, nI_p9, nI_p10, nI_m3, nI_m4, nI_m5, nI_m6, nI_m8, nI_m10, nI_m31, nI_m48, nI_m60, nI_m256, nI_t5, nI_t6, nI_a1, nI_a48, nI_a96, nI_d5, nI_d6, nI_d8, nI_d10, nI_d20, nI_s1, nI_s48, pk_sub]
      repeat (first | (with_reducible refine pk1 ?_ ?_; omega) | (with_reducible refine pk2 ?_ ?_; omega) | (with_reducible refine bd1 ?_ ?_; omega))
      exact r_84_116 (S117 x 0 hx ex (by omega) (by rw [if_neg (by omega)]; rfl))
  have S53 : ∀ z, z = (if 0 < A then 1 else 0) → Wq none 2 84 53 [(0, .ref 8), (1, .int (nI r)), (2, .int (nI r')), (3, .int (nI w)), (4, .int (nI i))] [.int (nI z)] d dl (RV K) := by
    intro z ez
    refine r_84_53 (c_9 hw hc hi ?_)
    unfold agl shr at S94
    by_cases e : 0 < A
    · have e1 : z = 1 := by rw [ez, if_pos e]
      subst e1
      by_cases e3 : w = 1
      · rcases (by omega : cv t i 1 = 0 ∨ cv t i 1 = 1 ∨ cv t i 1 = 2) with e1 | e1 | e1
        · simp (disch := omega) only [true_imp_iff, false_imp_iff, not_true_eq_false, not_false_eq_true, and_true, true_and, Int32.reduceToInt, Int64.reduceToInt, Int32.reduceAdd, fa_lt, fa_le, fa_eq, cmi_lt, cmi_le, cmi_gt, cmi_ge, cmi_eq, fa_lt64, fa_le64, fa_eq64, Int32.toInt_toInt64, nI_toInt, ti_m1, sub1_ti, inB_iff, nI_clamp, Int32.add_zero, nI_1, nI_add, nI_p2, nI_p3, nI_p4, nI_p5, nI_p6, nI_p8, nI_p9, nI_p10, nI_m3, nI_m4, nI_m5, nI_m6, nI_m8, nI_m10, nI_m31, nI_m48, nI_m60, nI_m256, nI_t5, nI_t6, nI_a1, nI_a48, nI_a96, nI_d5, nI_d6, nI_d8, nI_d10, nI_d20, nI_s1, nI_s48, pk_sub, h1]
          repeat (first | (with_reducible refine pk1 ?_ ?_; omega) | (with_reducible refine pk2 ?_ ?_; omega) | (with_reducible refine bd1 ?_ ?_; omega))
          exact S94 (L / 10) 1 (by omega) (by rw [if_pos ⟨e, e3⟩, if_pos e1]) ez
        · simp (disch := omega) only [true_imp_iff, false_imp_iff, not_true_eq_false, not_false_eq_true, and_true, true_and, Int32.reduceToInt, Int64.reduceToInt, Int32.reduceAdd, fa_lt, fa_le, fa_eq, cmi_lt, cmi_le, cmi_gt, cmi_ge, cmi_eq, fa_lt64, fa_le64, fa_eq64, Int32.toInt_toInt64, nI_toInt, ti_m1, sub1_ti, inB_iff, nI_clamp, Int32.add_zero, nI_1, nI_add, nI_p2, nI_p3, nI_p4, nI_p5, nI_p6, nI_p8, nI_p9, nI_p10, nI_m3, nI_m4, nI_m5, nI_m6, nI_m8, nI_m10, nI_m31, nI_m48, nI_m60, nI_m256, nI_t5, nI_t6, nI_a1, nI_a48, nI_a96, nI_d5, nI_d6, nI_d8, nI_d10, nI_d20, nI_s1, nI_s48, pk_sub, h1]
          repeat (first | (with_reducible refine pk1 ?_ ?_; omega) | (with_reducible refine pk2 ?_ ?_; omega) | (with_reducible refine bd1 ?_ ?_; omega))
          exact S94 0 1 (by omega) (by rw [if_pos ⟨e, e3⟩, if_neg (by omega), if_neg (by omega)]) ez
        · simp (disch := omega) only [true_imp_iff, false_imp_iff, not_true_eq_false, not_false_eq_true, and_true, true_and, Int32.reduceToInt, Int64.reduceToInt, Int32.reduceAdd, fa_lt, fa_le, fa_eq, cmi_lt, cmi_le, cmi_gt, cmi_ge, cmi_eq, fa_lt64, fa_le64, fa_eq64, Int32.toInt_toInt64, nI_toInt, ti_m1, sub1_ti, inB_iff, nI_clamp, Int32.add_zero, nI_1, nI_add, nI_p2, nI_p3, nI_p4, nI_p5, nI_p6, nI_p8, nI_p9, nI_p10, nI_m3, nI_m4, nI_m5, nI_m6, nI_m8, nI_m10, nI_m31, nI_m48, nI_m60, nI_m256, nI_t5, nI_t6, nI_a1, nI_a48, nI_a96, nI_d5, nI_d6, nI_d8, nI_d10, nI_d20, nI_s1, nI_s48, pk_sub, h1]
          repeat (first | (with_reducible refine pk1 ?_ ?_; omega) | (with_reducible refine pk2 ?_ ?_; omega) | (with_reducible refine bd1 ?_ ?_; omega))
          exact S94 (L / 20) 1 (by omega) (by rw [if_pos ⟨e, e3⟩, if_neg (by omega), if_pos e1]) ez
      · simp (disch := omega) only [true_imp_iff, false_imp_iff, not_true_eq_false, not_false_eq_true, and_true, true_and, Int32.reduceToInt, Int64.reduceToInt, Int32.reduceAdd, fa_lt, fa_le, fa_eq, cmi_lt, cmi_le, cmi_gt, cmi_ge, cmi_eq, fa_lt64, fa_le64, fa_eq64, Int32.toInt_toInt64, nI_toInt, ti_m1, sub1_ti, inB_iff, nI_clamp, Int32.add_zero, nI_1, nI_add, nI_p2, nI_p3, nI_p4, nI_p5, nI_p6, nI_p8, nI_p9, nI_p10, nI_m3, nI_m4, nI_m5, nI_m6, nI_m8, nI_m10, nI_m31, nI_m48, nI_m60, nI_m256, nI_t5, nI_t6, nI_a1, nI_a48, nI_a96, nI_d5, nI_d6, nI_d8, nI_d10, nI_d20, nI_s1, nI_s48, pk_sub, h1]
        repeat (first | (with_reducible refine pk1 ?_ ?_; omega) | (with_reducible refine pk2 ?_ ?_; omega) | (with_reducible refine bd1 ?_ ?_; omega))
        exact r_84_93 (S94 0 1 (by omega) (by rw [if_neg (by omega)]; rfl) ez)
    · have e1 : z = 0 := by rw [ez, if_neg e]
      subst e1
      simp (disch := omega) only [true_imp_iff, false_imp_iff, not_true_eq_false, not_false_eq_true, and_true, true_and, Int32.reduceToInt, Int64.reduceToInt, Int32.reduceAdd, fa_lt, fa_le, fa_eq, cmi_lt, cmi_le, cmi_gt, cmi_ge, cmi_eq, fa_lt64, fa_le64, fa_eq64, Int32.toInt_toInt64, nI_toInt, ti_m1, sub1_ti, inB_iff, nI_clamp, Int32.add_zero, nI_1, nI_add, nI_p2, nI_p3, nI_p4, nI_p5, nI_p6, nI_p8, nI_p9, nI_p10, nI_m3, nI_m4, nI_m5, nI_m6, nI_m8, nI_m10, nI_m31, nI_m48, nI_m60, nI_m256, nI_t5, nI_t6, nI_a1, nI_a48, nI_a96, nI_d5, nI_d6, nI_d8, nI_d10, nI_d20, nI_s1, nI_s48, pk_sub, h1]
      repeat (first | (with_reducible refine pk1 ?_ ?_; omega) | (with_reducible refine pk2 ?_ ?_; omega) | (with_reducible refine bd1 ?_ ?_; omega))
      exact r_84_93 (S94 0 0 (by omega) (by rw [if_neg (by omega)]; rfl) ez)
  refine r_84_3 ?_
  simp (disch := omega) only [true_imp_iff, false_imp_iff, not_true_eq_false, not_false_eq_true, and_true, true_and, Int32.reduceToInt, Int64.reduceToInt, Int32.reduceAdd, fa_lt, fa_le, fa_eq, cmi_lt, cmi_le, cmi_gt, cmi_ge, cmi_eq, fa_lt64, fa_le64, fa_eq64, Int32.toInt_toInt64, nI_toInt, ti_m1, sub1_ti, inB_iff, nI_clamp, Int32.add_zero, nI_1, nI_add, nI_p2, nI_p3, nI_p4, nI_p5, nI_p6, nI_p8, nI_p9, nI_p10, nI_m3, nI_m4, nI_m5, nI_m6, nI_m8, nI_m10, nI_m31, nI_m48, nI_m60, nI_m256, nI_t5, nI_t6, nI_a1, nI_a48, nI_a96, nI_d5, nI_d6, nI_d8, nI_d10, nI_d20, nI_s1, nI_s48, pk_sub, c1, h3]
  repeat (first | (with_reducible refine pk1 ?_ ?_; omega) | (with_reducible refine pk2 ?_ ?_; omega) | (with_reducible refine bd1 ?_ ?_; omega))
  by_cases e : 0 < A
  · repeat (first | (with_reducible refine pk1 ?_ ?_; omega) | (with_reducible refine pk2 ?_ ?_; omega) | (with_reducible refine bd1 ?_ ?_; omega))
    exact S53 1 (by rw [if_pos e])
  · repeat (first | (with_reducible refine pk1 ?_ ?_; omega) | (with_reducible refine pk2 ?_ ?_; omega) | (with_reducible refine bd1 ?_ ?_; omega))
    exact S53 0 (by rw [if_neg e])
theorem c_84 {t : tTown} {di : tDi} {dl : tDl} (hw : Wt t) (hc : Cs t di) {q : tClo} (hq : Bq t q) {r r' w : Nat} (hr : r < 26) (hr' : r' < 26) (h : RowQ t q di r) (hww : w ≤ 4) {K : tDi → tDl → Prop} (kk : ∀ d, RowQ t (ag t w q) d r' → FQ r' di d → K d dl) : ClV 2 84 [.ref 8, .int (nI r), .int (nI r'), .int (nI w)] di dl K := by
  have w2 := hw.1.2.1
  refine r_84 ?_
  refine up_to (n := nC t) (G := fun i => ∀ d, (∀ k, k < i → d (10 + r') k = nI (ag t w q k 0) ∧ d (37 + r') k = nI (ag t w q k 1) ∧ d (64 + r') k = nI (ag t w q k 2)) → (∀ k, i ≤ k → d (10 + r) k = di (10 + r) k ∧ d (37 + r) k = di (37 + r) k ∧ d (64 + r) k = di (64 + r) k) → FQ r' di d → Wq none 2 84 3 [(0, .ref 8), (1, .int (nI r)), (2, .int (nI r')), (3, .int (nI w)), (4, .int (nI i))] [] d dl (RV K)) ?_ ?_ (Nat.zero_le _) di (fun k hk => absurd hk (Nat.not_lt_zero k)) (fun k _ => ⟨rfl, rfl, rfl⟩) (fun _ _ _ _ _ => rfl)
  · intro d h1 _ fr
    have c1 := (Cs_lo (FQ_lo fr) hc).2.1.1
    refine r_84_3 ?_
    simp (disch := omega) only [true_imp_iff, false_imp_iff, not_true_eq_false, not_false_eq_true, and_true, true_and, Int32.reduceToInt, Int64.reduceToInt, Int32.reduceAdd, fa_lt, fa_le, fa_eq, cmi_lt, cmi_le, cmi_gt, cmi_ge, cmi_eq, fa_lt64, fa_le64, fa_eq64, Int32.toInt_toInt64, nI_toInt, ti_m1, sub1_ti, inB_iff, nI_clamp, Int32.add_zero, nI_1, nI_add, nI_p2, nI_p3, nI_p4, nI_p5, nI_p6, nI_p8, nI_p9, nI_p10, nI_m3, nI_m4, nI_m5, nI_m6, nI_m8, nI_m10, nI_m31, nI_m48, nI_m60, nI_m256, nI_t5, nI_t6, nI_a1, nI_a48, nI_a96, nI_d5, nI_d6, nI_d8, nI_d10, nI_d20, nI_s1, nI_s48, pk_sub, c1]
    repeat (first | (with_reducible refine pk1 ?_ ?_; omega) | (with_reducible refine pk2 ?_ ?_; omega) | (with_reducible refine bd1 ?_ ?_; omega))
    exact kk d h1 fr
  · intro i hi ih d h1 h2 fr
    obtain ⟨q1, q2, q3⟩ := hq i hi
    obtain ⟨e1, e2, e3⟩ := h2 i (Nat.le_refl i)
    obtain ⟨g1, g2, g3⟩ := h i hi
    refine t_84 hw (Cs_lo (FQ_lo fr) hc) hr hr' hi q1 q2 q3 (e1.trans g1) (e2.trans g2) (e3.trans g3) hww (ih _ ?_ ?_ ?_)
    · intro k hk
      rcases Nat.lt_succ_iff_lt_or_eq.mp hk with z | z
      · simp (disch := omega) only [up_eq, up_na, up_nk]
        exact h1 k z
      · subst z
        simp (disch := omega) only [up_eq, up_na, up_nk]
        exact ⟨rfl, rfl, rfl⟩
    · intro k hk
      simp (disch := omega) only [up_eq, up_na, up_nk]
      exact h2 k (by omega)
    · intro a k z1 z2 z3
      simp (disch := omega) only [up_eq, up_na, up_nk]
      exact fr a k z1 z2 z3
