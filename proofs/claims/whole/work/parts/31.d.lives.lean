/-! the reference's clothes: begins, goes, tailors, lives -/
def N8 (t : tTown) (q : tClo) (d : tDi) : Prop := ∀ k, k < nC t → d 188 (3 * k) = nI (q k 0) ∧ d 188 (3 * k + 1) = nI (q k 1) ∧ d 188 (3 * k + 2) = nI (q k 2)
theorem Rs_cong {t : tTown} {di d : tDi} (h : ∀ a k, 183 ≤ a → a ≤ 187 → d a k = di a k) (H : Rs t di) : Rs t d := by
  obtain ⟨c1, c2, c3, c4, c5, c6, c7, c8⟩ := H
  refine ⟨?_, ?_, ?_, ?_, ?_, fun k hk j hj => ?_, fun k hk j hj => ?_, fun k hk => ?_⟩
  · rw [h _ _ (by omega) (by omega)]; exact c1
  · rw [h _ _ (by omega) (by omega)]; exact c2
  · rw [h _ _ (by omega) (by omega)]; exact c3
  · rw [h _ _ (by omega) (by omega)]; exact c4
  · rw [h _ _ (by omega) (by omega)]; exact c5
  · rw [h _ _ (by omega) (by omega)]; exact c6 k hk j hj
  · rw [h _ _ (by omega) (by omega)]; exact c7 k hk j hj
  · rw [h _ _ (by omega) (by omega)]; exact c8 k hk
theorem Rs_1 {t : tTown} {di d : tDi} {a : Nat} (ha : ¬ (183 ≤ a ∧ a ≤ 187)) (h : FF1 a di d) (H : Rs t di) : Rs t d := Rs_cong (fun x k h1 h2 => h x k (by omega)) H
theorem c_172 {t : tTown} {di : tDi} {dl : tDl} (hw : Wt t) (hr : Rs t di) {K : tDi → tDl → Prop} (kk : ∀ d, N8 t (qz t) d → FF1 188 di d → K d dl) : ClV 0 172 [.ref 176] di dl K := by
  have w2 := hw.1.2.1
  refine r_172 ?_
  refine up_to (n := nC t) (G := fun i => ∀ d, (∀ k, k < i → d 188 (3 * k) = nI (qz t k 0) ∧ d 188 (3 * k + 1) = nI (qz t k 1) ∧ d 188 (3 * k + 2) = nI (qz t k 2)) → FF1 188 di d → Wq none 0 172 2 [(0, .ref 176), (1, .int (nI i))] [] d dl (RV K)) ?_ ?_ (Nat.zero_le _) di (fun k hk => absurd hk (Nat.not_lt_zero k)) (fun _ _ _ => rfl)
  · intro d h fr
    have c2 := (Rs_1 (by omega) fr hr).2.1
    refine r_172_2 ?_
    simp (disch := omega) only [true_imp_iff, false_imp_iff, not_true_eq_false, not_false_eq_true, and_true, true_and, Int32.reduceToInt, Int64.reduceToInt, Int32.reduceAdd, fa_lt, fa_le, fa_eq, cmi_lt, cmi_le, cmi_gt, cmi_ge, cmi_eq, fa_lt64, fa_le64, fa_eq64, Int32.toInt_toInt64, nI_toInt, ti_m1, sub1_ti, inB_iff, nI_clamp, Int32.add_zero, nI_1, nI_add, nI_p2, nI_p3, nI_p4, nI_p5, nI_p6, nI_p8, nI_p9, nI_p10, nI_m3, nI_m4, nI_m5, nI_m6, nI_m8, nI_m10, nI_m31, nI_m48, nI_m60, nI_m256, nI_t5, nI_t6, nI_a1, nI_a48, nI_a96, nI_d5, nI_d6, nI_d8, nI_d10, nI_d20, nI_s1, nI_s48, pk_sub, c2]
    repeat (first | (with_reducible refine pk1 ?_ ?_; omega) | (with_reducible refine pk2 ?_ ?_; omega) | (with_reducible refine bd1 ?_ ?_; omega))
    exact kk d h fr
  · intro i hi ih d h fr
    have hr0 := Rs_1 (by omega) fr hr
    have c2 := hr0.2.1
    have c7 := hr0.2.2.2.2.2.2.1 i hi
    have e0 : d 185 (4 * i) = nI (cv t i 0) := c7 0 (by omega)
    have e2 := c7 2 (by omega)
    have e3 := c7 3 (by omega)
    refine r_172_2 ?_
    simp (disch := omega) only [true_imp_iff, false_imp_iff, not_true_eq_false, not_false_eq_true, and_true, true_and, Int32.reduceToInt, Int64.reduceToInt, Int32.reduceAdd, fa_lt, fa_le, fa_eq, cmi_lt, cmi_le, cmi_gt, cmi_ge, cmi_eq, fa_lt64, fa_le64, fa_eq64, Int32.toInt_toInt64, nI_toInt, ti_m1, sub1_ti, inB_iff, nI_clamp, Int32.add_zero, nI_1, nI_add, nI_p2, nI_p3, nI_p4, nI_p5, nI_p6, nI_p8, nI_p9, nI_p10, nI_m3, nI_m4, nI_m5, nI_m6, nI_m8, nI_m10, nI_m31, nI_m48, nI_m60, nI_m256, nI_t5, nI_t6, nI_a1, nI_a48, nI_a96, nI_d5, nI_d6, nI_d8, nI_d10, nI_d20, nI_s1, nI_s48, pk_sub, c2, e0, e2, e3]
    repeat (first | (with_reducible refine pk1 ?_ ?_; omega) | (with_reducible refine pk2 ?_ ?_; omega) | (with_reducible refine bd1 ?_ ?_; omega))
    refine ih _ ?_ (fun a k z => by simp (disch := omega) only [up_eq, up_na, up_nk]; exact fr a k z)
    intro k hk
    rcases Nat.lt_succ_iff_lt_or_eq.mp hk with z | z
    · simp (disch := omega) only [up_eq, up_na, up_nk]
      exact h k z
    · subst z
      simp (disch := omega) only [up_eq, up_na, up_nk]
      exact ⟨rfl, rfl, rfl⟩
theorem t_174 {t : tTown} {di : tDi} {dl : tDl} (hw : Wt t) (hr : Rs t di) {k w L B A : Nat} (hk : k < nC t) (hL : L ≤ 99) (hB : B ≤ 9) (hA : A ≤ 9) (h1 : di 188 (3 * k) = nI L) (h2 : di 188 (3 * k + 1) = nI B) (h3 : di 188 (3 * k + 2) = nI A) (hww : w ≤ 4) {K : tDi → tDl → Prop} (kk : ∀ d, d 188 (3 * k) = nI (agl w (cv t k 1) L A) → d 188 (3 * k + 1) = nI (agb w (cv t k 1) B A) → d 188 (3 * k + 2) = nI (aga w (cv t k 1) A) → (∀ a y, ¬ (a = 188 ∧ 3 * k ≤ y ∧ y < 3 * k + 3) → d a y = di a y) → K d dl) : ClV 1 174 [.ref 176, .int (nI k), .int (nI w)] di dl K := by
  have w2 := hw.1.2.1
  have hst := (hw.2.2.1 k hk).2.2.1
  have c7 := hr.2.2.2.2.2.2.1 k hk 1 (by omega)
  have F0 : agl w (cv t k 1) L A = L → agb w (cv t k 1) B A = B → aga w (cv t k 1) A = A → K di dl := fun e1 e2 e3 => kk di (by rw [e1]; exact h1) (by rw [e2]; exact h2) (by rw [e3]; exact h3) (fun _ _ _ => rfl)
  have FL : ∀ x, agl w (cv t k 1) L A = x → agb w (cv t k 1) B A = B → aga w (cv t k 1) A = A → K (up2 di 188 (3 * k) (nI x)) dl := fun x e1 e2 e3 => kk _ (by rw [e1]; simp (disch := omega) only [up_eq, up_na, up_nk]) (by rw [e2]; simp (disch := omega) only [up_eq, up_na, up_nk]; exact h2) (by rw [e3]; simp (disch := omega) only [up_eq, up_na, up_nk]; exact h3) (fun a y z => by unfold up2; rw [if_neg (by omega)])
  have FB : ∀ x, agl w (cv t k 1) L A = L → agb w (cv t k 1) B A = x → aga w (cv t k 1) A = A → K (up2 di 188 (3 * k + 1) (nI x)) dl := fun x e1 e2 e3 => kk _ (by rw [e1]; simp (disch := omega) only [up_eq, up_na, up_nk]; exact h1) (by rw [e2]; simp (disch := omega) only [up_eq, up_na, up_nk]) (by rw [e3]; simp (disch := omega) only [up_eq, up_na, up_nk]; exact h3) (fun a y z => by unfold up2; rw [if_neg (by omega)])
  have FA : ∀ x, agl w (cv t k 1) L A = L → agb w (cv t k 1) B A = B → aga w (cv t k 1) A = x → K (up2 di 188 (3 * k + 2) (nI x)) dl := fun x e1 e2 e3 => kk _ (by rw [e1]; simp (disch := omega) only [up_eq, up_na, up_nk]; exact h1) (by rw [e2]; simp (disch := omega) only [up_eq, up_na, up_nk]; exact h2) (by rw [e3]; simp (disch := omega) only [up_eq, up_na, up_nk]) (fun a y z => by unfold up2; rw [if_neg (by omega)])
  unfold agl shr agb aga eat at F0 FL FB FA
  refine r_174 ?_
  simp (disch := omega) only [true_imp_iff, false_imp_iff, not_true_eq_false, not_false_eq_true, and_true, true_and, Int32.reduceToInt, Int64.reduceToInt, Int32.reduceAdd, fa_lt, fa_le, fa_eq, cmi_lt, cmi_le, cmi_gt, cmi_ge, cmi_eq, fa_lt64, fa_le64, fa_eq64, Int32.toInt_toInt64, nI_toInt, ti_m1, sub1_ti, inB_iff, nI_clamp, Int32.add_zero, nI_1, nI_add, nI_p2, nI_p3, nI_p4, nI_p5, nI_p6, nI_p8, nI_p9, nI_p10, nI_m3, nI_m4, nI_m5, nI_m6, nI_m8, nI_m10, nI_m31, nI_m48, nI_m60, nI_m256, nI_t5, nI_t6, nI_a1, nI_a48, nI_a96, nI_d5, nI_d6, nI_d8, nI_d10, nI_d20, nI_s1, nI_s48, pk_sub, c7, h1, h2, h3, Int32.sub_zero]
  repeat (first | (with_reducible refine pk1 ?_ ?_; omega) | (with_reducible refine pk2 ?_ ?_; omega) | (with_reducible refine bd1 ?_ ?_; omega))
  by_cases hA0 : A = 0
  · repeat (first | (with_reducible refine pk1 ?_ ?_; omega) | (with_reducible refine pk2 ?_ ?_; omega) | (with_reducible refine bd1 ?_ ?_; omega))
    refine F0 (by rw [if_neg (by omega)]) (by rw [if_neg (by omega)]) ?_
    split
    · omega
    · rfl
  · repeat (first | (with_reducible refine pk1 ?_ ?_; omega) | (with_reducible refine pk2 ?_ ?_; omega) | (with_reducible refine bd1 ?_ ?_; omega))
    rcases (by omega : w = 1 ∨ w = 3 ∨ w = 4 ∨ w = 0 ∨ w = 2) with e | e | e | e | e
    · rcases (by omega : cv t k 1 = 0 ∨ cv t k 1 = 1 ∨ cv t k 1 = 2) with s | s | s
      · repeat (first | (with_reducible refine pk1 ?_ ?_; omega) | (with_reducible refine pk2 ?_ ?_; omega) | (with_reducible refine bd1 ?_ ?_; omega))
        exact FL _ (by rw [if_pos (by omega), if_pos s]) (by rw [if_neg (by omega)]) (by rw [if_neg (by omega)])
      · repeat (first | (with_reducible refine pk1 ?_ ?_; omega) | (with_reducible refine pk2 ?_ ?_; omega) | (with_reducible refine bd1 ?_ ?_; omega))
        exact FL _ (by rw [if_pos (by omega), if_neg (by omega), if_neg (by omega)]; rfl) (by rw [if_neg (by omega)]) (by rw [if_neg (by omega)])
      · repeat (first | (with_reducible refine pk1 ?_ ?_; omega) | (with_reducible refine pk2 ?_ ?_; omega) | (with_reducible refine bd1 ?_ ?_; omega))
        exact FL _ (by rw [if_pos (by omega), if_neg (by omega), if_pos s]) (by rw [if_neg (by omega)]) (by rw [if_neg (by omega)])
    · by_cases s : cv t k 1 = 1
      · by_cases hB0 : B = 0
        · repeat (first | (with_reducible refine pk1 ?_ ?_; omega) | (with_reducible refine pk2 ?_ ?_; omega) | (with_reducible refine bd1 ?_ ?_; omega))
          exact FB _ (by rw [if_neg (by omega)]) (by rw [if_pos (by omega)]; omega) (by rw [if_neg (by omega)])
        · repeat (first | (with_reducible refine pk1 ?_ ?_; omega) | (with_reducible refine pk2 ?_ ?_; omega) | (with_reducible refine bd1 ?_ ?_; omega))
          rw [nI_s1 (by omega)]
          exact FB _ (by rw [if_neg (by omega)]) (by rw [if_pos (by omega)]) (by rw [if_neg (by omega)])
      · repeat (first | (with_reducible refine pk1 ?_ ?_; omega) | (with_reducible refine pk2 ?_ ?_; omega) | (with_reducible refine bd1 ?_ ?_; omega))
        exact FB _ (by rw [if_neg (by omega)]) (by rw [if_neg (by omega)]) (by rw [if_neg (by omega)])
    · rcases (by omega : cv t k 1 = 0 ∨ cv t k 1 = 1 ∨ cv t k 1 = 2) with s | s | s
      · by_cases hA2 : A < 2
        · repeat (first | (with_reducible refine pk1 ?_ ?_; omega) | (with_reducible refine pk2 ?_ ?_; omega) | (with_reducible refine bd1 ?_ ?_; omega))
          exact FA 0 (by rw [if_neg (by omega)]) (by rw [if_neg (by omega)]) (by rw [if_pos e, if_pos s]; omega)
        · repeat (first | (with_reducible refine pk1 ?_ ?_; omega) | (with_reducible refine pk2 ?_ ?_; omega) | (with_reducible refine bd1 ?_ ?_; omega))
          rw [show nI A - 2 = nI (A - 2) from pk_sub (b := 2) (by omega)]
          exact FA _ (by rw [if_neg (by omega)]) (by rw [if_neg (by omega)]) (by rw [if_pos e, if_pos s])
      · repeat (first | (with_reducible refine pk1 ?_ ?_; omega) | (with_reducible refine pk2 ?_ ?_; omega) | (with_reducible refine bd1 ?_ ?_; omega))
        exact FA _ (by rw [if_neg (by omega)]) (by rw [if_neg (by omega)]) (by rw [if_pos e, if_neg (by omega), if_neg (by omega)]; rfl)
      · repeat (first | (with_reducible refine pk1 ?_ ?_; omega) | (with_reducible refine pk2 ?_ ?_; omega) | (with_reducible refine bd1 ?_ ?_; omega))
        rw [nI_s1 (by omega)]
        exact FA _ (by rw [if_neg (by omega)]) (by rw [if_neg (by omega)]) (by rw [if_pos e, if_neg (by omega), if_pos s])
    · repeat (first | (with_reducible refine pk1 ?_ ?_; omega) | (with_reducible refine pk2 ?_ ?_; omega) | (with_reducible refine bd1 ?_ ?_; omega))
      exact F0 (by rw [if_neg (by omega)]) (by rw [if_neg (by omega)]) (by rw [if_neg (by omega)])
    · repeat (first | (with_reducible refine pk1 ?_ ?_; omega) | (with_reducible refine pk2 ?_ ?_; omega) | (with_reducible refine bd1 ?_ ?_; omega))
      exact F0 (by rw [if_neg (by omega)]) (by rw [if_neg (by omega)]) (by rw [if_neg (by omega)])
theorem c_175 {t : tTown} {di : tDi} {dl : tDl} (hw : Wt t) (hr : Rs t di) {q : tClo} (hq : Bq t q) (h : N8 t q di) {w : Nat} (hww : w ≤ 4) {K : tDi → tDl → Prop} (kk : ∀ d, N8 t (ag t w q) d → FF1 188 di d → K d dl) : ClV 2 175 [.ref 176, .int (nI w)] di dl K := by
  have w2 := hw.1.2.1
  refine r_175 ?_
  refine up_to (n := nC t) (G := fun i => ∀ d, (∀ k, k < i → d 188 (3 * k) = nI (ag t w q k 0) ∧ d 188 (3 * k + 1) = nI (ag t w q k 1) ∧ d 188 (3 * k + 2) = nI (ag t w q k 2)) → (∀ y, 3 * i ≤ y → d 188 y = di 188 y) → FF1 188 di d → Wq none 2 175 2 [(0, .ref 176), (1, .int (nI w)), (2, .int (nI i))] [] d dl (RV K)) ?_ ?_ (Nat.zero_le _) di (fun k hk => absurd hk (Nat.not_lt_zero k)) (fun _ _ => rfl) (fun _ _ _ => rfl)
  · intro d h1 _ fr
    have c2 := (Rs_1 (by omega) fr hr).2.1
    refine r_175_2 ?_
    simp (disch := omega) only [true_imp_iff, false_imp_iff, not_true_eq_false, not_false_eq_true, and_true, true_and, Int32.reduceToInt, Int64.reduceToInt, Int32.reduceAdd, fa_lt, fa_le, fa_eq, cmi_lt, cmi_le, cmi_gt, cmi_ge, cmi_eq, fa_lt64, fa_le64, fa_eq64, Int32.toInt_toInt64, nI_toInt, ti_m1, sub1_ti, inB_iff, nI_clamp, Int32.add_zero, nI_1, nI_add, nI_p2, nI_p3, nI_p4, nI_p5, nI_p6, nI_p8, nI_p9, nI_p10, nI_m3, nI_m4, nI_m5, nI_m6, nI_m8, nI_m10, nI_m31, nI_m48, nI_m60, nI_m256, nI_t5, nI_t6, nI_a1, nI_a48, nI_a96, nI_d5, nI_d6, nI_d8, nI_d10, nI_d20, nI_s1, nI_s48, pk_sub, c2]
    repeat (first | (with_reducible refine pk1 ?_ ?_; omega) | (with_reducible refine pk2 ?_ ?_; omega) | (with_reducible refine bd1 ?_ ?_; omega))
    exact kk d h1 fr
  · intro i hi ih d h1 h2 fr
    have hr0 := Rs_1 (by omega) fr hr
    have c2 := hr0.2.1
    obtain ⟨q1, q2, q3⟩ := hq i hi
    obtain ⟨g1, g2, g3⟩ := h i hi
    refine r_175_2 ?_
    simp (disch := omega) only [true_imp_iff, false_imp_iff, not_true_eq_false, not_false_eq_true, and_true, true_and, Int32.reduceToInt, Int64.reduceToInt, Int32.reduceAdd, fa_lt, fa_le, fa_eq, cmi_lt, cmi_le, cmi_gt, cmi_ge, cmi_eq, fa_lt64, fa_le64, fa_eq64, Int32.toInt_toInt64, nI_toInt, ti_m1, sub1_ti, inB_iff, nI_clamp, Int32.add_zero, nI_1, nI_add, nI_p2, nI_p3, nI_p4, nI_p5, nI_p6, nI_p8, nI_p9, nI_p10, nI_m3, nI_m4, nI_m5, nI_m6, nI_m8, nI_m10, nI_m31, nI_m48, nI_m60, nI_m256, nI_t5, nI_t6, nI_a1, nI_a48, nI_a96, nI_d5, nI_d6, nI_d8, nI_d10, nI_d20, nI_s1, nI_s48, pk_sub, c2]
    repeat (first | (with_reducible refine pk1 ?_ ?_; omega) | (with_reducible refine pk2 ?_ ?_; omega) | (with_reducible refine bd1 ?_ ?_; omega))
    refine t_174 hw hr0 hi q1 q2 q3 (by rw [h2 _ (by omega)]; exact g1) (by rw [h2 _ (by omega)]; exact g2) (by rw [h2 _ (by omega)]; exact g3) hww ?_
    intro g e1 e2 e3 gr
    refine ih g ?_ ?_ ?_
    · intro k hk
      rcases Nat.lt_succ_iff_lt_or_eq.mp hk with z | z
      · rw [gr _ _ (by omega), gr _ _ (by omega), gr _ _ (by omega)]
        exact h1 k z
      · subst z
        exact ⟨e1, e2, e3⟩
    · intro y hy
      rw [gr _ _ (by omega)]
      exact h2 y (by omega)
    · intro a y z
      rw [gr _ _ (by omega)]
      exact fr a y z
theorem c_176 {t : tTown} {di : tDi} {dl : tDl} (hw : Wt t) (hr : Rs t di) {q : tClo} (hq : Bq t q) (h : N8 t q di) {k s : Nat} (hk : k < nC t) (hs : s < nS t) {K : Int32 → tDi → tDl → Prop} (kk : K (if fitq t q k s = true then 1 else 0) di dl) : ClI 1 176 [.ref 176, .int (nI k), .int (nI s)] di dl K := by
  have w1 := hw.1.1
  have w2 := hw.1.2.1
  have w4 := hw.1.2.2.2.1
  obtain ⟨v1, v2, v3, v4, v5⟩ := hw.2.1 s hs
  obtain ⟨q1, q2, q3⟩ := hq k hk
  obtain ⟨g1, g2, g3⟩ := h k hk
  have c4 := hr.2.2.2.1
  have e0 : di 184 (4 * s) = nI (sv t s 0) := hr.2.2.2.2.2.1 s hs 0 (by omega)
  have e2 := hr.2.2.2.2.2.1 s hs 2 (by omega)
  refine r_176 ?_
  simp (disch := omega) only [true_imp_iff, false_imp_iff, not_true_eq_false, not_false_eq_true, and_true, true_and, Int32.reduceToInt, Int64.reduceToInt, Int32.reduceAdd, fa_lt, fa_le, fa_eq, cmi_lt, cmi_le, cmi_gt, cmi_ge, cmi_eq, fa_lt64, fa_le64, fa_eq64, Int32.toInt_toInt64, nI_toInt, ti_m1, sub1_ti, inB_iff, nI_clamp, Int32.add_zero, nI_1, nI_add, nI_p2, nI_p3, nI_p4, nI_p5, nI_p6, nI_p8, nI_p9, nI_p10, nI_m3, nI_m4, nI_m5, nI_m6, nI_m8, nI_m10, nI_m31, nI_m48, nI_m60, nI_m256, nI_t5, nI_t6, nI_a1, nI_a48, nI_a96, nI_d5, nI_d6, nI_d8, nI_d10, nI_d20, nI_s1, nI_s48, pk_sub, g1, g2, g3, c4, e0, e2]
  repeat (first | (with_reducible refine pk1 ?_ ?_; omega) | (with_reducible refine pk2 ?_ ?_; omega) | (with_reducible refine bd1 ?_ ?_; omega))
  by_cases hf : fitq t q k s = true
  · rw [if_pos hf] at kk
    unfold fitq at hf
    rw [decide_eq_true_eq] at hf
    repeat (first | (with_reducible refine pk1 ?_ ?_; omega) | (with_reducible refine pk2 ?_ ?_; omega) | (with_reducible refine bd1 ?_ ?_; omega))
    exact kk
  · rw [if_neg hf] at kk
    unfold fitq at hf
    rw [decide_eq_true_eq] at hf
    exact ⟨fun _ => kk, fun z1 => ⟨by omega, fun _ => kk, fun z2 => ⟨fun _ => kk, fun z3 => ⟨by omega, by omega, fun _ => kk, fun z4 => absurd ⟨by omega, by omega, by omega, by omega⟩ hf⟩⟩⟩⟩
theorem c_177 {t : tTown} {di : tDi} {dl : tDl} (hw : Wt t) (hr : Rs t di) {q : tClo} (hq : Bq t q) (h : N8 t q di) {s : Nat} (hs : s < nS t) (u : Int32) {K : Int32 → tDi → tDl → Prop} (kk : K (oB (choi t q s u)) (up2 di 189 s (oI (choi t q s u))) dl) : ClI 2 177 [.ref 176, .int (nI s), .int u] di dl K := by
  have w1 := hw.1.1
  have w2 := hw.1.2.1
  have c2 := hr.2.1
  refine r_177 ?_
  refine up_to (n := nC t) (G := fun c => Wq none 2 177 5 [(0, .ref 176), (1, .int (nI s)), (2, .int u), (3, .int (oI (bst (mayw t q s u) (fun c => q c 0) c))), (4, .int (nI c))] [] di dl (RI K)) ?_ ?_ (Nat.zero_le _)
  · refine r_177_5 ?_
    rw [c2]
    refine pk1 ⟨Int32.le_refl _, fun z => absurd (Int32.le_refl _) (Int32.not_le.mpr z)⟩ ?_
    refine ⟨inB_n (by omega) (by decide), ?_⟩
    rw [nI_clamp (by omega)]
    unfold choi at kk
    cases hb : bst (mayw t q s u) (fun c => q c 0) (nC t) with
    | none =>
      rw [hb] at kk
      exact ⟨fun z => absurd rfl z, fun _ => kk⟩
    | some b =>
      rw [hb] at kk
      have := (bst_lt hb).1
      exact ⟨fun _ => kk, fun z => absurd z (oI_ne (by omega))⟩
  · intro c hc ic
    obtain ⟨g1, g2, g3⟩ := h c hc
    obtain ⟨q1, q2, q3⟩ := hq c hc
    refine r_177_5 ?_
    rw [c2]
    refine pk2 ⟨fun z => absurd (nI_lt hc (by omega)) (Int32.not_lt.mpr z), nI_lt hc (by omega)⟩ ?_
    by_cases hb : bt u c = true
    · rw [bit_1 (by omega) hb, nI_1]
      refine pk2 (by decide) ?_
      rw [bst, if_neg (by unfold mayw; rw [hb]; simp)] at ic
      exact ic
    · rw [bit_0 (by omega) (Bool.eq_false_iff.mpr hb)]
      refine pk1 (by decide) ?_
      refine c_176 hw hr hq h hc hs ?_
      by_cases hf : fitq t q c s = true
      · rw [if_pos hf]
        refine pk2 (by decide) ?_
        rw [bst, if_pos (by unfold mayw; rw [hf, Bool.eq_false_iff.mpr hb]; rfl)] at ic
        rw [nI_1]
        cases hb2 : bst (mayw t q s u) (fun c => q c 0) c with
        | none =>
          rw [hb2] at ic
          exact pk1 ⟨rfl, fun z => z rfl⟩ ic
        | some b =>
          rw [hb2] at ic
          have hbc := (bst_lt hb2).1
          obtain ⟨p1, _, _⟩ := hq b (by omega)
          obtain ⟨m1, _, _⟩ := h b (by omega)
          have ic' : Wq none 2 177 5 [(0, .ref 176), (1, .int (nI s)), (2, .int u), (3, .int (oI (if q c 0 < q b 0 then some c else some b))), (4, .int (nI (c + 1)))] [] di dl (RI K) := ic
          refine pk2 ⟨oI_ne (by omega), oI_ne (by omega)⟩ ?_
          show inB (3 * nI c) 24 = true ∧ inB (3 * nI b) 24 = true ∧ _
          rw [nI_m3, nI_m3]
          refine ⟨inB_n (by omega) (by decide), inB_n (by omega) (by decide), ?_⟩
          show (di 188 (3 * nI b).toNatClampNeg ≤ _ → _) ∧ (_ < di 188 (3 * nI b).toNatClampNeg → _)
          rw [nI_m3, nI_clamp (by omega), nI_clamp (by omega), g1, m1]
          by_cases hl : q c 0 < q b 0
          · rw [if_pos hl] at ic'
            refine pk2 ⟨fun z => ?_, nI_lt hl (by omega)⟩ ic'
            exact absurd (nI_lt hl (by omega)) (Int32.not_lt.mpr z)
          · rw [if_neg hl] at ic'
            refine pk1 ⟨nI_le (by omega) (by omega), fun z => ?_⟩ ic'
            exact absurd (nI_le (a := q b 0) (b := q c 0) (by omega) (by omega)) (Int32.not_le.mpr z)
      · rw [if_neg hf]
        refine pk1 (by decide) ?_
        rw [bst, if_neg (by unfold mayw; rw [Bool.eq_false_iff.mpr hf]; simp)] at ic
        rw [nI_1]
        exact ic
theorem c_178 {t : tTown} {di : tDi} {dl : tDl} (hw : Wt t) (hr : Rs t di) {q : tClo} (hq : Bq t q) (h : N8 t q di) {K : tDi → tDl → Prop} (kk : ∀ d, (∀ s, s < nS t → d 189 s = worn t q s) → FF1 189 di d → K d dl) : ClV 3 178 [.ref 176] di dl K := by
  have w1 := hw.1.1
  have w2 := hw.1.2.1
  have w5 := hw.1.2.2.2.2
  have c5 := hr.2.2.2.2.1
  obtain ⟨T1, T2⟩ := tlr_w hw q (fun s => di 189 s)
  have D : ∀ (x : tSt) (d : tDi) (s : Nat), s < nS t → (∀ i, d 189 i = x.2 i) → FF1 189 di d → ∀ {K : Int32 → tDi → tDl → Prop}, (∀ d', (∀ i, d' 189 i = (ds t q s x).2 i) → FF1 189 di d' → K (oB (choi t q s x.1)) d' dl) → ClI 2 177 [.ref 176, .int (nI s), .int x.1] d dl K := by
    intro x d s hs hx fr K kk
    refine c_177 hw (Rs_1 (by omega) fr hr) hq ?_ hs x.1 (kk _ ?_ ?_)
    · intro k hk
      rw [fr _ _ (by omega), fr _ _ (by omega), fr _ _ (by omega)]
      exact h k hk
    · intro i
      show _ = if i = s then oI (choi t q s x.1) else x.2 i
      by_cases e : i = s
      · subst e
        rw [up_eq, if_pos rfl]
      · rw [up_nk e, if_neg e]
        exact hx i
    · intro a k z
      rw [up_na z]
      exact fr a k z
  have C1 : ∀ d, FF1 189 di d → d 183 0 = nI (nS t) := fun d fr => (Rs_1 (by omega) fr hr).1
  have C5 : ∀ d, FF1 189 di d → d 187 1 = nI (wy t) := fun d fr => (Rs_1 (by omega) fr hr).2.2.2.2.1
  have C6 : ∀ d, FF1 189 di d → ∀ s, s < nS t → d 184 (4 * s) = nI (sv t s 0) := fun d fr s hs => (Rs_1 (by omega) fr hr).2.2.2.2.2.1 s hs 0 (by omega)
  refine r_178 ?_
  simp (disch := omega) only [true_imp_iff, false_imp_iff, not_true_eq_false, not_false_eq_true, and_true, true_and, Int32.reduceToInt, Int64.reduceToInt, Int32.reduceAdd, fa_lt, fa_le, fa_eq, cmi_lt, cmi_le, cmi_gt, cmi_ge, cmi_eq, fa_lt64, fa_le64, fa_eq64, Int32.toInt_toInt64, nI_toInt, ti_m1, sub1_ti, inB_iff, nI_clamp, Int32.add_zero, nI_1, nI_add, nI_p2, nI_p3, nI_p4, nI_p5, nI_p6, nI_p8, nI_p9, nI_p10, nI_m3, nI_m4, nI_m5, nI_m6, nI_m8, nI_m10, nI_m31, nI_m48, nI_m60, nI_m256, nI_t5, nI_t6, nI_a1, nI_a48, nI_a96, nI_d5, nI_d6, nI_d8, nI_d10, nI_d20, nI_s1, nI_s48, pk_sub, c5]
  by_cases e : wy t = 0
  · repeat (first | (with_reducible refine pk1 ?_ ?_; omega) | (with_reducible refine pk2 ?_ ?_; omega) | (with_reducible refine bd1 ?_ ?_; omega))
    refine r_178_19 ?_
    simp (disch := omega) only [true_imp_iff, false_imp_iff, not_true_eq_false, not_false_eq_true, and_true, true_and, Int32.reduceToInt, Int64.reduceToInt, Int32.reduceAdd, fa_lt, fa_le, fa_eq, cmi_lt, cmi_le, cmi_gt, cmi_ge, cmi_eq, fa_lt64, fa_le64, fa_eq64, Int32.toInt_toInt64, nI_toInt, ti_m1, sub1_ti, inB_iff, nI_clamp, Int32.add_zero, nI_1, nI_add, nI_p2, nI_p3, nI_p4, nI_p5, nI_p6, nI_p8, nI_p9, nI_p10, nI_m3, nI_m4, nI_m5, nI_m6, nI_m8, nI_m10, nI_m31, nI_m48, nI_m60, nI_m256, nI_t5, nI_t6, nI_a1, nI_a48, nI_a96, nI_d5, nI_d6, nI_d8, nI_d10, nI_d20, nI_s1, nI_s48, pk_sub]
    repeat (first | (with_reducible refine pk1 ?_ ?_; omega) | (with_reducible refine pk2 ?_ ?_; omega) | (with_reducible refine bd1 ?_ ?_; omega))
    unfold tlr at T1 T2
    rw [if_pos e] at T1 T2
    refine up_to (n := nS t) (G := fun i => ∀ d, (∀ s, d 189 s = (lp0 t q (0, fun s => di 189 s) i).2 s) → FF1 189 di d → Wq none 3 178 25 [(0, .ref 176), (1, .int (lp0 t q (0, fun s => di 189 s) i).1), (2, .int 0), (3, .int (nI i))] [] d dl (RV K)) ?_ ?_ (Nat.zero_le _) di (fun _ => rfl) (fun _ _ _ => rfl)
    · intro d hx fr
      refine r_178_25 ?_
      simp (disch := omega) only [true_imp_iff, false_imp_iff, not_true_eq_false, not_false_eq_true, and_true, true_and, Int32.reduceToInt, Int64.reduceToInt, Int32.reduceAdd, fa_lt, fa_le, fa_eq, cmi_lt, cmi_le, cmi_gt, cmi_ge, cmi_eq, fa_lt64, fa_le64, fa_eq64, Int32.toInt_toInt64, nI_toInt, ti_m1, sub1_ti, inB_iff, nI_clamp, Int32.add_zero, nI_1, nI_add, nI_p2, nI_p3, nI_p4, nI_p5, nI_p6, nI_p8, nI_p9, nI_p10, nI_m3, nI_m4, nI_m5, nI_m6, nI_m8, nI_m10, nI_m31, nI_m48, nI_m60, nI_m256, nI_t5, nI_t6, nI_a1, nI_a48, nI_a96, nI_d5, nI_d6, nI_d8, nI_d10, nI_d20, nI_s1, nI_s48, pk_sub, C1 d fr]
      repeat (first | (with_reducible refine pk1 ?_ ?_; omega) | (with_reducible refine pk2 ?_ ?_; omega) | (with_reducible refine bd1 ?_ ?_; omega))
      refine r_178_19 (pk1 (by decide) ?_)
      exact kk d (fun s hs => by rw [hx s]; exact T2 s hs) fr
    · intro i hi ih d hx fr
      refine r_178_25 ?_
      simp (disch := omega) only [true_imp_iff, false_imp_iff, not_true_eq_false, not_false_eq_true, and_true, true_and, Int32.reduceToInt, Int64.reduceToInt, Int32.reduceAdd, fa_lt, fa_le, fa_eq, cmi_lt, cmi_le, cmi_gt, cmi_ge, cmi_eq, fa_lt64, fa_le64, fa_eq64, Int32.toInt_toInt64, nI_toInt, ti_m1, sub1_ti, inB_iff, nI_clamp, Int32.add_zero, nI_1, nI_add, nI_p2, nI_p3, nI_p4, nI_p5, nI_p6, nI_p8, nI_p9, nI_p10, nI_m3, nI_m4, nI_m5, nI_m6, nI_m8, nI_m10, nI_m31, nI_m48, nI_m60, nI_m256, nI_t5, nI_t6, nI_a1, nI_a48, nI_a96, nI_d5, nI_d6, nI_d8, nI_d10, nI_d20, nI_s1, nI_s48, pk_sub, C1 d fr, C5 d fr]
      repeat (first | (with_reducible refine pk1 ?_ ?_; omega) | (with_reducible refine pk2 ?_ ?_; omega) | (with_reducible refine bd1 ?_ ?_; omega))
      refine D _ d i hi hx fr ?_
      intro d' hx' fr'
      exact ih d' hx' fr'
  · repeat (first | (with_reducible refine pk1 ?_ ?_; omega) | (with_reducible refine pk2 ?_ ?_; omega) | (with_reducible refine bd1 ?_ ?_; omega))
    unfold tlr at T1 T2
    rw [if_neg e] at T1 T2
    have L : ∀ m j, j + m = 9 → ∀ d, (∀ s, d 189 s = (lpz t q (0, fun s => di 189 s) j).2 s) → FF1 189 di d → Wq none 3 178 19 [(0, .ref 176), (1, .int (lpz t q (0, fun s => di 189 s) j).1), (2, .int (nI m))] [] d dl (RV K) := by
      intro m
      induction m with
      | zero =>
        intro j hj d hx fr
        have ej : j = 9 := by omega
        subst ej
        refine r_178_19 ?_
        simp (disch := omega) only [true_imp_iff, false_imp_iff, not_true_eq_false, not_false_eq_true, and_true, true_and, Int32.reduceToInt, Int64.reduceToInt, Int32.reduceAdd, fa_lt, fa_le, fa_eq, cmi_lt, cmi_le, cmi_gt, cmi_ge, cmi_eq, fa_lt64, fa_le64, fa_eq64, Int32.toInt_toInt64, nI_toInt, ti_m1, sub1_ti, inB_iff, nI_clamp, Int32.add_zero, nI_1, nI_add, nI_p2, nI_p3, nI_p4, nI_p5, nI_p6, nI_p8, nI_p9, nI_p10, nI_m3, nI_m4, nI_m5, nI_m6, nI_m8, nI_m10, nI_m31, nI_m48, nI_m60, nI_m256, nI_t5, nI_t6, nI_a1, nI_a48, nI_a96, nI_d5, nI_d6, nI_d8, nI_d10, nI_d20, nI_s1, nI_s48, pk_sub]
        repeat (first | (with_reducible refine pk1 ?_ ?_; omega) | (with_reducible refine pk2 ?_ ?_; omega) | (with_reducible refine bd1 ?_ ?_; omega))
        refine up_to (n := nS t) (G := fun i => Wq none 3 178 25 [(0, .ref 176), (1, .int (lpz t q (0, fun s => di 189 s) 9).1), (2, .int (nI 0)), (3, .int (nI i))] [] d dl (RV K)) ?_ ?_ (Nat.zero_le _)
        · refine r_178_25 ?_
          simp (disch := omega) only [true_imp_iff, false_imp_iff, not_true_eq_false, not_false_eq_true, and_true, true_and, Int32.reduceToInt, Int64.reduceToInt, Int32.reduceAdd, fa_lt, fa_le, fa_eq, cmi_lt, cmi_le, cmi_gt, cmi_ge, cmi_eq, fa_lt64, fa_le64, fa_eq64, Int32.toInt_toInt64, nI_toInt, ti_m1, sub1_ti, inB_iff, nI_clamp, Int32.add_zero, nI_1, nI_add, nI_p2, nI_p3, nI_p4, nI_p5, nI_p6, nI_p8, nI_p9, nI_p10, nI_m3, nI_m4, nI_m5, nI_m6, nI_m8, nI_m10, nI_m31, nI_m48, nI_m60, nI_m256, nI_t5, nI_t6, nI_a1, nI_a48, nI_a96, nI_d5, nI_d6, nI_d8, nI_d10, nI_d20, nI_s1, nI_s48, pk_sub, C1 d fr]
          repeat (first | (with_reducible refine pk1 ?_ ?_; omega) | (with_reducible refine pk2 ?_ ?_; omega) | (with_reducible refine bd1 ?_ ?_; omega))
          refine r_178_19 (pk1 (by decide) ?_)
          exact kk d (fun s hs => by rw [hx s]; exact T2 s hs) fr
        · intro i hi ic
          obtain ⟨v1, v2, v3, v4, v5⟩ := hw.2.1 i hi
          refine r_178_25 ?_
          simp (disch := omega) only [true_imp_iff, false_imp_iff, not_true_eq_false, not_false_eq_true, and_true, true_and, Int32.reduceToInt, Int64.reduceToInt, Int32.reduceAdd, fa_lt, fa_le, fa_eq, cmi_lt, cmi_le, cmi_gt, cmi_ge, cmi_eq, fa_lt64, fa_le64, fa_eq64, Int32.toInt_toInt64, nI_toInt, ti_m1, sub1_ti, inB_iff, nI_clamp, Int32.add_zero, nI_1, nI_add, nI_p2, nI_p3, nI_p4, nI_p5, nI_p6, nI_p8, nI_p9, nI_p10, nI_m3, nI_m4, nI_m5, nI_m6, nI_m8, nI_m10, nI_m31, nI_m48, nI_m60, nI_m256, nI_t5, nI_t6, nI_a1, nI_a48, nI_a96, nI_d5, nI_d6, nI_d8, nI_d10, nI_d20, nI_s1, nI_s48, pk_sub, C1 d fr, C5 d fr, C6 d fr]
          repeat (first | (with_reducible refine pk1 ?_ ?_; omega) | (with_reducible refine pk2 ?_ ?_; omega) | (with_reducible refine bd1 ?_ ?_; omega))
          exact ic
      | succ m ih =>
        intro j hj d hx fr
        refine r_178_19 ?_
        simp (disch := omega) only [true_imp_iff, false_imp_iff, not_true_eq_false, not_false_eq_true, and_true, true_and, Int32.reduceToInt, Int64.reduceToInt, Int32.reduceAdd, fa_lt, fa_le, fa_eq, cmi_lt, cmi_le, cmi_gt, cmi_ge, cmi_eq, fa_lt64, fa_le64, fa_eq64, Int32.toInt_toInt64, nI_toInt, ti_m1, sub1_ti, inB_iff, nI_clamp, Int32.add_zero, nI_1, nI_add, nI_p2, nI_p3, nI_p4, nI_p5, nI_p6, nI_p8, nI_p9, nI_p10, nI_m3, nI_m4, nI_m5, nI_m6, nI_m8, nI_m10, nI_m31, nI_m48, nI_m60, nI_m256, nI_t5, nI_t6, nI_a1, nI_a48, nI_a96, nI_d5, nI_d6, nI_d8, nI_d10, nI_d20, nI_s1, nI_s48, pk_sub]
        repeat (first | (with_reducible refine pk1 ?_ ?_; omega) | (with_reducible refine pk2 ?_ ?_; omega) | (with_reducible refine bd1 ?_ ?_; omega))
        refine up_to (n := nS t) (G := fun i => ∀ d, (∀ s, d 189 s = (lpq t q (9 - j) (lpz t q (0, fun s => di 189 s) j) i).2 s) → FF1 189 di d → Wq none 3 178 25 [(0, .ref 176), (1, .int (lpq t q (9 - j) (lpz t q (0, fun s => di 189 s) j) i).1), (2, .int (nI (m + 1))), (3, .int (nI i))] [] d dl (RV K)) ?_ ?_ (Nat.zero_le _) d hx fr
        · intro d hx fr
          refine r_178_25 ?_
          simp (disch := omega) only [true_imp_iff, false_imp_iff, not_true_eq_false, not_false_eq_true, and_true, true_and, Int32.reduceToInt, Int64.reduceToInt, Int32.reduceAdd, fa_lt, fa_le, fa_eq, cmi_lt, cmi_le, cmi_gt, cmi_ge, cmi_eq, fa_lt64, fa_le64, fa_eq64, Int32.toInt_toInt64, nI_toInt, ti_m1, sub1_ti, inB_iff, nI_clamp, Int32.add_zero, nI_1, nI_add, nI_p2, nI_p3, nI_p4, nI_p5, nI_p6, nI_p8, nI_p9, nI_p10, nI_m3, nI_m4, nI_m5, nI_m6, nI_m8, nI_m10, nI_m31, nI_m48, nI_m60, nI_m256, nI_t5, nI_t6, nI_a1, nI_a48, nI_a96, nI_d5, nI_d6, nI_d8, nI_d10, nI_d20, nI_s1, nI_s48, pk_sub, C1 d fr, pk_m1]
          repeat (first | (with_reducible refine pk1 ?_ ?_; omega) | (with_reducible refine pk2 ?_ ?_; omega) | (with_reducible refine bd1 ?_ ?_; omega))
          exact ih (j + 1) (by omega) d hx fr
        · intro i hi ic d hx fr
          obtain ⟨v1, v2, v3, v4, v5⟩ := hw.2.1 i hi
          refine r_178_25 ?_
          simp (disch := omega) only [true_imp_iff, false_imp_iff, not_true_eq_false, not_false_eq_true, and_true, true_and, Int32.reduceToInt, Int64.reduceToInt, Int32.reduceAdd, fa_lt, fa_le, fa_eq, cmi_lt, cmi_le, cmi_gt, cmi_ge, cmi_eq, fa_lt64, fa_le64, fa_eq64, Int32.toInt_toInt64, nI_toInt, ti_m1, sub1_ti, inB_iff, nI_clamp, Int32.add_zero, nI_1, nI_add, nI_p2, nI_p3, nI_p4, nI_p5, nI_p6, nI_p8, nI_p9, nI_p10, nI_m3, nI_m4, nI_m5, nI_m6, nI_m8, nI_m10, nI_m31, nI_m48, nI_m60, nI_m256, nI_t5, nI_t6, nI_a1, nI_a48, nI_a96, nI_d5, nI_d6, nI_d8, nI_d10, nI_d20, nI_s1, nI_s48, pk_sub, C1 d fr, C5 d fr, C6 d fr]
          repeat (first | (with_reducible refine pk1 ?_ ?_; omega) | (with_reducible refine pk2 ?_ ?_; omega) | (with_reducible refine bd1 ?_ ?_; omega))
          by_cases e2 : sv t i 0 = 9 - j
          · repeat (first | (with_reducible refine pk1 ?_ ?_; omega) | (with_reducible refine pk2 ?_ ?_; omega) | (with_reducible refine bd1 ?_ ?_; omega))
            unfold lpq at ic
            rw [if_pos e2] at ic
            refine D _ d i hi hx fr ?_
            intro d' hx' fr'
            exact ic d' hx' fr'
          · repeat (first | (with_reducible refine pk1 ?_ ?_; omega) | (with_reducible refine pk2 ?_ ?_; omega) | (with_reducible refine bd1 ?_ ?_; omega))
            unfold lpq at ic
            rw [if_neg e2] at ic
            exact ic d hx fr
    exact L 9 0 (by omega) di (fun _ => rfl) (fun _ _ _ => rfl)
/-- lives: clothes and who wears them, behind n months -/
def FL (di d : tDi) : Prop := ∀ a k, ¬ a = 188 → ¬ a = 189 → d a k = di a k
def N9 (t : tTown) (q : tClo) (d : tDi) : Prop := ∀ s, s < nS t → d 189 s = worn t q s
theorem c_179 {t : tTown} {di : tDi} {dl : tDl} (hw : Wt t) (hr : Rs t di) {n : Nat} (hn : n ≤ nM t) {K : tDi → tDl → Prop} (kk : ∀ d, N8 t (qs t (mo t) n) d → N9 t (qs t (mo t) n) d → FL di d → K d dl) : ClV 4 179 [.ref 176, .int (nI n)] di dl K := by
  have w3 := hw.1.2.2.1
  refine r_179 (c_172 hw hr ?_)
  intro d h fr
  refine up_to (n := n) (G := fun i => ∀ d, N8 t (qs t (mo t) i) d → FF1 188 di d → Wq none 4 179 6 [(0, .ref 176), (1, .int (nI n)), (2, .int (nI i))] [] d dl (RV K)) ?_ ?_ (Nat.zero_le _) d h fr
  · intro d h fr
    refine r_179_6 ?_
    simp (disch := omega) only [true_imp_iff, false_imp_iff, not_true_eq_false, not_false_eq_true, and_true, true_and, Int32.reduceToInt, Int64.reduceToInt, Int32.reduceAdd, fa_lt, fa_le, fa_eq, cmi_lt, cmi_le, cmi_gt, cmi_ge, cmi_eq, fa_lt64, fa_le64, fa_eq64, Int32.toInt_toInt64, nI_toInt, ti_m1, sub1_ti, inB_iff, nI_clamp, Int32.add_zero, nI_1, nI_add, nI_p2, nI_p3, nI_p4, nI_p5, nI_p6, nI_p8, nI_p9, nI_p10, nI_m3, nI_m4, nI_m5, nI_m6, nI_m8, nI_m10, nI_m31, nI_m48, nI_m60, nI_m256, nI_t5, nI_t6, nI_a1, nI_a48, nI_a96, nI_d5, nI_d6, nI_d8, nI_d10, nI_d20, nI_s1, nI_s48, pk_sub]
    repeat (first | (with_reducible refine pk1 ?_ ?_; omega) | (with_reducible refine pk2 ?_ ?_; omega) | (with_reducible refine bd1 ?_ ?_; omega))
    refine c_178 hw (Rs_1 (by omega) fr hr) (Bq_s hw (mo t) n) h ?_
    intro g h9 gr
    refine kk g ?_ h9 (fun a k z1 z2 => by rw [gr _ _ z2]; exact fr a k z1)
    intro k hk
    rw [gr _ _ (by omega), gr _ _ (by omega), gr _ _ (by omega)]
    exact h k hk
  · intro i hi ih d h fr
    have hr0 := Rs_1 (by omega) fr hr
    have c8 := hr0.2.2.2.2.2.2.2 i (by omega)
    refine r_179_6 ?_
    simp (disch := omega) only [true_imp_iff, false_imp_iff, not_true_eq_false, not_false_eq_true, and_true, true_and, Int32.reduceToInt, Int64.reduceToInt, Int32.reduceAdd, fa_lt, fa_le, fa_eq, cmi_lt, cmi_le, cmi_gt, cmi_ge, cmi_eq, fa_lt64, fa_le64, fa_eq64, Int32.toInt_toInt64, nI_toInt, ti_m1, sub1_ti, inB_iff, nI_clamp, Int32.add_zero, nI_1, nI_add, nI_p2, nI_p3, nI_p4, nI_p5, nI_p6, nI_p8, nI_p9, nI_p10, nI_m3, nI_m4, nI_m5, nI_m6, nI_m8, nI_m10, nI_m31, nI_m48, nI_m60, nI_m256, nI_t5, nI_t6, nI_a1, nI_a48, nI_a96, nI_d5, nI_d6, nI_d8, nI_d10, nI_d20, nI_s1, nI_s48, pk_sub, c8]
    repeat (first | (with_reducible refine pk1 ?_ ?_; omega) | (with_reducible refine pk2 ?_ ?_; omega) | (with_reducible refine bd1 ?_ ?_; omega))
    refine c_175 hw hr0 (Bq_s hw (mo t) i) h (hw.2.2.2 i (by omega)) ?_
    intro g h' gr
    exact ih g h' (fun a k z => by rw [gr _ _ z]; exact fr a k z)
