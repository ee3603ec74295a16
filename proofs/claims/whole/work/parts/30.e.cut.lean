/-! texts cut: wipe, undo; fault -/
theorem imx {l n : Nat} (h : l ≤ n) (hn : n < 2 ^ 31) : imax 0 (imin (nI l) (nI n)) = nI l := by
  unfold imin
  rw [if_neg (Int32.not_lt.mpr (nI_le h hn))]
  unfold imax
  by_cases e : l = 0
  · subst e
    rfl
  · exact if_pos (nI_lt (a := 0) (b := l) (by omega) (by omega))
theorem c_55S {di : tDi} {dl : tDl} {n l : Nat} {f : Nat → Nat} (hn : n ≤ 39) (hl : l ≤ n) (x2 : di 1 2 = nI n) (hb : ∀ i, i < n → f i ≤ 255 ∧ di 2 i = nI (f i)) {K : tDi → tDl → Prop} (kk : ∀ d x r m, FF (oS f) l x → ftS l x r m → d 1 3 = r → d 1 4 = nI m → d 1 2 = nI l → (∀ b k, ¬ (b = 1 ∧ (k = 2 ∨ k = 3 ∨ k = 4)) → d b k = di b k) → K d dl) : ClV 4 55 [.ref 1, .int (nI l)] di dl K := by
  refine r_55t1 ?_
  rw [x2, imx hl (by omega)]
  refine c_58S (n := l) (f := f) (by omega) (by simp (disch := omega) only [up_eq, up_na, up_nk]) ?_ ?_
  · intro i hi
    simp (disch := omega) only [up_eq, up_na, up_nk]
    exact hb i (by omega)
  · intro d x r m hF hf d3 d4 fr
    refine kk d x r m hF hf d3 d4 (by rw [fr _ _ (by omega)]; simp (disch := omega) only [up_eq, up_na, up_nk]) ?_
    intro b k h
    rw [fr _ _ (by omega)]
    unfold up2
    rw [if_neg (by omega)]
/-- text 0 cut to l in both worlds -/
theorem cut0 {di d : tDi} (H : Itx di) {n l x m : Nat} {r : Int32} {f : Nat → Nat} (hl : l ≤ n) (X : Xt di 0 39 n f) (hF : FF (oS f) l x) (hf : ftS l x r m) (d3 : d 1 3 = r) (d4 : d 1 4 = nI m) (d2 : d 1 2 = nI l) (fr : ∀ b k, ¬ (b = 1 ∧ (k = 2 ∨ k = 3 ∨ k = 4)) → d b k = di b k) : Itx (up2 (up2 d 8 10 1) 182 0 (nI l)) ∧ Ft di (up2 (up2 d 8 10 1) 182 0 (nI l)) := by
  obtain ⟨hn, x1, x2, x3, x4⟩ := X
  have Q : ∀ y k, ¬ (y = 1 ∨ y = 2) ∧ y ≤ 6 → up2 (up2 d 8 10 1) 182 0 (nI l) y k = di y k := by
    intro y k hy
    simp (disch := omega) only [up_eq, up_na, up_nk]
    rw [fr _ _ (by omega)]
  have Q1 : ∀ k, up2 (up2 d 8 10 1) 182 0 (nI l) 181 k = di 181 k := by
    intro k
    simp (disch := omega) only [up_eq, up_na, up_nk]
    rw [fr _ _ (by omega)]
  have Q2 : ∀ k, ¬ k = 0 → up2 (up2 d 8 10 1) 182 0 (nI l) 182 k = di 182 k := by
    intro k hk
    simp (disch := omega) only [up_eq, up_na, up_nk]
    rw [fr _ _ (by omega)]
  refine ⟨⟨?_, ITC_cong (fun k => Q _ k (by omega)) (fun k => Q _ k (by omega)) (Q2 _ (by omega)) (fun i hi => Q1 _) H.2.1, ITM_cong (fun k => Q _ k (by omega)) (fun k => Q _ k (by omega)) (Q2 _ (by omega)) (fun i hi => Q1 _) H.2.2⟩, ?_⟩
  · refine mkS (d := d) (g := f) (n := l) (by omega) (by rw [fr _ _ (by omega)]; exact x1) d2 ?_ hF hf d3 d4 (fun y k hy => by simp (disch := omega) only [up_eq, up_na, up_nk]) (by simp (disch := omega) only [up_eq, up_na, up_nk]) ?_
    · intro i hi
      refine ⟨(x4 i (by omega)).1, ?_⟩
      rw [fr _ _ (by omega)]
      exact (x4 i (by omega)).2.1
    · intro i hi
      rw [Q1]
      exact (x4 i (by omega)).2.2
  · intro y k z1 z2 z3 z4
    unfold up2
    rw [if_neg (by omega), if_neg (by omega), fr _ _ (by omega)]
theorem p_wipe0 {di : tDi} {dl : tDl} (H : Itx di) : ClI 5 92 [.ref 0, .int (nI 0)] di dl (fun r di1 dl1 => ClI 2 153 [.ref 176, .int (nI 0)] di1 dl1 (fun r' di2 dl2 => Pt di dl r r' di2 dl2)) := by
  obtain ⟨n, f, X, _⟩ := H.1
  have X' := X
  obtain ⟨hn, x1, x2, x3, x4⟩ := X
  have x2' : di 1 2 = nI n := x2
  refine r_92 ?_
  simp (disch := omega) only [true_imp_iff, false_imp_iff, not_true_eq_false, not_false_eq_true, and_true, true_and, Int32.reduceToInt, Int64.reduceToInt, Int32.reduceAdd, fa_lt, fa_le, fa_eq, cmi_lt, cmi_le, cmi_gt, cmi_ge, cmi_eq, fa_lt64, fa_le64, fa_eq64, Int32.toInt_toInt64, nI_toInt, ti_m1, sub1_ti, inB_iff, nI_clamp, Int32.add_zero, nI_1, nI_add, nI_p2, nI_p3, nI_p4, nI_p5, nI_p6, nI_p8, nI_p9, nI_p10, nI_m3, nI_m4, nI_m5, nI_m6, nI_m8, nI_m10, nI_m31, nI_m48, nI_m60, nI_m256, nI_t5, nI_t6, nI_a1, nI_a48, nI_a96, nI_d5, nI_d6, nI_d8, nI_d10, nI_d20, nI_s1, nI_s48, pk_sub]
  repeat (first | (with_reducible refine pk1 ?_ ?_; omega) | (with_reducible refine pk2 ?_ ?_; omega) | (with_reducible refine bd1 ?_ ?_; omega))
  refine pk3 (by omega) ?_
  refine c_55S (l := 0) hn (by omega) x2' (fun i hi => ⟨(x4 i hi).1, (x4 i hi).2.1⟩) ?_
  intro d x r m hF hf d3 d4 d2 fr
  have e3 : d 182 0 = nI n := by rw [fr _ _ (by omega)]; exact x3
  obtain ⟨c1, c2⟩ := cut0 H (Nat.zero_le n) X' hF hf d3 d4 d2 fr
  refine r_153 ?_
  simp (disch := omega) only [true_imp_iff, false_imp_iff, not_true_eq_false, not_false_eq_true, and_true, true_and, Int32.reduceToInt, Int64.reduceToInt, Int32.reduceAdd, fa_lt, fa_le, fa_eq, cmi_lt, cmi_le, cmi_gt, cmi_ge, cmi_eq, fa_lt64, fa_le64, fa_eq64, Int32.toInt_toInt64, nI_toInt, ti_m1, sub1_ti, inB_iff, nI_clamp, Int32.add_zero, nI_1, nI_add, nI_p2, nI_p3, nI_p4, nI_p5, nI_p6, nI_p8, nI_p9, nI_p10, nI_m3, nI_m4, nI_m5, nI_m6, nI_m8, nI_m10, nI_m31, nI_m48, nI_m60, nI_m256, nI_t5, nI_t6, nI_a1, nI_a48, nI_a96, nI_d5, nI_d6, nI_d8, nI_d10, nI_d20, nI_s1, nI_s48, pk_sub, up_eq, up_na, up_nk, e3]
  repeat (first | (with_reducible refine pk1 ?_ ?_; omega) | (with_reducible refine pk2 ?_ ?_; omega) | (with_reducible refine bd1 ?_ ?_; omega))
  exact ⟨x2', rfl, Or.inr ⟨c1, by simp (disch := omega) only [up_eq, up_na, up_nk], c2⟩⟩
theorem p_undo0 {di : tDi} {dl : tDl} (H : Itx di) : ClI 5 93 [.ref 0, .int (nI 0)] di dl (fun r di1 dl1 => ClI 2 154 [.ref 176, .int (nI 0)] di1 dl1 (fun r' di2 dl2 => Pt di dl r r' di2 dl2)) := by
  obtain ⟨n, f, X, _⟩ := H.1
  have X' := X
  obtain ⟨hn, x1, x2, x3, x4⟩ := X
  have x2' : di 1 2 = nI n := x2
  by_cases hz : n = 0
  · subst hz
    refine r_93 ?_
    simp (disch := omega) only [true_imp_iff, false_imp_iff, not_true_eq_false, not_false_eq_true, and_true, true_and, Int32.reduceToInt, Int64.reduceToInt, Int32.reduceAdd, fa_lt, fa_le, fa_eq, cmi_lt, cmi_le, cmi_gt, cmi_ge, cmi_eq, fa_lt64, fa_le64, fa_eq64, Int32.toInt_toInt64, nI_toInt, ti_m1, sub1_ti, inB_iff, nI_clamp, Int32.add_zero, nI_1, nI_add, nI_p2, nI_p3, nI_p4, nI_p5, nI_p6, nI_p8, nI_p9, nI_p10, nI_m3, nI_m4, nI_m5, nI_m6, nI_m8, nI_m10, nI_m31, nI_m48, nI_m60, nI_m256, nI_t5, nI_t6, nI_a1, nI_a48, nI_a96, nI_d5, nI_d6, nI_d8, nI_d10, nI_d20, nI_s1, nI_s48, pk_sub, x2']
    repeat (first | (with_reducible refine pk1 ?_ ?_; omega) | (with_reducible refine pk2 ?_ ?_; omega) | (with_reducible refine bd1 ?_ ?_; omega))
    refine pk3 (by omega) ?_
    repeat (first | (with_reducible refine pk1 ?_ ?_; omega) | (with_reducible refine pk2 ?_ ?_; omega) | (with_reducible refine bd1 ?_ ?_; omega))
    refine r_154 ?_
    simp (disch := omega) only [true_imp_iff, false_imp_iff, not_true_eq_false, not_false_eq_true, and_true, true_and, Int32.reduceToInt, Int64.reduceToInt, Int32.reduceAdd, fa_lt, fa_le, fa_eq, cmi_lt, cmi_le, cmi_gt, cmi_ge, cmi_eq, fa_lt64, fa_le64, fa_eq64, Int32.toInt_toInt64, nI_toInt, ti_m1, sub1_ti, inB_iff, nI_clamp, Int32.add_zero, nI_1, nI_add, nI_p2, nI_p3, nI_p4, nI_p5, nI_p6, nI_p8, nI_p9, nI_p10, nI_m3, nI_m4, nI_m5, nI_m6, nI_m8, nI_m10, nI_m31, nI_m48, nI_m60, nI_m256, nI_t5, nI_t6, nI_a1, nI_a48, nI_a96, nI_d5, nI_d6, nI_d8, nI_d10, nI_d20, nI_s1, nI_s48, pk_sub, x3]
    repeat (first | (with_reducible refine pk1 ?_ ?_; omega) | (with_reducible refine pk2 ?_ ?_; omega) | (with_reducible refine bd1 ?_ ?_; omega))
    exact ⟨rfl, rfl, Or.inl rfl⟩
  refine r_93 ?_
  simp (disch := omega) only [true_imp_iff, false_imp_iff, not_true_eq_false, not_false_eq_true, and_true, true_and, Int32.reduceToInt, Int64.reduceToInt, Int32.reduceAdd, fa_lt, fa_le, fa_eq, cmi_lt, cmi_le, cmi_gt, cmi_ge, cmi_eq, fa_lt64, fa_le64, fa_eq64, Int32.toInt_toInt64, nI_toInt, ti_m1, sub1_ti, inB_iff, nI_clamp, Int32.add_zero, nI_1, nI_add, nI_p2, nI_p3, nI_p4, nI_p5, nI_p6, nI_p8, nI_p9, nI_p10, nI_m3, nI_m4, nI_m5, nI_m6, nI_m8, nI_m10, nI_m31, nI_m48, nI_m60, nI_m256, nI_t5, nI_t6, nI_a1, nI_a48, nI_a96, nI_d5, nI_d6, nI_d8, nI_d10, nI_d20, nI_s1, nI_s48, pk_sub, x2']
  repeat (first | (with_reducible refine pk1 ?_ ?_; omega) | (with_reducible refine pk2 ?_ ?_; omega) | (with_reducible refine bd1 ?_ ?_; omega))
  refine pk3 (by omega) ?_
  repeat (first | (with_reducible refine pk1 ?_ ?_; omega) | (with_reducible refine pk2 ?_ ?_; omega) | (with_reducible refine bd1 ?_ ?_; omega))
  refine c_55S (l := n - 1) hn (by omega) x2' (fun i hi => ⟨(x4 i hi).1, (x4 i hi).2.1⟩) ?_
  intro d x r m hF hf d3 d4 d2 fr
  have e3 : d 182 0 = nI n := by rw [fr _ _ (by omega)]; exact x3
  obtain ⟨c1, c2⟩ := cut0 H (by omega) X' hF hf d3 d4 d2 fr
  refine r_154 ?_
  simp (disch := omega) only [true_imp_iff, false_imp_iff, not_true_eq_false, not_false_eq_true, and_true, true_and, Int32.reduceToInt, Int64.reduceToInt, Int32.reduceAdd, fa_lt, fa_le, fa_eq, cmi_lt, cmi_le, cmi_gt, cmi_ge, cmi_eq, fa_lt64, fa_le64, fa_eq64, Int32.toInt_toInt64, nI_toInt, ti_m1, sub1_ti, inB_iff, nI_clamp, Int32.add_zero, nI_1, nI_add, nI_p2, nI_p3, nI_p4, nI_p5, nI_p6, nI_p8, nI_p9, nI_p10, nI_m3, nI_m4, nI_m5, nI_m6, nI_m8, nI_m10, nI_m31, nI_m48, nI_m60, nI_m256, nI_t5, nI_t6, nI_a1, nI_a48, nI_a96, nI_d5, nI_d6, nI_d8, nI_d10, nI_d20, nI_s1, nI_s48, pk_sub, up_eq, up_na, up_nk, e3]
  repeat (first | (with_reducible refine pk1 ?_ ?_; omega) | (with_reducible refine pk2 ?_ ?_; omega) | (with_reducible refine bd1 ?_ ?_; omega))
  exact ⟨d2, rfl, Or.inr ⟨c1, by simp (disch := omega) only [up_eq, up_na, up_nk], c2⟩⟩
theorem c_55C {di : tDi} {dl : tDl} {n l : Nat} {f : Nat → Nat} (hn : n ≤ 47) (hl : l ≤ n) (x2 : di 3 2 = nI n) (hb : ∀ i, i < n → f i ≤ 255 ∧ di 4 i = nI (f i)) {K : tDi → tDl → Prop} (kk : ∀ d x r m, FF (oC f) l x → ftC l x r m → d 3 3 = r → d 3 4 = nI m → d 3 2 = nI l → (∀ b k, ¬ (b = 3 ∧ (k = 2 ∨ k = 3 ∨ k = 4)) → d b k = di b k) → K d dl) : ClV 4 55 [.ref 3, .int (nI l)] di dl K := by
  refine r_55t3 ?_
  rw [x2, imx hl (by omega)]
  refine c_58C (n := l) (f := f) (by omega) (by simp (disch := omega) only [up_eq, up_na, up_nk]) ?_ ?_
  · intro i hi
    simp (disch := omega) only [up_eq, up_na, up_nk]
    exact hb i (by omega)
  · intro d x r m hF hf d3 d4 fr
    refine kk d x r m hF hf d3 d4 (by rw [fr _ _ (by omega)]; simp (disch := omega) only [up_eq, up_na, up_nk]) ?_
    intro b k h
    rw [fr _ _ (by omega)]
    unfold up2
    rw [if_neg (by omega)]
/-- text 1 cut to l in both worlds -/
theorem cut1 {di d : tDi} (H : Itx di) {n l x m : Nat} {r : Int32} {f : Nat → Nat} (hl : l ≤ n) (X : Xt di 1 47 n f) (hF : FF (oC f) l x) (hf : ftC l x r m) (d3 : d 3 3 = r) (d4 : d 3 4 = nI m) (d2 : d 3 2 = nI l) (fr : ∀ b k, ¬ (b = 3 ∧ (k = 2 ∨ k = 3 ∨ k = 4)) → d b k = di b k) : Itx (up2 (up2 d 8 10 1) 182 1 (nI l)) ∧ Ft di (up2 (up2 d 8 10 1) 182 1 (nI l)) := by
  obtain ⟨hn, x1, x2, x3, x4⟩ := X
  have Q : ∀ y k, ¬ (y = 3 ∨ y = 4) ∧ y ≤ 6 → up2 (up2 d 8 10 1) 182 1 (nI l) y k = di y k := by
    intro y k hy
    simp (disch := omega) only [up_eq, up_na, up_nk]
    rw [fr _ _ (by omega)]
  have Q1 : ∀ k, up2 (up2 d 8 10 1) 182 1 (nI l) 181 k = di 181 k := by
    intro k
    simp (disch := omega) only [up_eq, up_na, up_nk]
    rw [fr _ _ (by omega)]
  have Q2 : ∀ k, ¬ k = 1 → up2 (up2 d 8 10 1) 182 1 (nI l) 182 k = di 182 k := by
    intro k hk
    simp (disch := omega) only [up_eq, up_na, up_nk]
    rw [fr _ _ (by omega)]
  refine ⟨⟨ITS_cong (fun k => Q _ k (by omega)) (fun k => Q _ k (by omega)) (Q2 _ (by omega)) (fun i hi => Q1 _) H.1, ?_, ITM_cong (fun k => Q _ k (by omega)) (fun k => Q _ k (by omega)) (Q2 _ (by omega)) (fun i hi => Q1 _) H.2.2⟩, ?_⟩
  · refine mkC (d := d) (g := f) (n := l) (by omega) (by rw [fr _ _ (by omega)]; exact x1) d2 ?_ hF hf d3 d4 (fun y k hy => by simp (disch := omega) only [up_eq, up_na, up_nk]) (by simp (disch := omega) only [up_eq, up_na, up_nk]) ?_
    · intro i hi
      refine ⟨(x4 i (by omega)).1, ?_⟩
      rw [fr _ _ (by omega)]
      exact (x4 i (by omega)).2.1
    · intro i hi
      rw [Q1]
      exact (x4 i (by omega)).2.2
  · intro y k z1 z2 z3 z4
    unfold up2
    rw [if_neg (by omega), if_neg (by omega), fr _ _ (by omega)]
theorem p_wipe1 {di : tDi} {dl : tDl} (H : Itx di) : ClI 5 92 [.ref 0, .int (nI 1)] di dl (fun r di1 dl1 => ClI 2 153 [.ref 176, .int (nI 1)] di1 dl1 (fun r' di2 dl2 => Pt di dl r r' di2 dl2)) := by
  obtain ⟨n, f, X, _⟩ := H.2.1
  have X' := X
  obtain ⟨hn, x1, x2, x3, x4⟩ := X
  have x2' : di 3 2 = nI n := x2
  refine r_92 ?_
  simp (disch := omega) only [true_imp_iff, false_imp_iff, not_true_eq_false, not_false_eq_true, and_true, true_and, Int32.reduceToInt, Int64.reduceToInt, Int32.reduceAdd, fa_lt, fa_le, fa_eq, cmi_lt, cmi_le, cmi_gt, cmi_ge, cmi_eq, fa_lt64, fa_le64, fa_eq64, Int32.toInt_toInt64, nI_toInt, ti_m1, sub1_ti, inB_iff, nI_clamp, Int32.add_zero, nI_1, nI_add, nI_p2, nI_p3, nI_p4, nI_p5, nI_p6, nI_p8, nI_p9, nI_p10, nI_m3, nI_m4, nI_m5, nI_m6, nI_m8, nI_m10, nI_m31, nI_m48, nI_m60, nI_m256, nI_t5, nI_t6, nI_a1, nI_a48, nI_a96, nI_d5, nI_d6, nI_d8, nI_d10, nI_d20, nI_s1, nI_s48, pk_sub]
  repeat (first | (with_reducible refine pk1 ?_ ?_; omega) | (with_reducible refine pk2 ?_ ?_; omega) | (with_reducible refine bd1 ?_ ?_; omega))
  refine c_55C (l := 0) hn (by omega) x2' (fun i hi => ⟨(x4 i hi).1, (x4 i hi).2.1⟩) ?_
  intro d x r m hF hf d3 d4 d2 fr
  have e3 : d 182 1 = nI n := by rw [fr _ _ (by omega)]; exact x3
  obtain ⟨c1, c2⟩ := cut1 H (Nat.zero_le n) X' hF hf d3 d4 d2 fr
  refine r_153 ?_
  simp (disch := omega) only [true_imp_iff, false_imp_iff, not_true_eq_false, not_false_eq_true, and_true, true_and, Int32.reduceToInt, Int64.reduceToInt, Int32.reduceAdd, fa_lt, fa_le, fa_eq, cmi_lt, cmi_le, cmi_gt, cmi_ge, cmi_eq, fa_lt64, fa_le64, fa_eq64, Int32.toInt_toInt64, nI_toInt, ti_m1, sub1_ti, inB_iff, nI_clamp, Int32.add_zero, nI_1, nI_add, nI_p2, nI_p3, nI_p4, nI_p5, nI_p6, nI_p8, nI_p9, nI_p10, nI_m3, nI_m4, nI_m5, nI_m6, nI_m8, nI_m10, nI_m31, nI_m48, nI_m60, nI_m256, nI_t5, nI_t6, nI_a1, nI_a48, nI_a96, nI_d5, nI_d6, nI_d8, nI_d10, nI_d20, nI_s1, nI_s48, pk_sub, up_eq, up_na, up_nk, e3]
  repeat (first | (with_reducible refine pk1 ?_ ?_; omega) | (with_reducible refine pk2 ?_ ?_; omega) | (with_reducible refine bd1 ?_ ?_; omega))
  exact ⟨x2', rfl, Or.inr ⟨c1, by simp (disch := omega) only [up_eq, up_na, up_nk], c2⟩⟩
theorem p_undo1 {di : tDi} {dl : tDl} (H : Itx di) : ClI 5 93 [.ref 0, .int (nI 1)] di dl (fun r di1 dl1 => ClI 2 154 [.ref 176, .int (nI 1)] di1 dl1 (fun r' di2 dl2 => Pt di dl r r' di2 dl2)) := by
  obtain ⟨n, f, X, _⟩ := H.2.1
  have X' := X
  obtain ⟨hn, x1, x2, x3, x4⟩ := X
  have x2' : di 3 2 = nI n := x2
  by_cases hz : n = 0
  · subst hz
    refine r_93 ?_
    simp (disch := omega) only [true_imp_iff, false_imp_iff, not_true_eq_false, not_false_eq_true, and_true, true_and, Int32.reduceToInt, Int64.reduceToInt, Int32.reduceAdd, fa_lt, fa_le, fa_eq, cmi_lt, cmi_le, cmi_gt, cmi_ge, cmi_eq, fa_lt64, fa_le64, fa_eq64, Int32.toInt_toInt64, nI_toInt, ti_m1, sub1_ti, inB_iff, nI_clamp, Int32.add_zero, nI_1, nI_add, nI_p2, nI_p3, nI_p4, nI_p5, nI_p6, nI_p8, nI_p9, nI_p10, nI_m3, nI_m4, nI_m5, nI_m6, nI_m8, nI_m10, nI_m31, nI_m48, nI_m60, nI_m256, nI_t5, nI_t6, nI_a1, nI_a48, nI_a96, nI_d5, nI_d6, nI_d8, nI_d10, nI_d20, nI_s1, nI_s48, pk_sub, x2']
    repeat (first | (with_reducible refine pk1 ?_ ?_; omega) | (with_reducible refine pk2 ?_ ?_; omega) | (with_reducible refine bd1 ?_ ?_; omega))
    repeat (first | (with_reducible refine pk1 ?_ ?_; omega) | (with_reducible refine pk2 ?_ ?_; omega) | (with_reducible refine bd1 ?_ ?_; omega))
    refine r_154 ?_
    simp (disch := omega) only [true_imp_iff, false_imp_iff, not_true_eq_false, not_false_eq_true, and_true, true_and, Int32.reduceToInt, Int64.reduceToInt, Int32.reduceAdd, fa_lt, fa_le, fa_eq, cmi_lt, cmi_le, cmi_gt, cmi_ge, cmi_eq, fa_lt64, fa_le64, fa_eq64, Int32.toInt_toInt64, nI_toInt, ti_m1, sub1_ti, inB_iff, nI_clamp, Int32.add_zero, nI_1, nI_add, nI_p2, nI_p3, nI_p4, nI_p5, nI_p6, nI_p8, nI_p9, nI_p10, nI_m3, nI_m4, nI_m5, nI_m6, nI_m8, nI_m10, nI_m31, nI_m48, nI_m60, nI_m256, nI_t5, nI_t6, nI_a1, nI_a48, nI_a96, nI_d5, nI_d6, nI_d8, nI_d10, nI_d20, nI_s1, nI_s48, pk_sub, x3]
    repeat (first | (with_reducible refine pk1 ?_ ?_; omega) | (with_reducible refine pk2 ?_ ?_; omega) | (with_reducible refine bd1 ?_ ?_; omega))
    exact ⟨rfl, rfl, Or.inl rfl⟩
  refine r_93 ?_
  simp (disch := omega) only [true_imp_iff, false_imp_iff, not_true_eq_false, not_false_eq_true, and_true, true_and, Int32.reduceToInt, Int64.reduceToInt, Int32.reduceAdd, fa_lt, fa_le, fa_eq, cmi_lt, cmi_le, cmi_gt, cmi_ge, cmi_eq, fa_lt64, fa_le64, fa_eq64, Int32.toInt_toInt64, nI_toInt, ti_m1, sub1_ti, inB_iff, nI_clamp, Int32.add_zero, nI_1, nI_add, nI_p2, nI_p3, nI_p4, nI_p5, nI_p6, nI_p8, nI_p9, nI_p10, nI_m3, nI_m4, nI_m5, nI_m6, nI_m8, nI_m10, nI_m31, nI_m48, nI_m60, nI_m256, nI_t5, nI_t6, nI_a1, nI_a48, nI_a96, nI_d5, nI_d6, nI_d8, nI_d10, nI_d20, nI_s1, nI_s48, pk_sub, x2']
  repeat (first | (with_reducible refine pk1 ?_ ?_; omega) | (with_reducible refine pk2 ?_ ?_; omega) | (with_reducible refine bd1 ?_ ?_; omega))
  repeat (first | (with_reducible refine pk1 ?_ ?_; omega) | (with_reducible refine pk2 ?_ ?_; omega) | (with_reducible refine bd1 ?_ ?_; omega))
  refine c_55C (l := n - 1) hn (by omega) x2' (fun i hi => ⟨(x4 i hi).1, (x4 i hi).2.1⟩) ?_
  intro d x r m hF hf d3 d4 d2 fr
  have e3 : d 182 1 = nI n := by rw [fr _ _ (by omega)]; exact x3
  obtain ⟨c1, c2⟩ := cut1 H (by omega) X' hF hf d3 d4 d2 fr
  refine r_154 ?_
  simp (disch := omega) only [true_imp_iff, false_imp_iff, not_true_eq_false, not_false_eq_true, and_true, true_and, Int32.reduceToInt, Int64.reduceToInt, Int32.reduceAdd, fa_lt, fa_le, fa_eq, cmi_lt, cmi_le, cmi_gt, cmi_ge, cmi_eq, fa_lt64, fa_le64, fa_eq64, Int32.toInt_toInt64, nI_toInt, ti_m1, sub1_ti, inB_iff, nI_clamp, Int32.add_zero, nI_1, nI_add, nI_p2, nI_p3, nI_p4, nI_p5, nI_p6, nI_p8, nI_p9, nI_p10, nI_m3, nI_m4, nI_m5, nI_m6, nI_m8, nI_m10, nI_m31, nI_m48, nI_m60, nI_m256, nI_t5, nI_t6, nI_a1, nI_a48, nI_a96, nI_d5, nI_d6, nI_d8, nI_d10, nI_d20, nI_s1, nI_s48, pk_sub, up_eq, up_na, up_nk, e3]
  repeat (first | (with_reducible refine pk1 ?_ ?_; omega) | (with_reducible refine pk2 ?_ ?_; omega) | (with_reducible refine bd1 ?_ ?_; omega))
  exact ⟨d2, rfl, Or.inr ⟨c1, by simp (disch := omega) only [up_eq, up_na, up_nk], c2⟩⟩
theorem c_55M {di : tDi} {dl : tDl} {n l : Nat} {f : Nat → Nat} (hn : n ≤ 24) (hl : l ≤ n) (x2 : di 5 2 = nI n) (hb : ∀ i, i < n → f i ≤ 255 ∧ di 6 i = nI (f i)) {K : tDi → tDl → Prop} (kk : ∀ d x r m, FF (oM f) l x → ftM l x r m → d 5 3 = r → d 5 4 = nI m → d 5 2 = nI l → (∀ b k, ¬ (b = 5 ∧ (k = 2 ∨ k = 3 ∨ k = 4)) → d b k = di b k) → K d dl) : ClV 4 55 [.ref 5, .int (nI l)] di dl K := by
  refine r_55t5 ?_
  rw [x2, imx hl (by omega)]
  refine c_58M (n := l) (f := f) (by omega) (by simp (disch := omega) only [up_eq, up_na, up_nk]) ?_ ?_
  · intro i hi
    simp (disch := omega) only [up_eq, up_na, up_nk]
    exact hb i (by omega)
  · intro d x r m hF hf d3 d4 fr
    refine kk d x r m hF hf d3 d4 (by rw [fr _ _ (by omega)]; simp (disch := omega) only [up_eq, up_na, up_nk]) ?_
    intro b k h
    rw [fr _ _ (by omega)]
    unfold up2
    rw [if_neg (by omega)]
/-- text 2 cut to l in both worlds -/
theorem cut2 {di d : tDi} (H : Itx di) {n l x m : Nat} {r : Int32} {f : Nat → Nat} (hl : l ≤ n) (X : Xt di 2 24 n f) (hF : FF (oM f) l x) (hf : ftM l x r m) (d3 : d 5 3 = r) (d4 : d 5 4 = nI m) (d2 : d 5 2 = nI l) (fr : ∀ b k, ¬ (b = 5 ∧ (k = 2 ∨ k = 3 ∨ k = 4)) → d b k = di b k) : Itx (up2 (up2 d 8 10 1) 182 2 (nI l)) ∧ Ft di (up2 (up2 d 8 10 1) 182 2 (nI l)) := by
  obtain ⟨hn, x1, x2, x3, x4⟩ := X
  have Q : ∀ y k, ¬ (y = 5 ∨ y = 6) ∧ y ≤ 6 → up2 (up2 d 8 10 1) 182 2 (nI l) y k = di y k := by
    intro y k hy
    simp (disch := omega) only [up_eq, up_na, up_nk]
    rw [fr _ _ (by omega)]
  have Q1 : ∀ k, up2 (up2 d 8 10 1) 182 2 (nI l) 181 k = di 181 k := by
    intro k
    simp (disch := omega) only [up_eq, up_na, up_nk]
    rw [fr _ _ (by omega)]
  have Q2 : ∀ k, ¬ k = 2 → up2 (up2 d 8 10 1) 182 2 (nI l) 182 k = di 182 k := by
    intro k hk
    simp (disch := omega) only [up_eq, up_na, up_nk]
    rw [fr _ _ (by omega)]
  refine ⟨⟨ITS_cong (fun k => Q _ k (by omega)) (fun k => Q _ k (by omega)) (Q2 _ (by omega)) (fun i hi => Q1 _) H.1, ITC_cong (fun k => Q _ k (by omega)) (fun k => Q _ k (by omega)) (Q2 _ (by omega)) (fun i hi => Q1 _) H.2.1, ?_⟩, ?_⟩
  · refine mkM (d := d) (g := f) (n := l) (by omega) (by rw [fr _ _ (by omega)]; exact x1) d2 ?_ hF hf d3 d4 (fun y k hy => by simp (disch := omega) only [up_eq, up_na, up_nk]) (by simp (disch := omega) only [up_eq, up_na, up_nk]) ?_
    · intro i hi
      refine ⟨(x4 i (by omega)).1, ?_⟩
      rw [fr _ _ (by omega)]
      exact (x4 i (by omega)).2.1
    · intro i hi
      rw [Q1]
      exact (x4 i (by omega)).2.2
  · intro y k z1 z2 z3 z4
    unfold up2
    rw [if_neg (by omega), if_neg (by omega), fr _ _ (by omega)]
theorem p_wipe2 {di : tDi} {dl : tDl} (H : Itx di) : ClI 5 92 [.ref 0, .int (nI 2)] di dl (fun r di1 dl1 => ClI 2 153 [.ref 176, .int (nI 2)] di1 dl1 (fun r' di2 dl2 => Pt di dl r r' di2 dl2)) := by
  obtain ⟨n, f, X, _⟩ := H.2.2
  have X' := X
  obtain ⟨hn, x1, x2, x3, x4⟩ := X
  have x2' : di 5 2 = nI n := x2
  refine r_92 ?_
  simp (disch := omega) only [true_imp_iff, false_imp_iff, not_true_eq_false, not_false_eq_true, and_true, true_and, Int32.reduceToInt, Int64.reduceToInt, Int32.reduceAdd, fa_lt, fa_le, fa_eq, cmi_lt, cmi_le, cmi_gt, cmi_ge, cmi_eq, fa_lt64, fa_le64, fa_eq64, Int32.toInt_toInt64, nI_toInt, ti_m1, sub1_ti, inB_iff, nI_clamp, Int32.add_zero, nI_1, nI_add, nI_p2, nI_p3, nI_p4, nI_p5, nI_p6, nI_p8, nI_p9, nI_p10, nI_m3, nI_m4, nI_m5, nI_m6, nI_m8, nI_m10, nI_m31, nI_m48, nI_m60, nI_m256, nI_t5, nI_t6, nI_a1, nI_a48, nI_a96, nI_d5, nI_d6, nI_d8, nI_d10, nI_d20, nI_s1, nI_s48, pk_sub]
  repeat (first | (with_reducible refine pk1 ?_ ?_; omega) | (with_reducible refine pk2 ?_ ?_; omega) | (with_reducible refine bd1 ?_ ?_; omega))
  refine c_55M (l := 0) hn (by omega) x2' (fun i hi => ⟨(x4 i hi).1, (x4 i hi).2.1⟩) ?_
  intro d x r m hF hf d3 d4 d2 fr
  have e3 : d 182 2 = nI n := by rw [fr _ _ (by omega)]; exact x3
  obtain ⟨c1, c2⟩ := cut2 H (Nat.zero_le n) X' hF hf d3 d4 d2 fr
  refine r_153 ?_
  simp (disch := omega) only [true_imp_iff, false_imp_iff, not_true_eq_false, not_false_eq_true, and_true, true_and, Int32.reduceToInt, Int64.reduceToInt, Int32.reduceAdd, fa_lt, fa_le, fa_eq, cmi_lt, cmi_le, cmi_gt, cmi_ge, cmi_eq, fa_lt64, fa_le64, fa_eq64, Int32.toInt_toInt64, nI_toInt, ti_m1, sub1_ti, inB_iff, nI_clamp, Int32.add_zero, nI_1, nI_add, nI_p2, nI_p3, nI_p4, nI_p5, nI_p6, nI_p8, nI_p9, nI_p10, nI_m3, nI_m4, nI_m5, nI_m6, nI_m8, nI_m10, nI_m31, nI_m48, nI_m60, nI_m256, nI_t5, nI_t6, nI_a1, nI_a48, nI_a96, nI_d5, nI_d6, nI_d8, nI_d10, nI_d20, nI_s1, nI_s48, pk_sub, up_eq, up_na, up_nk, e3]
  repeat (first | (with_reducible refine pk1 ?_ ?_; omega) | (with_reducible refine pk2 ?_ ?_; omega) | (with_reducible refine bd1 ?_ ?_; omega))
  exact ⟨x2', rfl, Or.inr ⟨c1, by simp (disch := omega) only [up_eq, up_na, up_nk], c2⟩⟩
theorem p_undo2 {di : tDi} {dl : tDl} (H : Itx di) : ClI 5 93 [.ref 0, .int (nI 2)] di dl (fun r di1 dl1 => ClI 2 154 [.ref 176, .int (nI 2)] di1 dl1 (fun r' di2 dl2 => Pt di dl r r' di2 dl2)) := by
  obtain ⟨n, f, X, _⟩ := H.2.2
  have X' := X
  obtain ⟨hn, x1, x2, x3, x4⟩ := X
  have x2' : di 5 2 = nI n := x2
  by_cases hz : n = 0
  · subst hz
    refine r_93 ?_
    simp (disch := omega) only [true_imp_iff, false_imp_iff, not_true_eq_false, not_false_eq_true, and_true, true_and, Int32.reduceToInt, Int64.reduceToInt, Int32.reduceAdd, fa_lt, fa_le, fa_eq, cmi_lt, cmi_le, cmi_gt, cmi_ge, cmi_eq, fa_lt64, fa_le64, fa_eq64, Int32.toInt_toInt64, nI_toInt, ti_m1, sub1_ti, inB_iff, nI_clamp, Int32.add_zero, nI_1, nI_add, nI_p2, nI_p3, nI_p4, nI_p5, nI_p6, nI_p8, nI_p9, nI_p10, nI_m3, nI_m4, nI_m5, nI_m6, nI_m8, nI_m10, nI_m31, nI_m48, nI_m60, nI_m256, nI_t5, nI_t6, nI_a1, nI_a48, nI_a96, nI_d5, nI_d6, nI_d8, nI_d10, nI_d20, nI_s1, nI_s48, pk_sub, x2']
    repeat (first | (with_reducible refine pk1 ?_ ?_; omega) | (with_reducible refine pk2 ?_ ?_; omega) | (with_reducible refine bd1 ?_ ?_; omega))
    repeat (first | (with_reducible refine pk1 ?_ ?_; omega) | (with_reducible refine pk2 ?_ ?_; omega) | (with_reducible refine bd1 ?_ ?_; omega))
    refine r_154 ?_
    simp (disch := omega) only [true_imp_iff, false_imp_iff, not_true_eq_false, not_false_eq_true, and_true, true_and, Int32.reduceToInt, Int64.reduceToInt, Int32.reduceAdd, fa_lt, fa_le, fa_eq, cmi_lt, cmi_le, cmi_gt, cmi_ge, cmi_eq, fa_lt64, fa_le64, fa_eq64, Int32.toInt_toInt64, nI_toInt, ti_m1, sub1_ti, inB_iff, nI_clamp, Int32.add_zero, nI_1, nI_add, nI_p2, nI_p3, nI_p4, nI_p5, nI_p6, nI_p8, nI_p9, nI_p10, nI_m3, nI_m4, nI_m5, nI_m6, nI_m8, nI_m10, nI_m31, nI_m48, nI_m60, nI_m256, nI_t5, nI_t6, nI_a1, nI_a48, nI_a96, nI_d5, nI_d6, nI_d8, nI_d10, nI_d20, nI_s1, nI_s48, pk_sub, x3]
    repeat (first | (with_reducible refine pk1 ?_ ?_; omega) | (with_reducible refine pk2 ?_ ?_; omega) | (with_reducible refine bd1 ?_ ?_; omega))
    exact ⟨rfl, rfl, Or.inl rfl⟩
  refine r_93 ?_
  simp (disch := omega) only [true_imp_iff, false_imp_iff, not_true_eq_false, not_false_eq_true, and_true, true_and, Int32.reduceToInt, Int64.reduceToInt, Int32.reduceAdd, fa_lt, fa_le, fa_eq, cmi_lt, cmi_le, cmi_gt, cmi_ge, cmi_eq, fa_lt64, fa_le64, fa_eq64, Int32.toInt_toInt64, nI_toInt, ti_m1, sub1_ti, inB_iff, nI_clamp, Int32.add_zero, nI_1, nI_add, nI_p2, nI_p3, nI_p4, nI_p5, nI_p6, nI_p8, nI_p9, nI_p10, nI_m3, nI_m4, nI_m5, nI_m6, nI_m8, nI_m10, nI_m31, nI_m48, nI_m60, nI_m256, nI_t5, nI_t6, nI_a1, nI_a48, nI_a96, nI_d5, nI_d6, nI_d8, nI_d10, nI_d20, nI_s1, nI_s48, pk_sub, x2']
  repeat (first | (with_reducible refine pk1 ?_ ?_; omega) | (with_reducible refine pk2 ?_ ?_; omega) | (with_reducible refine bd1 ?_ ?_; omega))
  repeat (first | (with_reducible refine pk1 ?_ ?_; omega) | (with_reducible refine pk2 ?_ ?_; omega) | (with_reducible refine bd1 ?_ ?_; omega))
  refine c_55M (l := n - 1) hn (by omega) x2' (fun i hi => ⟨(x4 i hi).1, (x4 i hi).2.1⟩) ?_
  intro d x r m hF hf d3 d4 d2 fr
  have e3 : d 182 2 = nI n := by rw [fr _ _ (by omega)]; exact x3
  obtain ⟨c1, c2⟩ := cut2 H (by omega) X' hF hf d3 d4 d2 fr
  refine r_154 ?_
  simp (disch := omega) only [true_imp_iff, false_imp_iff, not_true_eq_false, not_false_eq_true, and_true, true_and, Int32.reduceToInt, Int64.reduceToInt, Int32.reduceAdd, fa_lt, fa_le, fa_eq, cmi_lt, cmi_le, cmi_gt, cmi_ge, cmi_eq, fa_lt64, fa_le64, fa_eq64, Int32.toInt_toInt64, nI_toInt, ti_m1, sub1_ti, inB_iff, nI_clamp, Int32.add_zero, nI_1, nI_add, nI_p2, nI_p3, nI_p4, nI_p5, nI_p6, nI_p8, nI_p9, nI_p10, nI_m3, nI_m4, nI_m5, nI_m6, nI_m8, nI_m10, nI_m31, nI_m48, nI_m60, nI_m256, nI_t5, nI_t6, nI_a1, nI_a48, nI_a96, nI_d5, nI_d6, nI_d8, nI_d10, nI_d20, nI_s1, nI_s48, pk_sub, up_eq, up_na, up_nk, e3]
  repeat (first | (with_reducible refine pk1 ?_ ?_; omega) | (with_reducible refine pk2 ?_ ?_; omega) | (with_reducible refine bd1 ?_ ?_; omega))
  exact ⟨d2, rfl, Or.inr ⟨c1, by simp (disch := omega) only [up_eq, up_na, up_nk], c2⟩⟩
theorem p_type {di : tDi} {dl : tDl} (H : Itx di) (a : Int32) (c : Int32) : ClI 5 91 [.ref 0, .int a, .int c] di dl (fun r di1 dl1 => ClI 2 152 [.ref 176, .int a, .int c] di1 dl1 (fun r' di2 dl2 => Pt di dl r r' di2 dl2)) := by
  rcases ixi a 3 (by decide) with h | h | ⟨s, hs, rfl⟩
  · refine r_91 ?_
    simp (disch := omega) only [true_imp_iff, false_imp_iff, not_true_eq_false, not_false_eq_true, and_true, true_and, Int32.reduceToInt, Int64.reduceToInt, Int32.reduceAdd, fa_lt, fa_le, fa_eq, cmi_lt, cmi_le, cmi_gt, cmi_ge, cmi_eq, fa_lt64, fa_le64, fa_eq64, Int32.toInt_toInt64, nI_toInt, ti_m1, sub1_ti, inB_iff, nI_clamp, Int32.add_zero, nI_1, nI_add, nI_p2, nI_p3, nI_p4, nI_p5, nI_p6, nI_p8, nI_p9, nI_p10, nI_m3, nI_m4, nI_m5, nI_m6, nI_m8, nI_m10, nI_m31, nI_m48, nI_m60, nI_m256, nI_t5, nI_t6, nI_a1, nI_a48, nI_a96, nI_d5, nI_d6, nI_d8, nI_d10, nI_d20, nI_s1, nI_s48, pk_sub]
    repeat (first | (with_reducible refine pk1 ?_ ?_; omega) | (with_reducible refine pk2 ?_ ?_; omega) | (with_reducible refine bd1 ?_ ?_; omega))
    refine r_152 ?_
    simp (disch := omega) only [true_imp_iff, false_imp_iff, not_true_eq_false, not_false_eq_true, and_true, true_and, Int32.reduceToInt, Int64.reduceToInt, Int32.reduceAdd, fa_lt, fa_le, fa_eq, cmi_lt, cmi_le, cmi_gt, cmi_ge, cmi_eq, fa_lt64, fa_le64, fa_eq64, Int32.toInt_toInt64, nI_toInt, ti_m1, sub1_ti, inB_iff, nI_clamp, Int32.add_zero, nI_1, nI_add, nI_p2, nI_p3, nI_p4, nI_p5, nI_p6, nI_p8, nI_p9, nI_p10, nI_m3, nI_m4, nI_m5, nI_m6, nI_m8, nI_m10, nI_m31, nI_m48, nI_m60, nI_m256, nI_t5, nI_t6, nI_a1, nI_a48, nI_a96, nI_d5, nI_d6, nI_d8, nI_d10, nI_d20, nI_s1, nI_s48, pk_sub]
    repeat (first | (with_reducible refine pk1 ?_ ?_; omega) | (with_reducible refine pk2 ?_ ?_; omega) | (with_reducible refine bd1 ?_ ?_; omega))
    exact ⟨rfl, rfl, Or.inl rfl⟩
  · refine r_91 ?_
    simp (disch := omega) only [true_imp_iff, false_imp_iff, not_true_eq_false, not_false_eq_true, and_true, true_and, Int32.reduceToInt, Int64.reduceToInt, Int32.reduceAdd, fa_lt, fa_le, fa_eq, cmi_lt, cmi_le, cmi_gt, cmi_ge, cmi_eq, fa_lt64, fa_le64, fa_eq64, Int32.toInt_toInt64, nI_toInt, ti_m1, sub1_ti, inB_iff, nI_clamp, Int32.add_zero, nI_1, nI_add, nI_p2, nI_p3, nI_p4, nI_p5, nI_p6, nI_p8, nI_p9, nI_p10, nI_m3, nI_m4, nI_m5, nI_m6, nI_m8, nI_m10, nI_m31, nI_m48, nI_m60, nI_m256, nI_t5, nI_t6, nI_a1, nI_a48, nI_a96, nI_d5, nI_d6, nI_d8, nI_d10, nI_d20, nI_s1, nI_s48, pk_sub]
    repeat (first | (with_reducible refine pk1 ?_ ?_; omega) | (with_reducible refine pk2 ?_ ?_; omega) | (with_reducible refine bd1 ?_ ?_; omega))
    refine r_152 ?_
    simp (disch := omega) only [true_imp_iff, false_imp_iff, not_true_eq_false, not_false_eq_true, and_true, true_and, Int32.reduceToInt, Int64.reduceToInt, Int32.reduceAdd, fa_lt, fa_le, fa_eq, cmi_lt, cmi_le, cmi_gt, cmi_ge, cmi_eq, fa_lt64, fa_le64, fa_eq64, Int32.toInt_toInt64, nI_toInt, ti_m1, sub1_ti, inB_iff, nI_clamp, Int32.add_zero, nI_1, nI_add, nI_p2, nI_p3, nI_p4, nI_p5, nI_p6, nI_p8, nI_p9, nI_p10, nI_m3, nI_m4, nI_m5, nI_m6, nI_m8, nI_m10, nI_m31, nI_m48, nI_m60, nI_m256, nI_t5, nI_t6, nI_a1, nI_a48, nI_a96, nI_d5, nI_d6, nI_d8, nI_d10, nI_d20, nI_s1, nI_s48, pk_sub]
    repeat (first | (with_reducible refine pk1 ?_ ?_; omega) | (with_reducible refine pk2 ?_ ?_; omega) | (with_reducible refine bd1 ?_ ?_; omega))
    exact ⟨rfl, rfl, Or.inl rfl⟩
  rcases (by omega : s = 0 ∨ s = 1 ∨ s = 2) with e | e | e
  · subst e
    exact p_type0 H c
  · subst e
    exact p_type1 H c
  · subst e
    exact p_type2 H c
theorem p_wipe {di : tDi} {dl : tDl} (H : Itx di) (a : Int32) : ClI 5 92 [.ref 0, .int a] di dl (fun r di1 dl1 => ClI 2 153 [.ref 176, .int a] di1 dl1 (fun r' di2 dl2 => Pt di dl r r' di2 dl2)) := by
  rcases ixi a 3 (by decide) with h | h | ⟨s, hs, rfl⟩
  · refine r_92 ?_
    simp (disch := omega) only [true_imp_iff, false_imp_iff, not_true_eq_false, not_false_eq_true, and_true, true_and, Int32.reduceToInt, Int64.reduceToInt, Int32.reduceAdd, fa_lt, fa_le, fa_eq, cmi_lt, cmi_le, cmi_gt, cmi_ge, cmi_eq, fa_lt64, fa_le64, fa_eq64, Int32.toInt_toInt64, nI_toInt, ti_m1, sub1_ti, inB_iff, nI_clamp, Int32.add_zero, nI_1, nI_add, nI_p2, nI_p3, nI_p4, nI_p5, nI_p6, nI_p8, nI_p9, nI_p10, nI_m3, nI_m4, nI_m5, nI_m6, nI_m8, nI_m10, nI_m31, nI_m48, nI_m60, nI_m256, nI_t5, nI_t6, nI_a1, nI_a48, nI_a96, nI_d5, nI_d6, nI_d8, nI_d10, nI_d20, nI_s1, nI_s48, pk_sub]
    repeat (first | (with_reducible refine pk1 ?_ ?_; omega) | (with_reducible refine pk2 ?_ ?_; omega) | (with_reducible refine bd1 ?_ ?_; omega))
    refine r_153 ?_
    simp (disch := omega) only [true_imp_iff, false_imp_iff, not_true_eq_false, not_false_eq_true, and_true, true_and, Int32.reduceToInt, Int64.reduceToInt, Int32.reduceAdd, fa_lt, fa_le, fa_eq, cmi_lt, cmi_le, cmi_gt, cmi_ge, cmi_eq, fa_lt64, fa_le64, fa_eq64, Int32.toInt_toInt64, nI_toInt, ti_m1, sub1_ti, inB_iff, nI_clamp, Int32.add_zero, nI_1, nI_add, nI_p2, nI_p3, nI_p4, nI_p5, nI_p6, nI_p8, nI_p9, nI_p10, nI_m3, nI_m4, nI_m5, nI_m6, nI_m8, nI_m10, nI_m31, nI_m48, nI_m60, nI_m256, nI_t5, nI_t6, nI_a1, nI_a48, nI_a96, nI_d5, nI_d6, nI_d8, nI_d10, nI_d20, nI_s1, nI_s48, pk_sub]
    repeat (first | (with_reducible refine pk1 ?_ ?_; omega) | (with_reducible refine pk2 ?_ ?_; omega) | (with_reducible refine bd1 ?_ ?_; omega))
    exact ⟨rfl, rfl, Or.inl rfl⟩
  · refine r_92 ?_
    simp (disch := omega) only [true_imp_iff, false_imp_iff, not_true_eq_false, not_false_eq_true, and_true, true_and, Int32.reduceToInt, Int64.reduceToInt, Int32.reduceAdd, fa_lt, fa_le, fa_eq, cmi_lt, cmi_le, cmi_gt, cmi_ge, cmi_eq, fa_lt64, fa_le64, fa_eq64, Int32.toInt_toInt64, nI_toInt, ti_m1, sub1_ti, inB_iff, nI_clamp, Int32.add_zero, nI_1, nI_add, nI_p2, nI_p3, nI_p4, nI_p5, nI_p6, nI_p8, nI_p9, nI_p10, nI_m3, nI_m4, nI_m5, nI_m6, nI_m8, nI_m10, nI_m31, nI_m48, nI_m60, nI_m256, nI_t5, nI_t6, nI_a1, nI_a48, nI_a96, nI_d5, nI_d6, nI_d8, nI_d10, nI_d20, nI_s1, nI_s48, pk_sub]
    repeat (first | (with_reducible refine pk1 ?_ ?_; omega) | (with_reducible refine pk2 ?_ ?_; omega) | (with_reducible refine bd1 ?_ ?_; omega))
    refine r_153 ?_
    simp (disch := omega) only [true_imp_iff, false_imp_iff, not_true_eq_false, not_false_eq_true, and_true, true_and, Int32.reduceToInt, Int64.reduceToInt, Int32.reduceAdd, fa_lt, fa_le, fa_eq, cmi_lt, cmi_le, cmi_gt, cmi_ge, cmi_eq, fa_lt64, fa_le64, fa_eq64, Int32.toInt_toInt64, nI_toInt, ti_m1, sub1_ti, inB_iff, nI_clamp, Int32.add_zero, nI_1, nI_add, nI_p2, nI_p3, nI_p4, nI_p5, nI_p6, nI_p8, nI_p9, nI_p10, nI_m3, nI_m4, nI_m5, nI_m6, nI_m8, nI_m10, nI_m31, nI_m48, nI_m60, nI_m256, nI_t5, nI_t6, nI_a1, nI_a48, nI_a96, nI_d5, nI_d6, nI_d8, nI_d10, nI_d20, nI_s1, nI_s48, pk_sub]
    repeat (first | (with_reducible refine pk1 ?_ ?_; omega) | (with_reducible refine pk2 ?_ ?_; omega) | (with_reducible refine bd1 ?_ ?_; omega))
    exact ⟨rfl, rfl, Or.inl rfl⟩
  rcases (by omega : s = 0 ∨ s = 1 ∨ s = 2) with e | e | e
  · subst e
    exact p_wipe0 H
  · subst e
    exact p_wipe1 H
  · subst e
    exact p_wipe2 H
theorem p_undo {di : tDi} {dl : tDl} (H : Itx di) (a : Int32) : ClI 5 93 [.ref 0, .int a] di dl (fun r di1 dl1 => ClI 2 154 [.ref 176, .int a] di1 dl1 (fun r' di2 dl2 => Pt di dl r r' di2 dl2)) := by
  rcases ixi a 3 (by decide) with h | h | ⟨s, hs, rfl⟩
  · refine r_93 ?_
    simp (disch := omega) only [true_imp_iff, false_imp_iff, not_true_eq_false, not_false_eq_true, and_true, true_and, Int32.reduceToInt, Int64.reduceToInt, Int32.reduceAdd, fa_lt, fa_le, fa_eq, cmi_lt, cmi_le, cmi_gt, cmi_ge, cmi_eq, fa_lt64, fa_le64, fa_eq64, Int32.toInt_toInt64, nI_toInt, ti_m1, sub1_ti, inB_iff, nI_clamp, Int32.add_zero, nI_1, nI_add, nI_p2, nI_p3, nI_p4, nI_p5, nI_p6, nI_p8, nI_p9, nI_p10, nI_m3, nI_m4, nI_m5, nI_m6, nI_m8, nI_m10, nI_m31, nI_m48, nI_m60, nI_m256, nI_t5, nI_t6, nI_a1, nI_a48, nI_a96, nI_d5, nI_d6, nI_d8, nI_d10, nI_d20, nI_s1, nI_s48, pk_sub]
    repeat (first | (with_reducible refine pk1 ?_ ?_; omega) | (with_reducible refine pk2 ?_ ?_; omega) | (with_reducible refine bd1 ?_ ?_; omega))
    refine r_154 ?_
    simp (disch := omega) only [true_imp_iff, false_imp_iff, not_true_eq_false, not_false_eq_true, and_true, true_and, Int32.reduceToInt, Int64.reduceToInt, Int32.reduceAdd, fa_lt, fa_le, fa_eq, cmi_lt, cmi_le, cmi_gt, cmi_ge, cmi_eq, fa_lt64, fa_le64, fa_eq64, Int32.toInt_toInt64, nI_toInt, ti_m1, sub1_ti, inB_iff, nI_clamp, Int32.add_zero, nI_1, nI_add, nI_p2, nI_p3, nI_p4, nI_p5, nI_p6, nI_p8, nI_p9, nI_p10, nI_m3, nI_m4, nI_m5, nI_m6, nI_m8, nI_m10, nI_m31, nI_m48, nI_m60, nI_m256, nI_t5, nI_t6, nI_a1, nI_a48, nI_a96, nI_d5, nI_d6, nI_d8, nI_d10, nI_d20, nI_s1, nI_s48, pk_sub]
    repeat (first | (with_reducible refine pk1 ?_ ?_; omega) | (with_reducible refine pk2 ?_ ?_; omega) | (with_reducible refine bd1 ?_ ?_; omega))
    exact ⟨rfl, rfl, Or.inl rfl⟩
  · refine r_93 ?_
    simp (disch := omega) only [true_imp_iff, false_imp_iff, not_true_eq_false, not_false_eq_true, and_true, true_and, Int32.reduceToInt, Int64.reduceToInt, Int32.reduceAdd, fa_lt, fa_le, fa_eq, cmi_lt, cmi_le, cmi_gt, cmi_ge, cmi_eq, fa_lt64, fa_le64, fa_eq64, Int32.toInt_toInt64, nI_toInt, ti_m1, sub1_ti, inB_iff, nI_clamp, Int32.add_zero, nI_1, nI_add, nI_p2, nI_p3, nI_p4, nI_p5, nI_p6, nI_p8, nI_p9, nI_p10, nI_m3, nI_m4, nI_m5, nI_m6, nI_m8, nI_m10, nI_m31, nI_m48, nI_m60, nI_m256, nI_t5, nI_t6, nI_a1, nI_a48, nI_a96, nI_d5, nI_d6, nI_d8, nI_d10, nI_d20, nI_s1, nI_s48, pk_sub]
    repeat (first | (with_reducible refine pk1 ?_ ?_; omega) | (with_reducible refine pk2 ?_ ?_; omega) | (with_reducible refine bd1 ?_ ?_; omega))
    refine r_154 ?_
    simp (disch := omega) only [true_imp_iff, false_imp_iff, not_true_eq_false, not_false_eq_true, and_true, true_and, Int32.reduceToInt, Int64.reduceToInt, Int32.reduceAdd, fa_lt, fa_le, fa_eq, cmi_lt, cmi_le, cmi_gt, cmi_ge, cmi_eq, fa_lt64, fa_le64, fa_eq64, Int32.toInt_toInt64, nI_toInt, ti_m1, sub1_ti, inB_iff, nI_clamp, Int32.add_zero, nI_1, nI_add, nI_p2, nI_p3, nI_p4, nI_p5, nI_p6, nI_p8, nI_p9, nI_p10, nI_m3, nI_m4, nI_m5, nI_m6, nI_m8, nI_m10, nI_m31, nI_m48, nI_m60, nI_m256, nI_t5, nI_t6, nI_a1, nI_a48, nI_a96, nI_d5, nI_d6, nI_d8, nI_d10, nI_d20, nI_s1, nI_s48, pk_sub]
    repeat (first | (with_reducible refine pk1 ?_ ?_; omega) | (with_reducible refine pk2 ?_ ?_; omega) | (with_reducible refine bd1 ?_ ?_; omega))
    exact ⟨rfl, rfl, Or.inl rfl⟩
  rcases (by omega : s = 0 ∨ s = 1 ∨ s = 2) with e | e | e
  · subst e
    exact p_undo0 H
  · subst e
    exact p_undo1 H
  · subst e
    exact p_undo2 H
