/-! what the class reads out of its texts; answers of statue, cloth, season, count -/
def rgd (x : Int32) (n : Nat) (f : Nat → Int32) : Int32 := if 0 ≤ x.toInt ∧ x.toInt < n then f x.toInt.toNat else -2
theorem rgd_lo {x : Int32} {n : Nat} {f : Nat → Int32} (h : x.toInt < 0) : rgd x n f = -2 := if_neg (fun z => by omega)
theorem rgd_hi {x : Int32} {n : Nat} {f : Nat → Int32} (h : (n : Int) ≤ x.toInt) : rgd x n f = -2 := if_neg (fun z => by omega)
theorem rgd_in {j n : Nat} {f : Nat → Int32} (h : j < n) (hn : n < 2 ^ 31) : rgd (nI j) n f = f j := by
  unfold rgd
  rw [nI_toInt (by omega), if_pos (by omega), Int.toNat_natCast]
section LEAF
variable {t : tTown} {di : tDi} {dl : tDl} {k : Nat} {K : Int32 → tDi → tDl → Prop}
theorem c_47 (hc : Cs t di) (hk : k < nS t) (kk : K (nI (sv t k 0)) di dl) : ClI 1 47 [.ref 1, .int (nI k)] di dl K := by
  obtain ⟨⟨c1, l, c2, c3, c4, c5⟩, _⟩ := hc
  refine r_47 ?_
  rw [nI_t5, Nat.mul_comm]
  exact c_57t1 (by omega) c3 (by omega) (c5 k hk).1 kk
theorem c_48 (hc : Cs t di) (hk : k < nS t) (kk : K (nI (sv t k 1)) di dl) : ClI 1 48 [.ref 1, .int (nI k)] di dl K := by
  obtain ⟨⟨c1, l, c2, c3, c4, c5⟩, _⟩ := hc
  refine r_48 ?_
  rw [nI_t5, Nat.mul_comm, nI_1]
  exact c_57t1 (by omega) c3 (by omega) (c5 k hk).2.1 kk
theorem c_49 (hc : Cs t di) (hk : k < nS t) (kk : K (nI (sv t k 2)) di dl) : ClI 1 49 [.ref 1, .int (nI k)] di dl K := by
  obtain ⟨⟨c1, l, c2, c3, c4, c5⟩, _⟩ := hc
  refine r_49 ?_
  rw [nI_t5, Nat.mul_comm, nI_p2]
  exact c_57t1 (by omega) c3 (by omega) (c5 k hk).2.2.1 kk
theorem c_50 (hw : Wt t) (hc : Cs t di) (hk : k < nS t) (kk : K (nI (sv t k 3)) di dl) : ClI 1 50 [.ref 1, .int (nI k)] di dl K := by
  obtain ⟨⟨c1, l, c2, c3, c4, c5⟩, _⟩ := hc
  have w := (hw.2.1 k hk).2.2.2.2
  refine r_50 ?_
  rw [nI_t5, Nat.mul_comm, nI_p3]
  refine c_56t1 (by omega) c3 (by omega) (c5 k hk).2.2.2 ?_
  rcases (by omega : sv t k 3 = 0 ∨ sv t k 3 = 1) with e | e
  · rw [e] at kk ⊢
    refine pk1 (by decide) kk
  · rw [e] at kk ⊢
    refine pk2 (by decide) kk
theorem c_8 (hw : Wt t) (hc : Cs t di) (hk : k < nC t) (kk : K (nI (cv t k 0)) di dl) : ClI 1 8 [.ref 3, .int (nI k)] di dl K := by
  obtain ⟨_, ⟨c1, l, c2, c3, c4, c5⟩, _⟩ := hc
  have w := hw.2.2.1 k hk
  refine r_8 ?_
  rw [nI_t6, Nat.mul_comm, nI_1]
  refine c_57t3 (by omega) c3 (by omega) (c5 k hk).1 ?_
  refine c_57t3 (by omega) c3 (by omega) (c5 k hk).2.1 ?_
  rw [nI_m10, nI_add, show 10 * (cv t k 0 / 10) + cv t k 0 % 10 = cv t k 0 by omega]
  exact kk
theorem c_9 (hw : Wt t) (hc : Cs t di) (hk : k < nC t) (kk : K (nI (cv t k 1)) di dl) : ClI 1 9 [.ref 3, .int (nI k)] di dl K := by
  obtain ⟨_, ⟨c1, l, c2, c3, c4, c5⟩, _⟩ := hc
  have w := (hw.2.2.1 k hk).2.2.1
  refine r_9 ?_
  rw [nI_t6, Nat.mul_comm, nI_p2]
  refine c_56t3 (by omega) c3 (by omega) (c5 k hk).2.2.1 ?_
  rcases (by omega : cv t k 1 = 0 ∨ cv t k 1 = 1 ∨ cv t k 1 = 2) with e | e | e
  · rw [e] at kk ⊢
    exact pk2 (by decide) (pk1 (by decide) kk)
  · rw [e] at kk ⊢
    exact pk1 (by decide) kk
  · rw [e] at kk ⊢
    exact pk2 (by decide) (pk2 (by decide) kk)
theorem c_10 (hc : Cs t di) (hk : k < nC t) (kk : K (nI (cv t k 2)) di dl) : ClI 1 10 [.ref 3, .int (nI k)] di dl K := by
  obtain ⟨_, ⟨c1, l, c2, c3, c4, c5⟩, _⟩ := hc
  refine r_10 ?_
  rw [nI_t6, Nat.mul_comm, nI_p3]
  exact c_57t3 (by omega) c3 (by omega) (c5 k hk).2.2.2.1 kk
theorem c_11 (hc : Cs t di) (hk : k < nC t) (kk : K (nI (cv t k 3)) di dl) : ClI 1 11 [.ref 3, .int (nI k)] di dl K := by
  obtain ⟨_, ⟨c1, l, c2, c3, c4, c5⟩, _⟩ := hc
  refine r_11 ?_
  rw [nI_t6, Nat.mul_comm, nI_p4]
  exact c_57t3 (by omega) c3 (by omega) (c5 k hk).2.2.2.2 kk
theorem c_35t (hw : Wt t) (hc : Cs t di) (hk : k < nM t) (kk : K (nI (mo t k)) di dl) : ClI 1 35 [.ref 5, .int (nI k)] di dl K := by
  obtain ⟨_, _, ⟨c1, l, c2, c3, c4, c5⟩, _⟩ := hc
  exact c_35 c2 c3 (by omega) (hw.2.2.2 k hk) (c5 k hk) kk
end LEAF
def a_st (t : tTown) (a b : Int32) : Int32 := rgd a (nS t) (fun k => rgd b 4 (fun j => nI (sv t k j)))
def a_cl (t : tTown) (a b : Int32) : Int32 := rgd a (nC t) (fun k => rgd b 4 (fun j => nI (cv t k j)))
def a_se (t : tTown) (a : Int32) : Int32 := rgd a 24 (fun k => if k < nM t then nI (mo t k) else -1)
section ANS
variable {t : tTown} {di : tDi} {dl : tDl} {K : Int32 → tDi → tDl → Prop}
theorem k_95 (hw : Wt t) (hc : Cs t di) (a b : Int32) (kk : K (a_st t a b) di dl) : ClI 2 95 [.ref 0, .int a, .int b] di dl K := by
  have w1 := hw.1.1
  have c1 := hc.1.1
  unfold a_st at kk
  refine r_95 ?_
  rcases ixi a (nS t) (by omega) with h | h | ⟨k, hk, rfl⟩
  · rw [rgd_lo h] at kk
    simp (disch := omega) only [true_imp_iff, false_imp_iff, not_true_eq_false, not_false_eq_true, and_true, true_and, Int32.reduceToInt, Int64.reduceToInt, Int32.reduceAdd, fa_lt, fa_le, fa_eq, cmi_lt, cmi_le, cmi_gt, cmi_ge, cmi_eq, fa_lt64, fa_le64, fa_eq64, Int32.toInt_toInt64, nI_toInt, ti_m1, sub1_ti, inB_iff, nI_clamp, Int32.add_zero, nI_1, nI_add, nI_p2, nI_p3, nI_p4, nI_p5, nI_p6, nI_p8, nI_p9, nI_p10, nI_m3, nI_m4, nI_m5, nI_m6, nI_m8, nI_m10, nI_m31, nI_m48, nI_m60, nI_m256, nI_t5, nI_t6, nI_a1, nI_a48, nI_a96, nI_d5, nI_d6, nI_d8, nI_d10, nI_d20, nI_s1, nI_s48, pk_sub, c1]
    repeat (first | (with_reducible refine pk1 ?_ ?_; omega) | (with_reducible refine pk2 ?_ ?_; omega) | (with_reducible refine bd1 ?_ ?_; omega))
    exact kk
  · rw [rgd_hi h] at kk
    simp (disch := omega) only [true_imp_iff, false_imp_iff, not_true_eq_false, not_false_eq_true, and_true, true_and, Int32.reduceToInt, Int64.reduceToInt, Int32.reduceAdd, fa_lt, fa_le, fa_eq, cmi_lt, cmi_le, cmi_gt, cmi_ge, cmi_eq, fa_lt64, fa_le64, fa_eq64, Int32.toInt_toInt64, nI_toInt, ti_m1, sub1_ti, inB_iff, nI_clamp, Int32.add_zero, nI_1, nI_add, nI_p2, nI_p3, nI_p4, nI_p5, nI_p6, nI_p8, nI_p9, nI_p10, nI_m3, nI_m4, nI_m5, nI_m6, nI_m8, nI_m10, nI_m31, nI_m48, nI_m60, nI_m256, nI_t5, nI_t6, nI_a1, nI_a48, nI_a96, nI_d5, nI_d6, nI_d8, nI_d10, nI_d20, nI_s1, nI_s48, pk_sub, c1]
    repeat (first | (with_reducible refine pk1 ?_ ?_; omega) | (with_reducible refine pk2 ?_ ?_; omega) | (with_reducible refine bd1 ?_ ?_; omega))
    exact kk
  rw [rgd_in hk (by omega)] at kk
  rcases ixi b 4 (by omega) with h | h | ⟨j, hj, rfl⟩
  · rw [rgd_lo h] at kk
    simp (disch := omega) only [true_imp_iff, false_imp_iff, not_true_eq_false, not_false_eq_true, and_true, true_and, Int32.reduceToInt, Int64.reduceToInt, Int32.reduceAdd, fa_lt, fa_le, fa_eq, cmi_lt, cmi_le, cmi_gt, cmi_ge, cmi_eq, fa_lt64, fa_le64, fa_eq64, Int32.toInt_toInt64, nI_toInt, ti_m1, sub1_ti, inB_iff, nI_clamp, Int32.add_zero, nI_1, nI_add, nI_p2, nI_p3, nI_p4, nI_p5, nI_p6, nI_p8, nI_p9, nI_p10, nI_m3, nI_m4, nI_m5, nI_m6, nI_m8, nI_m10, nI_m31, nI_m48, nI_m60, nI_m256, nI_t5, nI_t6, nI_a1, nI_a48, nI_a96, nI_d5, nI_d6, nI_d8, nI_d10, nI_d20, nI_s1, nI_s48, pk_sub, c1]
    repeat (first | (with_reducible refine pk1 ?_ ?_; omega) | (with_reducible refine pk2 ?_ ?_; omega) | (with_reducible refine bd1 ?_ ?_; omega))
    exact kk
  · rw [rgd_hi h] at kk
    simp (disch := omega) only [true_imp_iff, false_imp_iff, not_true_eq_false, not_false_eq_true, and_true, true_and, Int32.reduceToInt, Int64.reduceToInt, Int32.reduceAdd, fa_lt, fa_le, fa_eq, cmi_lt, cmi_le, cmi_gt, cmi_ge, cmi_eq, fa_lt64, fa_le64, fa_eq64, Int32.toInt_toInt64, nI_toInt, ti_m1, sub1_ti, inB_iff, nI_clamp, Int32.add_zero, nI_1, nI_add, nI_p2, nI_p3, nI_p4, nI_p5, nI_p6, nI_p8, nI_p9, nI_p10, nI_m3, nI_m4, nI_m5, nI_m6, nI_m8, nI_m10, nI_m31, nI_m48, nI_m60, nI_m256, nI_t5, nI_t6, nI_a1, nI_a48, nI_a96, nI_d5, nI_d6, nI_d8, nI_d10, nI_d20, nI_s1, nI_s48, pk_sub, c1]
    repeat (first | (with_reducible refine pk1 ?_ ?_; omega) | (with_reducible refine pk2 ?_ ?_; omega) | (with_reducible refine bd1 ?_ ?_; omega))
    exact kk
  rw [rgd_in hj (by omega)] at kk
  simp (disch := omega) only [true_imp_iff, false_imp_iff, not_true_eq_false, not_false_eq_true, and_true, true_and, Int32.reduceToInt, Int64.reduceToInt, Int32.reduceAdd, fa_lt, fa_le, fa_eq, cmi_lt, cmi_le, cmi_gt, cmi_ge, cmi_eq, fa_lt64, fa_le64, fa_eq64, Int32.toInt_toInt64, nI_toInt, ti_m1, sub1_ti, inB_iff, nI_clamp, Int32.add_zero, nI_1, nI_add, nI_p2, nI_p3, nI_p4, nI_p5, nI_p6, nI_p8, nI_p9, nI_p10, nI_m3, nI_m4, nI_m5, nI_m6, nI_m8, nI_m10, nI_m31, nI_m48, nI_m60, nI_m256, nI_t5, nI_t6, nI_a1, nI_a48, nI_a96, nI_d5, nI_d6, nI_d8, nI_d10, nI_d20, nI_s1, nI_s48, pk_sub, c1]
  rcases (by omega : j = 0 ∨ j = 1 ∨ j = 2 ∨ j = 3) with e | e | e | e
  · subst e
    repeat (first | (with_reducible refine pk1 ?_ ?_; omega) | (with_reducible refine pk2 ?_ ?_; omega) | (with_reducible refine bd1 ?_ ?_; omega))
    exact c_47 hc hk kk
  · subst e
    repeat (first | (with_reducible refine pk1 ?_ ?_; omega) | (with_reducible refine pk2 ?_ ?_; omega) | (with_reducible refine bd1 ?_ ?_; omega))
    exact c_48 hc hk kk
  · subst e
    repeat (first | (with_reducible refine pk1 ?_ ?_; omega) | (with_reducible refine pk2 ?_ ?_; omega) | (with_reducible refine bd1 ?_ ?_; omega))
    exact c_49 hc hk kk
  · subst e
    repeat (first | (with_reducible refine pk1 ?_ ?_; omega) | (with_reducible refine pk2 ?_ ?_; omega) | (with_reducible refine bd1 ?_ ?_; omega))
    refine c_50 hw hc hk ?_
    have w := (hw.2.1 k hk).2.2.2.2
    rcases (by omega : sv t k 3 = 0 ∨ sv t k 3 = 1) with e | e
    · rw [e] at kk ⊢
      exact pk1 (by decide) kk
    · rw [e] at kk ⊢
      exact pk2 (by decide) kk
theorem k_96 (hw : Wt t) (hc : Cs t di) (a b : Int32) (kk : K (a_cl t a b) di dl) : ClI 2 96 [.ref 0, .int a, .int b] di dl K := by
  have w1 := hw.1.2.1
  have c1 := hc.2.1.1
  unfold a_cl at kk
  refine r_96 ?_
  rcases ixi a (nC t) (by omega) with h | h | ⟨k, hk, rfl⟩
  · rw [rgd_lo h] at kk
    simp (disch := omega) only [true_imp_iff, false_imp_iff, not_true_eq_false, not_false_eq_true, and_true, true_and, Int32.reduceToInt, Int64.reduceToInt, Int32.reduceAdd, fa_lt, fa_le, fa_eq, cmi_lt, cmi_le, cmi_gt, cmi_ge, cmi_eq, fa_lt64, fa_le64, fa_eq64, Int32.toInt_toInt64, nI_toInt, ti_m1, sub1_ti, inB_iff, nI_clamp, Int32.add_zero, nI_1, nI_add, nI_p2, nI_p3, nI_p4, nI_p5, nI_p6, nI_p8, nI_p9, nI_p10, nI_m3, nI_m4, nI_m5, nI_m6, nI_m8, nI_m10, nI_m31, nI_m48, nI_m60, nI_m256, nI_t5, nI_t6, nI_a1, nI_a48, nI_a96, nI_d5, nI_d6, nI_d8, nI_d10, nI_d20, nI_s1, nI_s48, pk_sub, c1]
    repeat (first | (with_reducible refine pk1 ?_ ?_; omega) | (with_reducible refine pk2 ?_ ?_; omega) | (with_reducible refine bd1 ?_ ?_; omega))
    exact kk
  · rw [rgd_hi h] at kk
    simp (disch := omega) only [true_imp_iff, false_imp_iff, not_true_eq_false, not_false_eq_true, and_true, true_and, Int32.reduceToInt, Int64.reduceToInt, Int32.reduceAdd, fa_lt, fa_le, fa_eq, cmi_lt, cmi_le, cmi_gt, cmi_ge, cmi_eq, fa_lt64, fa_le64, fa_eq64, Int32.toInt_toInt64, nI_toInt, ti_m1, sub1_ti, inB_iff, nI_clamp, Int32.add_zero, nI_1, nI_add, nI_p2, nI_p3, nI_p4, nI_p5, nI_p6, nI_p8, nI_p9, nI_p10, nI_m3, nI_m4, nI_m5, nI_m6, nI_m8, nI_m10, nI_m31, nI_m48, nI_m60, nI_m256, nI_t5, nI_t6, nI_a1, nI_a48, nI_a96, nI_d5, nI_d6, nI_d8, nI_d10, nI_d20, nI_s1, nI_s48, pk_sub, c1]
    repeat (first | (with_reducible refine pk1 ?_ ?_; omega) | (with_reducible refine pk2 ?_ ?_; omega) | (with_reducible refine bd1 ?_ ?_; omega))
    exact kk
  rw [rgd_in hk (by omega)] at kk
  rcases ixi b 4 (by omega) with h | h | ⟨j, hj, rfl⟩
  · rw [rgd_lo h] at kk
    simp (disch := omega) only [true_imp_iff, false_imp_iff, not_true_eq_false, not_false_eq_true, and_true, true_and, Int32.reduceToInt, Int64.reduceToInt, Int32.reduceAdd, fa_lt, fa_le, fa_eq, cmi_lt, cmi_le, cmi_gt, cmi_ge, cmi_eq, fa_lt64, fa_le64, fa_eq64, Int32.toInt_toInt64, nI_toInt, ti_m1, sub1_ti, inB_iff, nI_clamp, Int32.add_zero, nI_1, nI_add, nI_p2, nI_p3, nI_p4, nI_p5, nI_p6, nI_p8, nI_p9, nI_p10, nI_m3, nI_m4, nI_m5, nI_m6, nI_m8, nI_m10, nI_m31, nI_m48, nI_m60, nI_m256, nI_t5, nI_t6, nI_a1, nI_a48, nI_a96, nI_d5, nI_d6, nI_d8, nI_d10, nI_d20, nI_s1, nI_s48, pk_sub, c1]
    repeat (first | (with_reducible refine pk1 ?_ ?_; omega) | (with_reducible refine pk2 ?_ ?_; omega) | (with_reducible refine bd1 ?_ ?_; omega))
    exact kk
  · rw [rgd_hi h] at kk
    simp (disch := omega) only [true_imp_iff, false_imp_iff, not_true_eq_false, not_false_eq_true, and_true, true_and, Int32.reduceToInt, Int64.reduceToInt, Int32.reduceAdd, fa_lt, fa_le, fa_eq, cmi_lt, cmi_le, cmi_gt, cmi_ge, cmi_eq, fa_lt64, fa_le64, fa_eq64, Int32.toInt_toInt64, nI_toInt, ti_m1, sub1_ti, inB_iff, nI_clamp, Int32.add_zero, nI_1, nI_add, nI_p2, nI_p3, nI_p4, nI_p5, nI_p6, nI_p8, nI_p9, nI_p10, nI_m3, nI_m4, nI_m5, nI_m6, nI_m8, nI_m10, nI_m31, nI_m48, nI_m60, nI_m256, nI_t5, nI_t6, nI_a1, nI_a48, nI_a96, nI_d5, nI_d6, nI_d8, nI_d10, nI_d20, nI_s1, nI_s48, pk_sub, c1]
    repeat (first | (with_reducible refine pk1 ?_ ?_; omega) | (with_reducible refine pk2 ?_ ?_; omega) | (with_reducible refine bd1 ?_ ?_; omega))
    exact kk
  rw [rgd_in hj (by omega)] at kk
  simp (disch := omega) only [true_imp_iff, false_imp_iff, not_true_eq_false, not_false_eq_true, and_true, true_and, Int32.reduceToInt, Int64.reduceToInt, Int32.reduceAdd, fa_lt, fa_le, fa_eq, cmi_lt, cmi_le, cmi_gt, cmi_ge, cmi_eq, fa_lt64, fa_le64, fa_eq64, Int32.toInt_toInt64, nI_toInt, ti_m1, sub1_ti, inB_iff, nI_clamp, Int32.add_zero, nI_1, nI_add, nI_p2, nI_p3, nI_p4, nI_p5, nI_p6, nI_p8, nI_p9, nI_p10, nI_m3, nI_m4, nI_m5, nI_m6, nI_m8, nI_m10, nI_m31, nI_m48, nI_m60, nI_m256, nI_t5, nI_t6, nI_a1, nI_a48, nI_a96, nI_d5, nI_d6, nI_d8, nI_d10, nI_d20, nI_s1, nI_s48, pk_sub, c1]
  rcases (by omega : j = 0 ∨ j = 1 ∨ j = 2 ∨ j = 3) with e | e | e | e
  · subst e
    repeat (first | (with_reducible refine pk1 ?_ ?_; omega) | (with_reducible refine pk2 ?_ ?_; omega) | (with_reducible refine bd1 ?_ ?_; omega))
    exact c_8 hw hc hk kk
  · subst e
    repeat (first | (with_reducible refine pk1 ?_ ?_; omega) | (with_reducible refine pk2 ?_ ?_; omega) | (with_reducible refine bd1 ?_ ?_; omega))
    exact c_9 hw hc hk kk
  · subst e
    repeat (first | (with_reducible refine pk1 ?_ ?_; omega) | (with_reducible refine pk2 ?_ ?_; omega) | (with_reducible refine bd1 ?_ ?_; omega))
    exact c_10 hc hk kk
  · subst e
    repeat (first | (with_reducible refine pk1 ?_ ?_; omega) | (with_reducible refine pk2 ?_ ?_; omega) | (with_reducible refine bd1 ?_ ?_; omega))
    exact c_11 hc hk kk
theorem k_97 (hw : Wt t) (hc : Cs t di) (a : Int32) (kk : K (a_se t a) di dl) : ClI 2 97 [.ref 0, .int a] di dl K := by
  have w1 := hw.1.2.2.1
  have c1 := hc.2.2.1.1
  unfold a_se at kk
  refine r_97 ?_
  rcases ixi a 24 (by omega) with h | h | ⟨k, hk, rfl⟩
  · rw [rgd_lo h] at kk
    simp (disch := omega) only [true_imp_iff, false_imp_iff, not_true_eq_false, not_false_eq_true, and_true, true_and, Int32.reduceToInt, Int64.reduceToInt, Int32.reduceAdd, fa_lt, fa_le, fa_eq, cmi_lt, cmi_le, cmi_gt, cmi_ge, cmi_eq, fa_lt64, fa_le64, fa_eq64, Int32.toInt_toInt64, nI_toInt, ti_m1, sub1_ti, inB_iff, nI_clamp, Int32.add_zero, nI_1, nI_add, nI_p2, nI_p3, nI_p4, nI_p5, nI_p6, nI_p8, nI_p9, nI_p10, nI_m3, nI_m4, nI_m5, nI_m6, nI_m8, nI_m10, nI_m31, nI_m48, nI_m60, nI_m256, nI_t5, nI_t6, nI_a1, nI_a48, nI_a96, nI_d5, nI_d6, nI_d8, nI_d10, nI_d20, nI_s1, nI_s48, pk_sub, c1]
    repeat (first | (with_reducible refine pk1 ?_ ?_; omega) | (with_reducible refine pk2 ?_ ?_; omega) | (with_reducible refine bd1 ?_ ?_; omega))
    exact kk
  · rw [rgd_hi h] at kk
    simp (disch := omega) only [true_imp_iff, false_imp_iff, not_true_eq_false, not_false_eq_true, and_true, true_and, Int32.reduceToInt, Int64.reduceToInt, Int32.reduceAdd, fa_lt, fa_le, fa_eq, cmi_lt, cmi_le, cmi_gt, cmi_ge, cmi_eq, fa_lt64, fa_le64, fa_eq64, Int32.toInt_toInt64, nI_toInt, ti_m1, sub1_ti, inB_iff, nI_clamp, Int32.add_zero, nI_1, nI_add, nI_p2, nI_p3, nI_p4, nI_p5, nI_p6, nI_p8, nI_p9, nI_p10, nI_m3, nI_m4, nI_m5, nI_m6, nI_m8, nI_m10, nI_m31, nI_m48, nI_m60, nI_m256, nI_t5, nI_t6, nI_a1, nI_a48, nI_a96, nI_d5, nI_d6, nI_d8, nI_d10, nI_d20, nI_s1, nI_s48, pk_sub, c1]
    repeat (first | (with_reducible refine pk1 ?_ ?_; omega) | (with_reducible refine pk2 ?_ ?_; omega) | (with_reducible refine bd1 ?_ ?_; omega))
    exact kk
  rw [rgd_in hk (by omega)] at kk
  simp (disch := omega) only [true_imp_iff, false_imp_iff, not_true_eq_false, not_false_eq_true, and_true, true_and, Int32.reduceToInt, Int64.reduceToInt, Int32.reduceAdd, fa_lt, fa_le, fa_eq, cmi_lt, cmi_le, cmi_gt, cmi_ge, cmi_eq, fa_lt64, fa_le64, fa_eq64, Int32.toInt_toInt64, nI_toInt, ti_m1, sub1_ti, inB_iff, nI_clamp, Int32.add_zero, nI_1, nI_add, nI_p2, nI_p3, nI_p4, nI_p5, nI_p6, nI_p8, nI_p9, nI_p10, nI_m3, nI_m4, nI_m5, nI_m6, nI_m8, nI_m10, nI_m31, nI_m48, nI_m60, nI_m256, nI_t5, nI_t6, nI_a1, nI_a48, nI_a96, nI_d5, nI_d6, nI_d8, nI_d10, nI_d20, nI_s1, nI_s48, pk_sub, c1]
  by_cases h : k < nM t
  · rw [if_pos h] at kk
    repeat (first | (with_reducible refine pk1 ?_ ?_; omega) | (with_reducible refine pk2 ?_ ?_; omega) | (with_reducible refine bd1 ?_ ?_; omega))
    exact c_35t hw hc h kk
  · rw [if_neg h] at kk
    repeat (first | (with_reducible refine pk1 ?_ ?_; omega) | (with_reducible refine pk2 ?_ ?_; omega) | (with_reducible refine bd1 ?_ ?_; omega))
    exact kk
theorem k_168 (hx : Itx di) (hs : Ise di) (hw : Wt t) (hc : Cs t di) (a b : Int32) (kk : ∀ d, Rs t d → Fm di d → K (a_st t a b) d dl) : ClI 7 168 [.ref 176, .int a, .int b] di dl K := by
  refine r_168 (c_163 hx hs hw hc ?_)
  intro d hr fm
  replace kk := kk d hr fm
  have w1 := hw.1.1
  obtain ⟨c1, c2, c3, c4, c5, c6, c7, c8⟩ := hr
  unfold a_st at kk
  rcases ixi a (nS t) (by omega) with h | h | ⟨k, hk, rfl⟩
  · rw [rgd_lo h] at kk
    simp (disch := omega) only [true_imp_iff, false_imp_iff, not_true_eq_false, not_false_eq_true, and_true, true_and, Int32.reduceToInt, Int64.reduceToInt, Int32.reduceAdd, fa_lt, fa_le, fa_eq, cmi_lt, cmi_le, cmi_gt, cmi_ge, cmi_eq, fa_lt64, fa_le64, fa_eq64, Int32.toInt_toInt64, nI_toInt, ti_m1, sub1_ti, inB_iff, nI_clamp, Int32.add_zero, nI_1, nI_add, nI_p2, nI_p3, nI_p4, nI_p5, nI_p6, nI_p8, nI_p9, nI_p10, nI_m3, nI_m4, nI_m5, nI_m6, nI_m8, nI_m10, nI_m31, nI_m48, nI_m60, nI_m256, nI_t5, nI_t6, nI_a1, nI_a48, nI_a96, nI_d5, nI_d6, nI_d8, nI_d10, nI_d20, nI_s1, nI_s48, pk_sub, c1]
    repeat (first | (with_reducible refine pk1 ?_ ?_; omega) | (with_reducible refine pk2 ?_ ?_; omega) | (with_reducible refine bd1 ?_ ?_; omega))
    exact kk
  · rw [rgd_hi h] at kk
    by_cases h0 : a.toInt < 0
    · omega
    · simp (disch := omega) only [true_imp_iff, false_imp_iff, not_true_eq_false, not_false_eq_true, and_true, true_and, Int32.reduceToInt, Int64.reduceToInt, Int32.reduceAdd, fa_lt, fa_le, fa_eq, cmi_lt, cmi_le, cmi_gt, cmi_ge, cmi_eq, fa_lt64, fa_le64, fa_eq64, Int32.toInt_toInt64, nI_toInt, ti_m1, sub1_ti, inB_iff, nI_clamp, Int32.add_zero, nI_1, nI_add, nI_p2, nI_p3, nI_p4, nI_p5, nI_p6, nI_p8, nI_p9, nI_p10, nI_m3, nI_m4, nI_m5, nI_m6, nI_m8, nI_m10, nI_m31, nI_m48, nI_m60, nI_m256, nI_t5, nI_t6, nI_a1, nI_a48, nI_a96, nI_d5, nI_d6, nI_d8, nI_d10, nI_d20, nI_s1, nI_s48, pk_sub, c1]
      repeat (first | (with_reducible refine pk1 ?_ ?_; omega) | (with_reducible refine pk2 ?_ ?_; omega) | (with_reducible refine bd1 ?_ ?_; omega))
      exact kk
  rw [rgd_in hk (by omega)] at kk
  rcases ixi b 4 (by omega) with h | h | ⟨j, hj, rfl⟩
  · rw [rgd_lo h] at kk
    simp (disch := omega) only [true_imp_iff, false_imp_iff, not_true_eq_false, not_false_eq_true, and_true, true_and, Int32.reduceToInt, Int64.reduceToInt, Int32.reduceAdd, fa_lt, fa_le, fa_eq, cmi_lt, cmi_le, cmi_gt, cmi_ge, cmi_eq, fa_lt64, fa_le64, fa_eq64, Int32.toInt_toInt64, nI_toInt, ti_m1, sub1_ti, inB_iff, nI_clamp, Int32.add_zero, nI_1, nI_add, nI_p2, nI_p3, nI_p4, nI_p5, nI_p6, nI_p8, nI_p9, nI_p10, nI_m3, nI_m4, nI_m5, nI_m6, nI_m8, nI_m10, nI_m31, nI_m48, nI_m60, nI_m256, nI_t5, nI_t6, nI_a1, nI_a48, nI_a96, nI_d5, nI_d6, nI_d8, nI_d10, nI_d20, nI_s1, nI_s48, pk_sub, c1]
    repeat (first | (with_reducible refine pk1 ?_ ?_; omega) | (with_reducible refine pk2 ?_ ?_; omega) | (with_reducible refine bd1 ?_ ?_; omega))
    exact kk
  · rw [rgd_hi h] at kk
    simp (disch := omega) only [true_imp_iff, false_imp_iff, not_true_eq_false, not_false_eq_true, and_true, true_and, Int32.reduceToInt, Int64.reduceToInt, Int32.reduceAdd, fa_lt, fa_le, fa_eq, cmi_lt, cmi_le, cmi_gt, cmi_ge, cmi_eq, fa_lt64, fa_le64, fa_eq64, Int32.toInt_toInt64, nI_toInt, ti_m1, sub1_ti, inB_iff, nI_clamp, Int32.add_zero, nI_1, nI_add, nI_p2, nI_p3, nI_p4, nI_p5, nI_p6, nI_p8, nI_p9, nI_p10, nI_m3, nI_m4, nI_m5, nI_m6, nI_m8, nI_m10, nI_m31, nI_m48, nI_m60, nI_m256, nI_t5, nI_t6, nI_a1, nI_a48, nI_a96, nI_d5, nI_d6, nI_d8, nI_d10, nI_d20, nI_s1, nI_s48, pk_sub, c1]
    repeat (first | (with_reducible refine pk1 ?_ ?_; omega) | (with_reducible refine pk2 ?_ ?_; omega) | (with_reducible refine bd1 ?_ ?_; omega))
    exact kk
  rw [rgd_in hj (by omega)] at kk
  simp (disch := omega) only [true_imp_iff, false_imp_iff, not_true_eq_false, not_false_eq_true, and_true, true_and, Int32.reduceToInt, Int64.reduceToInt, Int32.reduceAdd, fa_lt, fa_le, fa_eq, cmi_lt, cmi_le, cmi_gt, cmi_ge, cmi_eq, fa_lt64, fa_le64, fa_eq64, Int32.toInt_toInt64, nI_toInt, ti_m1, sub1_ti, inB_iff, nI_clamp, Int32.add_zero, nI_1, nI_add, nI_p2, nI_p3, nI_p4, nI_p5, nI_p6, nI_p8, nI_p9, nI_p10, nI_m3, nI_m4, nI_m5, nI_m6, nI_m8, nI_m10, nI_m31, nI_m48, nI_m60, nI_m256, nI_t5, nI_t6, nI_a1, nI_a48, nI_a96, nI_d5, nI_d6, nI_d8, nI_d10, nI_d20, nI_s1, nI_s48, pk_sub, c1]
  repeat (first | (with_reducible refine pk1 ?_ ?_; omega) | (with_reducible refine pk2 ?_ ?_; omega) | (with_reducible refine bd1 ?_ ?_; omega))
  rw [c6 k hk j hj]
  exact kk
theorem k_169 (hx : Itx di) (hs : Ise di) (hw : Wt t) (hc : Cs t di) (a b : Int32) (kk : ∀ d, Rs t d → Fm di d → K (a_cl t a b) d dl) : ClI 7 169 [.ref 176, .int a, .int b] di dl K := by
  refine r_169 (c_163 hx hs hw hc ?_)
  intro d hr fm
  replace kk := kk d hr fm
  have w1 := hw.1.2.1
  obtain ⟨c1, c2, c3, c4, c5, c6, c7, c8⟩ := hr
  unfold a_cl at kk
  rcases ixi a (nC t) (by omega) with h | h | ⟨k, hk, rfl⟩
  · rw [rgd_lo h] at kk
    simp (disch := omega) only [true_imp_iff, false_imp_iff, not_true_eq_false, not_false_eq_true, and_true, true_and, Int32.reduceToInt, Int64.reduceToInt, Int32.reduceAdd, fa_lt, fa_le, fa_eq, cmi_lt, cmi_le, cmi_gt, cmi_ge, cmi_eq, fa_lt64, fa_le64, fa_eq64, Int32.toInt_toInt64, nI_toInt, ti_m1, sub1_ti, inB_iff, nI_clamp, Int32.add_zero, nI_1, nI_add, nI_p2, nI_p3, nI_p4, nI_p5, nI_p6, nI_p8, nI_p9, nI_p10, nI_m3, nI_m4, nI_m5, nI_m6, nI_m8, nI_m10, nI_m31, nI_m48, nI_m60, nI_m256, nI_t5, nI_t6, nI_a1, nI_a48, nI_a96, nI_d5, nI_d6, nI_d8, nI_d10, nI_d20, nI_s1, nI_s48, pk_sub, c2]
    repeat (first | (with_reducible refine pk1 ?_ ?_; omega) | (with_reducible refine pk2 ?_ ?_; omega) | (with_reducible refine bd1 ?_ ?_; omega))
    exact kk
  · rw [rgd_hi h] at kk
    simp (disch := omega) only [true_imp_iff, false_imp_iff, not_true_eq_false, not_false_eq_true, and_true, true_and, Int32.reduceToInt, Int64.reduceToInt, Int32.reduceAdd, fa_lt, fa_le, fa_eq, cmi_lt, cmi_le, cmi_gt, cmi_ge, cmi_eq, fa_lt64, fa_le64, fa_eq64, Int32.toInt_toInt64, nI_toInt, ti_m1, sub1_ti, inB_iff, nI_clamp, Int32.add_zero, nI_1, nI_add, nI_p2, nI_p3, nI_p4, nI_p5, nI_p6, nI_p8, nI_p9, nI_p10, nI_m3, nI_m4, nI_m5, nI_m6, nI_m8, nI_m10, nI_m31, nI_m48, nI_m60, nI_m256, nI_t5, nI_t6, nI_a1, nI_a48, nI_a96, nI_d5, nI_d6, nI_d8, nI_d10, nI_d20, nI_s1, nI_s48, pk_sub, c2]
    repeat (first | (with_reducible refine pk1 ?_ ?_; omega) | (with_reducible refine pk2 ?_ ?_; omega) | (with_reducible refine bd1 ?_ ?_; omega))
    exact kk
  rw [rgd_in hk (by omega)] at kk
  rcases ixi b 4 (by omega) with h | h | ⟨j, hj, rfl⟩
  · rw [rgd_lo h] at kk
    simp (disch := omega) only [true_imp_iff, false_imp_iff, not_true_eq_false, not_false_eq_true, and_true, true_and, Int32.reduceToInt, Int64.reduceToInt, Int32.reduceAdd, fa_lt, fa_le, fa_eq, cmi_lt, cmi_le, cmi_gt, cmi_ge, cmi_eq, fa_lt64, fa_le64, fa_eq64, Int32.toInt_toInt64, nI_toInt, ti_m1, sub1_ti, inB_iff, nI_clamp, Int32.add_zero, nI_1, nI_add, nI_p2, nI_p3, nI_p4, nI_p5, nI_p6, nI_p8, nI_p9, nI_p10, nI_m3, nI_m4, nI_m5, nI_m6, nI_m8, nI_m10, nI_m31, nI_m48, nI_m60, nI_m256, nI_t5, nI_t6, nI_a1, nI_a48, nI_a96, nI_d5, nI_d6, nI_d8, nI_d10, nI_d20, nI_s1, nI_s48, pk_sub, c2]
    repeat (first | (with_reducible refine pk1 ?_ ?_; omega) | (with_reducible refine pk2 ?_ ?_; omega) | (with_reducible refine bd1 ?_ ?_; omega))
    exact kk
  · rw [rgd_hi h] at kk
    simp (disch := omega) only [true_imp_iff, false_imp_iff, not_true_eq_false, not_false_eq_true, and_true, true_and, Int32.reduceToInt, Int64.reduceToInt, Int32.reduceAdd, fa_lt, fa_le, fa_eq, cmi_lt, cmi_le, cmi_gt, cmi_ge, cmi_eq, fa_lt64, fa_le64, fa_eq64, Int32.toInt_toInt64, nI_toInt, ti_m1, sub1_ti, inB_iff, nI_clamp, Int32.add_zero, nI_1, nI_add, nI_p2, nI_p3, nI_p4, nI_p5, nI_p6, nI_p8, nI_p9, nI_p10, nI_m3, nI_m4, nI_m5, nI_m6, nI_m8, nI_m10, nI_m31, nI_m48, nI_m60, nI_m256, nI_t5, nI_t6, nI_a1, nI_a48, nI_a96, nI_d5, nI_d6, nI_d8, nI_d10, nI_d20, nI_s1, nI_s48, pk_sub, c2]
    repeat (first | (with_reducible refine pk1 ?_ ?_; omega) | (with_reducible refine pk2 ?_ ?_; omega) | (with_reducible refine bd1 ?_ ?_; omega))
    exact kk
  rw [rgd_in hj (by omega)] at kk
  simp (disch := omega) only [true_imp_iff, false_imp_iff, not_true_eq_false, not_false_eq_true, and_true, true_and, Int32.reduceToInt, Int64.reduceToInt, Int32.reduceAdd, fa_lt, fa_le, fa_eq, cmi_lt, cmi_le, cmi_gt, cmi_ge, cmi_eq, fa_lt64, fa_le64, fa_eq64, Int32.toInt_toInt64, nI_toInt, ti_m1, sub1_ti, inB_iff, nI_clamp, Int32.add_zero, nI_1, nI_add, nI_p2, nI_p3, nI_p4, nI_p5, nI_p6, nI_p8, nI_p9, nI_p10, nI_m3, nI_m4, nI_m5, nI_m6, nI_m8, nI_m10, nI_m31, nI_m48, nI_m60, nI_m256, nI_t5, nI_t6, nI_a1, nI_a48, nI_a96, nI_d5, nI_d6, nI_d8, nI_d10, nI_d20, nI_s1, nI_s48, pk_sub, c2]
  repeat (first | (with_reducible refine pk1 ?_ ?_; omega) | (with_reducible refine pk2 ?_ ?_; omega) | (with_reducible refine bd1 ?_ ?_; omega))
  rw [c7 k hk j hj]
  exact kk
theorem k_170 (hx : Itx di) (hs : Ise di) (hw : Wt t) (hc : Cs t di) (a : Int32) (kk : ∀ d, Rs t d → Fm di d → K (a_se t a) d dl) : ClI 7 170 [.ref 176, .int a] di dl K := by
  refine r_170 (c_163 hx hs hw hc ?_)
  intro d hr fm
  replace kk := kk d hr fm
  have w1 := hw.1.2.2.1
  obtain ⟨c1, c2, c3, c4, c5, c6, c7, c8⟩ := hr
  unfold a_se at kk
  rcases ixi a 24 (by omega) with h | h | ⟨k, hk, rfl⟩
  · rw [rgd_lo h] at kk
    simp (disch := omega) only [true_imp_iff, false_imp_iff, not_true_eq_false, not_false_eq_true, and_true, true_and, Int32.reduceToInt, Int64.reduceToInt, Int32.reduceAdd, fa_lt, fa_le, fa_eq, cmi_lt, cmi_le, cmi_gt, cmi_ge, cmi_eq, fa_lt64, fa_le64, fa_eq64, Int32.toInt_toInt64, nI_toInt, ti_m1, sub1_ti, inB_iff, nI_clamp, Int32.add_zero, nI_1, nI_add, nI_p2, nI_p3, nI_p4, nI_p5, nI_p6, nI_p8, nI_p9, nI_p10, nI_m3, nI_m4, nI_m5, nI_m6, nI_m8, nI_m10, nI_m31, nI_m48, nI_m60, nI_m256, nI_t5, nI_t6, nI_a1, nI_a48, nI_a96, nI_d5, nI_d6, nI_d8, nI_d10, nI_d20, nI_s1, nI_s48, pk_sub, c3]
    repeat (first | (with_reducible refine pk1 ?_ ?_; omega) | (with_reducible refine pk2 ?_ ?_; omega) | (with_reducible refine bd1 ?_ ?_; omega))
    exact kk
  · rw [rgd_hi h] at kk
    simp (disch := omega) only [true_imp_iff, false_imp_iff, not_true_eq_false, not_false_eq_true, and_true, true_and, Int32.reduceToInt, Int64.reduceToInt, Int32.reduceAdd, fa_lt, fa_le, fa_eq, cmi_lt, cmi_le, cmi_gt, cmi_ge, cmi_eq, fa_lt64, fa_le64, fa_eq64, Int32.toInt_toInt64, nI_toInt, ti_m1, sub1_ti, inB_iff, nI_clamp, Int32.add_zero, nI_1, nI_add, nI_p2, nI_p3, nI_p4, nI_p5, nI_p6, nI_p8, nI_p9, nI_p10, nI_m3, nI_m4, nI_m5, nI_m6, nI_m8, nI_m10, nI_m31, nI_m48, nI_m60, nI_m256, nI_t5, nI_t6, nI_a1, nI_a48, nI_a96, nI_d5, nI_d6, nI_d8, nI_d10, nI_d20, nI_s1, nI_s48, pk_sub, c3]
    repeat (first | (with_reducible refine pk1 ?_ ?_; omega) | (with_reducible refine pk2 ?_ ?_; omega) | (with_reducible refine bd1 ?_ ?_; omega))
    exact kk
  rw [rgd_in hk (by omega)] at kk
  simp (disch := omega) only [true_imp_iff, false_imp_iff, not_true_eq_false, not_false_eq_true, and_true, true_and, Int32.reduceToInt, Int64.reduceToInt, Int32.reduceAdd, fa_lt, fa_le, fa_eq, cmi_lt, cmi_le, cmi_gt, cmi_ge, cmi_eq, fa_lt64, fa_le64, fa_eq64, Int32.toInt_toInt64, nI_toInt, ti_m1, sub1_ti, inB_iff, nI_clamp, Int32.add_zero, nI_1, nI_add, nI_p2, nI_p3, nI_p4, nI_p5, nI_p6, nI_p8, nI_p9, nI_p10, nI_m3, nI_m4, nI_m5, nI_m6, nI_m8, nI_m10, nI_m31, nI_m48, nI_m60, nI_m256, nI_t5, nI_t6, nI_a1, nI_a48, nI_a96, nI_d5, nI_d6, nI_d8, nI_d10, nI_d20, nI_s1, nI_s48, pk_sub, c3]
  by_cases h : k < nM t
  · rw [if_pos h] at kk
    repeat (first | (with_reducible refine pk1 ?_ ?_; omega) | (with_reducible refine pk2 ?_ ?_; omega) | (with_reducible refine bd1 ?_ ?_; omega))
    rw [c8 k h]
    exact kk
  · rw [if_neg h] at kk
    repeat (first | (with_reducible refine pk1 ?_ ?_; omega) | (with_reducible refine pk2 ?_ ?_; omega) | (with_reducible refine bd1 ?_ ?_; omega))
    exact kk
/-- fault -/
theorem k_164 (hx : Itx di) (hs : Ise di) (a : Int32) (kk : ∀ d r, (r = if a = 0 then di 1 3 else if a = 1 then di 3 3 else if a = 2 then di 5 3 else -2) → Fm di d → K r d dl) : ClI 6 164 [.ref 176, .int a] di dl K := by
  obtain ⟨⟨n0, f0, X0, x0, r0, m0, F0, t0, a0, b0⟩, ⟨n1, f1, X1, x1, r1, m1, F1, t1, a1, b1⟩, ⟨n2, f2, X2, x2, r2, m2, F2, t2, a2, b2⟩⟩ := hx
  obtain ⟨p1, p2, p3, p4, p5⟩ := X0
  obtain ⟨q1, q2, q3, q4, q5⟩ := X1
  obtain ⟨u1, u2, u3, u4, u5⟩ := X2
  have bad : (a.toInt < 0 ∨ 3 ≤ a.toInt) → K (-2) di dl := by
    intro h
    refine kk di (-2) ?_ (fun _ _ _ _ => rfl)
    rw [if_neg (fun z => by rw [z, ti_0] at h; omega), if_neg (fun z => by rw [z, ti_1] at h; omega), if_neg (fun z => by rw [z, ti_2] at h; omega)]
  refine r_164 ?_
  rcases ixi a 3 (by omega) with h | h | ⟨s, hs3, rfl⟩
  · simp (disch := omega) only [true_imp_iff, false_imp_iff, not_true_eq_false, not_false_eq_true, and_true, true_and, Int32.reduceToInt, Int64.reduceToInt, Int32.reduceAdd, fa_lt, fa_le, fa_eq, cmi_lt, cmi_le, cmi_gt, cmi_ge, cmi_eq, fa_lt64, fa_le64, fa_eq64, Int32.toInt_toInt64, nI_toInt, ti_m1, sub1_ti, inB_iff, nI_clamp, Int32.add_zero, nI_1, nI_add, nI_p2, nI_p3, nI_p4, nI_p5, nI_p6, nI_p8, nI_p9, nI_p10, nI_m3, nI_m4, nI_m5, nI_m6, nI_m8, nI_m10, nI_m31, nI_m48, nI_m60, nI_m256, nI_t5, nI_t6, nI_a1, nI_a48, nI_a96, nI_d5, nI_d6, nI_d8, nI_d10, nI_d20, nI_s1, nI_s48, pk_sub]
    repeat (first | (with_reducible refine pk1 ?_ ?_; omega) | (with_reducible refine pk2 ?_ ?_; omega) | (with_reducible refine bd1 ?_ ?_; omega))
    exact bad (by omega)
  · simp (disch := omega) only [true_imp_iff, false_imp_iff, not_true_eq_false, not_false_eq_true, and_true, true_and, Int32.reduceToInt, Int64.reduceToInt, Int32.reduceAdd, fa_lt, fa_le, fa_eq, cmi_lt, cmi_le, cmi_gt, cmi_ge, cmi_eq, fa_lt64, fa_le64, fa_eq64, Int32.toInt_toInt64, nI_toInt, ti_m1, sub1_ti, inB_iff, nI_clamp, Int32.add_zero, nI_1, nI_add, nI_p2, nI_p3, nI_p4, nI_p5, nI_p6, nI_p8, nI_p9, nI_p10, nI_m3, nI_m4, nI_m5, nI_m6, nI_m8, nI_m10, nI_m31, nI_m48, nI_m60, nI_m256, nI_t5, nI_t6, nI_a1, nI_a48, nI_a96, nI_d5, nI_d6, nI_d8, nI_d10, nI_d20, nI_s1, nI_s48, pk_sub]
    repeat (first | (with_reducible refine pk1 ?_ ?_; omega) | (with_reducible refine pk2 ?_ ?_; omega) | (with_reducible refine bd1 ?_ ?_; omega))
    exact bad (by omega)
  simp (disch := omega) only [true_imp_iff, false_imp_iff, not_true_eq_false, not_false_eq_true, and_true, true_and, Int32.reduceToInt, Int64.reduceToInt, Int32.reduceAdd, fa_lt, fa_le, fa_eq, cmi_lt, cmi_le, cmi_gt, cmi_ge, cmi_eq, fa_lt64, fa_le64, fa_eq64, Int32.toInt_toInt64, nI_toInt, ti_m1, sub1_ti, inB_iff, nI_clamp, Int32.add_zero, nI_1, nI_add, nI_p2, nI_p3, nI_p4, nI_p5, nI_p6, nI_p8, nI_p9, nI_p10, nI_m3, nI_m4, nI_m5, nI_m6, nI_m8, nI_m10, nI_m31, nI_m48, nI_m60, nI_m256, nI_t5, nI_t6, nI_a1, nI_a48, nI_a96, nI_d5, nI_d6, nI_d8, nI_d10, nI_d20, nI_s1, nI_s48, pk_sub]
  repeat (first | (with_reducible refine pk1 ?_ ?_; omega) | (with_reducible refine pk2 ?_ ?_; omega) | (with_reducible refine bd1 ?_ ?_; omega))
  rcases (by omega : s = 0 ∨ s = 1 ∨ s = 2) with e | e | e
  · subst e
    refine c_162S (n := n0) (f := f0) p1 p4 (fun i hi => ⟨(p5 i hi).1, by
      have := (p5 i hi).2.2
      rw [Nat.mul_zero, Nat.zero_add] at this
      exact this⟩) ?_
    intro d x r m hF hf d3 dv fr
    have ex := FF_u hF F0
    subst ex
    obtain ⟨er, em⟩ := ftS_u hf t0
    refine kk d r ?_ (fun a y z1 z2 => fr a y z1 (by omega) (by omega))
    rw [if_pos (show nI 0 = 0 from rfl), er, a0]
  · subst e
    refine c_162C (n := n1) (f := f1) q1 q4 (fun i hi => ⟨(q5 i hi).1, (q5 i hi).2.2⟩) ?_
    intro d x r m hF hf d3 dv fr
    have ex := FF_u hF F1
    subst ex
    obtain ⟨er, em⟩ := ftC_u hf t1
    refine kk d r ?_ (fun a y z1 z2 => fr a y z1 (by omega) (by omega))
    rw [if_neg (by decide), if_pos (show nI 1 = 1 from rfl), er, a1]
  · subst e
    refine r_162 (pk2 (by decide) ?_)
    refine c_161 (n := n2) (f := f2) u1 u4 (fun i hi => ⟨(u5 i hi).1, (u5 i hi).2.2⟩) ?_
    intro d x r m hF hf d3 dv fr
    have ex := FF_u hF F2
    subst ex
    obtain ⟨er, em⟩ := ftM_u hf t2
    refine kk d r ?_ (fun a y z1 z2 => fr a y (by omega) (by omega))
    rw [if_neg (by decide), if_neg (by decide), if_pos (show nI 2 = 2 from rfl), er, a2]
theorem k_94 (a : Int32) (kk : ∀ r, (r = if a = 0 then di 1 3 else if a = 1 then di 3 3 else if a = 2 then di 5 3 else -2) → K r di dl) : ClI 1 94 [.ref 0, .int a] di dl K := by
  have bad : (a.toInt < 0 ∨ 3 ≤ a.toInt) → K (-2) di dl := by
    intro h
    refine kk (-2) ?_
    rw [if_neg (fun z => by rw [z, ti_0] at h; omega), if_neg (fun z => by rw [z, ti_1] at h; omega), if_neg (fun z => by rw [z, ti_2] at h; omega)]
  refine r_94 ?_
  rcases ixi a 3 (by omega) with h | h | ⟨s, hs3, rfl⟩
  · simp (disch := omega) only [true_imp_iff, false_imp_iff, not_true_eq_false, not_false_eq_true, and_true, true_and, Int32.reduceToInt, Int64.reduceToInt, Int32.reduceAdd, fa_lt, fa_le, fa_eq, cmi_lt, cmi_le, cmi_gt, cmi_ge, cmi_eq, fa_lt64, fa_le64, fa_eq64, Int32.toInt_toInt64, nI_toInt, ti_m1, sub1_ti, inB_iff, nI_clamp, Int32.add_zero, nI_1, nI_add, nI_p2, nI_p3, nI_p4, nI_p5, nI_p6, nI_p8, nI_p9, nI_p10, nI_m3, nI_m4, nI_m5, nI_m6, nI_m8, nI_m10, nI_m31, nI_m48, nI_m60, nI_m256, nI_t5, nI_t6, nI_a1, nI_a48, nI_a96, nI_d5, nI_d6, nI_d8, nI_d10, nI_d20, nI_s1, nI_s48, pk_sub]
    repeat (first | (with_reducible refine pk1 ?_ ?_; omega) | (with_reducible refine pk2 ?_ ?_; omega) | (with_reducible refine bd1 ?_ ?_; omega))
    exact bad (by omega)
  · simp (disch := omega) only [true_imp_iff, false_imp_iff, not_true_eq_false, not_false_eq_true, and_true, true_and, Int32.reduceToInt, Int64.reduceToInt, Int32.reduceAdd, fa_lt, fa_le, fa_eq, cmi_lt, cmi_le, cmi_gt, cmi_ge, cmi_eq, fa_lt64, fa_le64, fa_eq64, Int32.toInt_toInt64, nI_toInt, ti_m1, sub1_ti, inB_iff, nI_clamp, Int32.add_zero, nI_1, nI_add, nI_p2, nI_p3, nI_p4, nI_p5, nI_p6, nI_p8, nI_p9, nI_p10, nI_m3, nI_m4, nI_m5, nI_m6, nI_m8, nI_m10, nI_m31, nI_m48, nI_m60, nI_m256, nI_t5, nI_t6, nI_a1, nI_a48, nI_a96, nI_d5, nI_d6, nI_d8, nI_d10, nI_d20, nI_s1, nI_s48, pk_sub]
    repeat (first | (with_reducible refine pk1 ?_ ?_; omega) | (with_reducible refine pk2 ?_ ?_; omega) | (with_reducible refine bd1 ?_ ?_; omega))
    exact bad (by omega)
  refine pk2 ⟨by rw [fa_lt, nI_toInt (by omega), ti_0]; omega, nI_pos' (by omega)⟩ ?_
  refine pk2 ⟨fun z => by rw [fa_le, nI_toInt (by omega), ti_3] at z; omega, nI_lt (b := 3) hs3 (by decide)⟩ ?_
  refine ⟨inB_n hs3 (by decide), ?_, ?_, ?_⟩
  · intro e
    refine kk _ ?_
    rw [if_pos e]
  · intro e
    refine kk _ ?_
    rw [if_neg (fun z => by rw [e] at z; exact absurd z (by decide)), if_pos e]
  · intro e
    refine kk _ ?_
    rw [if_neg (fun z => by rw [e] at z; exact absurd z (by decide)), if_neg (fun z => by rw [e] at z; exact absurd z (by decide)), if_pos e]
/-- count -/
def a_co (di : tDi) (a : Int32) : Int32 := if a = 0 then di 1 4 else if a = 1 then di 3 4 else if a = 2 then di 5 4 else if a = 3 then di 1 2 else if a = 4 then di 3 2 else if a = 5 then di 5 2 else if a = 6 then di 8 8 else if a = 7 then di 159 8 else if a = 8 then di 0 10 else -2
theorem k_121 (a : Int32) (kk : K (a_co di a) di dl) : ClI 0 121 [.ref 0, .int a] di dl K := by
  refine r_121 ?_
  unfold a_co at kk
  by_cases e : a = 0
  · rw [if_pos e] at kk
    exact w_e e kk
  rw [if_neg e] at kk
  refine w_n e ?_
  by_cases e : a = 1
  · rw [if_pos e] at kk
    exact w_e e kk
  rw [if_neg e] at kk
  refine w_n e ?_
  by_cases e : a = 2
  · rw [if_pos e] at kk
    exact w_e e kk
  rw [if_neg e] at kk
  refine w_n e ?_
  by_cases e : a = 3
  · rw [if_pos e] at kk
    exact w_e e kk
  rw [if_neg e] at kk
  refine w_n e ?_
  by_cases e : a = 4
  · rw [if_pos e] at kk
    exact w_e e kk
  rw [if_neg e] at kk
  refine w_n e ?_
  by_cases e : a = 5
  · rw [if_pos e] at kk
    exact w_e e kk
  rw [if_neg e] at kk
  refine w_n e ?_
  by_cases e : a = 6
  · rw [if_pos e] at kk
    exact w_e e kk
  rw [if_neg e] at kk
  refine w_n e ?_
  by_cases e : a = 7
  · rw [if_pos e] at kk
    exact w_e e kk
  rw [if_neg e] at kk
  refine w_n e ?_
  by_cases e : a = 8
  · rw [if_pos e] at kk
    exact w_e e kk
  rw [if_neg e] at kk
  exact w_n e kk
theorem k_216 (hx : Itx di) (hs : Ise di) (hw : Wt t) (hc : Cs t di) (hn : Ini di) (hl : Ila di) (a : Int32) (kk : ∀ d, Rs t d → Fm di d → K (a_co di a) d dl) : ClI 7 216 [.ref 176, .int a] di dl K := by
  refine r_216 (c_163 hx hs hw hc ?_)
  intro d hr fm
  replace kk := kk d hr fm
  obtain ⟨c1, c2, c3, c4, c5, c6, c7, c8⟩ := hr
  obtain ⟨⟨n0, f0, ⟨_, _, p3, p4, _⟩, _⟩, ⟨n1, f1, ⟨_, _, q3, q4, _⟩, _⟩, ⟨n2, f2, ⟨_, _, u3, u4, _⟩, _⟩⟩ := hx
  obtain ⟨nn, _, i2, i3, _⟩ := hn
  have e0 : d 183 0 = di 1 4 := c1.trans hc.1.1.symm
  have e1 : d 183 1 = di 3 4 := c2.trans hc.2.1.1.symm
  have e2 : d 183 2 = di 5 4 := c3.trans hc.2.2.1.1.symm
  have e3 : d 182 0 = di 1 2 := by rw [fm _ _ (by omega) (by omega), p4]; exact p3.symm
  have e4 : d 182 1 = di 3 2 := by rw [fm _ _ (by omega) (by omega), q4]; exact q3.symm
  have e5 : d 182 2 = di 5 2 := by rw [fm _ _ (by omega) (by omega), u4]; exact u3.symm
  have e6 : d 187 0 = di 8 8 := c4.trans hc.2.2.2.1.symm
  have e7 : d 176 18 = di 159 8 := by rw [fm _ _ (by omega) (by omega), i2, i3]
  have e8 : d 176 4 = di 0 10 := by rw [fm _ _ (by omega) (by omega)]; exact hl.symm
  unfold a_co at kk
  by_cases e : a = 0
  · rw [if_pos e] at kk
    refine w_e e ?_
    subst e
    exact ⟨by decide, by rw [← e0] at kk; exact kk⟩
  rw [if_neg e] at kk
  refine w_n e ?_
  by_cases e : a = 1
  · rw [if_pos e] at kk
    refine w_e e ?_
    subst e
    exact ⟨by decide, by rw [← e1] at kk; exact kk⟩
  rw [if_neg e] at kk
  refine w_n e ?_
  by_cases e : a = 2
  · rw [if_pos e] at kk
    refine w_e e ?_
    subst e
    exact ⟨by decide, by rw [← e2] at kk; exact kk⟩
  rw [if_neg e] at kk
  refine w_n e ?_
  by_cases e : a = 3
  · rw [if_pos e] at kk
    refine w_e e ?_
    subst e
    exact ⟨by decide, by rw [← e3] at kk; exact kk⟩
  rw [if_neg e] at kk
  refine w_n e ?_
  by_cases e : a = 4
  · rw [if_pos e] at kk
    refine w_e e ?_
    subst e
    exact ⟨by decide, by rw [← e4] at kk; exact kk⟩
  rw [if_neg e] at kk
  refine w_n e ?_
  by_cases e : a = 5
  · rw [if_pos e] at kk
    refine w_e e ?_
    subst e
    exact ⟨by decide, by rw [← e5] at kk; exact kk⟩
  rw [if_neg e] at kk
  refine w_n e ?_
  by_cases e : a = 6
  · rw [if_pos e] at kk
    refine w_e e ?_
    rw [← e6] at kk
    exact kk
  rw [if_neg e] at kk
  refine w_n e ?_
  by_cases e : a = 7
  · rw [if_pos e] at kk
    refine w_e e ?_
    rw [← e7] at kk
    exact kk
  rw [if_neg e] at kk
  refine w_n e ?_
  by_cases e : a = 8
  · rw [if_pos e] at kk
    refine w_e e ?_
    rw [← e8] at kk
    exact kk
  rw [if_neg e] at kk
  exact w_n e kk
end ANS
