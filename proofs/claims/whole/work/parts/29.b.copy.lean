/-! copy: the reference's two loops -/
def mvd (di : tDi) (o k : Nat) : tDi := fun x y => if x = 180 ∧ y < k then di 179 (o + y) else di x y
def cpd (di : tDi) (o k : Nat) : tDi := fun x y => if x = 179 ∧ o ≤ y ∧ y < o + k then di 180 (y - o) else di x y
theorem mvd_0 {di : tDi} {o : Nat} : mvd di o 0 = di := by
  funext x y
  exact if_neg (fun z => by omega)
theorem mvd_s {di : tDi} {o k : Nat} : up2 (mvd di o k) 180 k (mvd di o k 179 (o + k)) = mvd di o (k + 1) := by
  funext x y
  unfold up2 mvd
  rw [if_neg (show ¬ (179 = 180 ∧ o + k < k) by omega)]
  by_cases h : x = 180 ∧ y = k
  · rw [if_pos h, if_pos ⟨h.1, by omega⟩, h.2]
  · rw [if_neg h]
    by_cases h2 : x = 180 ∧ y < k
    · rw [if_pos h2, if_pos ⟨h2.1, by omega⟩]
    · rw [if_neg h2, if_neg (fun z => h2 ⟨z.1, by
        have : ¬ y = k := fun e => h ⟨z.1, e⟩
        omega⟩)]
theorem cpd_0 {di : tDi} {o : Nat} : cpd di o 0 = di := by
  funext x y
  exact if_neg (fun z => by omega)
theorem cpd_s {di : tDi} {o k : Nat} : up2 (cpd di o k) 179 (o + k) (cpd di o k 180 k) = cpd di o (k + 1) := by
  funext x y
  unfold up2 cpd
  rw [if_neg (show ¬ (180 = 179 ∧ o ≤ k ∧ k < o + k) by omega)]
  by_cases h : x = 179 ∧ y = o + k
  · rw [if_pos h, if_pos ⟨h.1, by omega⟩, h.2, Nat.add_sub_cancel_left]
  · rw [if_neg h]
    by_cases h2 : x = 179 ∧ o ≤ y ∧ y < o + k
    · rw [if_pos h2, if_pos ⟨h2.1, by omega⟩]
    · rw [if_neg h2, if_neg (fun z => h2 ⟨z.1, z.2.1, by
        have : ¬ y = o + k := fun e => h ⟨z.1, e⟩
        omega⟩)]
theorem l_150b {di : tDi} {dl : tDl} {t j n : Nat} (ht : t < 4) (hn : j + n ≤ 60) {K : Int32 → tDi → tDl → Prop} (kk : K 1 (cpd di (60 * t + j) n) dl) : Wq none 2 150 157 [(0, .ref 176), (3, .int (nI t)), (4, .int (nI j)), (5, .int (nI n)), (6, .int 0)] [] di dl (RI K) := by
  have L : ∀ m k, k + m = n → Wq none 2 150 157 [(0, .ref 176), (3, .int (nI t)), (4, .int (nI j)), (5, .int (nI n)), (6, .int (nI k))] [] (cpd di (60 * t + j) k) dl (RI K) := by
    intro m
    induction m with
    | zero =>
      intro k hk
      have e : k = n := by omega
      subst e
      exact r_150_157 (w_l' (Int32.le_refl _) kk)
    | succ m ih =>
      intro k hk
      refine r_150_157 (w_r' (nI_lt (by omega) (by omega)) ?_)
      rw [show (60 : Int32) = nI 60 from rfl, pk_mul, nI_add, nI_add, nI_clamp (by omega), nI_clamp (by omega), cpd_s, nI_1]
      exact ⟨inB_n (by omega) (by decide), inB_n (by omega) (by decide), ih (k + 1) (by omega)⟩
  have := L n 0 (by omega)
  rw [cpd_0] at this
  exact this
theorem l_150a {di : tDi} {dl : tDl} {s t i j n : Nat} (hs : s < 4) (ht : t < 4) (hi : i + n ≤ 60) (hn : j + n ≤ 60) {K : Int32 → tDi → tDl → Prop} (kk : K 1 (cpd (mvd di (60 * s + i) n) (60 * t + j) n) dl) : Wq none 2 150 120 [(0, .ref 176), (1, .int (nI s)), (2, .int (nI i)), (3, .int (nI t)), (4, .int (nI j)), (5, .int (nI n)), (6, .int 0)] [] di dl (RI K) := by
  have L : ∀ m k, k + m = n → Wq none 2 150 120 [(0, .ref 176), (1, .int (nI s)), (2, .int (nI i)), (3, .int (nI t)), (4, .int (nI j)), (5, .int (nI n)), (6, .int (nI k))] [] (mvd di (60 * s + i) k) dl (RI K) := by
    intro m
    induction m with
    | zero =>
      intro k hk
      have e : k = n := by omega
      subst e
      exact r_150_120 (w_l' (Int32.le_refl _) (l_150b ht hn kk))
    | succ m ih =>
      intro k hk
      refine r_150_120 (w_r' (nI_lt (by omega) (by omega)) ?_)
      rw [show (60 : Int32) = nI 60 from rfl, pk_mul, nI_add, nI_add, nI_clamp (by omega), nI_clamp (by omega), mvd_s, nI_1]
      exact ⟨inB_n (by omega) (by decide), inB_n (by omega) (by decide), ih (k + 1) (by omega)⟩
  have := L n 0 (by omega)
  rw [mvd_0] at this
  exact this
theorem sub_ti {a b : Nat} (ha : a ≤ 60) (hb : b < 2 ^ 31) : (nI a - nI b).toInt = (a : Int) - b := by
  rw [Int32.toInt_sub, nI_toInt (by omega), nI_toInt hb]
  exact Int.bmod_eq_of_le (by omega) (by omega)
theorem add64_ti {a b : Nat} (ha : a < 2 ^ 31) (hb : b < 2 ^ 31) : ((nI a).toInt64 + (nI b).toInt64).toInt = (a : Int) + b := by
  rw [Int64.toInt_add, Int32.toInt_toInt64, Int32.toInt_toInt64, nI_toInt ha, nI_toInt hb]
  exact Int.bmod_eq_of_le (by omega) (by omega)
/-- the class's copy and the reference's, over sheets that are alike -/
theorem copy2 {di : tDi} (hs : Ish di) (hl : Ila di) {s t i j n a b : Nat} (hs4 : s < 4) (ht4 : t < 4) (ha : a ≤ 60) (hb : b ≤ 60) (h5 : di (168 + 2 * s) 2 = nI a) (g5 : di (168 + 2 * t) 2 = nI b) (hi : i + n ≤ a) (hj : j + n ≤ b) (e1 : ∀ k, k < a → di (169 + 2 * s) k = di 179 (60 * s + k)) : Ish (cpd (mvd (cpy2 di (169 + 2 * s) (169 + 2 * t) i j n) (60 * s + i) n) (60 * t + j) n) ∧ Ila (cpd (mvd (cpy2 di (169 + 2 * s) (169 + 2 * t) i j n) (60 * s + i) n) (60 * t + j) n) ∧ Fs di (cpd (mvd (cpy2 di (169 + 2 * s) (169 + 2 * t) i j n) (60 * s + i) n) (60 * t + j) n) := by
  have q : ∀ x y, ¬ x = 169 + 2 * t → ¬ x = 179 → ¬ x = 180 → cpd (mvd (cpy2 di (169 + 2 * s) (169 + 2 * t) i j n) (60 * s + i) n) (60 * t + j) n x y = di x y := by
    intro x y h1 h2 h3
    unfold cpd mvd cpy2
    rw [if_neg (fun z => h2 z.1), if_neg (fun z => h3 z.1), if_neg (fun z => h1 z.1)]
  have q1 : ∀ y, cpd (mvd (cpy2 di (169 + 2 * s) (169 + 2 * t) i j n) (60 * s + i) n) (60 * t + j) n (169 + 2 * t) y = if j ≤ y ∧ y < j + n then di (169 + 2 * s) (i + (y - j)) else di (169 + 2 * t) y := by
    intro y
    unfold cpd mvd cpy2
    rw [if_neg (fun z => by omega), if_neg (fun z => by omega)]
    by_cases h : j ≤ y ∧ y < j + n
    · rw [if_pos ⟨rfl, h⟩, if_pos h]
    · rw [if_neg (fun z => h z.2), if_neg h]
  have q2 : ∀ y, cpd (mvd (cpy2 di (169 + 2 * s) (169 + 2 * t) i j n) (60 * s + i) n) (60 * t + j) n 179 y = if 60 * t + j ≤ y ∧ y < 60 * t + j + n then di 179 (60 * s + i + (y - (60 * t + j))) else di 179 y := by
    intro y
    unfold cpd mvd cpy2
    by_cases h : 60 * t + j ≤ y ∧ y < 60 * t + j + n
    · rw [if_pos ⟨rfl, h⟩, if_pos h, if_pos ⟨rfl, by omega⟩, if_neg (fun z => by omega)]
    · rw [if_neg (fun z => h z.2), if_neg h, if_neg (fun z => by omega), if_neg (fun z => by omega)]
  refine ⟨?_, ?_, ?_⟩
  · intro u hu
    obtain ⟨h1, h2⟩ := hs u hu
    unfold Sh1
    rw [q _ _ (by omega) (by omega) (by omega), q _ _ (by omega) (by omega) (by omega), q _ _ (by omega) (by omega) (by omega), q _ _ (by omega) (by omega) (by omega)]
    refine ⟨h1, h2.imp id ?_⟩
    rintro ⟨h3, m, h4, h6, h7, h8⟩
    refine ⟨h3, m, h4, h6, h7, fun k hk => ?_⟩
    rw [q2]
    by_cases e : u = t
    · subst e
      have em : m = b := (nI_eq (by omega) (by omega)).mp (h6.symm.trans g5)
      subst em
      rw [q1]
      by_cases h : j ≤ k ∧ k < j + n
      · rw [if_pos h, if_pos (by omega), e1 _ (by omega), show 60 * u + k - (60 * u + j) = k - j by omega, Nat.add_assoc]
      · rw [if_neg h, if_neg (by omega)]
        exact h8 k hk
    · rw [q _ _ (by omega) (by omega) (by omega), if_neg (by omega)]
      exact h8 k hk
  · exact Ila_cong (q _ _ (by omega) (by omega) (by omega)) (q _ _ (by omega) (by omega) (by omega)) hl
  · intro x y h1 h2 h3 h4
    exact q _ _ (by omega) (by omega) (by omega)
theorem Ps_find {di : tDi} {dl : tDl} {r r' v : Int32} (hs : Ish di) (h : r = r') : Ps di dl r r' (up2 (up2 di 0 10 v) 176 4 v) dl := by
  obtain ⟨f1, f2, f3⟩ := find2 (v := v) hs
  exact ⟨h, f1, f2, f3, rfl⟩
def Lf (v : Int32) (d0 : tDi) (l0 : tDl) (r : Int32) (d : tDi) (l : tDl) : Prop := r = v ∧ d = d0 ∧ l = l0
theorem p_copy {di : tDi} {dl : tDl} (hs : Ish di) (hl : Ila di) (a1 a2 a3 a4 a5 : Int32) : ClI 1 119 [.ref 0, .int a1, .int a2, .int a3, .int a4, .int a5] di dl (fun r di1 dl1 => ClI 2 150 [.ref 176, .int a1, .int a2, .int a3, .int a4, .int a5] di1 dl1 (fun r' di2 dl2 => Ps di dl r r' di2 dl2)) := by
  rcases ixi a1 4 (by decide) with h | h | ⟨s, hs4, rfl⟩
  · rcases ixi a3 4 (by decide) with g | g | ⟨t, ht4, rfl⟩ <;>
    · refine r_119 ?_
      simp (disch := omega) only [true_imp_iff, false_imp_iff, not_true_eq_false, not_false_eq_true, and_true, true_and, Int32.reduceToInt, Int64.reduceToInt, Int32.reduceAdd, fa_lt, fa_le, fa_eq, cmi_lt, cmi_le, cmi_gt, cmi_ge, cmi_eq, fa_lt64, fa_le64, fa_eq64, Int32.toInt_toInt64, nI_toInt, ti_m1, sub1_ti, inB_iff, nI_clamp, Int32.add_zero, nI_1, nI_add, nI_p2, nI_p3, nI_p4, nI_p5, nI_p6, nI_p8, nI_p9, nI_p10, nI_m3, nI_m4, nI_m5, nI_m6, nI_m8, nI_m10, nI_m31, nI_m48, nI_m60, nI_m256, nI_t5, nI_t6, nI_a1, nI_a48, nI_a96, nI_d5, nI_d6, nI_d8, nI_d10, nI_d20, nI_s1, nI_s48, pk_sub]
      repeat (first | refine pk1 (by omega) ?_ | refine pk2 (by omega) ?_ | refine bd1 (by omega) ?_)
      refine r_150 ?_
      simp (disch := omega) only [true_imp_iff, false_imp_iff, not_true_eq_false, not_false_eq_true, and_true, true_and, Int32.reduceToInt, Int64.reduceToInt, Int32.reduceAdd, fa_lt, fa_le, fa_eq, cmi_lt, cmi_le, cmi_gt, cmi_ge, cmi_eq, fa_lt64, fa_le64, fa_eq64, Int32.toInt_toInt64, nI_toInt, ti_m1, sub1_ti, inB_iff, nI_clamp, Int32.add_zero, nI_1, nI_add, nI_p2, nI_p3, nI_p4, nI_p5, nI_p6, nI_p8, nI_p9, nI_p10, nI_m3, nI_m4, nI_m5, nI_m6, nI_m8, nI_m10, nI_m31, nI_m48, nI_m60, nI_m256, nI_t5, nI_t6, nI_a1, nI_a48, nI_a96, nI_d5, nI_d6, nI_d8, nI_d10, nI_d20, nI_s1, nI_s48, pk_sub]
      repeat (first | refine pk1 (by omega) ?_ | refine pk2 (by omega) ?_ | refine bd1 (by omega) ?_)
      exact Ps_same hs hl
  · rcases ixi a3 4 (by decide) with g | g | ⟨t, ht4, rfl⟩ <;>
    · refine r_119 ?_
      simp (disch := omega) only [true_imp_iff, false_imp_iff, not_true_eq_false, not_false_eq_true, and_true, true_and, Int32.reduceToInt, Int64.reduceToInt, Int32.reduceAdd, fa_lt, fa_le, fa_eq, cmi_lt, cmi_le, cmi_gt, cmi_ge, cmi_eq, fa_lt64, fa_le64, fa_eq64, Int32.toInt_toInt64, nI_toInt, ti_m1, sub1_ti, inB_iff, nI_clamp, Int32.add_zero, nI_1, nI_add, nI_p2, nI_p3, nI_p4, nI_p5, nI_p6, nI_p8, nI_p9, nI_p10, nI_m3, nI_m4, nI_m5, nI_m6, nI_m8, nI_m10, nI_m31, nI_m48, nI_m60, nI_m256, nI_t5, nI_t6, nI_a1, nI_a48, nI_a96, nI_d5, nI_d6, nI_d8, nI_d10, nI_d20, nI_s1, nI_s48, pk_sub]
      repeat (first | refine pk1 (by omega) ?_ | refine pk2 (by omega) ?_ | refine bd1 (by omega) ?_)
      refine r_150 ?_
      simp (disch := omega) only [true_imp_iff, false_imp_iff, not_true_eq_false, not_false_eq_true, and_true, true_and, Int32.reduceToInt, Int64.reduceToInt, Int32.reduceAdd, fa_lt, fa_le, fa_eq, cmi_lt, cmi_le, cmi_gt, cmi_ge, cmi_eq, fa_lt64, fa_le64, fa_eq64, Int32.toInt_toInt64, nI_toInt, ti_m1, sub1_ti, inB_iff, nI_clamp, Int32.add_zero, nI_1, nI_add, nI_p2, nI_p3, nI_p4, nI_p5, nI_p6, nI_p8, nI_p9, nI_p10, nI_m3, nI_m4, nI_m5, nI_m6, nI_m8, nI_m10, nI_m31, nI_m48, nI_m60, nI_m256, nI_t5, nI_t6, nI_a1, nI_a48, nI_a96, nI_d5, nI_d6, nI_d8, nI_d10, nI_d20, nI_s1, nI_s48, pk_sub]
      repeat (first | refine pk1 (by omega) ?_ | refine pk2 (by omega) ?_ | refine bd1 (by omega) ?_)
      exact Ps_same hs hl
  rcases ixi a3 4 (by decide) with g | g | ⟨t, ht4, rfl⟩
  · refine r_119 ?_
    simp (disch := omega) only [true_imp_iff, false_imp_iff, not_true_eq_false, not_false_eq_true, and_true, true_and, Int32.reduceToInt, Int64.reduceToInt, Int32.reduceAdd, fa_lt, fa_le, fa_eq, cmi_lt, cmi_le, cmi_gt, cmi_ge, cmi_eq, fa_lt64, fa_le64, fa_eq64, Int32.toInt_toInt64, nI_toInt, ti_m1, sub1_ti, inB_iff, nI_clamp, Int32.add_zero, nI_1, nI_add, nI_p2, nI_p3, nI_p4, nI_p5, nI_p6, nI_p8, nI_p9, nI_p10, nI_m3, nI_m4, nI_m5, nI_m6, nI_m8, nI_m10, nI_m31, nI_m48, nI_m60, nI_m256, nI_t5, nI_t6, nI_a1, nI_a48, nI_a96, nI_d5, nI_d6, nI_d8, nI_d10, nI_d20, nI_s1, nI_s48, pk_sub]
    repeat (first | refine pk1 (by omega) ?_ | refine pk2 (by omega) ?_ | refine bd1 (by omega) ?_)
    refine r_150 ?_
    simp (disch := omega) only [true_imp_iff, false_imp_iff, not_true_eq_false, not_false_eq_true, and_true, true_and, Int32.reduceToInt, Int64.reduceToInt, Int32.reduceAdd, fa_lt, fa_le, fa_eq, cmi_lt, cmi_le, cmi_gt, cmi_ge, cmi_eq, fa_lt64, fa_le64, fa_eq64, Int32.toInt_toInt64, nI_toInt, ti_m1, sub1_ti, inB_iff, nI_clamp, Int32.add_zero, nI_1, nI_add, nI_p2, nI_p3, nI_p4, nI_p5, nI_p6, nI_p8, nI_p9, nI_p10, nI_m3, nI_m4, nI_m5, nI_m6, nI_m8, nI_m10, nI_m31, nI_m48, nI_m60, nI_m256, nI_t5, nI_t6, nI_a1, nI_a48, nI_a96, nI_d5, nI_d6, nI_d8, nI_d10, nI_d20, nI_s1, nI_s48, pk_sub]
    repeat (first | refine pk1 (by omega) ?_ | refine pk2 (by omega) ?_ | refine bd1 (by omega) ?_)
    exact Ps_same hs hl
  · refine r_119 ?_
    simp (disch := omega) only [true_imp_iff, false_imp_iff, not_true_eq_false, not_false_eq_true, and_true, true_and, Int32.reduceToInt, Int64.reduceToInt, Int32.reduceAdd, fa_lt, fa_le, fa_eq, cmi_lt, cmi_le, cmi_gt, cmi_ge, cmi_eq, fa_lt64, fa_le64, fa_eq64, Int32.toInt_toInt64, nI_toInt, ti_m1, sub1_ti, inB_iff, nI_clamp, Int32.add_zero, nI_1, nI_add, nI_p2, nI_p3, nI_p4, nI_p5, nI_p6, nI_p8, nI_p9, nI_p10, nI_m3, nI_m4, nI_m5, nI_m6, nI_m8, nI_m10, nI_m31, nI_m48, nI_m60, nI_m256, nI_t5, nI_t6, nI_a1, nI_a48, nI_a96, nI_d5, nI_d6, nI_d8, nI_d10, nI_d20, nI_s1, nI_s48, pk_sub]
    repeat (first | refine pk1 (by omega) ?_ | refine pk2 (by omega) ?_ | refine bd1 (by omega) ?_)
    refine r_150 ?_
    simp (disch := omega) only [true_imp_iff, false_imp_iff, not_true_eq_false, not_false_eq_true, and_true, true_and, Int32.reduceToInt, Int64.reduceToInt, Int32.reduceAdd, fa_lt, fa_le, fa_eq, cmi_lt, cmi_le, cmi_gt, cmi_ge, cmi_eq, fa_lt64, fa_le64, fa_eq64, Int32.toInt_toInt64, nI_toInt, ti_m1, sub1_ti, inB_iff, nI_clamp, Int32.add_zero, nI_1, nI_add, nI_p2, nI_p3, nI_p4, nI_p5, nI_p6, nI_p8, nI_p9, nI_p10, nI_m3, nI_m4, nI_m5, nI_m6, nI_m8, nI_m10, nI_m31, nI_m48, nI_m60, nI_m256, nI_t5, nI_t6, nI_a1, nI_a48, nI_a96, nI_d5, nI_d6, nI_d8, nI_d10, nI_d20, nI_s1, nI_s48, pk_sub]
    repeat (first | refine pk1 (by omega) ?_ | refine pk2 (by omega) ?_ | refine bd1 (by omega) ?_)
    exact Ps_same hs hl
  obtain ⟨h1, h2⟩ := hs s hs4
  obtain ⟨g1, g2⟩ := hs t ht4
  rcases h2 with h2 | ⟨⟨f, hf, h3⟩, n, hn, h4, h5, h6⟩
  · refine r_119 ?_
    simp (disch := omega) only [true_imp_iff, false_imp_iff, not_true_eq_false, not_false_eq_true, and_true, true_and, Int32.reduceToInt, Int64.reduceToInt, Int32.reduceAdd, fa_lt, fa_le, fa_eq, cmi_lt, cmi_le, cmi_gt, cmi_ge, cmi_eq, fa_lt64, fa_le64, fa_eq64, Int32.toInt_toInt64, nI_toInt, ti_m1, sub1_ti, inB_iff, nI_clamp, Int32.add_zero, nI_1, nI_add, nI_p2, nI_p3, nI_p4, nI_p5, nI_p6, nI_p8, nI_p9, nI_p10, nI_m3, nI_m4, nI_m5, nI_m6, nI_m8, nI_m10, nI_m31, nI_m48, nI_m60, nI_m256, nI_t5, nI_t6, nI_a1, nI_a48, nI_a96, nI_d5, nI_d6, nI_d8, nI_d10, nI_d20, nI_s1, nI_s48, pk_sub, up_eq, up_na, up_nk, h1, h2]
    repeat (first | refine pk1 (by omega) ?_ | refine pk2 (by omega) ?_ | refine bd1 (by omega) ?_)
    refine r_150 ?_
    simp (disch := omega) only [true_imp_iff, false_imp_iff, not_true_eq_false, not_false_eq_true, and_true, true_and, Int32.reduceToInt, Int64.reduceToInt, Int32.reduceAdd, fa_lt, fa_le, fa_eq, cmi_lt, cmi_le, cmi_gt, cmi_ge, cmi_eq, fa_lt64, fa_le64, fa_eq64, Int32.toInt_toInt64, nI_toInt, ti_m1, sub1_ti, inB_iff, nI_clamp, Int32.add_zero, nI_1, nI_add, nI_p2, nI_p3, nI_p4, nI_p5, nI_p6, nI_p8, nI_p9, nI_p10, nI_m3, nI_m4, nI_m5, nI_m6, nI_m8, nI_m10, nI_m31, nI_m48, nI_m60, nI_m256, nI_t5, nI_t6, nI_a1, nI_a48, nI_a96, nI_d5, nI_d6, nI_d8, nI_d10, nI_d20, nI_s1, nI_s48, pk_sub, up_eq, up_na, up_nk, h1, h2]
    repeat (first | refine pk1 (by omega) ?_ | refine pk2 (by omega) ?_ | refine bd1 (by omega) ?_)
    exact Ps_find hs rfl
  rcases g2 with g2 | ⟨⟨e, he, g3⟩, m, hm, g4, g5, g6⟩
  · refine r_119 ?_
    simp (disch := omega) only [true_imp_iff, false_imp_iff, not_true_eq_false, not_false_eq_true, and_true, true_and, Int32.reduceToInt, Int64.reduceToInt, Int32.reduceAdd, fa_lt, fa_le, fa_eq, cmi_lt, cmi_le, cmi_gt, cmi_ge, cmi_eq, fa_lt64, fa_le64, fa_eq64, Int32.toInt_toInt64, nI_toInt, ti_m1, sub1_ti, inB_iff, nI_clamp, Int32.add_zero, nI_1, nI_add, nI_p2, nI_p3, nI_p4, nI_p5, nI_p6, nI_p8, nI_p9, nI_p10, nI_m3, nI_m4, nI_m5, nI_m6, nI_m8, nI_m10, nI_m31, nI_m48, nI_m60, nI_m256, nI_t5, nI_t6, nI_a1, nI_a48, nI_a96, nI_d5, nI_d6, nI_d8, nI_d10, nI_d20, nI_s1, nI_s48, pk_sub, up_eq, up_na, up_nk, h1, g1, g2, h3]
    repeat (first | refine pk1 (by omega) ?_ | refine pk2 (by omega) ?_ | refine bd1 (by omega) ?_)
    refine r_150 ?_
    simp (disch := omega) only [true_imp_iff, false_imp_iff, not_true_eq_false, not_false_eq_true, and_true, true_and, Int32.reduceToInt, Int64.reduceToInt, Int32.reduceAdd, fa_lt, fa_le, fa_eq, cmi_lt, cmi_le, cmi_gt, cmi_ge, cmi_eq, fa_lt64, fa_le64, fa_eq64, Int32.toInt_toInt64, nI_toInt, ti_m1, sub1_ti, inB_iff, nI_clamp, Int32.add_zero, nI_1, nI_add, nI_p2, nI_p3, nI_p4, nI_p5, nI_p6, nI_p8, nI_p9, nI_p10, nI_m3, nI_m4, nI_m5, nI_m6, nI_m8, nI_m10, nI_m31, nI_m48, nI_m60, nI_m256, nI_t5, nI_t6, nI_a1, nI_a48, nI_a96, nI_d5, nI_d6, nI_d8, nI_d10, nI_d20, nI_s1, nI_s48, pk_sub, up_eq, up_na, up_nk, h1, g1, g2, h3]
    repeat (first | refine pk1 (by omega) ?_ | refine pk2 (by omega) ?_ | refine bd1 (by omega) ?_)
    exact Ps_find hs rfl
  by_cases hfe : f = e
  · subst hfe
    have leaf : ∀ (H1 : ClI 1 119 [.ref 0, .int (nI s), .int a2, .int (nI t), .int a4, .int a5] di dl (Lf (-12) (up2 di 0 10 2) dl)) (H2 : ClI 2 150 [.ref 176, .int (nI s), .int a2, .int (nI t), .int a4, .int a5] (up2 di 0 10 2) dl (Lf (-12) (up2 (up2 di 0 10 2) 176 4 2) dl)), ClI 1 119 [.ref 0, .int (nI s), .int a2, .int (nI t), .int a4, .int a5] di dl (fun r di1 dl1 => ClI 2 150 [.ref 176, .int (nI s), .int a2, .int (nI t), .int a4, .int a5] di1 dl1 (fun r' di2 dl2 => Ps di dl r r' di2 dl2)) := by
      intro H1 H2
      refine ClI_mono H1 ?_
      rintro r di1 dl1 ⟨rfl, rfl, rfl⟩
      refine ClI_mono H2 ?_
      rintro r di1 dl1 ⟨rfl, rfl, rfl⟩
      exact Ps_find hs rfl
    rcases ixp a2 with k2 | ⟨i, hi, rfl⟩
    · refine leaf (r_119 ?_) (r_150 ?_)
      · simp (disch := omega) only [true_imp_iff, false_imp_iff, not_true_eq_false, not_false_eq_true, and_true, true_and, Int32.reduceToInt, Int64.reduceToInt, Int32.reduceAdd, fa_lt, fa_le, fa_eq, cmi_lt, cmi_le, cmi_gt, cmi_ge, cmi_eq, fa_lt64, fa_le64, fa_eq64, Int32.toInt_toInt64, nI_toInt, ti_m1, sub1_ti, inB_iff, nI_clamp, Int32.add_zero, nI_1, nI_add, nI_p2, nI_p3, nI_p4, nI_p5, nI_p6, nI_p8, nI_p9, nI_p10, nI_m3, nI_m4, nI_m5, nI_m6, nI_m8, nI_m10, nI_m31, nI_m48, nI_m60, nI_m256, nI_t5, nI_t6, nI_a1, nI_a48, nI_a96, nI_d5, nI_d6, nI_d8, nI_d10, nI_d20, nI_s1, nI_s48, pk_sub, up_eq, up_na, up_nk, h1, g1, h3, g3, h4, g4]
        repeat (first | refine pk1 (by omega) ?_ | refine pk2 (by omega) ?_ | refine bd1 (by omega) ?_)
        exact ⟨rfl, rfl, rfl⟩
      · simp (disch := omega) only [true_imp_iff, false_imp_iff, not_true_eq_false, not_false_eq_true, and_true, true_and, Int32.reduceToInt, Int64.reduceToInt, Int32.reduceAdd, fa_lt, fa_le, fa_eq, cmi_lt, cmi_le, cmi_gt, cmi_ge, cmi_eq, fa_lt64, fa_le64, fa_eq64, Int32.toInt_toInt64, nI_toInt, ti_m1, sub1_ti, inB_iff, nI_clamp, Int32.add_zero, nI_1, nI_add, nI_p2, nI_p3, nI_p4, nI_p5, nI_p6, nI_p8, nI_p9, nI_p10, nI_m3, nI_m4, nI_m5, nI_m6, nI_m8, nI_m10, nI_m31, nI_m48, nI_m60, nI_m256, nI_t5, nI_t6, nI_a1, nI_a48, nI_a96, nI_d5, nI_d6, nI_d8, nI_d10, nI_d20, nI_s1, nI_s48, pk_sub, up_eq, up_na, up_nk, h3, g3, h5, g5]
        repeat (first | refine pk1 (by omega) ?_ | refine pk2 (by omega) ?_ | refine bd1 (by omega) ?_)
        exact ⟨rfl, rfl, rfl⟩
    rcases ixp a5 with k5 | ⟨l, hl5, rfl⟩
    · refine leaf (r_119 ?_) (r_150 ?_)
      · simp (disch := omega) only [true_imp_iff, false_imp_iff, not_true_eq_false, not_false_eq_true, and_true, true_and, Int32.reduceToInt, Int64.reduceToInt, Int32.reduceAdd, fa_lt, fa_le, fa_eq, cmi_lt, cmi_le, cmi_gt, cmi_ge, cmi_eq, fa_lt64, fa_le64, fa_eq64, Int32.toInt_toInt64, nI_toInt, ti_m1, sub1_ti, inB_iff, nI_clamp, Int32.add_zero, nI_1, nI_add, nI_p2, nI_p3, nI_p4, nI_p5, nI_p6, nI_p8, nI_p9, nI_p10, nI_m3, nI_m4, nI_m5, nI_m6, nI_m8, nI_m10, nI_m31, nI_m48, nI_m60, nI_m256, nI_t5, nI_t6, nI_a1, nI_a48, nI_a96, nI_d5, nI_d6, nI_d8, nI_d10, nI_d20, nI_s1, nI_s48, pk_sub, up_eq, up_na, up_nk, h1, g1, h3, g3, h4, g4]
        repeat (first | refine pk1 (by omega) ?_ | refine pk2 (by omega) ?_ | refine bd1 (by omega) ?_)
        exact ⟨rfl, rfl, rfl⟩
      · rcases ixp a4 with k4 | ⟨j, hj, rfl⟩
        · simp (disch := omega) only [true_imp_iff, false_imp_iff, not_true_eq_false, not_false_eq_true, and_true, true_and, Int32.reduceToInt, Int64.reduceToInt, Int32.reduceAdd, fa_lt, fa_le, fa_eq, cmi_lt, cmi_le, cmi_gt, cmi_ge, cmi_eq, fa_lt64, fa_le64, fa_eq64, Int32.toInt_toInt64, nI_toInt, ti_m1, sub1_ti, inB_iff, nI_clamp, Int32.add_zero, nI_1, nI_add, nI_p2, nI_p3, nI_p4, nI_p5, nI_p6, nI_p8, nI_p9, nI_p10, nI_m3, nI_m4, nI_m5, nI_m6, nI_m8, nI_m10, nI_m31, nI_m48, nI_m60, nI_m256, nI_t5, nI_t6, nI_a1, nI_a48, nI_a96, nI_d5, nI_d6, nI_d8, nI_d10, nI_d20, nI_s1, nI_s48, pk_sub, up_eq, up_na, up_nk, h3, g3, h5, g5]
          repeat (first | refine pk1 (by omega) ?_ | refine pk2 (by omega) ?_ | refine bd1 (by omega) ?_)
          exact ⟨rfl, rfl, rfl⟩
        · simp (disch := omega) only [true_imp_iff, false_imp_iff, not_true_eq_false, not_false_eq_true, and_true, true_and, Int32.reduceToInt, Int64.reduceToInt, Int32.reduceAdd, fa_lt, fa_le, fa_eq, cmi_lt, cmi_le, cmi_gt, cmi_ge, cmi_eq, fa_lt64, fa_le64, fa_eq64, Int32.toInt_toInt64, nI_toInt, ti_m1, sub1_ti, inB_iff, nI_clamp, Int32.add_zero, nI_1, nI_add, nI_p2, nI_p3, nI_p4, nI_p5, nI_p6, nI_p8, nI_p9, nI_p10, nI_m3, nI_m4, nI_m5, nI_m6, nI_m8, nI_m10, nI_m31, nI_m48, nI_m60, nI_m256, nI_t5, nI_t6, nI_a1, nI_a48, nI_a96, nI_d5, nI_d6, nI_d8, nI_d10, nI_d20, nI_s1, nI_s48, pk_sub, up_eq, up_na, up_nk, h3, g3, h5, g5]
          repeat (first | refine pk1 (by omega) ?_ | refine pk2 (by omega) ?_ | refine bd1 (by omega) ?_)
          exact ⟨rfl, rfl, rfl⟩
    rcases ixp a4 with k4 | ⟨j, hj, rfl⟩
    · refine leaf (r_119 ?_) (r_150 ?_)
      · by_cases hc : i + l ≤ n
        · simp (disch := omega) only [true_imp_iff, false_imp_iff, not_true_eq_false, not_false_eq_true, and_true, true_and, Int32.reduceToInt, Int64.reduceToInt, Int32.reduceAdd, fa_lt, fa_le, fa_eq, cmi_lt, cmi_le, cmi_gt, cmi_ge, cmi_eq, fa_lt64, fa_le64, fa_eq64, Int32.toInt_toInt64, nI_toInt, ti_m1, sub1_ti, inB_iff, nI_clamp, Int32.add_zero, nI_1, nI_add, nI_p2, nI_p3, nI_p4, nI_p5, nI_p6, nI_p8, nI_p9, nI_p10, nI_m3, nI_m4, nI_m5, nI_m6, nI_m8, nI_m10, nI_m31, nI_m48, nI_m60, nI_m256, nI_t5, nI_t6, nI_a1, nI_a48, nI_a96, nI_d5, nI_d6, nI_d8, nI_d10, nI_d20, nI_s1, nI_s48, pk_sub, up_eq, up_na, up_nk, h1, g1, h3, g3, h4, g4, sub_ti]
          repeat (first | refine pk1 (by omega) ?_ | refine pk2 (by omega) ?_ | refine bd1 (by omega) ?_)
          exact ⟨rfl, rfl, rfl⟩
        · simp (disch := omega) only [true_imp_iff, false_imp_iff, not_true_eq_false, not_false_eq_true, and_true, true_and, Int32.reduceToInt, Int64.reduceToInt, Int32.reduceAdd, fa_lt, fa_le, fa_eq, cmi_lt, cmi_le, cmi_gt, cmi_ge, cmi_eq, fa_lt64, fa_le64, fa_eq64, Int32.toInt_toInt64, nI_toInt, ti_m1, sub1_ti, inB_iff, nI_clamp, Int32.add_zero, nI_1, nI_add, nI_p2, nI_p3, nI_p4, nI_p5, nI_p6, nI_p8, nI_p9, nI_p10, nI_m3, nI_m4, nI_m5, nI_m6, nI_m8, nI_m10, nI_m31, nI_m48, nI_m60, nI_m256, nI_t5, nI_t6, nI_a1, nI_a48, nI_a96, nI_d5, nI_d6, nI_d8, nI_d10, nI_d20, nI_s1, nI_s48, pk_sub, up_eq, up_na, up_nk, h1, g1, h3, g3, h4, g4, sub_ti]
          repeat (first | refine pk1 (by omega) ?_ | refine pk2 (by omega) ?_ | refine bd1 (by omega) ?_)
          exact ⟨rfl, rfl, rfl⟩
      · simp (disch := omega) only [true_imp_iff, false_imp_iff, not_true_eq_false, not_false_eq_true, and_true, true_and, Int32.reduceToInt, Int64.reduceToInt, Int32.reduceAdd, fa_lt, fa_le, fa_eq, cmi_lt, cmi_le, cmi_gt, cmi_ge, cmi_eq, fa_lt64, fa_le64, fa_eq64, Int32.toInt_toInt64, nI_toInt, ti_m1, sub1_ti, inB_iff, nI_clamp, Int32.add_zero, nI_1, nI_add, nI_p2, nI_p3, nI_p4, nI_p5, nI_p6, nI_p8, nI_p9, nI_p10, nI_m3, nI_m4, nI_m5, nI_m6, nI_m8, nI_m10, nI_m31, nI_m48, nI_m60, nI_m256, nI_t5, nI_t6, nI_a1, nI_a48, nI_a96, nI_d5, nI_d6, nI_d8, nI_d10, nI_d20, nI_s1, nI_s48, pk_sub, up_eq, up_na, up_nk, h3, g3, h5, g5]
        repeat (first | refine pk1 (by omega) ?_ | refine pk2 (by omega) ?_ | refine bd1 (by omega) ?_)
        exact ⟨rfl, rfl, rfl⟩
    by_cases hc : i + l ≤ n
    · by_cases hd : j + l ≤ m
      · refine r_119 ?_
        simp (disch := omega) only [true_imp_iff, false_imp_iff, not_true_eq_false, not_false_eq_true, and_true, true_and, Int32.reduceToInt, Int64.reduceToInt, Int32.reduceAdd, fa_lt, fa_le, fa_eq, cmi_lt, cmi_le, cmi_gt, cmi_ge, cmi_eq, fa_lt64, fa_le64, fa_eq64, Int32.toInt_toInt64, nI_toInt, ti_m1, sub1_ti, inB_iff, nI_clamp, Int32.add_zero, nI_1, nI_add, nI_p2, nI_p3, nI_p4, nI_p5, nI_p6, nI_p8, nI_p9, nI_p10, nI_m3, nI_m4, nI_m5, nI_m6, nI_m8, nI_m10, nI_m31, nI_m48, nI_m60, nI_m256, nI_t5, nI_t6, nI_a1, nI_a48, nI_a96, nI_d5, nI_d6, nI_d8, nI_d10, nI_d20, nI_s1, nI_s48, pk_sub, up_eq, up_na, up_nk, h1, g1, h3, g3, h4, g4, sub_ti]
        repeat (first | refine pk1 (by omega) ?_ | refine pk2 (by omega) ?_ | refine bd1 (by omega) ?_)
        obtain ⟨f1, f2, f3⟩ := copy2 hs hl hs4 ht4 hn hm h4 g4 hc hd h6
        have u : ∀ y, cpy2 di (169 + 2 * s) (169 + 2 * t) i j l 177 y = di 177 y := fun y => if_neg (fun z => by omega)
        have v : ∀ y, cpy2 di (169 + 2 * s) (169 + 2 * t) i j l 178 y = di 178 y := fun y => if_neg (fun z => by omega)
        refine r_150 ?_
        simp (disch := omega) only [true_imp_iff, false_imp_iff, not_true_eq_false, not_false_eq_true, and_true, true_and, Int32.reduceToInt, Int64.reduceToInt, Int32.reduceAdd, fa_lt, fa_le, fa_eq, cmi_lt, cmi_le, cmi_gt, cmi_ge, cmi_eq, fa_lt64, fa_le64, fa_eq64, Int32.toInt_toInt64, nI_toInt, ti_m1, sub1_ti, inB_iff, nI_clamp, Int32.add_zero, nI_1, nI_add, nI_p2, nI_p3, nI_p4, nI_p5, nI_p6, nI_p8, nI_p9, nI_p10, nI_m3, nI_m4, nI_m5, nI_m6, nI_m8, nI_m10, nI_m31, nI_m48, nI_m60, nI_m256, nI_t5, nI_t6, nI_a1, nI_a48, nI_a96, nI_d5, nI_d6, nI_d8, nI_d10, nI_d20, nI_s1, nI_s48, pk_sub, u, v, h3, g3, h5, g5, add64_ti]
        repeat (first | refine pk1 (by omega) ?_ | refine pk2 (by omega) ?_ | refine bd1 (by omega) ?_)
        exact l_150a hs4 ht4 (by omega) (by omega) ⟨rfl, f1, f2, f3, rfl⟩
      · refine leaf (r_119 ?_) (r_150 ?_)
        · simp (disch := omega) only [true_imp_iff, false_imp_iff, not_true_eq_false, not_false_eq_true, and_true, true_and, Int32.reduceToInt, Int64.reduceToInt, Int32.reduceAdd, fa_lt, fa_le, fa_eq, cmi_lt, cmi_le, cmi_gt, cmi_ge, cmi_eq, fa_lt64, fa_le64, fa_eq64, Int32.toInt_toInt64, nI_toInt, ti_m1, sub1_ti, inB_iff, nI_clamp, Int32.add_zero, nI_1, nI_add, nI_p2, nI_p3, nI_p4, nI_p5, nI_p6, nI_p8, nI_p9, nI_p10, nI_m3, nI_m4, nI_m5, nI_m6, nI_m8, nI_m10, nI_m31, nI_m48, nI_m60, nI_m256, nI_t5, nI_t6, nI_a1, nI_a48, nI_a96, nI_d5, nI_d6, nI_d8, nI_d10, nI_d20, nI_s1, nI_s48, pk_sub, up_eq, up_na, up_nk, h1, g1, h3, g3, h4, g4, sub_ti]
          repeat (first | refine pk1 (by omega) ?_ | refine pk2 (by omega) ?_ | refine bd1 (by omega) ?_)
          exact ⟨rfl, rfl, rfl⟩
        · simp (disch := omega) only [true_imp_iff, false_imp_iff, not_true_eq_false, not_false_eq_true, and_true, true_and, Int32.reduceToInt, Int64.reduceToInt, Int32.reduceAdd, fa_lt, fa_le, fa_eq, cmi_lt, cmi_le, cmi_gt, cmi_ge, cmi_eq, fa_lt64, fa_le64, fa_eq64, Int32.toInt_toInt64, nI_toInt, ti_m1, sub1_ti, inB_iff, nI_clamp, Int32.add_zero, nI_1, nI_add, nI_p2, nI_p3, nI_p4, nI_p5, nI_p6, nI_p8, nI_p9, nI_p10, nI_m3, nI_m4, nI_m5, nI_m6, nI_m8, nI_m10, nI_m31, nI_m48, nI_m60, nI_m256, nI_t5, nI_t6, nI_a1, nI_a48, nI_a96, nI_d5, nI_d6, nI_d8, nI_d10, nI_d20, nI_s1, nI_s48, pk_sub, up_eq, up_na, up_nk, h3, g3, h5, g5, add64_ti]
          repeat (first | refine pk1 (by omega) ?_ | refine pk2 (by omega) ?_ | refine bd1 (by omega) ?_)
          exact ⟨rfl, rfl, rfl⟩
    · refine leaf (r_119 ?_) (r_150 ?_)
      · simp (disch := omega) only [true_imp_iff, false_imp_iff, not_true_eq_false, not_false_eq_true, and_true, true_and, Int32.reduceToInt, Int64.reduceToInt, Int32.reduceAdd, fa_lt, fa_le, fa_eq, cmi_lt, cmi_le, cmi_gt, cmi_ge, cmi_eq, fa_lt64, fa_le64, fa_eq64, Int32.toInt_toInt64, nI_toInt, ti_m1, sub1_ti, inB_iff, nI_clamp, Int32.add_zero, nI_1, nI_add, nI_p2, nI_p3, nI_p4, nI_p5, nI_p6, nI_p8, nI_p9, nI_p10, nI_m3, nI_m4, nI_m5, nI_m6, nI_m8, nI_m10, nI_m31, nI_m48, nI_m60, nI_m256, nI_t5, nI_t6, nI_a1, nI_a48, nI_a96, nI_d5, nI_d6, nI_d8, nI_d10, nI_d20, nI_s1, nI_s48, pk_sub, up_eq, up_na, up_nk, h1, g1, h3, g3, h4, g4, sub_ti]
        repeat (first | refine pk1 (by omega) ?_ | refine pk2 (by omega) ?_ | refine bd1 (by omega) ?_)
        exact ⟨rfl, rfl, rfl⟩
      · simp (disch := omega) only [true_imp_iff, false_imp_iff, not_true_eq_false, not_false_eq_true, and_true, true_and, Int32.reduceToInt, Int64.reduceToInt, Int32.reduceAdd, fa_lt, fa_le, fa_eq, cmi_lt, cmi_le, cmi_gt, cmi_ge, cmi_eq, fa_lt64, fa_le64, fa_eq64, Int32.toInt_toInt64, nI_toInt, ti_m1, sub1_ti, inB_iff, nI_clamp, Int32.add_zero, nI_1, nI_add, nI_p2, nI_p3, nI_p4, nI_p5, nI_p6, nI_p8, nI_p9, nI_p10, nI_m3, nI_m4, nI_m5, nI_m6, nI_m8, nI_m10, nI_m31, nI_m48, nI_m60, nI_m256, nI_t5, nI_t6, nI_a1, nI_a48, nI_a96, nI_d5, nI_d6, nI_d8, nI_d10, nI_d20, nI_s1, nI_s48, pk_sub, up_eq, up_na, up_nk, h3, g3, h5, g5, add64_ti]
        repeat (first | refine pk1 (by omega) ?_ | refine pk2 (by omega) ?_ | refine bd1 (by omega) ?_)
        exact ⟨rfl, rfl, rfl⟩
  · refine r_119 ?_
    simp (disch := omega) only [true_imp_iff, false_imp_iff, not_true_eq_false, not_false_eq_true, and_true, true_and, Int32.reduceToInt, Int64.reduceToInt, Int32.reduceAdd, fa_lt, fa_le, fa_eq, cmi_lt, cmi_le, cmi_gt, cmi_ge, cmi_eq, fa_lt64, fa_le64, fa_eq64, Int32.toInt_toInt64, nI_toInt, ti_m1, sub1_ti, inB_iff, nI_clamp, Int32.add_zero, nI_1, nI_add, nI_p2, nI_p3, nI_p4, nI_p5, nI_p6, nI_p8, nI_p9, nI_p10, nI_m3, nI_m4, nI_m5, nI_m6, nI_m8, nI_m10, nI_m31, nI_m48, nI_m60, nI_m256, nI_t5, nI_t6, nI_a1, nI_a48, nI_a96, nI_d5, nI_d6, nI_d8, nI_d10, nI_d20, nI_s1, nI_s48, pk_sub, up_eq, up_na, up_nk, h1, g1, h3, g3]
    repeat (first | refine pk1 (by omega) ?_ | refine pk2 (by omega) ?_ | refine bd1 (by omega) ?_)
    refine r_150 ?_
    simp (disch := omega) only [true_imp_iff, false_imp_iff, not_true_eq_false, not_false_eq_true, and_true, true_and, Int32.reduceToInt, Int64.reduceToInt, Int32.reduceAdd, fa_lt, fa_le, fa_eq, cmi_lt, cmi_le, cmi_gt, cmi_ge, cmi_eq, fa_lt64, fa_le64, fa_eq64, Int32.toInt_toInt64, nI_toInt, ti_m1, sub1_ti, inB_iff, nI_clamp, Int32.add_zero, nI_1, nI_add, nI_p2, nI_p3, nI_p4, nI_p5, nI_p6, nI_p8, nI_p9, nI_p10, nI_m3, nI_m4, nI_m5, nI_m6, nI_m8, nI_m10, nI_m31, nI_m48, nI_m60, nI_m256, nI_t5, nI_t6, nI_a1, nI_a48, nI_a96, nI_d5, nI_d6, nI_d8, nI_d10, nI_d20, nI_s1, nI_s48, pk_sub, up_eq, up_na, up_nk, h3, g3]
    repeat (first | refine pk1 (by omega) ?_ | refine pk2 (by omega) ?_ | refine bd1 (by omega) ?_)
    exact Ps_find hs rfl
