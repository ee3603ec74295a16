/-! read -/
def okt (a b c : Int32) : Prop := 0 ≤ a.toInt ∧ a.toInt ≤ 24 ∧ 0 ≤ b.toInt ∧ b.toInt < 8 ∧ -1 ≤ c.toInt ∧ c.toInt < 8
theorem okt_n {a b c : Int32} (h : okt a b c) : (∃ q, q ≤ 24 ∧ a = nI q) ∧ (∃ s, s < 8 ∧ b = nI s) ∧ inC c := by
  obtain ⟨h1, h2, h3, h4, h5, h6⟩ := h
  refine ⟨?_, ?_, ?_⟩
  · rcases ixi a 25 (by decide) with z | z | ⟨j, hj, z⟩
    · omega
    · omega
    · exact ⟨j, by omega, z⟩
  · rcases ixi b 8 (by decide) with z | z | ⟨j, hj, z⟩
    · omega
    · omega
    · exact ⟨j, by omega, z⟩
  · rcases ixi c 8 (by decide) with z | z | ⟨j, hj, z⟩
    · left
      rw [fa_eq, ti_m1]; omega
    · omega
    · exact Or.inr ⟨j, by omega, z⟩
theorem c_23y {di : tDi} {dl : tDl} {a b c : Int32} (h : okt a b c) {K : Int32 → tDi → tDl → Prop} (kk : K 1 di dl) : ClI 0 23 [.ref 159, .int a, .int b, .int c] di dl K := by
  obtain ⟨h1, h2, h3, h4, h5, h6⟩ := h
  refine r_23 ?_
  simp (disch := omega) only [true_imp_iff, false_imp_iff, not_true_eq_false, not_false_eq_true, and_true, true_and, Int32.reduceToInt, Int64.reduceToInt, Int32.reduceAdd, fa_lt, fa_le, fa_eq, cmi_lt, cmi_le, cmi_gt, cmi_ge, cmi_eq, fa_lt64, fa_le64, fa_eq64, Int32.toInt_toInt64, nI_toInt, ti_m1, sub1_ti, inB_iff, nI_clamp, Int32.add_zero, nI_1, nI_add, nI_p2, nI_p3, nI_p4, nI_p5, nI_p6, nI_p8, nI_p9, nI_p10, nI_m3, nI_m4, nI_m5, nI_m6, nI_m8, nI_m10, nI_m31, nI_m48, nI_m60, nI_m256, nI_t5, nI_t6, nI_a1, nI_a48, nI_a96, nI_d5, nI_d6, nI_d8, nI_d10, nI_d20, nI_s1, nI_s48, pk_sub]
  repeat (first | refine pk1 (by omega) ?_ | refine pk2 (by omega) ?_ | refine bd1 (by omega) ?_)
  exact kk
theorem c_23n {di : tDi} {dl : tDl} {a b c : Int32} (h : ¬ okt a b c) {K : Int32 → tDi → tDl → Prop} (kk : K 0 di dl) : ClI 0 23 [.ref 159, .int a, .int b, .int c] di dl K := by
  refine r_23 ?_
  simp (disch := omega) only [true_imp_iff, false_imp_iff, not_true_eq_false, not_false_eq_true, and_true, true_and, Int32.reduceToInt, Int64.reduceToInt, Int32.reduceAdd, fa_lt, fa_le, fa_eq, cmi_lt, cmi_le, cmi_gt, cmi_ge, cmi_eq, fa_lt64, fa_le64, fa_eq64, Int32.toInt_toInt64, nI_toInt, ti_m1, sub1_ti, inB_iff, nI_clamp, Int32.add_zero, nI_1, nI_add, nI_p2, nI_p3, nI_p4, nI_p5, nI_p6, nI_p8, nI_p9, nI_p10, nI_m3, nI_m4, nI_m5, nI_m6, nI_m8, nI_m10, nI_m31, nI_m48, nI_m60, nI_m256, nI_t5, nI_t6, nI_a1, nI_a48, nI_a96, nI_d5, nI_d6, nI_d8, nI_d10, nI_d20, nI_s1, nI_s48, pk_sub]
  exact ⟨fun _ => kk, fun z1 => ⟨fun _ => kk, fun z2 => ⟨fun _ => kk, fun z3 => ⟨fun _ => kk, fun z4 => ⟨fun _ => kk, fun z5 => ⟨fun _ => kk, fun z6 => absurd ⟨by omega, by omega, by omega, by omega, by omega, by omega⟩ h⟩⟩⟩⟩⟩⟩
theorem c_200n {di : tDi} {dl : tDl} {a b c : Int32} (h : ¬ okt a b c) {K : Int32 → tDi → tDl → Prop} (kk : K (-2) di dl) : ClI 1 200 [.ref 176, .int a, .int b, .int c] di dl K := by
  refine r_200 ?_
  simp (disch := omega) only [true_imp_iff, false_imp_iff, not_true_eq_false, not_false_eq_true, and_true, true_and, Int32.reduceToInt, Int64.reduceToInt, Int32.reduceAdd, fa_lt, fa_le, fa_eq, cmi_lt, cmi_le, cmi_gt, cmi_ge, cmi_eq, fa_lt64, fa_le64, fa_eq64, Int32.toInt_toInt64, nI_toInt, ti_m1, sub1_ti, inB_iff, nI_clamp, Int32.add_zero, nI_1, nI_add, nI_p2, nI_p3, nI_p4, nI_p5, nI_p6, nI_p8, nI_p9, nI_p10, nI_m3, nI_m4, nI_m5, nI_m6, nI_m8, nI_m10, nI_m31, nI_m48, nI_m60, nI_m256, nI_t5, nI_t6, nI_a1, nI_a48, nI_a96, nI_d5, nI_d6, nI_d8, nI_d10, nI_d20, nI_s1, nI_s48, pk_sub]
  exact ⟨fun _ => kk, fun z1 => ⟨fun _ => kk, fun z2 => ⟨fun _ => kk, fun z3 => ⟨fun _ => kk, fun z4 => ⟨fun _ => kk, fun z5 => ⟨fun _ => kk, fun z6 => absurd ⟨by omega, by omega, by omega, by omega, by omega, by omega⟩ h⟩⟩⟩⟩⟩⟩
theorem c_200y {di : tDi} {dl : tDl} {a b c : Int32} {n : Nat} (h : okt a b c) (hn : n < 8) (g6 : di 176 18 = nI n) {K : Int32 → tDi → tDl → Prop} (kk : K (nI (n + 1)) (nt2 di n a b c) dl) : ClI 1 200 [.ref 176, .int a, .int b, .int c] di dl K := by
  obtain ⟨h1, h2, h3, h4, h5, h6⟩ := h
  unfold nt2 at kk
  refine r_200 ?_
  simp (disch := omega) only [true_imp_iff, false_imp_iff, not_true_eq_false, not_false_eq_true, and_true, true_and, Int32.reduceToInt, Int64.reduceToInt, Int32.reduceAdd, fa_lt, fa_le, fa_eq, cmi_lt, cmi_le, cmi_gt, cmi_ge, cmi_eq, fa_lt64, fa_le64, fa_eq64, Int32.toInt_toInt64, nI_toInt, ti_m1, sub1_ti, inB_iff, nI_clamp, Int32.add_zero, nI_1, nI_add, nI_p2, nI_p3, nI_p4, nI_p5, nI_p6, nI_p8, nI_p9, nI_p10, nI_m3, nI_m4, nI_m5, nI_m6, nI_m8, nI_m10, nI_m31, nI_m48, nI_m60, nI_m256, nI_t5, nI_t6, nI_a1, nI_a48, nI_a96, nI_d5, nI_d6, nI_d8, nI_d10, nI_d20, nI_s1, nI_s48, pk_sub, up_eq, up_na, up_nk, g6]
  repeat (first | refine pk1 (by omega) ?_ | refine pk2 (by omega) ?_ | refine bd1 (by omega) ?_)
  exact kk
theorem c_200f {di : tDi} {dl : tDl} {a b c : Int32} (h : okt a b c) (g6 : di 176 18 = nI 8) {K : Int32 → tDi → tDl → Prop} (kk : K (-4) di dl) : ClI 1 200 [.ref 176, .int a, .int b, .int c] di dl K := by
  obtain ⟨h1, h2, h3, h4, h5, h6⟩ := h
  refine r_200 ?_
  simp (disch := omega) only [true_imp_iff, false_imp_iff, not_true_eq_false, not_false_eq_true, and_true, true_and, Int32.reduceToInt, Int64.reduceToInt, Int32.reduceAdd, fa_lt, fa_le, fa_eq, cmi_lt, cmi_le, cmi_gt, cmi_ge, cmi_eq, fa_lt64, fa_le64, fa_eq64, Int32.toInt_toInt64, nI_toInt, ti_m1, sub1_ti, inB_iff, nI_clamp, Int32.add_zero, nI_1, nI_add, nI_p2, nI_p3, nI_p4, nI_p5, nI_p6, nI_p8, nI_p9, nI_p10, nI_m3, nI_m4, nI_m5, nI_m6, nI_m8, nI_m10, nI_m31, nI_m48, nI_m60, nI_m256, nI_t5, nI_t6, nI_a1, nI_a48, nI_a96, nI_d5, nI_d6, nI_d8, nI_d10, nI_d20, nI_s1, nI_s48, pk_sub, up_eq, up_na, up_nk, g6]
  repeat (first | refine pk1 (by omega) ?_ | refine pk2 (by omega) ?_ | refine bd1 (by omega) ?_)
  exact kk
def rd1 (di : tDi) (n0 j : Nat) (x : Nat → Int32) : tDi := fun a k => if a = 160 ∧ n0 ≤ k ∧ k < n0 + j then x (3 * (k - n0)) else if a = 161 ∧ n0 ≤ k ∧ k < n0 + j then x (3 * (k - n0) + 1) else if a = 162 ∧ n0 ≤ k ∧ k < n0 + j then x (3 * (k - n0) + 2) else if a = 159 ∧ k = 8 then nI (n0 + j) else di a k
def rd2 (di : tDi) (n0 j : Nat) (x : Nat → Int32) : tDi := fun a k => if a = 193 ∧ 3 * n0 ≤ k ∧ k < 3 * (n0 + j) then x (k - 3 * n0) else if a = 176 ∧ k = 18 then nI (n0 + j) else di a k
theorem rd1_0 {di : tDi} {n0 : Nat} {x : Nat → Int32} (h : di 159 8 = nI n0) : rd1 di n0 0 x = di := by
  funext a k
  unfold rd1
  rw [if_neg (by omega), if_neg (by omega), if_neg (by omega)]
  by_cases e : a = 159 ∧ k = 8
  · rw [if_pos e, e.1, e.2, h]; rfl
  · rw [if_neg e]
theorem rd2_0 {di : tDi} {n0 : Nat} {x : Nat → Int32} (h : di 176 18 = nI n0) : rd2 di n0 0 x = di := by
  funext a k
  unfold rd2
  rw [if_neg (by omega)]
  by_cases e : a = 176 ∧ k = 18
  · rw [if_pos e, e.1, e.2, h]; rfl
  · rw [if_neg e]
theorem rd1_s {di : tDi} {n0 j : Nat} {x : Nat → Int32} : nt1 (rd1 di n0 j x) (n0 + j) (x (3 * j)) (x (3 * j + 1)) (x (3 * j + 2)) = rd1 di n0 (j + 1) x := by
  funext a k
  unfold nt1 up2
  by_cases e0 : a = 159 ∧ k = 8
  · rw [if_pos e0]
    unfold rd1
    rw [if_neg (by omega), if_neg (by omega), if_neg (by omega), if_pos e0]; rfl
  rw [if_neg e0]
  by_cases e1 : k = n0 + j
  · subst e1
    by_cases a2 : a = 162
    · subst a2
      rw [if_pos ⟨rfl, rfl⟩]
      unfold rd1
      rw [if_neg (by omega), if_neg (by omega), if_pos (by omega), Nat.add_sub_cancel_left]
    rw [if_neg (by omega)]
    by_cases a1 : a = 161
    · subst a1
      rw [if_pos ⟨rfl, rfl⟩]
      unfold rd1
      rw [if_neg (by omega), if_pos (by omega), Nat.add_sub_cancel_left]
    rw [if_neg (by omega)]
    by_cases a0 : a = 160
    · subst a0
      rw [if_pos ⟨rfl, rfl⟩]
      unfold rd1
      rw [if_pos (by omega), Nat.add_sub_cancel_left]
    rw [if_neg (by omega)]
    unfold rd1
    rw [if_neg (by omega), if_neg (by omega), if_neg (by omega), if_neg e0, if_neg (by omega), if_neg (by omega), if_neg (by omega), if_neg e0]
  · rw [if_neg (by omega), if_neg (by omega), if_neg (by omega)]
    unfold rd1
    rw [if_neg e0, if_neg e0]
    have q : ∀ y, (a = y ∧ n0 ≤ k ∧ k < n0 + j) = (a = y ∧ n0 ≤ k ∧ k < n0 + (j + 1)) := fun y => propext ⟨fun z => by omega, fun z => by omega⟩
    simp only [q]
theorem rd2_s {di : tDi} {n0 j : Nat} {x : Nat → Int32} : nt2 (rd2 di n0 j x) (n0 + j) (x (3 * j)) (x (3 * j + 1)) (x (3 * j + 2)) = rd2 di n0 (j + 1) x := by
  funext a k
  unfold nt2 up2
  by_cases e0 : a = 176 ∧ k = 18
  · rw [if_pos e0]
    unfold rd2
    rw [if_neg (by omega), if_pos e0]; rfl
  rw [if_neg e0]
  by_cases e1 : a = 193 ∧ k = 3 * (n0 + j) + 2
  · rw [if_pos e1]
    unfold rd2
    rw [if_pos (by omega), e1.2, show 3 * (n0 + j) + 2 - 3 * n0 = 3 * j + 2 by omega]
  rw [if_neg e1]
  by_cases e2 : a = 193 ∧ k = 3 * (n0 + j) + 1
  · rw [if_pos e2]
    unfold rd2
    rw [if_pos (by omega), e2.2, show 3 * (n0 + j) + 1 - 3 * n0 = 3 * j + 1 by omega]
  rw [if_neg e2]
  by_cases e3 : a = 193 ∧ k = 3 * (n0 + j)
  · rw [if_pos e3]
    unfold rd2
    rw [if_pos (by omega), e3.2, show 3 * (n0 + j) - 3 * n0 = 3 * j by omega]
  rw [if_neg e3]
  unfold rd2
  rw [if_neg e0, if_neg e0]
  have q : (a = 193 ∧ 3 * n0 ≤ k ∧ k < 3 * (n0 + j)) = (a = 193 ∧ 3 * n0 ≤ k ∧ k < 3 * (n0 + (j + 1))) := propext ⟨fun z => by omega, fun z => by omega⟩
  simp only [q]
/-- one more triple is taken -/
def tkc (x : Nat → Int32) (sz n0 i : Nat) : Prop := 3 * i + 2 < sz ∧ n0 + i < 8 ∧ okt (x (3 * i)) (x (3 * i + 1)) (x (3 * i + 2))
theorem tkc_u {x : Nat → Int32} {sz n0 i j : Nat} (h1 : ∀ k, k < i → tkc x sz n0 k) (h2 : ¬ tkc x sz n0 i) (g1 : ∀ k, k < j → tkc x sz n0 k) (g2 : ¬ tkc x sz n0 j) : i = j := by
  rcases Nat.lt_trichotomy i j with h | h | h
  · exact absurd (g1 i h) h2
  · exact h
  · exact absurd (h1 j h) g2
theorem c_43 {di : tDi} {dl : tDl} {s n k : Nat} (hs4 : s < 4) (hn : n ≤ 60) (h5 : di (168 + 2 * s) 2 = nI n) (hk : k < n) {K : Int32 → tDi → tDl → Prop} (kk : K (di (169 + 2 * s) k) di dl) : ClI 1 43 [.ref (168 + 2 * s), .int (nI k)] di dl K := by
  have h := r_43 (j := nI s) (inB_n hs4 (by decide)) (a1 := nI k) (di := di) (dl := dl) (K := K)
  rw [nI_clamp (show s < 2 ^ 31 by omega)] at h
  refine h ?_
  simp (disch := omega) only [true_imp_iff, false_imp_iff, not_true_eq_false, not_false_eq_true, and_true, true_and, Int32.reduceToInt, Int64.reduceToInt, Int32.reduceAdd, fa_lt, fa_le, fa_eq, cmi_lt, cmi_le, cmi_gt, cmi_ge, cmi_eq, fa_lt64, fa_le64, fa_eq64, Int32.toInt_toInt64, nI_toInt, ti_m1, sub1_ti, inB_iff, nI_clamp, Int32.add_zero, nI_1, nI_add, nI_p2, nI_p3, nI_p4, nI_p5, nI_p6, nI_p8, nI_p9, nI_p10, nI_m3, nI_m4, nI_m5, nI_m6, nI_m8, nI_m10, nI_m31, nI_m48, nI_m60, nI_m256, nI_t5, nI_t6, nI_a1, nI_a48, nI_a96, nI_d5, nI_d6, nI_d8, nI_d10, nI_d20, nI_s1, nI_s48, pk_sub, h5]
  repeat (first | refine pk1 (by omega) ?_ | refine pk2 (by omega) ?_ | refine bd1 (by omega) ?_)
  exact kk
theorem l_110 {di : tDi} {dl : tDl} {s sz n0 : Nat} (hs4 : s < 4) (hn : sz ≤ 60) (h5 : di (168 + 2 * s) 2 = nI sz) (x : Nat → Int32) (hx : ∀ k, k < sz → di (169 + 2 * s) k = x k) (hn0 : n0 ≤ 8) (h8 : di 159 8 = nI n0) {K : Int32 → tDi → tDl → Prop} (kk : ∀ J, (∀ i, i < J → tkc x sz n0 i) → ¬ tkc x sz n0 J → K (nI J) (rd1 di n0 J x) dl) : Wq none 2 110 31 [(0, .ref 0), (2, .ref (168 + 2 * s)), (3, .int 0), (4, .int 0)] [] di dl (RI K) := by
  have L : ∀ m j, n0 + j + m = 8 → (∀ i, i < j → tkc x sz n0 i) → Wq none 2 110 31 [(0, .ref 0), (2, .ref (168 + 2 * s)), (3, .int (nI j)), (4, .int (nI (3 * j)))] [] (rd1 di n0 j x) dl (RI K) := by
    intro m
    induction m with
    | zero =>
      intro j hj hc
      have h := r_110_31 (j2 := nI s) (inB_n hs4 (by decide)) (x3 := nI j) (x4 := nI (3 * j)) (di := rd1 di n0 j x) (dl := dl) (K := K)
      rw [nI_clamp (show s < 2 ^ 31 by omega)] at h
      refine h ?_
      have e1 : rd1 di n0 j x (168 + 2 * s) 2 = nI sz := by
        unfold rd1
        rw [if_neg (by omega), if_neg (by omega), if_neg (by omega), if_neg (by omega)]; exact h5
      have e2 : rd1 di n0 j x 159 8 = nI (n0 + j) := by
        unfold rd1
        rw [if_neg (by omega), if_neg (by omega), if_neg (by omega), if_pos ⟨rfl, rfl⟩]
      have e3 : Wq none 2 110 121 [(3, .int (nI j))] [] (rd1 di n0 j x) dl (RI K) := r_110_121 (kk j hc (fun z => by
        have := z.2.1
        omega))
      simp (disch := omega) only [true_imp_iff, false_imp_iff, not_true_eq_false, not_false_eq_true, and_true, true_and, Int32.reduceToInt, Int64.reduceToInt, Int32.reduceAdd, fa_lt, fa_le, fa_eq, cmi_lt, cmi_le, cmi_gt, cmi_ge, cmi_eq, fa_lt64, fa_le64, fa_eq64, Int32.toInt_toInt64, nI_toInt, ti_m1, sub1_ti, inB_iff, nI_clamp, Int32.add_zero, nI_1, nI_add, nI_p2, nI_p3, nI_p4, nI_p5, nI_p6, nI_p8, nI_p9, nI_p10, nI_m3, nI_m4, nI_m5, nI_m6, nI_m8, nI_m10, nI_m31, nI_m48, nI_m60, nI_m256, nI_t5, nI_t6, nI_a1, nI_a48, nI_a96, nI_d5, nI_d6, nI_d8, nI_d10, nI_d20, nI_s1, nI_s48, pk_sub, e1, e2]
      exact ⟨fun _ => e3, fun _ => pk2 (by omega) e3⟩
    | succ m ih =>
      intro j hj hc
      have h := r_110_31 (j2 := nI s) (inB_n hs4 (by decide)) (x3 := nI j) (x4 := nI (3 * j)) (di := rd1 di n0 j x) (dl := dl) (K := K)
      rw [nI_clamp (show s < 2 ^ 31 by omega)] at h
      refine h ?_
      have e1 : rd1 di n0 j x (168 + 2 * s) 2 = nI sz := by
        unfold rd1
        rw [if_neg (by omega), if_neg (by omega), if_neg (by omega), if_neg (by omega)]; exact h5
      have e2 : rd1 di n0 j x 159 8 = nI (n0 + j) := by
        unfold rd1
        rw [if_neg (by omega), if_neg (by omega), if_neg (by omega), if_pos ⟨rfl, rfl⟩]
      have e4 : ∀ k, k < sz → rd1 di n0 j x (169 + 2 * s) k = x k := by
        intro k hk
        unfold rd1
        rw [if_neg (by omega), if_neg (by omega), if_neg (by omega), if_neg (by omega)]; exact hx k hk
      simp (disch := omega) only [true_imp_iff, false_imp_iff, not_true_eq_false, not_false_eq_true, and_true, true_and, Int32.reduceToInt, Int64.reduceToInt, Int32.reduceAdd, fa_lt, fa_le, fa_eq, cmi_lt, cmi_le, cmi_gt, cmi_ge, cmi_eq, fa_lt64, fa_le64, fa_eq64, Int32.toInt_toInt64, nI_toInt, ti_m1, sub1_ti, inB_iff, nI_clamp, Int32.add_zero, nI_1, nI_add, nI_p2, nI_p3, nI_p4, nI_p5, nI_p6, nI_p8, nI_p9, nI_p10, nI_m3, nI_m4, nI_m5, nI_m6, nI_m8, nI_m10, nI_m31, nI_m48, nI_m60, nI_m256, nI_t5, nI_t6, nI_a1, nI_a48, nI_a96, nI_d5, nI_d6, nI_d8, nI_d10, nI_d20, nI_s1, nI_s48, pk_sub, e1, e2]
      by_cases hz : 3 * j + 2 < sz
      · repeat (first | refine pk1 (by omega) ?_ | refine pk2 (by omega) ?_ | refine bd1 (by omega) ?_)
        refine c_43 hs4 hn e1 (by omega) ?_
        refine c_43 hs4 hn e1 (by omega) ?_
        refine c_43 hs4 hn e1 (by omega) ?_
        rw [e4 _ (by omega), e4 _ (by omega), e4 _ (by omega)]
        by_cases ho : okt (x (3 * j)) (x (3 * j + 1)) (x (3 * j + 2))
        · refine c_23y ho ?_
          refine ⟨fun _ => c_25 (by omega) e2 _ _ _ ?_, fun z => absurd z (by decide)⟩
          rw [rd1_s]
          have hcn : ∀ i, i < j + 1 → tkc x sz n0 i := by
            intro i hi
            rcases Nat.lt_succ_iff_lt_or_eq.mp hi with z | z
            · exact hc i z
            · subst z
              exact ⟨hz, by omega, ho⟩
          have := ih (j + 1) (by omega) hcn
          rw [show 3 * (j + 1) = 3 * j + 3 by omega] at this
          exact this
        · refine c_23n ho ?_
          refine ⟨fun z => absurd rfl z, fun _ => r_110_121 (kk j hc (fun z => ho z.2.2))⟩
      · repeat (first | refine pk1 (by omega) ?_ | refine pk2 (by omega) ?_ | refine bd1 (by omega) ?_)
        exact r_110_121 (kk j hc (fun z => hz z.1))
  have := L (8 - n0) 0 (by omega) (fun i hi => absurd hi (Nat.not_lt_zero i))
  rw [rd1_0 h8] at this
  exact this
theorem l_202 {di : tDi} {dl : tDl} {s sz n0 : Nat} (hs4 : s < 4) (hn : sz ≤ 60) (h5 : di 178 s = nI sz) (x : Nat → Int32) (hx : ∀ k, k < sz → di 179 (60 * s + k) = x k) (hn0 : n0 ≤ 8) (h8 : di 176 18 = nI n0) {K : Int32 → tDi → tDl → Prop} (kk : ∀ J, (∀ i, i < J → tkc x sz n0 i) → ¬ tkc x sz n0 J → K (nI J) (rd2 di n0 J x) dl) : Wq none 2 202 29 [(0, .ref 176), (1, .int (nI s)), (2, .int 0), (3, .int 1)] [] di dl (RI K) := by
  have L : ∀ m j, n0 + j + m = 8 → (∀ i, i < j → tkc x sz n0 i) → Wq none 2 202 29 [(0, .ref 176), (1, .int (nI s)), (2, .int (nI j)), (3, .int 1)] [] (rd2 di n0 j x) dl (RI K) := by
    intro m
    induction m with
    | zero =>
      intro j hj hc
      refine r_202_29 ?_
      have e1 : rd2 di n0 j x 178 s = nI sz := by
        unfold rd2
        rw [if_neg (by omega), if_neg (by omega)]; exact h5
      have e2 : rd2 di n0 j x 176 18 = nI (n0 + j) := by
        unfold rd2
        rw [if_neg (by omega), if_pos ⟨rfl, rfl⟩]
      have e4 : ∀ k, k < sz → rd2 di n0 j x 179 (60 * s + k) = x k := by
        intro k hk
        unfold rd2
        rw [if_neg (by omega), if_neg (by omega)]; exact hx k hk
      have e3 := kk j hc (fun z => by
        have := z.2.1
        omega)
      refine ⟨fun z => absurd z (by decide), fun _ => ?_⟩
      simp (disch := omega) only [true_imp_iff, false_imp_iff, not_true_eq_false, not_false_eq_true, and_true, true_and, Int32.reduceToInt, Int64.reduceToInt, Int32.reduceAdd, fa_lt, fa_le, fa_eq, cmi_lt, cmi_le, cmi_gt, cmi_ge, cmi_eq, fa_lt64, fa_le64, fa_eq64, Int32.toInt_toInt64, nI_toInt, ti_m1, sub1_ti, inB_iff, nI_clamp, Int32.add_zero, nI_1, nI_add, nI_p2, nI_p3, nI_p4, nI_p5, nI_p6, nI_p8, nI_p9, nI_p10, nI_m3, nI_m4, nI_m5, nI_m6, nI_m8, nI_m10, nI_m31, nI_m48, nI_m60, nI_m256, nI_t5, nI_t6, nI_a1, nI_a48, nI_a96, nI_d5, nI_d6, nI_d8, nI_d10, nI_d20, nI_s1, nI_s48, pk_sub, e1, e2]
      by_cases hz : 3 * j + 2 < sz
      · repeat (first | refine pk1 (by omega) ?_ | refine pk2 (by omega) ?_ | refine bd1 (by omega) ?_)
        rw [e4 _ (by omega), Nat.add_assoc, e4 _ (by omega), Nat.add_assoc, e4 _ (by omega)]
        have e5 : Wq none 2 202 29 [(0, .ref 176), (1, .int (nI s)), (2, .int (nI j)), (3, .int 0)] [] (rd2 di n0 j x) dl (RI K) := by
          exact r_202_29 ⟨fun _ => e3, fun z => absurd rfl z⟩
        by_cases ho : okt (x (3 * j)) (x (3 * j + 1)) (x (3 * j + 2))
        · refine c_200f ho (by rw [e2, show n0 + j = 8 by omega]) ?_
          exact pk1 (by decide) e5
        · refine c_200n ho ?_
          exact pk1 (by decide) e5
      · repeat (first | refine pk1 (by omega) ?_ | refine pk2 (by omega) ?_ | refine bd1 (by omega) ?_)
        exact e3
    | succ m ih =>
      intro j hj hc
      refine r_202_29 ?_
      have e1 : rd2 di n0 j x 178 s = nI sz := by
        unfold rd2
        rw [if_neg (by omega), if_neg (by omega)]; exact h5
      have e2 : rd2 di n0 j x 176 18 = nI (n0 + j) := by
        unfold rd2
        rw [if_neg (by omega), if_pos ⟨rfl, rfl⟩]
      have e4 : ∀ k, k < sz → rd2 di n0 j x 179 (60 * s + k) = x k := by
        intro k hk
        unfold rd2
        rw [if_neg (by omega), if_neg (by omega)]; exact hx k hk
      refine ⟨fun z => absurd z (by decide), fun _ => ?_⟩
      simp (disch := omega) only [true_imp_iff, false_imp_iff, not_true_eq_false, not_false_eq_true, and_true, true_and, Int32.reduceToInt, Int64.reduceToInt, Int32.reduceAdd, fa_lt, fa_le, fa_eq, cmi_lt, cmi_le, cmi_gt, cmi_ge, cmi_eq, fa_lt64, fa_le64, fa_eq64, Int32.toInt_toInt64, nI_toInt, ti_m1, sub1_ti, inB_iff, nI_clamp, Int32.add_zero, nI_1, nI_add, nI_p2, nI_p3, nI_p4, nI_p5, nI_p6, nI_p8, nI_p9, nI_p10, nI_m3, nI_m4, nI_m5, nI_m6, nI_m8, nI_m10, nI_m31, nI_m48, nI_m60, nI_m256, nI_t5, nI_t6, nI_a1, nI_a48, nI_a96, nI_d5, nI_d6, nI_d8, nI_d10, nI_d20, nI_s1, nI_s48, pk_sub, e1, e2]
      by_cases hz : 3 * j + 2 < sz
      · repeat (first | refine pk1 (by omega) ?_ | refine pk2 (by omega) ?_ | refine bd1 (by omega) ?_)
        rw [e4 _ (by omega), Nat.add_assoc, e4 _ (by omega), Nat.add_assoc, e4 _ (by omega)]
        by_cases ho : okt (x (3 * j)) (x (3 * j + 1)) (x (3 * j + 2))
        · refine c_200y ho (by omega) e2 ?_
          rw [rd2_s]
          have hcn : ∀ i, i < j + 1 → tkc x sz n0 i := by
            intro i hi
            rcases Nat.lt_succ_iff_lt_or_eq.mp hi with z | z
            · exact hc i z
            · subst z
              exact ⟨hz, by omega, ho⟩
          have := ih (j + 1) (by omega) hcn
          simp (disch := omega) only [true_imp_iff, false_imp_iff, not_true_eq_false, not_false_eq_true, and_true, true_and, Int32.reduceToInt, Int64.reduceToInt, Int32.reduceAdd, fa_lt, fa_le, fa_eq, cmi_lt, cmi_le, cmi_gt, cmi_ge, cmi_eq, fa_lt64, fa_le64, fa_eq64, Int32.toInt_toInt64, nI_toInt, ti_m1, sub1_ti, inB_iff, nI_clamp, Int32.add_zero, nI_1, nI_add, nI_p2, nI_p3, nI_p4, nI_p5, nI_p6, nI_p8, nI_p9, nI_p10, nI_m3, nI_m4, nI_m5, nI_m6, nI_m8, nI_m10, nI_m31, nI_m48, nI_m60, nI_m256, nI_t5, nI_t6, nI_a1, nI_a48, nI_a96, nI_d5, nI_d6, nI_d8, nI_d10, nI_d20, nI_s1, nI_s48, pk_sub]
          exact pk2 (by omega) this
        · refine c_200n ho ?_
          refine pk1 (by decide) ?_
          exact r_202_29 ⟨fun _ => kk j hc (fun z => ho z.2.2), fun z => absurd rfl z⟩
      · repeat (first | refine pk1 (by omega) ?_ | refine pk2 (by omega) ?_ | refine bd1 (by omega) ?_)
        exact kk j hc (fun z => hz z.1)
  have := L (8 - n0) 0 (by omega) (fun i hi => absurd hi (Nat.not_lt_zero i))
  rw [rd2_0 h8] at this
  exact this
def Fr (di di' : tDi) : Prop := ∀ a k, ¬ (160 ≤ a ∧ a < 163) → ¬ a = 193 → ¬ (a = 159 ∧ k = 8) → ¬ (a = 176 ∧ (k = 18 ∨ k = 4)) → ¬ (a = 0 ∧ k = 10) → di' a k = di a k
def Pr (di : tDi) (dl : tDl) (r r' : Int32) (di2 : tDi) (dl2 : tDl) : Prop := r = r' ∧ Ini di2 ∧ Ila di2 ∧ Fr di di2 ∧ dl2 = dl
theorem p_read {di : tDi} {dl : tDl} (hs : Ish di) (hl : Ila di) (hi : Ini di) (a : Int32) : ClI 2 110 [.ref 0, .int a] di dl (fun r di1 dl1 => ClI 2 202 [.ref 176, .int a] di1 dl1 (fun r' di2 dl2 => Pr di dl r r' di2 dl2)) := by
  have same : Pr di dl (-2) (-2) di dl := ⟨rfl, hi, hl, fun _ _ _ _ _ _ _ => rfl, rfl⟩
  rcases ixi a 4 (by decide) with h | h | ⟨s, hs4, rfl⟩
  · refine r_110 ?_
    simp (disch := omega) only [true_imp_iff, false_imp_iff, not_true_eq_false, not_false_eq_true, and_true, true_and, Int32.reduceToInt, Int64.reduceToInt, Int32.reduceAdd, fa_lt, fa_le, fa_eq, cmi_lt, cmi_le, cmi_gt, cmi_ge, cmi_eq, fa_lt64, fa_le64, fa_eq64, Int32.toInt_toInt64, nI_toInt, ti_m1, sub1_ti, inB_iff, nI_clamp, Int32.add_zero, nI_1, nI_add, nI_p2, nI_p3, nI_p4, nI_p5, nI_p6, nI_p8, nI_p9, nI_p10, nI_m3, nI_m4, nI_m5, nI_m6, nI_m8, nI_m10, nI_m31, nI_m48, nI_m60, nI_m256, nI_t5, nI_t6, nI_a1, nI_a48, nI_a96, nI_d5, nI_d6, nI_d8, nI_d10, nI_d20, nI_s1, nI_s48, pk_sub]
    repeat (first | refine pk1 (by omega) ?_ | refine pk2 (by omega) ?_ | refine bd1 (by omega) ?_)
    refine r_202 ?_
    simp (disch := omega) only [true_imp_iff, false_imp_iff, not_true_eq_false, not_false_eq_true, and_true, true_and, Int32.reduceToInt, Int64.reduceToInt, Int32.reduceAdd, fa_lt, fa_le, fa_eq, cmi_lt, cmi_le, cmi_gt, cmi_ge, cmi_eq, fa_lt64, fa_le64, fa_eq64, Int32.toInt_toInt64, nI_toInt, ti_m1, sub1_ti, inB_iff, nI_clamp, Int32.add_zero, nI_1, nI_add, nI_p2, nI_p3, nI_p4, nI_p5, nI_p6, nI_p8, nI_p9, nI_p10, nI_m3, nI_m4, nI_m5, nI_m6, nI_m8, nI_m10, nI_m31, nI_m48, nI_m60, nI_m256, nI_t5, nI_t6, nI_a1, nI_a48, nI_a96, nI_d5, nI_d6, nI_d8, nI_d10, nI_d20, nI_s1, nI_s48, pk_sub]
    repeat (first | refine pk1 (by omega) ?_ | refine pk2 (by omega) ?_ | refine bd1 (by omega) ?_)
    exact same
  · refine r_110 ?_
    simp (disch := omega) only [true_imp_iff, false_imp_iff, not_true_eq_false, not_false_eq_true, and_true, true_and, Int32.reduceToInt, Int64.reduceToInt, Int32.reduceAdd, fa_lt, fa_le, fa_eq, cmi_lt, cmi_le, cmi_gt, cmi_ge, cmi_eq, fa_lt64, fa_le64, fa_eq64, Int32.toInt_toInt64, nI_toInt, ti_m1, sub1_ti, inB_iff, nI_clamp, Int32.add_zero, nI_1, nI_add, nI_p2, nI_p3, nI_p4, nI_p5, nI_p6, nI_p8, nI_p9, nI_p10, nI_m3, nI_m4, nI_m5, nI_m6, nI_m8, nI_m10, nI_m31, nI_m48, nI_m60, nI_m256, nI_t5, nI_t6, nI_a1, nI_a48, nI_a96, nI_d5, nI_d6, nI_d8, nI_d10, nI_d20, nI_s1, nI_s48, pk_sub]
    repeat (first | refine pk1 (by omega) ?_ | refine pk2 (by omega) ?_ | refine bd1 (by omega) ?_)
    refine r_202 ?_
    simp (disch := omega) only [true_imp_iff, false_imp_iff, not_true_eq_false, not_false_eq_true, and_true, true_and, Int32.reduceToInt, Int64.reduceToInt, Int32.reduceAdd, fa_lt, fa_le, fa_eq, cmi_lt, cmi_le, cmi_gt, cmi_ge, cmi_eq, fa_lt64, fa_le64, fa_eq64, Int32.toInt_toInt64, nI_toInt, ti_m1, sub1_ti, inB_iff, nI_clamp, Int32.add_zero, nI_1, nI_add, nI_p2, nI_p3, nI_p4, nI_p5, nI_p6, nI_p8, nI_p9, nI_p10, nI_m3, nI_m4, nI_m5, nI_m6, nI_m8, nI_m10, nI_m31, nI_m48, nI_m60, nI_m256, nI_t5, nI_t6, nI_a1, nI_a48, nI_a96, nI_d5, nI_d6, nI_d8, nI_d10, nI_d20, nI_s1, nI_s48, pk_sub]
    repeat (first | refine pk1 (by omega) ?_ | refine pk2 (by omega) ?_ | refine bd1 (by omega) ?_)
    exact same
  obtain ⟨h1, h2⟩ := hs s hs4
  rcases h2 with h2 | ⟨⟨f, hf, h3⟩, sz, hn, h4, h5, h6⟩
  · refine r_110 ?_
    simp (disch := omega) only [true_imp_iff, false_imp_iff, not_true_eq_false, not_false_eq_true, and_true, true_and, Int32.reduceToInt, Int64.reduceToInt, Int32.reduceAdd, fa_lt, fa_le, fa_eq, cmi_lt, cmi_le, cmi_gt, cmi_ge, cmi_eq, fa_lt64, fa_le64, fa_eq64, Int32.toInt_toInt64, nI_toInt, ti_m1, sub1_ti, inB_iff, nI_clamp, Int32.add_zero, nI_1, nI_add, nI_p2, nI_p3, nI_p4, nI_p5, nI_p6, nI_p8, nI_p9, nI_p10, nI_m3, nI_m4, nI_m5, nI_m6, nI_m8, nI_m10, nI_m31, nI_m48, nI_m60, nI_m256, nI_t5, nI_t6, nI_a1, nI_a48, nI_a96, nI_d5, nI_d6, nI_d8, nI_d10, nI_d20, nI_s1, nI_s48, pk_sub, up_eq, up_na, up_nk, h1, h2]
    repeat (first | refine pk1 (by omega) ?_ | refine pk2 (by omega) ?_ | refine bd1 (by omega) ?_)
    refine r_202 ?_
    simp (disch := omega) only [true_imp_iff, false_imp_iff, not_true_eq_false, not_false_eq_true, and_true, true_and, Int32.reduceToInt, Int64.reduceToInt, Int32.reduceAdd, fa_lt, fa_le, fa_eq, cmi_lt, cmi_le, cmi_gt, cmi_ge, cmi_eq, fa_lt64, fa_le64, fa_eq64, Int32.toInt_toInt64, nI_toInt, ti_m1, sub1_ti, inB_iff, nI_clamp, Int32.add_zero, nI_1, nI_add, nI_p2, nI_p3, nI_p4, nI_p5, nI_p6, nI_p8, nI_p9, nI_p10, nI_m3, nI_m4, nI_m5, nI_m6, nI_m8, nI_m10, nI_m31, nI_m48, nI_m60, nI_m256, nI_t5, nI_t6, nI_a1, nI_a48, nI_a96, nI_d5, nI_d6, nI_d8, nI_d10, nI_d20, nI_s1, nI_s48, pk_sub, up_eq, up_na, up_nk, h2]
    repeat (first | refine pk1 (by omega) ?_ | refine pk2 (by omega) ?_ | refine bd1 (by omega) ?_)
    refine ⟨rfl, Ini_cong (by simp (disch := omega) only [up_eq, up_na, up_nk]) (by simp (disch := omega) only [up_eq, up_na, up_nk]) (fun b hb => Sm_tr (Sm_up (by omega)) (Sm_up (by omega))) hi, ?_, ?_, rfl⟩
    · unfold Ila
      simp (disch := omega) only [up_eq, up_na, up_nk]
    · intro x y z1 z2 z3 z4 z5
      unfold up2
      rw [if_neg (by omega), if_neg (by omega)]
  obtain ⟨n0, i1, i2, i3, i4⟩ := hi
  refine r_110 ?_
  simp (disch := omega) only [true_imp_iff, false_imp_iff, not_true_eq_false, not_false_eq_true, and_true, true_and, Int32.reduceToInt, Int64.reduceToInt, Int32.reduceAdd, fa_lt, fa_le, fa_eq, cmi_lt, cmi_le, cmi_gt, cmi_ge, cmi_eq, fa_lt64, fa_le64, fa_eq64, Int32.toInt_toInt64, nI_toInt, ti_m1, sub1_ti, inB_iff, nI_clamp, Int32.add_zero, nI_1, nI_add, nI_p2, nI_p3, nI_p4, nI_p5, nI_p6, nI_p8, nI_p9, nI_p10, nI_m3, nI_m4, nI_m5, nI_m6, nI_m8, nI_m10, nI_m31, nI_m48, nI_m60, nI_m256, nI_t5, nI_t6, nI_a1, nI_a48, nI_a96, nI_d5, nI_d6, nI_d8, nI_d10, nI_d20, nI_s1, nI_s48, pk_sub, up_eq, up_na, up_nk, h1, h3]
  repeat (first | refine pk1 (by omega) ?_ | refine pk2 (by omega) ?_ | refine bd1 (by omega) ?_)
  refine l_110 hs4 hn h4 (fun k => di 179 (60 * s + k)) h6 i1 i2 ?_
  intro J hJ hJ'
  have q : ∀ a k, ¬ (159 ≤ a ∧ a < 163) → rd1 di n0 J (fun k => di 179 (60 * s + k)) a k = di a k := by
    intro a k z
    unfold rd1
    rw [if_neg (by omega), if_neg (by omega), if_neg (by omega), if_neg (by omega)]
  refine r_202 ?_
  simp (disch := omega) only [true_imp_iff, false_imp_iff, not_true_eq_false, not_false_eq_true, and_true, true_and, Int32.reduceToInt, Int64.reduceToInt, Int32.reduceAdd, fa_lt, fa_le, fa_eq, cmi_lt, cmi_le, cmi_gt, cmi_ge, cmi_eq, fa_lt64, fa_le64, fa_eq64, Int32.toInt_toInt64, nI_toInt, ti_m1, sub1_ti, inB_iff, nI_clamp, Int32.add_zero, nI_1, nI_add, nI_p2, nI_p3, nI_p4, nI_p5, nI_p6, nI_p8, nI_p9, nI_p10, nI_m3, nI_m4, nI_m5, nI_m6, nI_m8, nI_m10, nI_m31, nI_m48, nI_m60, nI_m256, nI_t5, nI_t6, nI_a1, nI_a48, nI_a96, nI_d5, nI_d6, nI_d8, nI_d10, nI_d20, nI_s1, nI_s48, pk_sub, up_eq, up_na, up_nk, q, h3]
  repeat (first | refine pk1 (by omega) ?_ | refine pk2 (by omega) ?_ | refine bd1 (by omega) ?_)
  refine l_202 hs4 hn (by rw [q _ _ (by omega)]; exact h5) (fun k => di 179 (60 * s + k)) (fun k _ => q _ _ (by omega)) i1 (by rw [q _ _ (by omega)]; exact i3) ?_
  intro J2 hJ2 hJ2'
  have e := tkc_u hJ hJ' hJ2 hJ2'
  subst e
  have hJ8 : n0 + J ≤ 8 := by
    rcases Nat.eq_zero_or_pos J with z | z
    · omega
    · have := (hJ (J - 1) (by omega)).2.1
      omega
  have p : ∀ a k, ¬ (159 ≤ a ∧ a < 163) → ¬ a = 193 → ¬ (a = 176 ∧ k = 18) → rd2 (rd1 di n0 J (fun k => di 179 (60 * s + k))) n0 J (fun k => di 179 (60 * s + k)) a k = di a k := by
    intro a k z1 z2 z3
    unfold rd2
    rw [if_neg (by omega), if_neg (by omega)]
    exact q a k z1
  refine ⟨rfl, ?_, Ila_cong (p _ _ (by omega) (by omega) (by omega)) (p _ _ (by omega) (by omega) (by omega)) hl, ?_, rfl⟩
  · refine ⟨n0 + J, hJ8, ?_, ?_, ?_⟩
    · unfold rd2
      rw [if_neg (by omega), if_neg (by omega)]
      unfold rd1
      rw [if_neg (by omega), if_neg (by omega), if_neg (by omega), if_pos ⟨rfl, rfl⟩]
    · unfold rd2
      rw [if_neg (by omega), if_pos ⟨rfl, rfl⟩]
    · intro k hk
      by_cases hk0 : k < n0
      · have z1 : ∀ a, 160 ≤ a → a < 163 → rd2 (rd1 di n0 J (fun k => di 179 (60 * s + k))) n0 J (fun k => di 179 (60 * s + k)) a k = di a k := by
          intro a a1 a2
          unfold rd2
          rw [if_neg (by omega), if_neg (by omega)]
          unfold rd1
          rw [if_neg (by omega), if_neg (by omega), if_neg (by omega), if_neg (by omega)]
        have z2 : ∀ y, y < 3 * n0 → rd2 (rd1 di n0 J (fun k => di 179 (60 * s + k))) n0 J (fun k => di 179 (60 * s + k)) 193 y = di 193 y := by
          intro y hy
          unfold rd2
          rw [if_neg (by omega), if_neg (by omega)]
          exact q _ _ (by omega)
        rw [z1 160 (by omega) (by omega), z1 161 (by omega) (by omega), z1 162 (by omega) (by omega), z2 _ (by omega), z2 _ (by omega), z2 _ (by omega)]
        exact i4 k hk0
      · obtain ⟨o1, o2, o3⟩ := hJ (k - n0) (by omega)
        obtain ⟨⟨b, hb, b1⟩, ⟨c, hc, c1⟩, d1⟩ := okt_n o3
        refine ⟨b, c, _, hb, hc, d1, ?_, ?_, ?_, ?_, ?_, ?_⟩
        · unfold rd2
          rw [if_neg (by omega), if_neg (by omega)]
          unfold rd1
          rw [if_pos (by omega)]
          exact b1
        · unfold rd2
          rw [if_pos (by omega), show 3 * k - 3 * n0 = 3 * (k - n0) by omega]
          exact b1
        · unfold rd2
          rw [if_neg (by omega), if_neg (by omega)]
          unfold rd1
          rw [if_neg (by omega), if_pos (by omega)]
          exact c1
        · unfold rd2
          rw [if_pos (by omega), show 3 * k + 1 - 3 * n0 = 3 * (k - n0) + 1 by omega]
          exact c1
        · unfold rd2
          rw [if_neg (by omega), if_neg (by omega)]
          unfold rd1
          rw [if_neg (by omega), if_neg (by omega), if_pos (by omega)]
        · unfold rd2
          rw [if_pos (by omega), show 3 * k + 2 - 3 * n0 = 3 * (k - n0) + 2 by omega]
  · intro x y z1 z2 z3 z4 z5
    unfold rd2
    rw [if_neg (by omega), if_neg (by omega)]
    unfold rd1
    rw [if_neg (by omega), if_neg (by omega), if_neg (by omega), if_neg (by omega)]
