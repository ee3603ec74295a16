/-! texts: the reference reads them -/
def vS (j b : Nat) : Nat := if j = 3 then (if b = 110 then 1 else 0) else b - 48
def vK (b : Nat) : Nat := if b = 119 then 0 else if b = 108 then 1 else 2
/-- value j of a cloth whose bytes are g 0 to g 4 -/
def vC (j : Nat) (g : Nat → Nat) : Nat := if j = 0 then 10 * (g 0 - 48) + (g 1 - 48) else if j = 1 then vK (g 2) else if j = 2 then g 3 - 48 else g 4 - 48
def vM (b : Nat) : Nat := if b = 46 then 0 else if b = 114 then 1 else if b = 102 then 2 else if b = 115 then 3 else 4
theorem c_155 {di : tDi} {dl : tDl} {b l : Nat} (hb : b ≤ 255) (hl : l ≤ 1) {K : Int32 → tDi → tDl → Prop} (k1 : 48 + l ≤ b → b ≤ 57 → K (nI (b - 48)) di dl) (k0 : ¬ (48 + l ≤ b ∧ b ≤ 57) → K (-9) di dl) : ClI 1 155 [.int (nI b), .int (nI l)] di dl K := by
  refine r_155 ?_
  simp (disch := omega) only [true_imp_iff, false_imp_iff, not_true_eq_false, not_false_eq_true, and_true, true_and, Int32.reduceToInt, Int64.reduceToInt, Int32.reduceAdd, fa_lt, fa_le, fa_eq, cmi_lt, cmi_le, cmi_gt, cmi_ge, cmi_eq, fa_lt64, fa_le64, fa_eq64, Int32.toInt_toInt64, nI_toInt, ti_m1, sub1_ti, inB_iff, nI_clamp, Int32.add_zero, nI_1, nI_add, nI_p2, nI_p3, nI_p4, nI_p5, nI_p6, nI_p8, nI_p9, nI_p10, nI_m3, nI_m4, nI_m5, nI_m6, nI_m8, nI_m10, nI_m31, nI_m48, nI_m60, nI_m256, nI_t5, nI_t6, nI_a1, nI_a48, nI_a96, nI_d5, nI_d6, nI_d8, nI_d10, nI_d20, nI_s1, nI_s48, pk_sub]
  refine ⟨fun z => k0 (by omega), fun z => ⟨fun z' => k0 (by omega), fun z' => ?_⟩⟩
  rw [nI_s48 (by omega)]
  exact k1 (by omega) (by omega)
theorem c_155w {di : tDi} {dl : tDl} {l : Nat} (hl : l ≤ 1) {K : Int32 → tDi → tDl → Prop} (k0 : K (-9) di dl) : ClI 1 155 [.int (-9), .int (nI l)] di dl K := by
  refine r_155 ?_
  simp (disch := omega) only [true_imp_iff, false_imp_iff, not_true_eq_false, not_false_eq_true, and_true, true_and, Int32.reduceToInt, Int64.reduceToInt, Int32.reduceAdd, fa_lt, fa_le, fa_eq, cmi_lt, cmi_le, cmi_gt, cmi_ge, cmi_eq, fa_lt64, fa_le64, fa_eq64, Int32.toInt_toInt64, nI_toInt, ti_m1, sub1_ti, inB_iff, nI_clamp, Int32.add_zero, nI_1, nI_add, nI_p2, nI_p3, nI_p4, nI_p5, nI_p6, nI_p8, nI_p9, nI_p10, nI_m3, nI_m4, nI_m5, nI_m6, nI_m8, nI_m10, nI_m31, nI_m48, nI_m60, nI_m256, nI_t5, nI_t6, nI_a1, nI_a48, nI_a96, nI_d5, nI_d6, nI_d8, nI_d10, nI_d20, nI_s1, nI_s48, pk_sub, show (-9 : Int32).toInt = -9 from rfl]
  repeat (first | refine pk1 (by omega) ?_ | refine pk2 (by omega) ?_ | refine bd1 (by omega) ?_)
  exact k0
theorem c_156 {di : tDi} {dl : tDl} {j b : Nat} (hj : j < 4) (hb : b ≤ 255) {K : Int32 → tDi → tDl → Prop} (k1 : okS j b → K (nI (vS j b)) di dl) (k0 : ¬ okS j b → K (-9) di dl) : ClI 2 156 [.int (nI j), .int (nI b)] di dl K := by
  refine r_156 ?_
  unfold okS at k1 k0
  unfold vS at k1
  rcases (by omega : j = 0 ∨ j = 1 ∨ j = 2 ∨ j = 3) with e | e | e | e
  · subst e
    simp (disch := omega) only [true_imp_iff, false_imp_iff, not_true_eq_false, not_false_eq_true, and_true, true_and, Int32.reduceToInt, Int64.reduceToInt, Int32.reduceAdd, fa_lt, fa_le, fa_eq, cmi_lt, cmi_le, cmi_gt, cmi_ge, cmi_eq, fa_lt64, fa_le64, fa_eq64, Int32.toInt_toInt64, nI_toInt, ti_m1, sub1_ti, inB_iff, nI_clamp, Int32.add_zero, nI_1, nI_add, nI_p2, nI_p3, nI_p4, nI_p5, nI_p6, nI_p8, nI_p9, nI_p10, nI_m3, nI_m4, nI_m5, nI_m6, nI_m8, nI_m10, nI_m31, nI_m48, nI_m60, nI_m256, nI_t5, nI_t6, nI_a1, nI_a48, nI_a96, nI_d5, nI_d6, nI_d8, nI_d10, nI_d20, nI_s1, nI_s48, pk_sub]
    repeat (first | refine pk1 (by omega) ?_ | refine pk2 (by omega) ?_ | refine bd1 (by omega) ?_)
    exact c_155 (l := 1) hb (by omega) (fun h h' => k1 (by omega)) (fun h => k0 (by omega))
  · subst e
    simp (disch := omega) only [true_imp_iff, false_imp_iff, not_true_eq_false, not_false_eq_true, and_true, true_and, Int32.reduceToInt, Int64.reduceToInt, Int32.reduceAdd, fa_lt, fa_le, fa_eq, cmi_lt, cmi_le, cmi_gt, cmi_ge, cmi_eq, fa_lt64, fa_le64, fa_eq64, Int32.toInt_toInt64, nI_toInt, ti_m1, sub1_ti, inB_iff, nI_clamp, Int32.add_zero, nI_1, nI_add, nI_p2, nI_p3, nI_p4, nI_p5, nI_p6, nI_p8, nI_p9, nI_p10, nI_m3, nI_m4, nI_m5, nI_m6, nI_m8, nI_m10, nI_m31, nI_m48, nI_m60, nI_m256, nI_t5, nI_t6, nI_a1, nI_a48, nI_a96, nI_d5, nI_d6, nI_d8, nI_d10, nI_d20, nI_s1, nI_s48, pk_sub]
    repeat (first | refine pk1 (by omega) ?_ | refine pk2 (by omega) ?_ | refine bd1 (by omega) ?_)
    exact c_155 (l := 0) hb (by omega) (fun h h' => k1 (by omega)) (fun h => k0 (by omega))
  · subst e
    simp (disch := omega) only [true_imp_iff, false_imp_iff, not_true_eq_false, not_false_eq_true, and_true, true_and, Int32.reduceToInt, Int64.reduceToInt, Int32.reduceAdd, fa_lt, fa_le, fa_eq, cmi_lt, cmi_le, cmi_gt, cmi_ge, cmi_eq, fa_lt64, fa_le64, fa_eq64, Int32.toInt_toInt64, nI_toInt, ti_m1, sub1_ti, inB_iff, nI_clamp, Int32.add_zero, nI_1, nI_add, nI_p2, nI_p3, nI_p4, nI_p5, nI_p6, nI_p8, nI_p9, nI_p10, nI_m3, nI_m4, nI_m5, nI_m6, nI_m8, nI_m10, nI_m31, nI_m48, nI_m60, nI_m256, nI_t5, nI_t6, nI_a1, nI_a48, nI_a96, nI_d5, nI_d6, nI_d8, nI_d10, nI_d20, nI_s1, nI_s48, pk_sub]
    repeat (first | refine pk1 (by omega) ?_ | refine pk2 (by omega) ?_ | refine bd1 (by omega) ?_)
    exact c_155 (l := 0) hb (by omega) (fun h h' => k1 (by omega)) (fun h => k0 (by omega))
  · subst e
    simp (disch := omega) only [true_imp_iff, false_imp_iff, not_true_eq_false, not_false_eq_true, and_true, true_and, Int32.reduceToInt, Int64.reduceToInt, Int32.reduceAdd, fa_lt, fa_le, fa_eq, cmi_lt, cmi_le, cmi_gt, cmi_ge, cmi_eq, fa_lt64, fa_le64, fa_eq64, Int32.toInt_toInt64, nI_toInt, ti_m1, sub1_ti, inB_iff, nI_clamp, Int32.add_zero, nI_1, nI_add, nI_p2, nI_p3, nI_p4, nI_p5, nI_p6, nI_p8, nI_p9, nI_p10, nI_m3, nI_m4, nI_m5, nI_m6, nI_m8, nI_m10, nI_m31, nI_m48, nI_m60, nI_m256, nI_t5, nI_t6, nI_a1, nI_a48, nI_a96, nI_d5, nI_d6, nI_d8, nI_d10, nI_d20, nI_s1, nI_s48, pk_sub]
    repeat (first | refine pk1 (by omega) ?_ | refine pk2 (by omega) ?_ | refine bd1 (by omega) ?_)
    refine ⟨fun h => ⟨fun h' => k0 (by omega), fun h' => ?_⟩, fun h => ?_⟩
    · have := k1 (by omega)
      rw [if_pos rfl, if_neg (by omega)] at this
      exact this
    · have := k1 (by omega)
      rw [if_pos rfl, if_pos (by omega)] at this
      exact this
/-- a statue is read, or not -/
theorem c_158 {di : tDi} {dl : tDl} {k p n : Nat} {f : Nat → Nat} (hk : k < 8) (hn : n ≤ 47) (hp : p ≤ n) (h1 : di 182 0 = nI n) (h2 : di 176 7 = nI p) (h3 : di 183 0 = nI k) (hb : ∀ i, i < n → f i ≤ 255 ∧ di 181 i = nI (f i)) {K : Int32 → tDi → tDl → Prop} (k1 : ∀ d, (∀ j, j < 4 → p + j < n ∧ okS j (f (p + j))) → d 176 7 = nI (p + 4) → (∀ j, j < 4 → d 184 (4 * k + j) = nI (vS j (f (p + j)))) → (∀ a y, ¬ (a = 176 ∧ y = 7) → ¬ (a = 184 ∧ 4 * k ≤ y) → d a y = di a y) → K 1 d dl) (k0 : ∀ d j, j < 4 → (∀ i, i < j → p + i < n ∧ okS i (f (p + i))) → ¬ (p + j < n ∧ okS j (f (p + j))) → d 176 7 = nI (p + j) → (∀ a y, ¬ (a = 176 ∧ y = 7) → ¬ (a = 184 ∧ 4 * k ≤ y) → d a y = di a y) → K 0 d dl) : ClI 3 158 [.ref 176] di dl K := by
  refine r_158 ?_
  refine up_to (n := 4) (G := fun j => ∀ d, (∀ i, i < j → p + i < n ∧ okS i (f (p + i))) → d 176 7 = nI (p + j) → (∀ i, i < j → d 184 (4 * k + i) = nI (vS i (f (p + i)))) → (∀ a y, ¬ (a = 176 ∧ y = 7) → ¬ (a = 184 ∧ 4 * k ≤ y) → d a y = di a y) → Wq none 3 158 2 [(0, .ref 176), (1, .int (nI j))] [] d dl (RI K)) ?_ ?_ (Nat.zero_le 4) di (fun i hi => absurd hi (Nat.not_lt_zero i)) h2 (fun i hi => absurd hi (Nat.not_lt_zero i)) (fun _ _ _ _ => rfl)
  · intro d o d7 dv fr
    refine r_158_2 ?_
    simp (disch := omega) only [true_imp_iff, false_imp_iff, not_true_eq_false, not_false_eq_true, and_true, true_and, Int32.reduceToInt, Int64.reduceToInt, Int32.reduceAdd, fa_lt, fa_le, fa_eq, cmi_lt, cmi_le, cmi_gt, cmi_ge, cmi_eq, fa_lt64, fa_le64, fa_eq64, Int32.toInt_toInt64, nI_toInt, ti_m1, sub1_ti, inB_iff, nI_clamp, Int32.add_zero, nI_1, nI_add, nI_p2, nI_p3, nI_p4, nI_p5, nI_p6, nI_p8, nI_p9, nI_p10, nI_m3, nI_m4, nI_m5, nI_m6, nI_m8, nI_m10, nI_m31, nI_m48, nI_m60, nI_m256, nI_t5, nI_t6, nI_a1, nI_a48, nI_a96, nI_d5, nI_d6, nI_d8, nI_d10, nI_d20, nI_s1, nI_s48, pk_sub]
    repeat (first | refine pk1 (by omega) ?_ | refine pk2 (by omega) ?_ | refine bd1 (by omega) ?_)
    exact k1 d o d7 dv fr
  · intro j hj ih d o d7 dv fr
    have e1 : d 182 0 = nI n := by rw [fr _ _ (by omega) (by omega)]; exact h1
    have e3 : d 183 0 = nI k := by rw [fr _ _ (by omega) (by omega)]; exact h3
    refine r_158_2 ?_
    simp (disch := omega) only [true_imp_iff, false_imp_iff, not_true_eq_false, not_false_eq_true, and_true, true_and, Int32.reduceToInt, Int64.reduceToInt, Int32.reduceAdd, fa_lt, fa_le, fa_eq, cmi_lt, cmi_le, cmi_gt, cmi_ge, cmi_eq, fa_lt64, fa_le64, fa_eq64, Int32.toInt_toInt64, nI_toInt, ti_m1, sub1_ti, inB_iff, nI_clamp, Int32.add_zero, nI_1, nI_add, nI_p2, nI_p3, nI_p4, nI_p5, nI_p6, nI_p8, nI_p9, nI_p10, nI_m3, nI_m4, nI_m5, nI_m6, nI_m8, nI_m10, nI_m31, nI_m48, nI_m60, nI_m256, nI_t5, nI_t6, nI_a1, nI_a48, nI_a96, nI_d5, nI_d6, nI_d8, nI_d10, nI_d20, nI_s1, nI_s48, pk_sub, e1, e3, d7]
    by_cases hpn : p + j < n
    · repeat (first | refine pk1 (by omega) ?_ | refine pk2 (by omega) ?_ | refine bd1 (by omega) ?_)
      have e4 : d 181 (p + j) = nI (f (p + j)) := by rw [fr _ _ (by omega) (by omega)]; exact (hb _ hpn).2
      rw [e4]
      refine c_156 hj (hb _ hpn).1 (fun h => ?_) (fun h => ?_)
      · have hv : vS j (f (p + j)) ≤ 255 := by
          unfold vS
          have := (hb _ hpn).1
          split
          · split
            · omega
            · omega
          · omega
        simp (disch := omega) only [true_imp_iff, false_imp_iff, not_true_eq_false, not_false_eq_true, and_true, true_and, Int32.reduceToInt, Int64.reduceToInt, Int32.reduceAdd, fa_lt, fa_le, fa_eq, cmi_lt, cmi_le, cmi_gt, cmi_ge, cmi_eq, fa_lt64, fa_le64, fa_eq64, Int32.toInt_toInt64, nI_toInt, ti_m1, sub1_ti, inB_iff, nI_clamp, Int32.add_zero, nI_1, nI_add, nI_p2, nI_p3, nI_p4, nI_p5, nI_p6, nI_p8, nI_p9, nI_p10, nI_m3, nI_m4, nI_m5, nI_m6, nI_m8, nI_m10, nI_m31, nI_m48, nI_m60, nI_m256, nI_t5, nI_t6, nI_a1, nI_a48, nI_a96, nI_d5, nI_d6, nI_d8, nI_d10, nI_d20, nI_s1, nI_s48, pk_sub, e3, d7]
        repeat (first | refine pk1 (by omega) ?_ | refine pk2 (by omega) ?_ | refine bd1 (by omega) ?_)
        refine ih _ ?_ (by simp (disch := omega) only [up_eq, up_na, up_nk]; rfl) ?_ ?_
        · intro i hi
          rcases Nat.lt_succ_iff_lt_or_eq.mp hi with z | z
          · exact o i z
          · subst z
            exact ⟨hpn, h⟩
        · intro i hi
          rcases Nat.lt_succ_iff_lt_or_eq.mp hi with z | z
          · rw [up_na (by omega), up_nk (by omega)]
            exact dv i z
          · subst z
            rw [up_na (by omega), up_eq]
        · intro a y z1 z2
          unfold up2
          rw [if_neg (by omega), if_neg (by omega)]
          exact fr a y z1 z2
      · refine pk2 (by decide) (k0 d j hj o (fun z => h z.2) d7 fr)
    · repeat (first | refine pk1 (by omega) ?_ | refine pk2 (by omega) ?_ | refine bd1 (by omega) ?_)
      exact k0 d j hj o (fun z => hpn z.1) d7 fr

/-- the reference's place in a cloth, behind j bytes: what it has stored -/
def sC (j : Nat) (g : Nat → Nat) (d : tDi) (k : Nat) : Prop := (1 ≤ j → j < 2 → d 185 (4 * k) = nI (g 0 - 48)) ∧ (2 ≤ j → d 185 (4 * k) = nI (vC 0 g)) ∧ (3 ≤ j → d 185 (4 * k + 1) = nI (vC 1 g)) ∧ (4 ≤ j → d 185 (4 * k + 2) = nI (vC 2 g)) ∧ (5 ≤ j → d 185 (4 * k + 3) = nI (vC 3 g))
/-- large behind j bytes -/
def gC (j : Nat) (g : Nat → Nat) : Nat := if j = 0 then 0 else if j = 1 then g 0 - 48 else vC 0 g
theorem t_159_0 {di d : tDi} {dl : tDl} {k p n : Nat} {f : Nat → Nat} (hk : k < 8) (hn : n ≤ 47) (hp : p ≤ n) (h1 : di 182 1 = nI n) (h3 : di 183 1 = nI k) (hb : ∀ i, i < n → f i ≤ 255 ∧ di 181 (48 + i) = nI (f i)) {K : Int32 → tDi → tDl → Prop} (k0 : ∀ d j, j < 5 → (∀ i, i < j → p + i < n ∧ okD i (f (p + i - 1)) (f (p + i))) → ¬ (p + j < n ∧ okD j (f (p + j - 1)) (f (p + j))) → d 176 7 = nI (p + j) → (∀ a y, ¬ (a = 176 ∧ y = 7) → ¬ (a = 185 ∧ 4 * k ≤ y) → d a y = di a y) → K 0 d dl) (o : ∀ i, i < 0 → p + i < n ∧ okD i (f (p + i - 1)) (f (p + i))) (d7 : d 176 7 = nI (p + 0)) (sc : sC 0 (fun i => f (p + i)) d k) (fr : ∀ a y, ¬ (a = 176 ∧ y = 7) → ¬ (a = 185 ∧ 4 * k ≤ y) → d a y = di a y) (nx : ∀ d, (∀ i, i < 1 → p + i < n ∧ okD i (f (p + i - 1)) (f (p + i))) → d 176 7 = nI (p + 1) → sC 1 (fun i => f (p + i)) d k → (∀ a y, ¬ (a = 176 ∧ y = 7) → ¬ (a = 185 ∧ 4 * k ≤ y) → d a y = di a y) → Wq none 2 159 4 [(0, .ref 176), (1, .int (nI (gC 1 (fun i => f (p + i))))), (2, .int (nI 1))] [] d dl (RI K)) : Wq none 2 159 4 [(0, .ref 176), (1, .int (nI (gC 0 (fun i => f (p + i))))), (2, .int (nI 0))] [] d dl (RI K) := by
  have e1 : d 182 1 = nI n := by rw [fr _ _ (by omega) (by omega)]; exact h1
  have e3 : d 183 1 = nI k := by rw [fr _ _ (by omega) (by omega)]; exact h3
  refine r_159_4 ?_
  simp (disch := omega) only [true_imp_iff, false_imp_iff, not_true_eq_false, not_false_eq_true, and_true, true_and, Int32.reduceToInt, Int64.reduceToInt, Int32.reduceAdd, fa_lt, fa_le, fa_eq, cmi_lt, cmi_le, cmi_gt, cmi_ge, cmi_eq, fa_lt64, fa_le64, fa_eq64, Int32.toInt_toInt64, nI_toInt, ti_m1, sub1_ti, inB_iff, nI_clamp, Int32.add_zero, nI_1, nI_add, nI_p2, nI_p3, nI_p4, nI_p5, nI_p6, nI_p8, nI_p9, nI_p10, nI_m3, nI_m4, nI_m5, nI_m6, nI_m8, nI_m10, nI_m31, nI_m48, nI_m60, nI_m256, nI_t5, nI_t6, nI_a1, nI_a48, nI_a96, nI_d5, nI_d6, nI_d8, nI_d10, nI_d20, nI_s1, nI_s48, pk_sub, e1, d7]
  by_cases hpn : p + 0 < n
  · repeat (first | refine pk1 (by omega) ?_ | refine pk2 (by omega) ?_ | refine bd1 (by omega) ?_)
    have e4 : d 181 (48 + (p + 0)) = nI (f (p + 0)) := by rw [fr _ _ (by omega) (by omega)]; exact (hb _ hpn).2
    rw [e4]
    have hb5 := (hb _ hpn).1
    have FIN : okD 0 (f (p + 0 - 1)) (f (p + 0)) → Wq none 2 159 4 [(0, .ref 176), (1, .int (nI (gC 1 (fun i => f (p + i))))), (2, .int (nI (0 + 1)))] [] (up2 (up2 d 185 (4 * k) (nI (f (p + 0) - 48))) 176 7 (nI (p + 0 + 1))) dl (RI K) := by
      intro ho
      refine nx _ ?_ (by simp (disch := omega) only [up_eq, up_na, up_nk]) ?_ ?_
      · intro i hi
        rcases Nat.lt_succ_iff_lt_or_eq.mp hi with z | z
        · exact o i z
        · subst z
          exact ⟨hpn, ho⟩
      · obtain ⟨s0, s1, s2, s3, s4⟩ := sc
        unfold sC
        refine ⟨fun z z' => ?_, fun z => ?_, fun z => ?_, fun z => ?_, fun z => ?_⟩ <;> first | omega | (simp (disch := omega) only [up_eq, up_na, up_nk]; first | done | rfl | exact s0 (by omega) (by omega) | exact s1 (by omega) | exact s2 (by omega) | exact s3 (by omega) | exact s4 (by omega))
      · intro a y z1 z2
        unfold up2
        rw [if_neg (by omega), if_neg (by omega)]
        exact fr a y z1 z2
    have hg0 : gC 0 (fun i => f (p + i)) = 0 := rfl
    refine r_159_39 ?_
    simp (disch := omega) only [true_imp_iff, false_imp_iff, not_true_eq_false, not_false_eq_true, and_true, true_and, Int32.reduceToInt, Int64.reduceToInt, Int32.reduceAdd, fa_lt, fa_le, fa_eq, cmi_lt, cmi_le, cmi_gt, cmi_ge, cmi_eq, fa_lt64, fa_le64, fa_eq64, Int32.toInt_toInt64, nI_toInt, ti_m1, sub1_ti, inB_iff, nI_clamp, Int32.add_zero, nI_1, nI_add, nI_p2, nI_p3, nI_p4, nI_p5, nI_p6, nI_p8, nI_p9, nI_p10, nI_m3, nI_m4, nI_m5, nI_m6, nI_m8, nI_m10, nI_m31, nI_m48, nI_m60, nI_m256, nI_t5, nI_t6, nI_a1, nI_a48, nI_a96, nI_d5, nI_d6, nI_d8, nI_d10, nI_d20, nI_s1, nI_s48, pk_sub]
    repeat (first | refine pk1 (by omega) ?_ | refine pk2 (by omega) ?_ | refine bd1 (by omega) ?_)
    refine r_159_63 ?_
    refine c_155 (l := 0) (hb _ hpn).1 (by omega) (fun g1 g2 => ?_) (fun g => ?_)
    · refine r_159_66 ?_
      simp (disch := omega) only [true_imp_iff, false_imp_iff, not_true_eq_false, not_false_eq_true, and_true, true_and, Int32.reduceToInt, Int64.reduceToInt, Int32.reduceAdd, fa_lt, fa_le, fa_eq, cmi_lt, cmi_le, cmi_gt, cmi_ge, cmi_eq, fa_lt64, fa_le64, fa_eq64, Int32.toInt_toInt64, nI_toInt, ti_m1, sub1_ti, inB_iff, nI_clamp, Int32.add_zero, nI_1, nI_add, nI_p2, nI_p3, nI_p4, nI_p5, nI_p6, nI_p8, nI_p9, nI_p10, nI_m3, nI_m4, nI_m5, nI_m6, nI_m8, nI_m10, nI_m31, nI_m48, nI_m60, nI_m256, nI_t5, nI_t6, nI_a1, nI_a48, nI_a96, nI_d5, nI_d6, nI_d8, nI_d10, nI_d20, nI_s1, nI_s48, pk_sub, show (-9 : Int32).toInt = -9 from rfl]
      repeat (first | refine pk1 (by omega) ?_ | refine pk2 (by omega) ?_ | refine bd1 (by omega) ?_)
      refine r_159_86 ?_
      simp (disch := omega) only [true_imp_iff, false_imp_iff, not_true_eq_false, not_false_eq_true, and_true, true_and, Int32.reduceToInt, Int64.reduceToInt, Int32.reduceAdd, fa_lt, fa_le, fa_eq, cmi_lt, cmi_le, cmi_gt, cmi_ge, cmi_eq, fa_lt64, fa_le64, fa_eq64, Int32.toInt_toInt64, nI_toInt, ti_m1, sub1_ti, inB_iff, nI_clamp, Int32.add_zero, nI_1, nI_add, nI_p2, nI_p3, nI_p4, nI_p5, nI_p6, nI_p8, nI_p9, nI_p10, nI_m3, nI_m4, nI_m5, nI_m6, nI_m8, nI_m10, nI_m31, nI_m48, nI_m60, nI_m256, nI_t5, nI_t6, nI_a1, nI_a48, nI_a96, nI_d5, nI_d6, nI_d8, nI_d10, nI_d20, nI_s1, nI_s48, pk_sub, hg0, Nat.mul_zero, Nat.zero_add]
      repeat (first | refine pk1 (by omega) ?_ | refine pk2 (by omega) ?_ | refine bd1 (by omega) ?_)
      refine r_159_102 ?_
      simp (disch := omega) only [true_imp_iff, false_imp_iff, not_true_eq_false, not_false_eq_true, and_true, true_and, Int32.reduceToInt, Int64.reduceToInt, Int32.reduceAdd, fa_lt, fa_le, fa_eq, cmi_lt, cmi_le, cmi_gt, cmi_ge, cmi_eq, fa_lt64, fa_le64, fa_eq64, Int32.toInt_toInt64, nI_toInt, ti_m1, sub1_ti, inB_iff, nI_clamp, Int32.add_zero, nI_1, nI_add, nI_p2, nI_p3, nI_p4, nI_p5, nI_p6, nI_p8, nI_p9, nI_p10, nI_m3, nI_m4, nI_m5, nI_m6, nI_m8, nI_m10, nI_m31, nI_m48, nI_m60, nI_m256, nI_t5, nI_t6, nI_a1, nI_a48, nI_a96, nI_d5, nI_d6, nI_d8, nI_d10, nI_d20, nI_s1, nI_s48, pk_sub, e3]
      repeat (first | refine pk1 (by omega) ?_ | refine pk2 (by omega) ?_ | refine bd1 (by omega) ?_)
      refine r_159_127 ?_
      simp (disch := omega) only [true_imp_iff, false_imp_iff, not_true_eq_false, not_false_eq_true, and_true, true_and, Int32.reduceToInt, Int64.reduceToInt, Int32.reduceAdd, fa_lt, fa_le, fa_eq, cmi_lt, cmi_le, cmi_gt, cmi_ge, cmi_eq, fa_lt64, fa_le64, fa_eq64, Int32.toInt_toInt64, nI_toInt, ti_m1, sub1_ti, inB_iff, nI_clamp, Int32.add_zero, nI_1, nI_add, nI_p2, nI_p3, nI_p4, nI_p5, nI_p6, nI_p8, nI_p9, nI_p10, nI_m3, nI_m4, nI_m5, nI_m6, nI_m8, nI_m10, nI_m31, nI_m48, nI_m60, nI_m256, nI_t5, nI_t6, nI_a1, nI_a48, nI_a96, nI_d5, nI_d6, nI_d8, nI_d10, nI_d20, nI_s1, nI_s48, pk_sub]
      repeat (first | refine pk1 (by omega) ?_ | refine pk2 (by omega) ?_ | refine bd1 (by omega) ?_)
      refine r_159_139 ?_
      simp (disch := omega) only [true_imp_iff, false_imp_iff, not_true_eq_false, not_false_eq_true, and_true, true_and, Int32.reduceToInt, Int64.reduceToInt, Int32.reduceAdd, fa_lt, fa_le, fa_eq, cmi_lt, cmi_le, cmi_gt, cmi_ge, cmi_eq, fa_lt64, fa_le64, fa_eq64, Int32.toInt_toInt64, nI_toInt, ti_m1, sub1_ti, inB_iff, nI_clamp, Int32.add_zero, nI_1, nI_add, nI_p2, nI_p3, nI_p4, nI_p5, nI_p6, nI_p8, nI_p9, nI_p10, nI_m3, nI_m4, nI_m5, nI_m6, nI_m8, nI_m10, nI_m31, nI_m48, nI_m60, nI_m256, nI_t5, nI_t6, nI_a1, nI_a48, nI_a96, nI_d5, nI_d6, nI_d8, nI_d10, nI_d20, nI_s1, nI_s48, pk_sub, d7]
      repeat (first | refine pk1 (by omega) ?_ | refine pk2 (by omega) ?_ | refine bd1 (by omega) ?_)
      exact FIN (by unfold okD; omega)
    · exact r_159_66 ⟨fun _ => r_159_84 (k0 d 0 (by omega) o (fun z => by
        have := z.2
        unfold okD at this
        omega) d7 fr), fun z => absurd rfl z⟩
  · repeat (first | refine pk1 (by omega) ?_ | refine pk2 (by omega) ?_ | refine bd1 (by omega) ?_)
    refine r_159_39 ?_
    simp (disch := omega) only [true_imp_iff, false_imp_iff, not_true_eq_false, not_false_eq_true, and_true, true_and, Int32.reduceToInt, Int64.reduceToInt, Int32.reduceAdd, fa_lt, fa_le, fa_eq, cmi_lt, cmi_le, cmi_gt, cmi_ge, cmi_eq, fa_lt64, fa_le64, fa_eq64, Int32.toInt_toInt64, nI_toInt, ti_m1, sub1_ti, inB_iff, nI_clamp, Int32.add_zero, nI_1, nI_add, nI_p2, nI_p3, nI_p4, nI_p5, nI_p6, nI_p8, nI_p9, nI_p10, nI_m3, nI_m4, nI_m5, nI_m6, nI_m8, nI_m10, nI_m31, nI_m48, nI_m60, nI_m256, nI_t5, nI_t6, nI_a1, nI_a48, nI_a96, nI_d5, nI_d6, nI_d8, nI_d10, nI_d20, nI_s1, nI_s48, pk_sub]
    repeat (first | refine pk1 (by omega) ?_ | refine pk2 (by omega) ?_ | refine bd1 (by omega) ?_)
    exact r_159_63 (c_155w (l := 0) (by omega) (r_159_66 ⟨fun _ => r_159_84 (k0 d 0 (by omega) o (fun z => hpn z.1) d7 fr), fun z => absurd rfl z⟩))
theorem t_159_1 {di d : tDi} {dl : tDl} {k p n : Nat} {f : Nat → Nat} (hk : k < 8) (hn : n ≤ 47) (hp : p ≤ n) (h1 : di 182 1 = nI n) (h3 : di 183 1 = nI k) (hb : ∀ i, i < n → f i ≤ 255 ∧ di 181 (48 + i) = nI (f i)) {K : Int32 → tDi → tDl → Prop} (k0 : ∀ d j, j < 5 → (∀ i, i < j → p + i < n ∧ okD i (f (p + i - 1)) (f (p + i))) → ¬ (p + j < n ∧ okD j (f (p + j - 1)) (f (p + j))) → d 176 7 = nI (p + j) → (∀ a y, ¬ (a = 176 ∧ y = 7) → ¬ (a = 185 ∧ 4 * k ≤ y) → d a y = di a y) → K 0 d dl) (o : ∀ i, i < 1 → p + i < n ∧ okD i (f (p + i - 1)) (f (p + i))) (d7 : d 176 7 = nI (p + 1)) (sc : sC 1 (fun i => f (p + i)) d k) (fr : ∀ a y, ¬ (a = 176 ∧ y = 7) → ¬ (a = 185 ∧ 4 * k ≤ y) → d a y = di a y) (nx : ∀ d, (∀ i, i < 2 → p + i < n ∧ okD i (f (p + i - 1)) (f (p + i))) → d 176 7 = nI (p + 2) → sC 2 (fun i => f (p + i)) d k → (∀ a y, ¬ (a = 176 ∧ y = 7) → ¬ (a = 185 ∧ 4 * k ≤ y) → d a y = di a y) → Wq none 2 159 4 [(0, .ref 176), (1, .int (nI (gC 2 (fun i => f (p + i))))), (2, .int (nI 2))] [] d dl (RI K)) : Wq none 2 159 4 [(0, .ref 176), (1, .int (nI (gC 1 (fun i => f (p + i))))), (2, .int (nI 1))] [] d dl (RI K) := by
  have e1 : d 182 1 = nI n := by rw [fr _ _ (by omega) (by omega)]; exact h1
  have e3 : d 183 1 = nI k := by rw [fr _ _ (by omega) (by omega)]; exact h3
  refine r_159_4 ?_
  simp (disch := omega) only [true_imp_iff, false_imp_iff, not_true_eq_false, not_false_eq_true, and_true, true_and, Int32.reduceToInt, Int64.reduceToInt, Int32.reduceAdd, fa_lt, fa_le, fa_eq, cmi_lt, cmi_le, cmi_gt, cmi_ge, cmi_eq, fa_lt64, fa_le64, fa_eq64, Int32.toInt_toInt64, nI_toInt, ti_m1, sub1_ti, inB_iff, nI_clamp, Int32.add_zero, nI_1, nI_add, nI_p2, nI_p3, nI_p4, nI_p5, nI_p6, nI_p8, nI_p9, nI_p10, nI_m3, nI_m4, nI_m5, nI_m6, nI_m8, nI_m10, nI_m31, nI_m48, nI_m60, nI_m256, nI_t5, nI_t6, nI_a1, nI_a48, nI_a96, nI_d5, nI_d6, nI_d8, nI_d10, nI_d20, nI_s1, nI_s48, pk_sub, e1, d7]
  by_cases hpn : p + 1 < n
  · repeat (first | refine pk1 (by omega) ?_ | refine pk2 (by omega) ?_ | refine bd1 (by omega) ?_)
    have e4 : d 181 (48 + (p + 1)) = nI (f (p + 1)) := by rw [fr _ _ (by omega) (by omega)]; exact (hb _ hpn).2
    rw [e4]
    have hb5 := (hb _ hpn).1
    have FIN : okD 1 (f (p + 1 - 1)) (f (p + 1)) → Wq none 2 159 4 [(0, .ref 176), (1, .int (nI (gC 2 (fun i => f (p + i))))), (2, .int (nI (1 + 1)))] [] (up2 (up2 d 185 (4 * k) (nI (vC 0 (fun i => f (p + i))))) 176 7 (nI (p + 1 + 1))) dl (RI K) := by
      intro ho
      refine nx _ ?_ (by simp (disch := omega) only [up_eq, up_na, up_nk]) ?_ ?_
      · intro i hi
        rcases Nat.lt_succ_iff_lt_or_eq.mp hi with z | z
        · exact o i z
        · subst z
          exact ⟨hpn, ho⟩
      · obtain ⟨s0, s1, s2, s3, s4⟩ := sc
        unfold sC
        refine ⟨fun z z' => ?_, fun z => ?_, fun z => ?_, fun z => ?_, fun z => ?_⟩ <;> first | omega | (simp (disch := omega) only [up_eq, up_na, up_nk]; first | done | rfl | exact s0 (by omega) (by omega) | exact s1 (by omega) | exact s2 (by omega) | exact s3 (by omega) | exact s4 (by omega))
      · intro a y z1 z2
        unfold up2
        rw [if_neg (by omega), if_neg (by omega)]
        exact fr a y z1 z2
    have hg0 : gC 1 (fun i => f (p + i)) = f p - 48 := rfl
    have hp0 := o 0 (by omega)
    have hb0 := (hb p (by omega)).1
    have hp1 : 48 ≤ f p := by
      have := hp0.2
      rw [Nat.add_zero] at this
      unfold okD at this
      omega
    refine r_159_39 ?_
    simp (disch := omega) only [true_imp_iff, false_imp_iff, not_true_eq_false, not_false_eq_true, and_true, true_and, Int32.reduceToInt, Int64.reduceToInt, Int32.reduceAdd, fa_lt, fa_le, fa_eq, cmi_lt, cmi_le, cmi_gt, cmi_ge, cmi_eq, fa_lt64, fa_le64, fa_eq64, Int32.toInt_toInt64, nI_toInt, ti_m1, sub1_ti, inB_iff, nI_clamp, Int32.add_zero, nI_1, nI_add, nI_p2, nI_p3, nI_p4, nI_p5, nI_p6, nI_p8, nI_p9, nI_p10, nI_m3, nI_m4, nI_m5, nI_m6, nI_m8, nI_m10, nI_m31, nI_m48, nI_m60, nI_m256, nI_t5, nI_t6, nI_a1, nI_a48, nI_a96, nI_d5, nI_d6, nI_d8, nI_d10, nI_d20, nI_s1, nI_s48, pk_sub]
    repeat (first | refine pk1 (by omega) ?_ | refine pk2 (by omega) ?_ | refine bd1 (by omega) ?_)
    refine r_159_63 ?_
    refine c_155 (l := 0) (hb _ hpn).1 (by omega) (fun g1 g2 => ?_) (fun g => ?_)
    · refine r_159_66 ?_
      simp (disch := omega) only [true_imp_iff, false_imp_iff, not_true_eq_false, not_false_eq_true, and_true, true_and, Int32.reduceToInt, Int64.reduceToInt, Int32.reduceAdd, fa_lt, fa_le, fa_eq, cmi_lt, cmi_le, cmi_gt, cmi_ge, cmi_eq, fa_lt64, fa_le64, fa_eq64, Int32.toInt_toInt64, nI_toInt, ti_m1, sub1_ti, inB_iff, nI_clamp, Int32.add_zero, nI_1, nI_add, nI_p2, nI_p3, nI_p4, nI_p5, nI_p6, nI_p8, nI_p9, nI_p10, nI_m3, nI_m4, nI_m5, nI_m6, nI_m8, nI_m10, nI_m31, nI_m48, nI_m60, nI_m256, nI_t5, nI_t6, nI_a1, nI_a48, nI_a96, nI_d5, nI_d6, nI_d8, nI_d10, nI_d20, nI_s1, nI_s48, pk_sub, show (-9 : Int32).toInt = -9 from rfl, hg0]
      repeat (first | refine pk1 (by omega) ?_ | refine pk2 (by omega) ?_ | refine bd1 (by omega) ?_)
      refine ⟨fun hg => ?_, fun hg => r_159_84 (k0 d 1 (by omega) o (fun z => by
        have := z.2
        rw [Nat.add_sub_cancel] at this
        unfold okD at this
        omega) d7 fr)⟩
      refine r_159_86 ?_
      simp (disch := omega) only [true_imp_iff, false_imp_iff, not_true_eq_false, not_false_eq_true, and_true, true_and, Int32.reduceToInt, Int64.reduceToInt, Int32.reduceAdd, fa_lt, fa_le, fa_eq, cmi_lt, cmi_le, cmi_gt, cmi_ge, cmi_eq, fa_lt64, fa_le64, fa_eq64, Int32.toInt_toInt64, nI_toInt, ti_m1, sub1_ti, inB_iff, nI_clamp, Int32.add_zero, nI_1, nI_add, nI_p2, nI_p3, nI_p4, nI_p5, nI_p6, nI_p8, nI_p9, nI_p10, nI_m3, nI_m4, nI_m5, nI_m6, nI_m8, nI_m10, nI_m31, nI_m48, nI_m60, nI_m256, nI_t5, nI_t6, nI_a1, nI_a48, nI_a96, nI_d5, nI_d6, nI_d8, nI_d10, nI_d20, nI_s1, nI_s48, pk_sub]
      repeat (first | refine pk1 (by omega) ?_ | refine pk2 (by omega) ?_ | refine bd1 (by omega) ?_)
      refine r_159_102 ?_
      simp (disch := omega) only [true_imp_iff, false_imp_iff, not_true_eq_false, not_false_eq_true, and_true, true_and, Int32.reduceToInt, Int64.reduceToInt, Int32.reduceAdd, fa_lt, fa_le, fa_eq, cmi_lt, cmi_le, cmi_gt, cmi_ge, cmi_eq, fa_lt64, fa_le64, fa_eq64, Int32.toInt_toInt64, nI_toInt, ti_m1, sub1_ti, inB_iff, nI_clamp, Int32.add_zero, nI_1, nI_add, nI_p2, nI_p3, nI_p4, nI_p5, nI_p6, nI_p8, nI_p9, nI_p10, nI_m3, nI_m4, nI_m5, nI_m6, nI_m8, nI_m10, nI_m31, nI_m48, nI_m60, nI_m256, nI_t5, nI_t6, nI_a1, nI_a48, nI_a96, nI_d5, nI_d6, nI_d8, nI_d10, nI_d20, nI_s1, nI_s48, pk_sub, e3]
      repeat (first | refine pk1 (by omega) ?_ | refine pk2 (by omega) ?_ | refine bd1 (by omega) ?_)
      refine r_159_127 ?_
      simp (disch := omega) only [true_imp_iff, false_imp_iff, not_true_eq_false, not_false_eq_true, and_true, true_and, Int32.reduceToInt, Int64.reduceToInt, Int32.reduceAdd, fa_lt, fa_le, fa_eq, cmi_lt, cmi_le, cmi_gt, cmi_ge, cmi_eq, fa_lt64, fa_le64, fa_eq64, Int32.toInt_toInt64, nI_toInt, ti_m1, sub1_ti, inB_iff, nI_clamp, Int32.add_zero, nI_1, nI_add, nI_p2, nI_p3, nI_p4, nI_p5, nI_p6, nI_p8, nI_p9, nI_p10, nI_m3, nI_m4, nI_m5, nI_m6, nI_m8, nI_m10, nI_m31, nI_m48, nI_m60, nI_m256, nI_t5, nI_t6, nI_a1, nI_a48, nI_a96, nI_d5, nI_d6, nI_d8, nI_d10, nI_d20, nI_s1, nI_s48, pk_sub]
      repeat (first | refine pk1 (by omega) ?_ | refine pk2 (by omega) ?_ | refine bd1 (by omega) ?_)
      refine r_159_139 ?_
      simp (disch := omega) only [true_imp_iff, false_imp_iff, not_true_eq_false, not_false_eq_true, and_true, true_and, Int32.reduceToInt, Int64.reduceToInt, Int32.reduceAdd, fa_lt, fa_le, fa_eq, cmi_lt, cmi_le, cmi_gt, cmi_ge, cmi_eq, fa_lt64, fa_le64, fa_eq64, Int32.toInt_toInt64, nI_toInt, ti_m1, sub1_ti, inB_iff, nI_clamp, Int32.add_zero, nI_1, nI_add, nI_p2, nI_p3, nI_p4, nI_p5, nI_p6, nI_p8, nI_p9, nI_p10, nI_m3, nI_m4, nI_m5, nI_m6, nI_m8, nI_m10, nI_m31, nI_m48, nI_m60, nI_m256, nI_t5, nI_t6, nI_a1, nI_a48, nI_a96, nI_d5, nI_d6, nI_d8, nI_d10, nI_d20, nI_s1, nI_s48, pk_sub, d7]
      repeat (first | refine pk1 (by omega) ?_ | refine pk2 (by omega) ?_ | refine bd1 (by omega) ?_)
      exact FIN (by rw [Nat.add_sub_cancel]; unfold okD; omega)
    · exact r_159_66 ⟨fun _ => r_159_84 (k0 d 1 (by omega) o (fun z => by
        have := z.2
        rw [Nat.add_sub_cancel] at this
        unfold okD at this
        omega) d7 fr), fun z => absurd rfl z⟩
  · repeat (first | refine pk1 (by omega) ?_ | refine pk2 (by omega) ?_ | refine bd1 (by omega) ?_)
    refine r_159_39 ?_
    simp (disch := omega) only [true_imp_iff, false_imp_iff, not_true_eq_false, not_false_eq_true, and_true, true_and, Int32.reduceToInt, Int64.reduceToInt, Int32.reduceAdd, fa_lt, fa_le, fa_eq, cmi_lt, cmi_le, cmi_gt, cmi_ge, cmi_eq, fa_lt64, fa_le64, fa_eq64, Int32.toInt_toInt64, nI_toInt, ti_m1, sub1_ti, inB_iff, nI_clamp, Int32.add_zero, nI_1, nI_add, nI_p2, nI_p3, nI_p4, nI_p5, nI_p6, nI_p8, nI_p9, nI_p10, nI_m3, nI_m4, nI_m5, nI_m6, nI_m8, nI_m10, nI_m31, nI_m48, nI_m60, nI_m256, nI_t5, nI_t6, nI_a1, nI_a48, nI_a96, nI_d5, nI_d6, nI_d8, nI_d10, nI_d20, nI_s1, nI_s48, pk_sub]
    repeat (first | refine pk1 (by omega) ?_ | refine pk2 (by omega) ?_ | refine bd1 (by omega) ?_)
    exact r_159_63 (c_155w (l := 0) (by omega) (r_159_66 ⟨fun _ => r_159_84 (k0 d 1 (by omega) o (fun z => hpn z.1) d7 fr), fun z => absurd rfl z⟩))
theorem t_159_2 {di d : tDi} {dl : tDl} {k p n : Nat} {f : Nat → Nat} (hk : k < 8) (hn : n ≤ 47) (hp : p ≤ n) (h1 : di 182 1 = nI n) (h3 : di 183 1 = nI k) (hb : ∀ i, i < n → f i ≤ 255 ∧ di 181 (48 + i) = nI (f i)) {K : Int32 → tDi → tDl → Prop} (k0 : ∀ d j, j < 5 → (∀ i, i < j → p + i < n ∧ okD i (f (p + i - 1)) (f (p + i))) → ¬ (p + j < n ∧ okD j (f (p + j - 1)) (f (p + j))) → d 176 7 = nI (p + j) → (∀ a y, ¬ (a = 176 ∧ y = 7) → ¬ (a = 185 ∧ 4 * k ≤ y) → d a y = di a y) → K 0 d dl) (o : ∀ i, i < 2 → p + i < n ∧ okD i (f (p + i - 1)) (f (p + i))) (d7 : d 176 7 = nI (p + 2)) (sc : sC 2 (fun i => f (p + i)) d k) (fr : ∀ a y, ¬ (a = 176 ∧ y = 7) → ¬ (a = 185 ∧ 4 * k ≤ y) → d a y = di a y) (nx : ∀ d, (∀ i, i < 3 → p + i < n ∧ okD i (f (p + i - 1)) (f (p + i))) → d 176 7 = nI (p + 3) → sC 3 (fun i => f (p + i)) d k → (∀ a y, ¬ (a = 176 ∧ y = 7) → ¬ (a = 185 ∧ 4 * k ≤ y) → d a y = di a y) → Wq none 2 159 4 [(0, .ref 176), (1, .int (nI (gC 3 (fun i => f (p + i))))), (2, .int (nI 3))] [] d dl (RI K)) : Wq none 2 159 4 [(0, .ref 176), (1, .int (nI (gC 2 (fun i => f (p + i))))), (2, .int (nI 2))] [] d dl (RI K) := by
  have e1 : d 182 1 = nI n := by rw [fr _ _ (by omega) (by omega)]; exact h1
  have e3 : d 183 1 = nI k := by rw [fr _ _ (by omega) (by omega)]; exact h3
  refine r_159_4 ?_
  simp (disch := omega) only [true_imp_iff, false_imp_iff, not_true_eq_false, not_false_eq_true, and_true, true_and, Int32.reduceToInt, Int64.reduceToInt, Int32.reduceAdd, fa_lt, fa_le, fa_eq, cmi_lt, cmi_le, cmi_gt, cmi_ge, cmi_eq, fa_lt64, fa_le64, fa_eq64, Int32.toInt_toInt64, nI_toInt, ti_m1, sub1_ti, inB_iff, nI_clamp, Int32.add_zero, nI_1, nI_add, nI_p2, nI_p3, nI_p4, nI_p5, nI_p6, nI_p8, nI_p9, nI_p10, nI_m3, nI_m4, nI_m5, nI_m6, nI_m8, nI_m10, nI_m31, nI_m48, nI_m60, nI_m256, nI_t5, nI_t6, nI_a1, nI_a48, nI_a96, nI_d5, nI_d6, nI_d8, nI_d10, nI_d20, nI_s1, nI_s48, pk_sub, e1, d7]
  by_cases hpn : p + 2 < n
  · repeat (first | refine pk1 (by omega) ?_ | refine pk2 (by omega) ?_ | refine bd1 (by omega) ?_)
    have e4 : d 181 (48 + (p + 2)) = nI (f (p + 2)) := by rw [fr _ _ (by omega) (by omega)]; exact (hb _ hpn).2
    rw [e4]
    have hb5 := (hb _ hpn).1
    have FIN : okD 2 (f (p + 2 - 1)) (f (p + 2)) → Wq none 2 159 4 [(0, .ref 176), (1, .int (nI (gC 3 (fun i => f (p + i))))), (2, .int (nI (2 + 1)))] [] (up2 (up2 d 185 (4 * k + 1) (nI (vK (f (p + 2))))) 176 7 (nI (p + 2 + 1))) dl (RI K) := by
      intro ho
      refine nx _ ?_ (by simp (disch := omega) only [up_eq, up_na, up_nk]) ?_ ?_
      · intro i hi
        rcases Nat.lt_succ_iff_lt_or_eq.mp hi with z | z
        · exact o i z
        · subst z
          exact ⟨hpn, ho⟩
      · obtain ⟨s0, s1, s2, s3, s4⟩ := sc
        unfold sC
        refine ⟨fun z z' => ?_, fun z => ?_, fun z => ?_, fun z => ?_, fun z => ?_⟩ <;> first | omega | (simp (disch := omega) only [up_eq, up_na, up_nk]; first | done | rfl | exact s0 (by omega) (by omega) | exact s1 (by omega) | exact s2 (by omega) | exact s3 (by omega) | exact s4 (by omega))
      · intro a y z1 z2
        unfold up2
        rw [if_neg (by omega), if_neg (by omega)]
        exact fr a y z1 z2
    refine r_159_39 ?_
    simp (disch := omega) only [true_imp_iff, false_imp_iff, not_true_eq_false, not_false_eq_true, and_true, true_and, Int32.reduceToInt, Int64.reduceToInt, Int32.reduceAdd, fa_lt, fa_le, fa_eq, cmi_lt, cmi_le, cmi_gt, cmi_ge, cmi_eq, fa_lt64, fa_le64, fa_eq64, Int32.toInt_toInt64, nI_toInt, ti_m1, sub1_ti, inB_iff, nI_clamp, Int32.add_zero, nI_1, nI_add, nI_p2, nI_p3, nI_p4, nI_p5, nI_p6, nI_p8, nI_p9, nI_p10, nI_m3, nI_m4, nI_m5, nI_m6, nI_m8, nI_m10, nI_m31, nI_m48, nI_m60, nI_m256, nI_t5, nI_t6, nI_a1, nI_a48, nI_a96, nI_d5, nI_d6, nI_d8, nI_d10, nI_d20, nI_s1, nI_s48, pk_sub]
    unfold okD at k0
    have kz : ∀ z, z = vK (f (p + 2)) → okD 2 (f (p + 1)) (f (p + 2)) → Wq none 2 159 66 [(0, .ref 176), (1, .int (nI (gC 2 (fun i => f (p + i))))), (2, .int (nI 2))] [.int (nI z)] d dl (RI K) := by
      intro z hz ho
      refine r_159_66 ?_
      have hz2 : z ≤ 2 := by
        rw [hz]; unfold vK
        split
        · omega
        · split <;> omega
      simp (disch := omega) only [true_imp_iff, false_imp_iff, not_true_eq_false, not_false_eq_true, and_true, true_and, Int32.reduceToInt, Int64.reduceToInt, Int32.reduceAdd, fa_lt, fa_le, fa_eq, cmi_lt, cmi_le, cmi_gt, cmi_ge, cmi_eq, fa_lt64, fa_le64, fa_eq64, Int32.toInt_toInt64, nI_toInt, ti_m1, sub1_ti, inB_iff, nI_clamp, Int32.add_zero, nI_1, nI_add, nI_p2, nI_p3, nI_p4, nI_p5, nI_p6, nI_p8, nI_p9, nI_p10, nI_m3, nI_m4, nI_m5, nI_m6, nI_m8, nI_m10, nI_m31, nI_m48, nI_m60, nI_m256, nI_t5, nI_t6, nI_a1, nI_a48, nI_a96, nI_d5, nI_d6, nI_d8, nI_d10, nI_d20, nI_s1, nI_s48, pk_sub, show (-9 : Int32).toInt = -9 from rfl]
      repeat (first | refine pk1 (by omega) ?_ | refine pk2 (by omega) ?_ | refine bd1 (by omega) ?_)
      refine r_159_86 ?_
      simp (disch := omega) only [true_imp_iff, false_imp_iff, not_true_eq_false, not_false_eq_true, and_true, true_and, Int32.reduceToInt, Int64.reduceToInt, Int32.reduceAdd, fa_lt, fa_le, fa_eq, cmi_lt, cmi_le, cmi_gt, cmi_ge, cmi_eq, fa_lt64, fa_le64, fa_eq64, Int32.toInt_toInt64, nI_toInt, ti_m1, sub1_ti, inB_iff, nI_clamp, Int32.add_zero, nI_1, nI_add, nI_p2, nI_p3, nI_p4, nI_p5, nI_p6, nI_p8, nI_p9, nI_p10, nI_m3, nI_m4, nI_m5, nI_m6, nI_m8, nI_m10, nI_m31, nI_m48, nI_m60, nI_m256, nI_t5, nI_t6, nI_a1, nI_a48, nI_a96, nI_d5, nI_d6, nI_d8, nI_d10, nI_d20, nI_s1, nI_s48, pk_sub]
      repeat (first | refine pk1 (by omega) ?_ | refine pk2 (by omega) ?_ | refine bd1 (by omega) ?_)
      refine r_159_102 ?_
      simp (disch := omega) only [true_imp_iff, false_imp_iff, not_true_eq_false, not_false_eq_true, and_true, true_and, Int32.reduceToInt, Int64.reduceToInt, Int32.reduceAdd, fa_lt, fa_le, fa_eq, cmi_lt, cmi_le, cmi_gt, cmi_ge, cmi_eq, fa_lt64, fa_le64, fa_eq64, Int32.toInt_toInt64, nI_toInt, ti_m1, sub1_ti, inB_iff, nI_clamp, Int32.add_zero, nI_1, nI_add, nI_p2, nI_p3, nI_p4, nI_p5, nI_p6, nI_p8, nI_p9, nI_p10, nI_m3, nI_m4, nI_m5, nI_m6, nI_m8, nI_m10, nI_m31, nI_m48, nI_m60, nI_m256, nI_t5, nI_t6, nI_a1, nI_a48, nI_a96, nI_d5, nI_d6, nI_d8, nI_d10, nI_d20, nI_s1, nI_s48, pk_sub, e3]
      repeat (first | refine pk1 (by omega) ?_ | refine pk2 (by omega) ?_ | refine bd1 (by omega) ?_)
      refine r_159_127 ?_
      simp (disch := omega) only [true_imp_iff, false_imp_iff, not_true_eq_false, not_false_eq_true, and_true, true_and, Int32.reduceToInt, Int64.reduceToInt, Int32.reduceAdd, fa_lt, fa_le, fa_eq, cmi_lt, cmi_le, cmi_gt, cmi_ge, cmi_eq, fa_lt64, fa_le64, fa_eq64, Int32.toInt_toInt64, nI_toInt, ti_m1, sub1_ti, inB_iff, nI_clamp, Int32.add_zero, nI_1, nI_add, nI_p2, nI_p3, nI_p4, nI_p5, nI_p6, nI_p8, nI_p9, nI_p10, nI_m3, nI_m4, nI_m5, nI_m6, nI_m8, nI_m10, nI_m31, nI_m48, nI_m60, nI_m256, nI_t5, nI_t6, nI_a1, nI_a48, nI_a96, nI_d5, nI_d6, nI_d8, nI_d10, nI_d20, nI_s1, nI_s48, pk_sub]
      repeat (first | refine pk1 (by omega) ?_ | refine pk2 (by omega) ?_ | refine bd1 (by omega) ?_)
      refine r_159_139 ?_
      simp (disch := omega) only [true_imp_iff, false_imp_iff, not_true_eq_false, not_false_eq_true, and_true, true_and, Int32.reduceToInt, Int64.reduceToInt, Int32.reduceAdd, fa_lt, fa_le, fa_eq, cmi_lt, cmi_le, cmi_gt, cmi_ge, cmi_eq, fa_lt64, fa_le64, fa_eq64, Int32.toInt_toInt64, nI_toInt, ti_m1, sub1_ti, inB_iff, nI_clamp, Int32.add_zero, nI_1, nI_add, nI_p2, nI_p3, nI_p4, nI_p5, nI_p6, nI_p8, nI_p9, nI_p10, nI_m3, nI_m4, nI_m5, nI_m6, nI_m8, nI_m10, nI_m31, nI_m48, nI_m60, nI_m256, nI_t5, nI_t6, nI_a1, nI_a48, nI_a96, nI_d5, nI_d6, nI_d8, nI_d10, nI_d20, nI_s1, nI_s48, pk_sub, d7]
      repeat (first | refine pk1 (by omega) ?_ | refine pk2 (by omega) ?_ | refine bd1 (by omega) ?_)
      subst hz
      exact FIN ho
    repeat (first | refine pk1 (by omega) ?_ | refine pk2 (by omega) ?_ | refine bd1 (by omega) ?_)
    refine ⟨fun h1 => ⟨fun h2 => ⟨fun h3 => r_159_66 ⟨fun _ => r_159_84 (k0 d 2 (by omega) o (fun z => by omega) d7 fr), fun z => absurd rfl z⟩, fun h3 => kz 2 ?_ ?_⟩, fun h2 => kz 1 ?_ ?_⟩, fun h1 => kz 0 ?_ ?_⟩
    · unfold vK; rw [if_neg (by omega), if_neg (by omega)]
    · unfold okD; omega
    · unfold vK; rw [if_neg (by omega), if_pos (by omega)]
    · unfold okD; omega
    · unfold vK; rw [if_pos (by omega)]
    · unfold okD; omega
  · repeat (first | refine pk1 (by omega) ?_ | refine pk2 (by omega) ?_ | refine bd1 (by omega) ?_)
    refine r_159_39 ?_
    simp (disch := omega) only [true_imp_iff, false_imp_iff, not_true_eq_false, not_false_eq_true, and_true, true_and, Int32.reduceToInt, Int64.reduceToInt, Int32.reduceAdd, fa_lt, fa_le, fa_eq, cmi_lt, cmi_le, cmi_gt, cmi_ge, cmi_eq, fa_lt64, fa_le64, fa_eq64, Int32.toInt_toInt64, nI_toInt, ti_m1, sub1_ti, inB_iff, nI_clamp, Int32.add_zero, nI_1, nI_add, nI_p2, nI_p3, nI_p4, nI_p5, nI_p6, nI_p8, nI_p9, nI_p10, nI_m3, nI_m4, nI_m5, nI_m6, nI_m8, nI_m10, nI_m31, nI_m48, nI_m60, nI_m256, nI_t5, nI_t6, nI_a1, nI_a48, nI_a96, nI_d5, nI_d6, nI_d8, nI_d10, nI_d20, nI_s1, nI_s48, pk_sub]
    repeat (first | refine pk1 (by omega) ?_ | refine pk2 (by omega) ?_ | refine bd1 (by omega) ?_)
    exact r_159_66 ⟨fun _ => r_159_84 (k0 d 2 (by omega) o (fun z => hpn z.1) d7 fr), fun z => absurd rfl z⟩
theorem t_159_3 {di d : tDi} {dl : tDl} {k p n : Nat} {f : Nat → Nat} (hk : k < 8) (hn : n ≤ 47) (hp : p ≤ n) (h1 : di 182 1 = nI n) (h3 : di 183 1 = nI k) (hb : ∀ i, i < n → f i ≤ 255 ∧ di 181 (48 + i) = nI (f i)) {K : Int32 → tDi → tDl → Prop} (k0 : ∀ d j, j < 5 → (∀ i, i < j → p + i < n ∧ okD i (f (p + i - 1)) (f (p + i))) → ¬ (p + j < n ∧ okD j (f (p + j - 1)) (f (p + j))) → d 176 7 = nI (p + j) → (∀ a y, ¬ (a = 176 ∧ y = 7) → ¬ (a = 185 ∧ 4 * k ≤ y) → d a y = di a y) → K 0 d dl) (o : ∀ i, i < 3 → p + i < n ∧ okD i (f (p + i - 1)) (f (p + i))) (d7 : d 176 7 = nI (p + 3)) (sc : sC 3 (fun i => f (p + i)) d k) (fr : ∀ a y, ¬ (a = 176 ∧ y = 7) → ¬ (a = 185 ∧ 4 * k ≤ y) → d a y = di a y) (nx : ∀ d, (∀ i, i < 4 → p + i < n ∧ okD i (f (p + i - 1)) (f (p + i))) → d 176 7 = nI (p + 4) → sC 4 (fun i => f (p + i)) d k → (∀ a y, ¬ (a = 176 ∧ y = 7) → ¬ (a = 185 ∧ 4 * k ≤ y) → d a y = di a y) → Wq none 2 159 4 [(0, .ref 176), (1, .int (nI (gC 4 (fun i => f (p + i))))), (2, .int (nI 4))] [] d dl (RI K)) : Wq none 2 159 4 [(0, .ref 176), (1, .int (nI (gC 3 (fun i => f (p + i))))), (2, .int (nI 3))] [] d dl (RI K) := by
  have e1 : d 182 1 = nI n := by rw [fr _ _ (by omega) (by omega)]; exact h1
  have e3 : d 183 1 = nI k := by rw [fr _ _ (by omega) (by omega)]; exact h3
  refine r_159_4 ?_
  simp (disch := omega) only [true_imp_iff, false_imp_iff, not_true_eq_false, not_false_eq_true, and_true, true_and, Int32.reduceToInt, Int64.reduceToInt, Int32.reduceAdd, fa_lt, fa_le, fa_eq, cmi_lt, cmi_le, cmi_gt, cmi_ge, cmi_eq, fa_lt64, fa_le64, fa_eq64, Int32.toInt_toInt64, nI_toInt, ti_m1, sub1_ti, inB_iff, nI_clamp, Int32.add_zero, nI_1, nI_add, nI_p2, nI_p3, nI_p4, nI_p5, nI_p6, nI_p8, nI_p9, nI_p10, nI_m3, nI_m4, nI_m5, nI_m6, nI_m8, nI_m10, nI_m31, nI_m48, nI_m60, nI_m256, nI_t5, nI_t6, nI_a1, nI_a48, nI_a96, nI_d5, nI_d6, nI_d8, nI_d10, nI_d20, nI_s1, nI_s48, pk_sub, e1, d7]
  by_cases hpn : p + 3 < n
  · repeat (first | refine pk1 (by omega) ?_ | refine pk2 (by omega) ?_ | refine bd1 (by omega) ?_)
    have e4 : d 181 (48 + (p + 3)) = nI (f (p + 3)) := by rw [fr _ _ (by omega) (by omega)]; exact (hb _ hpn).2
    rw [e4]
    have hb5 := (hb _ hpn).1
    have FIN : okD 3 (f (p + 3 - 1)) (f (p + 3)) → Wq none 2 159 4 [(0, .ref 176), (1, .int (nI (gC 4 (fun i => f (p + i))))), (2, .int (nI (3 + 1)))] [] (up2 (up2 d 185 (4 * k + 2) (nI (f (p + 3) - 48))) 176 7 (nI (p + 3 + 1))) dl (RI K) := by
      intro ho
      refine nx _ ?_ (by simp (disch := omega) only [up_eq, up_na, up_nk]) ?_ ?_
      · intro i hi
        rcases Nat.lt_succ_iff_lt_or_eq.mp hi with z | z
        · exact o i z
        · subst z
          exact ⟨hpn, ho⟩
      · obtain ⟨s0, s1, s2, s3, s4⟩ := sc
        unfold sC
        refine ⟨fun z z' => ?_, fun z => ?_, fun z => ?_, fun z => ?_, fun z => ?_⟩ <;> first | omega | (simp (disch := omega) only [up_eq, up_na, up_nk]; first | done | rfl | exact s0 (by omega) (by omega) | exact s1 (by omega) | exact s2 (by omega) | exact s3 (by omega) | exact s4 (by omega))
      · intro a y z1 z2
        unfold up2
        rw [if_neg (by omega), if_neg (by omega)]
        exact fr a y z1 z2
    refine r_159_39 ?_
    simp (disch := omega) only [true_imp_iff, false_imp_iff, not_true_eq_false, not_false_eq_true, and_true, true_and, Int32.reduceToInt, Int64.reduceToInt, Int32.reduceAdd, fa_lt, fa_le, fa_eq, cmi_lt, cmi_le, cmi_gt, cmi_ge, cmi_eq, fa_lt64, fa_le64, fa_eq64, Int32.toInt_toInt64, nI_toInt, ti_m1, sub1_ti, inB_iff, nI_clamp, Int32.add_zero, nI_1, nI_add, nI_p2, nI_p3, nI_p4, nI_p5, nI_p6, nI_p8, nI_p9, nI_p10, nI_m3, nI_m4, nI_m5, nI_m6, nI_m8, nI_m10, nI_m31, nI_m48, nI_m60, nI_m256, nI_t5, nI_t6, nI_a1, nI_a48, nI_a96, nI_d5, nI_d6, nI_d8, nI_d10, nI_d20, nI_s1, nI_s48, pk_sub]
    repeat (first | refine pk1 (by omega) ?_ | refine pk2 (by omega) ?_ | refine bd1 (by omega) ?_)
    refine r_159_63 ?_
    refine c_155 (l := 0) (hb _ hpn).1 (by omega) (fun g1 g2 => ?_) (fun g => ?_)
    · refine r_159_66 ?_
      simp (disch := omega) only [true_imp_iff, false_imp_iff, not_true_eq_false, not_false_eq_true, and_true, true_and, Int32.reduceToInt, Int64.reduceToInt, Int32.reduceAdd, fa_lt, fa_le, fa_eq, cmi_lt, cmi_le, cmi_gt, cmi_ge, cmi_eq, fa_lt64, fa_le64, fa_eq64, Int32.toInt_toInt64, nI_toInt, ti_m1, sub1_ti, inB_iff, nI_clamp, Int32.add_zero, nI_1, nI_add, nI_p2, nI_p3, nI_p4, nI_p5, nI_p6, nI_p8, nI_p9, nI_p10, nI_m3, nI_m4, nI_m5, nI_m6, nI_m8, nI_m10, nI_m31, nI_m48, nI_m60, nI_m256, nI_t5, nI_t6, nI_a1, nI_a48, nI_a96, nI_d5, nI_d6, nI_d8, nI_d10, nI_d20, nI_s1, nI_s48, pk_sub, show (-9 : Int32).toInt = -9 from rfl]
      repeat (first | refine pk1 (by omega) ?_ | refine pk2 (by omega) ?_ | refine bd1 (by omega) ?_)
      refine r_159_86 ?_
      simp (disch := omega) only [true_imp_iff, false_imp_iff, not_true_eq_false, not_false_eq_true, and_true, true_and, Int32.reduceToInt, Int64.reduceToInt, Int32.reduceAdd, fa_lt, fa_le, fa_eq, cmi_lt, cmi_le, cmi_gt, cmi_ge, cmi_eq, fa_lt64, fa_le64, fa_eq64, Int32.toInt_toInt64, nI_toInt, ti_m1, sub1_ti, inB_iff, nI_clamp, Int32.add_zero, nI_1, nI_add, nI_p2, nI_p3, nI_p4, nI_p5, nI_p6, nI_p8, nI_p9, nI_p10, nI_m3, nI_m4, nI_m5, nI_m6, nI_m8, nI_m10, nI_m31, nI_m48, nI_m60, nI_m256, nI_t5, nI_t6, nI_a1, nI_a48, nI_a96, nI_d5, nI_d6, nI_d8, nI_d10, nI_d20, nI_s1, nI_s48, pk_sub]
      repeat (first | refine pk1 (by omega) ?_ | refine pk2 (by omega) ?_ | refine bd1 (by omega) ?_)
      refine r_159_102 ?_
      simp (disch := omega) only [true_imp_iff, false_imp_iff, not_true_eq_false, not_false_eq_true, and_true, true_and, Int32.reduceToInt, Int64.reduceToInt, Int32.reduceAdd, fa_lt, fa_le, fa_eq, cmi_lt, cmi_le, cmi_gt, cmi_ge, cmi_eq, fa_lt64, fa_le64, fa_eq64, Int32.toInt_toInt64, nI_toInt, ti_m1, sub1_ti, inB_iff, nI_clamp, Int32.add_zero, nI_1, nI_add, nI_p2, nI_p3, nI_p4, nI_p5, nI_p6, nI_p8, nI_p9, nI_p10, nI_m3, nI_m4, nI_m5, nI_m6, nI_m8, nI_m10, nI_m31, nI_m48, nI_m60, nI_m256, nI_t5, nI_t6, nI_a1, nI_a48, nI_a96, nI_d5, nI_d6, nI_d8, nI_d10, nI_d20, nI_s1, nI_s48, pk_sub, e3]
      repeat (first | refine pk1 (by omega) ?_ | refine pk2 (by omega) ?_ | refine bd1 (by omega) ?_)
      refine r_159_127 ?_
      simp (disch := omega) only [true_imp_iff, false_imp_iff, not_true_eq_false, not_false_eq_true, and_true, true_and, Int32.reduceToInt, Int64.reduceToInt, Int32.reduceAdd, fa_lt, fa_le, fa_eq, cmi_lt, cmi_le, cmi_gt, cmi_ge, cmi_eq, fa_lt64, fa_le64, fa_eq64, Int32.toInt_toInt64, nI_toInt, ti_m1, sub1_ti, inB_iff, nI_clamp, Int32.add_zero, nI_1, nI_add, nI_p2, nI_p3, nI_p4, nI_p5, nI_p6, nI_p8, nI_p9, nI_p10, nI_m3, nI_m4, nI_m5, nI_m6, nI_m8, nI_m10, nI_m31, nI_m48, nI_m60, nI_m256, nI_t5, nI_t6, nI_a1, nI_a48, nI_a96, nI_d5, nI_d6, nI_d8, nI_d10, nI_d20, nI_s1, nI_s48, pk_sub]
      repeat (first | refine pk1 (by omega) ?_ | refine pk2 (by omega) ?_ | refine bd1 (by omega) ?_)
      refine r_159_139 ?_
      simp (disch := omega) only [true_imp_iff, false_imp_iff, not_true_eq_false, not_false_eq_true, and_true, true_and, Int32.reduceToInt, Int64.reduceToInt, Int32.reduceAdd, fa_lt, fa_le, fa_eq, cmi_lt, cmi_le, cmi_gt, cmi_ge, cmi_eq, fa_lt64, fa_le64, fa_eq64, Int32.toInt_toInt64, nI_toInt, ti_m1, sub1_ti, inB_iff, nI_clamp, Int32.add_zero, nI_1, nI_add, nI_p2, nI_p3, nI_p4, nI_p5, nI_p6, nI_p8, nI_p9, nI_p10, nI_m3, nI_m4, nI_m5, nI_m6, nI_m8, nI_m10, nI_m31, nI_m48, nI_m60, nI_m256, nI_t5, nI_t6, nI_a1, nI_a48, nI_a96, nI_d5, nI_d6, nI_d8, nI_d10, nI_d20, nI_s1, nI_s48, pk_sub, d7]
      repeat (first | refine pk1 (by omega) ?_ | refine pk2 (by omega) ?_ | refine bd1 (by omega) ?_)
      exact FIN (by unfold okD; omega)
    · exact r_159_66 ⟨fun _ => r_159_84 (k0 d 3 (by omega) o (fun z => by
        have := z.2
        unfold okD at this
        omega) d7 fr), fun z => absurd rfl z⟩
  · repeat (first | refine pk1 (by omega) ?_ | refine pk2 (by omega) ?_ | refine bd1 (by omega) ?_)
    refine r_159_39 ?_
    simp (disch := omega) only [true_imp_iff, false_imp_iff, not_true_eq_false, not_false_eq_true, and_true, true_and, Int32.reduceToInt, Int64.reduceToInt, Int32.reduceAdd, fa_lt, fa_le, fa_eq, cmi_lt, cmi_le, cmi_gt, cmi_ge, cmi_eq, fa_lt64, fa_le64, fa_eq64, Int32.toInt_toInt64, nI_toInt, ti_m1, sub1_ti, inB_iff, nI_clamp, Int32.add_zero, nI_1, nI_add, nI_p2, nI_p3, nI_p4, nI_p5, nI_p6, nI_p8, nI_p9, nI_p10, nI_m3, nI_m4, nI_m5, nI_m6, nI_m8, nI_m10, nI_m31, nI_m48, nI_m60, nI_m256, nI_t5, nI_t6, nI_a1, nI_a48, nI_a96, nI_d5, nI_d6, nI_d8, nI_d10, nI_d20, nI_s1, nI_s48, pk_sub]
    repeat (first | refine pk1 (by omega) ?_ | refine pk2 (by omega) ?_ | refine bd1 (by omega) ?_)
    exact r_159_63 (c_155w (l := 0) (by omega) (r_159_66 ⟨fun _ => r_159_84 (k0 d 3 (by omega) o (fun z => hpn z.1) d7 fr), fun z => absurd rfl z⟩))
theorem t_159_4 {di d : tDi} {dl : tDl} {k p n : Nat} {f : Nat → Nat} (hk : k < 8) (hn : n ≤ 47) (hp : p ≤ n) (h1 : di 182 1 = nI n) (h3 : di 183 1 = nI k) (hb : ∀ i, i < n → f i ≤ 255 ∧ di 181 (48 + i) = nI (f i)) {K : Int32 → tDi → tDl → Prop} (k0 : ∀ d j, j < 5 → (∀ i, i < j → p + i < n ∧ okD i (f (p + i - 1)) (f (p + i))) → ¬ (p + j < n ∧ okD j (f (p + j - 1)) (f (p + j))) → d 176 7 = nI (p + j) → (∀ a y, ¬ (a = 176 ∧ y = 7) → ¬ (a = 185 ∧ 4 * k ≤ y) → d a y = di a y) → K 0 d dl) (o : ∀ i, i < 4 → p + i < n ∧ okD i (f (p + i - 1)) (f (p + i))) (d7 : d 176 7 = nI (p + 4)) (sc : sC 4 (fun i => f (p + i)) d k) (fr : ∀ a y, ¬ (a = 176 ∧ y = 7) → ¬ (a = 185 ∧ 4 * k ≤ y) → d a y = di a y) (nx : ∀ d, (∀ i, i < 5 → p + i < n ∧ okD i (f (p + i - 1)) (f (p + i))) → d 176 7 = nI (p + 5) → sC 5 (fun i => f (p + i)) d k → (∀ a y, ¬ (a = 176 ∧ y = 7) → ¬ (a = 185 ∧ 4 * k ≤ y) → d a y = di a y) → Wq none 2 159 4 [(0, .ref 176), (1, .int (nI (gC 5 (fun i => f (p + i))))), (2, .int (nI 5))] [] d dl (RI K)) : Wq none 2 159 4 [(0, .ref 176), (1, .int (nI (gC 4 (fun i => f (p + i))))), (2, .int (nI 4))] [] d dl (RI K) := by
  have e1 : d 182 1 = nI n := by rw [fr _ _ (by omega) (by omega)]; exact h1
  have e3 : d 183 1 = nI k := by rw [fr _ _ (by omega) (by omega)]; exact h3
  refine r_159_4 ?_
  simp (disch := omega) only [true_imp_iff, false_imp_iff, not_true_eq_false, not_false_eq_true, and_true, true_and, Int32.reduceToInt, Int64.reduceToInt, Int32.reduceAdd, fa_lt, fa_le, fa_eq, cmi_lt, cmi_le, cmi_gt, cmi_ge, cmi_eq, fa_lt64, fa_le64, fa_eq64, Int32.toInt_toInt64, nI_toInt, ti_m1, sub1_ti, inB_iff, nI_clamp, Int32.add_zero, nI_1, nI_add, nI_p2, nI_p3, nI_p4, nI_p5, nI_p6, nI_p8, nI_p9, nI_p10, nI_m3, nI_m4, nI_m5, nI_m6, nI_m8, nI_m10, nI_m31, nI_m48, nI_m60, nI_m256, nI_t5, nI_t6, nI_a1, nI_a48, nI_a96, nI_d5, nI_d6, nI_d8, nI_d10, nI_d20, nI_s1, nI_s48, pk_sub, e1, d7]
  by_cases hpn : p + 4 < n
  · repeat (first | refine pk1 (by omega) ?_ | refine pk2 (by omega) ?_ | refine bd1 (by omega) ?_)
    have e4 : d 181 (48 + (p + 4)) = nI (f (p + 4)) := by rw [fr _ _ (by omega) (by omega)]; exact (hb _ hpn).2
    rw [e4]
    have hb5 := (hb _ hpn).1
    have FIN : okD 4 (f (p + 4 - 1)) (f (p + 4)) → Wq none 2 159 4 [(0, .ref 176), (1, .int (nI (gC 5 (fun i => f (p + i))))), (2, .int (nI (4 + 1)))] [] (up2 (up2 d 185 (4 * k + 3) (nI (f (p + 4) - 48))) 176 7 (nI (p + 4 + 1))) dl (RI K) := by
      intro ho
      refine nx _ ?_ (by simp (disch := omega) only [up_eq, up_na, up_nk]) ?_ ?_
      · intro i hi
        rcases Nat.lt_succ_iff_lt_or_eq.mp hi with z | z
        · exact o i z
        · subst z
          exact ⟨hpn, ho⟩
      · obtain ⟨s0, s1, s2, s3, s4⟩ := sc
        unfold sC
        refine ⟨fun z z' => ?_, fun z => ?_, fun z => ?_, fun z => ?_, fun z => ?_⟩ <;> first | omega | (simp (disch := omega) only [up_eq, up_na, up_nk]; first | done | rfl | exact s0 (by omega) (by omega) | exact s1 (by omega) | exact s2 (by omega) | exact s3 (by omega) | exact s4 (by omega))
      · intro a y z1 z2
        unfold up2
        rw [if_neg (by omega), if_neg (by omega)]
        exact fr a y z1 z2
    refine r_159_39 ?_
    simp (disch := omega) only [true_imp_iff, false_imp_iff, not_true_eq_false, not_false_eq_true, and_true, true_and, Int32.reduceToInt, Int64.reduceToInt, Int32.reduceAdd, fa_lt, fa_le, fa_eq, cmi_lt, cmi_le, cmi_gt, cmi_ge, cmi_eq, fa_lt64, fa_le64, fa_eq64, Int32.toInt_toInt64, nI_toInt, ti_m1, sub1_ti, inB_iff, nI_clamp, Int32.add_zero, nI_1, nI_add, nI_p2, nI_p3, nI_p4, nI_p5, nI_p6, nI_p8, nI_p9, nI_p10, nI_m3, nI_m4, nI_m5, nI_m6, nI_m8, nI_m10, nI_m31, nI_m48, nI_m60, nI_m256, nI_t5, nI_t6, nI_a1, nI_a48, nI_a96, nI_d5, nI_d6, nI_d8, nI_d10, nI_d20, nI_s1, nI_s48, pk_sub]
    repeat (first | refine pk1 (by omega) ?_ | refine pk2 (by omega) ?_ | refine bd1 (by omega) ?_)
    refine r_159_63 ?_
    refine c_155 (l := 1) (hb _ hpn).1 (by omega) (fun g1 g2 => ?_) (fun g => ?_)
    · refine r_159_66 ?_
      simp (disch := omega) only [true_imp_iff, false_imp_iff, not_true_eq_false, not_false_eq_true, and_true, true_and, Int32.reduceToInt, Int64.reduceToInt, Int32.reduceAdd, fa_lt, fa_le, fa_eq, cmi_lt, cmi_le, cmi_gt, cmi_ge, cmi_eq, fa_lt64, fa_le64, fa_eq64, Int32.toInt_toInt64, nI_toInt, ti_m1, sub1_ti, inB_iff, nI_clamp, Int32.add_zero, nI_1, nI_add, nI_p2, nI_p3, nI_p4, nI_p5, nI_p6, nI_p8, nI_p9, nI_p10, nI_m3, nI_m4, nI_m5, nI_m6, nI_m8, nI_m10, nI_m31, nI_m48, nI_m60, nI_m256, nI_t5, nI_t6, nI_a1, nI_a48, nI_a96, nI_d5, nI_d6, nI_d8, nI_d10, nI_d20, nI_s1, nI_s48, pk_sub, show (-9 : Int32).toInt = -9 from rfl]
      repeat (first | refine pk1 (by omega) ?_ | refine pk2 (by omega) ?_ | refine bd1 (by omega) ?_)
      refine r_159_86 ?_
      simp (disch := omega) only [true_imp_iff, false_imp_iff, not_true_eq_false, not_false_eq_true, and_true, true_and, Int32.reduceToInt, Int64.reduceToInt, Int32.reduceAdd, fa_lt, fa_le, fa_eq, cmi_lt, cmi_le, cmi_gt, cmi_ge, cmi_eq, fa_lt64, fa_le64, fa_eq64, Int32.toInt_toInt64, nI_toInt, ti_m1, sub1_ti, inB_iff, nI_clamp, Int32.add_zero, nI_1, nI_add, nI_p2, nI_p3, nI_p4, nI_p5, nI_p6, nI_p8, nI_p9, nI_p10, nI_m3, nI_m4, nI_m5, nI_m6, nI_m8, nI_m10, nI_m31, nI_m48, nI_m60, nI_m256, nI_t5, nI_t6, nI_a1, nI_a48, nI_a96, nI_d5, nI_d6, nI_d8, nI_d10, nI_d20, nI_s1, nI_s48, pk_sub]
      repeat (first | refine pk1 (by omega) ?_ | refine pk2 (by omega) ?_ | refine bd1 (by omega) ?_)
      refine r_159_102 ?_
      simp (disch := omega) only [true_imp_iff, false_imp_iff, not_true_eq_false, not_false_eq_true, and_true, true_and, Int32.reduceToInt, Int64.reduceToInt, Int32.reduceAdd, fa_lt, fa_le, fa_eq, cmi_lt, cmi_le, cmi_gt, cmi_ge, cmi_eq, fa_lt64, fa_le64, fa_eq64, Int32.toInt_toInt64, nI_toInt, ti_m1, sub1_ti, inB_iff, nI_clamp, Int32.add_zero, nI_1, nI_add, nI_p2, nI_p3, nI_p4, nI_p5, nI_p6, nI_p8, nI_p9, nI_p10, nI_m3, nI_m4, nI_m5, nI_m6, nI_m8, nI_m10, nI_m31, nI_m48, nI_m60, nI_m256, nI_t5, nI_t6, nI_a1, nI_a48, nI_a96, nI_d5, nI_d6, nI_d8, nI_d10, nI_d20, nI_s1, nI_s48, pk_sub, e3]
      repeat (first | refine pk1 (by omega) ?_ | refine pk2 (by omega) ?_ | refine bd1 (by omega) ?_)
      refine r_159_127 ?_
      simp (disch := omega) only [true_imp_iff, false_imp_iff, not_true_eq_false, not_false_eq_true, and_true, true_and, Int32.reduceToInt, Int64.reduceToInt, Int32.reduceAdd, fa_lt, fa_le, fa_eq, cmi_lt, cmi_le, cmi_gt, cmi_ge, cmi_eq, fa_lt64, fa_le64, fa_eq64, Int32.toInt_toInt64, nI_toInt, ti_m1, sub1_ti, inB_iff, nI_clamp, Int32.add_zero, nI_1, nI_add, nI_p2, nI_p3, nI_p4, nI_p5, nI_p6, nI_p8, nI_p9, nI_p10, nI_m3, nI_m4, nI_m5, nI_m6, nI_m8, nI_m10, nI_m31, nI_m48, nI_m60, nI_m256, nI_t5, nI_t6, nI_a1, nI_a48, nI_a96, nI_d5, nI_d6, nI_d8, nI_d10, nI_d20, nI_s1, nI_s48, pk_sub]
      repeat (first | refine pk1 (by omega) ?_ | refine pk2 (by omega) ?_ | refine bd1 (by omega) ?_)
      refine r_159_139 ?_
      simp (disch := omega) only [true_imp_iff, false_imp_iff, not_true_eq_false, not_false_eq_true, and_true, true_and, Int32.reduceToInt, Int64.reduceToInt, Int32.reduceAdd, fa_lt, fa_le, fa_eq, cmi_lt, cmi_le, cmi_gt, cmi_ge, cmi_eq, fa_lt64, fa_le64, fa_eq64, Int32.toInt_toInt64, nI_toInt, ti_m1, sub1_ti, inB_iff, nI_clamp, Int32.add_zero, nI_1, nI_add, nI_p2, nI_p3, nI_p4, nI_p5, nI_p6, nI_p8, nI_p9, nI_p10, nI_m3, nI_m4, nI_m5, nI_m6, nI_m8, nI_m10, nI_m31, nI_m48, nI_m60, nI_m256, nI_t5, nI_t6, nI_a1, nI_a48, nI_a96, nI_d5, nI_d6, nI_d8, nI_d10, nI_d20, nI_s1, nI_s48, pk_sub, d7]
      repeat (first | refine pk1 (by omega) ?_ | refine pk2 (by omega) ?_ | refine bd1 (by omega) ?_)
      exact FIN (by unfold okD; omega)
    · exact r_159_66 ⟨fun _ => r_159_84 (k0 d 4 (by omega) o (fun z => by
        have := z.2
        unfold okD at this
        omega) d7 fr), fun z => absurd rfl z⟩
  · repeat (first | refine pk1 (by omega) ?_ | refine pk2 (by omega) ?_ | refine bd1 (by omega) ?_)
    refine r_159_39 ?_
    simp (disch := omega) only [true_imp_iff, false_imp_iff, not_true_eq_false, not_false_eq_true, and_true, true_and, Int32.reduceToInt, Int64.reduceToInt, Int32.reduceAdd, fa_lt, fa_le, fa_eq, cmi_lt, cmi_le, cmi_gt, cmi_ge, cmi_eq, fa_lt64, fa_le64, fa_eq64, Int32.toInt_toInt64, nI_toInt, ti_m1, sub1_ti, inB_iff, nI_clamp, Int32.add_zero, nI_1, nI_add, nI_p2, nI_p3, nI_p4, nI_p5, nI_p6, nI_p8, nI_p9, nI_p10, nI_m3, nI_m4, nI_m5, nI_m6, nI_m8, nI_m10, nI_m31, nI_m48, nI_m60, nI_m256, nI_t5, nI_t6, nI_a1, nI_a48, nI_a96, nI_d5, nI_d6, nI_d8, nI_d10, nI_d20, nI_s1, nI_s48, pk_sub]
    repeat (first | refine pk1 (by omega) ?_ | refine pk2 (by omega) ?_ | refine bd1 (by omega) ?_)
    exact r_159_63 (c_155w (l := 1) (by omega) (r_159_66 ⟨fun _ => r_159_84 (k0 d 4 (by omega) o (fun z => hpn z.1) d7 fr), fun z => absurd rfl z⟩))
theorem c_159 {di : tDi} {dl : tDl} {k p n : Nat} {f : Nat → Nat} (hk : k < 8) (hn : n ≤ 47) (hp : p ≤ n) (h1 : di 182 1 = nI n) (h2 : di 176 7 = nI p) (h3 : di 183 1 = nI k) (hb : ∀ i, i < n → f i ≤ 255 ∧ di 181 (48 + i) = nI (f i)) {K : Int32 → tDi → tDl → Prop} (k1 : ∀ d, (∀ j, j < 5 → p + j < n ∧ okD j (f (p + j - 1)) (f (p + j))) → d 176 7 = nI (p + 5) → (∀ j, j < 4 → d 185 (4 * k + j) = nI (vC j (fun i => f (p + i)))) → (∀ a y, ¬ (a = 176 ∧ y = 7) → ¬ (a = 185 ∧ 4 * k ≤ y) → d a y = di a y) → K 1 d dl) (k0 : ∀ d j, j < 5 → (∀ i, i < j → p + i < n ∧ okD i (f (p + i - 1)) (f (p + i))) → ¬ (p + j < n ∧ okD j (f (p + j - 1)) (f (p + j))) → d 176 7 = nI (p + j) → (∀ a y, ¬ (a = 176 ∧ y = 7) → ¬ (a = 185 ∧ 4 * k ≤ y) → d a y = di a y) → K 0 d dl) : ClI 2 159 [.ref 176] di dl K := by
  refine r_159 ?_
  refine t_159_0 hk hn hp h1 h3 hb k0 (fun i hi => absurd hi (Nat.not_lt_zero i)) h2 ?_ (fun _ _ _ _ => rfl) ?_
  · unfold sC
    exact ⟨fun z => absurd z (by omega), fun z => absurd z (by omega), fun z => absurd z (by omega), fun z => absurd z (by omega), fun z => absurd z (by omega)⟩
  intro d o d7 sc fr
  refine t_159_1 hk hn hp h1 h3 hb k0 o d7 sc fr ?_
  intro d o d7 sc fr
  refine t_159_2 hk hn hp h1 h3 hb k0 o d7 sc fr ?_
  intro d o d7 sc fr
  refine t_159_3 hk hn hp h1 h3 hb k0 o d7 sc fr ?_
  intro d o d7 sc fr
  refine t_159_4 hk hn hp h1 h3 hb k0 o d7 sc fr ?_
  intro d o d7 sc fr
  refine r_159_4 ?_
  simp (disch := omega) only [true_imp_iff, false_imp_iff, not_true_eq_false, not_false_eq_true, and_true, true_and, Int32.reduceToInt, Int64.reduceToInt, Int32.reduceAdd, fa_lt, fa_le, fa_eq, cmi_lt, cmi_le, cmi_gt, cmi_ge, cmi_eq, fa_lt64, fa_le64, fa_eq64, Int32.toInt_toInt64, nI_toInt, ti_m1, sub1_ti, inB_iff, nI_clamp, Int32.add_zero, nI_1, nI_add, nI_p2, nI_p3, nI_p4, nI_p5, nI_p6, nI_p8, nI_p9, nI_p10, nI_m3, nI_m4, nI_m5, nI_m6, nI_m8, nI_m10, nI_m31, nI_m48, nI_m60, nI_m256, nI_t5, nI_t6, nI_a1, nI_a48, nI_a96, nI_d5, nI_d6, nI_d8, nI_d10, nI_d20, nI_s1, nI_s48, pk_sub]
  repeat (first | refine pk1 (by omega) ?_ | refine pk2 (by omega) ?_ | refine bd1 (by omega) ?_)
  refine k1 d o d7 ?_ fr
  obtain ⟨s0, s1, s2, s3, s4⟩ := sc
  intro j hj
  rcases (by omega : j = 0 ∨ j = 1 ∨ j = 2 ∨ j = 3) with e | e | e | e
  · subst e
    exact s1 (by omega)
  · subst e
    exact s2 (by omega)
  · subst e
    exact s3 (by omega)
  · subst e
    exact s4 (by omega)
