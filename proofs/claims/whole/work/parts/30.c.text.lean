/-! texts: the reference reads them whole -/
theorem c_160S {di : tDi} {dl : tDl} {k p n : Nat} {f : Nat → Nat} (hk : k < 8) (hn : n ≤ 47) (hp : p ≤ n) (h1 : di 182 0 = nI n) (h2 : di 176 7 = nI p) (h3 : di 183 0 = nI k) (hb : ∀ i, i < n → f i ≤ 255 ∧ di 181 (i) = nI (f i)) {K : Int32 → tDi → tDl → Prop} (k1 : ∀ d, (∀ j, j < 4 → p + j < n ∧ okS j (f (p + j))) → d 176 7 = nI (p + 4) → d 183 0 = nI (k + 1) → (∀ j, j < 4 → d 184 (4 * k + j) = nI (vS j (f (p + j)))) → (∀ a y, ¬ (a = 176 ∧ y = 7) → ¬ (a = 183 ∧ y = 0) → ¬ (a = 184 ∧ 4 * k ≤ y) → d a y = di a y) → K 1 d dl) (k0 : ∀ d j, j < 4 → (∀ i, i < j → p + i < n ∧ okS i (f (p + i))) → ¬ (p + j < n ∧ okS j (f (p + j))) → d 176 7 = nI (p + j) → (∀ a y, ¬ (a = 176 ∧ y = 7) → ¬ (a = 183 ∧ y = 0) → ¬ (a = 184 ∧ 4 * k ≤ y) → d a y = di a y) → K 0 d dl) : ClI 4 160 [.ref 176, .int (nI 0)] di dl K := by
  refine r_160 ?_
  simp (disch := omega) only [true_imp_iff, false_imp_iff, not_true_eq_false, not_false_eq_true, and_true, true_and, Int32.reduceToInt, Int64.reduceToInt, Int32.reduceAdd, fa_lt, fa_le, fa_eq, cmi_lt, cmi_le, cmi_gt, cmi_ge, cmi_eq, fa_lt64, fa_le64, fa_eq64, Int32.toInt_toInt64, nI_toInt, ti_m1, sub1_ti, inB_iff, nI_clamp, Int32.add_zero, nI_1, nI_add, nI_p2, nI_p3, nI_p4, nI_p5, nI_p6, nI_p8, nI_p9, nI_p10, nI_m3, nI_m4, nI_m5, nI_m6, nI_m8, nI_m10, nI_m31, nI_m48, nI_m60, nI_m256, nI_t5, nI_t6, nI_a1, nI_a48, nI_a96, nI_d5, nI_d6, nI_d8, nI_d10, nI_d20, nI_s1, nI_s48, pk_sub, h3]
  repeat (first | refine pk1 (by omega) ?_ | refine pk2 (by omega) ?_ | refine bd1 (by omega) ?_)
  refine c_158 hk hn hp h1 h2 h3 hb (fun d o d7 dv fr => ?_) (fun d j hj o no d7 fr => ?_)
  · have e3 : d 183 0 = nI k := by rw [fr _ _ (by omega) (by omega)]; exact h3
    refine pk2 (by decide) ?_
    rw [e3, nI_1]
    refine k1 _ o (by simp (disch := omega) only [up_eq, up_na, up_nk]; exact d7) (by simp (disch := omega) only [up_eq, up_na, up_nk]) (fun j hj => by simp (disch := omega) only [up_eq, up_na, up_nk]; exact dv j hj) ?_
    intro a y z1 z2 z3
    unfold up2
    rw [if_neg (by omega)]
    exact fr a y z1 z3
  · have e3 : d 183 0 = nI k := by rw [fr _ _ (by omega) (by omega)]; exact h3
    refine pk1 (by decide) ?_
    refine k0 _ j hj o no (by simp (disch := omega) only [up_eq, up_na, up_nk]; exact d7) ?_
    intro a y z1 z2 z3
    unfold up2
    rw [if_neg (by omega)]
    exact fr a y z1 z3
theorem c_162S {di : tDi} {dl : tDl} {n : Nat} {f : Nat → Nat} (hn : n ≤ 39) (h1 : di 182 0 = nI n) (hb : ∀ i, i < n → f i ≤ 255 ∧ di 181 (i) = nI (f i)) {K : Int32 → tDi → tDl → Prop} (kk : ∀ d x r m, FF (oS f) n x → ftS n x r m → d 183 0 = nI m → (∀ q, q < m → ∀ j, j < 4 → d 184 (4 * q + j) = nI (vS j (f (5 * q + j)))) → (∀ a y, ¬ (a = 176 ∧ y = 7) → ¬ (a = 183 ∧ y = 0) → ¬ a = 184 → d a y = di a y) → K r d dl) : ClI 5 162 [.ref 176, .int (nI 0)] di dl K := by
  refine r_162 ?_
  simp (disch := omega) only [true_imp_iff, false_imp_iff, not_true_eq_false, not_false_eq_true, and_true, true_and, Int32.reduceToInt, Int64.reduceToInt, Int32.reduceAdd, fa_lt, fa_le, fa_eq, cmi_lt, cmi_le, cmi_gt, cmi_ge, cmi_eq, fa_lt64, fa_le64, fa_eq64, Int32.toInt_toInt64, nI_toInt, ti_m1, sub1_ti, inB_iff, nI_clamp, Int32.add_zero, nI_1, nI_add, nI_p2, nI_p3, nI_p4, nI_p5, nI_p6, nI_p8, nI_p9, nI_p10, nI_m3, nI_m4, nI_m5, nI_m6, nI_m8, nI_m10, nI_m31, nI_m48, nI_m60, nI_m256, nI_t5, nI_t6, nI_a1, nI_a48, nI_a96, nI_d5, nI_d6, nI_d8, nI_d10, nI_d20, nI_s1, nI_s48, pk_sub, h1]
  repeat (first | refine pk1 (by omega) ?_ | refine pk2 (by omega) ?_ | refine bd1 (by omega) ?_)
  by_cases hz : n = 0
  · subst hz
    repeat (first | refine pk1 (by omega) ?_ | refine pk2 (by omega) ?_ | refine bd1 (by omega) ?_)
    refine r_162_37 ?_
    refine ⟨fun _ => ?_, fun z => absurd rfl z⟩
    refine kk _ 0 (-1) 0 ⟨Nat.le_refl _, fun i hi => absurd hi (Nat.not_lt_zero i), fun z => absurd z (by omega)⟩ (Or.inr (Or.inl ⟨rfl, Or.inl rfl, rfl, rfl⟩)) (by simp (disch := omega) only [up_eq, up_na, up_nk]; rfl) (fun q hq => absurd hq (Nat.not_lt_zero q)) ?_
    intro a y z1 z2 z3
    unfold up2
    rw [if_neg (by omega), if_neg (by omega)]
  · repeat (first | refine pk1 (by omega) ?_ | refine pk2 (by omega) ?_ | refine bd1 (by omega) ?_)
    have L : ∀ c m, c + m = 8 → 5 * m ≤ n → (∀ i, i < 5 * m → oS f i) → ∀ d, d 176 7 = nI (5 * m) → d 183 0 = nI m → (∀ q, q < m → ∀ j, j < 4 → d 184 (4 * q + j) = nI (vS j (f (5 * q + j)))) → (∀ a y, ¬ (a = 176 ∧ y = 7) → ¬ (a = 183 ∧ y = 0) → ¬ a = 184 → d a y = di a y) → Wq none 5 162 37 [(0, .ref 176), (1, .int (nI 0)), (2, .int 1)] [] d dl (RI K) := by
      intro c
      induction c with
      | zero =>
        intro m hm hwm
        omega
      | succ c ih =>
        intro m hm hwm ho d d7 d3 dv fr
        have e1 : d 182 0 = nI n := by rw [fr _ _ (by omega) (by omega) (by omega)]; exact h1
        have eb : ∀ i, i < n → f i ≤ 255 ∧ d 181 (i) = nI (f i) := by
          intro i hi
          rw [fr _ _ (by omega) (by omega) (by omega)]; exact hb i hi
        refine r_162_37 ⟨fun z => absurd z (by decide), fun _ => ?_⟩
        refine c_160S (by omega) (by omega) hwm e1 d7 d3 eb (fun g o g7 g3 gv gr => ?_) (fun g j hj o no g7 gr => ?_)
        · have ho' : ∀ i, i < 5 * m + 4 → oS f i := by
            intro i hi
            by_cases hi2 : i < 5 * m
            · exact ho i hi2
            · have := (o (i - 5 * m) (by omega)).2
              unfold oS
              rw [show 5 * m + (i - 5 * m) = i by omega] at this
              rw [show i % 5 = i - 5 * m by omega]
              exact this
          have hlt := (o 3 (by omega)).1
          have e1g : g 182 0 = nI n := by rw [gr _ _ (by omega) (by omega) (by omega)]; exact e1
          have gv' : ∀ q, q < m + 1 → ∀ j, j < 4 → g 184 (4 * q + j) = nI (vS j (f (5 * q + j))) := by
            intro q hq j hj
            rcases Nat.lt_succ_iff_lt_or_eq.mp hq with z | z
            · rw [gr _ _ (by omega) (by omega) (by omega)]
              exact dv q z j hj
            · subst z
              exact gv j hj
          refine pk2 (by decide) ?_
          simp (disch := omega) only [true_imp_iff, false_imp_iff, not_true_eq_false, not_false_eq_true, and_true, true_and, Int32.reduceToInt, Int64.reduceToInt, Int32.reduceAdd, fa_lt, fa_le, fa_eq, cmi_lt, cmi_le, cmi_gt, cmi_ge, cmi_eq, fa_lt64, fa_le64, fa_eq64, Int32.toInt_toInt64, nI_toInt, ti_m1, sub1_ti, inB_iff, nI_clamp, Int32.add_zero, nI_1, nI_add, nI_p2, nI_p3, nI_p4, nI_p5, nI_p6, nI_p8, nI_p9, nI_p10, nI_m3, nI_m4, nI_m5, nI_m6, nI_m8, nI_m10, nI_m31, nI_m48, nI_m60, nI_m256, nI_t5, nI_t6, nI_a1, nI_a48, nI_a96, nI_d5, nI_d6, nI_d8, nI_d10, nI_d20, nI_s1, nI_s48, pk_sub, e1g, g7]
          repeat (first | refine pk1 (by omega) ?_ | refine pk2 (by omega) ?_ | refine bd1 (by omega) ?_)
          by_cases hat : n ≤ 5 * m + 4
          · repeat (first | refine pk1 (by omega) ?_ | refine pk2 (by omega) ?_ | refine bd1 (by omega) ?_)
            refine r_162_37 ⟨fun _ => ?_, fun z => absurd rfl z⟩
            have en : n = 5 * m + 4 := by omega
            refine kk _ n (-1) (m + 1) ⟨Nat.le_refl _, fun i hi => ho' i (by omega), fun z => absurd z (by omega)⟩ (Or.inr (Or.inl ⟨rfl, Or.inr (by omega), rfl, by omega⟩)) (by simp (disch := omega) only [up_eq, up_na, up_nk]; exact g3) (fun q hq j hj => by simp (disch := omega) only [up_eq, up_na, up_nk]; exact gv' q hq j hj) ?_
            intro a y z1 z2 z3
            unfold up2
            rw [if_neg (by omega), gr a y z1 z2 (fun z => z3 z.1)]
            exact fr a y z1 z2 z3
          · have e4 : g 181 (48 * 0 + (5 * m + 4)) = nI (f (5 * m + 4)) := by
              rw [Nat.mul_zero, Nat.zero_add, gr _ _ (by omega) (by omega) (by omega)]
              exact (eb (5 * m + 4) (by omega)).2
            have hb5 := (hb (5 * m + 4) (by omega)).1
            simp (disch := omega) only [true_imp_iff, false_imp_iff, not_true_eq_false, not_false_eq_true, and_true, true_and, Int32.reduceToInt, Int64.reduceToInt, Int32.reduceAdd, fa_lt, fa_le, fa_eq, cmi_lt, cmi_le, cmi_gt, cmi_ge, cmi_eq, fa_lt64, fa_le64, fa_eq64, Int32.toInt_toInt64, nI_toInt, ti_m1, sub1_ti, inB_iff, nI_clamp, Int32.add_zero, nI_1, nI_add, nI_p2, nI_p3, nI_p4, nI_p5, nI_p6, nI_p8, nI_p9, nI_p10, nI_m3, nI_m4, nI_m5, nI_m6, nI_m8, nI_m10, nI_m31, nI_m48, nI_m60, nI_m256, nI_t5, nI_t6, nI_a1, nI_a48, nI_a96, nI_d5, nI_d6, nI_d8, nI_d10, nI_d20, nI_s1, nI_s48, pk_sub, e4]
            repeat (first | refine pk1 (by omega) ?_ | refine pk2 (by omega) ?_ | refine bd1 (by omega) ?_)
            refine ⟨fun h59 => ?_, fun h59 => ?_⟩
            · refine ih (m + 1) (by omega) (by omega) ?_ _ (by simp (disch := omega) only [up_eq, up_na, up_nk]; rw [show 5 * (m + 1) = 5 * m + 4 + 1 by omega]) (by simp (disch := omega) only [up_eq, up_na, up_nk]; exact g3) (fun q hq j hj => by simp (disch := omega) only [up_eq, up_na, up_nk]; exact gv' q hq j hj) ?_
              · intro i hi
                by_cases hi2 : i < 5 * m + 4
                · exact ho' i hi2
                · have : i = 5 * m + 4 := by omega
                  subst this
                  unfold oS okS
                  omega
              · intro a y z1 z2 z3
                unfold up2
                rw [if_neg (by omega), gr a y z1 z2 (fun z => z3 z.1)]
                exact fr a y z1 z2 z3
            · refine kk _ (5 * m + 4) (nI (5 * m + 4)) 0 ⟨by omega, ho', fun _ => ?_⟩ (Or.inl ⟨by omega, rfl, rfl⟩) (by simp (disch := omega) only [up_eq, up_na, up_nk]; rfl) (fun q hq => absurd hq (Nat.not_lt_zero q)) ?_
              · unfold oS okS
                omega
              · intro a y z1 z2 z3
                unfold up2
                rw [if_neg (by omega), gr a y z1 z2 (fun z => z3 z.1)]
                exact fr a y z1 z2 z3
        · refine pk1 (by decide) (pk1 (by decide) ?_)
          simp (disch := omega) only [true_imp_iff, false_imp_iff, not_true_eq_false, not_false_eq_true, and_true, true_and, Int32.reduceToInt, Int64.reduceToInt, Int32.reduceAdd, fa_lt, fa_le, fa_eq, cmi_lt, cmi_le, cmi_gt, cmi_ge, cmi_eq, fa_lt64, fa_le64, fa_eq64, Int32.toInt_toInt64, nI_toInt, ti_m1, sub1_ti, inB_iff, nI_clamp, Int32.add_zero, nI_1, nI_add, nI_p2, nI_p3, nI_p4, nI_p5, nI_p6, nI_p8, nI_p9, nI_p10, nI_m3, nI_m4, nI_m5, nI_m6, nI_m8, nI_m10, nI_m31, nI_m48, nI_m60, nI_m256, nI_t5, nI_t6, nI_a1, nI_a48, nI_a96, nI_d5, nI_d6, nI_d8, nI_d10, nI_d20, nI_s1, nI_s48, pk_sub, g7]
          repeat (first | refine pk1 (by omega) ?_ | refine pk2 (by omega) ?_ | refine bd1 (by omega) ?_)
          have ho' : ∀ i, i < 5 * m + j → oS f i := by
            intro i hi
            by_cases hi2 : i < 5 * m
            · exact ho i hi2
            · have := (o (i - 5 * m) (by omega)).2
              unfold oS
              rw [show 5 * m + (i - 5 * m) = i by omega] at this
              rw [show i % 5 = i - 5 * m by omega]
              exact this
          have hjn : 5 * m + j ≤ n := by
            by_cases hj0 : j = 0
            · omega
            · have := (o (j - 1) (by omega)).1
              omega
          have fr2 : ∀ a y, ¬ (a = 176 ∧ y = 7) → ¬ (a = 183 ∧ y = 0) → ¬ a = 184 → up2 g 183 0 0 a y = di a y := by
            intro a y z1 z2 z3
            unfold up2
            rw [if_neg (by omega), gr a y z1 z2 (fun z => z3 z.1)]
            exact fr a y z1 z2 z3
          by_cases hlt : 5 * m + j < n
          · refine kk _ (5 * m + j) (nI (5 * m + j)) 0 ⟨by omega, ho', fun _ => ?_⟩ (Or.inl ⟨by omega, rfl, rfl⟩) (by simp (disch := omega) only [up_eq, up_na, up_nk]; rfl) (fun q hq => absurd hq (Nat.not_lt_zero q)) fr2
            unfold oS
            rw [show (5 * m + j) % 5 = j by omega]
            exact fun z => no ⟨hlt, z⟩
          · have en : 5 * m + j = n := by omega
            rw [en] at ho' ⊢
            refine kk _ n (nI n) 0 ⟨by omega, ho', fun z => absurd z (by omega)⟩ (Or.inr (Or.inr ⟨rfl, ?_, rfl, rfl⟩)) (by simp (disch := omega) only [up_eq, up_na, up_nk]; rfl) (fun q hq => absurd hq (Nat.not_lt_zero q)) fr2
            unfold end5
            omega
    refine L 8 0 (by omega) (by omega) (fun i hi => absurd hi (by omega)) _ (by simp (disch := omega) only [up_eq, up_na, up_nk]; rfl) (by simp (disch := omega) only [up_eq, up_na, up_nk]; rfl) (fun q hq => absurd hq (Nat.not_lt_zero q)) ?_
    intro a y z1 z2 z3
    unfold up2
    rw [if_neg (by omega), if_neg (by omega)]
theorem c_160C {di : tDi} {dl : tDl} {k p n : Nat} {f : Nat → Nat} (hk : k < 8) (hn : n ≤ 47) (hp : p ≤ n) (h1 : di 182 1 = nI n) (h2 : di 176 7 = nI p) (h3 : di 183 1 = nI k) (hb : ∀ i, i < n → f i ≤ 255 ∧ di 181 (48 + i) = nI (f i)) {K : Int32 → tDi → tDl → Prop} (k1 : ∀ d, (∀ j, j < 5 → p + j < n ∧ okD j (f (p + j - 1)) (f (p + j))) → d 176 7 = nI (p + 5) → d 183 1 = nI (k + 1) → (∀ j, j < 4 → d 185 (4 * k + j) = nI (vC j (fun i => f (p + i)))) → (∀ a y, ¬ (a = 176 ∧ y = 7) → ¬ (a = 183 ∧ y = 1) → ¬ (a = 185 ∧ 4 * k ≤ y) → d a y = di a y) → K 1 d dl) (k0 : ∀ d j, j < 5 → (∀ i, i < j → p + i < n ∧ okD i (f (p + i - 1)) (f (p + i))) → ¬ (p + j < n ∧ okD j (f (p + j - 1)) (f (p + j))) → d 176 7 = nI (p + j) → (∀ a y, ¬ (a = 176 ∧ y = 7) → ¬ (a = 183 ∧ y = 1) → ¬ (a = 185 ∧ 4 * k ≤ y) → d a y = di a y) → K 0 d dl) : ClI 4 160 [.ref 176, .int (nI 1)] di dl K := by
  refine r_160 ?_
  simp (disch := omega) only [true_imp_iff, false_imp_iff, not_true_eq_false, not_false_eq_true, and_true, true_and, Int32.reduceToInt, Int64.reduceToInt, Int32.reduceAdd, fa_lt, fa_le, fa_eq, cmi_lt, cmi_le, cmi_gt, cmi_ge, cmi_eq, fa_lt64, fa_le64, fa_eq64, Int32.toInt_toInt64, nI_toInt, ti_m1, sub1_ti, inB_iff, nI_clamp, Int32.add_zero, nI_1, nI_add, nI_p2, nI_p3, nI_p4, nI_p5, nI_p6, nI_p8, nI_p9, nI_p10, nI_m3, nI_m4, nI_m5, nI_m6, nI_m8, nI_m10, nI_m31, nI_m48, nI_m60, nI_m256, nI_t5, nI_t6, nI_a1, nI_a48, nI_a96, nI_d5, nI_d6, nI_d8, nI_d10, nI_d20, nI_s1, nI_s48, pk_sub, h3]
  repeat (first | refine pk1 (by omega) ?_ | refine pk2 (by omega) ?_ | refine bd1 (by omega) ?_)
  refine c_159 hk hn hp h1 h2 h3 hb (fun d o d7 dv fr => ?_) (fun d j hj o no d7 fr => ?_)
  · have e3 : d 183 1 = nI k := by rw [fr _ _ (by omega) (by omega)]; exact h3
    refine pk2 (by decide) ?_
    rw [e3, nI_1]
    refine k1 _ o (by simp (disch := omega) only [up_eq, up_na, up_nk]; exact d7) (by simp (disch := omega) only [up_eq, up_na, up_nk]) (fun j hj => by simp (disch := omega) only [up_eq, up_na, up_nk]; exact dv j hj) ?_
    intro a y z1 z2 z3
    unfold up2
    rw [if_neg (by omega)]
    exact fr a y z1 z3
  · have e3 : d 183 1 = nI k := by rw [fr _ _ (by omega) (by omega)]; exact h3
    refine pk1 (by decide) ?_
    refine k0 _ j hj o no (by simp (disch := omega) only [up_eq, up_na, up_nk]; exact d7) ?_
    intro a y z1 z2 z3
    unfold up2
    rw [if_neg (by omega)]
    exact fr a y z1 z3
theorem c_162C {di : tDi} {dl : tDl} {n : Nat} {f : Nat → Nat} (hn : n ≤ 47) (h1 : di 182 1 = nI n) (hb : ∀ i, i < n → f i ≤ 255 ∧ di 181 (48 + i) = nI (f i)) {K : Int32 → tDi → tDl → Prop} (kk : ∀ d x r m, FF (oC f) n x → ftC n x r m → d 183 1 = nI m → (∀ q, q < m → ∀ j, j < 4 → d 185 (4 * q + j) = nI (vC j (fun i => f (6 * q + i)))) → (∀ a y, ¬ (a = 176 ∧ y = 7) → ¬ (a = 183 ∧ y = 1) → ¬ a = 185 → d a y = di a y) → K r d dl) : ClI 5 162 [.ref 176, .int (nI 1)] di dl K := by
  refine r_162 ?_
  simp (disch := omega) only [true_imp_iff, false_imp_iff, not_true_eq_false, not_false_eq_true, and_true, true_and, Int32.reduceToInt, Int64.reduceToInt, Int32.reduceAdd, fa_lt, fa_le, fa_eq, cmi_lt, cmi_le, cmi_gt, cmi_ge, cmi_eq, fa_lt64, fa_le64, fa_eq64, Int32.toInt_toInt64, nI_toInt, ti_m1, sub1_ti, inB_iff, nI_clamp, Int32.add_zero, nI_1, nI_add, nI_p2, nI_p3, nI_p4, nI_p5, nI_p6, nI_p8, nI_p9, nI_p10, nI_m3, nI_m4, nI_m5, nI_m6, nI_m8, nI_m10, nI_m31, nI_m48, nI_m60, nI_m256, nI_t5, nI_t6, nI_a1, nI_a48, nI_a96, nI_d5, nI_d6, nI_d8, nI_d10, nI_d20, nI_s1, nI_s48, pk_sub, h1]
  repeat (first | refine pk1 (by omega) ?_ | refine pk2 (by omega) ?_ | refine bd1 (by omega) ?_)
  by_cases hz : n = 0
  · subst hz
    repeat (first | refine pk1 (by omega) ?_ | refine pk2 (by omega) ?_ | refine bd1 (by omega) ?_)
    refine r_162_37 ?_
    refine ⟨fun _ => ?_, fun z => absurd rfl z⟩
    refine kk _ 0 (-1) 0 ⟨Nat.le_refl _, fun i hi => absurd hi (Nat.not_lt_zero i), fun z => absurd z (by omega)⟩ (Or.inr (Or.inl ⟨rfl, Or.inl rfl, rfl, rfl⟩)) (by simp (disch := omega) only [up_eq, up_na, up_nk]; rfl) (fun q hq => absurd hq (Nat.not_lt_zero q)) ?_
    intro a y z1 z2 z3
    unfold up2
    rw [if_neg (by omega), if_neg (by omega)]
  · repeat (first | refine pk1 (by omega) ?_ | refine pk2 (by omega) ?_ | refine bd1 (by omega) ?_)
    have L : ∀ c m, c + m = 8 → 6 * m ≤ n → (∀ i, i < 6 * m → oC f i) → ∀ d, d 176 7 = nI (6 * m) → d 183 1 = nI m → (∀ q, q < m → ∀ j, j < 4 → d 185 (4 * q + j) = nI (vC j (fun i => f (6 * q + i)))) → (∀ a y, ¬ (a = 176 ∧ y = 7) → ¬ (a = 183 ∧ y = 1) → ¬ a = 185 → d a y = di a y) → Wq none 5 162 37 [(0, .ref 176), (1, .int (nI 1)), (2, .int 1)] [] d dl (RI K) := by
      intro c
      induction c with
      | zero =>
        intro m hm hwm
        omega
      | succ c ih =>
        intro m hm hwm ho d d7 d3 dv fr
        have e1 : d 182 1 = nI n := by rw [fr _ _ (by omega) (by omega) (by omega)]; exact h1
        have eb : ∀ i, i < n → f i ≤ 255 ∧ d 181 (48 + i) = nI (f i) := by
          intro i hi
          rw [fr _ _ (by omega) (by omega) (by omega)]; exact hb i hi
        refine r_162_37 ⟨fun z => absurd z (by decide), fun _ => ?_⟩
        refine c_160C (by omega) (by omega) hwm e1 d7 d3 eb (fun g o g7 g3 gv gr => ?_) (fun g j hj o no g7 gr => ?_)
        · have ho' : ∀ i, i < 6 * m + 5 → oC f i := by
            intro i hi
            by_cases hi2 : i < 6 * m
            · exact ho i hi2
            · have := (o (i - 6 * m) (by omega)).2
              unfold oC
              rw [show 6 * m + (i - 6 * m) = i by omega] at this
              rw [show i % 6 = i - 6 * m by omega]
              exact this
          have hlt := (o 4 (by omega)).1
          have e1g : g 182 1 = nI n := by rw [gr _ _ (by omega) (by omega) (by omega)]; exact e1
          have gv' : ∀ q, q < m + 1 → ∀ j, j < 4 → g 185 (4 * q + j) = nI (vC j (fun i => f (6 * q + i))) := by
            intro q hq j hj
            rcases Nat.lt_succ_iff_lt_or_eq.mp hq with z | z
            · rw [gr _ _ (by omega) (by omega) (by omega)]
              exact dv q z j hj
            · subst z
              exact gv j hj
          refine pk2 (by decide) ?_
          simp (disch := omega) only [true_imp_iff, false_imp_iff, not_true_eq_false, not_false_eq_true, and_true, true_and, Int32.reduceToInt, Int64.reduceToInt, Int32.reduceAdd, fa_lt, fa_le, fa_eq, cmi_lt, cmi_le, cmi_gt, cmi_ge, cmi_eq, fa_lt64, fa_le64, fa_eq64, Int32.toInt_toInt64, nI_toInt, ti_m1, sub1_ti, inB_iff, nI_clamp, Int32.add_zero, nI_1, nI_add, nI_p2, nI_p3, nI_p4, nI_p5, nI_p6, nI_p8, nI_p9, nI_p10, nI_m3, nI_m4, nI_m5, nI_m6, nI_m8, nI_m10, nI_m31, nI_m48, nI_m60, nI_m256, nI_t5, nI_t6, nI_a1, nI_a48, nI_a96, nI_d5, nI_d6, nI_d8, nI_d10, nI_d20, nI_s1, nI_s48, pk_sub, e1g, g7]
          repeat (first | refine pk1 (by omega) ?_ | refine pk2 (by omega) ?_ | refine bd1 (by omega) ?_)
          by_cases hat : n ≤ 6 * m + 5
          · repeat (first | refine pk1 (by omega) ?_ | refine pk2 (by omega) ?_ | refine bd1 (by omega) ?_)
            refine r_162_37 ⟨fun _ => ?_, fun z => absurd rfl z⟩
            have en : n = 6 * m + 5 := by omega
            refine kk _ n (-1) (m + 1) ⟨Nat.le_refl _, fun i hi => ho' i (by omega), fun z => absurd z (by omega)⟩ (Or.inr (Or.inl ⟨rfl, Or.inr (by omega), rfl, by omega⟩)) (by simp (disch := omega) only [up_eq, up_na, up_nk]; exact g3) (fun q hq j hj => by simp (disch := omega) only [up_eq, up_na, up_nk]; exact gv' q hq j hj) ?_
            intro a y z1 z2 z3
            unfold up2
            rw [if_neg (by omega), gr a y z1 z2 (fun z => z3 z.1)]
            exact fr a y z1 z2 z3
          · have e4 : g 181 (48 * 1 + (6 * m + 5)) = nI (f (6 * m + 5)) := by
              rw [gr _ _ (by omega) (by omega) (by omega)]
              exact (eb (6 * m + 5) (by omega)).2
            have hb5 := (hb (6 * m + 5) (by omega)).1
            simp (disch := omega) only [true_imp_iff, false_imp_iff, not_true_eq_false, not_false_eq_true, and_true, true_and, Int32.reduceToInt, Int64.reduceToInt, Int32.reduceAdd, fa_lt, fa_le, fa_eq, cmi_lt, cmi_le, cmi_gt, cmi_ge, cmi_eq, fa_lt64, fa_le64, fa_eq64, Int32.toInt_toInt64, nI_toInt, ti_m1, sub1_ti, inB_iff, nI_clamp, Int32.add_zero, nI_1, nI_add, nI_p2, nI_p3, nI_p4, nI_p5, nI_p6, nI_p8, nI_p9, nI_p10, nI_m3, nI_m4, nI_m5, nI_m6, nI_m8, nI_m10, nI_m31, nI_m48, nI_m60, nI_m256, nI_t5, nI_t6, nI_a1, nI_a48, nI_a96, nI_d5, nI_d6, nI_d8, nI_d10, nI_d20, nI_s1, nI_s48, pk_sub, e4]
            repeat (first | refine pk1 (by omega) ?_ | refine pk2 (by omega) ?_ | refine bd1 (by omega) ?_)
            refine ⟨fun h59 => ?_, fun h59 => ?_⟩
            · refine ih (m + 1) (by omega) (by omega) ?_ _ (by simp (disch := omega) only [up_eq, up_na, up_nk]; rw [show 6 * (m + 1) = 6 * m + 5 + 1 by omega]) (by simp (disch := omega) only [up_eq, up_na, up_nk]; exact g3) (fun q hq j hj => by simp (disch := omega) only [up_eq, up_na, up_nk]; exact gv' q hq j hj) ?_
              · intro i hi
                by_cases hi2 : i < 6 * m + 5
                · exact ho' i hi2
                · have : i = 6 * m + 5 := by omega
                  subst this
                  unfold oC okD
                  omega
              · intro a y z1 z2 z3
                unfold up2
                rw [if_neg (by omega), gr a y z1 z2 (fun z => z3 z.1)]
                exact fr a y z1 z2 z3
            · refine kk _ (6 * m + 5) (nI (6 * m + 5)) 0 ⟨by omega, ho', fun _ => ?_⟩ (Or.inl ⟨by omega, rfl, rfl⟩) (by simp (disch := omega) only [up_eq, up_na, up_nk]; rfl) (fun q hq => absurd hq (Nat.not_lt_zero q)) ?_
              · unfold oC okD
                omega
              · intro a y z1 z2 z3
                unfold up2
                rw [if_neg (by omega), gr a y z1 z2 (fun z => z3 z.1)]
                exact fr a y z1 z2 z3
        · refine pk1 (by decide) (pk1 (by decide) ?_)
          simp (disch := omega) only [true_imp_iff, false_imp_iff, not_true_eq_false, not_false_eq_true, and_true, true_and, Int32.reduceToInt, Int64.reduceToInt, Int32.reduceAdd, fa_lt, fa_le, fa_eq, cmi_lt, cmi_le, cmi_gt, cmi_ge, cmi_eq, fa_lt64, fa_le64, fa_eq64, Int32.toInt_toInt64, nI_toInt, ti_m1, sub1_ti, inB_iff, nI_clamp, Int32.add_zero, nI_1, nI_add, nI_p2, nI_p3, nI_p4, nI_p5, nI_p6, nI_p8, nI_p9, nI_p10, nI_m3, nI_m4, nI_m5, nI_m6, nI_m8, nI_m10, nI_m31, nI_m48, nI_m60, nI_m256, nI_t5, nI_t6, nI_a1, nI_a48, nI_a96, nI_d5, nI_d6, nI_d8, nI_d10, nI_d20, nI_s1, nI_s48, pk_sub, g7]
          repeat (first | refine pk1 (by omega) ?_ | refine pk2 (by omega) ?_ | refine bd1 (by omega) ?_)
          have ho' : ∀ i, i < 6 * m + j → oC f i := by
            intro i hi
            by_cases hi2 : i < 6 * m
            · exact ho i hi2
            · have := (o (i - 6 * m) (by omega)).2
              unfold oC
              rw [show 6 * m + (i - 6 * m) = i by omega] at this
              rw [show i % 6 = i - 6 * m by omega]
              exact this
          have hjn : 6 * m + j ≤ n := by
            by_cases hj0 : j = 0
            · omega
            · have := (o (j - 1) (by omega)).1
              omega
          have fr2 : ∀ a y, ¬ (a = 176 ∧ y = 7) → ¬ (a = 183 ∧ y = 1) → ¬ a = 185 → up2 g 183 1 0 a y = di a y := by
            intro a y z1 z2 z3
            unfold up2
            rw [if_neg (by omega), gr a y z1 z2 (fun z => z3 z.1)]
            exact fr a y z1 z2 z3
          by_cases hlt : 6 * m + j < n
          · refine kk _ (6 * m + j) (nI (6 * m + j)) 0 ⟨by omega, ho', fun _ => ?_⟩ (Or.inl ⟨by omega, rfl, rfl⟩) (by simp (disch := omega) only [up_eq, up_na, up_nk]; rfl) (fun q hq => absurd hq (Nat.not_lt_zero q)) fr2
            unfold oC
            rw [show (6 * m + j) % 6 = j by omega]
            exact fun z => no ⟨hlt, z⟩
          · have en : 6 * m + j = n := by omega
            rw [en] at ho' ⊢
            refine kk _ n (nI n) 0 ⟨by omega, ho', fun z => absurd z (by omega)⟩ (Or.inr (Or.inr ⟨rfl, ?_, rfl, rfl⟩)) (by simp (disch := omega) only [up_eq, up_na, up_nk]; rfl) (fun q hq => absurd hq (Nat.not_lt_zero q)) fr2
            unfold end6
            omega
    refine L 8 0 (by omega) (by omega) (fun i hi => absurd hi (by omega)) _ (by simp (disch := omega) only [up_eq, up_na, up_nk]; rfl) (by simp (disch := omega) only [up_eq, up_na, up_nk]; rfl) (fun q hq => absurd hq (Nat.not_lt_zero q)) ?_
    intro a y z1 z2 z3
    unfold up2
    rw [if_neg (by omega), if_neg (by omega)]
theorem c_161 {di : tDi} {dl : tDl} {n : Nat} {f : Nat → Nat} (hn : n ≤ 24) (h1 : di 182 2 = nI n) (hb : ∀ i, i < n → f i ≤ 255 ∧ di 181 (96 + i) = nI (f i)) {K : Int32 → tDi → tDl → Prop} (kk : ∀ d x r m, FF (oM f) n x → ftM n x r m → d 183 2 = nI m → (∀ q, q < m → d 186 q = nI (vM (f q))) → (∀ a y, ¬ (a = 183 ∧ y = 2) → ¬ a = 186 → d a y = di a y) → K r d dl) : ClI 0 161 [.ref 176] di dl K := by
  refine r_161 ?_
  refine up_to (n := n) (G := fun i => ∀ d, (∀ j, j < i → oM f j) → d 183 2 = nI i → (∀ q, q < i → d 186 q = nI (vM (f q))) → (∀ a y, ¬ (a = 183 ∧ y = 2) → ¬ a = 186 → d a y = di a y) → Wq none 0 161 9 [(0, .ref 176), (1, .int (nI i))] [] d dl (RI K)) ?_ ?_ (Nat.zero_le n) _ (fun j hj => absurd hj (Nat.not_lt_zero j)) (by simp (disch := omega) only [up_eq, up_na, up_nk]; rfl) (fun q hq => absurd hq (Nat.not_lt_zero q)) ?_
  · intro d ho d3 dv fr
    have e1 : d 182 2 = nI n := by rw [fr _ _ (by omega) (by omega)]; exact h1
    refine r_161_9 ?_
    simp (disch := omega) only [true_imp_iff, false_imp_iff, not_true_eq_false, not_false_eq_true, and_true, true_and, Int32.reduceToInt, Int64.reduceToInt, Int32.reduceAdd, fa_lt, fa_le, fa_eq, cmi_lt, cmi_le, cmi_gt, cmi_ge, cmi_eq, fa_lt64, fa_le64, fa_eq64, Int32.toInt_toInt64, nI_toInt, ti_m1, sub1_ti, inB_iff, nI_clamp, Int32.add_zero, nI_1, nI_add, nI_p2, nI_p3, nI_p4, nI_p5, nI_p6, nI_p8, nI_p9, nI_p10, nI_m3, nI_m4, nI_m5, nI_m6, nI_m8, nI_m10, nI_m31, nI_m48, nI_m60, nI_m256, nI_t5, nI_t6, nI_a1, nI_a48, nI_a96, nI_d5, nI_d6, nI_d8, nI_d10, nI_d20, nI_s1, nI_s48, pk_sub, e1]
    repeat (first | refine pk1 (by omega) ?_ | refine pk2 (by omega) ?_ | refine bd1 (by omega) ?_)
    exact kk d n (-1) n ⟨Nat.le_refl _, ho, fun z => absurd z (by omega)⟩ (Or.inr ⟨rfl, rfl, rfl⟩) d3 dv fr
  · intro i hi ih d ho d3 dv fr
    have e1 : d 182 2 = nI n := by rw [fr _ _ (by omega) (by omega)]; exact h1
    have e4 : d 181 (96 + i) = nI (f i) := by rw [fr _ _ (by omega) (by omega)]; exact (hb i hi).2
    have hb5 := (hb i hi).1
    have go : ∀ v, v = vM (f i) → okM (f i) → Wq none 0 161 9 [(0, .ref 176), (1, .int (nI (i + 1)))] [] (up2 (up2 d 186 i (nI v)) 183 2 (nI (i + 1))) dl (RI K) := by
      intro v hv hok
      subst hv
      refine ih _ ?_ (by simp (disch := omega) only [up_eq, up_na, up_nk]) ?_ ?_
      · intro j hj
        rcases Nat.lt_succ_iff_lt_or_eq.mp hj with z | z
        · exact ho j z
        · subst z
          exact hok
      · intro q hq
        rw [up_na (by omega)]
        rcases Nat.lt_succ_iff_lt_or_eq.mp hq with z | z
        · rw [up_nk (by omega)]
          exact dv q z
        · subst z
          rw [up_eq]
      · intro a y z1 z2
        unfold up2
        rw [if_neg (by omega), if_neg (by omega)]
        exact fr a y z1 z2
    refine r_161_9 ?_
    simp (disch := omega) only [true_imp_iff, false_imp_iff, not_true_eq_false, not_false_eq_true, and_true, true_and, Int32.reduceToInt, Int64.reduceToInt, Int32.reduceAdd, fa_lt, fa_le, fa_eq, cmi_lt, cmi_le, cmi_gt, cmi_ge, cmi_eq, fa_lt64, fa_le64, fa_eq64, Int32.toInt_toInt64, nI_toInt, ti_m1, sub1_ti, inB_iff, nI_clamp, Int32.add_zero, nI_1, nI_add, nI_p2, nI_p3, nI_p4, nI_p5, nI_p6, nI_p8, nI_p9, nI_p10, nI_m3, nI_m4, nI_m5, nI_m6, nI_m8, nI_m10, nI_m31, nI_m48, nI_m60, nI_m256, nI_t5, nI_t6, nI_a1, nI_a48, nI_a96, nI_d5, nI_d6, nI_d8, nI_d10, nI_d20, nI_s1, nI_s48, pk_sub, e1, e4, d3]
    repeat (first | refine pk1 (by omega) ?_ | refine pk2 (by omega) ?_ | refine bd1 (by omega) ?_)
    refine ⟨fun n1 => ⟨fun n2 => ⟨fun n3 => ⟨fun n4 => ⟨fun n5 => ?_, fun y5 => ⟨by omega, go 4 ?_ ?_⟩⟩, fun y4 => ⟨by omega, go 3 ?_ ?_⟩⟩, fun y3 => ⟨by omega, go 2 ?_ ?_⟩⟩, fun y2 => ⟨by omega, go 1 ?_ ?_⟩⟩, fun y1 => ⟨by omega, go 0 ?_ ?_⟩⟩
    · refine kk _ i (nI i) 0 ⟨by omega, ho, fun _ => ?_⟩ (Or.inl ⟨hi, rfl, rfl⟩) (by simp (disch := omega) only [up_eq, up_na, up_nk]; rfl) (fun q hq => absurd hq (Nat.not_lt_zero q)) ?_
      · unfold oM okM
        omega
      · intro a y z1 z2
        unfold up2
        rw [if_neg (by omega)]
        exact fr a y z1 z2
    · unfold vM
      rw [if_neg (by omega), if_neg (by omega), if_neg (by omega), if_neg (by omega)]
    · unfold okM; omega
    · unfold vM
      rw [if_neg (by omega), if_neg (by omega), if_neg (by omega), if_pos (by omega)]
    · unfold okM; omega
    · unfold vM
      rw [if_neg (by omega), if_neg (by omega), if_pos (by omega)]
    · unfold okM; omega
    · unfold vM
      rw [if_neg (by omega), if_pos (by omega)]
    · unfold okM; omega
    · unfold vM
      rw [if_pos (by omega)]
    · unfold okM; omega
  · intro a y z1 z2
    unfold up2
    rw [if_neg (by omega)]
