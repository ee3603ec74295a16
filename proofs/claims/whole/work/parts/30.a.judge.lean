/-! texts: what the bytes tell; the class's judge -/
def okS (j b : Nat) : Prop := (j = 0 ∧ 49 ≤ b ∧ b ≤ 57) ∨ ((j = 1 ∨ j = 2) ∧ 48 ≤ b ∧ b ≤ 57) ∨ (j = 3 ∧ (b = 110 ∨ b = 115)) ∨ (j = 4 ∧ b = 59)
def okD (j q b : Nat) : Prop := ((j = 0 ∨ j = 3) ∧ 48 ≤ b ∧ b ≤ 57) ∨ (j = 1 ∧ 48 ≤ b ∧ b ≤ 57 ∧ ¬ q = 48) ∨ (j = 2 ∧ (b = 119 ∨ b = 108 ∨ b = 104)) ∨ (j = 4 ∧ 49 ≤ b ∧ b ≤ 57) ∨ (j = 5 ∧ b = 59)
def okM (b : Nat) : Prop := b = 46 ∨ b = 114 ∨ b = 102 ∨ b = 115 ∨ b = 109
def oS (f : Nat → Nat) (i : Nat) : Prop := okS (i % 5) (f i)
def oC (f : Nat → Nat) (i : Nat) : Prop := okD (i % 6) (f (i - 1)) (f i)
def oM (f : Nat → Nat) (i : Nat) : Prop := okM (f i)
/-- x is the first that isn't as it must be, of n -/
def FF (ok : Nat → Prop) (n x : Nat) : Prop := x ≤ n ∧ (∀ i, i < x → ok i) ∧ (x < n → ¬ ok x)
theorem FF_u {ok : Nat → Prop} {n x y : Nat} (h : FF ok n x) (g : FF ok n y) : x = y := by
  obtain ⟨h1, h2, h3⟩ := h
  obtain ⟨g1, g2, g3⟩ := g
  rcases Nat.lt_trichotomy x y with z | z | z
  · exact absurd (g2 x z) (h3 (by omega))
  · exact z
  · exact absurd (h2 y z) (g3 (by omega))
def end5 (n : Nat) : Prop := n = 0 ∨ (n + 1) % 5 = 0
def end6 (n : Nat) : Prop := n = 0 ∨ (n + 1) % 6 = 0
/-- the fault's place and how many, of statues -/
def ftS (n x : Nat) (r : Int32) (m : Nat) : Prop := (x < n ∧ r = nI x ∧ m = 0) ∨ (x = n ∧ end5 n ∧ r = -1 ∧ m = (n + 1) / 5) ∨ (x = n ∧ ¬ end5 n ∧ r = nI n ∧ m = 0)
def ftC (n x : Nat) (r : Int32) (m : Nat) : Prop := (x < n ∧ r = nI x ∧ m = 0) ∨ (x = n ∧ end6 n ∧ r = -1 ∧ m = (n + 1) / 6) ∨ (x = n ∧ ¬ end6 n ∧ r = nI n ∧ m = 0)
def ftM (n x : Nat) (r : Int32) (m : Nat) : Prop := (x < n ∧ r = nI x ∧ m = 0) ∨ (x = n ∧ r = -1 ∧ m = n)
theorem ftS_u {n x m m' : Nat} {r r' : Int32} (h : ftS n x r m) (g : ftS n x r' m') : r = r' ∧ m = m' := by
  rcases h with ⟨h1, h2, h3⟩ | ⟨h1, h2, h3, h4⟩ | ⟨h1, h2, h3, h4⟩ <;> rcases g with ⟨g1, g2, g3⟩ | ⟨g1, g2, g3, g4⟩ | ⟨g1, g2, g3, g4⟩ <;> first | omega | exact absurd h2 g2 | exact absurd g2 h2 | (subst_vars; exact ⟨rfl, rfl⟩)
theorem ftC_u {n x m m' : Nat} {r r' : Int32} (h : ftC n x r m) (g : ftC n x r' m') : r = r' ∧ m = m' := by
  rcases h with ⟨h1, h2, h3⟩ | ⟨h1, h2, h3, h4⟩ | ⟨h1, h2, h3, h4⟩ <;> rcases g with ⟨g1, g2, g3⟩ | ⟨g1, g2, g3, g4⟩ | ⟨g1, g2, g3, g4⟩ <;> first | omega | exact absurd h2 g2 | exact absurd g2 h2 | (subst_vars; exact ⟨rfl, rfl⟩)
theorem ftM_u {n x m m' : Nat} {r r' : Int32} (h : ftM n x r m) (g : ftM n x r' m') : r = r' ∧ m = m' := by
  rcases h with ⟨h1, h2, h3⟩ | ⟨h1, h2, h3⟩ <;> rcases g with ⟨g1, g2, g3⟩ | ⟨g1, g2, g3⟩ <;> first | omega | (subst_vars; exact ⟨rfl, rfl⟩)
theorem c_56t1 {di : tDi} {dl : tDl} {n i : Nat} {v : Int32} (hn : n ≤ 47) (hl : di 1 2 = nI n) (hi : i < n) (hv : di 2 i = v) {K : Int32 → tDi → tDl → Prop} (kk : K v di dl) : ClI 0 56 [.ref 1, .int (nI i)] di dl K := by
  refine r_56t1 ?_
  simp (disch := omega) only [true_imp_iff, false_imp_iff, not_true_eq_false, not_false_eq_true, and_true, true_and, Int32.reduceToInt, Int64.reduceToInt, Int32.reduceAdd, fa_lt, fa_le, fa_eq, cmi_lt, cmi_le, cmi_gt, cmi_ge, cmi_eq, fa_lt64, fa_le64, fa_eq64, Int32.toInt_toInt64, nI_toInt, ti_m1, sub1_ti, inB_iff, nI_clamp, Int32.add_zero, nI_1, nI_add, nI_p2, nI_p3, nI_p4, nI_p5, nI_p6, nI_p8, nI_p9, nI_p10, nI_m3, nI_m4, nI_m5, nI_m6, nI_m8, nI_m10, nI_m31, nI_m48, nI_m60, nI_m256, nI_t5, nI_t6, nI_a1, nI_a48, nI_a96, nI_d5, nI_d6, nI_d8, nI_d10, nI_d20, nI_s1, nI_s48, pk_sub, hl, hv]
  repeat (first | refine pk1 (by omega) ?_ | refine pk2 (by omega) ?_ | refine bd1 (by omega) ?_)
  exact kk
theorem c_57t1 {di : tDi} {dl : tDl} {n i v : Nat} (hn : n ≤ 47) (hl : di 1 2 = nI n) (hi : i < n) (hv : di 2 i = nI (48 + v)) {K : Int32 → tDi → tDl → Prop} (kk : K (nI v) di dl) : ClI 0 57 [.ref 1, .int (nI i)] di dl K := by
  refine r_57t1 ?_
  simp (disch := omega) only [true_imp_iff, false_imp_iff, not_true_eq_false, not_false_eq_true, and_true, true_and, Int32.reduceToInt, Int64.reduceToInt, Int32.reduceAdd, fa_lt, fa_le, fa_eq, cmi_lt, cmi_le, cmi_gt, cmi_ge, cmi_eq, fa_lt64, fa_le64, fa_eq64, Int32.toInt_toInt64, nI_toInt, ti_m1, sub1_ti, inB_iff, nI_clamp, Int32.add_zero, nI_1, nI_add, nI_p2, nI_p3, nI_p4, nI_p5, nI_p6, nI_p8, nI_p9, nI_p10, nI_m3, nI_m4, nI_m5, nI_m6, nI_m8, nI_m10, nI_m31, nI_m48, nI_m60, nI_m256, nI_t5, nI_t6, nI_a1, nI_a48, nI_a96, nI_d5, nI_d6, nI_d8, nI_d10, nI_d20, nI_s1, nI_s48, pk_sub, hl, hv, Nat.add_sub_cancel_left]
  repeat (first | refine pk1 (by omega) ?_ | refine pk2 (by omega) ?_ | refine bd1 (by omega) ?_)
  exact kk
theorem c_56t3 {di : tDi} {dl : tDl} {n i : Nat} {v : Int32} (hn : n ≤ 47) (hl : di 3 2 = nI n) (hi : i < n) (hv : di 4 i = v) {K : Int32 → tDi → tDl → Prop} (kk : K v di dl) : ClI 0 56 [.ref 3, .int (nI i)] di dl K := by
  refine r_56t3 ?_
  simp (disch := omega) only [true_imp_iff, false_imp_iff, not_true_eq_false, not_false_eq_true, and_true, true_and, Int32.reduceToInt, Int64.reduceToInt, Int32.reduceAdd, fa_lt, fa_le, fa_eq, cmi_lt, cmi_le, cmi_gt, cmi_ge, cmi_eq, fa_lt64, fa_le64, fa_eq64, Int32.toInt_toInt64, nI_toInt, ti_m1, sub1_ti, inB_iff, nI_clamp, Int32.add_zero, nI_1, nI_add, nI_p2, nI_p3, nI_p4, nI_p5, nI_p6, nI_p8, nI_p9, nI_p10, nI_m3, nI_m4, nI_m5, nI_m6, nI_m8, nI_m10, nI_m31, nI_m48, nI_m60, nI_m256, nI_t5, nI_t6, nI_a1, nI_a48, nI_a96, nI_d5, nI_d6, nI_d8, nI_d10, nI_d20, nI_s1, nI_s48, pk_sub, hl, hv]
  repeat (first | refine pk1 (by omega) ?_ | refine pk2 (by omega) ?_ | refine bd1 (by omega) ?_)
  exact kk
theorem c_57t3 {di : tDi} {dl : tDl} {n i v : Nat} (hn : n ≤ 47) (hl : di 3 2 = nI n) (hi : i < n) (hv : di 4 i = nI (48 + v)) {K : Int32 → tDi → tDl → Prop} (kk : K (nI v) di dl) : ClI 0 57 [.ref 3, .int (nI i)] di dl K := by
  refine r_57t3 ?_
  simp (disch := omega) only [true_imp_iff, false_imp_iff, not_true_eq_false, not_false_eq_true, and_true, true_and, Int32.reduceToInt, Int64.reduceToInt, Int32.reduceAdd, fa_lt, fa_le, fa_eq, cmi_lt, cmi_le, cmi_gt, cmi_ge, cmi_eq, fa_lt64, fa_le64, fa_eq64, Int32.toInt_toInt64, nI_toInt, ti_m1, sub1_ti, inB_iff, nI_clamp, Int32.add_zero, nI_1, nI_add, nI_p2, nI_p3, nI_p4, nI_p5, nI_p6, nI_p8, nI_p9, nI_p10, nI_m3, nI_m4, nI_m5, nI_m6, nI_m8, nI_m10, nI_m31, nI_m48, nI_m60, nI_m256, nI_t5, nI_t6, nI_a1, nI_a48, nI_a96, nI_d5, nI_d6, nI_d8, nI_d10, nI_d20, nI_s1, nI_s48, pk_sub, hl, hv, Nat.add_sub_cancel_left]
  repeat (first | refine pk1 (by omega) ?_ | refine pk2 (by omega) ?_ | refine bd1 (by omega) ?_)
  exact kk
theorem c_56t5 {di : tDi} {dl : tDl} {n i : Nat} {v : Int32} (hn : n ≤ 47) (hl : di 5 2 = nI n) (hi : i < n) (hv : di 6 i = v) {K : Int32 → tDi → tDl → Prop} (kk : K v di dl) : ClI 0 56 [.ref 5, .int (nI i)] di dl K := by
  refine r_56t5 ?_
  simp (disch := omega) only [true_imp_iff, false_imp_iff, not_true_eq_false, not_false_eq_true, and_true, true_and, Int32.reduceToInt, Int64.reduceToInt, Int32.reduceAdd, fa_lt, fa_le, fa_eq, cmi_lt, cmi_le, cmi_gt, cmi_ge, cmi_eq, fa_lt64, fa_le64, fa_eq64, Int32.toInt_toInt64, nI_toInt, ti_m1, sub1_ti, inB_iff, nI_clamp, Int32.add_zero, nI_1, nI_add, nI_p2, nI_p3, nI_p4, nI_p5, nI_p6, nI_p8, nI_p9, nI_p10, nI_m3, nI_m4, nI_m5, nI_m6, nI_m8, nI_m10, nI_m31, nI_m48, nI_m60, nI_m256, nI_t5, nI_t6, nI_a1, nI_a48, nI_a96, nI_d5, nI_d6, nI_d8, nI_d10, nI_d20, nI_s1, nI_s48, pk_sub, hl, hv]
  repeat (first | refine pk1 (by omega) ?_ | refine pk2 (by omega) ?_ | refine bd1 (by omega) ?_)
  exact kk
theorem c_57t5 {di : tDi} {dl : tDl} {n i v : Nat} (hn : n ≤ 47) (hl : di 5 2 = nI n) (hi : i < n) (hv : di 6 i = nI (48 + v)) {K : Int32 → tDi → tDl → Prop} (kk : K (nI v) di dl) : ClI 0 57 [.ref 5, .int (nI i)] di dl K := by
  refine r_57t5 ?_
  simp (disch := omega) only [true_imp_iff, false_imp_iff, not_true_eq_false, not_false_eq_true, and_true, true_and, Int32.reduceToInt, Int64.reduceToInt, Int32.reduceAdd, fa_lt, fa_le, fa_eq, cmi_lt, cmi_le, cmi_gt, cmi_ge, cmi_eq, fa_lt64, fa_le64, fa_eq64, Int32.toInt_toInt64, nI_toInt, ti_m1, sub1_ti, inB_iff, nI_clamp, Int32.add_zero, nI_1, nI_add, nI_p2, nI_p3, nI_p4, nI_p5, nI_p6, nI_p8, nI_p9, nI_p10, nI_m3, nI_m4, nI_m5, nI_m6, nI_m8, nI_m10, nI_m31, nI_m48, nI_m60, nI_m256, nI_t5, nI_t6, nI_a1, nI_a48, nI_a96, nI_d5, nI_d6, nI_d8, nI_d10, nI_d20, nI_s1, nI_s48, pk_sub, hl, hv, Nat.add_sub_cancel_left]
  repeat (first | refine pk1 (by omega) ?_ | refine pk2 (by omega) ?_ | refine bd1 (by omega) ?_)
  exact kk
theorem c_45 {di : tDi} {dl : tDl} {n i b : Nat} (hn : n ≤ 39) (hl : di 1 2 = nI n) (hi : i < n) (hb : b ≤ 255) (hv : di 2 i = nI b) {K : Int32 → tDi → tDl → Prop} (k1 : okS (i % 5) b → K 1 di dl) (k0 : ¬ okS (i % 5) b → K 0 di dl) : ClI 1 45 [.ref 1, .int (nI i)] di dl K := by
  refine r_45 (c_56t1 (by omega) hl hi hv ?_)
  simp (disch := omega) only [true_imp_iff, false_imp_iff, not_true_eq_false, not_false_eq_true, and_true, true_and, Int32.reduceToInt, Int64.reduceToInt, Int32.reduceAdd, fa_lt, fa_le, fa_eq, cmi_lt, cmi_le, cmi_gt, cmi_ge, cmi_eq, fa_lt64, fa_le64, fa_eq64, Int32.toInt_toInt64, nI_toInt, ti_m1, sub1_ti, inB_iff, nI_clamp, Int32.add_zero, nI_1, nI_add, nI_p2, nI_p3, nI_p4, nI_p5, nI_p6, nI_p8, nI_p9, nI_p10, nI_m3, nI_m4, nI_m5, nI_m6, nI_m8, nI_m10, nI_m31, nI_m48, nI_m60, nI_m256, nI_t5, nI_t6, nI_a1, nI_a48, nI_a96, nI_d5, nI_d6, nI_d8, nI_d10, nI_d20, nI_s1, nI_s48, pk_sub]
  unfold okS at k1 k0
  rcases (by omega : i % 5 = 0 ∨ i % 5 = 1 ∨ i % 5 = 2 ∨ i % 5 = 3 ∨ i % 5 = 4) with e | e | e | e | e
  · repeat (first | refine pk1 (by omega) ?_ | refine pk2 (by omega) ?_ | refine bd1 (by omega) ?_)
    exact ⟨fun z => k0 (by omega), fun z => ⟨fun z' => k0 (by omega), fun z' => k1 (by omega)⟩⟩
  · repeat (first | refine pk1 (by omega) ?_ | refine pk2 (by omega) ?_ | refine bd1 (by omega) ?_)
    exact ⟨fun z => k0 (by omega), fun z => ⟨fun z' => k0 (by omega), fun z' => k1 (by omega)⟩⟩
  · repeat (first | refine pk1 (by omega) ?_ | refine pk2 (by omega) ?_ | refine bd1 (by omega) ?_)
    exact ⟨fun z => k0 (by omega), fun z => ⟨fun z' => k0 (by omega), fun z' => k1 (by omega)⟩⟩
  · repeat (first | refine pk1 (by omega) ?_ | refine pk2 (by omega) ?_ | refine bd1 (by omega) ?_)
    exact ⟨fun z => k1 (by omega), fun z => ⟨fun z' => k0 (by omega), fun z' => k1 (by omega)⟩⟩
  · repeat (first | refine pk1 (by omega) ?_ | refine pk2 (by omega) ?_ | refine bd1 (by omega) ?_)
    exact ⟨fun z => k0 (by omega), fun z => k1 (by omega)⟩
theorem c_6 {di : tDi} {dl : tDl} {n i b q : Nat} (hn : n ≤ 47) (hl : di 3 2 = nI n) (hi : i < n) (hb : b ≤ 255) (hv : di 4 i = nI b) (hq : q ≤ 255) (hw : 0 < i → di 4 (i - 1) = nI q) {K : Int32 → tDi → tDl → Prop} (k1 : okD (i % 6) q b → K 1 di dl) (k0 : ¬ okD (i % 6) q b → K 0 di dl) : ClI 1 6 [.ref 3, .int (nI i)] di dl K := by
  refine r_6 (c_56t3 hn hl hi hv ?_)
  simp (disch := omega) only [true_imp_iff, false_imp_iff, not_true_eq_false, not_false_eq_true, and_true, true_and, Int32.reduceToInt, Int64.reduceToInt, Int32.reduceAdd, fa_lt, fa_le, fa_eq, cmi_lt, cmi_le, cmi_gt, cmi_ge, cmi_eq, fa_lt64, fa_le64, fa_eq64, Int32.toInt_toInt64, nI_toInt, ti_m1, sub1_ti, inB_iff, nI_clamp, Int32.add_zero, nI_1, nI_add, nI_p2, nI_p3, nI_p4, nI_p5, nI_p6, nI_p8, nI_p9, nI_p10, nI_m3, nI_m4, nI_m5, nI_m6, nI_m8, nI_m10, nI_m31, nI_m48, nI_m60, nI_m256, nI_t5, nI_t6, nI_a1, nI_a48, nI_a96, nI_d5, nI_d6, nI_d8, nI_d10, nI_d20, nI_s1, nI_s48, pk_sub]
  unfold okD at k1 k0
  rcases (by omega : i % 6 = 0 ∨ i % 6 = 1 ∨ i % 6 = 2 ∨ i % 6 = 3 ∨ i % 6 = 4 ∨ i % 6 = 5) with e | e | e | e | e | e
  · repeat (first | refine pk1 (by omega) ?_ | refine pk2 (by omega) ?_ | refine bd1 (by omega) ?_)
    exact ⟨fun z => k0 (by omega), fun z => ⟨fun z' => k0 (by omega), fun z' => k1 (by omega)⟩⟩
  · repeat (first | refine pk1 (by omega) ?_ | refine pk2 (by omega) ?_ | refine bd1 (by omega) ?_)
    refine ⟨fun z => k0 (by omega), fun z => ⟨fun z' => k0 (by omega), fun z' => ?_⟩⟩
    rw [nI_s1 (by omega)]
    refine c_56t3 hn hl (by omega) (hw (by omega)) ?_
    simp (disch := omega) only [true_imp_iff, false_imp_iff, not_true_eq_false, not_false_eq_true, and_true, true_and, Int32.reduceToInt, Int64.reduceToInt, Int32.reduceAdd, fa_lt, fa_le, fa_eq, cmi_lt, cmi_le, cmi_gt, cmi_ge, cmi_eq, fa_lt64, fa_le64, fa_eq64, Int32.toInt_toInt64, nI_toInt, ti_m1, sub1_ti, inB_iff, nI_clamp, Int32.add_zero, nI_1, nI_add, nI_p2, nI_p3, nI_p4, nI_p5, nI_p6, nI_p8, nI_p9, nI_p10, nI_m3, nI_m4, nI_m5, nI_m6, nI_m8, nI_m10, nI_m31, nI_m48, nI_m60, nI_m256, nI_t5, nI_t6, nI_a1, nI_a48, nI_a96, nI_d5, nI_d6, nI_d8, nI_d10, nI_d20, nI_s1, nI_s48, pk_sub]
    exact ⟨fun z => k0 (by omega), fun z => k1 (by omega)⟩
  · repeat (first | refine pk1 (by omega) ?_ | refine pk2 (by omega) ?_ | refine bd1 (by omega) ?_)
    exact ⟨fun z => k1 (by omega), fun z => ⟨fun z' => k1 (by omega), fun z' => ⟨fun z2 => k0 (by omega), fun z2 => k1 (by omega)⟩⟩⟩
  · repeat (first | refine pk1 (by omega) ?_ | refine pk2 (by omega) ?_ | refine bd1 (by omega) ?_)
    exact ⟨fun z => k0 (by omega), fun z => ⟨fun z' => k0 (by omega), fun z' => k1 (by omega)⟩⟩
  · repeat (first | refine pk1 (by omega) ?_ | refine pk2 (by omega) ?_ | refine bd1 (by omega) ?_)
    exact ⟨fun z => k0 (by omega), fun z => ⟨fun z' => k0 (by omega), fun z' => k1 (by omega)⟩⟩
  · repeat (first | refine pk1 (by omega) ?_ | refine pk2 (by omega) ?_ | refine bd1 (by omega) ?_)
    exact ⟨fun z => k0 (by omega), fun z => k1 (by omega)⟩
/-- months and their letters -/
def lM (v : Nat) : Nat := if v = 0 then 46 else if v = 1 then 114 else if v = 2 then 102 else if v = 3 then 115 else 109
theorem lM_of {b : Nat} (h : okM b) : ∃ v, v ≤ 4 ∧ b = lM v := by
  rcases h with h | h | h | h | h
  · exact ⟨0, by omega, h⟩
  · exact ⟨1, by omega, h⟩
  · exact ⟨2, by omega, h⟩
  · exact ⟨3, by omega, h⟩
  · exact ⟨4, by omega, h⟩
theorem c_35 {di : tDi} {dl : tDl} {n i v : Nat} (hn : n ≤ 24) (hl : di 5 2 = nI n) (hi : i < n) (hv : v ≤ 4) (hb : di 6 i = nI (lM v)) {K : Int32 → tDi → tDl → Prop} (kk : K (nI v) di dl) : ClI 1 35 [.ref 5, .int (nI i)] di dl K := by
  refine r_35 (c_56t5 (by omega) hl hi hb ?_)
  rcases (by omega : v = 0 ∨ v = 1 ∨ v = 2 ∨ v = 3 ∨ v = 4) with e | e | e | e | e
  · subst e
    exact pk1 (by decide) kk
  · subst e
    exact pk2 (by decide) (pk2 (by decide) (pk2 (by decide) (pk1 (by decide) kk)))
  · subst e
    exact pk2 (by decide) (pk1 (by decide) kk)
  · subst e
    exact pk2 (by decide) (pk2 (by decide) (pk2 (by decide) (pk2 (by decide) (pk1 (by decide) kk))))
  · subst e
    exact pk2 (by decide) (pk2 (by decide) (pk1 (by decide) kk))
theorem c_35n {di : tDi} {dl : tDl} {n i b : Nat} (hn : n ≤ 24) (hl : di 5 2 = nI n) (hi : i < n) (hb : b ≤ 255) (ho : ¬ okM b) (hv : di 6 i = nI b) {K : Int32 → tDi → tDl → Prop} (kk : K (-1) di dl) : ClI 1 35 [.ref 5, .int (nI i)] di dl K := by
  refine r_35 (c_56t5 (by omega) hl hi hv ?_)
  unfold okM at ho
  simp (disch := omega) only [true_imp_iff, false_imp_iff, not_true_eq_false, not_false_eq_true, and_true, true_and, Int32.reduceToInt, Int64.reduceToInt, Int32.reduceAdd, fa_lt, fa_le, fa_eq, cmi_lt, cmi_le, cmi_gt, cmi_ge, cmi_eq, fa_lt64, fa_le64, fa_eq64, Int32.toInt_toInt64, nI_toInt, ti_m1, sub1_ti, inB_iff, nI_clamp, Int32.add_zero, nI_1, nI_add, nI_p2, nI_p3, nI_p4, nI_p5, nI_p6, nI_p8, nI_p9, nI_p10, nI_m3, nI_m4, nI_m5, nI_m6, nI_m8, nI_m10, nI_m31, nI_m48, nI_m60, nI_m256, nI_t5, nI_t6, nI_a1, nI_a48, nI_a96, nI_d5, nI_d6, nI_d8, nI_d10, nI_d20, nI_s1, nI_s48, pk_sub]
  repeat (first | refine pk1 (by omega) ?_ | refine pk2 (by omega) ?_ | refine bd1 (by omega) ?_)
  exact kk
theorem c_33 {di : tDi} {dl : tDl} {n i b : Nat} (hn : n ≤ 24) (hl : di 5 2 = nI n) (hi : i < n) (hb : b ≤ 255) (hv : di 6 i = nI b) {K : Int32 → tDi → tDl → Prop} (k1 : okM b → K 1 di dl) (k0 : ¬ okM b → K 0 di dl) : ClI 2 33 [.ref 5, .int (nI i)] di dl K := by
  by_cases h : okM b
  · obtain ⟨v, hv4, e⟩ := lM_of h
    subst e
    refine r_33 (c_35 hn hl hi hv4 hv ?_)
    simp (disch := omega) only [true_imp_iff, false_imp_iff, not_true_eq_false, not_false_eq_true, and_true, true_and, Int32.reduceToInt, Int64.reduceToInt, Int32.reduceAdd, fa_lt, fa_le, fa_eq, cmi_lt, cmi_le, cmi_gt, cmi_ge, cmi_eq, fa_lt64, fa_le64, fa_eq64, Int32.toInt_toInt64, nI_toInt, ti_m1, sub1_ti, inB_iff, nI_clamp, Int32.add_zero, nI_1, nI_add, nI_p2, nI_p3, nI_p4, nI_p5, nI_p6, nI_p8, nI_p9, nI_p10, nI_m3, nI_m4, nI_m5, nI_m6, nI_m8, nI_m10, nI_m31, nI_m48, nI_m60, nI_m256, nI_t5, nI_t6, nI_a1, nI_a48, nI_a96, nI_d5, nI_d6, nI_d8, nI_d10, nI_d20, nI_s1, nI_s48, pk_sub]
    repeat (first | refine pk1 (by omega) ?_ | refine pk2 (by omega) ?_ | refine bd1 (by omega) ?_)
    exact k1 h
  · refine r_33 (c_35n hn hl hi hb h hv ?_)
    exact ⟨fun _ => k0 h, fun z => absurd rfl z⟩
theorem c_46 {di : tDi} {dl : tDl} {n : Nat} (hn : n ≤ 47) (hl : di 1 2 = nI n) {K : Int32 → tDi → tDl → Prop} (k1 : end5 n → K (nI ((n + 1) / 5)) di dl) (k0 : ¬ end5 n → K (-1) di dl) : ClI 0 46 [.ref 1] di dl K := by
  refine r_46 ?_
  unfold end5 at k1 k0
  simp (disch := omega) only [true_imp_iff, false_imp_iff, not_true_eq_false, not_false_eq_true, and_true, true_and, Int32.reduceToInt, Int64.reduceToInt, Int32.reduceAdd, fa_lt, fa_le, fa_eq, cmi_lt, cmi_le, cmi_gt, cmi_ge, cmi_eq, fa_lt64, fa_le64, fa_eq64, Int32.toInt_toInt64, nI_toInt, ti_m1, sub1_ti, inB_iff, nI_clamp, Int32.add_zero, nI_1, nI_add, nI_p2, nI_p3, nI_p4, nI_p5, nI_p6, nI_p8, nI_p9, nI_p10, nI_m3, nI_m4, nI_m5, nI_m6, nI_m8, nI_m10, nI_m31, nI_m48, nI_m60, nI_m256, nI_t5, nI_t6, nI_a1, nI_a48, nI_a96, nI_d5, nI_d6, nI_d8, nI_d10, nI_d20, nI_s1, nI_s48, pk_sub, hl]
  exact ⟨fun z => k1 (by omega), fun z => ⟨fun z => k0 (by omega), fun z => k1 (by omega)⟩⟩
theorem c_7 {di : tDi} {dl : tDl} {n : Nat} (hn : n ≤ 47) (hl : di 3 2 = nI n) {K : Int32 → tDi → tDl → Prop} (k1 : end6 n → K (nI ((n + 1) / 6)) di dl) (k0 : ¬ end6 n → K (-1) di dl) : ClI 0 7 [.ref 3] di dl K := by
  refine r_7 ?_
  unfold end6 at k1 k0
  simp (disch := omega) only [true_imp_iff, false_imp_iff, not_true_eq_false, not_false_eq_true, and_true, true_and, Int32.reduceToInt, Int64.reduceToInt, Int32.reduceAdd, fa_lt, fa_le, fa_eq, cmi_lt, cmi_le, cmi_gt, cmi_ge, cmi_eq, fa_lt64, fa_le64, fa_eq64, Int32.toInt_toInt64, nI_toInt, ti_m1, sub1_ti, inB_iff, nI_clamp, Int32.add_zero, nI_1, nI_add, nI_p2, nI_p3, nI_p4, nI_p5, nI_p6, nI_p8, nI_p9, nI_p10, nI_m3, nI_m4, nI_m5, nI_m6, nI_m8, nI_m10, nI_m31, nI_m48, nI_m60, nI_m256, nI_t5, nI_t6, nI_a1, nI_a48, nI_a96, nI_d5, nI_d6, nI_d8, nI_d10, nI_d20, nI_s1, nI_s48, pk_sub, hl]
  exact ⟨fun z => k1 (by omega), fun z => ⟨fun z => k0 (by omega), fun z => k1 (by omega)⟩⟩
theorem c_58S {di : tDi} {dl : tDl} {n : Nat} {f : Nat → Nat} (hn : n ≤ 39) (hl : di 1 2 = nI n) (hb : ∀ i, i < n → f i ≤ 255 ∧ di 2 i = nI (f i)) {K : tDi → tDl → Prop} (kk : ∀ d x r m, FF (oS f) n x → ftS n x r m → d 1 3 = r → d 1 4 = nI m → (∀ b k, ¬ (b = 1 ∧ (k = 3 ∨ k = 4)) → d b k = di b k) → K d dl) : ClV 3 58 [.ref 1] di dl K := by
  refine r_58t1 ?_
  have fin : ∀ x r m, FF (oS f) n x → ftS n x r m → K (up2 (up2 (up2 di 1 3 (-1)) 1 3 r) 1 4 (nI m)) dl := by
    intro x r m h1 h2
    refine kk _ x r m h1 h2 (by simp (disch := omega) only [up_eq, up_na, up_nk]) (by simp (disch := omega) only [up_eq, up_na, up_nk]) ?_
    intro b k h
    unfold up2
    rw [if_neg (by omega), if_neg (by omega), if_neg (by omega)]
  have same : up2 (up2 di 1 3 (-1)) 1 3 (-1) = up2 di 1 3 (-1) := by
    funext b k
    unfold up2
    by_cases h : b = 1 ∧ k = 3
    · rw [if_pos h, if_pos h]
    · rw [if_neg h]
  have A : (∀ i, i < n → oS f i) → Wq none 3 58 7 [(0, .ref 1), (1, .int (nI n))] [] (up2 di 1 3 (-1)) dl (RV K) := by
    intro ho
    have hF : FF (oS f) n n := ⟨Nat.le_refl _, ho, fun z => absurd z (by omega)⟩
    refine r_58t1_7 ?_
    simp (disch := omega) only [true_imp_iff, false_imp_iff, not_true_eq_false, not_false_eq_true, and_true, true_and, Int32.reduceToInt, Int64.reduceToInt, Int32.reduceAdd, fa_lt, fa_le, fa_eq, cmi_lt, cmi_le, cmi_gt, cmi_ge, cmi_eq, fa_lt64, fa_le64, fa_eq64, Int32.toInt_toInt64, nI_toInt, ti_m1, sub1_ti, inB_iff, nI_clamp, Int32.add_zero, nI_1, nI_add, nI_p2, nI_p3, nI_p4, nI_p5, nI_p6, nI_p8, nI_p9, nI_p10, nI_m3, nI_m4, nI_m5, nI_m6, nI_m8, nI_m10, nI_m31, nI_m48, nI_m60, nI_m256, nI_t5, nI_t6, nI_a1, nI_a48, nI_a96, nI_d5, nI_d6, nI_d8, nI_d10, nI_d20, nI_s1, nI_s48, pk_sub, up_eq, up_na, up_nk, hl]
    repeat (first | refine pk1 (by omega) ?_ | refine pk2 (by omega) ?_ | refine bd1 (by omega) ?_)
    refine c_46 (n := n) (by omega) (by simp (disch := omega) only [up_eq, up_na, up_nk]; exact hl) (fun he => ?_) (fun he => ?_)
    · have := fin n (-1) ((n + 1) / 5) hF (Or.inr (Or.inl ⟨rfl, he, rfl, rfl⟩))
      rw [same] at this
      simp (disch := omega) only [true_imp_iff, false_imp_iff, not_true_eq_false, not_false_eq_true, and_true, true_and, Int32.reduceToInt, Int64.reduceToInt, Int32.reduceAdd, fa_lt, fa_le, fa_eq, cmi_lt, cmi_le, cmi_gt, cmi_ge, cmi_eq, fa_lt64, fa_le64, fa_eq64, Int32.toInt_toInt64, nI_toInt, ti_m1, sub1_ti, inB_iff, nI_clamp, Int32.add_zero, nI_1, nI_add, nI_p2, nI_p3, nI_p4, nI_p5, nI_p6, nI_p8, nI_p9, nI_p10, nI_m3, nI_m4, nI_m5, nI_m6, nI_m8, nI_m10, nI_m31, nI_m48, nI_m60, nI_m256, nI_t5, nI_t6, nI_a1, nI_a48, nI_a96, nI_d5, nI_d6, nI_d8, nI_d10, nI_d20, nI_s1, nI_s48, pk_sub, up_eq, up_na, up_nk]
      repeat (first | refine pk1 (by omega) ?_ | refine pk2 (by omega) ?_ | refine bd1 (by omega) ?_)
      exact this
    · have := fin n (nI n) 0 hF (Or.inr (Or.inr ⟨rfl, he, rfl, rfl⟩))
      simp (disch := omega) only [true_imp_iff, false_imp_iff, not_true_eq_false, not_false_eq_true, and_true, true_and, Int32.reduceToInt, Int64.reduceToInt, Int32.reduceAdd, fa_lt, fa_le, fa_eq, cmi_lt, cmi_le, cmi_gt, cmi_ge, cmi_eq, fa_lt64, fa_le64, fa_eq64, Int32.toInt_toInt64, nI_toInt, ti_m1, sub1_ti, inB_iff, nI_clamp, Int32.add_zero, nI_1, nI_add, nI_p2, nI_p3, nI_p4, nI_p5, nI_p6, nI_p8, nI_p9, nI_p10, nI_m3, nI_m4, nI_m5, nI_m6, nI_m8, nI_m10, nI_m31, nI_m48, nI_m60, nI_m256, nI_t5, nI_t6, nI_a1, nI_a48, nI_a96, nI_d5, nI_d6, nI_d8, nI_d10, nI_d20, nI_s1, nI_s48, pk_sub, up_eq, up_na, up_nk, hl]
      repeat (first | refine pk1 (by omega) ?_ | refine pk2 (by omega) ?_ | refine bd1 (by omega) ?_)
      exact this
  have B : ∀ x, x < n → FF (oS f) n x → Wq none 3 58 7 [(0, .ref 1), (1, .int (nI (x + 1)))] [] (up2 (up2 di 1 3 (-1)) 1 3 (nI x)) dl (RV K) := by
    intro x hx hF
    have := fin x (nI x) 0 hF (Or.inl ⟨hx, rfl, rfl⟩)
    have C : ClI 0 46 [.ref 1] (up2 (up2 di 1 3 (-1)) 1 3 (nI x)) dl (fun _ d e => d = up2 (up2 di 1 3 (-1)) 1 3 (nI x) ∧ e = dl) := c_46 (n := n) (by omega) (by simp (disch := omega) only [up_eq, up_na, up_nk]; exact hl) (fun _ => ⟨rfl, rfl⟩) (fun _ => ⟨rfl, rfl⟩)
    refine r_58t1_7 ⟨fun _ => ?_, fun _ => pk1 ?_ ?_⟩
    · refine ClI_mono C ?_
      rintro r d e ⟨rfl, rfl⟩
      simp (disch := omega) only [true_imp_iff, false_imp_iff, not_true_eq_false, not_false_eq_true, and_true, true_and, Int32.reduceToInt, Int64.reduceToInt, Int32.reduceAdd, fa_lt, fa_le, fa_eq, cmi_lt, cmi_le, cmi_gt, cmi_ge, cmi_eq, fa_lt64, fa_le64, fa_eq64, Int32.toInt_toInt64, nI_toInt, ti_m1, sub1_ti, inB_iff, nI_clamp, Int32.add_zero, nI_1, nI_add, nI_p2, nI_p3, nI_p4, nI_p5, nI_p6, nI_p8, nI_p9, nI_p10, nI_m3, nI_m4, nI_m5, nI_m6, nI_m8, nI_m10, nI_m31, nI_m48, nI_m60, nI_m256, nI_t5, nI_t6, nI_a1, nI_a48, nI_a96, nI_d5, nI_d6, nI_d8, nI_d10, nI_d20, nI_s1, nI_s48, pk_sub, up_eq, up_na, up_nk]
      repeat (first | refine pk1 (by omega) ?_ | refine pk2 (by omega) ?_ | refine bd1 (by omega) ?_)
      exact this
    · simp (disch := omega) only [true_imp_iff, false_imp_iff, not_true_eq_false, not_false_eq_true, and_true, true_and, Int32.reduceToInt, Int64.reduceToInt, Int32.reduceAdd, fa_lt, fa_le, fa_eq, cmi_lt, cmi_le, cmi_gt, cmi_ge, cmi_eq, fa_lt64, fa_le64, fa_eq64, Int32.toInt_toInt64, nI_toInt, ti_m1, sub1_ti, inB_iff, nI_clamp, Int32.add_zero, nI_1, nI_add, nI_p2, nI_p3, nI_p4, nI_p5, nI_p6, nI_p8, nI_p9, nI_p10, nI_m3, nI_m4, nI_m5, nI_m6, nI_m8, nI_m10, nI_m31, nI_m48, nI_m60, nI_m256, nI_t5, nI_t6, nI_a1, nI_a48, nI_a96, nI_d5, nI_d6, nI_d8, nI_d10, nI_d20, nI_s1, nI_s48, pk_sub, up_eq, up_na, up_nk]
      omega
    · refine ClI_mono C ?_
      rintro r d e ⟨rfl, rfl⟩
      simp (disch := omega) only [true_imp_iff, false_imp_iff, not_true_eq_false, not_false_eq_true, and_true, true_and, Int32.reduceToInt, Int64.reduceToInt, Int32.reduceAdd, fa_lt, fa_le, fa_eq, cmi_lt, cmi_le, cmi_gt, cmi_ge, cmi_eq, fa_lt64, fa_le64, fa_eq64, Int32.toInt_toInt64, nI_toInt, ti_m1, sub1_ti, inB_iff, nI_clamp, Int32.add_zero, nI_1, nI_add, nI_p2, nI_p3, nI_p4, nI_p5, nI_p6, nI_p8, nI_p9, nI_p10, nI_m3, nI_m4, nI_m5, nI_m6, nI_m8, nI_m10, nI_m31, nI_m48, nI_m60, nI_m256, nI_t5, nI_t6, nI_a1, nI_a48, nI_a96, nI_d5, nI_d6, nI_d8, nI_d10, nI_d20, nI_s1, nI_s48, pk_sub, up_eq, up_na, up_nk]
      repeat (first | refine pk1 (by omega) ?_ | refine pk2 (by omega) ?_ | refine bd1 (by omega) ?_)
      exact this
  refine up_to (n := n) (G := fun i => (∀ j, j < i → oS f j) → Wq none 3 58 7 [(0, .ref 1), (1, .int (nI i))] [] (up2 di 1 3 (-1)) dl (RV K)) A ?_ (Nat.zero_le n) (fun j hj => absurd hj (Nat.not_lt_zero j))
  intro i hi ih ho
  refine r_58t1_7 ?_
  simp (disch := omega) only [true_imp_iff, false_imp_iff, not_true_eq_false, not_false_eq_true, and_true, true_and, Int32.reduceToInt, Int64.reduceToInt, Int32.reduceAdd, fa_lt, fa_le, fa_eq, cmi_lt, cmi_le, cmi_gt, cmi_ge, cmi_eq, fa_lt64, fa_le64, fa_eq64, Int32.toInt_toInt64, nI_toInt, ti_m1, sub1_ti, inB_iff, nI_clamp, Int32.add_zero, nI_1, nI_add, nI_p2, nI_p3, nI_p4, nI_p5, nI_p6, nI_p8, nI_p9, nI_p10, nI_m3, nI_m4, nI_m5, nI_m6, nI_m8, nI_m10, nI_m31, nI_m48, nI_m60, nI_m256, nI_t5, nI_t6, nI_a1, nI_a48, nI_a96, nI_d5, nI_d6, nI_d8, nI_d10, nI_d20, nI_s1, nI_s48, pk_sub, up_eq, up_na, up_nk, hl]
  repeat (first | refine pk1 (by omega) ?_ | refine pk2 (by omega) ?_ | refine bd1 (by omega) ?_)
  refine c_45 hn (by simp (disch := omega) only [up_eq, up_na, up_nk]; exact hl) hi (hb i hi).1 (by simp (disch := omega) only [up_eq, up_na, up_nk]; exact (hb i hi).2) (fun h => ?_) (fun h => ?_)
  · refine pk1 (by decide) (ih ?_)
    intro j hj
    rcases Nat.lt_succ_iff_lt_or_eq.mp hj with z | z
    · exact ho j z
    · subst z
      exact h
  · refine pk2 (by decide) (B i hi ⟨by omega, ho, fun _ => h⟩)
theorem c_58C {di : tDi} {dl : tDl} {n : Nat} {f : Nat → Nat} (hn : n ≤ 47) (hl : di 3 2 = nI n) (hb : ∀ i, i < n → f i ≤ 255 ∧ di 4 i = nI (f i)) {K : tDi → tDl → Prop} (kk : ∀ d x r m, FF (oC f) n x → ftC n x r m → d 3 3 = r → d 3 4 = nI m → (∀ b k, ¬ (b = 3 ∧ (k = 3 ∨ k = 4)) → d b k = di b k) → K d dl) : ClV 3 58 [.ref 3] di dl K := by
  refine r_58t3 ?_
  have fin : ∀ x r m, FF (oC f) n x → ftC n x r m → K (up2 (up2 (up2 di 3 3 (-1)) 3 3 r) 3 4 (nI m)) dl := by
    intro x r m h1 h2
    refine kk _ x r m h1 h2 (by simp (disch := omega) only [up_eq, up_na, up_nk]) (by simp (disch := omega) only [up_eq, up_na, up_nk]) ?_
    intro b k h
    unfold up2
    rw [if_neg (by omega), if_neg (by omega), if_neg (by omega)]
  have same : up2 (up2 di 3 3 (-1)) 3 3 (-1) = up2 di 3 3 (-1) := by
    funext b k
    unfold up2
    by_cases h : b = 3 ∧ k = 3
    · rw [if_pos h, if_pos h]
    · rw [if_neg h]
  have A : (∀ i, i < n → oC f i) → Wq none 3 58 7 [(0, .ref 3), (1, .int (nI n))] [] (up2 di 3 3 (-1)) dl (RV K) := by
    intro ho
    have hF : FF (oC f) n n := ⟨Nat.le_refl _, ho, fun z => absurd z (by omega)⟩
    refine r_58t3_7 ?_
    simp (disch := omega) only [true_imp_iff, false_imp_iff, not_true_eq_false, not_false_eq_true, and_true, true_and, Int32.reduceToInt, Int64.reduceToInt, Int32.reduceAdd, fa_lt, fa_le, fa_eq, cmi_lt, cmi_le, cmi_gt, cmi_ge, cmi_eq, fa_lt64, fa_le64, fa_eq64, Int32.toInt_toInt64, nI_toInt, ti_m1, sub1_ti, inB_iff, nI_clamp, Int32.add_zero, nI_1, nI_add, nI_p2, nI_p3, nI_p4, nI_p5, nI_p6, nI_p8, nI_p9, nI_p10, nI_m3, nI_m4, nI_m5, nI_m6, nI_m8, nI_m10, nI_m31, nI_m48, nI_m60, nI_m256, nI_t5, nI_t6, nI_a1, nI_a48, nI_a96, nI_d5, nI_d6, nI_d8, nI_d10, nI_d20, nI_s1, nI_s48, pk_sub, up_eq, up_na, up_nk, hl]
    repeat (first | refine pk1 (by omega) ?_ | refine pk2 (by omega) ?_ | refine bd1 (by omega) ?_)
    refine c_7 (n := n) (by omega) (by simp (disch := omega) only [up_eq, up_na, up_nk]; exact hl) (fun he => ?_) (fun he => ?_)
    · have := fin n (-1) ((n + 1) / 6) hF (Or.inr (Or.inl ⟨rfl, he, rfl, rfl⟩))
      rw [same] at this
      simp (disch := omega) only [true_imp_iff, false_imp_iff, not_true_eq_false, not_false_eq_true, and_true, true_and, Int32.reduceToInt, Int64.reduceToInt, Int32.reduceAdd, fa_lt, fa_le, fa_eq, cmi_lt, cmi_le, cmi_gt, cmi_ge, cmi_eq, fa_lt64, fa_le64, fa_eq64, Int32.toInt_toInt64, nI_toInt, ti_m1, sub1_ti, inB_iff, nI_clamp, Int32.add_zero, nI_1, nI_add, nI_p2, nI_p3, nI_p4, nI_p5, nI_p6, nI_p8, nI_p9, nI_p10, nI_m3, nI_m4, nI_m5, nI_m6, nI_m8, nI_m10, nI_m31, nI_m48, nI_m60, nI_m256, nI_t5, nI_t6, nI_a1, nI_a48, nI_a96, nI_d5, nI_d6, nI_d8, nI_d10, nI_d20, nI_s1, nI_s48, pk_sub, up_eq, up_na, up_nk]
      repeat (first | refine pk1 (by omega) ?_ | refine pk2 (by omega) ?_ | refine bd1 (by omega) ?_)
      exact this
    · have := fin n (nI n) 0 hF (Or.inr (Or.inr ⟨rfl, he, rfl, rfl⟩))
      simp (disch := omega) only [true_imp_iff, false_imp_iff, not_true_eq_false, not_false_eq_true, and_true, true_and, Int32.reduceToInt, Int64.reduceToInt, Int32.reduceAdd, fa_lt, fa_le, fa_eq, cmi_lt, cmi_le, cmi_gt, cmi_ge, cmi_eq, fa_lt64, fa_le64, fa_eq64, Int32.toInt_toInt64, nI_toInt, ti_m1, sub1_ti, inB_iff, nI_clamp, Int32.add_zero, nI_1, nI_add, nI_p2, nI_p3, nI_p4, nI_p5, nI_p6, nI_p8, nI_p9, nI_p10, nI_m3, nI_m4, nI_m5, nI_m6, nI_m8, nI_m10, nI_m31, nI_m48, nI_m60, nI_m256, nI_t5, nI_t6, nI_a1, nI_a48, nI_a96, nI_d5, nI_d6, nI_d8, nI_d10, nI_d20, nI_s1, nI_s48, pk_sub, up_eq, up_na, up_nk, hl]
      repeat (first | refine pk1 (by omega) ?_ | refine pk2 (by omega) ?_ | refine bd1 (by omega) ?_)
      exact this
  have B : ∀ x, x < n → FF (oC f) n x → Wq none 3 58 7 [(0, .ref 3), (1, .int (nI (x + 1)))] [] (up2 (up2 di 3 3 (-1)) 3 3 (nI x)) dl (RV K) := by
    intro x hx hF
    have := fin x (nI x) 0 hF (Or.inl ⟨hx, rfl, rfl⟩)
    have C : ClI 0 7 [.ref 3] (up2 (up2 di 3 3 (-1)) 3 3 (nI x)) dl (fun _ d e => d = up2 (up2 di 3 3 (-1)) 3 3 (nI x) ∧ e = dl) := c_7 (n := n) (by omega) (by simp (disch := omega) only [up_eq, up_na, up_nk]; exact hl) (fun _ => ⟨rfl, rfl⟩) (fun _ => ⟨rfl, rfl⟩)
    refine r_58t3_7 ⟨fun _ => ?_, fun _ => pk1 ?_ ?_⟩
    · refine ClI_mono C ?_
      rintro r d e ⟨rfl, rfl⟩
      simp (disch := omega) only [true_imp_iff, false_imp_iff, not_true_eq_false, not_false_eq_true, and_true, true_and, Int32.reduceToInt, Int64.reduceToInt, Int32.reduceAdd, fa_lt, fa_le, fa_eq, cmi_lt, cmi_le, cmi_gt, cmi_ge, cmi_eq, fa_lt64, fa_le64, fa_eq64, Int32.toInt_toInt64, nI_toInt, ti_m1, sub1_ti, inB_iff, nI_clamp, Int32.add_zero, nI_1, nI_add, nI_p2, nI_p3, nI_p4, nI_p5, nI_p6, nI_p8, nI_p9, nI_p10, nI_m3, nI_m4, nI_m5, nI_m6, nI_m8, nI_m10, nI_m31, nI_m48, nI_m60, nI_m256, nI_t5, nI_t6, nI_a1, nI_a48, nI_a96, nI_d5, nI_d6, nI_d8, nI_d10, nI_d20, nI_s1, nI_s48, pk_sub, up_eq, up_na, up_nk]
      repeat (first | refine pk1 (by omega) ?_ | refine pk2 (by omega) ?_ | refine bd1 (by omega) ?_)
      exact this
    · simp (disch := omega) only [true_imp_iff, false_imp_iff, not_true_eq_false, not_false_eq_true, and_true, true_and, Int32.reduceToInt, Int64.reduceToInt, Int32.reduceAdd, fa_lt, fa_le, fa_eq, cmi_lt, cmi_le, cmi_gt, cmi_ge, cmi_eq, fa_lt64, fa_le64, fa_eq64, Int32.toInt_toInt64, nI_toInt, ti_m1, sub1_ti, inB_iff, nI_clamp, Int32.add_zero, nI_1, nI_add, nI_p2, nI_p3, nI_p4, nI_p5, nI_p6, nI_p8, nI_p9, nI_p10, nI_m3, nI_m4, nI_m5, nI_m6, nI_m8, nI_m10, nI_m31, nI_m48, nI_m60, nI_m256, nI_t5, nI_t6, nI_a1, nI_a48, nI_a96, nI_d5, nI_d6, nI_d8, nI_d10, nI_d20, nI_s1, nI_s48, pk_sub, up_eq, up_na, up_nk]
      omega
    · refine ClI_mono C ?_
      rintro r d e ⟨rfl, rfl⟩
      simp (disch := omega) only [true_imp_iff, false_imp_iff, not_true_eq_false, not_false_eq_true, and_true, true_and, Int32.reduceToInt, Int64.reduceToInt, Int32.reduceAdd, fa_lt, fa_le, fa_eq, cmi_lt, cmi_le, cmi_gt, cmi_ge, cmi_eq, fa_lt64, fa_le64, fa_eq64, Int32.toInt_toInt64, nI_toInt, ti_m1, sub1_ti, inB_iff, nI_clamp, Int32.add_zero, nI_1, nI_add, nI_p2, nI_p3, nI_p4, nI_p5, nI_p6, nI_p8, nI_p9, nI_p10, nI_m3, nI_m4, nI_m5, nI_m6, nI_m8, nI_m10, nI_m31, nI_m48, nI_m60, nI_m256, nI_t5, nI_t6, nI_a1, nI_a48, nI_a96, nI_d5, nI_d6, nI_d8, nI_d10, nI_d20, nI_s1, nI_s48, pk_sub, up_eq, up_na, up_nk]
      repeat (first | refine pk1 (by omega) ?_ | refine pk2 (by omega) ?_ | refine bd1 (by omega) ?_)
      exact this
  refine up_to (n := n) (G := fun i => (∀ j, j < i → oC f j) → Wq none 3 58 7 [(0, .ref 3), (1, .int (nI i))] [] (up2 di 3 3 (-1)) dl (RV K)) A ?_ (Nat.zero_le n) (fun j hj => absurd hj (Nat.not_lt_zero j))
  intro i hi ih ho
  refine r_58t3_7 ?_
  simp (disch := omega) only [true_imp_iff, false_imp_iff, not_true_eq_false, not_false_eq_true, and_true, true_and, Int32.reduceToInt, Int64.reduceToInt, Int32.reduceAdd, fa_lt, fa_le, fa_eq, cmi_lt, cmi_le, cmi_gt, cmi_ge, cmi_eq, fa_lt64, fa_le64, fa_eq64, Int32.toInt_toInt64, nI_toInt, ti_m1, sub1_ti, inB_iff, nI_clamp, Int32.add_zero, nI_1, nI_add, nI_p2, nI_p3, nI_p4, nI_p5, nI_p6, nI_p8, nI_p9, nI_p10, nI_m3, nI_m4, nI_m5, nI_m6, nI_m8, nI_m10, nI_m31, nI_m48, nI_m60, nI_m256, nI_t5, nI_t6, nI_a1, nI_a48, nI_a96, nI_d5, nI_d6, nI_d8, nI_d10, nI_d20, nI_s1, nI_s48, pk_sub, up_eq, up_na, up_nk, hl]
  repeat (first | refine pk1 (by omega) ?_ | refine pk2 (by omega) ?_ | refine bd1 (by omega) ?_)
  refine c_6 hn (by simp (disch := omega) only [up_eq, up_na, up_nk]; exact hl) hi (hb i hi).1 (by simp (disch := omega) only [up_eq, up_na, up_nk]; exact (hb i hi).2) (hb (i - 1) (by omega)).1 (fun _ => by simp (disch := omega) only [up_eq, up_na, up_nk]; exact (hb (i - 1) (by omega)).2) (fun h => ?_) (fun h => ?_)
  · refine pk1 (by decide) (ih ?_)
    intro j hj
    rcases Nat.lt_succ_iff_lt_or_eq.mp hj with z | z
    · exact ho j z
    · subst z
      exact h
  · refine pk2 (by decide) (B i hi ⟨by omega, ho, fun _ => h⟩)
theorem c_58M {di : tDi} {dl : tDl} {n : Nat} {f : Nat → Nat} (hn : n ≤ 24) (hl : di 5 2 = nI n) (hb : ∀ i, i < n → f i ≤ 255 ∧ di 6 i = nI (f i)) {K : tDi → tDl → Prop} (kk : ∀ d x r m, FF (oM f) n x → ftM n x r m → d 5 3 = r → d 5 4 = nI m → (∀ b k, ¬ (b = 5 ∧ (k = 3 ∨ k = 4)) → d b k = di b k) → K d dl) : ClV 3 58 [.ref 5] di dl K := by
  refine r_58t5 ?_
  have fin : ∀ x r m, FF (oM f) n x → ftM n x r m → K (up2 (up2 (up2 di 5 3 (-1)) 5 3 r) 5 4 (nI m)) dl := by
    intro x r m h1 h2
    refine kk _ x r m h1 h2 (by simp (disch := omega) only [up_eq, up_na, up_nk]) (by simp (disch := omega) only [up_eq, up_na, up_nk]) ?_
    intro b k h
    unfold up2
    rw [if_neg (by omega), if_neg (by omega), if_neg (by omega)]
  have same : up2 (up2 di 5 3 (-1)) 5 3 (-1) = up2 di 5 3 (-1) := by
    funext b k
    unfold up2
    by_cases h : b = 5 ∧ k = 3
    · rw [if_pos h, if_pos h]
    · rw [if_neg h]
  have A : (∀ i, i < n → oM f i) → Wq none 3 58 7 [(0, .ref 5), (1, .int (nI n))] [] (up2 di 5 3 (-1)) dl (RV K) := by
    intro ho
    have hF : FF (oM f) n n := ⟨Nat.le_refl _, ho, fun z => absurd z (by omega)⟩
    refine r_58t5_7 ?_
    simp (disch := omega) only [true_imp_iff, false_imp_iff, not_true_eq_false, not_false_eq_true, and_true, true_and, Int32.reduceToInt, Int64.reduceToInt, Int32.reduceAdd, fa_lt, fa_le, fa_eq, cmi_lt, cmi_le, cmi_gt, cmi_ge, cmi_eq, fa_lt64, fa_le64, fa_eq64, Int32.toInt_toInt64, nI_toInt, ti_m1, sub1_ti, inB_iff, nI_clamp, Int32.add_zero, nI_1, nI_add, nI_p2, nI_p3, nI_p4, nI_p5, nI_p6, nI_p8, nI_p9, nI_p10, nI_m3, nI_m4, nI_m5, nI_m6, nI_m8, nI_m10, nI_m31, nI_m48, nI_m60, nI_m256, nI_t5, nI_t6, nI_a1, nI_a48, nI_a96, nI_d5, nI_d6, nI_d8, nI_d10, nI_d20, nI_s1, nI_s48, pk_sub, up_eq, up_na, up_nk, hl]
    repeat (first | refine pk1 (by omega) ?_ | refine pk2 (by omega) ?_ | refine bd1 (by omega) ?_)
    refine r_34 ?_
    have := fin n (-1) n hF (Or.inr ⟨rfl, rfl, rfl⟩)
    rw [same] at this
    simp (disch := omega) only [true_imp_iff, false_imp_iff, not_true_eq_false, not_false_eq_true, and_true, true_and, Int32.reduceToInt, Int64.reduceToInt, Int32.reduceAdd, fa_lt, fa_le, fa_eq, cmi_lt, cmi_le, cmi_gt, cmi_ge, cmi_eq, fa_lt64, fa_le64, fa_eq64, Int32.toInt_toInt64, nI_toInt, ti_m1, sub1_ti, inB_iff, nI_clamp, Int32.add_zero, nI_1, nI_add, nI_p2, nI_p3, nI_p4, nI_p5, nI_p6, nI_p8, nI_p9, nI_p10, nI_m3, nI_m4, nI_m5, nI_m6, nI_m8, nI_m10, nI_m31, nI_m48, nI_m60, nI_m256, nI_t5, nI_t6, nI_a1, nI_a48, nI_a96, nI_d5, nI_d6, nI_d8, nI_d10, nI_d20, nI_s1, nI_s48, pk_sub, up_eq, up_na, up_nk, hl]
    repeat (first | refine pk1 (by omega) ?_ | refine pk2 (by omega) ?_ | refine bd1 (by omega) ?_)
    exact this
  have B : ∀ x, x < n → FF (oM f) n x → Wq none 3 58 7 [(0, .ref 5), (1, .int (nI (x + 1)))] [] (up2 (up2 di 5 3 (-1)) 5 3 (nI x)) dl (RV K) := by
    intro x hx hF
    have := fin x (nI x) 0 hF (Or.inl ⟨hx, rfl, rfl⟩)
    refine r_58t5_7 ⟨fun _ => r_34 ?_, fun _ => pk1 ?_ (r_34 ?_)⟩
    · simp (disch := omega) only [true_imp_iff, false_imp_iff, not_true_eq_false, not_false_eq_true, and_true, true_and, Int32.reduceToInt, Int64.reduceToInt, Int32.reduceAdd, fa_lt, fa_le, fa_eq, cmi_lt, cmi_le, cmi_gt, cmi_ge, cmi_eq, fa_lt64, fa_le64, fa_eq64, Int32.toInt_toInt64, nI_toInt, ti_m1, sub1_ti, inB_iff, nI_clamp, Int32.add_zero, nI_1, nI_add, nI_p2, nI_p3, nI_p4, nI_p5, nI_p6, nI_p8, nI_p9, nI_p10, nI_m3, nI_m4, nI_m5, nI_m6, nI_m8, nI_m10, nI_m31, nI_m48, nI_m60, nI_m256, nI_t5, nI_t6, nI_a1, nI_a48, nI_a96, nI_d5, nI_d6, nI_d8, nI_d10, nI_d20, nI_s1, nI_s48, pk_sub, up_eq, up_na, up_nk]
      repeat (first | refine pk1 (by omega) ?_ | refine pk2 (by omega) ?_ | refine bd1 (by omega) ?_)
      exact this
    · simp (disch := omega) only [true_imp_iff, false_imp_iff, not_true_eq_false, not_false_eq_true, and_true, true_and, Int32.reduceToInt, Int64.reduceToInt, Int32.reduceAdd, fa_lt, fa_le, fa_eq, cmi_lt, cmi_le, cmi_gt, cmi_ge, cmi_eq, fa_lt64, fa_le64, fa_eq64, Int32.toInt_toInt64, nI_toInt, ti_m1, sub1_ti, inB_iff, nI_clamp, Int32.add_zero, nI_1, nI_add, nI_p2, nI_p3, nI_p4, nI_p5, nI_p6, nI_p8, nI_p9, nI_p10, nI_m3, nI_m4, nI_m5, nI_m6, nI_m8, nI_m10, nI_m31, nI_m48, nI_m60, nI_m256, nI_t5, nI_t6, nI_a1, nI_a48, nI_a96, nI_d5, nI_d6, nI_d8, nI_d10, nI_d20, nI_s1, nI_s48, pk_sub, up_eq, up_na, up_nk]
      omega
    · simp (disch := omega) only [true_imp_iff, false_imp_iff, not_true_eq_false, not_false_eq_true, and_true, true_and, Int32.reduceToInt, Int64.reduceToInt, Int32.reduceAdd, fa_lt, fa_le, fa_eq, cmi_lt, cmi_le, cmi_gt, cmi_ge, cmi_eq, fa_lt64, fa_le64, fa_eq64, Int32.toInt_toInt64, nI_toInt, ti_m1, sub1_ti, inB_iff, nI_clamp, Int32.add_zero, nI_1, nI_add, nI_p2, nI_p3, nI_p4, nI_p5, nI_p6, nI_p8, nI_p9, nI_p10, nI_m3, nI_m4, nI_m5, nI_m6, nI_m8, nI_m10, nI_m31, nI_m48, nI_m60, nI_m256, nI_t5, nI_t6, nI_a1, nI_a48, nI_a96, nI_d5, nI_d6, nI_d8, nI_d10, nI_d20, nI_s1, nI_s48, pk_sub, up_eq, up_na, up_nk]
      repeat (first | refine pk1 (by omega) ?_ | refine pk2 (by omega) ?_ | refine bd1 (by omega) ?_)
      exact this
  refine up_to (n := n) (G := fun i => (∀ j, j < i → oM f j) → Wq none 3 58 7 [(0, .ref 5), (1, .int (nI i))] [] (up2 di 5 3 (-1)) dl (RV K)) A ?_ (Nat.zero_le n) (fun j hj => absurd hj (Nat.not_lt_zero j))
  intro i hi ih ho
  refine r_58t5_7 ?_
  simp (disch := omega) only [true_imp_iff, false_imp_iff, not_true_eq_false, not_false_eq_true, and_true, true_and, Int32.reduceToInt, Int64.reduceToInt, Int32.reduceAdd, fa_lt, fa_le, fa_eq, cmi_lt, cmi_le, cmi_gt, cmi_ge, cmi_eq, fa_lt64, fa_le64, fa_eq64, Int32.toInt_toInt64, nI_toInt, ti_m1, sub1_ti, inB_iff, nI_clamp, Int32.add_zero, nI_1, nI_add, nI_p2, nI_p3, nI_p4, nI_p5, nI_p6, nI_p8, nI_p9, nI_p10, nI_m3, nI_m4, nI_m5, nI_m6, nI_m8, nI_m10, nI_m31, nI_m48, nI_m60, nI_m256, nI_t5, nI_t6, nI_a1, nI_a48, nI_a96, nI_d5, nI_d6, nI_d8, nI_d10, nI_d20, nI_s1, nI_s48, pk_sub, up_eq, up_na, up_nk, hl]
  repeat (first | refine pk1 (by omega) ?_ | refine pk2 (by omega) ?_ | refine bd1 (by omega) ?_)
  refine c_33 hn (by simp (disch := omega) only [up_eq, up_na, up_nk]; exact hl) hi (hb i hi).1 (by simp (disch := omega) only [up_eq, up_na, up_nk]; exact (hb i hi).2) (fun h => ?_) (fun h => ?_)
  · refine pk1 (by decide) (ih ?_)
    intro j hj
    rcases Nat.lt_succ_iff_lt_or_eq.mp hj with z | z
    · exact ho j z
    · subst z
      exact h
  · refine pk2 (by decide) (B i hi ⟨by omega, ho, fun _ => h⟩)
