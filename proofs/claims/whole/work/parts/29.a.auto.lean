/-! walking along decided branches; sets of laws for simp -/
theorem pk1 {p q A B : Prop} (h : p ∧ ¬ q) (a : A) : (p → A) ∧ (q → B) := ⟨fun _ => a, fun z => absurd z h.2⟩
theorem pk2 {p q A B : Prop} (h : ¬ p ∧ q) (b : B) : (p → A) ∧ (q → B) := ⟨fun z => absurd z h.1, fun _ => b⟩
theorem bd1 {c A : Prop} (h : c) (a : A) : c ∧ A := ⟨h, a⟩
theorem inB_iff {n N : Nat} (hn : n < 2 ^ 31) : inB (nI n) N = true ↔ n < N := by
  unfold inB
  rw [decide_eq_true_iff, nI_clamp hn]
  have := nI_pos hn
  constructor
  · intro h
    exact Nat.lt_of_not_le (fun z => h (Or.inr z))
  · intro h z
    rcases z with z | z
    · exact this z
    · omega
theorem cmp_gt {x y : Int64} : 0 < lg_cmp x y ↔ y < x := by rw [← Int32.not_le, cmp_le, Int64.not_le]
theorem cmp_ge {x y : Int64} : 0 ≤ lg_cmp x y ↔ y ≤ x := by rw [← Int32.not_lt, cmp_lt, Int64.not_lt]
theorem sub1_ti {n : Nat} (h : n < 2 ^ 31) : (nI n - 1).toInt = (n : Int) - 1 := by
  rw [Int32.toInt_sub, nI_toInt h]
  exact Int.bmod_eq_of_le (by have : (1 : Int32).toInt = 1 := rfl; omega) (by have : (1 : Int32).toInt = 1 := rfl; omega)
theorem nI_p2 (a : Nat) : nI a + 2 = nI (a + 2) := nI_add a 2
theorem nI_p3 (a : Nat) : nI a + 3 = nI (a + 3) := nI_add a 3
theorem nI_p4 (a : Nat) : nI a + 4 = nI (a + 4) := nI_add a 4
theorem nI_p5 (a : Nat) : nI a + 5 = nI (a + 5) := nI_add a 5
theorem nI_p6 (a : Nat) : nI a + 6 = nI (a + 6) := nI_add a 6
theorem nI_p8 (a : Nat) : nI a + 8 = nI (a + 8) := nI_add a 8
theorem nI_p9 (a : Nat) : nI a + 9 = nI (a + 9) := nI_add a 9
theorem nI_p10 (a : Nat) : nI a + 10 = nI (a + 10) := nI_add a 10
theorem nI_m3 (a : Nat) : 3 * nI a = nI (3 * a) := pk_mul 3 a
theorem nI_m4 (a : Nat) : 4 * nI a = nI (4 * a) := pk_mul 4 a
theorem nI_m5 (a : Nat) : 5 * nI a = nI (5 * a) := pk_mul 5 a
theorem nI_m6 (a : Nat) : 6 * nI a = nI (6 * a) := pk_mul 6 a
theorem nI_m8 (a : Nat) : 8 * nI a = nI (8 * a) := pk_mul 8 a
theorem nI_m10 (a : Nat) : 10 * nI a = nI (10 * a) := pk_mul 10 a
theorem nI_m31 (a : Nat) : 31 * nI a = nI (31 * a) := pk_mul 31 a
theorem nI_m48 (a : Nat) : 48 * nI a = nI (48 * a) := pk_mul 48 a
theorem nI_m60 (a : Nat) : 60 * nI a = nI (60 * a) := pk_mul 60 a
theorem nI_m256 (a : Nat) : 256 * nI a = nI (256 * a) := pk_mul 256 a
theorem nI_t5 (a : Nat) : nI a * 5 = nI (a * 5) := pk_mul a 5
theorem nI_t6 (a : Nat) : nI a * 6 = nI (a * 6) := pk_mul a 6
theorem nI_a1 (a : Nat) : 1 + nI a = nI (1 + a) := nI_add 1 a
theorem nI_a48 (a : Nat) : 48 + nI a = nI (48 + a) := nI_add 48 a
theorem nI_a96 (a : Nat) : 96 + nI a = nI (96 + a) := nI_add 96 a
theorem up_to {n : Nat} {G : Nat → Prop} (h0 : G n) (hs : ∀ i, i < n → G (i + 1) → G i) {i : Nat} (hi : i ≤ n) : G i := by
  have L : ∀ m i, i + m = n → G i := by
    intro m
    induction m with
    | zero =>
      intro i h
      have e : i = n := by omega
      subst e
      exact h0
    | succ m ih =>
      intro i h
      exact hs i (by omega) (ih (i + 1) (by omega))
  exact L (n - i) i (by omega)
theorem ixi (x : Int32) (n : Nat) (hn : n < 2 ^ 31) : x.toInt < 0 ∨ (n : Int) ≤ x.toInt ∨ ∃ j : Nat, j < n ∧ x = nI j := by
  rcases pk_ix x hn with h | h | h
  · left
    rw [fa_lt, ti_0] at h
    exact h
  · right; left
    rw [fa_le, nI_toInt hn] at h
    exact h
  · exact Or.inr (Or.inr h)
theorem ixp (x : Int32) : x.toInt < 0 ∨ ∃ j : Nat, j < 2 ^ 31 ∧ x = nI j := by
  by_cases h : x < 0
  · left
    rw [fa_lt, ti_0] at h
    exact h
  · exact Or.inr (nI_of h)
theorem nI_d5 {a : Nat} (ha : a < 2 ^ 31) : nI a / 5 = nI (a / 5) := pk_div ha (by decide) (by decide)
theorem nI_d6 {a : Nat} (ha : a < 2 ^ 31) : nI a / 6 = nI (a / 6) := pk_div ha (by decide) (by decide)
theorem nI_d8 {a : Nat} (ha : a < 2 ^ 31) : nI a / 8 = nI (a / 8) := pk_div ha (by decide) (by decide)
theorem nI_d10 {a : Nat} (ha : a < 2 ^ 31) : nI a / 10 = nI (a / 10) := pk_div ha (by decide) (by decide)
theorem nI_d20 {a : Nat} (ha : a < 2 ^ 31) : nI a / 20 = nI (a / 20) := pk_div ha (by decide) (by decide)
theorem nI_s1 {a : Nat} (ha : 1 ≤ a) : nI a - 1 = nI (a - 1) := pk_sub ha
theorem nI_s48 {a : Nat} (ha : 48 ≤ a) : nI a - 48 = nI (a - 48) := pk_sub ha
theorem cmi_lt {x y : Int64} : (lg_cmp x y).toInt < 0 ↔ x.toInt < y.toInt := by rw [← ti_0, ← fa_lt, cmp_lt, fa_lt64]
theorem cmi_le {x y : Int64} : (lg_cmp x y).toInt ≤ 0 ↔ x.toInt ≤ y.toInt := by rw [← ti_0, ← fa_le, cmp_le, fa_le64]
theorem cmi_gt {x y : Int64} : 0 < (lg_cmp x y).toInt ↔ y.toInt < x.toInt := by rw [← ti_0, ← fa_lt, cmp_gt, fa_lt64]
theorem cmi_ge {x y : Int64} : 0 ≤ (lg_cmp x y).toInt ↔ y.toInt ≤ x.toInt := by rw [← ti_0, ← fa_le, cmp_ge, fa_le64]
theorem cmi_eq {x y : Int64} : (lg_cmp x y).toInt = 0 ↔ x.toInt = y.toInt := by rw [← ti_0, ← fa_eq, cmp_eq, fa_eq64]
