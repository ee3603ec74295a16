/-! copy: the reference's two loops -/
def mvd (di : tDi) (o k : Nat) : tDi := fun x y => if x = 180 ∧ y < k then di 179 (o + y) else di x y
def cpd (di : tDi) (o k : Nat) : tDi := fun x y => if x = 179 ∧ o ≤ y ∧ y < o + k then di 180 (y - o) else di x y
theorem mvd_0 {di : tDi} {o : Nat} : mvd di o 0 = di := by
  funext x y
  exact if_neg (fun z => by omega)
theorem mvd_s {di : tDi} {o k : Nat} : up2 (mvd di o k) 180 k (mvd di o k 179 (o + k)) = mvd di o (k + 1) := by
  funext x y
  unfold up2 mvd
  rw [if_neg (show ¬ (179 = 180 ∧ o + k < k) by omega)]
  by_cases h : x = 180 ∧ y = k
  · rw [if_pos h, if_pos ⟨h.1, by omega⟩, h.2]
  · rw [if_neg h]
    by_cases h2 : x = 180 ∧ y < k
    · rw [if_pos h2, if_pos ⟨h2.1, by omega⟩]
    · rw [if_neg h2, if_neg (fun z => h2 ⟨z.1, by
        have : ¬ y = k := fun e => h ⟨z.1, e⟩
        omega⟩)]
theorem cpd_0 {di : tDi} {o : Nat} : cpd di o 0 = di := by
  funext x y
  exact if_neg (fun z => by omega)
theorem cpd_s {di : tDi} {o k : Nat} : up2 (cpd di o k) 179 (o + k) (cpd di o k 180 k) = cpd di o (k + 1) := by
  funext x y
  unfold up2 cpd
  rw [if_neg (show ¬ (180 = 179 ∧ o ≤ k ∧ k < o + k) by omega)]
  by_cases h : x = 179 ∧ y = o + k
  · rw [if_pos h, if_pos ⟨h.1, by omega⟩, h.2, Nat.add_sub_cancel_left]
  · rw [if_neg h]
    by_cases h2 : x = 179 ∧ o ≤ y ∧ y < o + k
    · rw [if_pos h2, if_pos ⟨h2.1, by omega⟩]
    · rw [if_neg h2, if_neg (fun z => h2 ⟨z.1, z.2.1, by
        have : ¬ y = o + k := fun e => h ⟨z.1, e⟩
        omega⟩)]
theorem l_150b {di : tDi} {dl : tDl} {t j n : Nat} (ht : t < 4) (hn : j + n ≤ 60) {K : Int32 → tDi → tDl → Prop} (kk : K 1 (cpd di (60 * t + j) n) dl) : Wq none 2 150 157 [(0, .ref 176), (3, .int (nI t)), (4, .int (nI j)), (5, .int (nI n)), (6, .int 0)] [] di dl (RI K) := by
  have L : ∀ m k, k + m = n → Wq none 2 150 157 [(0, .ref 176), (3, .int (nI t)), (4, .int (nI j)), (5, .int (nI n)), (6, .int (nI k))] [] (cpd di (60 * t + j) k) dl (RI K) := by
    intro m
    induction m with
    | zero =>
      intro k hk
      have e : k = n := by omega
      subst e
      exact r_150_157 (w_l' (Int32.le_refl _) kk)
    | succ m ih =>
      intro k hk
      refine r_150_157 (w_r' (nI_lt (by omega) (by omega)) ?_)
      rw [show (60 : Int32) = nI 60 from rfl, pk_mul, nI_add, nI_add, nI_clamp (by omega), nI_clamp (by omega), cpd_s, nI_1]
      exact ⟨inB_n (by omega) (by decide), inB_n (by omega) (by decide), ih (k + 1) (by omega)⟩
  have := L n 0 (by omega)
  rw [cpd_0] at this
  exact this
theorem l_150a {di : tDi} {dl : tDl} {s t i j n : Nat} (hs : s < 4) (ht : t < 4) (hi : i + n ≤ 60) (hn : j + n ≤ 60) {K : Int32 → tDi → tDl → Prop} (kk : K 1 (cpd (mvd di (60 * s + i) n) (60 * t + j) n) dl) : Wq none 2 150 120 [(0, .ref 176), (1, .int (nI s)), (2, .int (nI i)), (3, .int (nI t)), (4, .int (nI j)), (5, .int (nI n)), (6, .int 0)] [] di dl (RI K) := by
  have L : ∀ m k, k + m = n → Wq none 2 150 120 [(0, .ref 176), (1, .int (nI s)), (2, .int (nI i)), (3, .int (nI t)), (4, .int (nI j)), (5, .int (nI n)), (6, .int (nI k))] [] (mvd di (60 * s + i) k) dl (RI K) := by
    intro m
    induction m with
    | zero =>
      intro k hk
      have e : k = n := by omega
      subst e
      exact r_150_120 (w_l' (Int32.le_refl _) (l_150b ht hn kk))
    | succ m ih =>
      intro k hk
      refine r_150_120 (w_r' (nI_lt (by omega) (by omega)) ?_)
      rw [show (60 : Int32) = nI 60 from rfl, pk_mul, nI_add, nI_add, nI_clamp (by omega), nI_clamp (by omega), mvd_s, nI_1]
      exact ⟨inB_n (by omega) (by decide), inB_n (by omega) (by decide), ih (k + 1) (by omega)⟩
  have := L n 0 (by omega)
  rw [mvd_0] at this
  exact this
theorem sub_ti {a b : Nat} (ha : a ≤ 60) (hb : b < 2 ^ 31) : (nI a - nI b).toInt = (a : Int) - b := by
  rw [Int32.toInt_sub, nI_toInt (by omega), nI_toInt hb]
  exact Int.bmod_eq_of_le (by omega) (by omega)
theorem add64_ti {a b : Nat} (ha : a < 2 ^ 31) (hb : b < 2 ^ 31) : ((nI a).toInt64 + (nI b).toInt64).toInt = (a : Int) + b := by
  rw [Int64.toInt_add, Int32.toInt_toInt64, Int32.toInt_toInt64, nI_toInt ha, nI_toInt hb]
  exact Int.bmod_eq_of_le (by omega) (by omega)
