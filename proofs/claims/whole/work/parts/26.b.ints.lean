/-! conditions on ints, as they stand in the regions, over numbers -/
theorem inB_n {n N : Nat} (h : n < N) (hN : N < 2 ^ 31) : inB (nI n) N = true := decide_eq_true (nI_in h hN)
theorem inB_i {x : Int32} {n : Nat} (h0 : 0 ≤ x) (h : x.toInt < n) : inB x n = true := by
  refine decide_eq_true ?_
  intro z
  rw [Int32.le_iff_toInt_le] at h0
  have e0 : (0 : Int32).toInt = 0 := rfl
  rw [e0] at h0
  rcases z with z | z
  · rw [Int32.lt_iff_toInt_lt, e0] at z; omega
  · have : x.toNatClampNeg = x.toInt.toNat := rfl
    omega
theorem cl_i {x : Int32} : x.toNatClampNeg = x.toInt.toNat := rfl
theorem x_of {x : Int32} (h0 : 0 ≤ x) : ∃ n : Nat, n < 2 ^ 31 ∧ x = nI n := nI_of (Int32.not_lt.mpr h0)
theorem ti_0 : (0 : Int32).toInt = 0 := rfl
theorem cmp_lt {x y : Int64} : lg_cmp x y < 0 ↔ x < y := by
  unfold lg_cmp
  rw [Int64.lt_iff_toInt_lt]
  by_cases h : y < x
  · rw [if_pos h]
    rw [Int64.lt_iff_toInt_lt] at h
    exact ⟨fun z => absurd z (by decide), fun z => by omega⟩
  · rw [if_neg h]
    rw [Int64.lt_iff_toInt_lt] at h
    by_cases h2 : x = y
    · rw [if_pos h2]; subst h2
      exact ⟨fun z => absurd z (by decide), fun z => by omega⟩
    · rw [if_neg h2]
      have h3 : ¬ x.toInt = y.toInt := fun e => h2 (Int64.toInt_inj.mp e)
      exact ⟨fun _ => by omega, fun _ => by decide⟩
theorem cmp_le {x y : Int64} : lg_cmp x y ≤ 0 ↔ x ≤ y := by
  unfold lg_cmp
  rw [Int64.le_iff_toInt_le]
  by_cases h : y < x
  · rw [if_pos h]
    rw [Int64.lt_iff_toInt_lt] at h
    exact ⟨fun z => absurd z (by decide), fun z => by omega⟩
  · rw [if_neg h]
    rw [Int64.lt_iff_toInt_lt] at h
    by_cases h2 : x = y
    · rw [if_pos h2]; subst h2
      exact ⟨fun z => by omega, fun z => by decide⟩
    · rw [if_neg h2]
      exact ⟨fun _ => by omega, fun _ => by decide⟩
theorem cmp_eq {x y : Int64} : lg_cmp x y = 0 ↔ x = y := by
  unfold lg_cmp
  by_cases h : y < x
  · rw [if_pos h]
    refine ⟨fun z => absurd z (by decide), fun z => ?_⟩
    subst z
    rw [Int64.lt_iff_toInt_lt] at h
    omega
  · rw [if_neg h]
    by_cases h2 : x = y
    · rw [if_pos h2]; exact ⟨fun _ => h2, fun _ => rfl⟩
    · rw [if_neg h2]; exact ⟨fun z => absurd z (by decide), fun z => absurd z h2⟩
/-- the reference's `in`, over ints taken as longs -/
theorem wide_lt {x : Int32} {n : Int64} {k : Int32} (hk : k.toInt64 = n) : lg_cmp x.toInt64 n < 0 ↔ x < k := by rw [cmp_lt, ← hk, fa_wide_lt]
theorem wide_gt {x : Int32} {n : Int64} {k : Int32} (hk : k.toInt64 = n) : 0 < lg_cmp x.toInt64 n ↔ k < x := by rw [← Int32.not_le, cmp_le, ← hk, fa_wide_le, Int32.not_le]
theorem wide_ge {x : Int32} {n : Int64} {k : Int32} (hk : k.toInt64 = n) : 0 ≤ lg_cmp x.toInt64 n ↔ k ≤ x := by rw [← Int32.not_lt, cmp_lt, ← hk, fa_wide_lt, Int32.not_lt]
theorem wide_le {x : Int32} {n : Int64} {k : Int32} (hk : k.toInt64 = n) : lg_cmp x.toInt64 n ≤ 0 ↔ x ≤ k := by rw [cmp_le, ← hk, fa_wide_le]
theorem up_eq {α : Type} (f : Nat → Nat → α) (a k : Nat) (v : α) : up2 f a k v a k = v := if_pos ⟨rfl, rfl⟩
theorem up_na {α : Type} {f : Nat → Nat → α} {a k x y : Nat} {v : α} (h : ¬ x = a) : up2 f a k v x y = f x y := if_neg (fun z => h z.1)
theorem up_nk {α : Type} {f : Nat → Nat → α} {a k x y : Nat} {v : α} (h : ¬ y = k) : up2 f a k v x y = f x y := if_neg (fun z => h z.2)
