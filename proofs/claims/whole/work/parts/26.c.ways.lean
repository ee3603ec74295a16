/-! ways through a branch; comparisons of ints taken as longs -/
section WAYS
variable {x y : Int32} {A B : Prop}
theorem w_l (h : x < y) (a : A) : (x < y → A) ∧ (y ≤ x → B) := ⟨fun _ => a, fun z => absurd z (Int32.not_le.mpr h)⟩
theorem w_r (h : y ≤ x) (b : B) : (x < y → A) ∧ (y ≤ x → B) := ⟨fun z => absurd z (Int32.not_lt.mpr h), fun _ => b⟩
theorem w_l' (h : y ≤ x) (a : A) : (y ≤ x → A) ∧ (x < y → B) := ⟨fun _ => a, fun z => absurd z (Int32.not_lt.mpr h)⟩
theorem w_r' (h : x < y) (b : B) : (y ≤ x → A) ∧ (x < y → B) := ⟨fun z => absurd z (Int32.not_le.mpr h), fun _ => b⟩
theorem w_e {α : Type} {x y : α} (h : x = y) (a : A) : (x = y → A) ∧ (¬ x = y → B) := ⟨fun _ => a, fun z => absurd h z⟩
theorem w_n {α : Type} {x y : α} (h : ¬ x = y) (b : B) : (x = y → A) ∧ (¬ x = y → B) := ⟨fun z => absurd z h, fun _ => b⟩
theorem w_e' {α : Type} {x y : α} (h : ¬ x = y) (a : A) : (¬ x = y → A) ∧ (x = y → B) := ⟨fun _ => a, fun z => absurd z h⟩
theorem w_n' {α : Type} {x y : α} (h : x = y) (b : B) : (¬ x = y → A) ∧ (x = y → B) := ⟨fun z => absurd h z, fun _ => b⟩
end WAYS
/-- an int below 0, from n on, or one of n -/
theorem ix3 (x : Int32) (n : Nat) (hn : n < 2 ^ 31) : x < 0 ∨ (nI n ≤ x ∧ 0 ≤ x) ∨ ∃ j : Nat, j < n ∧ x = nI j ∧ 0 ≤ x ∧ x < nI n := by
  rcases pk_ix x hn with h | h | ⟨j, hj, rfl⟩
  · exact Or.inl h
  · exact Or.inr (Or.inl ⟨h, Int32.le_trans (nI_pos' hn) h⟩)
  · exact Or.inr (Or.inr ⟨j, hj, rfl, nI_pos' (by omega), nI_lt hj hn⟩)
theorem wl_0 {x : Int32} : lg_cmp x.toInt64 0 < 0 ↔ x < 0 := wide_lt (k := 0) rfl
theorem wg_0 {x : Int32} : 0 < lg_cmp x.toInt64 0 ↔ 0 < x := wide_gt (k := 0) rfl
theorem wx_0 {x : Int32} : 0 ≤ lg_cmp x.toInt64 0 ↔ 0 ≤ x := wide_ge (k := 0) rfl
theorem wm_0 {x : Int32} : lg_cmp x.toInt64 0 ≤ 0 ↔ x ≤ 0 := wide_le (k := 0) rfl
theorem wl_1 {x : Int32} : lg_cmp x.toInt64 1 < 0 ↔ x < 1 := wide_lt (k := 1) rfl
theorem wg_1 {x : Int32} : 0 < lg_cmp x.toInt64 1 ↔ 1 < x := wide_gt (k := 1) rfl
theorem wx_1 {x : Int32} : 0 ≤ lg_cmp x.toInt64 1 ↔ 1 ≤ x := wide_ge (k := 1) rfl
theorem wm_1 {x : Int32} : lg_cmp x.toInt64 1 ≤ 0 ↔ x ≤ 1 := wide_le (k := 1) rfl
theorem wl_2 {x : Int32} : lg_cmp x.toInt64 2 < 0 ↔ x < 2 := wide_lt (k := 2) rfl
theorem wg_2 {x : Int32} : 0 < lg_cmp x.toInt64 2 ↔ 2 < x := wide_gt (k := 2) rfl
theorem wx_2 {x : Int32} : 0 ≤ lg_cmp x.toInt64 2 ↔ 2 ≤ x := wide_ge (k := 2) rfl
theorem wm_2 {x : Int32} : lg_cmp x.toInt64 2 ≤ 0 ↔ x ≤ 2 := wide_le (k := 2) rfl
theorem wl_3 {x : Int32} : lg_cmp x.toInt64 3 < 0 ↔ x < 3 := wide_lt (k := 3) rfl
theorem wg_3 {x : Int32} : 0 < lg_cmp x.toInt64 3 ↔ 3 < x := wide_gt (k := 3) rfl
theorem wx_3 {x : Int32} : 0 ≤ lg_cmp x.toInt64 3 ↔ 3 ≤ x := wide_ge (k := 3) rfl
theorem wm_3 {x : Int32} : lg_cmp x.toInt64 3 ≤ 0 ↔ x ≤ 3 := wide_le (k := 3) rfl
theorem wl_7 {x : Int32} : lg_cmp x.toInt64 7 < 0 ↔ x < 7 := wide_lt (k := 7) rfl
theorem wg_7 {x : Int32} : 0 < lg_cmp x.toInt64 7 ↔ 7 < x := wide_gt (k := 7) rfl
theorem wx_7 {x : Int32} : 0 ≤ lg_cmp x.toInt64 7 ↔ 7 ≤ x := wide_ge (k := 7) rfl
theorem wm_7 {x : Int32} : lg_cmp x.toInt64 7 ≤ 0 ↔ x ≤ 7 := wide_le (k := 7) rfl
theorem wl_8 {x : Int32} : lg_cmp x.toInt64 8 < 0 ↔ x < 8 := wide_lt (k := 8) rfl
theorem wg_8 {x : Int32} : 0 < lg_cmp x.toInt64 8 ↔ 8 < x := wide_gt (k := 8) rfl
theorem wx_8 {x : Int32} : 0 ≤ lg_cmp x.toInt64 8 ↔ 8 ≤ x := wide_ge (k := 8) rfl
theorem wm_8 {x : Int32} : lg_cmp x.toInt64 8 ≤ 0 ↔ x ≤ 8 := wide_le (k := 8) rfl
theorem wl_12 {x : Int32} : lg_cmp x.toInt64 12 < 0 ↔ x < 12 := wide_lt (k := 12) rfl
theorem wg_12 {x : Int32} : 0 < lg_cmp x.toInt64 12 ↔ 12 < x := wide_gt (k := 12) rfl
theorem wx_12 {x : Int32} : 0 ≤ lg_cmp x.toInt64 12 ↔ 12 ≤ x := wide_ge (k := 12) rfl
theorem wm_12 {x : Int32} : lg_cmp x.toInt64 12 ≤ 0 ↔ x ≤ 12 := wide_le (k := 12) rfl
theorem wl_16 {x : Int32} : lg_cmp x.toInt64 16 < 0 ↔ x < 16 := wide_lt (k := 16) rfl
theorem wg_16 {x : Int32} : 0 < lg_cmp x.toInt64 16 ↔ 16 < x := wide_gt (k := 16) rfl
theorem wx_16 {x : Int32} : 0 ≤ lg_cmp x.toInt64 16 ↔ 16 ≤ x := wide_ge (k := 16) rfl
theorem wm_16 {x : Int32} : lg_cmp x.toInt64 16 ≤ 0 ↔ x ≤ 16 := wide_le (k := 16) rfl
theorem wl_23 {x : Int32} : lg_cmp x.toInt64 23 < 0 ↔ x < 23 := wide_lt (k := 23) rfl
theorem wg_23 {x : Int32} : 0 < lg_cmp x.toInt64 23 ↔ 23 < x := wide_gt (k := 23) rfl
theorem wx_23 {x : Int32} : 0 ≤ lg_cmp x.toInt64 23 ↔ 23 ≤ x := wide_ge (k := 23) rfl
theorem wm_23 {x : Int32} : lg_cmp x.toInt64 23 ≤ 0 ↔ x ≤ 23 := wide_le (k := 23) rfl
theorem wl_24 {x : Int32} : lg_cmp x.toInt64 24 < 0 ↔ x < 24 := wide_lt (k := 24) rfl
theorem wg_24 {x : Int32} : 0 < lg_cmp x.toInt64 24 ↔ 24 < x := wide_gt (k := 24) rfl
theorem wx_24 {x : Int32} : 0 ≤ lg_cmp x.toInt64 24 ↔ 24 ≤ x := wide_ge (k := 24) rfl
theorem wm_24 {x : Int32} : lg_cmp x.toInt64 24 ≤ 0 ↔ x ≤ 24 := wide_le (k := 24) rfl
theorem wl_40 {x : Int32} : lg_cmp x.toInt64 40 < 0 ↔ x < 40 := wide_lt (k := 40) rfl
theorem wg_40 {x : Int32} : 0 < lg_cmp x.toInt64 40 ↔ 40 < x := wide_gt (k := 40) rfl
theorem wx_40 {x : Int32} : 0 ≤ lg_cmp x.toInt64 40 ↔ 40 ≤ x := wide_ge (k := 40) rfl
theorem wm_40 {x : Int32} : lg_cmp x.toInt64 40 ≤ 0 ↔ x ≤ 40 := wide_le (k := 40) rfl
theorem wl_60 {x : Int32} : lg_cmp x.toInt64 60 < 0 ↔ x < 60 := wide_lt (k := 60) rfl
theorem wg_60 {x : Int32} : 0 < lg_cmp x.toInt64 60 ↔ 60 < x := wide_gt (k := 60) rfl
theorem wx_60 {x : Int32} : 0 ≤ lg_cmp x.toInt64 60 ↔ 60 ≤ x := wide_ge (k := 60) rfl
theorem wm_60 {x : Int32} : lg_cmp x.toInt64 60 ≤ 0 ↔ x ≤ 60 := wide_le (k := 60) rfl
theorem wl_99 {x : Int32} : lg_cmp x.toInt64 99 < 0 ↔ x < 99 := wide_lt (k := 99) rfl
theorem wg_99 {x : Int32} : 0 < lg_cmp x.toInt64 99 ↔ 99 < x := wide_gt (k := 99) rfl
theorem wx_99 {x : Int32} : 0 ≤ lg_cmp x.toInt64 99 ↔ 99 ≤ x := wide_ge (k := 99) rfl
theorem wm_99 {x : Int32} : lg_cmp x.toInt64 99 ≤ 0 ↔ x ≤ 99 := wide_le (k := 99) rfl
theorem wl_255 {x : Int32} : lg_cmp x.toInt64 255 < 0 ↔ x < 255 := wide_lt (k := 255) rfl
theorem wg_255 {x : Int32} : 0 < lg_cmp x.toInt64 255 ↔ 255 < x := wide_gt (k := 255) rfl
theorem wx_255 {x : Int32} : 0 ≤ lg_cmp x.toInt64 255 ↔ 255 ≤ x := wide_ge (k := 255) rfl
theorem wm_255 {x : Int32} : lg_cmp x.toInt64 255 ≤ 0 ↔ x ≤ 255 := wide_le (k := 255) rfl
theorem wl_400 {x : Int32} : lg_cmp x.toInt64 400 < 0 ↔ x < 400 := wide_lt (k := 400) rfl
theorem wg_400 {x : Int32} : 0 < lg_cmp x.toInt64 400 ↔ 400 < x := wide_gt (k := 400) rfl
theorem wx_400 {x : Int32} : 0 ≤ lg_cmp x.toInt64 400 ↔ 400 ≤ x := wide_ge (k := 400) rfl
theorem wm_400 {x : Int32} : lg_cmp x.toInt64 400 ≤ 0 ↔ x ≤ 400 := wide_le (k := 400) rfl
theorem wl_5 {x : Int32} : lg_cmp x.toInt64 5 < 0 ↔ x < 5 := wide_lt (k := 5) rfl
theorem wg_5 {x : Int32} : 0 < lg_cmp x.toInt64 5 ↔ 5 < x := wide_gt (k := 5) rfl
theorem wx_5 {x : Int32} : 0 ≤ lg_cmp x.toInt64 5 ↔ 5 ≤ x := wide_ge (k := 5) rfl
theorem wm_5 {x : Int32} : lg_cmp x.toInt64 5 ≤ 0 ↔ x ≤ 5 := wide_le (k := 5) rfl
theorem wl_9 {x : Int32} : lg_cmp x.toInt64 9 < 0 ↔ x < 9 := wide_lt (k := 9) rfl
theorem wg_9 {x : Int32} : 0 < lg_cmp x.toInt64 9 ↔ 9 < x := wide_gt (k := 9) rfl
theorem wx_9 {x : Int32} : 0 ≤ lg_cmp x.toInt64 9 ↔ 9 ≤ x := wide_ge (k := 9) rfl
theorem wm_9 {x : Int32} : lg_cmp x.toInt64 9 ≤ 0 ↔ x ≤ 9 := wide_le (k := 9) rfl
theorem wl_10 {x : Int32} : lg_cmp x.toInt64 10 < 0 ↔ x < 10 := wide_lt (k := 10) rfl
theorem wg_10 {x : Int32} : 0 < lg_cmp x.toInt64 10 ↔ 10 < x := wide_gt (k := 10) rfl
theorem wx_10 {x : Int32} : 0 ≤ lg_cmp x.toInt64 10 ↔ 10 ≤ x := wide_ge (k := 10) rfl
theorem wm_10 {x : Int32} : lg_cmp x.toInt64 10 ≤ 0 ↔ x ≤ 10 := wide_le (k := 10) rfl
theorem wl_15 {x : Int32} : lg_cmp x.toInt64 15 < 0 ↔ x < 15 := wide_lt (k := 15) rfl
theorem wg_15 {x : Int32} : 0 < lg_cmp x.toInt64 15 ↔ 15 < x := wide_gt (k := 15) rfl
theorem wx_15 {x : Int32} : 0 ≤ lg_cmp x.toInt64 15 ↔ 15 ≤ x := wide_ge (k := 15) rfl
theorem wm_15 {x : Int32} : lg_cmp x.toInt64 15 ≤ 0 ↔ x ≤ 15 := wide_le (k := 15) rfl
theorem wl_25 {x : Int32} : lg_cmp x.toInt64 25 < 0 ↔ x < 25 := wide_lt (k := 25) rfl
theorem wg_25 {x : Int32} : 0 < lg_cmp x.toInt64 25 ↔ 25 < x := wide_gt (k := 25) rfl
theorem wx_25 {x : Int32} : 0 ≤ lg_cmp x.toInt64 25 ↔ 25 ≤ x := wide_ge (k := 25) rfl
theorem wm_25 {x : Int32} : lg_cmp x.toInt64 25 ≤ 0 ↔ x ≤ 25 := wide_le (k := 25) rfl
theorem wl_26 {x : Int32} : lg_cmp x.toInt64 26 < 0 ↔ x < 26 := wide_lt (k := 26) rfl
theorem wg_26 {x : Int32} : 0 < lg_cmp x.toInt64 26 ↔ 26 < x := wide_gt (k := 26) rfl
theorem wx_26 {x : Int32} : 0 ≤ lg_cmp x.toInt64 26 ↔ 26 ≤ x := wide_ge (k := 26) rfl
theorem wm_26 {x : Int32} : lg_cmp x.toInt64 26 ≤ 0 ↔ x ≤ 26 := wide_le (k := 26) rfl
theorem wl_47 {x : Int32} : lg_cmp x.toInt64 47 < 0 ↔ x < 47 := wide_lt (k := 47) rfl
theorem wg_47 {x : Int32} : 0 < lg_cmp x.toInt64 47 ↔ 47 < x := wide_gt (k := 47) rfl
theorem wx_47 {x : Int32} : 0 ≤ lg_cmp x.toInt64 47 ↔ 47 ≤ x := wide_ge (k := 47) rfl
theorem wm_47 {x : Int32} : lg_cmp x.toInt64 47 ≤ 0 ↔ x ≤ 47 := wide_le (k := 47) rfl
