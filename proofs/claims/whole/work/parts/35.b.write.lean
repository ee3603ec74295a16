/-! what ties both worlds, whole; write -/
def INV (di : tDi) (_ : tDl) : Prop := Itx di ∧ Ish di ∧ Ila di ∧ Ini di ∧ Ise di ∧ (di 8 10 = 1 ∨ ∃ t, Wt t ∧ Cs t di ∧ Wv t di) ∧ ∀ u, u < 256 → di 154 u = 0
theorem INV_t {di : tDi} {dl : tDl} (h : INV di dl) : ∃ t, Wt t ∧ Cw t di := by
  obtain ⟨h1, h2, h3, h4, h5, h6, h7⟩ := h
  rcases h6 with h6 | ⟨t, t1, t2, t3⟩
  · obtain ⟨t, t1, t2⟩ := town_of h1 h5
    exact ⟨t, t1, t2, Or.inl h6⟩
  · exact ⟨t, t1, t2, Or.inr t3⟩
theorem Cw_iw {t : tTown} {d : tDi} (hw : Wt t) (h : Cw t d) : d 8 10 = 1 ∨ ∃ t, Wt t ∧ Cs t d ∧ Wv t d := by
  rcases h.2 with z | z
  · exact Or.inl z
  · exact Or.inr ⟨t, hw, h.1, z⟩
theorem Cw_cong {t : tTown} {di d : tDi} (hw : Wt t) (h : ∀ a k, a < 144 → d a k = di a k) (H : Cw t di) : Cw t d := by
  refine ⟨Cs_lo (fun a k z1 z2 => h a k (by omega)) H.1, ?_⟩
  rcases H.2 with z | z
  · left
    rw [h _ _ (by omega)]
    exact z
  · exact Or.inr (Wv_cong hw (fun a k z1 z2 => h a k (by omega)) z)
/-- a call that only derives things keeps the tie -/
theorem INV_d {t : tTown} {di d e : tDi} {dl dl' : tDl} (H : INV di dl) (hw : Wt t) (hc : Cw t d) (fc : FC di d) (fm : FM d e) : INV e dl' := by
  obtain ⟨h1, h2, h3, h4, h5, h6, h7⟩ := H
  have q : ∀ a k, ¬ (a = 8 ∧ k = 10) → ¬ (9 ≤ a ∧ a ≤ 153) → ¬ (155 ≤ a ∧ a ≤ 158) → ¬ (a = 159 ∧ k = 9) → ¬ (163 ≤ a ∧ a ≤ 166) → ¬ (a = 176 ∧ k = 7) → ¬ (183 ≤ a ∧ a ≤ 186) → a < 188 ∨ a = 193 → e a k = di a k := fun a k z1 z2 z3 z4 z5 z6 z7 z8 => (fm a k z6 z7 z8).trans (fc a k z1 z2 z3 z4 z5)
  refine ⟨?_, ?_, ?_, ?_, ?_, ?_, ?_⟩
  · exact Itx_cong (fun a k z1 z2 => q a k (by omega) (by omega) (by omega) (by omega) (by omega) (by omega) (by omega) (by omega)) (fun k => q _ k (by omega) (by omega) (by omega) (by omega) (by omega) (by omega) (by omega) (by omega)) (fun k => q _ k (by omega) (by omega) (by omega) (by omega) (by omega) (by omega) (by omega) (by omega)) h1
  · exact Ish_cong (fun a ha k => q a k (by omega) (by omega) (by omega) (by omega) (by omega) (by omega) (by omega) (by omega)) h2
  · exact Ila_cong (q _ _ (by omega) (by omega) (by omega) (by omega) (by omega) (by omega) (by omega) (by omega)) (q _ _ (by omega) (by omega) (by omega) (by omega) (by omega) (by omega) (by omega) (by omega)) h3
  · exact Ini_cong (q _ _ (by omega) (by omega) (by omega) (by omega) (by omega) (by omega) (by omega) (by omega)) (q _ _ (by omega) (by omega) (by omega) (by omega) (by omega) (by omega) (by omega) (by omega)) (fun a ha k => q a k (by omega) (by omega) (by omega) (by omega) (by omega) (by omega) (by omega) (by omega)) h4
  · exact Ise_cong (q _ _ (by omega) (by omega) (by omega) (by omega) (by omega) (by omega) (by omega) (by omega)) (q _ _ (by omega) (by omega) (by omega) (by omega) (by omega) (by omega) (by omega) (by omega)) (fun k => q _ k (by omega) (by omega) (by omega) (by omega) (by omega) (by omega) (by omega) (by omega)) h5
  · exact Cw_iw hw (Cw_cong hw (fun a k z => fm a k (by omega) (by omega) (by omega)) hc)
  · intro u hu
    rw [q _ _ (by omega) (by omega) (by omega) (by omega) (by omega) (by omega) (by omega) (by omega)]
    exact h7 u hu
/-- what the reference's call needs, behind the class's call -/
theorem INV_r {di d : tDi} {dl : tDl} (H : INV di dl) (fc : FC di d) : Itx d ∧ Ise d ∧ Ini d ∧ Ila d := by
  obtain ⟨h1, h2, h3, h4, h5, h6, h7⟩ := H
  refine ⟨?_, ?_, ?_, ?_⟩
  · exact Itx_cong (fun a k z1 z2 => fc a k (by omega) (by omega) (by omega) (by omega) (by omega)) (fun k => fc _ k (by omega) (by omega) (by omega) (by omega) (by omega)) (fun k => fc _ k (by omega) (by omega) (by omega) (by omega) (by omega)) h1
  · exact Ise_cong (fc _ _ (by omega) (by omega) (by omega) (by omega) (by omega)) (fc _ _ (by omega) (by omega) (by omega) (by omega) (by omega)) (fun k => fc _ k (by omega) (by omega) (by omega) (by omega) (by omega)) h5
  · exact Ini_cong (fc _ _ (by omega) (by omega) (by omega) (by omega) (by omega)) (fc _ _ (by omega) (by omega) (by omega) (by omega) (by omega)) (fun a ha k => fc a k (by omega) (by omega) (by omega) (by omega) (by omega)) h4
  · exact Ila_cong (fc _ _ (by omega) (by omega) (by omega) (by omega) (by omega)) (fc _ _ (by omega) (by omega) (by omega) (by omega) (by omega)) h3
def wr1 (d : tDi) (b o n : Nat) (w : Nat → Int32) : tDi := fun a k => if a = b ∧ o ≤ k ∧ k < o + n then w (k - o) else d a k
theorem wr1_0 {d : tDi} {b o : Nat} {w : Nat → Int32} : wr1 d b o 0 w = d := by
  funext a k
  exact if_neg (fun z => by omega)
theorem wr1_s {d : tDi} {b o n : Nat} {w : Nat → Int32} : up2 (wr1 d b o n w) b (o + n) (w n) = wr1 d b o (n + 1) w := by
  funext a k
  unfold up2 wr1
  by_cases h : a = b ∧ k = o + n
  · rw [if_pos h, if_pos ⟨h.1, by omega⟩, h.2, Nat.add_sub_cancel_left]
  · rw [if_neg h]
    by_cases h2 : a = b ∧ o ≤ k ∧ k < o + n
    · rw [if_pos h2, if_pos ⟨h2.1, by omega⟩]
    · rw [if_neg h2, if_neg (fun z => h2 ⟨z.1, z.2.1, by
        have : ¬ k = o + n := fun e => h ⟨z.1, e⟩
        omega⟩)]
theorem wr1_na {d : tDi} {b o n a k : Nat} {w : Nat → Int32} (h : ¬ a = b) : wr1 d b o n w a k = d a k := if_neg (fun z => h z.1)
section WRITE
variable {t : tTown} {di : tDi} {dl : tDl}
theorem l_120 (hv : Wv t di) (hw : Wt t) {m s f n L : Nat} (hm : m ≤ nM t) (hs4 : s < 4) (hf3 : f < 3) (hf : di (168 + 2 * s) 1 = nI f) (hn : n ≤ 60) (h5 : di (168 + 2 * s) 2 = nI n) (hL : L ≤ n) (hL2 : L ≤ nS t) {K : Int32 → tDi → tDl → Prop} (kk : K (nI L) (wr1 di (169 + 2 * s) 0 L (fun i => cutI f (worn t (Qm t m) i))) dl) : Wq none 4 120 60 [(0, .ref 0), (1, .int (nI m)), (3, .ref (168 + 2 * s)), (4, .int (nI L)), (5, .int 0)] [] di dl (RI K) := by
  have hb : inB (nI s) 4 = true := inB_n hs4 (by decide)
  have w1 := hw.1.1
  have G := up_to (n := L) (i := 0) (G := fun i => Wq none 4 120 60 [(0, .ref 0), (1, .int (nI m)), (3, .ref (168 + 2 * s)), (4, .int (nI L)), (5, .int (nI i))] [] (wr1 di (169 + 2 * s) 0 i (fun i => cutI f (worn t (Qm t m) i))) dl (RI K)) ?_ ?_ (Nat.zero_le _)
  · rw [wr1_0] at G
    exact G
  · have h := r_120_60 (j3 := nI s) hb (x1 := nI m) (x4 := nI L) (x5 := nI L) (di := wr1 di (169 + 2 * s) 0 L (fun i => cutI f (worn t (Qm t m) i))) (dl := dl) (K := K)
    rw [nI_clamp (by omega)] at h
    exact h (pk1 ⟨Int32.le_refl _, fun z => absurd (Int32.le_refl _) (Int32.not_le.mpr z)⟩ kk)
  · intro i hi ih
    have h := r_120_60 (j3 := nI s) hb (x1 := nI m) (x4 := nI L) (x5 := nI i) (di := wr1 di (169 + 2 * s) 0 i (fun i => cutI f (worn t (Qm t m) i))) (dl := dl) (K := K)
    rw [nI_clamp (by omega)] at h
    refine h (pk2 ⟨fun z => absurd (nI_lt hi (by omega)) (Int32.not_lt.mpr z), nI_lt hi (by omega)⟩ ?_)
    refine c_68 (Wv_cong hw (fun a k z1 z2 => wr1_na (by omega)) hv) hw hm (by omega) ?_
    refine c_42 (f := f) (n := n) hs4 hf3 (by rw [wr1_na (by omega)]; exact hf) hn (by rw [wr1_na (by omega)]; exact h5) (by omega) _ ?_
    have e := wr1_s (d := di) (b := 169 + 2 * s) (o := 0) (n := i) (w := fun i => cutI f (worn t (Qm t m) i))
    rw [Nat.zero_add] at e
    rw [e, nI_1]
    exact ih
theorem l_215 {q : tClo} (hw : Wt t) (h9 : N9 t q di) {s f L : Nat} (hs4 : s < 4) (hf3 : f < 3) (hf : di 177 s = nI f) (hL : L ≤ 60) (hL2 : L ≤ nS t) {K : Int32 → tDi → tDl → Prop} (kk : K (nI L) (wr1 di 179 (60 * s) L (fun i => cutI f (worn t q i))) dl) : Wq none 7 215 61 [(0, .ref 176), (2, .int (nI s)), (3, .int (nI L)), (4, .int 0)] [] di dl (RI K) := by
  have w1 := hw.1.1
  have G := up_to (n := L) (i := 0) (G := fun i => Wq none 7 215 61 [(0, .ref 176), (2, .int (nI s)), (3, .int (nI L)), (4, .int (nI i))] [] (wr1 di 179 (60 * s) i (fun i => cutI f (worn t q i))) dl (RI K)) ?_ ?_ (Nat.zero_le _)
  · rw [wr1_0] at G
    exact G
  · exact r_215_61 (pk1 ⟨Int32.le_refl _, fun z => absurd (Int32.le_refl _) (Int32.not_le.mpr z)⟩ kk)
  · intro i hi ih
    have e1 : wr1 di 179 (60 * s) i (fun i => cutI f (worn t q i)) 177 s = nI f := by rw [wr1_na (by omega)]; exact hf
    have e2 : wr1 di 179 (60 * s) i (fun i => cutI f (worn t q i)) 189 i = worn t q i := by rw [wr1_na (by omega)]; exact h9 i (by omega)
    have e := wr1_s (d := di) (b := 179) (o := 60 * s) (n := i) (w := fun i => cutI f (worn t q i))
    rw [← e] at ih
    refine r_215_61 (pk2 ⟨fun z => absurd (nI_lt hi (by omega)) (Int32.not_lt.mpr z), nI_lt hi (by omega)⟩ ?_)
    rw [nI_clamp (show s < 2 ^ 31 by omega), nI_clamp (show i < 2 ^ 31 by omega), e1, e2, nI_m60, nI_add, nI_clamp (by omega), nI_1]
    refine ⟨inB_n hs4 (by decide), inB_n (by omega) (by decide), ?_⟩
    have i1 : inB (nI (60 * s + i)) 240 = true := inB_n (by omega) (by decide)
    unfold cutI at ih
    rcases (by omega : f = 0 ∨ f = 1 ∨ f = 2) with rfl | rfl | rfl
    · exact pk2 (by decide) ⟨i1, ih⟩
    · exact pk1 (by decide) (pk2 (by decide) ⟨i1, ih⟩)
    · exact pk1 (by decide) (pk1 (by decide) ⟨i1, ih⟩)
theorem k_120b {K : Int32 → tDi → tDl → Prop} (hw : Wt t) (hc : Cw t di) (a b : Int32) (h : a.toInt < 0 ∨ ((nM t + 1 : Nat) : Int) ≤ a.toInt ∨ b.toInt < 0 ∨ ((4 : Nat) : Int) ≤ b.toInt) (kk : K (-2) di dl) : ClI 4 120 [.ref 0, .int a, .int b] di dl K := by
  have w3 := hw.1.2.2.1
  have c3 := hc.1.2.2.1.1
  refine r_120 ?_
  rcases ixi b 4 (by omega) with hb | hb | ⟨s, hs4, rfl⟩
  · by_cases a0 : a.toInt < 0
    · simp (disch := omega) only [true_imp_iff, false_imp_iff, not_true_eq_false, not_false_eq_true, and_true, true_and, Int32.reduceToInt, Int64.reduceToInt, Int32.reduceAdd, fa_lt, fa_le, fa_eq, cmi_lt, cmi_le, cmi_gt, cmi_ge, cmi_eq, fa_lt64, fa_le64, fa_eq64, Int32.toInt_toInt64, nI_toInt, ti_m1, sub1_ti, inB_iff, nI_clamp, Int32.add_zero, nI_1, nI_add, nI_p2, nI_p3, nI_p4, nI_p5, nI_p6, nI_p8, nI_p9, nI_p10, nI_m3, nI_m4, nI_m5, nI_m6, nI_m8, nI_m10, nI_m31, nI_m48, nI_m60, nI_m256, nI_t5, nI_t6, nI_a1, nI_a48, nI_a96, nI_d5, nI_d6, nI_d8, nI_d10, nI_d20, nI_s1, nI_s48, pk_sub, c3]
      repeat (first | (with_reducible refine pk1 ?_ ?_; omega) | (with_reducible refine pk2 ?_ ?_; omega) | (with_reducible refine bd1 ?_ ?_; omega))
      exact kk
    by_cases a1 : ((nM t + 1 : Nat) : Int) ≤ a.toInt
    · simp (disch := omega) only [true_imp_iff, false_imp_iff, not_true_eq_false, not_false_eq_true, and_true, true_and, Int32.reduceToInt, Int64.reduceToInt, Int32.reduceAdd, fa_lt, fa_le, fa_eq, cmi_lt, cmi_le, cmi_gt, cmi_ge, cmi_eq, fa_lt64, fa_le64, fa_eq64, Int32.toInt_toInt64, nI_toInt, ti_m1, sub1_ti, inB_iff, nI_clamp, Int32.add_zero, nI_1, nI_add, nI_p2, nI_p3, nI_p4, nI_p5, nI_p6, nI_p8, nI_p9, nI_p10, nI_m3, nI_m4, nI_m5, nI_m6, nI_m8, nI_m10, nI_m31, nI_m48, nI_m60, nI_m256, nI_t5, nI_t6, nI_a1, nI_a48, nI_a96, nI_d5, nI_d6, nI_d8, nI_d10, nI_d20, nI_s1, nI_s48, pk_sub, c3]
      repeat (first | (with_reducible refine pk1 ?_ ?_; omega) | (with_reducible refine pk2 ?_ ?_; omega) | (with_reducible refine bd1 ?_ ?_; omega))
      exact kk
    · simp (disch := omega) only [true_imp_iff, false_imp_iff, not_true_eq_false, not_false_eq_true, and_true, true_and, Int32.reduceToInt, Int64.reduceToInt, Int32.reduceAdd, fa_lt, fa_le, fa_eq, cmi_lt, cmi_le, cmi_gt, cmi_ge, cmi_eq, fa_lt64, fa_le64, fa_eq64, Int32.toInt_toInt64, nI_toInt, ti_m1, sub1_ti, inB_iff, nI_clamp, Int32.add_zero, nI_1, nI_add, nI_p2, nI_p3, nI_p4, nI_p5, nI_p6, nI_p8, nI_p9, nI_p10, nI_m3, nI_m4, nI_m5, nI_m6, nI_m8, nI_m10, nI_m31, nI_m48, nI_m60, nI_m256, nI_t5, nI_t6, nI_a1, nI_a48, nI_a96, nI_d5, nI_d6, nI_d8, nI_d10, nI_d20, nI_s1, nI_s48, pk_sub, c3]
      repeat (first | (with_reducible refine pk1 ?_ ?_; omega) | (with_reducible refine pk2 ?_ ?_; omega) | (with_reducible refine bd1 ?_ ?_; omega))
      exact kk
  · by_cases a0 : a.toInt < 0
    · simp (disch := omega) only [true_imp_iff, false_imp_iff, not_true_eq_false, not_false_eq_true, and_true, true_and, Int32.reduceToInt, Int64.reduceToInt, Int32.reduceAdd, fa_lt, fa_le, fa_eq, cmi_lt, cmi_le, cmi_gt, cmi_ge, cmi_eq, fa_lt64, fa_le64, fa_eq64, Int32.toInt_toInt64, nI_toInt, ti_m1, sub1_ti, inB_iff, nI_clamp, Int32.add_zero, nI_1, nI_add, nI_p2, nI_p3, nI_p4, nI_p5, nI_p6, nI_p8, nI_p9, nI_p10, nI_m3, nI_m4, nI_m5, nI_m6, nI_m8, nI_m10, nI_m31, nI_m48, nI_m60, nI_m256, nI_t5, nI_t6, nI_a1, nI_a48, nI_a96, nI_d5, nI_d6, nI_d8, nI_d10, nI_d20, nI_s1, nI_s48, pk_sub, c3]
      repeat (first | (with_reducible refine pk1 ?_ ?_; omega) | (with_reducible refine pk2 ?_ ?_; omega) | (with_reducible refine bd1 ?_ ?_; omega))
      exact kk
    by_cases a1 : ((nM t + 1 : Nat) : Int) ≤ a.toInt
    · simp (disch := omega) only [true_imp_iff, false_imp_iff, not_true_eq_false, not_false_eq_true, and_true, true_and, Int32.reduceToInt, Int64.reduceToInt, Int32.reduceAdd, fa_lt, fa_le, fa_eq, cmi_lt, cmi_le, cmi_gt, cmi_ge, cmi_eq, fa_lt64, fa_le64, fa_eq64, Int32.toInt_toInt64, nI_toInt, ti_m1, sub1_ti, inB_iff, nI_clamp, Int32.add_zero, nI_1, nI_add, nI_p2, nI_p3, nI_p4, nI_p5, nI_p6, nI_p8, nI_p9, nI_p10, nI_m3, nI_m4, nI_m5, nI_m6, nI_m8, nI_m10, nI_m31, nI_m48, nI_m60, nI_m256, nI_t5, nI_t6, nI_a1, nI_a48, nI_a96, nI_d5, nI_d6, nI_d8, nI_d10, nI_d20, nI_s1, nI_s48, pk_sub, c3]
      repeat (first | (with_reducible refine pk1 ?_ ?_; omega) | (with_reducible refine pk2 ?_ ?_; omega) | (with_reducible refine bd1 ?_ ?_; omega))
      exact kk
    · simp (disch := omega) only [true_imp_iff, false_imp_iff, not_true_eq_false, not_false_eq_true, and_true, true_and, Int32.reduceToInt, Int64.reduceToInt, Int32.reduceAdd, fa_lt, fa_le, fa_eq, cmi_lt, cmi_le, cmi_gt, cmi_ge, cmi_eq, fa_lt64, fa_le64, fa_eq64, Int32.toInt_toInt64, nI_toInt, ti_m1, sub1_ti, inB_iff, nI_clamp, Int32.add_zero, nI_1, nI_add, nI_p2, nI_p3, nI_p4, nI_p5, nI_p6, nI_p8, nI_p9, nI_p10, nI_m3, nI_m4, nI_m5, nI_m6, nI_m8, nI_m10, nI_m31, nI_m48, nI_m60, nI_m256, nI_t5, nI_t6, nI_a1, nI_a48, nI_a96, nI_d5, nI_d6, nI_d8, nI_d10, nI_d20, nI_s1, nI_s48, pk_sub, c3]
      repeat (first | (with_reducible refine pk1 ?_ ?_; omega) | (with_reducible refine pk2 ?_ ?_; omega) | (with_reducible refine bd1 ?_ ?_; omega))
      exact kk
  · rw [nI_toInt (by omega)] at h
    by_cases a0 : a.toInt < 0
    · simp (disch := omega) only [true_imp_iff, false_imp_iff, not_true_eq_false, not_false_eq_true, and_true, true_and, Int32.reduceToInt, Int64.reduceToInt, Int32.reduceAdd, fa_lt, fa_le, fa_eq, cmi_lt, cmi_le, cmi_gt, cmi_ge, cmi_eq, fa_lt64, fa_le64, fa_eq64, Int32.toInt_toInt64, nI_toInt, ti_m1, sub1_ti, inB_iff, nI_clamp, Int32.add_zero, nI_1, nI_add, nI_p2, nI_p3, nI_p4, nI_p5, nI_p6, nI_p8, nI_p9, nI_p10, nI_m3, nI_m4, nI_m5, nI_m6, nI_m8, nI_m10, nI_m31, nI_m48, nI_m60, nI_m256, nI_t5, nI_t6, nI_a1, nI_a48, nI_a96, nI_d5, nI_d6, nI_d8, nI_d10, nI_d20, nI_s1, nI_s48, pk_sub, c3]
      repeat (first | (with_reducible refine pk1 ?_ ?_; omega) | (with_reducible refine pk2 ?_ ?_; omega) | (with_reducible refine bd1 ?_ ?_; omega))
      exact kk
    · simp (disch := omega) only [true_imp_iff, false_imp_iff, not_true_eq_false, not_false_eq_true, and_true, true_and, Int32.reduceToInt, Int64.reduceToInt, Int32.reduceAdd, fa_lt, fa_le, fa_eq, cmi_lt, cmi_le, cmi_gt, cmi_ge, cmi_eq, fa_lt64, fa_le64, fa_eq64, Int32.toInt_toInt64, nI_toInt, ti_m1, sub1_ti, inB_iff, nI_clamp, Int32.add_zero, nI_1, nI_add, nI_p2, nI_p3, nI_p4, nI_p5, nI_p6, nI_p8, nI_p9, nI_p10, nI_m3, nI_m4, nI_m5, nI_m6, nI_m8, nI_m10, nI_m31, nI_m48, nI_m60, nI_m256, nI_t5, nI_t6, nI_a1, nI_a48, nI_a96, nI_d5, nI_d6, nI_d8, nI_d10, nI_d20, nI_s1, nI_s48, pk_sub, c3]
      repeat (first | (with_reducible refine pk1 ?_ ?_; omega) | (with_reducible refine pk2 ?_ ?_; omega) | (with_reducible refine bd1 ?_ ?_; omega))
      exact kk
theorem k_215b {K : Int32 → tDi → tDl → Prop} (hx : Itx di) (hs : Ise di) (hw : Wt t) (hc : Cs t di) (a b : Int32) (h : a.toInt < 0 ∨ ((nM t + 1 : Nat) : Int) ≤ a.toInt ∨ b.toInt < 0 ∨ ((4 : Nat) : Int) ≤ b.toInt) (kk : ∀ d, Fm di d → K (-2) d dl) : ClI 7 215 [.ref 176, .int a, .int b] di dl K := by
  have w3 := hw.1.2.2.1
  refine r_215 (c_163 hx hs hw hc ?_)
  intro d hr fm
  have kb := kk d fm
  have d3 := hr.2.2.1
  by_cases a0 : a.toInt < 0
  · simp (disch := omega) only [true_imp_iff, false_imp_iff, not_true_eq_false, not_false_eq_true, and_true, true_and, Int32.reduceToInt, Int64.reduceToInt, Int32.reduceAdd, fa_lt, fa_le, fa_eq, cmi_lt, cmi_le, cmi_gt, cmi_ge, cmi_eq, fa_lt64, fa_le64, fa_eq64, Int32.toInt_toInt64, nI_toInt, ti_m1, sub1_ti, inB_iff, nI_clamp, Int32.add_zero, nI_1, nI_add, nI_p2, nI_p3, nI_p4, nI_p5, nI_p6, nI_p8, nI_p9, nI_p10, nI_m3, nI_m4, nI_m5, nI_m6, nI_m8, nI_m10, nI_m31, nI_m48, nI_m60, nI_m256, nI_t5, nI_t6, nI_a1, nI_a48, nI_a96, nI_d5, nI_d6, nI_d8, nI_d10, nI_d20, nI_s1, nI_s48, pk_sub, d3]
    repeat (first | (with_reducible refine pk1 ?_ ?_; omega) | (with_reducible refine pk2 ?_ ?_; omega) | (with_reducible refine bd1 ?_ ?_; omega))
    exact kb
  by_cases a1 : ((nM t + 1 : Nat) : Int) ≤ a.toInt
  · simp (disch := omega) only [true_imp_iff, false_imp_iff, not_true_eq_false, not_false_eq_true, and_true, true_and, Int32.reduceToInt, Int64.reduceToInt, Int32.reduceAdd, fa_lt, fa_le, fa_eq, cmi_lt, cmi_le, cmi_gt, cmi_ge, cmi_eq, fa_lt64, fa_le64, fa_eq64, Int32.toInt_toInt64, nI_toInt, ti_m1, sub1_ti, inB_iff, nI_clamp, Int32.add_zero, nI_1, nI_add, nI_p2, nI_p3, nI_p4, nI_p5, nI_p6, nI_p8, nI_p9, nI_p10, nI_m3, nI_m4, nI_m5, nI_m6, nI_m8, nI_m10, nI_m31, nI_m48, nI_m60, nI_m256, nI_t5, nI_t6, nI_a1, nI_a48, nI_a96, nI_d5, nI_d6, nI_d8, nI_d10, nI_d20, nI_s1, nI_s48, pk_sub, d3]
    repeat (first | (with_reducible refine pk1 ?_ ?_; omega) | (with_reducible refine pk2 ?_ ?_; omega) | (with_reducible refine bd1 ?_ ?_; omega))
    exact kb
  by_cases b0 : b.toInt < 0
  · simp (disch := omega) only [true_imp_iff, false_imp_iff, not_true_eq_false, not_false_eq_true, and_true, true_and, Int32.reduceToInt, Int64.reduceToInt, Int32.reduceAdd, fa_lt, fa_le, fa_eq, cmi_lt, cmi_le, cmi_gt, cmi_ge, cmi_eq, fa_lt64, fa_le64, fa_eq64, Int32.toInt_toInt64, nI_toInt, ti_m1, sub1_ti, inB_iff, nI_clamp, Int32.add_zero, nI_1, nI_add, nI_p2, nI_p3, nI_p4, nI_p5, nI_p6, nI_p8, nI_p9, nI_p10, nI_m3, nI_m4, nI_m5, nI_m6, nI_m8, nI_m10, nI_m31, nI_m48, nI_m60, nI_m256, nI_t5, nI_t6, nI_a1, nI_a48, nI_a96, nI_d5, nI_d6, nI_d8, nI_d10, nI_d20, nI_s1, nI_s48, pk_sub, d3]
    repeat (first | (with_reducible refine pk1 ?_ ?_; omega) | (with_reducible refine pk2 ?_ ?_; omega) | (with_reducible refine bd1 ?_ ?_; omega))
    exact kb
  · simp (disch := omega) only [true_imp_iff, false_imp_iff, not_true_eq_false, not_false_eq_true, and_true, true_and, Int32.reduceToInt, Int64.reduceToInt, Int32.reduceAdd, fa_lt, fa_le, fa_eq, cmi_lt, cmi_le, cmi_gt, cmi_ge, cmi_eq, fa_lt64, fa_le64, fa_eq64, Int32.toInt_toInt64, nI_toInt, ti_m1, sub1_ti, inB_iff, nI_clamp, Int32.add_zero, nI_1, nI_add, nI_p2, nI_p3, nI_p4, nI_p5, nI_p6, nI_p8, nI_p9, nI_p10, nI_m3, nI_m4, nI_m5, nI_m6, nI_m8, nI_m10, nI_m31, nI_m48, nI_m60, nI_m256, nI_t5, nI_t6, nI_a1, nI_a48, nI_a96, nI_d5, nI_d6, nI_d8, nI_d10, nI_d20, nI_s1, nI_s48, pk_sub, d3]
    repeat (first | (with_reducible refine pk1 ?_ ?_; omega) | (with_reducible refine pk2 ?_ ?_; omega) | (with_reducible refine bd1 ?_ ?_; omega))
    exact kb
theorem imin_n {a b : Nat} (ha : a < 2 ^ 31) (hb : b < 2 ^ 31) : imin (nI a) (nI b) = nI (min a b) := by
  unfold imin
  by_cases h : b < a
  · rw [if_pos (nI_lt h ha), Nat.min_eq_right (by omega)]
  · rw [if_neg (nI_nlt (by omega) hb), Nat.min_eq_left (by omega)]
theorem k_120o {K : Int32 → tDi → tDl → Prop} (hw : Wt t) (hc : Cw t di) {m s f n : Nat} (hm : m ≤ nM t) (hs4 : s < 4) (hf3 : f < 3) (hf : di (168 + 2 * s) 1 = nI f) (hn : n ≤ 60) (h5 : di (168 + 2 * s) 2 = nI n) (kk : ∀ d, Cw t d → FC di d → K (nI (min n (nS t))) (wr1 d (169 + 2 * s) 0 (min n (nS t)) (fun i => cutI f (worn t (Qm t m) i))) dl) : ClI 4 120 [.ref 0, .int (nI m), .int (nI s)] di dl K := by
  have w1 := hw.1.1
  have w3 := hw.1.2.2.1
  have c3 := hc.1.2.2.1.1
  refine r_120 ?_
  simp (disch := omega) only [true_imp_iff, false_imp_iff, not_true_eq_false, not_false_eq_true, and_true, true_and, Int32.reduceToInt, Int64.reduceToInt, Int32.reduceAdd, fa_lt, fa_le, fa_eq, cmi_lt, cmi_le, cmi_gt, cmi_ge, cmi_eq, fa_lt64, fa_le64, fa_eq64, Int32.toInt_toInt64, nI_toInt, ti_m1, sub1_ti, inB_iff, nI_clamp, Int32.add_zero, nI_1, nI_add, nI_p2, nI_p3, nI_p4, nI_p5, nI_p6, nI_p8, nI_p9, nI_p10, nI_m3, nI_m4, nI_m5, nI_m6, nI_m8, nI_m10, nI_m31, nI_m48, nI_m60, nI_m256, nI_t5, nI_t6, nI_a1, nI_a48, nI_a96, nI_d5, nI_d6, nI_d8, nI_d10, nI_d20, nI_s1, nI_s48, pk_sub, c3, hf]
  repeat (first | (with_reducible refine pk1 ?_ ?_; omega) | (with_reducible refine pk2 ?_ ?_; omega) | (with_reducible refine bd1 ?_ ?_; omega))
  refine c_upd hw hc ?_
  intro d hv hd cw fc
  have e1 : d (168 + 2 * s) 1 = nI f := by rw [fc _ _ (by omega) (by omega) (by omega) (by omega) (by omega)]; exact hf
  have e2 : d (168 + 2 * s) 2 = nI n := by rw [fc _ _ (by omega) (by omega) (by omega) (by omega) (by omega)]; exact h5
  rw [e2, hd.1.1, imin_n (by omega) (by omega)]
  exact l_120 hv hw hm hs4 hf3 e1 hn e2 (Nat.min_le_left _ _) (Nat.min_le_right _ _) (kk d cw fc)
theorem k_120l {K : Int32 → tDi → tDl → Prop} (hw : Wt t) (hc : Cw t di) {m s : Nat} (hm : m ≤ nM t) (hs4 : s < 4) (hf : di (168 + 2 * s) 1 = -1) (kk : K (-10 - 1) (up2 di 0 10 1) dl) : ClI 4 120 [.ref 0, .int (nI m), .int (nI s)] di dl K := by
  have w3 := hw.1.2.2.1
  have c3 := hc.1.2.2.1.1
  refine r_120 ?_
  simp (disch := omega) only [true_imp_iff, false_imp_iff, not_true_eq_false, not_false_eq_true, and_true, true_and, Int32.reduceToInt, Int64.reduceToInt, Int32.reduceAdd, fa_lt, fa_le, fa_eq, cmi_lt, cmi_le, cmi_gt, cmi_ge, cmi_eq, fa_lt64, fa_le64, fa_eq64, Int32.toInt_toInt64, nI_toInt, ti_m1, sub1_ti, inB_iff, nI_clamp, Int32.add_zero, nI_1, nI_add, nI_p2, nI_p3, nI_p4, nI_p5, nI_p6, nI_p8, nI_p9, nI_p10, nI_m3, nI_m4, nI_m5, nI_m6, nI_m8, nI_m10, nI_m31, nI_m48, nI_m60, nI_m256, nI_t5, nI_t6, nI_a1, nI_a48, nI_a96, nI_d5, nI_d6, nI_d8, nI_d10, nI_d20, nI_s1, nI_s48, pk_sub, c3, hf]
  repeat (first | (with_reducible refine pk1 ?_ ?_; omega) | (with_reducible refine pk2 ?_ ?_; omega) | (with_reducible refine bd1 ?_ ?_; omega))
  exact kk
theorem k_215l {K : Int32 → tDi → tDl → Prop} (hx : Itx di) (hs : Ise di) (hw : Wt t) (hc : Cs t di) {m s : Nat} (hm : m ≤ nM t) (hs4 : s < 4) (hf : di 177 s = -1) (kk : ∀ d, Fm di d → K (-10 - 1) (up2 d 176 4 1) dl) : ClI 7 215 [.ref 176, .int (nI m), .int (nI s)] di dl K := by
  have w3 := hw.1.2.2.1
  refine r_215 (c_163 hx hs hw hc ?_)
  intro d hr fm
  have kb := kk d fm
  have d3 := hr.2.2.1
  have e1 : d 177 s = -1 := by rw [fm _ _ (by omega) (by omega)]; exact hf
  simp (disch := omega) only [true_imp_iff, false_imp_iff, not_true_eq_false, not_false_eq_true, and_true, true_and, Int32.reduceToInt, Int64.reduceToInt, Int32.reduceAdd, fa_lt, fa_le, fa_eq, cmi_lt, cmi_le, cmi_gt, cmi_ge, cmi_eq, fa_lt64, fa_le64, fa_eq64, Int32.toInt_toInt64, nI_toInt, ti_m1, sub1_ti, inB_iff, nI_clamp, Int32.add_zero, nI_1, nI_add, nI_p2, nI_p3, nI_p4, nI_p5, nI_p6, nI_p8, nI_p9, nI_p10, nI_m3, nI_m4, nI_m5, nI_m6, nI_m8, nI_m10, nI_m31, nI_m48, nI_m60, nI_m256, nI_t5, nI_t6, nI_a1, nI_a48, nI_a96, nI_d5, nI_d6, nI_d8, nI_d10, nI_d20, nI_s1, nI_s48, pk_sub, d3, e1]
  repeat (first | (with_reducible refine pk1 ?_ ?_; omega) | (with_reducible refine pk2 ?_ ?_; omega) | (with_reducible refine bd1 ?_ ?_; omega))
  exact kb
theorem k_215o {K : Int32 → tDi → tDl → Prop} (hx : Itx di) (hs : Ise di) (hw : Wt t) (hc : Cs t di) {m s f n : Nat} (hm : m ≤ nM t) (hs4 : s < 4) (hf3 : f < 3) (hf : di 177 s = nI f) (hn : n ≤ 60) (h5 : di 178 s = nI n) (kk : ∀ d, FM di d → K (nI (min n (nS t))) (wr1 d 179 (60 * s) (min n (nS t)) (fun i => cutI f (worn t (Qm t m) i))) dl) : ClI 7 215 [.ref 176, .int (nI m), .int (nI s)] di dl K := by
  have w1 := hw.1.1
  have w3 := hw.1.2.2.1
  refine r_215 (c_163 hx hs hw hc ?_)
  intro d hr fm
  have d3 := hr.2.2.1
  have e1 : d 177 s = nI f := by rw [fm _ _ (by omega) (by omega)]; exact hf
  simp (disch := omega) only [true_imp_iff, false_imp_iff, not_true_eq_false, not_false_eq_true, and_true, true_and, Int32.reduceToInt, Int64.reduceToInt, Int32.reduceAdd, fa_lt, fa_le, fa_eq, cmi_lt, cmi_le, cmi_gt, cmi_ge, cmi_eq, fa_lt64, fa_le64, fa_eq64, Int32.toInt_toInt64, nI_toInt, ti_m1, sub1_ti, inB_iff, nI_clamp, Int32.add_zero, nI_1, nI_add, nI_p2, nI_p3, nI_p4, nI_p5, nI_p6, nI_p8, nI_p9, nI_p10, nI_m3, nI_m4, nI_m5, nI_m6, nI_m8, nI_m10, nI_m31, nI_m48, nI_m60, nI_m256, nI_t5, nI_t6, nI_a1, nI_a48, nI_a96, nI_d5, nI_d6, nI_d8, nI_d10, nI_d20, nI_s1, nI_s48, pk_sub, d3, e1]
  repeat (first | (with_reducible refine pk1 ?_ ?_; omega) | (with_reducible refine pk2 ?_ ?_; omega) | (with_reducible refine bd1 ?_ ?_; omega))
  refine c_lives hw hr (by omega) ?_
  intro e h8 h9 hre fi
  have kb := kk e (FM_of fm fi)
  have g1 : e 177 s = nI f := by rw [fi _ _ (by omega)]; exact e1
  have g2 : e 178 s = nI n := by rw [fi _ _ (by omega), fm _ _ (by omega) (by omega)]; exact h5
  have g3 := hre.1
  by_cases h : nS t ≤ n
  · rw [Nat.min_eq_right h] at kb
    simp (disch := omega) only [true_imp_iff, false_imp_iff, not_true_eq_false, not_false_eq_true, and_true, true_and, Int32.reduceToInt, Int64.reduceToInt, Int32.reduceAdd, fa_lt, fa_le, fa_eq, cmi_lt, cmi_le, cmi_gt, cmi_ge, cmi_eq, fa_lt64, fa_le64, fa_eq64, Int32.toInt_toInt64, nI_toInt, ti_m1, sub1_ti, inB_iff, nI_clamp, Int32.add_zero, nI_1, nI_add, nI_p2, nI_p3, nI_p4, nI_p5, nI_p6, nI_p8, nI_p9, nI_p10, nI_m3, nI_m4, nI_m5, nI_m6, nI_m8, nI_m10, nI_m31, nI_m48, nI_m60, nI_m256, nI_t5, nI_t6, nI_a1, nI_a48, nI_a96, nI_d5, nI_d6, nI_d8, nI_d10, nI_d20, nI_s1, nI_s48, pk_sub, g2, g3]
    repeat (first | (with_reducible refine pk1 ?_ ?_; omega) | (with_reducible refine pk2 ?_ ?_; omega) | (with_reducible refine bd1 ?_ ?_; omega))
    exact l_215 hw h9 hs4 hf3 g1 (by omega) (Nat.le_refl _) kb
  · rw [Nat.min_eq_left (by omega)] at kb
    simp (disch := omega) only [true_imp_iff, false_imp_iff, not_true_eq_false, not_false_eq_true, and_true, true_and, Int32.reduceToInt, Int64.reduceToInt, Int32.reduceAdd, fa_lt, fa_le, fa_eq, cmi_lt, cmi_le, cmi_gt, cmi_ge, cmi_eq, fa_lt64, fa_le64, fa_eq64, Int32.toInt_toInt64, nI_toInt, ti_m1, sub1_ti, inB_iff, nI_clamp, Int32.add_zero, nI_1, nI_add, nI_p2, nI_p3, nI_p4, nI_p5, nI_p6, nI_p8, nI_p9, nI_p10, nI_m3, nI_m4, nI_m5, nI_m6, nI_m8, nI_m10, nI_m31, nI_m48, nI_m60, nI_m256, nI_t5, nI_t6, nI_a1, nI_a48, nI_a96, nI_d5, nI_d6, nI_d8, nI_d10, nI_d20, nI_s1, nI_s48, pk_sub, g2, g3]
    repeat (first | (with_reducible refine pk1 ?_ ?_; omega) | (with_reducible refine pk2 ?_ ?_; omega) | (with_reducible refine bd1 ?_ ?_; omega))
    exact l_215 hw h9 hs4 hf3 g1 (by omega) (by omega) kb
theorem Cs_0 {v : Int32} (hc : Cs t di) : Cs t (up2 di 0 10 v) := by
  obtain ⟨⟨a1, l1, a2, a3, a4, a5⟩, ⟨b1, l2, b2, b3, b4, b5⟩, ⟨c1, l3, c2, c3, c4, c5⟩, e1, e2⟩ := hc
  have q : ∀ a k, 0 < a → up2 di 0 10 v a k = di a k := fun a k h => up_na (by omega)
  refine ⟨⟨?_, l1, a2, ?_, a4, fun k hk => ?_⟩, ⟨?_, l2, b2, ?_, b4, fun k hk => ?_⟩, ⟨?_, l3, c2, ?_, c4, fun k hk => ?_⟩, ?_, ?_⟩
  · rw [q _ _ (by omega)]; exact a1
  · rw [q _ _ (by omega)]; exact a3
  · rw [q _ _ (by omega), q _ _ (by omega), q _ _ (by omega), q _ _ (by omega)]; exact a5 k hk
  · rw [q _ _ (by omega)]; exact b1
  · rw [q _ _ (by omega)]; exact b3
  · rw [q _ _ (by omega), q _ _ (by omega), q _ _ (by omega), q _ _ (by omega), q _ _ (by omega)]; exact b5 k hk
  · rw [q _ _ (by omega)]; exact c1
  · rw [q _ _ (by omega)]; exact c3
  · rw [q _ _ (by omega)]; exact c5 k hk
  · rw [q _ _ (by omega)]; exact e1
  · rw [q _ _ (by omega)]; exact e2
theorem Cw_0 {v : Int32} (hw : Wt t) (hc : Cw t di) : Cw t (up2 di 0 10 v) := by
  refine ⟨Cs_0 hc.1, ?_⟩
  rcases hc.2 with z | z
  · left
    rw [up_na (by omega)]
    exact z
  · exact Or.inr (Wv_cong hw (fun a k z1 z2 => up_na (by omega)) z)
/-- both worlds found the same -/
theorem INV_f {dl' : tDl} {v : Int32} (H : INV di dl) : INV (up2 (up2 di 0 10 v) 176 4 v) dl' := by
  obtain ⟨t, hw, hcw⟩ := INV_t H
  obtain ⟨h1, h2, h3, h4, h5, h6, h7⟩ := H
  obtain ⟨f1, f2, f3⟩ := find2 (v := v) h2
  have q : ∀ a k, ¬ (a = 0 ∧ k = 10) → ¬ (a = 176 ∧ k = 4) → up2 (up2 di 0 10 v) 176 4 v a k = di a k := by
    intro a k z1 z2
    unfold up2
    rw [if_neg z2, if_neg z1]
  refine ⟨?_, f1, f2, ?_, ?_, ?_, ?_⟩
  · exact Itx_cong (fun a k z1 z2 => q a k (by omega) (by omega)) (fun k => q _ k (by omega) (by omega)) (fun k => q _ k (by omega) (by omega)) h1
  · exact Ini_cong (q _ _ (by omega) (by omega)) (q _ _ (by omega) (by omega)) (fun a ha k => q a k (by omega) (by omega)) h4
  · exact Ise_cong (q _ _ (by omega) (by omega)) (q _ _ (by omega) (by omega)) (fun k => q _ k (by omega) (by omega)) h5
  · have c0 := Cw_0 (v := v) hw hcw
    exact Cw_iw hw (Cw_cong hw (fun a k z => up_na (by omega)) c0)
  · intro u hu
    rw [q _ _ (by omega) (by omega)]
    exact h7 u hu
theorem p_write (H : INV di dl) (a b : Int32) : ClI 4 120 [.ref 0, .int a, .int b] di dl (fun r d1 l1 => ClI 7 215 [.ref 176, .int a, .int b] d1 l1 (fun r' d2 l2 => r = r' ∧ INV d2 l2)) := by
  obtain ⟨t, hw, hcw⟩ := INV_t H
  have w3 := hw.1.2.2.1
  obtain ⟨hx, hsh, hla, hin, hse, hiw, h154⟩ := id H
  by_cases hbad : a.toInt < 0 ∨ ((nM t + 1 : Nat) : Int) ≤ a.toInt ∨ b.toInt < 0 ∨ ((4 : Nat) : Int) ≤ b.toInt
  · refine k_120b hw hcw a b hbad (k_215b hx hse hw hcw.1 a b hbad ?_)
    intro d fm
    exact ⟨rfl, INV_d H hw hcw FC_rf (FM_of fm FI_rf)⟩
  rcases ixi b 4 (by omega) with hb | hb | ⟨s, hs4, rfl⟩
  · omega
  · omega
  rcases ixi a (nM t + 1) (by omega) with ha | ha | ⟨m, hm, rfl⟩
  · omega
  · omega
  obtain ⟨g1, g2⟩ := hsh s hs4
  rcases g2 with g2 | ⟨⟨f, hf, g3⟩, n, hn, g4, g5, g6⟩
  · refine k_120l hw hcw (by omega) hs4 (g1.trans g2) ?_
    have fc0 : ∀ a k, ¬ (a = 0 ∧ k = 10) → up2 di 0 10 1 a k = di a k := fun a k z => if_neg z
    refine k_215l (t := t) ?_ ?_ hw (Cs_0 hcw.1) (by omega) hs4 (by rw [fc0 _ _ (by omega)]; exact g2) ?_
    · exact Itx_cong (fun a k z1 z2 => fc0 a k (by omega)) (fun k => fc0 _ k (by omega)) (fun k => fc0 _ k (by omega)) hx
    · exact Ise_cong (fc0 _ _ (by omega)) (fc0 _ _ (by omega)) (fun k => fc0 _ k (by omega)) hse
    · intro d fm
      refine ⟨rfl, ?_⟩
      have H2 := INV_f (v := 1) (dl' := dl) H
      -- d is the found state but for what reads changes
      refine INV_d (t := t) (d := up2 (up2 di 0 10 1) 176 4 1) H2 hw (Cw_cong hw (fun a k z => up_na (by omega)) (Cw_0 hw hcw)) FC_rf ?_
      intro a k z1 z2 z3
      by_cases e : a = 176 ∧ k = 4
      · unfold up2
        rw [if_pos e, if_pos e]
      · unfold up2
        rw [if_neg e, if_neg e]
        exact fm a k z1 z2
  · refine k_120o hw hcw (by omega) hs4 hf (g1.trans g3) hn g4 ?_
    intro d cwd fcd
    obtain ⟨rx, rs, rn, rl⟩ := INV_r H fcd
    have q : ∀ a k, ¬ a = 169 + 2 * s → wr1 d (169 + 2 * s) 0 (min n (nS t)) (fun i => cutI f (worn t (Qm t m) i)) a k = d a k := fun a k z => wr1_na z
    have qf : ∀ a k, 168 ≤ a → a < 180 → ¬ (a = 176 ∧ k = 7) → d a k = di a k := fun a k z1 z2 z3 => fcd a k (by omega) (by omega) (by omega) (by omega) (by omega)
    refine k_215o (t := t) ?_ ?_ hw ?_ (by omega) hs4 hf (by rw [q _ _ (by omega), qf _ _ (by omega) (by omega) (by omega)]; exact g3) hn (by rw [q _ _ (by omega), qf _ _ (by omega) (by omega) (by omega)]; exact g5) ?_
    · exact Itx_cong (fun a k z1 z2 => q a k (by omega)) (fun k => q _ k (by omega)) (fun k => q _ k (by omega)) rx
    · exact Ise_cong (q _ _ (by omega)) (q _ _ (by omega)) (fun k => q _ k (by omega)) rs
    · exact Cs_lo (fun a k z1 z2 => q a k (by omega)) cwd.1
    · intro e fe
      refine ⟨rfl, ?_⟩
      have Q : ∀ a k, ¬ (a = 8 ∧ k = 10) → ¬ (9 ≤ a ∧ a ≤ 153) → ¬ (155 ≤ a ∧ a ≤ 158) → ¬ (a = 159 ∧ k = 9) → ¬ (163 ≤ a ∧ a ≤ 166) → ¬ (a = 176 ∧ k = 7) → ¬ (183 ≤ a ∧ a ≤ 186) → a < 188 ∨ a = 193 → ¬ a = 169 + 2 * s → ¬ a = 179 → wr1 e 179 (60 * s) (min n (nS t)) (fun i => cutI f (worn t (Qm t m) i)) a k = di a k := by
        intro a k z1 z2 z3 z4 z5 z6 z7 z8 z9 z10
        rw [wr1_na z10, fe a k z6 z7 z8, q a k z9]
        exact fcd a k z1 z2 z3 z4 z5
      have S1 : ∀ k, wr1 e 179 (60 * s) (min n (nS t)) (fun i => cutI f (worn t (Qm t m) i)) (169 + 2 * s) k = if k < min n (nS t) then cutI f (worn t (Qm t m) k) else di (169 + 2 * s) k := by
        intro k
        rw [wr1_na (by omega), fe _ _ (by omega) (by omega) (by omega)]
        unfold wr1
        by_cases h : k < min n (nS t)
        · rw [if_pos ⟨rfl, by omega, by omega⟩, if_pos h]; rfl
        · rw [if_neg (fun z => by omega), if_neg h]
          exact fcd _ _ (by omega) (by omega) (by omega) (by omega) (by omega)
      have S2 : ∀ k, wr1 e 179 (60 * s) (min n (nS t)) (fun i => cutI f (worn t (Qm t m) i)) 179 k = if 60 * s ≤ k ∧ k < 60 * s + min n (nS t) then cutI f (worn t (Qm t m) (k - 60 * s)) else di 179 k := by
        intro k
        unfold wr1
        by_cases h : 60 * s ≤ k ∧ k < 60 * s + min n (nS t)
        · rw [if_pos ⟨rfl, h⟩, if_pos h]
        · rw [if_neg (fun z => h z.2), if_neg h, fe _ _ (by omega) (by omega) (by omega)]
          show wr1 d (169 + 2 * s) 0 (min n (nS t)) (fun i => cutI f (worn t (Qm t m) i)) 179 k = di 179 k
          rw [q _ _ (by omega)]
          exact fcd _ _ (by omega) (by omega) (by omega) (by omega) (by omega)
      refine ⟨?_, ?_, ?_, ?_, ?_, ?_, ?_⟩
      · exact Itx_cong (fun a k z1 z2 => Q a k (by omega) (by omega) (by omega) (by omega) (by omega) (by omega) (by omega) (by omega) (by omega) (by omega)) (fun k => Q _ k (by omega) (by omega) (by omega) (by omega) (by omega) (by omega) (by omega) (by omega) (by omega) (by omega)) (fun k => Q _ k (by omega) (by omega) (by omega) (by omega) (by omega) (by omega) (by omega) (by omega) (by omega) (by omega)) hx
      · intro u hu
        obtain ⟨k1, k2⟩ := hsh u hu
        unfold Sh1
        rw [Q _ _ (by omega) (by omega) (by omega) (by omega) (by omega) (by omega) (by omega) (by omega) (by omega) (by omega), Q _ _ (by omega) (by omega) (by omega) (by omega) (by omega) (by omega) (by omega) (by omega) (by omega) (by omega), Q _ _ (by omega) (by omega) (by omega) (by omega) (by omega) (by omega) (by omega) (by omega) (by omega) (by omega), Q _ _ (by omega) (by omega) (by omega) (by omega) (by omega) (by omega) (by omega) (by omega) (by omega) (by omega)]
        refine ⟨k1, k2.imp id ?_⟩
        rintro ⟨k3, n', k4, k6, k7, k8⟩
        refine ⟨k3, n', k4, k6, k7, fun i hi => ?_⟩
        rw [S2]
        by_cases eu : u = s
        · subst eu
          have en : n' = n := (nI_eq (by omega) (by omega)).mp (k6.symm.trans g4)
          subst en
          rw [S1]
          by_cases h : i < min n' (nS t)
          · rw [if_pos h, if_pos (by omega), Nat.add_sub_cancel_left]
          · rw [if_neg h, if_neg (by omega)]
            exact k8 i hi
        · rw [Q _ _ (by omega) (by omega) (by omega) (by omega) (by omega) (by omega) (by omega) (by omega) (by omega) (by omega), if_neg (by omega)]
          exact k8 i hi
      · exact Ila_cong (Q _ _ (by omega) (by omega) (by omega) (by omega) (by omega) (by omega) (by omega) (by omega) (by omega) (by omega)) (Q _ _ (by omega) (by omega) (by omega) (by omega) (by omega) (by omega) (by omega) (by omega) (by omega) (by omega)) hla
      · exact Ini_cong (Q _ _ (by omega) (by omega) (by omega) (by omega) (by omega) (by omega) (by omega) (by omega) (by omega) (by omega)) (Q _ _ (by omega) (by omega) (by omega) (by omega) (by omega) (by omega) (by omega) (by omega) (by omega) (by omega)) (fun a ha k => Q a k (by omega) (by omega) (by omega) (by omega) (by omega) (by omega) (by omega) (by omega) (by omega) (by omega)) hin
      · exact Ise_cong (Q _ _ (by omega) (by omega) (by omega) (by omega) (by omega) (by omega) (by omega) (by omega) (by omega) (by omega)) (Q _ _ (by omega) (by omega) (by omega) (by omega) (by omega) (by omega) (by omega) (by omega) (by omega) (by omega)) (fun k => Q _ k (by omega) (by omega) (by omega) (by omega) (by omega) (by omega) (by omega) (by omega) (by omega) (by omega)) hse
      · refine Cw_iw hw (Cw_cong hw (fun a k z => ?_) cwd)
        rw [wr1_na (by omega), fe _ _ (by omega) (by omega) (by omega)]
        exact q a k (by omega)
      · intro u hu
        rw [Q _ _ (by omega) (by omega) (by omega) (by omega) (by omega) (by omega) (by omega) (by omega) (by omega) (by omega)]
        exact h154 u hu
end WRITE
