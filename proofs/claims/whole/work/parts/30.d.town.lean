/-! the town that the texts tell; texts tied in both worlds -/
theorem pk3 {p q r A B C : Prop} (h : p ∧ ¬ q ∧ ¬ r) (a : A) : (p → A) ∧ (q → B) ∧ (r → C) := ⟨fun _ => a, fun z => absurd z h.2.1, fun z => absurd z h.2.2⟩
abbrev tTown : Type := Nat → Nat → Nat
def nS (t : tTown) : Nat := t 0 0
def nC (t : tTown) : Nat := t 0 1
def nM (t : tTown) : Nat := t 0 2
def sk (t : tTown) : Nat := t 0 3
def wy (t : tTown) : Nat := t 0 4
def mo (t : tTown) (k : Nat) : Nat := t 1 k
def sv (t : tTown) (k j : Nat) : Nat := t (10 + k) j
def cv (t : tTown) (k j : Nat) : Nat := t (20 + k) j
def Wt (t : tTown) : Prop := (nS t ≤ 8 ∧ nC t ≤ 8 ∧ nM t ≤ 24 ∧ sk t ≤ 40 ∧ wy t ≤ 1) ∧ (∀ k, k < nS t → 1 ≤ sv t k 0 ∧ sv t k 0 ≤ 9 ∧ sv t k 1 ≤ 9 ∧ sv t k 2 ≤ 9 ∧ sv t k 3 ≤ 1) ∧ (∀ k, k < nC t → 10 ≤ cv t k 0 ∧ cv t k 0 ≤ 99 ∧ cv t k 1 ≤ 2 ∧ cv t k 2 ≤ 9 ∧ 1 ≤ cv t k 3 ∧ cv t k 3 ≤ 9) ∧ ∀ k, k < nM t → mo t k ≤ 4
def lN2 (v : Nat) : Nat := if v = 1 then 110 else 115
def lK (v : Nat) : Nat := if v = 0 then 119 else if v = 1 then 108 else 104
/-- the class's texts tell town t -/
def CsS (t : tTown) (di : tDi) : Prop := di 1 4 = nI (nS t) ∧ ∃ l, l ≤ 39 ∧ di 1 2 = nI l ∧ 5 * nS t ≤ l + 1 ∧ ∀ k, k < nS t → di 2 (5 * k) = nI (48 + sv t k 0) ∧ di 2 (5 * k + 1) = nI (48 + sv t k 1) ∧ di 2 (5 * k + 2) = nI (48 + sv t k 2) ∧ di 2 (5 * k + 3) = nI (lN2 (sv t k 3))
def CsC (t : tTown) (di : tDi) : Prop := di 3 4 = nI (nC t) ∧ ∃ l, l ≤ 47 ∧ di 3 2 = nI l ∧ 6 * nC t ≤ l + 1 ∧ ∀ k, k < nC t → di 4 (6 * k) = nI (48 + cv t k 0 / 10) ∧ di 4 (6 * k + 1) = nI (48 + cv t k 0 % 10) ∧ di 4 (6 * k + 2) = nI (lK (cv t k 1)) ∧ di 4 (6 * k + 3) = nI (48 + cv t k 2) ∧ di 4 (6 * k + 4) = nI (48 + cv t k 3)
def CsM (t : tTown) (di : tDi) : Prop := di 5 4 = nI (nM t) ∧ ∃ l, l ≤ 24 ∧ di 5 2 = nI l ∧ nM t ≤ l ∧ ∀ k, k < nM t → di 6 k = nI (lM (mo t k))
def Cs (t : tTown) (di : tDi) : Prop := CsS t di ∧ CsC t di ∧ CsM t di ∧ di 8 8 = nI (sk t) ∧ di 8 9 = nI (wy t)
/-- the reference, behind reads, holds town t -/
def Rs (t : tTown) (di : tDi) : Prop := di 183 0 = nI (nS t) ∧ di 183 1 = nI (nC t) ∧ di 183 2 = nI (nM t) ∧ di 187 0 = nI (sk t) ∧ di 187 1 = nI (wy t) ∧ (∀ k, k < nS t → ∀ j, j < 4 → di 184 (4 * k + j) = nI (sv t k j)) ∧ (∀ k, k < nC t → ∀ j, j < 4 → di 185 (4 * k + j) = nI (cv t k j)) ∧ ∀ k, k < nM t → di 186 k = nI (mo t k)
def Xt (di : tDi) (t lim n : Nat) (f : Nat → Nat) : Prop := n ≤ lim ∧ di (1 + 2 * t) 1 = nI lim ∧ di (1 + 2 * t) 2 = nI n ∧ di 182 t = nI n ∧ ∀ i, i < n → f i ≤ 255 ∧ di (2 + 2 * t) i = nI (f i) ∧ di 181 (48 * t + i) = nI (f i)
def ITS (di : tDi) : Prop := ∃ n f, Xt di 0 39 n f ∧ ∃ x r m, FF (oS f) n x ∧ ftS n x r m ∧ di 1 3 = r ∧ di 1 4 = nI m
def ITC (di : tDi) : Prop := ∃ n f, Xt di 1 47 n f ∧ ∃ x r m, FF (oC f) n x ∧ ftC n x r m ∧ di 3 3 = r ∧ di 3 4 = nI m
def ITM (di : tDi) : Prop := ∃ n f, Xt di 2 24 n f ∧ ∃ x r m, FF (oM f) n x ∧ ftM n x r m ∧ di 5 3 = r ∧ di 5 4 = nI m
def Itx (di : tDi) : Prop := ITS di ∧ ITC di ∧ ITM di
theorem Xt_cong {di d : tDi} {t lim n : Nat} {f : Nat → Nat} (h1 : ∀ k, d (1 + 2 * t) k = di (1 + 2 * t) k) (h2 : ∀ k, d (2 + 2 * t) k = di (2 + 2 * t) k) (h3 : d 182 t = di 182 t) (h4 : ∀ i, i < lim → d 181 (48 * t + i) = di 181 (48 * t + i)) (H : Xt di t lim n f) : Xt d t lim n f := by
  obtain ⟨a, b, c, e, g⟩ := H
  refine ⟨a, by rw [h1]; exact b, by rw [h1]; exact c, by rw [h3]; exact e, fun i hi => ?_⟩
  rw [h2, h4 i (by omega)]
  exact g i hi
theorem ITS_cong {di d : tDi} (h1 : ∀ k, d 1 k = di 1 k) (h2 : ∀ k, d 2 k = di 2 k) (h3 : d 182 0 = di 182 0) (h4 : ∀ i, i < 39 → d 181 i = di 181 i) (H : ITS di) : ITS d := by
  obtain ⟨n, f, hx, x, r, m, h5, h6, h7, h8⟩ := H
  exact ⟨n, f, Xt_cong h1 h2 h3 (fun i hi => by rw [Nat.mul_zero, Nat.zero_add]; exact h4 i hi) hx, x, r, m, h5, h6, by rw [h1]; exact h7, by rw [h1]; exact h8⟩
theorem ITC_cong {di d : tDi} (h1 : ∀ k, d 3 k = di 3 k) (h2 : ∀ k, d 4 k = di 4 k) (h3 : d 182 1 = di 182 1) (h4 : ∀ i, i < 47 → d 181 (48 + i) = di 181 (48 + i)) (H : ITC di) : ITC d := by
  obtain ⟨n, f, hx, x, r, m, h5, h6, h7, h8⟩ := H
  exact ⟨n, f, Xt_cong h1 h2 h3 h4 hx, x, r, m, h5, h6, by rw [h1]; exact h7, by rw [h1]; exact h8⟩
theorem ITM_cong {di d : tDi} (h1 : ∀ k, d 5 k = di 5 k) (h2 : ∀ k, d 6 k = di 6 k) (h3 : d 182 2 = di 182 2) (h4 : ∀ i, i < 24 → d 181 (96 + i) = di 181 (96 + i)) (H : ITM di) : ITM d := by
  obtain ⟨n, f, hx, x, r, m, h5, h6, h7, h8⟩ := H
  exact ⟨n, f, Xt_cong h1 h2 h3 h4 hx, x, r, m, h5, h6, by rw [h1]; exact h7, by rw [h1]; exact h8⟩
theorem Itx_cong {di d : tDi} (h1 : ∀ a k, a ≤ 6 → 1 ≤ a → d a k = di a k) (h2 : ∀ k, d 181 k = di 181 k) (h3 : ∀ k, d 182 k = di 182 k) (H : Itx di) : Itx d := ⟨ITS_cong (fun k => h1 _ k (by omega) (by omega)) (fun k => h1 _ k (by omega) (by omega)) (h3 _) (fun i _ => h2 _) H.1, ITC_cong (fun k => h1 _ k (by omega) (by omega)) (fun k => h1 _ k (by omega) (by omega)) (h3 _) (fun i _ => h2 _) H.2.1, ITM_cong (fun k => h1 _ k (by omega) (by omega)) (fun k => h1 _ k (by omega) (by omega)) (h3 _) (fun i _ => h2 _) H.2.2⟩
/-- text 0 is of n bytes g now, judged anew, and the reference's too -/
theorem mkS {d d2 : tDi} {n x m : Nat} {g : Nat → Nat} {r : Int32} (hn : n ≤ 39) (h1 : d 1 1 = nI 39) (h2 : d 1 2 = nI n) (h3 : ∀ i, i < n → g i ≤ 255 ∧ d 2 i = nI (g i)) (hF : FF (oS g) n x) (hf : ftS n x r m) (h4 : d 1 3 = r) (h5 : d 1 4 = nI m) (g1 : ∀ b k, b ≤ 6 → d2 b k = d b k) (g2 : d2 182 0 = nI n) (g3 : ∀ i, i < n → d2 181 (48 * 0 + i) = nI (g i)) : ITS d2 := ⟨n, g, ⟨hn, by rw [g1 _ _ (by omega)]; exact h1, by rw [g1 _ _ (by omega)]; exact h2, g2, fun i hi => ⟨(h3 i hi).1, by rw [g1 _ _ (by omega)]; exact (h3 i hi).2, g3 i hi⟩⟩, x, r, m, hF, hf, by rw [g1 _ _ (by omega)]; exact h4, by rw [g1 _ _ (by omega)]; exact h5⟩
/-- text 1 is of n bytes g now, judged anew, and the reference's too -/
theorem mkC {d d2 : tDi} {n x m : Nat} {g : Nat → Nat} {r : Int32} (hn : n ≤ 47) (h1 : d 3 1 = nI 47) (h2 : d 3 2 = nI n) (h3 : ∀ i, i < n → g i ≤ 255 ∧ d 4 i = nI (g i)) (hF : FF (oC g) n x) (hf : ftC n x r m) (h4 : d 3 3 = r) (h5 : d 3 4 = nI m) (g1 : ∀ b k, b ≤ 6 → d2 b k = d b k) (g2 : d2 182 1 = nI n) (g3 : ∀ i, i < n → d2 181 (48 * 1 + i) = nI (g i)) : ITC d2 := ⟨n, g, ⟨hn, by rw [g1 _ _ (by omega)]; exact h1, by rw [g1 _ _ (by omega)]; exact h2, g2, fun i hi => ⟨(h3 i hi).1, by rw [g1 _ _ (by omega)]; exact (h3 i hi).2, g3 i hi⟩⟩, x, r, m, hF, hf, by rw [g1 _ _ (by omega)]; exact h4, by rw [g1 _ _ (by omega)]; exact h5⟩
/-- text 2 is of n bytes g now, judged anew, and the reference's too -/
theorem mkM {d d2 : tDi} {n x m : Nat} {g : Nat → Nat} {r : Int32} (hn : n ≤ 24) (h1 : d 5 1 = nI 24) (h2 : d 5 2 = nI n) (h3 : ∀ i, i < n → g i ≤ 255 ∧ d 6 i = nI (g i)) (hF : FF (oM g) n x) (hf : ftM n x r m) (h4 : d 5 3 = r) (h5 : d 5 4 = nI m) (g1 : ∀ b k, b ≤ 6 → d2 b k = d b k) (g2 : d2 182 2 = nI n) (g3 : ∀ i, i < n → d2 181 (48 * 2 + i) = nI (g i)) : ITM d2 := ⟨n, g, ⟨hn, by rw [g1 _ _ (by omega)]; exact h1, by rw [g1 _ _ (by omega)]; exact h2, g2, fun i hi => ⟨(h3 i hi).1, by rw [g1 _ _ (by omega)]; exact (h3 i hi).2, g3 i hi⟩⟩, x, r, m, hF, hf, by rw [g1 _ _ (by omega)]; exact h4, by rw [g1 _ _ (by omega)]; exact h5⟩
def Ft (di d : tDi) : Prop := ∀ a k, ¬ (1 ≤ a ∧ a ≤ 6) → ¬ (a = 8 ∧ k = 10) → ¬ a = 181 → ¬ a = 182 → d a k = di a k
def Pt (di : tDi) (dl : tDl) (r r' : Int32) (d : tDi) (dl2 : tDl) : Prop := r = r' ∧ dl2 = dl ∧ (d = di ∨ (Itx d ∧ d 8 10 = 1 ∧ Ft di d))
theorem p_type0 {di : tDi} {dl : tDl} (H : Itx di) (c : Int32) : ClI 5 91 [.ref 0, .int (nI 0), .int c] di dl (fun r di1 dl1 => ClI 2 152 [.ref 176, .int (nI 0), .int c] di1 dl1 (fun r' di2 dl2 => Pt di dl r r' di2 dl2)) := by
  obtain ⟨n, f, ⟨hn, x1, x2, x3, x4⟩, _⟩ := H.1
  have x1' : di 1 1 = nI 39 := x1
  have x2' : di 1 2 = nI n := x2
  rcases ixi c 256 (by decide) with z | z | ⟨b, hb, rfl⟩
  · refine r_91 ?_
    simp (disch := omega) only [true_imp_iff, false_imp_iff, not_true_eq_false, not_false_eq_true, and_true, true_and, Int32.reduceToInt, Int64.reduceToInt, Int32.reduceAdd, fa_lt, fa_le, fa_eq, cmi_lt, cmi_le, cmi_gt, cmi_ge, cmi_eq, fa_lt64, fa_le64, fa_eq64, Int32.toInt_toInt64, nI_toInt, ti_m1, sub1_ti, inB_iff, nI_clamp, Int32.add_zero, nI_1, nI_add, nI_p2, nI_p3, nI_p4, nI_p5, nI_p6, nI_p8, nI_p9, nI_p10, nI_m3, nI_m4, nI_m5, nI_m6, nI_m8, nI_m10, nI_m31, nI_m48, nI_m60, nI_m256, nI_t5, nI_t6, nI_a1, nI_a48, nI_a96, nI_d5, nI_d6, nI_d8, nI_d10, nI_d20, nI_s1, nI_s48, pk_sub, x1', x2']
    repeat (first | (with_reducible refine pk1 ?_ ?_; omega) | (with_reducible refine pk2 ?_ ?_; omega) | (with_reducible refine bd1 ?_ ?_; omega))
    refine pk3 (by omega) ?_
    repeat (first | (with_reducible refine pk1 ?_ ?_; omega) | (with_reducible refine pk2 ?_ ?_; omega) | (with_reducible refine bd1 ?_ ?_; omega))
    refine r_152 ?_
    simp (disch := omega) only [true_imp_iff, false_imp_iff, not_true_eq_false, not_false_eq_true, and_true, true_and, Int32.reduceToInt, Int64.reduceToInt, Int32.reduceAdd, fa_lt, fa_le, fa_eq, cmi_lt, cmi_le, cmi_gt, cmi_ge, cmi_eq, fa_lt64, fa_le64, fa_eq64, Int32.toInt_toInt64, nI_toInt, ti_m1, sub1_ti, inB_iff, nI_clamp, Int32.add_zero, nI_1, nI_add, nI_p2, nI_p3, nI_p4, nI_p5, nI_p6, nI_p8, nI_p9, nI_p10, nI_m3, nI_m4, nI_m5, nI_m6, nI_m8, nI_m10, nI_m31, nI_m48, nI_m60, nI_m256, nI_t5, nI_t6, nI_a1, nI_a48, nI_a96, nI_d5, nI_d6, nI_d8, nI_d10, nI_d20, nI_s1, nI_s48, pk_sub]
    repeat (first | (with_reducible refine pk1 ?_ ?_; omega) | (with_reducible refine pk2 ?_ ?_; omega) | (with_reducible refine bd1 ?_ ?_; omega))
    exact ⟨rfl, rfl, Or.inl rfl⟩
  · refine r_91 ?_
    simp (disch := omega) only [true_imp_iff, false_imp_iff, not_true_eq_false, not_false_eq_true, and_true, true_and, Int32.reduceToInt, Int64.reduceToInt, Int32.reduceAdd, fa_lt, fa_le, fa_eq, cmi_lt, cmi_le, cmi_gt, cmi_ge, cmi_eq, fa_lt64, fa_le64, fa_eq64, Int32.toInt_toInt64, nI_toInt, ti_m1, sub1_ti, inB_iff, nI_clamp, Int32.add_zero, nI_1, nI_add, nI_p2, nI_p3, nI_p4, nI_p5, nI_p6, nI_p8, nI_p9, nI_p10, nI_m3, nI_m4, nI_m5, nI_m6, nI_m8, nI_m10, nI_m31, nI_m48, nI_m60, nI_m256, nI_t5, nI_t6, nI_a1, nI_a48, nI_a96, nI_d5, nI_d6, nI_d8, nI_d10, nI_d20, nI_s1, nI_s48, pk_sub, x1', x2']
    repeat (first | (with_reducible refine pk1 ?_ ?_; omega) | (with_reducible refine pk2 ?_ ?_; omega) | (with_reducible refine bd1 ?_ ?_; omega))
    refine pk3 (by omega) ?_
    repeat (first | (with_reducible refine pk1 ?_ ?_; omega) | (with_reducible refine pk2 ?_ ?_; omega) | (with_reducible refine bd1 ?_ ?_; omega))
    refine r_152 ?_
    simp (disch := omega) only [true_imp_iff, false_imp_iff, not_true_eq_false, not_false_eq_true, and_true, true_and, Int32.reduceToInt, Int64.reduceToInt, Int32.reduceAdd, fa_lt, fa_le, fa_eq, cmi_lt, cmi_le, cmi_gt, cmi_ge, cmi_eq, fa_lt64, fa_le64, fa_eq64, Int32.toInt_toInt64, nI_toInt, ti_m1, sub1_ti, inB_iff, nI_clamp, Int32.add_zero, nI_1, nI_add, nI_p2, nI_p3, nI_p4, nI_p5, nI_p6, nI_p8, nI_p9, nI_p10, nI_m3, nI_m4, nI_m5, nI_m6, nI_m8, nI_m10, nI_m31, nI_m48, nI_m60, nI_m256, nI_t5, nI_t6, nI_a1, nI_a48, nI_a96, nI_d5, nI_d6, nI_d8, nI_d10, nI_d20, nI_s1, nI_s48, pk_sub]
    repeat (first | (with_reducible refine pk1 ?_ ?_; omega) | (with_reducible refine pk2 ?_ ?_; omega) | (with_reducible refine bd1 ?_ ?_; omega))
    exact ⟨rfl, rfl, Or.inl rfl⟩
  by_cases hfull : n = 39
  · subst hfull
    refine r_91 ?_
    simp (disch := omega) only [true_imp_iff, false_imp_iff, not_true_eq_false, not_false_eq_true, and_true, true_and, Int32.reduceToInt, Int64.reduceToInt, Int32.reduceAdd, fa_lt, fa_le, fa_eq, cmi_lt, cmi_le, cmi_gt, cmi_ge, cmi_eq, fa_lt64, fa_le64, fa_eq64, Int32.toInt_toInt64, nI_toInt, ti_m1, sub1_ti, inB_iff, nI_clamp, Int32.add_zero, nI_1, nI_add, nI_p2, nI_p3, nI_p4, nI_p5, nI_p6, nI_p8, nI_p9, nI_p10, nI_m3, nI_m4, nI_m5, nI_m6, nI_m8, nI_m10, nI_m31, nI_m48, nI_m60, nI_m256, nI_t5, nI_t6, nI_a1, nI_a48, nI_a96, nI_d5, nI_d6, nI_d8, nI_d10, nI_d20, nI_s1, nI_s48, pk_sub, x1', x2']
    repeat (first | (with_reducible refine pk1 ?_ ?_; omega) | (with_reducible refine pk2 ?_ ?_; omega) | (with_reducible refine bd1 ?_ ?_; omega))
    refine pk3 (by omega) ?_
    repeat (first | (with_reducible refine pk1 ?_ ?_; omega) | (with_reducible refine pk2 ?_ ?_; omega) | (with_reducible refine bd1 ?_ ?_; omega))
    refine r_152 ?_
    simp (disch := omega) only [true_imp_iff, false_imp_iff, not_true_eq_false, not_false_eq_true, and_true, true_and, Int32.reduceToInt, Int64.reduceToInt, Int32.reduceAdd, fa_lt, fa_le, fa_eq, cmi_lt, cmi_le, cmi_gt, cmi_ge, cmi_eq, fa_lt64, fa_le64, fa_eq64, Int32.toInt_toInt64, nI_toInt, ti_m1, sub1_ti, inB_iff, nI_clamp, Int32.add_zero, nI_1, nI_add, nI_p2, nI_p3, nI_p4, nI_p5, nI_p6, nI_p8, nI_p9, nI_p10, nI_m3, nI_m4, nI_m5, nI_m6, nI_m8, nI_m10, nI_m31, nI_m48, nI_m60, nI_m256, nI_t5, nI_t6, nI_a1, nI_a48, nI_a96, nI_d5, nI_d6, nI_d8, nI_d10, nI_d20, nI_s1, nI_s48, pk_sub, x3]
    repeat (first | (with_reducible refine pk1 ?_ ?_; omega) | (with_reducible refine pk2 ?_ ?_; omega) | (with_reducible refine bd1 ?_ ?_; omega))
    exact ⟨rfl, rfl, Or.inl rfl⟩
  have go : ClV 4 54 [.ref 1, .int (nI b)] di dl (fun di2 dl2 => ClI 2 152 [.ref 176, .int (nI 0), .int (nI b)] (up2 di2 8 10 1) dl2 (fun r' di3 dl3 => Pt di dl (di2 1 2) r' di3 dl3)) := by
    refine r_54t1 ?_
    simp (disch := omega) only [true_imp_iff, false_imp_iff, not_true_eq_false, not_false_eq_true, and_true, true_and, Int32.reduceToInt, Int64.reduceToInt, Int32.reduceAdd, fa_lt, fa_le, fa_eq, cmi_lt, cmi_le, cmi_gt, cmi_ge, cmi_eq, fa_lt64, fa_le64, fa_eq64, Int32.toInt_toInt64, nI_toInt, ti_m1, sub1_ti, inB_iff, nI_clamp, Int32.add_zero, nI_1, nI_add, nI_p2, nI_p3, nI_p4, nI_p5, nI_p6, nI_p8, nI_p9, nI_p10, nI_m3, nI_m4, nI_m5, nI_m6, nI_m8, nI_m10, nI_m31, nI_m48, nI_m60, nI_m256, nI_t5, nI_t6, nI_a1, nI_a48, nI_a96, nI_d5, nI_d6, nI_d8, nI_d10, nI_d20, nI_s1, nI_s48, pk_sub, x2']
    repeat (first | (with_reducible refine pk1 ?_ ?_; omega) | (with_reducible refine pk2 ?_ ?_; omega) | (with_reducible refine bd1 ?_ ?_; omega))
    refine c_58S (n := n + 1) (f := fun i => if i = n then b else f i) (by omega) (by simp (disch := omega) only [up_eq, up_na, up_nk]) ?_ ?_
    · intro i hi
      by_cases e : i = n
      · subst e
        refine ⟨?_, ?_⟩
        · rw [if_pos rfl]; omega
        · rw [if_pos rfl]
          simp (disch := omega) only [up_eq, up_na, up_nk]
      · rw [if_neg e]
        refine ⟨(x4 i (by omega)).1, ?_⟩
        simp (disch := omega) only [up_eq, up_na, up_nk]
        exact (x4 i (by omega)).2.1
    · intro d x r m hF hf d3 d4 fr
      have e3 : d 182 0 = nI n := by rw [fr _ _ (by omega)]; simp (disch := omega) only [up_eq, up_na, up_nk]; exact x3
      have e2 : d 1 2 = nI (n + 1) := by rw [fr _ _ (by omega)]; simp (disch := omega) only [up_eq, up_na, up_nk]
      refine r_152 ?_
      simp (disch := omega) only [true_imp_iff, false_imp_iff, not_true_eq_false, not_false_eq_true, and_true, true_and, Int32.reduceToInt, Int64.reduceToInt, Int32.reduceAdd, fa_lt, fa_le, fa_eq, cmi_lt, cmi_le, cmi_gt, cmi_ge, cmi_eq, fa_lt64, fa_le64, fa_eq64, Int32.toInt_toInt64, nI_toInt, ti_m1, sub1_ti, inB_iff, nI_clamp, Int32.add_zero, nI_1, nI_add, nI_p2, nI_p3, nI_p4, nI_p5, nI_p6, nI_p8, nI_p9, nI_p10, nI_m3, nI_m4, nI_m5, nI_m6, nI_m8, nI_m10, nI_m31, nI_m48, nI_m60, nI_m256, nI_t5, nI_t6, nI_a1, nI_a48, nI_a96, nI_d5, nI_d6, nI_d8, nI_d10, nI_d20, nI_s1, nI_s48, pk_sub, up_eq, up_na, up_nk, e3]
      repeat (first | (with_reducible refine pk1 ?_ ?_; omega) | (with_reducible refine pk2 ?_ ?_; omega) | (with_reducible refine bd1 ?_ ?_; omega))
      rw [e2]
      simp only [Nat.mul_zero, Nat.zero_add]
      refine ⟨rfl, rfl, Or.inr ⟨?_, by simp (disch := omega) only [up_eq, up_na, up_nk], ?_⟩⟩
      · have Q : ∀ y k, ¬ (y = 1 ∨ y = 2) ∧ y ≤ 6 → up2 (up2 (up2 d 8 10 1) 181 (n) (nI b)) 182 0 (nI (n + 1)) y k = di y k := by
          intro y k hy
          simp (disch := omega) only [up_eq, up_na, up_nk]
          rw [fr _ _ (by omega)]
          simp (disch := omega) only [up_eq, up_na, up_nk]
        have Q1 : ∀ k, ¬ (48 * 0 ≤ k ∧ k < 48 * 0 + 48) → up2 (up2 (up2 d 8 10 1) 181 (n) (nI b)) 182 0 (nI (n + 1)) 181 k = di 181 k := by
          intro k hk
          simp (disch := omega) only [up_eq, up_na, up_nk]
          rw [fr _ _ (by omega)]
          simp (disch := omega) only [up_eq, up_na, up_nk]
        have Q2 : ∀ k, ¬ k = 0 → up2 (up2 (up2 d 8 10 1) 181 (n) (nI b)) 182 0 (nI (n + 1)) 182 k = di 182 k := by
          intro k hk
          simp (disch := omega) only [up_eq, up_na, up_nk]
          rw [fr _ _ (by omega)]
          simp (disch := omega) only [up_eq, up_na, up_nk]
        refine ⟨?_, ITC_cong (fun k => Q _ k (by omega)) (fun k => Q _ k (by omega)) (Q2 _ (by omega)) (fun i hi => Q1 _ (by omega)) H.2.1, ITM_cong (fun k => Q _ k (by omega)) (fun k => Q _ k (by omega)) (Q2 _ (by omega)) (fun i hi => Q1 _ (by omega)) H.2.2⟩
        refine mkS (d := d) (g := fun i => if i = n then b else f i) (n := n + 1) (by omega) (by rw [fr _ _ (by omega)]; simp (disch := omega) only [up_eq, up_na, up_nk]; exact x1) e2 ?_ hF hf d3 d4 (fun y k hy => by simp (disch := omega) only [up_eq, up_na, up_nk]) (by simp (disch := omega) only [up_eq, up_na, up_nk]) ?_
        · intro i hi
          by_cases e : i = n
          · subst e
            refine ⟨?_, ?_⟩
            · rw [if_pos rfl]; omega
            · rw [if_pos rfl, fr _ _ (by omega)]
              simp (disch := omega) only [up_eq, up_na, up_nk]
          · rw [if_neg e]
            refine ⟨(x4 i (by omega)).1, ?_⟩
            rw [fr _ _ (by omega)]
            simp (disch := omega) only [up_eq, up_na, up_nk]
            exact (x4 i (by omega)).2.1
        · intro i hi
          by_cases e : i = n
          · subst e
            rw [if_pos rfl, Nat.mul_zero, Nat.zero_add]
            simp (disch := omega) only [up_eq, up_na, up_nk]
          · rw [if_neg e]
            simp (disch := omega) only [up_eq, up_na, up_nk]
            rw [fr _ _ (by omega)]
            simp (disch := omega) only [up_eq, up_na, up_nk]
            exact (x4 i (by omega)).2.2
      · intro y k z1 z2 z3 z4
        simp (disch := omega) only [up_eq, up_na, up_nk]
        have : ¬ (y = 8 ∧ k = 10) := z2
        unfold up2
        rw [if_neg (by omega), fr _ _ (by omega)]
        simp (disch := omega) only [up_eq, up_na, up_nk]
  refine r_91 ?_
  simp (disch := omega) only [true_imp_iff, false_imp_iff, not_true_eq_false, not_false_eq_true, and_true, true_and, Int32.reduceToInt, Int64.reduceToInt, Int32.reduceAdd, fa_lt, fa_le, fa_eq, cmi_lt, cmi_le, cmi_gt, cmi_ge, cmi_eq, fa_lt64, fa_le64, fa_eq64, Int32.toInt_toInt64, nI_toInt, ti_m1, sub1_ti, inB_iff, nI_clamp, Int32.add_zero, nI_1, nI_add, nI_p2, nI_p3, nI_p4, nI_p5, nI_p6, nI_p8, nI_p9, nI_p10, nI_m3, nI_m4, nI_m5, nI_m6, nI_m8, nI_m10, nI_m31, nI_m48, nI_m60, nI_m256, nI_t5, nI_t6, nI_a1, nI_a48, nI_a96, nI_d5, nI_d6, nI_d8, nI_d10, nI_d20, nI_s1, nI_s48, pk_sub, x1', x2']
  repeat (first | (with_reducible refine pk1 ?_ ?_; omega) | (with_reducible refine pk2 ?_ ?_; omega) | (with_reducible refine bd1 ?_ ?_; omega))
  refine pk3 (by omega) ?_
  repeat (first | (with_reducible refine pk1 ?_ ?_; omega) | (with_reducible refine pk2 ?_ ?_; omega) | (with_reducible refine bd1 ?_ ?_; omega))
  exact go
theorem p_type1 {di : tDi} {dl : tDl} (H : Itx di) (c : Int32) : ClI 5 91 [.ref 0, .int (nI 1), .int c] di dl (fun r di1 dl1 => ClI 2 152 [.ref 176, .int (nI 1), .int c] di1 dl1 (fun r' di2 dl2 => Pt di dl r r' di2 dl2)) := by
  obtain ⟨n, f, ⟨hn, x1, x2, x3, x4⟩, _⟩ := H.2.1
  have x1' : di 3 1 = nI 47 := x1
  have x2' : di 3 2 = nI n := x2
  rcases ixi c 256 (by decide) with z | z | ⟨b, hb, rfl⟩
  · refine r_91 ?_
    simp (disch := omega) only [true_imp_iff, false_imp_iff, not_true_eq_false, not_false_eq_true, and_true, true_and, Int32.reduceToInt, Int64.reduceToInt, Int32.reduceAdd, fa_lt, fa_le, fa_eq, cmi_lt, cmi_le, cmi_gt, cmi_ge, cmi_eq, fa_lt64, fa_le64, fa_eq64, Int32.toInt_toInt64, nI_toInt, ti_m1, sub1_ti, inB_iff, nI_clamp, Int32.add_zero, nI_1, nI_add, nI_p2, nI_p3, nI_p4, nI_p5, nI_p6, nI_p8, nI_p9, nI_p10, nI_m3, nI_m4, nI_m5, nI_m6, nI_m8, nI_m10, nI_m31, nI_m48, nI_m60, nI_m256, nI_t5, nI_t6, nI_a1, nI_a48, nI_a96, nI_d5, nI_d6, nI_d8, nI_d10, nI_d20, nI_s1, nI_s48, pk_sub, x1', x2']
    repeat (first | (with_reducible refine pk1 ?_ ?_; omega) | (with_reducible refine pk2 ?_ ?_; omega) | (with_reducible refine bd1 ?_ ?_; omega))
    repeat (first | (with_reducible refine pk1 ?_ ?_; omega) | (with_reducible refine pk2 ?_ ?_; omega) | (with_reducible refine bd1 ?_ ?_; omega))
    refine r_152 ?_
    simp (disch := omega) only [true_imp_iff, false_imp_iff, not_true_eq_false, not_false_eq_true, and_true, true_and, Int32.reduceToInt, Int64.reduceToInt, Int32.reduceAdd, fa_lt, fa_le, fa_eq, cmi_lt, cmi_le, cmi_gt, cmi_ge, cmi_eq, fa_lt64, fa_le64, fa_eq64, Int32.toInt_toInt64, nI_toInt, ti_m1, sub1_ti, inB_iff, nI_clamp, Int32.add_zero, nI_1, nI_add, nI_p2, nI_p3, nI_p4, nI_p5, nI_p6, nI_p8, nI_p9, nI_p10, nI_m3, nI_m4, nI_m5, nI_m6, nI_m8, nI_m10, nI_m31, nI_m48, nI_m60, nI_m256, nI_t5, nI_t6, nI_a1, nI_a48, nI_a96, nI_d5, nI_d6, nI_d8, nI_d10, nI_d20, nI_s1, nI_s48, pk_sub]
    repeat (first | (with_reducible refine pk1 ?_ ?_; omega) | (with_reducible refine pk2 ?_ ?_; omega) | (with_reducible refine bd1 ?_ ?_; omega))
    exact ⟨rfl, rfl, Or.inl rfl⟩
  · refine r_91 ?_
    simp (disch := omega) only [true_imp_iff, false_imp_iff, not_true_eq_false, not_false_eq_true, and_true, true_and, Int32.reduceToInt, Int64.reduceToInt, Int32.reduceAdd, fa_lt, fa_le, fa_eq, cmi_lt, cmi_le, cmi_gt, cmi_ge, cmi_eq, fa_lt64, fa_le64, fa_eq64, Int32.toInt_toInt64, nI_toInt, ti_m1, sub1_ti, inB_iff, nI_clamp, Int32.add_zero, nI_1, nI_add, nI_p2, nI_p3, nI_p4, nI_p5, nI_p6, nI_p8, nI_p9, nI_p10, nI_m3, nI_m4, nI_m5, nI_m6, nI_m8, nI_m10, nI_m31, nI_m48, nI_m60, nI_m256, nI_t5, nI_t6, nI_a1, nI_a48, nI_a96, nI_d5, nI_d6, nI_d8, nI_d10, nI_d20, nI_s1, nI_s48, pk_sub, x1', x2']
    repeat (first | (with_reducible refine pk1 ?_ ?_; omega) | (with_reducible refine pk2 ?_ ?_; omega) | (with_reducible refine bd1 ?_ ?_; omega))
    repeat (first | (with_reducible refine pk1 ?_ ?_; omega) | (with_reducible refine pk2 ?_ ?_; omega) | (with_reducible refine bd1 ?_ ?_; omega))
    refine r_152 ?_
    simp (disch := omega) only [true_imp_iff, false_imp_iff, not_true_eq_false, not_false_eq_true, and_true, true_and, Int32.reduceToInt, Int64.reduceToInt, Int32.reduceAdd, fa_lt, fa_le, fa_eq, cmi_lt, cmi_le, cmi_gt, cmi_ge, cmi_eq, fa_lt64, fa_le64, fa_eq64, Int32.toInt_toInt64, nI_toInt, ti_m1, sub1_ti, inB_iff, nI_clamp, Int32.add_zero, nI_1, nI_add, nI_p2, nI_p3, nI_p4, nI_p5, nI_p6, nI_p8, nI_p9, nI_p10, nI_m3, nI_m4, nI_m5, nI_m6, nI_m8, nI_m10, nI_m31, nI_m48, nI_m60, nI_m256, nI_t5, nI_t6, nI_a1, nI_a48, nI_a96, nI_d5, nI_d6, nI_d8, nI_d10, nI_d20, nI_s1, nI_s48, pk_sub]
    repeat (first | (with_reducible refine pk1 ?_ ?_; omega) | (with_reducible refine pk2 ?_ ?_; omega) | (with_reducible refine bd1 ?_ ?_; omega))
    exact ⟨rfl, rfl, Or.inl rfl⟩
  by_cases hfull : n = 47
  · subst hfull
    refine r_91 ?_
    simp (disch := omega) only [true_imp_iff, false_imp_iff, not_true_eq_false, not_false_eq_true, and_true, true_and, Int32.reduceToInt, Int64.reduceToInt, Int32.reduceAdd, fa_lt, fa_le, fa_eq, cmi_lt, cmi_le, cmi_gt, cmi_ge, cmi_eq, fa_lt64, fa_le64, fa_eq64, Int32.toInt_toInt64, nI_toInt, ti_m1, sub1_ti, inB_iff, nI_clamp, Int32.add_zero, nI_1, nI_add, nI_p2, nI_p3, nI_p4, nI_p5, nI_p6, nI_p8, nI_p9, nI_p10, nI_m3, nI_m4, nI_m5, nI_m6, nI_m8, nI_m10, nI_m31, nI_m48, nI_m60, nI_m256, nI_t5, nI_t6, nI_a1, nI_a48, nI_a96, nI_d5, nI_d6, nI_d8, nI_d10, nI_d20, nI_s1, nI_s48, pk_sub, x1', x2']
    repeat (first | (with_reducible refine pk1 ?_ ?_; omega) | (with_reducible refine pk2 ?_ ?_; omega) | (with_reducible refine bd1 ?_ ?_; omega))
    repeat (first | (with_reducible refine pk1 ?_ ?_; omega) | (with_reducible refine pk2 ?_ ?_; omega) | (with_reducible refine bd1 ?_ ?_; omega))
    refine r_152 ?_
    simp (disch := omega) only [true_imp_iff, false_imp_iff, not_true_eq_false, not_false_eq_true, and_true, true_and, Int32.reduceToInt, Int64.reduceToInt, Int32.reduceAdd, fa_lt, fa_le, fa_eq, cmi_lt, cmi_le, cmi_gt, cmi_ge, cmi_eq, fa_lt64, fa_le64, fa_eq64, Int32.toInt_toInt64, nI_toInt, ti_m1, sub1_ti, inB_iff, nI_clamp, Int32.add_zero, nI_1, nI_add, nI_p2, nI_p3, nI_p4, nI_p5, nI_p6, nI_p8, nI_p9, nI_p10, nI_m3, nI_m4, nI_m5, nI_m6, nI_m8, nI_m10, nI_m31, nI_m48, nI_m60, nI_m256, nI_t5, nI_t6, nI_a1, nI_a48, nI_a96, nI_d5, nI_d6, nI_d8, nI_d10, nI_d20, nI_s1, nI_s48, pk_sub, x3]
    repeat (first | (with_reducible refine pk1 ?_ ?_; omega) | (with_reducible refine pk2 ?_ ?_; omega) | (with_reducible refine bd1 ?_ ?_; omega))
    exact ⟨rfl, rfl, Or.inl rfl⟩
  have go : ClV 4 54 [.ref 3, .int (nI b)] di dl (fun di2 dl2 => ClI 2 152 [.ref 176, .int (nI 1), .int (nI b)] (up2 di2 8 10 1) dl2 (fun r' di3 dl3 => Pt di dl (di2 3 2) r' di3 dl3)) := by
    refine r_54t3 ?_
    simp (disch := omega) only [true_imp_iff, false_imp_iff, not_true_eq_false, not_false_eq_true, and_true, true_and, Int32.reduceToInt, Int64.reduceToInt, Int32.reduceAdd, fa_lt, fa_le, fa_eq, cmi_lt, cmi_le, cmi_gt, cmi_ge, cmi_eq, fa_lt64, fa_le64, fa_eq64, Int32.toInt_toInt64, nI_toInt, ti_m1, sub1_ti, inB_iff, nI_clamp, Int32.add_zero, nI_1, nI_add, nI_p2, nI_p3, nI_p4, nI_p5, nI_p6, nI_p8, nI_p9, nI_p10, nI_m3, nI_m4, nI_m5, nI_m6, nI_m8, nI_m10, nI_m31, nI_m48, nI_m60, nI_m256, nI_t5, nI_t6, nI_a1, nI_a48, nI_a96, nI_d5, nI_d6, nI_d8, nI_d10, nI_d20, nI_s1, nI_s48, pk_sub, x2']
    repeat (first | (with_reducible refine pk1 ?_ ?_; omega) | (with_reducible refine pk2 ?_ ?_; omega) | (with_reducible refine bd1 ?_ ?_; omega))
    refine c_58C (n := n + 1) (f := fun i => if i = n then b else f i) (by omega) (by simp (disch := omega) only [up_eq, up_na, up_nk]) ?_ ?_
    · intro i hi
      by_cases e : i = n
      · subst e
        refine ⟨?_, ?_⟩
        · rw [if_pos rfl]; omega
        · rw [if_pos rfl]
          simp (disch := omega) only [up_eq, up_na, up_nk]
      · rw [if_neg e]
        refine ⟨(x4 i (by omega)).1, ?_⟩
        simp (disch := omega) only [up_eq, up_na, up_nk]
        exact (x4 i (by omega)).2.1
    · intro d x r m hF hf d3 d4 fr
      have e3 : d 182 1 = nI n := by rw [fr _ _ (by omega)]; simp (disch := omega) only [up_eq, up_na, up_nk]; exact x3
      have e2 : d 3 2 = nI (n + 1) := by rw [fr _ _ (by omega)]; simp (disch := omega) only [up_eq, up_na, up_nk]
      refine r_152 ?_
      simp (disch := omega) only [true_imp_iff, false_imp_iff, not_true_eq_false, not_false_eq_true, and_true, true_and, Int32.reduceToInt, Int64.reduceToInt, Int32.reduceAdd, fa_lt, fa_le, fa_eq, cmi_lt, cmi_le, cmi_gt, cmi_ge, cmi_eq, fa_lt64, fa_le64, fa_eq64, Int32.toInt_toInt64, nI_toInt, ti_m1, sub1_ti, inB_iff, nI_clamp, Int32.add_zero, nI_1, nI_add, nI_p2, nI_p3, nI_p4, nI_p5, nI_p6, nI_p8, nI_p9, nI_p10, nI_m3, nI_m4, nI_m5, nI_m6, nI_m8, nI_m10, nI_m31, nI_m48, nI_m60, nI_m256, nI_t5, nI_t6, nI_a1, nI_a48, nI_a96, nI_d5, nI_d6, nI_d8, nI_d10, nI_d20, nI_s1, nI_s48, pk_sub, up_eq, up_na, up_nk, e3]
      repeat (first | (with_reducible refine pk1 ?_ ?_; omega) | (with_reducible refine pk2 ?_ ?_; omega) | (with_reducible refine bd1 ?_ ?_; omega))
      rw [e2]
      refine ⟨rfl, rfl, Or.inr ⟨?_, by simp (disch := omega) only [up_eq, up_na, up_nk], ?_⟩⟩
      · have Q : ∀ y k, ¬ (y = 3 ∨ y = 4) ∧ y ≤ 6 → up2 (up2 (up2 d 8 10 1) 181 (48 + n) (nI b)) 182 1 (nI (n + 1)) y k = di y k := by
          intro y k hy
          simp (disch := omega) only [up_eq, up_na, up_nk]
          rw [fr _ _ (by omega)]
          simp (disch := omega) only [up_eq, up_na, up_nk]
        have Q1 : ∀ k, ¬ (48 * 1 ≤ k ∧ k < 48 * 1 + 48) → up2 (up2 (up2 d 8 10 1) 181 (48 + n) (nI b)) 182 1 (nI (n + 1)) 181 k = di 181 k := by
          intro k hk
          simp (disch := omega) only [up_eq, up_na, up_nk]
          rw [fr _ _ (by omega)]
          simp (disch := omega) only [up_eq, up_na, up_nk]
        have Q2 : ∀ k, ¬ k = 1 → up2 (up2 (up2 d 8 10 1) 181 (48 + n) (nI b)) 182 1 (nI (n + 1)) 182 k = di 182 k := by
          intro k hk
          simp (disch := omega) only [up_eq, up_na, up_nk]
          rw [fr _ _ (by omega)]
          simp (disch := omega) only [up_eq, up_na, up_nk]
        refine ⟨ITS_cong (fun k => Q _ k (by omega)) (fun k => Q _ k (by omega)) (Q2 _ (by omega)) (fun i hi => Q1 _ (by omega)) H.1, ?_, ITM_cong (fun k => Q _ k (by omega)) (fun k => Q _ k (by omega)) (Q2 _ (by omega)) (fun i hi => Q1 _ (by omega)) H.2.2⟩
        refine mkC (d := d) (g := fun i => if i = n then b else f i) (n := n + 1) (by omega) (by rw [fr _ _ (by omega)]; simp (disch := omega) only [up_eq, up_na, up_nk]; exact x1) e2 ?_ hF hf d3 d4 (fun y k hy => by simp (disch := omega) only [up_eq, up_na, up_nk]) (by simp (disch := omega) only [up_eq, up_na, up_nk]) ?_
        · intro i hi
          by_cases e : i = n
          · subst e
            refine ⟨?_, ?_⟩
            · rw [if_pos rfl]; omega
            · rw [if_pos rfl, fr _ _ (by omega)]
              simp (disch := omega) only [up_eq, up_na, up_nk]
          · rw [if_neg e]
            refine ⟨(x4 i (by omega)).1, ?_⟩
            rw [fr _ _ (by omega)]
            simp (disch := omega) only [up_eq, up_na, up_nk]
            exact (x4 i (by omega)).2.1
        · intro i hi
          by_cases e : i = n
          · subst e
            rw [if_pos rfl]
            simp (disch := omega) only [up_eq, up_na, up_nk]
          · rw [if_neg e]
            simp (disch := omega) only [up_eq, up_na, up_nk]
            rw [fr _ _ (by omega)]
            simp (disch := omega) only [up_eq, up_na, up_nk]
            exact (x4 i (by omega)).2.2
      · intro y k z1 z2 z3 z4
        simp (disch := omega) only [up_eq, up_na, up_nk]
        have : ¬ (y = 8 ∧ k = 10) := z2
        unfold up2
        rw [if_neg (by omega), fr _ _ (by omega)]
        simp (disch := omega) only [up_eq, up_na, up_nk]
  refine r_91 ?_
  simp (disch := omega) only [true_imp_iff, false_imp_iff, not_true_eq_false, not_false_eq_true, and_true, true_and, Int32.reduceToInt, Int64.reduceToInt, Int32.reduceAdd, fa_lt, fa_le, fa_eq, cmi_lt, cmi_le, cmi_gt, cmi_ge, cmi_eq, fa_lt64, fa_le64, fa_eq64, Int32.toInt_toInt64, nI_toInt, ti_m1, sub1_ti, inB_iff, nI_clamp, Int32.add_zero, nI_1, nI_add, nI_p2, nI_p3, nI_p4, nI_p5, nI_p6, nI_p8, nI_p9, nI_p10, nI_m3, nI_m4, nI_m5, nI_m6, nI_m8, nI_m10, nI_m31, nI_m48, nI_m60, nI_m256, nI_t5, nI_t6, nI_a1, nI_a48, nI_a96, nI_d5, nI_d6, nI_d8, nI_d10, nI_d20, nI_s1, nI_s48, pk_sub, x1', x2']
  repeat (first | (with_reducible refine pk1 ?_ ?_; omega) | (with_reducible refine pk2 ?_ ?_; omega) | (with_reducible refine bd1 ?_ ?_; omega))
  repeat (first | (with_reducible refine pk1 ?_ ?_; omega) | (with_reducible refine pk2 ?_ ?_; omega) | (with_reducible refine bd1 ?_ ?_; omega))
  exact go
theorem p_type2 {di : tDi} {dl : tDl} (H : Itx di) (c : Int32) : ClI 5 91 [.ref 0, .int (nI 2), .int c] di dl (fun r di1 dl1 => ClI 2 152 [.ref 176, .int (nI 2), .int c] di1 dl1 (fun r' di2 dl2 => Pt di dl r r' di2 dl2)) := by
  obtain ⟨n, f, ⟨hn, x1, x2, x3, x4⟩, _⟩ := H.2.2
  have x1' : di 5 1 = nI 24 := x1
  have x2' : di 5 2 = nI n := x2
  rcases ixi c 256 (by decide) with z | z | ⟨b, hb, rfl⟩
  · refine r_91 ?_
    simp (disch := omega) only [true_imp_iff, false_imp_iff, not_true_eq_false, not_false_eq_true, and_true, true_and, Int32.reduceToInt, Int64.reduceToInt, Int32.reduceAdd, fa_lt, fa_le, fa_eq, cmi_lt, cmi_le, cmi_gt, cmi_ge, cmi_eq, fa_lt64, fa_le64, fa_eq64, Int32.toInt_toInt64, nI_toInt, ti_m1, sub1_ti, inB_iff, nI_clamp, Int32.add_zero, nI_1, nI_add, nI_p2, nI_p3, nI_p4, nI_p5, nI_p6, nI_p8, nI_p9, nI_p10, nI_m3, nI_m4, nI_m5, nI_m6, nI_m8, nI_m10, nI_m31, nI_m48, nI_m60, nI_m256, nI_t5, nI_t6, nI_a1, nI_a48, nI_a96, nI_d5, nI_d6, nI_d8, nI_d10, nI_d20, nI_s1, nI_s48, pk_sub, x1', x2']
    repeat (first | (with_reducible refine pk1 ?_ ?_; omega) | (with_reducible refine pk2 ?_ ?_; omega) | (with_reducible refine bd1 ?_ ?_; omega))
    repeat (first | (with_reducible refine pk1 ?_ ?_; omega) | (with_reducible refine pk2 ?_ ?_; omega) | (with_reducible refine bd1 ?_ ?_; omega))
    refine r_152 ?_
    simp (disch := omega) only [true_imp_iff, false_imp_iff, not_true_eq_false, not_false_eq_true, and_true, true_and, Int32.reduceToInt, Int64.reduceToInt, Int32.reduceAdd, fa_lt, fa_le, fa_eq, cmi_lt, cmi_le, cmi_gt, cmi_ge, cmi_eq, fa_lt64, fa_le64, fa_eq64, Int32.toInt_toInt64, nI_toInt, ti_m1, sub1_ti, inB_iff, nI_clamp, Int32.add_zero, nI_1, nI_add, nI_p2, nI_p3, nI_p4, nI_p5, nI_p6, nI_p8, nI_p9, nI_p10, nI_m3, nI_m4, nI_m5, nI_m6, nI_m8, nI_m10, nI_m31, nI_m48, nI_m60, nI_m256, nI_t5, nI_t6, nI_a1, nI_a48, nI_a96, nI_d5, nI_d6, nI_d8, nI_d10, nI_d20, nI_s1, nI_s48, pk_sub]
    repeat (first | (with_reducible refine pk1 ?_ ?_; omega) | (with_reducible refine pk2 ?_ ?_; omega) | (with_reducible refine bd1 ?_ ?_; omega))
    exact ⟨rfl, rfl, Or.inl rfl⟩
  · refine r_91 ?_
    simp (disch := omega) only [true_imp_iff, false_imp_iff, not_true_eq_false, not_false_eq_true, and_true, true_and, Int32.reduceToInt, Int64.reduceToInt, Int32.reduceAdd, fa_lt, fa_le, fa_eq, cmi_lt, cmi_le, cmi_gt, cmi_ge, cmi_eq, fa_lt64, fa_le64, fa_eq64, Int32.toInt_toInt64, nI_toInt, ti_m1, sub1_ti, inB_iff, nI_clamp, Int32.add_zero, nI_1, nI_add, nI_p2, nI_p3, nI_p4, nI_p5, nI_p6, nI_p8, nI_p9, nI_p10, nI_m3, nI_m4, nI_m5, nI_m6, nI_m8, nI_m10, nI_m31, nI_m48, nI_m60, nI_m256, nI_t5, nI_t6, nI_a1, nI_a48, nI_a96, nI_d5, nI_d6, nI_d8, nI_d10, nI_d20, nI_s1, nI_s48, pk_sub, x1', x2']
    repeat (first | (with_reducible refine pk1 ?_ ?_; omega) | (with_reducible refine pk2 ?_ ?_; omega) | (with_reducible refine bd1 ?_ ?_; omega))
    repeat (first | (with_reducible refine pk1 ?_ ?_; omega) | (with_reducible refine pk2 ?_ ?_; omega) | (with_reducible refine bd1 ?_ ?_; omega))
    refine r_152 ?_
    simp (disch := omega) only [true_imp_iff, false_imp_iff, not_true_eq_false, not_false_eq_true, and_true, true_and, Int32.reduceToInt, Int64.reduceToInt, Int32.reduceAdd, fa_lt, fa_le, fa_eq, cmi_lt, cmi_le, cmi_gt, cmi_ge, cmi_eq, fa_lt64, fa_le64, fa_eq64, Int32.toInt_toInt64, nI_toInt, ti_m1, sub1_ti, inB_iff, nI_clamp, Int32.add_zero, nI_1, nI_add, nI_p2, nI_p3, nI_p4, nI_p5, nI_p6, nI_p8, nI_p9, nI_p10, nI_m3, nI_m4, nI_m5, nI_m6, nI_m8, nI_m10, nI_m31, nI_m48, nI_m60, nI_m256, nI_t5, nI_t6, nI_a1, nI_a48, nI_a96, nI_d5, nI_d6, nI_d8, nI_d10, nI_d20, nI_s1, nI_s48, pk_sub]
    repeat (first | (with_reducible refine pk1 ?_ ?_; omega) | (with_reducible refine pk2 ?_ ?_; omega) | (with_reducible refine bd1 ?_ ?_; omega))
    exact ⟨rfl, rfl, Or.inl rfl⟩
  by_cases hfull : n = 24
  · subst hfull
    refine r_91 ?_
    simp (disch := omega) only [true_imp_iff, false_imp_iff, not_true_eq_false, not_false_eq_true, and_true, true_and, Int32.reduceToInt, Int64.reduceToInt, Int32.reduceAdd, fa_lt, fa_le, fa_eq, cmi_lt, cmi_le, cmi_gt, cmi_ge, cmi_eq, fa_lt64, fa_le64, fa_eq64, Int32.toInt_toInt64, nI_toInt, ti_m1, sub1_ti, inB_iff, nI_clamp, Int32.add_zero, nI_1, nI_add, nI_p2, nI_p3, nI_p4, nI_p5, nI_p6, nI_p8, nI_p9, nI_p10, nI_m3, nI_m4, nI_m5, nI_m6, nI_m8, nI_m10, nI_m31, nI_m48, nI_m60, nI_m256, nI_t5, nI_t6, nI_a1, nI_a48, nI_a96, nI_d5, nI_d6, nI_d8, nI_d10, nI_d20, nI_s1, nI_s48, pk_sub, x1', x2']
    repeat (first | (with_reducible refine pk1 ?_ ?_; omega) | (with_reducible refine pk2 ?_ ?_; omega) | (with_reducible refine bd1 ?_ ?_; omega))
    repeat (first | (with_reducible refine pk1 ?_ ?_; omega) | (with_reducible refine pk2 ?_ ?_; omega) | (with_reducible refine bd1 ?_ ?_; omega))
    refine r_152 ?_
    simp (disch := omega) only [true_imp_iff, false_imp_iff, not_true_eq_false, not_false_eq_true, and_true, true_and, Int32.reduceToInt, Int64.reduceToInt, Int32.reduceAdd, fa_lt, fa_le, fa_eq, cmi_lt, cmi_le, cmi_gt, cmi_ge, cmi_eq, fa_lt64, fa_le64, fa_eq64, Int32.toInt_toInt64, nI_toInt, ti_m1, sub1_ti, inB_iff, nI_clamp, Int32.add_zero, nI_1, nI_add, nI_p2, nI_p3, nI_p4, nI_p5, nI_p6, nI_p8, nI_p9, nI_p10, nI_m3, nI_m4, nI_m5, nI_m6, nI_m8, nI_m10, nI_m31, nI_m48, nI_m60, nI_m256, nI_t5, nI_t6, nI_a1, nI_a48, nI_a96, nI_d5, nI_d6, nI_d8, nI_d10, nI_d20, nI_s1, nI_s48, pk_sub, x3]
    repeat (first | (with_reducible refine pk1 ?_ ?_; omega) | (with_reducible refine pk2 ?_ ?_; omega) | (with_reducible refine bd1 ?_ ?_; omega))
    exact ⟨rfl, rfl, Or.inl rfl⟩
  have go : ClV 4 54 [.ref 5, .int (nI b)] di dl (fun di2 dl2 => ClI 2 152 [.ref 176, .int (nI 2), .int (nI b)] (up2 di2 8 10 1) dl2 (fun r' di3 dl3 => Pt di dl (di2 5 2) r' di3 dl3)) := by
    refine r_54t5 ?_
    simp (disch := omega) only [true_imp_iff, false_imp_iff, not_true_eq_false, not_false_eq_true, and_true, true_and, Int32.reduceToInt, Int64.reduceToInt, Int32.reduceAdd, fa_lt, fa_le, fa_eq, cmi_lt, cmi_le, cmi_gt, cmi_ge, cmi_eq, fa_lt64, fa_le64, fa_eq64, Int32.toInt_toInt64, nI_toInt, ti_m1, sub1_ti, inB_iff, nI_clamp, Int32.add_zero, nI_1, nI_add, nI_p2, nI_p3, nI_p4, nI_p5, nI_p6, nI_p8, nI_p9, nI_p10, nI_m3, nI_m4, nI_m5, nI_m6, nI_m8, nI_m10, nI_m31, nI_m48, nI_m60, nI_m256, nI_t5, nI_t6, nI_a1, nI_a48, nI_a96, nI_d5, nI_d6, nI_d8, nI_d10, nI_d20, nI_s1, nI_s48, pk_sub, x2']
    repeat (first | (with_reducible refine pk1 ?_ ?_; omega) | (with_reducible refine pk2 ?_ ?_; omega) | (with_reducible refine bd1 ?_ ?_; omega))
    refine c_58M (n := n + 1) (f := fun i => if i = n then b else f i) (by omega) (by simp (disch := omega) only [up_eq, up_na, up_nk]) ?_ ?_
    · intro i hi
      by_cases e : i = n
      · subst e
        refine ⟨?_, ?_⟩
        · rw [if_pos rfl]; omega
        · rw [if_pos rfl]
          simp (disch := omega) only [up_eq, up_na, up_nk]
      · rw [if_neg e]
        refine ⟨(x4 i (by omega)).1, ?_⟩
        simp (disch := omega) only [up_eq, up_na, up_nk]
        exact (x4 i (by omega)).2.1
    · intro d x r m hF hf d3 d4 fr
      have e3 : d 182 2 = nI n := by rw [fr _ _ (by omega)]; simp (disch := omega) only [up_eq, up_na, up_nk]; exact x3
      have e2 : d 5 2 = nI (n + 1) := by rw [fr _ _ (by omega)]; simp (disch := omega) only [up_eq, up_na, up_nk]
      refine r_152 ?_
      simp (disch := omega) only [true_imp_iff, false_imp_iff, not_true_eq_false, not_false_eq_true, and_true, true_and, Int32.reduceToInt, Int64.reduceToInt, Int32.reduceAdd, fa_lt, fa_le, fa_eq, cmi_lt, cmi_le, cmi_gt, cmi_ge, cmi_eq, fa_lt64, fa_le64, fa_eq64, Int32.toInt_toInt64, nI_toInt, ti_m1, sub1_ti, inB_iff, nI_clamp, Int32.add_zero, nI_1, nI_add, nI_p2, nI_p3, nI_p4, nI_p5, nI_p6, nI_p8, nI_p9, nI_p10, nI_m3, nI_m4, nI_m5, nI_m6, nI_m8, nI_m10, nI_m31, nI_m48, nI_m60, nI_m256, nI_t5, nI_t6, nI_a1, nI_a48, nI_a96, nI_d5, nI_d6, nI_d8, nI_d10, nI_d20, nI_s1, nI_s48, pk_sub, up_eq, up_na, up_nk, e3]
      repeat (first | (with_reducible refine pk1 ?_ ?_; omega) | (with_reducible refine pk2 ?_ ?_; omega) | (with_reducible refine bd1 ?_ ?_; omega))
      rw [e2]
      refine ⟨rfl, rfl, Or.inr ⟨?_, by simp (disch := omega) only [up_eq, up_na, up_nk], ?_⟩⟩
      · have Q : ∀ y k, ¬ (y = 5 ∨ y = 6) ∧ y ≤ 6 → up2 (up2 (up2 d 8 10 1) 181 (96 + n) (nI b)) 182 2 (nI (n + 1)) y k = di y k := by
          intro y k hy
          simp (disch := omega) only [up_eq, up_na, up_nk]
          rw [fr _ _ (by omega)]
          simp (disch := omega) only [up_eq, up_na, up_nk]
        have Q1 : ∀ k, ¬ (48 * 2 ≤ k ∧ k < 48 * 2 + 48) → up2 (up2 (up2 d 8 10 1) 181 (96 + n) (nI b)) 182 2 (nI (n + 1)) 181 k = di 181 k := by
          intro k hk
          simp (disch := omega) only [up_eq, up_na, up_nk]
          rw [fr _ _ (by omega)]
          simp (disch := omega) only [up_eq, up_na, up_nk]
        have Q2 : ∀ k, ¬ k = 2 → up2 (up2 (up2 d 8 10 1) 181 (96 + n) (nI b)) 182 2 (nI (n + 1)) 182 k = di 182 k := by
          intro k hk
          simp (disch := omega) only [up_eq, up_na, up_nk]
          rw [fr _ _ (by omega)]
          simp (disch := omega) only [up_eq, up_na, up_nk]
        refine ⟨ITS_cong (fun k => Q _ k (by omega)) (fun k => Q _ k (by omega)) (Q2 _ (by omega)) (fun i hi => Q1 _ (by omega)) H.1, ITC_cong (fun k => Q _ k (by omega)) (fun k => Q _ k (by omega)) (Q2 _ (by omega)) (fun i hi => Q1 _ (by omega)) H.2.1, ?_⟩
        refine mkM (d := d) (g := fun i => if i = n then b else f i) (n := n + 1) (by omega) (by rw [fr _ _ (by omega)]; simp (disch := omega) only [up_eq, up_na, up_nk]; exact x1) e2 ?_ hF hf d3 d4 (fun y k hy => by simp (disch := omega) only [up_eq, up_na, up_nk]) (by simp (disch := omega) only [up_eq, up_na, up_nk]) ?_
        · intro i hi
          by_cases e : i = n
          · subst e
            refine ⟨?_, ?_⟩
            · rw [if_pos rfl]; omega
            · rw [if_pos rfl, fr _ _ (by omega)]
              simp (disch := omega) only [up_eq, up_na, up_nk]
          · rw [if_neg e]
            refine ⟨(x4 i (by omega)).1, ?_⟩
            rw [fr _ _ (by omega)]
            simp (disch := omega) only [up_eq, up_na, up_nk]
            exact (x4 i (by omega)).2.1
        · intro i hi
          by_cases e : i = n
          · subst e
            rw [if_pos rfl]
            simp (disch := omega) only [up_eq, up_na, up_nk]
          · rw [if_neg e]
            simp (disch := omega) only [up_eq, up_na, up_nk]
            rw [fr _ _ (by omega)]
            simp (disch := omega) only [up_eq, up_na, up_nk]
            exact (x4 i (by omega)).2.2
      · intro y k z1 z2 z3 z4
        simp (disch := omega) only [up_eq, up_na, up_nk]
        have : ¬ (y = 8 ∧ k = 10) := z2
        unfold up2
        rw [if_neg (by omega), fr _ _ (by omega)]
        simp (disch := omega) only [up_eq, up_na, up_nk]
  refine r_91 ?_
  simp (disch := omega) only [true_imp_iff, false_imp_iff, not_true_eq_false, not_false_eq_true, and_true, true_and, Int32.reduceToInt, Int64.reduceToInt, Int32.reduceAdd, fa_lt, fa_le, fa_eq, cmi_lt, cmi_le, cmi_gt, cmi_ge, cmi_eq, fa_lt64, fa_le64, fa_eq64, Int32.toInt_toInt64, nI_toInt, ti_m1, sub1_ti, inB_iff, nI_clamp, Int32.add_zero, nI_1, nI_add, nI_p2, nI_p3, nI_p4, nI_p5, nI_p6, nI_p8, nI_p9, nI_p10, nI_m3, nI_m4, nI_m5, nI_m6, nI_m8, nI_m10, nI_m31, nI_m48, nI_m60, nI_m256, nI_t5, nI_t6, nI_a1, nI_a48, nI_a96, nI_d5, nI_d6, nI_d8, nI_d10, nI_d20, nI_s1, nI_s48, pk_sub, x1', x2']
  repeat (first | (with_reducible refine pk1 ?_ ?_; omega) | (with_reducible refine pk2 ?_ ?_; omega) | (with_reducible refine bd1 ?_ ?_; omega))
  repeat (first | (with_reducible refine pk1 ?_ ?_; omega) | (with_reducible refine pk2 ?_ ?_; omega) | (with_reducible refine bd1 ?_ ?_; omega))
  exact go
