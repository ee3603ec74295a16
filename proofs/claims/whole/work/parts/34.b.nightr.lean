/-! the night: the reference -/
def WO (t : tTown) (d : tDi) : Prop := ∀ m, m ≤ nM t → ∀ s, s < nS t → d 194 (8 * m + s) = worn t (Qm t m) s
section NIGHTR
variable {t : tTown} {y : tY} {di : tDi} {dl : tDl} {K : Int32 → tDi → tDl → Prop}
theorem Yr_FI {d e : tDi} (h : FI d e) (H : Yr y d) : Yr y e := by
  refine ⟨?_, fun k hk => ?_⟩
  · rw [h _ _ (by omega)]; exact H.1
  · rw [h _ _ (by omega), h _ _ (by omega), h _ _ (by omega)]
    exact H.2 k hk
theorem c_203 (hw : Wt t) (hr : Rs t di) {K : tDi → tDl → Prop} (kk : ∀ d, WO t d → Rs t d → FI di d → K d dl) : ClV 5 203 [.ref 176] di dl K := by
  have w1 := hw.1.1
  have w3 := hw.1.2.2.1
  refine r_203 ?_
  refine up_to (n := nM t + 1) (G := fun m => ∀ d, (∀ m', m' < m → ∀ s, s < nS t → d 194 (8 * m' + s) = worn t (Qm t m') s) → Rs t d → FI di d → Wq none 5 203 2 [(0, .ref 176), (1, .int (nI m))] [] d dl (RV K)) ?_ ?_ (Nat.zero_le _) di (fun m' hm => absurd hm (Nat.not_lt_zero m')) hr FI_rf
  · intro d hd hr' fi
    have c3 := hr'.2.2.1
    refine r_203_2 ?_
    simp (disch := omega) only [true_imp_iff, false_imp_iff, not_true_eq_false, not_false_eq_true, and_true, true_and, Int32.reduceToInt, Int64.reduceToInt, Int32.reduceAdd, fa_lt, fa_le, fa_eq, cmi_lt, cmi_le, cmi_gt, cmi_ge, cmi_eq, fa_lt64, fa_le64, fa_eq64, Int32.toInt_toInt64, nI_toInt, ti_m1, sub1_ti, inB_iff, nI_clamp, Int32.add_zero, nI_1, nI_add, nI_p2, nI_p3, nI_p4, nI_p5, nI_p6, nI_p8, nI_p9, nI_p10, nI_m3, nI_m4, nI_m5, nI_m6, nI_m8, nI_m10, nI_m31, nI_m48, nI_m60, nI_m256, nI_t5, nI_t6, nI_a1, nI_a48, nI_a96, nI_d5, nI_d6, nI_d8, nI_d10, nI_d20, nI_s1, nI_s48, pk_sub, c3]
    repeat (first | (with_reducible refine pk1 ?_ ?_; omega) | (with_reducible refine pk2 ?_ ?_; omega) | (with_reducible refine bd1 ?_ ?_; omega))
    exact kk d (fun m hm => hd m (by omega)) hr' fi
  · intro m hm ih d hd hr' fi
    have c3 := hr'.2.2.1
    refine r_203_2 ?_
    simp (disch := omega) only [true_imp_iff, false_imp_iff, not_true_eq_false, not_false_eq_true, and_true, true_and, Int32.reduceToInt, Int64.reduceToInt, Int32.reduceAdd, fa_lt, fa_le, fa_eq, cmi_lt, cmi_le, cmi_gt, cmi_ge, cmi_eq, fa_lt64, fa_le64, fa_eq64, Int32.toInt_toInt64, nI_toInt, ti_m1, sub1_ti, inB_iff, nI_clamp, Int32.add_zero, nI_1, nI_add, nI_p2, nI_p3, nI_p4, nI_p5, nI_p6, nI_p8, nI_p9, nI_p10, nI_m3, nI_m4, nI_m5, nI_m6, nI_m8, nI_m10, nI_m31, nI_m48, nI_m60, nI_m256, nI_t5, nI_t6, nI_a1, nI_a48, nI_a96, nI_d5, nI_d6, nI_d8, nI_d10, nI_d20, nI_s1, nI_s48, pk_sub, c3]
    repeat (first | (with_reducible refine pk1 ?_ ?_; omega) | (with_reducible refine pk2 ?_ ?_; omega) | (with_reducible refine bd1 ?_ ?_; omega))
    refine c_179 hw hr' (by omega) ?_
    intro e h8 h9 fl
    have hre := Rs_FI (FL_FI fl) hr'
    refine up_to (n := nS t) (G := fun s => ∀ d2, (∀ m', m' < m → ∀ s, s < nS t → d2 194 (8 * m' + s) = worn t (Qm t m') s) → (∀ s', s' < s → d2 194 (8 * m + s') = worn t (Qm t m) s') → FF1 194 e d2 → Wq none 5 203 19 [(0, .ref 176), (1, .int (nI m)), (2, .int (nI s))] [] d2 dl (RV K)) ?_ ?_ (Nat.zero_le _) e ?_ (fun s' hs' => absurd hs' (Nat.not_lt_zero s')) (fun _ _ _ => rfl)
    · intro d2 h1 h2 fr
      have hr2 := Rs_1 (by omega) fr hre
      have c1 := hr2.1
      refine r_203_19 ?_
      simp (disch := omega) only [true_imp_iff, false_imp_iff, not_true_eq_false, not_false_eq_true, and_true, true_and, Int32.reduceToInt, Int64.reduceToInt, Int32.reduceAdd, fa_lt, fa_le, fa_eq, cmi_lt, cmi_le, cmi_gt, cmi_ge, cmi_eq, fa_lt64, fa_le64, fa_eq64, Int32.toInt_toInt64, nI_toInt, ti_m1, sub1_ti, inB_iff, nI_clamp, Int32.add_zero, nI_1, nI_add, nI_p2, nI_p3, nI_p4, nI_p5, nI_p6, nI_p8, nI_p9, nI_p10, nI_m3, nI_m4, nI_m5, nI_m6, nI_m8, nI_m10, nI_m31, nI_m48, nI_m60, nI_m256, nI_t5, nI_t6, nI_a1, nI_a48, nI_a96, nI_d5, nI_d6, nI_d8, nI_d10, nI_d20, nI_s1, nI_s48, pk_sub, c1]
      repeat (first | (with_reducible refine pk1 ?_ ?_; omega) | (with_reducible refine pk2 ?_ ?_; omega) | (with_reducible refine bd1 ?_ ?_; omega))
      refine ih d2 ?_ hr2 (FI_tr (FI_tr fi (FL_FI fl)) (fun a k z => fr a k (by omega)))
      intro m' hm' s hs
      rcases Nat.lt_succ_iff_lt_or_eq.mp hm' with z | z
      · exact h1 m' z s hs
      · subst z
        exact h2 s hs
    · intro s hs is d2 h1 h2 fr
      have hr2 := Rs_1 (by omega) fr hre
      have c1 := hr2.1
      have e9 : d2 189 s = worn t (Qm t m) s := by rw [fr _ _ (by omega)]; exact h9 s hs
      refine r_203_19 ?_
      simp (disch := omega) only [true_imp_iff, false_imp_iff, not_true_eq_false, not_false_eq_true, and_true, true_and, Int32.reduceToInt, Int64.reduceToInt, Int32.reduceAdd, fa_lt, fa_le, fa_eq, cmi_lt, cmi_le, cmi_gt, cmi_ge, cmi_eq, fa_lt64, fa_le64, fa_eq64, Int32.toInt_toInt64, nI_toInt, ti_m1, sub1_ti, inB_iff, nI_clamp, Int32.add_zero, nI_1, nI_add, nI_p2, nI_p3, nI_p4, nI_p5, nI_p6, nI_p8, nI_p9, nI_p10, nI_m3, nI_m4, nI_m5, nI_m6, nI_m8, nI_m10, nI_m31, nI_m48, nI_m60, nI_m256, nI_t5, nI_t6, nI_a1, nI_a48, nI_a96, nI_d5, nI_d6, nI_d8, nI_d10, nI_d20, nI_s1, nI_s48, pk_sub, c1, e9]
      repeat (first | (with_reducible refine pk1 ?_ ?_; omega) | (with_reducible refine pk2 ?_ ?_; omega) | (with_reducible refine bd1 ?_ ?_; omega))
      refine is _ ?_ ?_ (fun a k z => by rw [up_na z]; exact fr a k z)
      · intro m' hm' s' hs'
        rw [up_nk (by omega)]
        exact h1 m' hm' s' hs'
      · intro s' hs'
        rcases Nat.lt_succ_iff_lt_or_eq.mp hs' with z | z
        · rw [up_nk (by omega)]
          exact h2 s' z
        · subst z
          rw [up_eq]
    · intro m' hm' s hs
      rw [fl _ _ (by omega) (by omega)]
      exact hd m' hm' s hs
theorem c_205 (hw : Wt t) (hr : Rs t di) (ho : WO t di) (hy : Yb y) (hi : Yr y di) {a b : Nat} (ha : a < nS t) (hb : b < nS t) (kk : K (if sAll t y a b = true then 1 else 0) di dl) : ClI 2 205 [.ref 176, .int (nI a), .int (nI b)] di dl K := by
  have w1 := hw.1.1
  have w3 := hw.1.2.2.1
  have c1 := hr.1
  have c3 := hr.2.2.1
  obtain ⟨y1, y2⟩ := hy
  obtain ⟨i1, i2⟩ := hi
  refine r_205 ?_
  have no : ∀ k, k < y.1 → agr t y a b k = false → Wq none 2 205 5 [(0, .ref 176), (1, .int (nI a)), (2, .int (nI b)), (3, .int 0), (4, .int (nI (k + 1)))] [] di dl (RI K) := by
    intro k hk z
    have : sAll t y a b = false := alB_at z hk
    rw [if_neg (by rw [this]; decide)] at kk
    exact r_205_5 ⟨fun _ => ⟨Or.inl rfl, kk⟩, fun _ => pk1 ⟨rfl, fun z => z rfl⟩ ⟨Or.inl rfl, kk⟩⟩
  refine up_to (n := y.1) (G := fun k => alB (agr t y a b) k = true → Wq none 2 205 5 [(0, .ref 176), (1, .int (nI a)), (2, .int (nI b)), (3, .int 1), (4, .int (nI k))] [] di dl (RI K)) ?_ ?_ (Nat.zero_le _) rfl
  · intro h
    rw [if_pos (show sAll t y a b = true from h)] at kk
    refine r_205_5 (pk1 ⟨by rw [i1]; exact Int32.le_refl _, fun z => by rw [i1] at z; exact absurd (Int32.le_refl _) (Int32.not_le.mpr z)⟩ ⟨Or.inr rfl, kk⟩)
  · intro k hk ih h
    obtain ⟨g1, g2, g3⟩ := i2 k hk
    obtain ⟨q1, q2⟩ := y2 k hk
    have nk := no k hk
    refine r_205_5 ?_
    by_cases h1 : y.2.1 k ≤ nM t
    · by_cases h2 : y.2.2.1 k < nS t
      · have yes : worn t (Qm t (y.2.1 k)) (chg (y.2.2.1 k) a b) = y.2.2.2 k → Wq none 2 205 5 [(0, .ref 176), (1, .int (nI a)), (2, .int (nI b)), (3, .int 1), (4, .int (nI (k + 1)))] [] di dl (RI K) := by
          intro h3
          refine ih ?_
          show (alB (agr t y a b) k && agr t y a b k) = true
          rw [h]
          exact decide_eq_true ⟨h1, h2, h3⟩
        have nok : ¬ worn t (Qm t (y.2.1 k)) (chg (y.2.2.1 k) a b) = y.2.2.2 k → Wq none 2 205 5 [(0, .ref 176), (1, .int (nI a)), (2, .int (nI b)), (3, .int 0), (4, .int (nI (k + 1)))] [] di dl (RI K) := fun h3 => nk (decide_eq_false (fun z => h3 z.2.2))
        unfold chg at yes nok
        by_cases e1 : y.2.2.1 k = a
        · rw [if_pos e1] at yes nok
          have o1 := ho (y.2.1 k) h1 b hb
          simp (disch := omega) only [true_imp_iff, false_imp_iff, not_true_eq_false, not_false_eq_true, and_true, true_and, Int32.reduceToInt, Int64.reduceToInt, Int32.reduceAdd, fa_lt, fa_le, fa_eq, cmi_lt, cmi_le, cmi_gt, cmi_ge, cmi_eq, fa_lt64, fa_le64, fa_eq64, Int32.toInt_toInt64, nI_toInt, ti_m1, sub1_ti, inB_iff, nI_clamp, Int32.add_zero, nI_1, nI_add, nI_p2, nI_p3, nI_p4, nI_p5, nI_p6, nI_p8, nI_p9, nI_p10, nI_m3, nI_m4, nI_m5, nI_m6, nI_m8, nI_m10, nI_m31, nI_m48, nI_m60, nI_m256, nI_t5, nI_t6, nI_a1, nI_a48, nI_a96, nI_d5, nI_d6, nI_d8, nI_d10, nI_d20, nI_s1, nI_s48, pk_sub, i1, g1, g2, g3, c1, c3, o1]
          repeat (first | (with_reducible refine pk1 ?_ ?_; omega) | (with_reducible refine pk2 ?_ ?_; omega) | (with_reducible refine bd1 ?_ ?_; omega))
          exact ⟨fun z => nok (fun z' => z (by rw [z'])), fun z => yes (Int32.toInt_inj.mp z)⟩
        · rw [if_neg e1] at yes nok
          by_cases e2 : y.2.2.1 k = b
          · rw [if_pos e2] at yes nok
            have o1 := ho (y.2.1 k) h1 a ha
            simp (disch := omega) only [true_imp_iff, false_imp_iff, not_true_eq_false, not_false_eq_true, and_true, true_and, Int32.reduceToInt, Int64.reduceToInt, Int32.reduceAdd, fa_lt, fa_le, fa_eq, cmi_lt, cmi_le, cmi_gt, cmi_ge, cmi_eq, fa_lt64, fa_le64, fa_eq64, Int32.toInt_toInt64, nI_toInt, ti_m1, sub1_ti, inB_iff, nI_clamp, Int32.add_zero, nI_1, nI_add, nI_p2, nI_p3, nI_p4, nI_p5, nI_p6, nI_p8, nI_p9, nI_p10, nI_m3, nI_m4, nI_m5, nI_m6, nI_m8, nI_m10, nI_m31, nI_m48, nI_m60, nI_m256, nI_t5, nI_t6, nI_a1, nI_a48, nI_a96, nI_d5, nI_d6, nI_d8, nI_d10, nI_d20, nI_s1, nI_s48, pk_sub, i1, g1, g2, g3, c1, c3, o1]
            repeat (first | (with_reducible refine pk1 ?_ ?_; omega) | (with_reducible refine pk2 ?_ ?_; omega) | (with_reducible refine bd1 ?_ ?_; omega))
            exact ⟨fun z => nok (fun z' => z (by rw [z'])), fun z => yes (Int32.toInt_inj.mp z)⟩
          · rw [if_neg e2] at yes nok
            have o1 := ho (y.2.1 k) h1 (y.2.2.1 k) h2
            simp (disch := omega) only [true_imp_iff, false_imp_iff, not_true_eq_false, not_false_eq_true, and_true, true_and, Int32.reduceToInt, Int64.reduceToInt, Int32.reduceAdd, fa_lt, fa_le, fa_eq, cmi_lt, cmi_le, cmi_gt, cmi_ge, cmi_eq, fa_lt64, fa_le64, fa_eq64, Int32.toInt_toInt64, nI_toInt, ti_m1, sub1_ti, inB_iff, nI_clamp, Int32.add_zero, nI_1, nI_add, nI_p2, nI_p3, nI_p4, nI_p5, nI_p6, nI_p8, nI_p9, nI_p10, nI_m3, nI_m4, nI_m5, nI_m6, nI_m8, nI_m10, nI_m31, nI_m48, nI_m60, nI_m256, nI_t5, nI_t6, nI_a1, nI_a48, nI_a96, nI_d5, nI_d6, nI_d8, nI_d10, nI_d20, nI_s1, nI_s48, pk_sub, i1, g1, g2, g3, c1, c3, o1]
            repeat (first | (with_reducible refine pk1 ?_ ?_; omega) | (with_reducible refine pk2 ?_ ?_; omega) | (with_reducible refine bd1 ?_ ?_; omega))
            exact ⟨fun z => nok (fun z' => z (by rw [z'])), fun z => yes (Int32.toInt_inj.mp z)⟩
      · simp (disch := omega) only [true_imp_iff, false_imp_iff, not_true_eq_false, not_false_eq_true, and_true, true_and, Int32.reduceToInt, Int64.reduceToInt, Int32.reduceAdd, fa_lt, fa_le, fa_eq, cmi_lt, cmi_le, cmi_gt, cmi_ge, cmi_eq, fa_lt64, fa_le64, fa_eq64, Int32.toInt_toInt64, nI_toInt, ti_m1, sub1_ti, inB_iff, nI_clamp, Int32.add_zero, nI_1, nI_add, nI_p2, nI_p3, nI_p4, nI_p5, nI_p6, nI_p8, nI_p9, nI_p10, nI_m3, nI_m4, nI_m5, nI_m6, nI_m8, nI_m10, nI_m31, nI_m48, nI_m60, nI_m256, nI_t5, nI_t6, nI_a1, nI_a48, nI_a96, nI_d5, nI_d6, nI_d8, nI_d10, nI_d20, nI_s1, nI_s48, pk_sub, i1, g1, g2, g3, c1, c3]
        repeat (first | (with_reducible refine pk1 ?_ ?_; omega) | (with_reducible refine pk2 ?_ ?_; omega) | (with_reducible refine bd1 ?_ ?_; omega))
        exact nk (decide_eq_false (fun z => h2 z.2.1))
    · simp (disch := omega) only [true_imp_iff, false_imp_iff, not_true_eq_false, not_false_eq_true, and_true, true_and, Int32.reduceToInt, Int64.reduceToInt, Int32.reduceAdd, fa_lt, fa_le, fa_eq, cmi_lt, cmi_le, cmi_gt, cmi_ge, cmi_eq, fa_lt64, fa_le64, fa_eq64, Int32.toInt_toInt64, nI_toInt, ti_m1, sub1_ti, inB_iff, nI_clamp, Int32.add_zero, nI_1, nI_add, nI_p2, nI_p3, nI_p4, nI_p5, nI_p6, nI_p8, nI_p9, nI_p10, nI_m3, nI_m4, nI_m5, nI_m6, nI_m8, nI_m10, nI_m31, nI_m48, nI_m60, nI_m256, nI_t5, nI_t6, nI_a1, nI_a48, nI_a96, nI_d5, nI_d6, nI_d8, nI_d10, nI_d20, nI_s1, nI_s48, pk_sub, i1, g1, g2, g3, c1, c3]
      repeat (first | (with_reducible refine pk1 ?_ ?_; omega) | (with_reducible refine pk2 ?_ ?_; omega) | (with_reducible refine bd1 ?_ ?_; omega))
      exact nk (decide_eq_false (fun z => h1 z.1))
theorem hdI_a {L : List Nat} {x : Nat} : hdI (L ++ [x]) = if L.length = 0 then nI x else hdI L := by
  cases L with
  | nil => rfl
  | cons z L => rfl
theorem c_206 (hw : Wt t) (hr : Rs t di) (hy : Yb y) (hi : Yr y di) {j : Nat} (hj : j < 2) (kk : ∀ d, Rs t d → FI di d → K (swaV t y j) d dl) : ClI 6 206 [.ref 176, .int (nI j)] di dl K := by
  have w1 := hw.1.1
  refine r_206 (c_203 hw hr ?_)
  intro d ho hr' fi
  replace kk := kk d hr' fi
  have c1 := hr'.1
  have hy' := Yr_FI fi hi
  refine up_to (n := nS t) (G := fun a => Wq none 6 206 11 [(0, .ref 176), (1, .int (nI j)), (2, .int (nI (alP t y a).length)), (3, .int (hdI (alP t y a))), (4, .int (nI a))] [] d dl (RI K)) ?_ ?_ (Nat.zero_le _)
  · unfold swaV at kk
    refine r_206_11 (pk1 ⟨by rw [c1]; exact Int32.le_refl _, fun z => by rw [c1] at z; exact absurd (Int32.le_refl _) (Int32.not_le.mpr z)⟩ ?_)
    by_cases e : j = 0
    · rw [if_pos e] at kk
      exact pk2 ⟨fun z => z (by rw [e]; rfl), by rw [e]; rfl⟩ kk
    · rw [if_neg e] at kk
      have : ¬ nI j = 0 := nI_ne0 (by omega) (by omega)
      exact pk1 ⟨this, this⟩ kk
  · intro a ha ih
    refine r_206_11 (pk2 ⟨fun z => by rw [c1] at z; exact absurd (nI_lt ha (by omega)) (Int32.not_lt.mpr z), by rw [c1]; exact nI_lt ha (by omega)⟩ ?_)
    rw [nI_1]
    refine up_to (n := nS t - (a + 1)) (G := fun i => Wq none 6 206 28 [(0, .ref 176), (1, .int (nI j)), (2, .int (nI (rwP t y a (alP t y a) i).length)), (3, .int (hdI (rwP t y a (alP t y a) i))), (4, .int (nI a)), (5, .int (nI (a + 1 + i)))] [] d dl (RI K)) ?_ ?_ (Nat.zero_le _)
    · refine r_206_28 (pk1 ⟨by rw [c1]; exact nI_le (by omega) (by omega), fun z => by rw [c1] at z; exact absurd (nI_le (show nS t ≤ a + 1 + (nS t - (a + 1)) by omega) (by omega)) (Int32.not_le.mpr z)⟩ ?_)
      rw [nI_1]
      exact ih
    · intro i hi2 ii
      have l1 := len28 hw (y := y) ha hi2
      refine r_206_28 (pk2 ⟨fun z => by rw [c1] at z; exact absurd (nI_lt (show a + 1 + i < nS t by omega) (by omega)) (Int32.not_lt.mpr z), by rw [c1]; exact nI_lt (by omega) (by omega)⟩ ?_)
      refine c_205 hw hr' ho hy hy' ha (by omega) ?_
      have ii' : Wq none 6 206 28 [(0, .ref 176), (1, .int (nI j)), (2, .int (nI (prA t y a (a + 1 + i) (rwP t y a (alP t y a) i)).length)), (3, .int (hdI (prA t y a (a + 1 + i) (rwP t y a (alP t y a) i)))), (4, .int (nI a)), (5, .int (nI (a + 1 + i + 1)))] [] d dl (RI K) := ii
      unfold prA at ii'
      by_cases hs : sAll t y a (a + 1 + i) = true
      · rw [if_pos hs] at ii' ⊢
        rw [List.length_append, hdI_a] at ii'
        refine pk2 (by decide) ?_
        rw [nI_1, nI_1, nI_m8, nI_add]
        by_cases hz : (rwP t y a (alP t y a) i).length = 0
        · rw [if_pos hz] at ii'
          exact pk2 ⟨fun z => z (by rw [hz]; rfl), by rw [hz]; rfl⟩ ii'
        · rw [if_neg hz] at ii'
          have : ¬ nI (rwP t y a (alP t y a) i).length = 0 := nI_ne0 (by omega) (by omega)
          exact pk1 ⟨this, this⟩ ii'
      · rw [if_neg hs] at ii' ⊢
        rw [nI_1]
        exact pk1 (by decide) ii'
theorem c_208 (hw : Wt t) (hr : Rs t di) (ho : WO t di) (hy : Yb y) (hi : Yr y di) {m s : Nat} (hm : m ≤ nM t) (hs : s < nS t) (kk : ∀ d, FF1 195 di d → K (nI (maV t y m s)) d dl) : ClI 3 208 [.ref 176, .int (nI m), .int (nI s)] di dl K := by
  have w1 := hw.1.1
  have w3 := hw.1.2.2.1
  have R1 : ∀ d, FF1 195 di d → Rs t d := fun d fr => Rs_1 (by omega) fr hr
  have RO : ∀ d, FF1 195 di d → WO t d := fun d fr m hm s hs => by rw [fr _ _ (by omega)]; exact ho m hm s hs
  have RY : ∀ d, FF1 195 di d → Yr y d := fun d fr => Yr_FI (fun a k z => fr a k (by omega)) hi
  refine r_208 ?_
  refine up_to (n := 9) (G := fun k => ∀ d, (∀ i, i < k → d 195 i = 0) → FF1 195 di d → Wq none 3 208 2 [(0, .ref 176), (1, .int (nI m)), (2, .int (nI s)), (3, .int (nI k))] [] d dl (RI K)) ?_ ?_ (Nat.zero_le _) di (fun i hi => absurd hi (Nat.not_lt_zero i)) (fun _ _ _ => rfl)
  · intro d hz fr
    refine r_208_2 ?_
    simp (disch := omega) only [true_imp_iff, false_imp_iff, not_true_eq_false, not_false_eq_true, and_true, true_and, Int32.reduceToInt, Int64.reduceToInt, Int32.reduceAdd, fa_lt, fa_le, fa_eq, cmi_lt, cmi_le, cmi_gt, cmi_ge, cmi_eq, fa_lt64, fa_le64, fa_eq64, Int32.toInt_toInt64, nI_toInt, ti_m1, sub1_ti, inB_iff, nI_clamp, Int32.add_zero, nI_1, nI_add, nI_p2, nI_p3, nI_p4, nI_p5, nI_p6, nI_p8, nI_p9, nI_p10, nI_m3, nI_m4, nI_m5, nI_m6, nI_m8, nI_m10, nI_m31, nI_m48, nI_m60, nI_m256, nI_t5, nI_t6, nI_a1, nI_a48, nI_a96, nI_d5, nI_d6, nI_d8, nI_d10, nI_d20, nI_s1, nI_s48, pk_sub]
    repeat (first | (with_reducible refine pk1 ?_ ?_; omega) | (with_reducible refine pk2 ?_ ?_; omega) | (with_reducible refine bd1 ?_ ?_; omega))
    refine up_to (n := nS t) (G := fun a => ∀ d, (∀ k, k < 9 → d 195 k = nI ((mfo (wP t m s) (alP t y a)).1 k)) → FF1 195 di d → Wq none 3 208 26 [(0, .ref 176), (1, .int (nI m)), (2, .int (nI s)), (3, .int (nI (mfo (wP t m s) (alP t y a)).2)), (4, .int (nI a))] [] d dl (RI K)) ?_ ?_ (Nat.zero_le _) d (fun k hk => by rw [hz k hk]; rfl) fr
    · intro d hd fr
      have c1 := (R1 d fr).1
      refine r_208_26 ?_
      simp (disch := omega) only [true_imp_iff, false_imp_iff, not_true_eq_false, not_false_eq_true, and_true, true_and, Int32.reduceToInt, Int64.reduceToInt, Int32.reduceAdd, fa_lt, fa_le, fa_eq, cmi_lt, cmi_le, cmi_gt, cmi_ge, cmi_eq, fa_lt64, fa_le64, fa_eq64, Int32.toInt_toInt64, nI_toInt, ti_m1, sub1_ti, inB_iff, nI_clamp, Int32.add_zero, nI_1, nI_add, nI_p2, nI_p3, nI_p4, nI_p5, nI_p6, nI_p8, nI_p9, nI_p10, nI_m3, nI_m4, nI_m5, nI_m6, nI_m8, nI_m10, nI_m31, nI_m48, nI_m60, nI_m256, nI_t5, nI_t6, nI_a1, nI_a48, nI_a96, nI_d5, nI_d6, nI_d8, nI_d10, nI_d20, nI_s1, nI_s48, pk_sub, c1]
      repeat (first | (with_reducible refine pk1 ?_ ?_; omega) | (with_reducible refine pk2 ?_ ?_; omega) | (with_reducible refine bd1 ?_ ?_; omega))
      exact kk d fr
    · intro a ha ih d hd fr
      have c1 := (R1 d fr).1
      refine r_208_26 ?_
      simp (disch := omega) only [true_imp_iff, false_imp_iff, not_true_eq_false, not_false_eq_true, and_true, true_and, Int32.reduceToInt, Int64.reduceToInt, Int32.reduceAdd, fa_lt, fa_le, fa_eq, cmi_lt, cmi_le, cmi_gt, cmi_ge, cmi_eq, fa_lt64, fa_le64, fa_eq64, Int32.toInt_toInt64, nI_toInt, ti_m1, sub1_ti, inB_iff, nI_clamp, Int32.add_zero, nI_1, nI_add, nI_p2, nI_p3, nI_p4, nI_p5, nI_p6, nI_p8, nI_p9, nI_p10, nI_m3, nI_m4, nI_m5, nI_m6, nI_m8, nI_m10, nI_m31, nI_m48, nI_m60, nI_m256, nI_t5, nI_t6, nI_a1, nI_a48, nI_a96, nI_d5, nI_d6, nI_d8, nI_d10, nI_d20, nI_s1, nI_s48, pk_sub, c1]
      repeat (first | (with_reducible refine pk1 ?_ ?_; omega) | (with_reducible refine pk2 ?_ ?_; omega) | (with_reducible refine bd1 ?_ ?_; omega))
      refine up_to (n := nS t - (a + 1)) (G := fun i => ∀ d, (∀ k, k < 9 → d 195 k = nI ((mfo (wP t m s) (rwP t y a (alP t y a) i)).1 k)) → FF1 195 di d → Wq none 3 208 43 [(0, .ref 176), (1, .int (nI m)), (2, .int (nI s)), (3, .int (nI (mfo (wP t m s) (rwP t y a (alP t y a) i)).2)), (4, .int (nI a)), (5, .int (nI (a + 1 + i)))] [] d dl (RI K)) ?_ ?_ (Nat.zero_le _) d hd fr
      · intro d hd fr
        have c1 := (R1 d fr).1
        refine r_208_43 (pk1 ⟨by rw [c1]; exact nI_le (by omega) (by omega), fun z => by rw [c1] at z; exact absurd (nI_le (show nS t ≤ a + 1 + (nS t - (a + 1)) by omega) (by omega)) (Int32.not_le.mpr z)⟩ ?_)
        rw [nI_1]
        exact ih d hd fr
      · intro i hi2 ii d hd fr
        have hrd := R1 d fr
        have c1 := hrd.1
        have l1 := len28 hw (y := y) ha hi2
        refine r_208_43 (pk2 ⟨fun z => by rw [c1] at z; exact absurd (nI_lt (show a + 1 + i < nS t by omega) (by omega)) (Int32.not_lt.mpr z), by rw [c1]; exact nI_lt (by omega) (by omega)⟩ ?_)
        refine c_205 hw hrd (RO d fr) hy (RY d fr) ha (by omega) ?_
        have ii' : ∀ d, (∀ k, k < 9 → d 195 k = nI ((mfo (wP t m s) (prA t y a (a + 1 + i) (rwP t y a (alP t y a) i))).1 k)) → FF1 195 di d → Wq none 3 208 43 [(0, .ref 176), (1, .int (nI m)), (2, .int (nI s)), (3, .int (nI (mfo (wP t m s) (prA t y a (a + 1 + i) (rwP t y a (alP t y a) i))).2)), (4, .int (nI a)), (5, .int (nI (a + 1 + i + 1)))] [] d dl (RI K) := ii
        unfold prA at ii'
        by_cases hsa : sAll t y a (a + 1 + i) = true
        · rw [if_pos hsa] at ii' ⊢
          refine pk2 (by decide) ?_
          rw [mfo_a] at ii'
          obtain ⟨n1, n2⟩ := wN_in hw (Qm t m) (chg s a (a + 1 + i))
          have ew : wP t m s (8 * a + (a + 1 + i)) = wN t (Qm t m) (chg s a (a + 1 + i)) := by
            unfold wP
            rw [show (8 * a + (a + 1 + i)) / 8 = a by omega, show (8 * a + (a + 1 + i)) % 8 = a + 1 + i by omega]
          have bnd := mfo_le (w := wP t m s) (rwP t y a (alP t y a) i) (fun _ => 0, 0) 0 (fun _ => Nat.le_refl 0) (Nat.le_refl 0)
          have b1 : (mfo (wP t m s) (rwP t y a (alP t y a) i)).1 (wN t (Qm t m) (chg s a (a + 1 + i))) ≤ 28 := Nat.le_trans (bnd.1 _) (by omega)
          have b2 : (mfo (wP t m s) (rwP t y a (alP t y a) i)).2 ≤ 28 := Nat.le_trans bnd.2 (by omega)
          have hdw := hd _ n1
          have fin : ∀ g, g = max (mfo (wP t m s) (rwP t y a (alP t y a) i)).2 ((mfo (wP t m s) (rwP t y a (alP t y a) i)).1 (wN t (Qm t m) (chg s a (a + 1 + i))) + 1) → Wq none 3 208 43 [(0, .ref 176), (1, .int (nI m)), (2, .int (nI s)), (3, .int (nI g)), (4, .int (nI a)), (5, .int (nI (a + 1 + i + 1)))] [] (up2 d 195 (wN t (Qm t m) (chg s a (a + 1 + i))) (nI ((mfo (wP t m s) (rwP t y a (alP t y a) i)).1 (wN t (Qm t m) (chg s a (a + 1 + i))) + 1))) dl (RI K) := by
            intro g hg
            subst hg
            have := ii' (up2 d 195 (wN t (Qm t m) (chg s a (a + 1 + i))) (nI ((mfo (wP t m s) (rwP t y a (alP t y a) i)).1 (wN t (Qm t m) (chg s a (a + 1 + i))) + 1))) ?_ (fun a k z => by rw [up_na z]; exact fr a k z)
            · unfold mst at this
              rw [ew] at this
              exact this
            · intro k hk
              show _ = nI (if k = wP t m s (8 * a + (a + 1 + i)) then (mfo (wP t m s) (rwP t y a (alP t y a) i)).1 k + 1 else (mfo (wP t m s) (rwP t y a (alP t y a) i)).1 k)
              rw [ew]
              by_cases ek : k = wN t (Qm t m) (chg s a (a + 1 + i))
              · rw [if_pos ek, ek, up_eq]
              · rw [if_neg ek, up_nk ek]
                exact hd k hk
          have o1 := RO d fr m hm (chg s a (a + 1 + i)) (chg_lt hs ha (by omega))
          generalize hG : (mfo (wP t m s) (rwP t y a (alP t y a) i)).1 (wN t (Qm t m) (chg s a (a + 1 + i))) = cn at *
          generalize hH : (mfo (wP t m s) (rwP t y a (alP t y a) i)).2 = gr at *
          have fin1 : cn + 1 ≤ gr → Wq none 3 208 43 [(0, .ref 176), (1, .int (nI m)), (2, .int (nI s)), (3, .int (nI gr)), (4, .int (nI a)), (5, .int (nI (a + 1 + i + 1)))] [] (up2 d 195 (wN t (Qm t m) (chg s a (a + 1 + i))) (nI (cn + 1))) dl (RI K) := fun z => fin gr (Nat.max_eq_left z).symm
          have fin2 : gr < cn + 1 → Wq none 3 208 43 [(0, .ref 176), (1, .int (nI m)), (2, .int (nI s)), (3, .int (nI (cn + 1))), (4, .int (nI a)), (5, .int (nI (a + 1 + i + 1)))] [] (up2 d 195 (wN t (Qm t m) (chg s a (a + 1 + i))) (nI (cn + 1))) dl (RI K) := fun z => fin (cn + 1) (Nat.max_eq_right (by omega)).symm
          by_cases e1 : s = a
          · have ec : chg s a (a + 1 + i) = a + 1 + i := if_pos e1
            have o2 : d 194 (8 * m + (a + 1 + i)) = worn t (Qm t m) (chg s a (a + 1 + i)) := by
              have := o1
              rw [ec] at this ⊢
              exact this
            simp (disch := omega) only [true_imp_iff, false_imp_iff, not_true_eq_false, not_false_eq_true, and_true, true_and, Int32.reduceToInt, Int64.reduceToInt, Int32.reduceAdd, fa_lt, fa_le, fa_eq, cmi_lt, cmi_le, cmi_gt, cmi_ge, cmi_eq, fa_lt64, fa_le64, fa_eq64, Int32.toInt_toInt64, nI_toInt, ti_m1, sub1_ti, inB_iff, nI_clamp, Int32.add_zero, nI_1, nI_add, nI_p2, nI_p3, nI_p4, nI_p5, nI_p6, nI_p8, nI_p9, nI_p10, nI_m3, nI_m4, nI_m5, nI_m6, nI_m8, nI_m10, nI_m31, nI_m48, nI_m60, nI_m256, nI_t5, nI_t6, nI_a1, nI_a48, nI_a96, nI_d5, nI_d6, nI_d8, nI_d10, nI_d20, nI_s1, nI_s48, pk_sub, up_eq, up_na, up_nk, o2, n2, hdw]
            repeat (first | (with_reducible refine pk1 ?_ ?_; omega) | (with_reducible refine pk2 ?_ ?_; omega) | (with_reducible refine bd1 ?_ ?_; omega))
            exact ⟨fun z => fin1 (by omega), fun z => fin2 (by omega)⟩
          · by_cases e2 : s = a + 1 + i
            · have ec : chg s a (a + 1 + i) = a := by unfold chg; rw [if_neg e1, if_pos e2]
              have o2 : d 194 (8 * m + a) = worn t (Qm t m) (chg s a (a + 1 + i)) := by
                have := o1
                rw [ec] at this ⊢
                exact this
              simp (disch := omega) only [true_imp_iff, false_imp_iff, not_true_eq_false, not_false_eq_true, and_true, true_and, Int32.reduceToInt, Int64.reduceToInt, Int32.reduceAdd, fa_lt, fa_le, fa_eq, cmi_lt, cmi_le, cmi_gt, cmi_ge, cmi_eq, fa_lt64, fa_le64, fa_eq64, Int32.toInt_toInt64, nI_toInt, ti_m1, sub1_ti, inB_iff, nI_clamp, Int32.add_zero, nI_1, nI_add, nI_p2, nI_p3, nI_p4, nI_p5, nI_p6, nI_p8, nI_p9, nI_p10, nI_m3, nI_m4, nI_m5, nI_m6, nI_m8, nI_m10, nI_m31, nI_m48, nI_m60, nI_m256, nI_t5, nI_t6, nI_a1, nI_a48, nI_a96, nI_d5, nI_d6, nI_d8, nI_d10, nI_d20, nI_s1, nI_s48, pk_sub, up_eq, up_na, up_nk, o2, n2, hdw]
              repeat (first | (with_reducible refine pk1 ?_ ?_; omega) | (with_reducible refine pk2 ?_ ?_; omega) | (with_reducible refine bd1 ?_ ?_; omega))
              exact ⟨fun z => fin1 (by omega), fun z => fin2 (by omega)⟩
            · have ec : chg s a (a + 1 + i) = s := by unfold chg; rw [if_neg e1, if_neg e2]
              have o2 : d 194 (8 * m + s) = worn t (Qm t m) (chg s a (a + 1 + i)) := by
                have := o1
                rw [ec] at this ⊢
                exact this
              simp (disch := omega) only [true_imp_iff, false_imp_iff, not_true_eq_false, not_false_eq_true, and_true, true_and, Int32.reduceToInt, Int64.reduceToInt, Int32.reduceAdd, fa_lt, fa_le, fa_eq, cmi_lt, cmi_le, cmi_gt, cmi_ge, cmi_eq, fa_lt64, fa_le64, fa_eq64, Int32.toInt_toInt64, nI_toInt, ti_m1, sub1_ti, inB_iff, nI_clamp, Int32.add_zero, nI_1, nI_add, nI_p2, nI_p3, nI_p4, nI_p5, nI_p6, nI_p8, nI_p9, nI_p10, nI_m3, nI_m4, nI_m5, nI_m6, nI_m8, nI_m10, nI_m31, nI_m48, nI_m60, nI_m256, nI_t5, nI_t6, nI_a1, nI_a48, nI_a96, nI_d5, nI_d6, nI_d8, nI_d10, nI_d20, nI_s1, nI_s48, pk_sub, up_eq, up_na, up_nk, o2, n2, hdw]
              repeat (first | (with_reducible refine pk1 ?_ ?_; omega) | (with_reducible refine pk2 ?_ ?_; omega) | (with_reducible refine bd1 ?_ ?_; omega))
              exact ⟨fun z => fin1 (by omega), fun z => fin2 (by omega)⟩
        · rw [if_neg hsa] at ii' ⊢
          rw [nI_1]
          exact pk1 (by decide) (ii' d hd fr)
  · intro k hk ih d hz fr
    refine r_208_2 ?_
    simp (disch := omega) only [true_imp_iff, false_imp_iff, not_true_eq_false, not_false_eq_true, and_true, true_and, Int32.reduceToInt, Int64.reduceToInt, Int32.reduceAdd, fa_lt, fa_le, fa_eq, cmi_lt, cmi_le, cmi_gt, cmi_ge, cmi_eq, fa_lt64, fa_le64, fa_eq64, Int32.toInt_toInt64, nI_toInt, ti_m1, sub1_ti, inB_iff, nI_clamp, Int32.add_zero, nI_1, nI_add, nI_p2, nI_p3, nI_p4, nI_p5, nI_p6, nI_p8, nI_p9, nI_p10, nI_m3, nI_m4, nI_m5, nI_m6, nI_m8, nI_m10, nI_m31, nI_m48, nI_m60, nI_m256, nI_t5, nI_t6, nI_a1, nI_a48, nI_a96, nI_d5, nI_d6, nI_d8, nI_d10, nI_d20, nI_s1, nI_s48, pk_sub]
    repeat (first | (with_reducible refine pk1 ?_ ?_; omega) | (with_reducible refine pk2 ?_ ?_; omega) | (with_reducible refine bd1 ?_ ?_; omega))
    refine ih _ ?_ (fun a k z => by rw [up_na z]; exact fr a k z)
    intro i hi
    rcases Nat.lt_succ_iff_lt_or_eq.mp hi with z | z
    · rw [up_nk (by omega)]
      exact hz i z
    · subst z
      rw [up_eq]
theorem c_209 (hw : Wt t) (hr : Rs t di) (hy : Yb y) (hi : Yr y di) {s : Nat} (hs : s < nS t) (kk : ∀ d, Rs t d → FI di d → K (nI (lkV t y s (nM t)).1) d dl) : ClI 6 209 [.ref 176, .int (nI s)] di dl K := by
  have w3 := hw.1.2.2.1
  refine r_209 (c_203 hw hr ?_)
  intro d ho hr' fi
  have R1 : ∀ e, FF1 195 d e → Rs t e := fun e fr => Rs_1 (by omega) fr hr'
  have RO : ∀ e, FF1 195 d e → WO t e := fun e fr m hm s hs => by rw [fr _ _ (by omega)]; exact ho m hm s hs
  have RY : ∀ e, FF1 195 d e → Yr y e := fun e fr => Yr_FI (fun a k z => fr a k (by omega)) (Yr_FI fi hi)
  refine c_208 (m := 0) hw hr' ho hy (Yr_FI fi hi) (Nat.zero_le _) hs ?_
  intro e fr
  refine up_to (n := nM t) (G := fun m => ∀ e, FF1 195 d e → Wq none 6 209 16 [(0, .ref 176), (1, .int (nI s)), (2, .int (nI (lkV t y s m).1)), (3, .int (nI (lkV t y s m).2)), (4, .int (nI (m + 1)))] [] e dl (RI K)) ?_ ?_ (Nat.zero_le _) e fr
  · intro e fr
    have c3 := (R1 e fr).2.2.1
    refine r_209_16 ?_
    simp (disch := omega) only [true_imp_iff, false_imp_iff, not_true_eq_false, not_false_eq_true, and_true, true_and, Int32.reduceToInt, Int64.reduceToInt, Int32.reduceAdd, fa_lt, fa_le, fa_eq, cmi_lt, cmi_le, cmi_gt, cmi_ge, cmi_eq, fa_lt64, fa_le64, fa_eq64, Int32.toInt_toInt64, nI_toInt, ti_m1, sub1_ti, inB_iff, nI_clamp, Int32.add_zero, nI_1, nI_add, nI_p2, nI_p3, nI_p4, nI_p5, nI_p6, nI_p8, nI_p9, nI_p10, nI_m3, nI_m4, nI_m5, nI_m6, nI_m8, nI_m10, nI_m31, nI_m48, nI_m60, nI_m256, nI_t5, nI_t6, nI_a1, nI_a48, nI_a96, nI_d5, nI_d6, nI_d8, nI_d10, nI_d20, nI_s1, nI_s48, pk_sub, c3]
    repeat (first | (with_reducible refine pk1 ?_ ?_; omega) | (with_reducible refine pk2 ?_ ?_; omega) | (with_reducible refine bd1 ?_ ?_; omega))
    exact kk e (R1 e fr) (FI_tr fi (fun a k z => fr a k (by omega)))
  · intro m hm ih e fr
    have c3 := (R1 e fr).2.2.1
    have b1 := lkV_le hw (y := y) (s := s) m
    have b2 := maV_le hw (y := y) (m + 1) s
    refine r_209_16 ?_
    simp (disch := omega) only [true_imp_iff, false_imp_iff, not_true_eq_false, not_false_eq_true, and_true, true_and, Int32.reduceToInt, Int64.reduceToInt, Int32.reduceAdd, fa_lt, fa_le, fa_eq, cmi_lt, cmi_le, cmi_gt, cmi_ge, cmi_eq, fa_lt64, fa_le64, fa_eq64, Int32.toInt_toInt64, nI_toInt, ti_m1, sub1_ti, inB_iff, nI_clamp, Int32.add_zero, nI_1, nI_add, nI_p2, nI_p3, nI_p4, nI_p5, nI_p6, nI_p8, nI_p9, nI_p10, nI_m3, nI_m4, nI_m5, nI_m6, nI_m8, nI_m10, nI_m31, nI_m48, nI_m60, nI_m256, nI_t5, nI_t6, nI_a1, nI_a48, nI_a96, nI_d5, nI_d6, nI_d8, nI_d10, nI_d20, nI_s1, nI_s48, pk_sub, c3]
    repeat (first | (with_reducible refine pk1 ?_ ?_; omega) | (with_reducible refine pk2 ?_ ?_; omega) | (with_reducible refine bd1 ?_ ?_; omega))
    refine c_208 hw (R1 e fr) (RO e fr) hy (RY e fr) (by omega) hs ?_
    intro g fg
    replace ih := ih g (fun a k z => by rw [fg a k z]; exact fr a k z)
    unfold lkV at ih
    by_cases h : maV t y (m + 1) s < (lkV t y s m).2
    · rw [if_pos h] at ih
      simp (disch := omega) only [true_imp_iff, false_imp_iff, not_true_eq_false, not_false_eq_true, and_true, true_and, Int32.reduceToInt, Int64.reduceToInt, Int32.reduceAdd, fa_lt, fa_le, fa_eq, cmi_lt, cmi_le, cmi_gt, cmi_ge, cmi_eq, fa_lt64, fa_le64, fa_eq64, Int32.toInt_toInt64, nI_toInt, ti_m1, sub1_ti, inB_iff, nI_clamp, Int32.add_zero, nI_1, nI_add, nI_p2, nI_p3, nI_p4, nI_p5, nI_p6, nI_p8, nI_p9, nI_p10, nI_m3, nI_m4, nI_m5, nI_m6, nI_m8, nI_m10, nI_m31, nI_m48, nI_m60, nI_m256, nI_t5, nI_t6, nI_a1, nI_a48, nI_a96, nI_d5, nI_d6, nI_d8, nI_d10, nI_d20, nI_s1, nI_s48, pk_sub]
      repeat (first | (with_reducible refine pk1 ?_ ?_; omega) | (with_reducible refine pk2 ?_ ?_; omega) | (with_reducible refine bd1 ?_ ?_; omega))
      exact ih
    · rw [if_neg h] at ih
      simp (disch := omega) only [true_imp_iff, false_imp_iff, not_true_eq_false, not_false_eq_true, and_true, true_and, Int32.reduceToInt, Int64.reduceToInt, Int32.reduceAdd, fa_lt, fa_le, fa_eq, cmi_lt, cmi_le, cmi_gt, cmi_ge, cmi_eq, fa_lt64, fa_le64, fa_eq64, Int32.toInt_toInt64, nI_toInt, ti_m1, sub1_ti, inB_iff, nI_clamp, Int32.add_zero, nI_1, nI_add, nI_p2, nI_p3, nI_p4, nI_p5, nI_p6, nI_p8, nI_p9, nI_p10, nI_m3, nI_m4, nI_m5, nI_m6, nI_m8, nI_m10, nI_m31, nI_m48, nI_m60, nI_m256, nI_t5, nI_t6, nI_a1, nI_a48, nI_a96, nI_d5, nI_d6, nI_d8, nI_d10, nI_d20, nI_s1, nI_s48, pk_sub]
      repeat (first | (with_reducible refine pk1 ?_ ?_; omega) | (with_reducible refine pk2 ?_ ?_; omega) | (with_reducible refine bd1 ?_ ?_; omega))
      exact ih
theorem k_207 (hx : Itx di) (hs : Ise di) (hw : Wt t) (hc : Cs t di) (hy : Yb y) (hi : Yr y di) (a : Int32) (kk : ∀ d, Rs t d → FM di d → K (a_sp t y a) d dl) : ClI 7 207 [.ref 176, .int a] di dl K := by
  refine r_207 (c_163 hx hs hw hc ?_)
  intro d hr fm
  have hi' : Yr y d := by
    refine ⟨?_, fun k hk => ?_⟩
    · rw [fm _ _ (by omega) (by omega)]; exact hi.1
    · rw [fm _ _ (by omega) (by omega), fm _ _ (by omega) (by omega), fm _ _ (by omega) (by omega)]
      exact hi.2 k hk
  unfold a_sp at kk
  rcases ixi a 2 (by omega) with h | h | ⟨j, hj, rfl⟩
  · have kb := kk d hr (FM_of fm FI_rf)
    rw [rgd_lo h] at kb
    simp (disch := omega) only [true_imp_iff, false_imp_iff, not_true_eq_false, not_false_eq_true, and_true, true_and, Int32.reduceToInt, Int64.reduceToInt, Int32.reduceAdd, fa_lt, fa_le, fa_eq, cmi_lt, cmi_le, cmi_gt, cmi_ge, cmi_eq, fa_lt64, fa_le64, fa_eq64, Int32.toInt_toInt64, nI_toInt, ti_m1, sub1_ti, inB_iff, nI_clamp, Int32.add_zero, nI_1, nI_add, nI_p2, nI_p3, nI_p4, nI_p5, nI_p6, nI_p8, nI_p9, nI_p10, nI_m3, nI_m4, nI_m5, nI_m6, nI_m8, nI_m10, nI_m31, nI_m48, nI_m60, nI_m256, nI_t5, nI_t6, nI_a1, nI_a48, nI_a96, nI_d5, nI_d6, nI_d8, nI_d10, nI_d20, nI_s1, nI_s48, pk_sub]
    repeat (first | (with_reducible refine pk1 ?_ ?_; omega) | (with_reducible refine pk2 ?_ ?_; omega) | (with_reducible refine bd1 ?_ ?_; omega))
    exact kb
  · have kb := kk d hr (FM_of fm FI_rf)
    rw [rgd_hi h] at kb
    simp (disch := omega) only [true_imp_iff, false_imp_iff, not_true_eq_false, not_false_eq_true, and_true, true_and, Int32.reduceToInt, Int64.reduceToInt, Int32.reduceAdd, fa_lt, fa_le, fa_eq, cmi_lt, cmi_le, cmi_gt, cmi_ge, cmi_eq, fa_lt64, fa_le64, fa_eq64, Int32.toInt_toInt64, nI_toInt, ti_m1, sub1_ti, inB_iff, nI_clamp, Int32.add_zero, nI_1, nI_add, nI_p2, nI_p3, nI_p4, nI_p5, nI_p6, nI_p8, nI_p9, nI_p10, nI_m3, nI_m4, nI_m5, nI_m6, nI_m8, nI_m10, nI_m31, nI_m48, nI_m60, nI_m256, nI_t5, nI_t6, nI_a1, nI_a48, nI_a96, nI_d5, nI_d6, nI_d8, nI_d10, nI_d20, nI_s1, nI_s48, pk_sub]
    repeat (first | (with_reducible refine pk1 ?_ ?_; omega) | (with_reducible refine pk2 ?_ ?_; omega) | (with_reducible refine bd1 ?_ ?_; omega))
    exact kb
  simp (disch := omega) only [rgd_in] at kk
  simp (disch := omega) only [true_imp_iff, false_imp_iff, not_true_eq_false, not_false_eq_true, and_true, true_and, Int32.reduceToInt, Int64.reduceToInt, Int32.reduceAdd, fa_lt, fa_le, fa_eq, cmi_lt, cmi_le, cmi_gt, cmi_ge, cmi_eq, fa_lt64, fa_le64, fa_eq64, Int32.toInt_toInt64, nI_toInt, ti_m1, sub1_ti, inB_iff, nI_clamp, Int32.add_zero, nI_1, nI_add, nI_p2, nI_p3, nI_p4, nI_p5, nI_p6, nI_p8, nI_p9, nI_p10, nI_m3, nI_m4, nI_m5, nI_m6, nI_m8, nI_m10, nI_m31, nI_m48, nI_m60, nI_m256, nI_t5, nI_t6, nI_a1, nI_a48, nI_a96, nI_d5, nI_d6, nI_d8, nI_d10, nI_d20, nI_s1, nI_s48, pk_sub]
  repeat (first | (with_reducible refine pk1 ?_ ?_; omega) | (with_reducible refine pk2 ?_ ?_; omega) | (with_reducible refine bd1 ?_ ?_; omega))
  refine c_206 hw hr hy hi' hj ?_
  intro e hr2 fi
  exact kk e hr2 (FM_of fm fi)
theorem k_210 (hx : Itx di) (hs : Ise di) (hw : Wt t) (hc : Cs t di) (hy : Yb y) (hi : Yr y di) (a : Int32) (kk : ∀ d, Rs t d → FM di d → K (a_lo t y a) d dl) : ClI 7 210 [.ref 176, .int a] di dl K := by
  have w1 := hw.1.1
  refine r_210 (c_163 hx hs hw hc ?_)
  intro d hr fm
  have c1 := hr.1
  have hi' : Yr y d := by
    refine ⟨?_, fun k hk => ?_⟩
    · rw [fm _ _ (by omega) (by omega)]; exact hi.1
    · rw [fm _ _ (by omega) (by omega), fm _ _ (by omega) (by omega), fm _ _ (by omega) (by omega)]
      exact hi.2 k hk
  unfold a_lo at kk
  rcases ixi a (nS t) (by omega) with h | h | ⟨s, hs, rfl⟩
  · have kb := kk d hr (FM_of fm FI_rf)
    rw [rgd_lo h] at kb
    simp (disch := omega) only [true_imp_iff, false_imp_iff, not_true_eq_false, not_false_eq_true, and_true, true_and, Int32.reduceToInt, Int64.reduceToInt, Int32.reduceAdd, fa_lt, fa_le, fa_eq, cmi_lt, cmi_le, cmi_gt, cmi_ge, cmi_eq, fa_lt64, fa_le64, fa_eq64, Int32.toInt_toInt64, nI_toInt, ti_m1, sub1_ti, inB_iff, nI_clamp, Int32.add_zero, nI_1, nI_add, nI_p2, nI_p3, nI_p4, nI_p5, nI_p6, nI_p8, nI_p9, nI_p10, nI_m3, nI_m4, nI_m5, nI_m6, nI_m8, nI_m10, nI_m31, nI_m48, nI_m60, nI_m256, nI_t5, nI_t6, nI_a1, nI_a48, nI_a96, nI_d5, nI_d6, nI_d8, nI_d10, nI_d20, nI_s1, nI_s48, pk_sub, c1]
    repeat (first | (with_reducible refine pk1 ?_ ?_; omega) | (with_reducible refine pk2 ?_ ?_; omega) | (with_reducible refine bd1 ?_ ?_; omega))
    exact kb
  · have kb := kk d hr (FM_of fm FI_rf)
    rw [rgd_hi h] at kb
    simp (disch := omega) only [true_imp_iff, false_imp_iff, not_true_eq_false, not_false_eq_true, and_true, true_and, Int32.reduceToInt, Int64.reduceToInt, Int32.reduceAdd, fa_lt, fa_le, fa_eq, cmi_lt, cmi_le, cmi_gt, cmi_ge, cmi_eq, fa_lt64, fa_le64, fa_eq64, Int32.toInt_toInt64, nI_toInt, ti_m1, sub1_ti, inB_iff, nI_clamp, Int32.add_zero, nI_1, nI_add, nI_p2, nI_p3, nI_p4, nI_p5, nI_p6, nI_p8, nI_p9, nI_p10, nI_m3, nI_m4, nI_m5, nI_m6, nI_m8, nI_m10, nI_m31, nI_m48, nI_m60, nI_m256, nI_t5, nI_t6, nI_a1, nI_a48, nI_a96, nI_d5, nI_d6, nI_d8, nI_d10, nI_d20, nI_s1, nI_s48, pk_sub, c1]
    repeat (first | (with_reducible refine pk1 ?_ ?_; omega) | (with_reducible refine pk2 ?_ ?_; omega) | (with_reducible refine bd1 ?_ ?_; omega))
    exact kb
  simp (disch := omega) only [rgd_in] at kk
  simp (disch := omega) only [true_imp_iff, false_imp_iff, not_true_eq_false, not_false_eq_true, and_true, true_and, Int32.reduceToInt, Int64.reduceToInt, Int32.reduceAdd, fa_lt, fa_le, fa_eq, cmi_lt, cmi_le, cmi_gt, cmi_ge, cmi_eq, fa_lt64, fa_le64, fa_eq64, Int32.toInt_toInt64, nI_toInt, ti_m1, sub1_ti, inB_iff, nI_clamp, Int32.add_zero, nI_1, nI_add, nI_p2, nI_p3, nI_p4, nI_p5, nI_p6, nI_p8, nI_p9, nI_p10, nI_m3, nI_m4, nI_m5, nI_m6, nI_m8, nI_m10, nI_m31, nI_m48, nI_m60, nI_m256, nI_t5, nI_t6, nI_a1, nI_a48, nI_a96, nI_d5, nI_d6, nI_d8, nI_d10, nI_d20, nI_s1, nI_s48, pk_sub, c1]
  repeat (first | (with_reducible refine pk1 ?_ ?_; omega) | (with_reducible refine pk2 ?_ ?_; omega) | (with_reducible refine bd1 ?_ ?_; omega))
  refine c_209 hw hr hy hi' hs ?_
  intro e hr2 fi
  exact kk e hr2 (FM_of fm fi)
end NIGHTR
