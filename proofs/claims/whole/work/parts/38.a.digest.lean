/-! digest: the class -/
def hs (h : Int64) (v : Int32) : Int64 := 31 * h + v.toInt64
def hj (h v : Int64) : Int64 := 31 * h + v
def hCo (co : Nat → Int32) (h : Int64) : Nat → Int64
  | 0 => h
  | k + 1 => hs (hCo co h k) (co k)
def hSt (t : tTown) (y : tY) (h : Int64) : Nat → Int64
  | 0 => h
  | s + 1 => hs (hs (hCo (fun j => nI (sv t s j)) (hSt t y h s) 4) (nI (chaV t s (nM t)))) (nI (lkV t y s (nM t)).1)
def hCl (t : tTown) (h : Int64) : Nat → Int64
  | 0 => h
  | c + 1 => hs (hj (hj (hCo (fun j => nI (cv t c j)) (hCl t h c) 4) (a_mV t (a_mt t 5 (nI c) (nI (nM t)) 0))) (a_mV t (a_mt t 5 (nI c) (nI (nM t)) 1))) (weaV t 7 9 (nI c))
def hIs (t : tTown) (m : Nat) (h : Int64) : Nat → Int64
  | 0 => h
  | c + 1 => hs (hCo (fun j => nI (Qm t m c j)) (hIs t m h c) 3) (fitsV t m c)
def hBe (t : tTown) (m : Nat) (h : Int64) : Int64 := hs (hs (hs (hs (hs (hIs t m (hCo (fun s => worn t (Qm t m) s) h (nS t)) (nC t)) (behV t m 0)) (behV t m 1)) (mostV t m (-1))) (mostV t m 0)) (sewV t m 60)
def digV (t : tTown) (y : tY) (co fl : Nat → Int32) : Int64 := hs (hs (hs (hs (hs (hs (hs (hBe t (nM t) (hBe t 0 (hCl t (hSt t y (hCo fl (hCo co 17 8) 3) (nS t)) (nC t)))) (freV t 0)) (freV t 1)) (a_ro t 0 20 (-1))) (a_ro t 0 20 0)) (swaV t y 0)) (swaV t y 1)) (weaV t 7 9 (-1))
def Cx (t : tTown) (y : tY) (d : tDi) : Prop := Cw t d ∧ Yc y d ∧ ∀ u, u < 256 → d 154 u = 0
theorem Cx_FC {t : tTown} {y : tY} {di d : tDi} (H : Cx t y di) (hc : Cw t d) (fc : FC di d) : Cx t y d := ⟨hc, Yc_FC fc H.2.1, fun u hu => by rw [fc _ _ (by omega) (by omega) (by omega) (by omega) (by omega)]; exact H.2.2 u hu⟩
theorem wt79 {t : tTown} {c : Int32} : a_wt t 7 9 c = weaV t 7 9 c := if_pos (by decide)
theorem a_sti {t : tTown} (hw : Wt t) {s j : Nat} (h : s < nS t) (hj : j < 4) : a_st t (nI s) (nI j) = nI (sv t s j) := by
  have := hw.1.1
  unfold a_st
  rw [rgd_in h (by omega), rgd_in hj (by omega)]
theorem a_cli {t : tTown} (hw : Wt t) {s j : Nat} (h : s < nC t) (hj : j < 4) : a_cl t (nI s) (nI j) = nI (cv t s j) := by
  have := hw.1.2.1
  unfold a_cl
  rw [rgd_in h (by omega), rgd_in hj (by omega)]
section DIG
variable {t : tTown} {y : tY} {di : tDi} {dl : tDl} {K : Int64 → tDi → tDl → Prop}
theorem c_123 (hw : Wt t) (hy : Yb y) (hx : Cx t y di) (h : Int64) (kk : ∀ d, Cx t y d → FC di d → K (hSt t y h (nS t)) d dl) : ClJ 5 123 [.ref 0, .long h] di dl K := by
  have w1 := hw.1.1
  refine r_123 ?_
  refine up_to (n := nS t) (G := fun s => ∀ d, Cx t y d → FC di d → Wq none 5 123 5 [(0, .ref 0), (3, .long (hSt t y h s)), (5, .int (nI s))] [] d dl (RJ K)) ?_ ?_ (Nat.zero_le _) di hx FC_rf
  · intro d hd fc
    have c1 := hd.1.1.1.1
    refine r_123_5 ?_
    simp (disch := omega) only [true_imp_iff, false_imp_iff, not_true_eq_false, not_false_eq_true, and_true, true_and, Int32.reduceToInt, Int64.reduceToInt, Int32.reduceAdd, fa_lt, fa_le, fa_eq, cmi_lt, cmi_le, cmi_gt, cmi_ge, cmi_eq, fa_lt64, fa_le64, fa_eq64, Int32.toInt_toInt64, nI_toInt, ti_m1, sub1_ti, inB_iff, nI_clamp, Int32.add_zero, nI_1, nI_add, nI_p2, nI_p3, nI_p4, nI_p5, nI_p6, nI_p8, nI_p9, nI_p10, nI_m3, nI_m4, nI_m5, nI_m6, nI_m8, nI_m10, nI_m31, nI_m48, nI_m60, nI_m256, nI_t5, nI_t6, nI_a1, nI_a48, nI_a96, nI_d5, nI_d6, nI_d8, nI_d10, nI_d20, nI_s1, nI_s48, pk_sub, c1]
    repeat (first | (with_reducible refine pk1 ?_ ?_; omega) | (with_reducible refine pk2 ?_ ?_; omega) | (with_reducible refine bd1 ?_ ?_; omega))
    exact kk d hd fc
  · intro s hs ih d hd fc
    have c1 := hd.1.1.1.1
    refine r_123_5 ?_
    simp (disch := omega) only [true_imp_iff, false_imp_iff, not_true_eq_false, not_false_eq_true, and_true, true_and, Int32.reduceToInt, Int64.reduceToInt, Int32.reduceAdd, fa_lt, fa_le, fa_eq, cmi_lt, cmi_le, cmi_gt, cmi_ge, cmi_eq, fa_lt64, fa_le64, fa_eq64, Int32.toInt_toInt64, nI_toInt, ti_m1, sub1_ti, inB_iff, nI_clamp, Int32.add_zero, nI_1, nI_add, nI_p2, nI_p3, nI_p4, nI_p5, nI_p6, nI_p8, nI_p9, nI_p10, nI_m3, nI_m4, nI_m5, nI_m6, nI_m8, nI_m10, nI_m31, nI_m48, nI_m60, nI_m256, nI_t5, nI_t6, nI_a1, nI_a48, nI_a96, nI_d5, nI_d6, nI_d8, nI_d10, nI_d20, nI_s1, nI_s48, pk_sub, c1]
    repeat (first | (with_reducible refine pk1 ?_ ?_; omega) | (with_reducible refine pk2 ?_ ?_; omega) | (with_reducible refine bd1 ?_ ?_; omega))
    refine up_to (n := 4) (G := fun j => Wq none 5 123 20 [(0, .ref 0), (3, .long (hCo (fun j => nI (sv t s j)) (hSt t y h s) j)), (5, .int (nI s)), (6, .int (nI j))] [] d dl (RJ K)) ?_ ?_ (Nat.zero_le _)
    · refine r_123_20 (pk1 (by decide) ?_)
      refine k_104 hw hd.1 (nI s) ?_
      intro e ce fe
      have he := Cx_FC hd ce fe
      refine k_112 hw he.1 hy he.2.1 (nI s) ?_
      intro g cg fg
      unfold a_ch a_lo
      rw [rgd_in hs (by omega), rgd_in hs (by omega), nI_1]
      exact ih g (Cx_FC he cg fg) (FC_tr (FC_tr fc fe) fg)
    · intro j hj ij
      refine r_123_20 (pk2 ⟨fun z => absurd (nI_le (b := 3) (show j ≤ 3 by omega) (by decide)) (Int32.not_le.mpr z), nI_le (b := 3) (by omega) (by decide)⟩ ?_)
      refine k_95 hw hd.1.1 (nI s) (nI j) ?_
      rw [a_sti hw hs hj, nI_1]
      exact ij
theorem c_124 (hw : Wt t) (hx : Cx t y di) (h : Int64) (kk : ∀ d l, Cx t y d → FC di d → K (hCl t h (nC t)) d l) : ClJ 5 124 [.ref 0, .long h] di dl K := by
  have w2 := hw.1.2.1
  refine r_124 ?_
  refine up_to (n := nC t) (G := fun c => ∀ d l, Cx t y d → FC di d → Wq none 5 124 5 [(0, .ref 0), (3, .long (hCl t h c)), (5, .int (nI c))] [] d l (RJ K)) ?_ ?_ (Nat.zero_le _) di dl hx FC_rf
  · intro d l hd fc
    have c1 := hd.1.1.2.1.1
    refine r_124_5 ?_
    simp (disch := omega) only [true_imp_iff, false_imp_iff, not_true_eq_false, not_false_eq_true, and_true, true_and, Int32.reduceToInt, Int64.reduceToInt, Int32.reduceAdd, fa_lt, fa_le, fa_eq, cmi_lt, cmi_le, cmi_gt, cmi_ge, cmi_eq, fa_lt64, fa_le64, fa_eq64, Int32.toInt_toInt64, nI_toInt, ti_m1, sub1_ti, inB_iff, nI_clamp, Int32.add_zero, nI_1, nI_add, nI_p2, nI_p3, nI_p4, nI_p5, nI_p6, nI_p8, nI_p9, nI_p10, nI_m3, nI_m4, nI_m5, nI_m6, nI_m8, nI_m10, nI_m31, nI_m48, nI_m60, nI_m256, nI_t5, nI_t6, nI_a1, nI_a48, nI_a96, nI_d5, nI_d6, nI_d8, nI_d10, nI_d20, nI_s1, nI_s48, pk_sub, c1]
    repeat (first | (with_reducible refine pk1 ?_ ?_; omega) | (with_reducible refine pk2 ?_ ?_; omega) | (with_reducible refine bd1 ?_ ?_; omega))
    exact kk d l hd fc
  · intro c hc ih d l hd fc
    have c1 := hd.1.1.2.1.1
    have c3 := hd.1.1.2.2.1.1
    refine r_124_5 ?_
    simp (disch := omega) only [true_imp_iff, false_imp_iff, not_true_eq_false, not_false_eq_true, and_true, true_and, Int32.reduceToInt, Int64.reduceToInt, Int32.reduceAdd, fa_lt, fa_le, fa_eq, cmi_lt, cmi_le, cmi_gt, cmi_ge, cmi_eq, fa_lt64, fa_le64, fa_eq64, Int32.toInt_toInt64, nI_toInt, ti_m1, sub1_ti, inB_iff, nI_clamp, Int32.add_zero, nI_1, nI_add, nI_p2, nI_p3, nI_p4, nI_p5, nI_p6, nI_p8, nI_p9, nI_p10, nI_m3, nI_m4, nI_m5, nI_m6, nI_m8, nI_m10, nI_m31, nI_m48, nI_m60, nI_m256, nI_t5, nI_t6, nI_a1, nI_a48, nI_a96, nI_d5, nI_d6, nI_d8, nI_d10, nI_d20, nI_s1, nI_s48, pk_sub, c1]
    repeat (first | (with_reducible refine pk1 ?_ ?_; omega) | (with_reducible refine pk2 ?_ ?_; omega) | (with_reducible refine bd1 ?_ ?_; omega))
    refine up_to (n := 4) (G := fun j => Wq none 5 124 20 [(0, .ref 0), (3, .long (hCo (fun j => nI (cv t c j)) (hCl t h c) j)), (5, .int (nI c)), (6, .int (nI j))] [] d l (RJ K)) ?_ ?_ (Nat.zero_le _)
    · refine r_124_20 (pk1 (by decide) ?_)
      rw [c3]
      refine k_113 hw hd.1.1 5 (nI c) (nI (nM t)) 0 ?_
      intro l1
      rw [c3]
      refine k_113 hw hd.1.1 5 (nI c) (nI (nM t)) 1 ?_
      intro l2
      refine k_114 hw hd.1 7 9 (nI c) ?_
      intro e ce fe
      rw [wt79, nI_1]
      exact ih e l2 (Cx_FC hd ce fe) (FC_tr fc fe)
    · intro j hj ij
      refine r_124_20 (pk2 ⟨fun z => absurd (nI_le (b := 3) (show j ≤ 3 by omega) (by decide)) (Int32.not_le.mpr z), nI_le (b := 3) (by omega) (by decide)⟩ ?_)
      refine k_96 hw hd.1.1 (nI c) (nI j) ?_
      rw [a_cli hw hc hj, nI_1]
      exact ij
theorem c_125 (hw : Wt t) (hx : Cx t y di) (h : Int64) {m : Nat} (hm : m ≤ nM t) (kk : ∀ d, Cx t y d → FC di d → K (hBe t m h) d dl) : ClJ 5 125 [.ref 0, .long h, .int (nI m)] di dl K := by
  have w1 := hw.1.1
  have w2 := hw.1.2.1
  have w3 := hw.1.2.2.1
  refine r_125 ?_
  refine up_to (n := nS t) (G := fun s => ∀ d, Cx t y d → FC di d → Wq none 5 125 6 [(0, .ref 0), (3, .int (nI m)), (4, .long (hCo (fun s => worn t (Qm t m) s) h s)), (6, .int (nI s))] [] d dl (RJ K)) ?_ ?_ (Nat.zero_le _) di hx FC_rf
  · intro d hd fc
    have c1 := hd.1.1.1.1
    refine r_125_6 ?_
    simp (disch := omega) only [true_imp_iff, false_imp_iff, not_true_eq_false, not_false_eq_true, and_true, true_and, Int32.reduceToInt, Int64.reduceToInt, Int32.reduceAdd, fa_lt, fa_le, fa_eq, cmi_lt, cmi_le, cmi_gt, cmi_ge, cmi_eq, fa_lt64, fa_le64, fa_eq64, Int32.toInt_toInt64, nI_toInt, ti_m1, sub1_ti, inB_iff, nI_clamp, Int32.add_zero, nI_1, nI_add, nI_p2, nI_p3, nI_p4, nI_p5, nI_p6, nI_p8, nI_p9, nI_p10, nI_m3, nI_m4, nI_m5, nI_m6, nI_m8, nI_m10, nI_m31, nI_m48, nI_m60, nI_m256, nI_t5, nI_t6, nI_a1, nI_a48, nI_a96, nI_d5, nI_d6, nI_d8, nI_d10, nI_d20, nI_s1, nI_s48, pk_sub, c1]
    repeat (first | (with_reducible refine pk1 ?_ ?_; omega) | (with_reducible refine pk2 ?_ ?_; omega) | (with_reducible refine bd1 ?_ ?_; omega))
    refine up_to (n := nC t) (G := fun c => ∀ d, Cx t y d → FC di d → Wq none 5 125 44 [(0, .ref 0), (3, .int (nI m)), (4, .long (hIs t m (hCo (fun s => worn t (Qm t m) s) h (nS t)) c)), (6, .int (nI c))] [] d dl (RJ K)) ?_ ?_ (Nat.zero_le _) d hd fc
    · intro d hd fc
      have c2 := hd.1.1.2.1.1
      refine r_125_44 ?_
      rw [c2]
      refine pk1 ⟨Int32.le_refl _, fun z => absurd (Int32.le_refl _) (Int32.not_le.mpr z)⟩ ?_
      refine k_102 hw hd.1 (nI m) 0 ?_
      intro e1 ce1 fe1
      have h1 := Cx_FC hd ce1 fe1
      refine k_102 hw h1.1 (nI m) 1 ?_
      intro e2 ce2 fe2
      have h2 := Cx_FC h1 ce2 fe2
      refine k_105 hw h2.1 h2.2.2 (nI m) (-1) ?_
      intro e3 ce3 fe3
      have h3 := Cx_FC h2 ce3 fe3
      refine k_105 hw h3.1 h3.2.2 (nI m) 0 ?_
      intro e4 ce4 fe4
      have h4 := Cx_FC h3 ce4 fe4
      refine k_107 hw h4.1 (nI m) 60 ?_
      intro e5 ce5 fe5
      have h5 := Cx_FC h4 ce5 fe5
      have kf := kk e5 h5 (FC_tr (FC_tr (FC_tr (FC_tr (FC_tr fc fe1) fe2) fe3) fe4) fe5)
      have b0 : a_be t (nI m) 0 = behV t m 0 := by
        unfold a_be
        rw [rgd_in (by omega) (by omega)]
        exact rgd_in (j := 0) (by omega) (by omega)
      have b1 : a_be t (nI m) 1 = behV t m 1 := by
        unfold a_be
        rw [rgd_in (by omega) (by omega)]
        exact rgd_in (j := 1) (by omega) (by omega)
      have m0 : a_mo t (nI m) (-1) = mostV t m (-1) := by
        unfold a_mo
        rw [rgd_in (by omega) (by omega)]
        exact if_pos (by decide)
      have m1 : a_mo t (nI m) 0 = mostV t m 0 := by
        unfold a_mo
        rw [rgd_in (by omega) (by omega)]
        exact if_pos (by decide)
      have s0 : a_sw t (nI m) 60 = sewV t m 60 := by
        unfold a_sw
        rw [rgd_in (by omega) (by omega)]
        exact if_pos (by decide)
      rw [b0, b1, m0, m1, s0]
      exact kf
    · intro c hc ih d hd fc
      have c2 := hd.1.1.2.1.1
      refine r_125_44 ?_
      rw [c2]
      refine pk2 ⟨fun z => absurd (nI_lt hc (by omega)) (Int32.not_lt.mpr z), nI_lt hc (by omega)⟩ ?_
      refine up_to (n := 3) (G := fun j => ∀ d, Cx t y d → FC di d → Wq none 5 125 59 [(0, .ref 0), (3, .int (nI m)), (4, .long (hCo (fun j => nI (Qm t m c j)) (hIs t m (hCo (fun s => worn t (Qm t m) s) h (nS t)) c) j)), (6, .int (nI c)), (7, .int (nI j))] [] d dl (RJ K)) ?_ ?_ (Nat.zero_le _) d hd fc
      · intro d hd fc
        refine r_125_59 (pk1 (by decide) ?_)
        refine k_100 hw hd.1 (nI m) (nI c) ?_
        intro e ce fe
        unfold a_fi
        rw [rgd_in (by omega) (by omega), rgd_in hc (by omega), nI_1]
        exact ih e (Cx_FC hd ce fe) (FC_tr fc fe)
      · intro j hj ij d hd fc
        refine r_125_59 (pk2 ⟨fun z => absurd (nI_le (b := 2) (show j ≤ 2 by omega) (by decide)) (Int32.not_le.mpr z), nI_le (b := 2) (by omega) (by decide)⟩ ?_)
        refine k_99 hw hd.1 (nI m) (nI c) (nI j) ?_
        intro e ce fe
        unfold a_is
        rw [rgd_in (by omega) (by omega), rgd_in hc (by omega), rgd_in hj (by omega), nI_1]
        exact ij e (Cx_FC hd ce fe) (FC_tr fc fe)
  · intro s hs ih d hd fc
    have c1 := hd.1.1.1.1
    refine r_125_6 ?_
    simp (disch := omega) only [true_imp_iff, false_imp_iff, not_true_eq_false, not_false_eq_true, and_true, true_and, Int32.reduceToInt, Int64.reduceToInt, Int32.reduceAdd, fa_lt, fa_le, fa_eq, cmi_lt, cmi_le, cmi_gt, cmi_ge, cmi_eq, fa_lt64, fa_le64, fa_eq64, Int32.toInt_toInt64, nI_toInt, ti_m1, sub1_ti, inB_iff, nI_clamp, Int32.add_zero, nI_1, nI_add, nI_p2, nI_p3, nI_p4, nI_p5, nI_p6, nI_p8, nI_p9, nI_p10, nI_m3, nI_m4, nI_m5, nI_m6, nI_m8, nI_m10, nI_m31, nI_m48, nI_m60, nI_m256, nI_t5, nI_t6, nI_a1, nI_a48, nI_a96, nI_d5, nI_d6, nI_d8, nI_d10, nI_d20, nI_s1, nI_s48, pk_sub, c1]
    repeat (first | (with_reducible refine pk1 ?_ ?_; omega) | (with_reducible refine pk2 ?_ ?_; omega) | (with_reducible refine bd1 ?_ ?_; omega))
    refine k_101 hw hd.1 (nI m) (nI s) ?_
    intro e ce fe
    unfold a_we
    rw [rgd_in (by omega) (by omega), rgd_in hs (by omega)]
    exact ih e (Cx_FC hd ce fe) (FC_tr fc fe)
def ftV (di : tDi) (i : Nat) : Int32 := if nI i = 0 then di 1 3 else if nI i = 1 then di 3 3 else if nI i = 2 then di 5 3 else -2
theorem k_122 (hw : Wt t) (hy : Yb y) (hx : Cx t y di) (kk : ∀ d l, Cx t y d → FC di d → K (digV t y (fun k => a_co di (nI k)) (ftV di)) d l) : ClJ 15 122 [.ref 0] di dl K := by
  refine r_122 ?_
  refine up_to (n := 8) (G := fun k => Wq none 15 122 6 [(0, .ref 0), (1, .long (hCo (fun k => a_co di (nI k)) 17 k)), (3, .int (nI k))] [] di dl (RJ K)) ?_ ?_ (Nat.zero_le _)
  · refine r_122_6 (pk1 (by decide) ?_)
    refine up_to (n := 3) (G := fun i => Wq none 15 122 33 [(0, .ref 0), (1, .long (hCo (ftV di) (hCo (fun k => a_co di (nI k)) 17 8) i)), (3, .int (nI i))] [] di dl (RJ K)) ?_ ?_ (Nat.zero_le _)
    · refine r_122_33 (pk1 (by decide) ?_)
      refine c_123 hw hy hx _ ?_
      intro d1 h1 f1
      refine c_124 hw h1 _ ?_
      intro d2 l2 h2 f2
      refine c_125 (m := 0) hw h2 _ (Nat.zero_le _) ?_
      intro d3 h3 f3
      rw [h3.1.1.2.2.1.1]
      refine c_125 hw h3 _ (Nat.le_refl _) ?_
      intro d4 h4 f4
      refine k_103 hw h4.1 0 ?_
      intro d5 c5 f5
      have h5 := Cx_FC h4 c5 f5
      refine k_103 hw h5.1 1 ?_
      intro d6 c6 f6
      have h6 := Cx_FC h5 c6 f6
      refine k_106 hw h6.1 0 20 (-1) ?_
      intro d7 c7 f7
      have h7 := Cx_FC h6 c7 f7
      refine k_106 hw h7.1 0 20 0 ?_
      intro d8 c8 f8
      have h8 := Cx_FC h7 c8 f8
      refine k_111 hw h8.1 hy h8.2.1 0 ?_
      intro d9 c9 f9
      have h9 := Cx_FC h8 c9 f9
      refine k_111 hw h9.1 hy h9.2.1 1 ?_
      intro d10 c10 f10
      have h10 := Cx_FC h9 c10 f10
      refine k_114 hw h10.1 7 9 (-1) ?_
      intro d11 c11 f11
      have h11 := Cx_FC h10 c11 f11
      have fr0 : a_fr t 0 = freV t 0 := rgd_in (j := 0) (by omega) (by omega)
      have fr1 : a_fr t 1 = freV t 1 := rgd_in (j := 1) (by omega) (by omega)
      have sp0 : a_sp t y 0 = swaV t y 0 := rgd_in (j := 0) (by omega) (by omega)
      have sp1 : a_sp t y 1 = swaV t y 1 := rgd_in (j := 1) (by omega) (by omega)
      rw [fr0, fr1, sp0, sp1, wt79]
      exact kk d11 l2 h11 (FC_tr (FC_tr (FC_tr (FC_tr (FC_tr (FC_tr (FC_tr (FC_tr (FC_tr (FC_tr f1 f2) f3) f4) f5) f6) f7) f8) f9) f10) f11)
    · intro i hi ii
      refine r_122_33 (pk2 ⟨fun z => absurd (nI_lt (b := 3) hi (by decide)) (Int32.not_lt.mpr z), nI_lt (b := 3) hi (by decide)⟩ ?_)
      refine k_94 (nI i) ?_
      intro r hr
      subst hr
      rw [nI_1]
      exact ii
  · intro k hk ik
    refine r_122_6 (pk2 ⟨fun z => absurd (nI_le (b := 7) (show k ≤ 7 by omega) (by decide)) (Int32.not_le.mpr z), nI_le (b := 7) (by omega) (by decide)⟩ ?_)
    refine k_121 (nI k) ?_
    rw [nI_1]
    exact ik
end DIG
