/-! the class's rows: measure, dress, update -/
def bcI (a1 : Int32) : Int32 := ((((((((a1 - ((ushr a1 1) &&& 1431655765)) &&& 858993459) + ((ushr (a1 - ((ushr a1 1) &&& 1431655765)) 2) &&& 858993459)) + (ushr (((a1 - ((ushr a1 1) &&& 1431655765)) &&& 858993459) + ((ushr (a1 - ((ushr a1 1) &&& 1431655765)) 2) &&& 858993459)) 4)) &&& 252645135) + (ushr (((((a1 - ((ushr a1 1) &&& 1431655765)) &&& 858993459) + ((ushr (a1 - ((ushr a1 1) &&& 1431655765)) 2) &&& 858993459)) + (ushr (((a1 - ((ushr a1 1) &&& 1431655765)) &&& 858993459) + ((ushr (a1 - ((ushr a1 1) &&& 1431655765)) 2) &&& 858993459)) 4)) &&& 252645135) 8)) + (ushr ((((((a1 - ((ushr a1 1) &&& 1431655765)) &&& 858993459) + ((ushr (a1 - ((ushr a1 1) &&& 1431655765)) 2) &&& 858993459)) + (ushr (((a1 - ((ushr a1 1) &&& 1431655765)) &&& 858993459) + ((ushr (a1 - ((ushr a1 1) &&& 1431655765)) 2) &&& 858993459)) 4)) &&& 252645135) + (ushr (((((a1 - ((ushr a1 1) &&& 1431655765)) &&& 858993459) + ((ushr (a1 - ((ushr a1 1) &&& 1431655765)) 2) &&& 858993459)) + (ushr (((a1 - ((ushr a1 1) &&& 1431655765)) &&& 858993459) + ((ushr (a1 - ((ushr a1 1) &&& 1431655765)) 2) &&& 858993459)) 4)) &&& 252645135) 8)) 16)) &&& 63)
theorem c_219 {x : Int32} {di : tDi} {dl : tDl} {K : Int32 → tDi → tDl → Prop} (kk : K (bcI x) di dl) : ClI 0 219 [.int x] di dl K := r_219 kk
def FF1 (a0 : Nat) (di d : tDi) : Prop := ∀ a k, ¬ a = a0 → d a k = di a k
theorem c_87 {t : tTown} {di : tDi} {dl : tDl} (hw : Wt t) (hc : Cs t di) {q : tClo} (hq : Bq t q) {r : Nat} (hr : r < 26) (h : RowQ t q di r) {K : tDi → tDl → Prop} (kk : ∀ d, RowF t q d r → FF1 (91 + r) di d → K d dl) : ClV 2 87 [.ref 8, .int (nI r)] di dl K := by
  have w1 := hw.1.1
  have w2 := hw.1.2.1
  have w4 := hw.1.2.2.2.1
  refine r_87 ?_
  refine up_to (n := nS t) (G := fun i => ∀ d, (∀ s, s < i → d (91 + r) s = bts (fun c => fitq t q c s) (nC t)) → FF1 (91 + r) di d → Wq none 2 87 2 [(0, .ref 8), (1, .int (nI r)), (2, .int (nI i))] [] d dl (RV K)) ?_ ?_ (Nat.zero_le _) di (fun k hk => absurd hk (Nat.not_lt_zero k)) (fun _ _ _ => rfl)
  · intro d h1 fr
    have c1 := (Cs_lo (fun a k z _ => fr a k (by omega)) hc).1.1
    refine r_87_2 ?_
    simp (disch := omega) only [true_imp_iff, false_imp_iff, not_true_eq_false, not_false_eq_true, and_true, true_and, Int32.reduceToInt, Int64.reduceToInt, Int32.reduceAdd, fa_lt, fa_le, fa_eq, cmi_lt, cmi_le, cmi_gt, cmi_ge, cmi_eq, fa_lt64, fa_le64, fa_eq64, Int32.toInt_toInt64, nI_toInt, ti_m1, sub1_ti, inB_iff, nI_clamp, Int32.add_zero, nI_1, nI_add, nI_p2, nI_p3, nI_p4, nI_p5, nI_p6, nI_p8, nI_p9, nI_p10, nI_m3, nI_m4, nI_m5, nI_m6, nI_m8, nI_m10, nI_m31, nI_m48, nI_m60, nI_m256, nI_t5, nI_t6, nI_a1, nI_a48, nI_a96, nI_d5, nI_d6, nI_d8, nI_d10, nI_d20, nI_s1, nI_s48, pk_sub, c1]
    repeat (first | (with_reducible refine pk1 ?_ ?_; omega) | (with_reducible refine pk2 ?_ ?_; omega) | (with_reducible refine bd1 ?_ ?_; omega))
    exact kk d h1 fr
  · intro s hs ih d h1 fr
    have hc0 := Cs_lo (fun a k z _ => fr a k (by omega)) hc
    have c1 := hc0.1.1
    have c2 := hc0.2.1.1
    have c3 := hc0.2.2.2.1
    obtain ⟨v1, v2, v3, v4, v5⟩ := hw.2.1 s hs
    refine r_87_2 ?_
    simp (disch := omega) only [true_imp_iff, false_imp_iff, not_true_eq_false, not_false_eq_true, and_true, true_and, Int32.reduceToInt, Int64.reduceToInt, Int32.reduceAdd, fa_lt, fa_le, fa_eq, cmi_lt, cmi_le, cmi_gt, cmi_ge, cmi_eq, fa_lt64, fa_le64, fa_eq64, Int32.toInt_toInt64, nI_toInt, ti_m1, sub1_ti, inB_iff, nI_clamp, Int32.add_zero, nI_1, nI_add, nI_p2, nI_p3, nI_p4, nI_p5, nI_p6, nI_p8, nI_p9, nI_p10, nI_m3, nI_m4, nI_m5, nI_m6, nI_m8, nI_m10, nI_m31, nI_m48, nI_m60, nI_m256, nI_t5, nI_t6, nI_a1, nI_a48, nI_a96, nI_d5, nI_d6, nI_d8, nI_d10, nI_d20, nI_s1, nI_s48, pk_sub, c1]
    repeat (first | (with_reducible refine pk1 ?_ ?_; omega) | (with_reducible refine pk2 ?_ ?_; omega) | (with_reducible refine bd1 ?_ ?_; omega))
    refine c_47 hc0 hs (c_49 hc0 hs ?_)
    rw [nI_m10]
    refine up_to (n := nC t) (G := fun c => Wq none 2 87 52 [(0, .ref 8), (1, .int (nI r)), (2, .int (nI s)), (3, .int (nI (10 * sv t s 0))), (4, .int (nI (sv t s 2))), (5, .int (bts (fun c => fitq t q c s) c)), (6, .int (nI c))] [] d dl (RV K)) ?_ ?_ (Nat.zero_le _)
    · refine r_87_52 ?_
      simp (disch := omega) only [true_imp_iff, false_imp_iff, not_true_eq_false, not_false_eq_true, and_true, true_and, Int32.reduceToInt, Int64.reduceToInt, Int32.reduceAdd, fa_lt, fa_le, fa_eq, cmi_lt, cmi_le, cmi_gt, cmi_ge, cmi_eq, fa_lt64, fa_le64, fa_eq64, Int32.toInt_toInt64, nI_toInt, ti_m1, sub1_ti, inB_iff, nI_clamp, Int32.add_zero, nI_1, nI_add, nI_p2, nI_p3, nI_p4, nI_p5, nI_p6, nI_p8, nI_p9, nI_p10, nI_m3, nI_m4, nI_m5, nI_m6, nI_m8, nI_m10, nI_m31, nI_m48, nI_m60, nI_m256, nI_t5, nI_t6, nI_a1, nI_a48, nI_a96, nI_d5, nI_d6, nI_d8, nI_d10, nI_d20, nI_s1, nI_s48, pk_sub, c2]
      repeat (first | (with_reducible refine pk1 ?_ ?_; omega) | (with_reducible refine pk2 ?_ ?_; omega) | (with_reducible refine bd1 ?_ ?_; omega))
      refine ih _ ?_ (fun a k z => by rw [up_na z]; exact fr a k z)
      intro s' hs'
      rcases Nat.lt_succ_iff_lt_or_eq.mp hs' with z | z
      · simp (disch := omega) only [up_eq, up_na, up_nk]
        exact h1 s' z
      · subst z
        simp (disch := omega) only [up_eq, up_na, up_nk]
    · intro c hcn ic
      obtain ⟨q1, q2, q3⟩ := hq c hcn
      obtain ⟨g1, g2, g3⟩ := h c hcn
      have e1 : d (10 + r) c = nI (q c 0) := by rw [fr _ _ (by omega)]; exact g1
      have e2 : d (37 + r) c = nI (q c 1) := by rw [fr _ _ (by omega)]; exact g2
      have e3 : d (64 + r) c = nI (q c 2) := by rw [fr _ _ (by omega)]; exact g3
      refine r_87_52 ?_
      simp (disch := omega) only [true_imp_iff, false_imp_iff, not_true_eq_false, not_false_eq_true, and_true, true_and, Int32.reduceToInt, Int64.reduceToInt, Int32.reduceAdd, fa_lt, fa_le, fa_eq, cmi_lt, cmi_le, cmi_gt, cmi_ge, cmi_eq, fa_lt64, fa_le64, fa_eq64, Int32.toInt_toInt64, nI_toInt, ti_m1, sub1_ti, inB_iff, nI_clamp, Int32.add_zero, nI_1, nI_add, nI_p2, nI_p3, nI_p4, nI_p5, nI_p6, nI_p8, nI_p9, nI_p10, nI_m3, nI_m4, nI_m5, nI_m6, nI_m8, nI_m10, nI_m31, nI_m48, nI_m60, nI_m256, nI_t5, nI_t6, nI_a1, nI_a48, nI_a96, nI_d5, nI_d6, nI_d8, nI_d10, nI_d20, nI_s1, nI_s48, pk_sub, c2, c3, e1, e2, e3]
      repeat (first | (with_reducible refine pk1 ?_ ?_; omega) | (with_reducible refine pk2 ?_ ?_; omega) | (with_reducible refine bd1 ?_ ?_; omega))
      by_cases hf : fitq t q c s = true
      · rw [bts_y (p := fun c => fitq t q c s) hf] at ic
        unfold fitq at hf
        rw [decide_eq_true_eq] at hf
        repeat (first | (with_reducible refine pk1 ?_ ?_; omega) | (with_reducible refine pk2 ?_ ?_; omega) | (with_reducible refine bd1 ?_ ?_; omega))
        exact ic
      · rw [bts_n (p := fun c => fitq t q c s) (Bool.eq_false_iff.mpr hf)] at ic
        unfold fitq at hf
        rw [decide_eq_true_eq] at hf
        exact ⟨fun _ => ⟨fun _ => ic, fun _ => ic⟩, fun z1 => ⟨fun _ => ⟨fun _ => ic, fun _ => ic⟩, fun z2 => ⟨fun _ => ic, fun z3 => ⟨fun _ => ic, fun z4 => absurd ⟨by omega, by omega, by omega, by omega⟩ hf⟩⟩⟩⟩
def xL (q : tClo) : Option Nat → Int32
  | none => 0
  | some b => nI (q b 0)
theorem oI_ne {b : Nat} (h : b < 2 ^ 31) : ¬ oI (some b) = -1 := by
  show ¬ nI b = -1
  rw [fa_eq, nI_toInt h, ti_m1]
  omega
theorem c_89 {t : tTown} {di : tDi} {dl : tDl} (hw : Wt t) {q : tClo} (hq : Bq t q) {r s : Nat} (hr : r < 26) (hs : s < nS t) (h : RowQ t q di r) (hf : di (91 + r) s = bts (fun c => fitq t q c s) (nC t)) (u : Int32) {K : Int32 → tDi → tDl → Prop} (kk : K (oB (choi t q s u)) (up2 di (118 + r) s (oI (choi t q s u))) dl) : ClI 1 89 [.ref 8, .int (nI r), .int (nI s), .int u] di dl K := by
  have w1 := hw.1.1
  have w2 := hw.1.2.1
  refine r_89 ?_
  simp (disch := omega) only [true_imp_iff, false_imp_iff, not_true_eq_false, not_false_eq_true, and_true, true_and, Int32.reduceToInt, Int64.reduceToInt, Int32.reduceAdd, fa_lt, fa_le, fa_eq, cmi_lt, cmi_le, cmi_gt, cmi_ge, cmi_eq, fa_lt64, fa_le64, fa_eq64, Int32.toInt_toInt64, nI_toInt, ti_m1, sub1_ti, inB_iff, nI_clamp, Int32.add_zero, nI_1, nI_add, nI_p2, nI_p3, nI_p4, nI_p5, nI_p6, nI_p8, nI_p9, nI_p10, nI_m3, nI_m4, nI_m5, nI_m6, nI_m8, nI_m10, nI_m31, nI_m48, nI_m60, nI_m256, nI_t5, nI_t6, nI_a1, nI_a48, nI_a96, nI_d5, nI_d6, nI_d8, nI_d10, nI_d20, nI_s1, nI_s48, pk_sub, hf]
  repeat (first | (with_reducible refine pk1 ?_ ?_; omega) | (with_reducible refine pk2 ?_ ?_; omega) | (with_reducible refine bd1 ?_ ?_; omega))
  have P : ∀ c, c < 8 → bt (bts (fun c => fitq t q c s) (nC t) &&& (u ^^^ -1)) c = (decide (c < nC t) && mayw t q s u c) := by
    intro c hc
    rw [b_and, b_xor, bt_bts (by omega) (by omega), b_m1 c (by omega)]
    unfold mayw
    rw [Bool.xor_true, Bool.and_assoc]
  have E : bst (fun c => decide (c < nC t) && mayw t q s u c) (fun c => q c 0) 8 = choi t q s u := by
    unfold choi
    rw [show 8 = nC t + (8 - nC t) by omega, bst_more]
    · exact bst_cong (fun c hc => by rw [decide_eq_true hc]; rfl) (fun c _ => rfl)
    · intro c h1 _
      rw [decide_eq_false (by omega)]; rfl
  rw [← E] at kk
  refine up_to (n := 8) (G := fun c => Wq none 1 89 33 [(0, .ref 8), (1, .int (nI r)), (2, .int (nI s)), (4, .int (oI (bst (fun c => decide (c < nC t) && mayw t q s u c) (fun c => q c 0) c))), (5, .int (xL q (bst (fun c => decide (c < nC t) && mayw t q s u c) (fun c => q c 0) c))), (6, .int (bts (fun c => fitq t q c s) (nC t) &&& (u ^^^ -1))), (7, .int (nI c))] [] di dl (RI K)) ?_ ?_ (Nat.zero_le _)
  · refine r_89_33 ?_
    refine pk1 ⟨Int32.le_refl _, fun z => absurd z (by decide)⟩ ?_
    refine ⟨inB_n hr (by decide), inB_n (by omega) (by decide), ?_⟩
    rw [nI_clamp (by omega), nI_clamp (by omega)]
    cases hb : bst (fun c => decide (c < nC t) && mayw t q s u c) (fun c => q c 0) 8 with
    | none =>
      rw [hb] at kk
      exact ⟨fun z => absurd rfl z, fun _ => kk⟩
    | some b =>
      rw [hb] at kk
      have := (bst_lt hb).1
      exact ⟨fun _ => kk, fun z => absurd z (oI_ne (by omega))⟩
  · intro c hc ic
    refine r_89_33 ?_
    refine pk2 ⟨fun z => by rw [fa_le, ti_8, nI_toInt (by omega)] at z; omega, nI_lt (b := 8) hc (by decide)⟩ ?_
    have pc := P c hc
    by_cases hb : bt (bts (fun c => fitq t q c s) (nC t) &&& (u ^^^ -1)) c = true
    · rw [bit_1 (by omega) hb]
      refine pk2 (by decide) ?_
      rw [pc] at hb
      have hcn : c < nC t := by
        rw [Bool.and_eq_true, decide_eq_true_eq] at hb
        exact hb.1
      obtain ⟨g1, g2, g3⟩ := h c hcn
      obtain ⟨q1, q2, q3⟩ := hq c hcn
      rw [nI_clamp (by omega), nI_clamp (by omega), g1]
      rw [bst, if_pos hb] at ic
      cases hb2 : bst (fun c => decide (c < nC t) && mayw t q s u c) (fun c => q c 0) c with
      | none =>
        rw [hb2] at ic
        refine pk1 ⟨rfl, fun z => z rfl⟩ ⟨inB_n hr (by decide), inB_n hc (by decide), ?_⟩
        rw [nI_1]
        exact ic
      | some b =>
        rw [hb2] at ic
        have hbc := (bst_lt hb2).1
        have hbn : b < nC t := by
          have := (bst_lt hb2).2
          rw [Bool.and_eq_true, decide_eq_true_eq] at this
          exact this.1
        obtain ⟨p1, _, _⟩ := hq b hbn
        have ic' : Wq none 1 89 33 [(0, .ref 8), (1, .int (nI r)), (2, .int (nI s)), (4, .int (oI (if q c 0 < q b 0 then some c else some b))), (5, .int (xL q (if q c 0 < q b 0 then some c else some b))), (6, .int (bts (fun c => fitq t q c s) (nC t) &&& (u ^^^ -1))), (7, .int (nI (c + 1)))] [] di dl (RI K) := ic
        refine pk2 ⟨oI_ne (by omega), oI_ne (by omega)⟩ ⟨inB_n hr (by decide), inB_n hc (by decide), ?_⟩
        rw [nI_1]
        by_cases hl : q c 0 < q b 0
        · rw [if_pos hl] at ic'
          refine pk2 ⟨fun z => ?_, nI_lt hl (by omega)⟩ ic'
          exact absurd (nI_lt hl (by omega)) (Int32.not_lt.mpr z)
        · rw [if_neg hl] at ic'
          refine pk1 ⟨nI_le (by omega) (by omega), fun z => ?_⟩ ic'
          exact absurd (nI_le (a := q b 0) (b := q c 0) (by omega) (by omega)) (Int32.not_le.mpr z)
    · rw [bit_0 (by omega) (Bool.eq_false_iff.mpr hb)]
      refine pk1 (by decide) ?_
      rw [pc] at hb
      rw [bst, if_neg hb] at ic
      rw [nI_1]
      exact ic
theorem c_88 {t : tTown} {di : tDi} {dl : tDl} (hw : Wt t) (hc : Cs t di) {q : tClo} (hq : Bq t q) {r : Nat} (hr : r < 26) (h : RowQ t q di r) (hf : RowF t q di r) {K : Int32 → tDi → tDl → Prop} (kk : ∀ d, RowW t q d r → FF1 (118 + r) di d → K (bcI (takn t q)) d dl) : ClI 2 88 [.ref 8, .int (nI r)] di dl K := by
  have w1 := hw.1.1
  have w2 := hw.1.2.1
  have w5 := hw.1.2.2.2.2
  have c5 := hc.2.2.2.2
  obtain ⟨T1, T2⟩ := tlr_w hw q (fun s => di (118 + r) s)
  have D : ∀ (x : tSt) (d : tDi) (s : Nat), s < nS t → (∀ i, d (118 + r) i = x.2 i) → FF1 (118 + r) di d → ∀ {K : Int32 → tDi → tDl → Prop}, (∀ d', (∀ i, d' (118 + r) i = (ds t q s x).2 i) → FF1 (118 + r) di d' → K (oB (choi t q s x.1)) d' dl) → ClI 1 89 [.ref 8, .int (nI r), .int (nI s), .int x.1] d dl K := by
    intro x d s hs hx fr K kk
    refine c_89 hw hq hr hs ?_ ?_ x.1 (kk _ ?_ ?_)
    · intro k hk
      rw [fr _ _ (by omega), fr _ _ (by omega), fr _ _ (by omega)]
      exact h k hk
    · rw [fr _ _ (by omega)]
      exact hf s hs
    · intro i
      show _ = if i = s then oI (choi t q s x.1) else x.2 i
      by_cases e : i = s
      · subst e
        rw [up_eq, if_pos rfl]
      · rw [up_nk e, if_neg e]
        exact hx i
    · intro a k z
      rw [up_na z]
      exact fr a k z
  have C1 : ∀ d, FF1 (118 + r) di d → d 1 4 = nI (nS t) := fun d fr => by rw [fr _ _ (by omega)]; exact hc.1.1
  refine r_88 ?_
  simp (disch := omega) only [true_imp_iff, false_imp_iff, not_true_eq_false, not_false_eq_true, and_true, true_and, Int32.reduceToInt, Int64.reduceToInt, Int32.reduceAdd, fa_lt, fa_le, fa_eq, cmi_lt, cmi_le, cmi_gt, cmi_ge, cmi_eq, fa_lt64, fa_le64, fa_eq64, Int32.toInt_toInt64, nI_toInt, ti_m1, sub1_ti, inB_iff, nI_clamp, Int32.add_zero, nI_1, nI_add, nI_p2, nI_p3, nI_p4, nI_p5, nI_p6, nI_p8, nI_p9, nI_p10, nI_m3, nI_m4, nI_m5, nI_m6, nI_m8, nI_m10, nI_m31, nI_m48, nI_m60, nI_m256, nI_t5, nI_t6, nI_a1, nI_a48, nI_a96, nI_d5, nI_d6, nI_d8, nI_d10, nI_d20, nI_s1, nI_s48, pk_sub, c5]
  by_cases e : wy t = 0
  · repeat (first | (with_reducible refine pk1 ?_ ?_; omega) | (with_reducible refine pk2 ?_ ?_; omega) | (with_reducible refine bd1 ?_ ?_; omega))
    refine up_to (n := nS t) (G := fun i => ∀ d, (∀ s, d (118 + r) s = (lp0 t q (0, fun s => di (118 + r) s) i).2 s) → FF1 (118 + r) di d → Wq none 2 88 11 [(0, .ref 8), (1, .int (nI r)), (2, .int (lp0 t q (0, fun s => di (118 + r) s) i).1), (3, .int (nI i))] [] d dl (RI K)) ?_ ?_ (Nat.zero_le _) di (fun _ => rfl) (fun _ _ _ => rfl)
    · intro d hx fr
      refine r_88_11 ?_
      simp (disch := omega) only [true_imp_iff, false_imp_iff, not_true_eq_false, not_false_eq_true, and_true, true_and, Int32.reduceToInt, Int64.reduceToInt, Int32.reduceAdd, fa_lt, fa_le, fa_eq, cmi_lt, cmi_le, cmi_gt, cmi_ge, cmi_eq, fa_lt64, fa_le64, fa_eq64, Int32.toInt_toInt64, nI_toInt, ti_m1, sub1_ti, inB_iff, nI_clamp, Int32.add_zero, nI_1, nI_add, nI_p2, nI_p3, nI_p4, nI_p5, nI_p6, nI_p8, nI_p9, nI_p10, nI_m3, nI_m4, nI_m5, nI_m6, nI_m8, nI_m10, nI_m31, nI_m48, nI_m60, nI_m256, nI_t5, nI_t6, nI_a1, nI_a48, nI_a96, nI_d5, nI_d6, nI_d8, nI_d10, nI_d20, nI_s1, nI_s48, pk_sub, C1 d fr]
      repeat (first | (with_reducible refine pk1 ?_ ?_; omega) | (with_reducible refine pk2 ?_ ?_; omega) | (with_reducible refine bd1 ?_ ?_; omega))
      unfold tlr at T1 T2
      rw [if_pos e] at T1 T2
      refine c_219 ?_
      rw [T1]
      exact kk d (fun s hs => by rw [hx s]; exact T2 s hs) fr
    · intro i hi ih d hx fr
      refine r_88_11 ?_
      simp (disch := omega) only [true_imp_iff, false_imp_iff, not_true_eq_false, not_false_eq_true, and_true, true_and, Int32.reduceToInt, Int64.reduceToInt, Int32.reduceAdd, fa_lt, fa_le, fa_eq, cmi_lt, cmi_le, cmi_gt, cmi_ge, cmi_eq, fa_lt64, fa_le64, fa_eq64, Int32.toInt_toInt64, nI_toInt, ti_m1, sub1_ti, inB_iff, nI_clamp, Int32.add_zero, nI_1, nI_add, nI_p2, nI_p3, nI_p4, nI_p5, nI_p6, nI_p8, nI_p9, nI_p10, nI_m3, nI_m4, nI_m5, nI_m6, nI_m8, nI_m10, nI_m31, nI_m48, nI_m60, nI_m256, nI_t5, nI_t6, nI_a1, nI_a48, nI_a96, nI_d5, nI_d6, nI_d8, nI_d10, nI_d20, nI_s1, nI_s48, pk_sub, C1 d fr]
      repeat (first | (with_reducible refine pk1 ?_ ?_; omega) | (with_reducible refine pk2 ?_ ?_; omega) | (with_reducible refine bd1 ?_ ?_; omega))
      refine D _ d i hi hx fr ?_
      intro d' hx' fr'
      exact ih d' hx' fr'
  · repeat (first | (with_reducible refine pk1 ?_ ?_; omega) | (with_reducible refine pk2 ?_ ?_; omega) | (with_reducible refine bd1 ?_ ?_; omega))
    unfold tlr at T1 T2
    rw [if_neg e] at T1 T2
    have L : ∀ m j, j + m = 9 → ∀ d, (∀ s, d (118 + r) s = (lpz t q (0, fun s => di (118 + r) s) j).2 s) → FF1 (118 + r) di d → Wq none 2 88 46 [(0, .ref 8), (1, .int (nI r)), (2, .int (lpz t q (0, fun s => di (118 + r) s) j).1), (3, .int (nI m))] [] d dl (RI K) := by
      intro m
      induction m with
      | zero =>
        intro j hj d hx fr
        have ej : j = 9 := by omega
        subst ej
        refine r_88_46 ?_
        simp (disch := omega) only [true_imp_iff, false_imp_iff, not_true_eq_false, not_false_eq_true, and_true, true_and, Int32.reduceToInt, Int64.reduceToInt, Int32.reduceAdd, fa_lt, fa_le, fa_eq, cmi_lt, cmi_le, cmi_gt, cmi_ge, cmi_eq, fa_lt64, fa_le64, fa_eq64, Int32.toInt_toInt64, nI_toInt, ti_m1, sub1_ti, inB_iff, nI_clamp, Int32.add_zero, nI_1, nI_add, nI_p2, nI_p3, nI_p4, nI_p5, nI_p6, nI_p8, nI_p9, nI_p10, nI_m3, nI_m4, nI_m5, nI_m6, nI_m8, nI_m10, nI_m31, nI_m48, nI_m60, nI_m256, nI_t5, nI_t6, nI_a1, nI_a48, nI_a96, nI_d5, nI_d6, nI_d8, nI_d10, nI_d20, nI_s1, nI_s48, pk_sub]
        repeat (first | (with_reducible refine pk1 ?_ ?_; omega) | (with_reducible refine pk2 ?_ ?_; omega) | (with_reducible refine bd1 ?_ ?_; omega))
        refine c_219 ?_
        rw [T1]
        exact kk d (fun s hs => by rw [hx s]; exact T2 s hs) fr
      | succ m ih =>
        intro j hj d hx fr
        refine r_88_46 ?_
        simp (disch := omega) only [true_imp_iff, false_imp_iff, not_true_eq_false, not_false_eq_true, and_true, true_and, Int32.reduceToInt, Int64.reduceToInt, Int32.reduceAdd, fa_lt, fa_le, fa_eq, cmi_lt, cmi_le, cmi_gt, cmi_ge, cmi_eq, fa_lt64, fa_le64, fa_eq64, Int32.toInt_toInt64, nI_toInt, ti_m1, sub1_ti, inB_iff, nI_clamp, Int32.add_zero, nI_1, nI_add, nI_p2, nI_p3, nI_p4, nI_p5, nI_p6, nI_p8, nI_p9, nI_p10, nI_m3, nI_m4, nI_m5, nI_m6, nI_m8, nI_m10, nI_m31, nI_m48, nI_m60, nI_m256, nI_t5, nI_t6, nI_a1, nI_a48, nI_a96, nI_d5, nI_d6, nI_d8, nI_d10, nI_d20, nI_s1, nI_s48, pk_sub]
        repeat (first | (with_reducible refine pk1 ?_ ?_; omega) | (with_reducible refine pk2 ?_ ?_; omega) | (with_reducible refine bd1 ?_ ?_; omega))
        refine up_to (n := nS t) (G := fun i => ∀ d, (∀ s, d (118 + r) s = (lpq t q (9 - j) (lpz t q (0, fun s => di (118 + r) s) j) i).2 s) → FF1 (118 + r) di d → Wq none 2 88 54 [(0, .ref 8), (1, .int (nI r)), (2, .int (lpq t q (9 - j) (lpz t q (0, fun s => di (118 + r) s) j) i).1), (3, .int (nI (m + 1))), (4, .int (nI i))] [] d dl (RI K)) ?_ ?_ (Nat.zero_le _) d hx fr
        · intro d hx fr
          refine r_88_54 ?_
          simp (disch := omega) only [true_imp_iff, false_imp_iff, not_true_eq_false, not_false_eq_true, and_true, true_and, Int32.reduceToInt, Int64.reduceToInt, Int32.reduceAdd, fa_lt, fa_le, fa_eq, cmi_lt, cmi_le, cmi_gt, cmi_ge, cmi_eq, fa_lt64, fa_le64, fa_eq64, Int32.toInt_toInt64, nI_toInt, ti_m1, sub1_ti, inB_iff, nI_clamp, Int32.add_zero, nI_1, nI_add, nI_p2, nI_p3, nI_p4, nI_p5, nI_p6, nI_p8, nI_p9, nI_p10, nI_m3, nI_m4, nI_m5, nI_m6, nI_m8, nI_m10, nI_m31, nI_m48, nI_m60, nI_m256, nI_t5, nI_t6, nI_a1, nI_a48, nI_a96, nI_d5, nI_d6, nI_d8, nI_d10, nI_d20, nI_s1, nI_s48, pk_sub, C1 d fr, pk_m1]
          repeat (first | (with_reducible refine pk1 ?_ ?_; omega) | (with_reducible refine pk2 ?_ ?_; omega) | (with_reducible refine bd1 ?_ ?_; omega))
          exact ih (j + 1) (by omega) d hx fr
        · intro i hi ic d hx fr
          have hc0 := Cs_lo (fun a k z _ => fr a k (by omega)) hc
          obtain ⟨v1, v2, v3, v4, v5⟩ := hw.2.1 i hi
          refine r_88_54 ?_
          simp (disch := omega) only [true_imp_iff, false_imp_iff, not_true_eq_false, not_false_eq_true, and_true, true_and, Int32.reduceToInt, Int64.reduceToInt, Int32.reduceAdd, fa_lt, fa_le, fa_eq, cmi_lt, cmi_le, cmi_gt, cmi_ge, cmi_eq, fa_lt64, fa_le64, fa_eq64, Int32.toInt_toInt64, nI_toInt, ti_m1, sub1_ti, inB_iff, nI_clamp, Int32.add_zero, nI_1, nI_add, nI_p2, nI_p3, nI_p4, nI_p5, nI_p6, nI_p8, nI_p9, nI_p10, nI_m3, nI_m4, nI_m5, nI_m6, nI_m8, nI_m10, nI_m31, nI_m48, nI_m60, nI_m256, nI_t5, nI_t6, nI_a1, nI_a48, nI_a96, nI_d5, nI_d6, nI_d8, nI_d10, nI_d20, nI_s1, nI_s48, pk_sub, C1 d fr]
          repeat (first | (with_reducible refine pk1 ?_ ?_; omega) | (with_reducible refine pk2 ?_ ?_; omega) | (with_reducible refine bd1 ?_ ?_; omega))
          refine c_47 hc0 hi ?_
          by_cases e2 : sv t i 0 = 9 - j
          · simp (disch := omega) only [true_imp_iff, false_imp_iff, not_true_eq_false, not_false_eq_true, and_true, true_and, Int32.reduceToInt, Int64.reduceToInt, Int32.reduceAdd, fa_lt, fa_le, fa_eq, cmi_lt, cmi_le, cmi_gt, cmi_ge, cmi_eq, fa_lt64, fa_le64, fa_eq64, Int32.toInt_toInt64, nI_toInt, ti_m1, sub1_ti, inB_iff, nI_clamp, Int32.add_zero, nI_1, nI_add, nI_p2, nI_p3, nI_p4, nI_p5, nI_p6, nI_p8, nI_p9, nI_p10, nI_m3, nI_m4, nI_m5, nI_m6, nI_m8, nI_m10, nI_m31, nI_m48, nI_m60, nI_m256, nI_t5, nI_t6, nI_a1, nI_a48, nI_a96, nI_d5, nI_d6, nI_d8, nI_d10, nI_d20, nI_s1, nI_s48, pk_sub]
            repeat (first | (with_reducible refine pk1 ?_ ?_; omega) | (with_reducible refine pk2 ?_ ?_; omega) | (with_reducible refine bd1 ?_ ?_; omega))
            unfold lpq at ic
            rw [if_pos e2] at ic
            refine D _ d i hi hx fr ?_
            intro d' hx' fr'
            exact ic d' hx' fr'
          · simp (disch := omega) only [true_imp_iff, false_imp_iff, not_true_eq_false, not_false_eq_true, and_true, true_and, Int32.reduceToInt, Int64.reduceToInt, Int32.reduceAdd, fa_lt, fa_le, fa_eq, cmi_lt, cmi_le, cmi_gt, cmi_ge, cmi_eq, fa_lt64, fa_le64, fa_eq64, Int32.toInt_toInt64, nI_toInt, ti_m1, sub1_ti, inB_iff, nI_clamp, Int32.add_zero, nI_1, nI_add, nI_p2, nI_p3, nI_p4, nI_p5, nI_p6, nI_p8, nI_p9, nI_p10, nI_m3, nI_m4, nI_m5, nI_m6, nI_m8, nI_m10, nI_m31, nI_m48, nI_m60, nI_m256, nI_t5, nI_t6, nI_a1, nI_a48, nI_a96, nI_d5, nI_d6, nI_d8, nI_d10, nI_d20, nI_s1, nI_s48, pk_sub]
            repeat (first | (with_reducible refine pk1 ?_ ?_; omega) | (with_reducible refine pk2 ?_ ?_; omega) | (with_reducible refine bd1 ?_ ?_; omega))
            unfold lpq at ic
            rw [if_neg e2] at ic
            exact ic d hx fr
    exact L 9 0 (by omega) di (fun _ => rfl) (fun _ _ _ => rfl)
def RowV (t : tTown) (q : tClo) (d : tDi) (r : Nat) : Prop := RowQ t q d r ∧ RowF t q d r ∧ RowW t q d r
def Wv (t : tTown) (d : tDi) : Prop := ∀ m, m ≤ nM t → RowV t (qs t (mo t) m) d m
theorem RowV_cong {t : tTown} {q : tClo} {di d : tDi} {r : Nat} (h : ∀ a k, (a = 10 + r ∨ a = 37 + r ∨ a = 64 + r ∨ a = 91 + r ∨ a = 118 + r) → d a k = di a k) (H : RowV t q di r) : RowV t q d r := by
  obtain ⟨h1, h2, h3⟩ := H
  refine ⟨fun k hk => ?_, fun s hs => ?_, fun s hs => ?_⟩
  · rw [h _ _ (by omega), h _ _ (by omega), h _ _ (by omega)]
    exact h1 k hk
  · rw [h _ _ (by omega)]
    exact h2 s hs
  · rw [h _ _ (by omega)]
    exact h3 s hs
def FU (di d : tDi) : Prop := ∀ a k, ¬ (a = 8 ∧ k = 10) → ¬ (10 ≤ a ∧ a ≤ 143) → d a k = di a k
/-- a row made anew of its clothes: measure and dress -/
theorem c_row {t : tTown} {di : tDi} {dl : tDl} (hw : Wt t) (hc : Cs t di) {q : tClo} (hq : Bq t q) {r : Nat} (hr : r < 26) (h : RowQ t q di r) {K : tDi → tDl → Prop} (kk : ∀ d, RowV t q d r → (∀ a k, ¬ a = 91 + r → ¬ a = 118 + r → d a k = di a k) → K d dl) : ClV 2 87 [.ref 8, .int (nI r)] di dl (fun di2 dl2 => ClI 2 88 [.ref 8, .int (nI r)] di2 dl2 (fun _ di3 dl3 => K di3 dl3)) := by
  refine c_87 hw hc hq hr h ?_
  intro d hF fr
  have hQ : RowQ t q d r := by
    intro k hk
    rw [fr _ _ (by omega), fr _ _ (by omega), fr _ _ (by omega)]
    exact h k hk
  refine c_88 hw (Cs_lo (fun a k z _ => fr a k (by omega)) hc) hq hr hQ hF ?_
  intro g hW gr
  refine kk g ⟨?_, ?_, hW⟩ (fun a k z1 z2 => by rw [gr a k z2]; exact fr a k z1)
  · intro k hk
    rw [gr _ _ (by omega), gr _ _ (by omega), gr _ _ (by omega)]
    exact hQ k hk
  · intro s hs
    rw [gr _ _ (by omega)]
    exact hF s hs
theorem c_64 {t : tTown} {di : tDi} {dl : tDl} (hw : Wt t) (hc : Cs t di) (ho : di 8 10 = 1 ∨ Wv t di) {K : tDi → tDl → Prop} (kk : ∀ d, Wv t d → FU di d → K d dl) : ClV 3 64 [.ref 8] di dl K := by
  have w3 := hw.1.2.2.1
  refine r_64 ?_
  by_cases h0 : di 8 10 = 0
  · refine pk2 ⟨fun z => z h0, h0⟩ ?_
    rcases ho with ho | ho
    · rw [h0] at ho
      exact absurd ho (by decide)
    · exact kk di ho (fun _ _ _ _ => rfl)
  refine pk1 ⟨h0, h0⟩ ?_
  have hc1 : Cs t (up2 di 8 10 0) := Cs_lo (fun a k z1 z2 => by unfold up2; rw [if_neg z2]) hc
  refine c_83 (r := 0) hw hc1 (by omega) ?_
  intro d hQ fr
  refine c_row (r := 0) hw (Cs_lo (FQ_lo fr) hc1) (Bq_z hw) (by omega) hQ ?_
  intro g hV gr
  refine up_to (n := nM t) (G := fun m => ∀ d, (∀ j, j ≤ m → RowV t (qs t (mo t) j) d j) → FU di d → Wq none 3 64 31 [(0, .ref 8), (1, .int (nI m))] [] d dl (RV K)) ?_ ?_ (Nat.zero_le _) g ?_ ?_
  · intro d h1 fu
    have c1 := (Cs_lo (fun a k z1 z2 => fu a k z2 (by omega)) hc).2.2.1.1
    refine r_64_31 ?_
    simp (disch := omega) only [true_imp_iff, false_imp_iff, not_true_eq_false, not_false_eq_true, and_true, true_and, Int32.reduceToInt, Int64.reduceToInt, Int32.reduceAdd, fa_lt, fa_le, fa_eq, cmi_lt, cmi_le, cmi_gt, cmi_ge, cmi_eq, fa_lt64, fa_le64, fa_eq64, Int32.toInt_toInt64, nI_toInt, ti_m1, sub1_ti, inB_iff, nI_clamp, Int32.add_zero, nI_1, nI_add, nI_p2, nI_p3, nI_p4, nI_p5, nI_p6, nI_p8, nI_p9, nI_p10, nI_m3, nI_m4, nI_m5, nI_m6, nI_m8, nI_m10, nI_m31, nI_m48, nI_m60, nI_m256, nI_t5, nI_t6, nI_a1, nI_a48, nI_a96, nI_d5, nI_d6, nI_d8, nI_d10, nI_d20, nI_s1, nI_s48, pk_sub, c1]
    repeat (first | (with_reducible refine pk1 ?_ ?_; omega) | (with_reducible refine pk2 ?_ ?_; omega) | (with_reducible refine bd1 ?_ ?_; omega))
    exact kk d h1 fu
  · intro m hm ih d h1 fu
    have hc0 := Cs_lo (fun a k z1 z2 => fu a k z2 (by omega)) hc
    have c1 := hc0.2.2.1.1
    refine r_64_31 ?_
    simp (disch := omega) only [true_imp_iff, false_imp_iff, not_true_eq_false, not_false_eq_true, and_true, true_and, Int32.reduceToInt, Int64.reduceToInt, Int32.reduceAdd, fa_lt, fa_le, fa_eq, cmi_lt, cmi_le, cmi_gt, cmi_ge, cmi_eq, fa_lt64, fa_le64, fa_eq64, Int32.toInt_toInt64, nI_toInt, ti_m1, sub1_ti, inB_iff, nI_clamp, Int32.add_zero, nI_1, nI_add, nI_p2, nI_p3, nI_p4, nI_p5, nI_p6, nI_p8, nI_p9, nI_p10, nI_m3, nI_m4, nI_m5, nI_m6, nI_m8, nI_m10, nI_m31, nI_m48, nI_m60, nI_m256, nI_t5, nI_t6, nI_a1, nI_a48, nI_a96, nI_d5, nI_d6, nI_d8, nI_d10, nI_d20, nI_s1, nI_s48, pk_sub, c1]
    repeat (first | (with_reducible refine pk1 ?_ ?_; omega) | (with_reducible refine pk2 ?_ ?_; omega) | (with_reducible refine bd1 ?_ ?_; omega))
    refine c_35t hw hc0 hm ?_
    refine c_84 hw hc0 (Bq_s hw (mo t) m) (by omega) (by omega) (h1 m (Nat.le_refl m)).1 (hw.2.2.2 m hm) ?_
    intro d2 hQ2 fr2
    refine c_row hw (Cs_lo (FQ_lo fr2) hc0) (Bq_s hw (mo t) (m + 1)) (by omega) hQ2 ?_
    intro d3 hV3 fr3
    refine ih d3 ?_ ?_
    · intro j hj
      rcases Nat.lt_succ_iff_lt_or_eq.mp (Nat.lt_succ_of_le hj) with z | z
      · refine RowV_cong (fun a k ha => ?_) (h1 j (by omega))
        rw [fr3 _ _ (by omega) (by omega), fr2 _ _ (by omega) (by omega) (by omega)]
      · subst z
        exact hV3
    · intro a k z1 z2
      rw [fr3 _ _ (by omega) (by omega), fr2 _ _ (by omega) (by omega) (by omega)]
      exact fu a k z1 z2
  · intro j hj
    have e : j = 0 := by omega
    subst e
    exact hV
  · intro a k z1 z2
    rw [gr _ _ (by omega) (by omega), fr _ _ (by omega) (by omega) (by omega)]
    unfold up2
    rw [if_neg z1]
