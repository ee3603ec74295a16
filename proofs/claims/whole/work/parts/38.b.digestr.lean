/-! digest: the reference -/
theorem FM_rf {di : tDi} : FM di di := fun _ _ _ _ _ => rfl
theorem FM_tr {a b c : tDi} (h : FM a b) (h2 : FM b c) : FM a c := fun x k z1 z2 z3 => (h2 x k z1 z2 z3).trans (h x k z1 z2 z3)
theorem FM_I {a b : tDi} (h : FI a b) : FM a b := fun x k _ _ z => h x k z
theorem FM_m {a b : tDi} (h : Fm a b) : FM a b := fun x k z1 z2 _ => h x k z1 z2
def Rx (t : tTown) (y : tY) (d : tDi) : Prop := Rs t d ∧ Itx d ∧ Ise d ∧ Cs t d ∧ Yr y d
theorem Cs_FM {t : tTown} {d e : tDi} (h : FM d e) (H : Cs t d) : Cs t e := Cs_lo (fun a k z1 z2 => h a k (by omega) (by omega) (by omega)) H
theorem Itx_FM {d e : tDi} (h : FM d e) (H : Itx d) : Itx e := Itx_cong (fun a k z1 z2 => h a k (by omega) (by omega) (by omega)) (fun k => h _ k (by omega) (by omega) (by omega)) (fun k => h _ k (by omega) (by omega) (by omega)) H
theorem Ise_FM {d e : tDi} (h : FM d e) (H : Ise d) : Ise e := Ise_cong (h _ _ (by omega) (by omega) (by omega)) (h _ _ (by omega) (by omega) (by omega)) (fun k => h _ k (by omega) (by omega) (by omega)) H
theorem Ini_FM {d e : tDi} (h : FM d e) (H : Ini d) : Ini e := Ini_cong (h _ _ (by omega) (by omega) (by omega)) (h _ _ (by omega) (by omega) (by omega)) (fun a ha k => h a k (by omega) (by omega) (by omega)) H
theorem Ila_FM {d e : tDi} (h : FM d e) (H : Ila d) : Ila e := Ila_cong (h _ _ (by omega) (by omega) (by omega)) (h _ _ (by omega) (by omega) (by omega)) H
theorem Yr_FM {y : tY} {d e : tDi} (h : FM d e) (H : Yr y d) : Yr y e := by
  refine ⟨?_, fun k hk => ?_⟩
  · rw [h _ _ (by omega) (by omega) (by omega)]; exact H.1
  · rw [h _ _ (by omega) (by omega) (by omega), h _ _ (by omega) (by omega) (by omega), h _ _ (by omega) (by omega) (by omega)]
    exact H.2 k hk
theorem Rx_FM {t : tTown} {y : tY} {d e : tDi} (h : FM d e) (hr : Rs t e) (H : Rx t y d) : Rx t y e := ⟨hr, Itx_FM h H.2.1, Ise_FM h H.2.2.1, Cs_FM h H.2.2.2.1, Yr_FM h H.2.2.2.2⟩
theorem a_co_FM {d e : tDi} (h : FM d e) (a : Int32) : a_co e a = a_co d a := by
  unfold a_co
  rw [h 1 4 (by omega) (by omega) (by omega), h 3 4 (by omega) (by omega) (by omega), h 5 4 (by omega) (by omega) (by omega), h 1 2 (by omega) (by omega) (by omega), h 3 2 (by omega) (by omega) (by omega), h 5 2 (by omega) (by omega) (by omega), h 8 8 (by omega) (by omega) (by omega), h 159 8 (by omega) (by omega) (by omega), h 0 10 (by omega) (by omega) (by omega)]
theorem ftV_FM {d e : tDi} (h : FM d e) (i : Nat) : ftV e i = ftV d i := by
  unfold ftV
  rw [h 1 3 (by omega) (by omega) (by omega), h 3 3 (by omega) (by omega) (by omega), h 5 3 (by omega) (by omega) (by omega)]
section DIGR
variable {t : tTown} {y : tY} {di : tDi} {dl : tDl}
theorem k_162 {K : Int32 → tDi → tDl → Prop} (hw : Wt t) (hR : Rx t y di) {i : Nat} (hi : i < 3) (kk : ∀ d, Rs t d → FM di d → K (ftV di i) d dl) : ClI 5 162 [.ref 176, .int (nI i)] di dl K := by
  obtain ⟨hr, hx, _, hc, _⟩ := hR
  obtain ⟨r1, r2, r3, r4, r5, r6, r7, r8⟩ := hr
  obtain ⟨hS, hC, hM, _, _⟩ := hc
  obtain ⟨⟨n0, f0, X0, x0, q0', m0, F0, t0, a0, b0⟩, ⟨n1, f1, X1, x1, q1', m1, F1, t1, a1, b1⟩, ⟨n2, f2, X2, x2, q2', m2, F2, t2, a2, b2⟩⟩ := hx
  obtain ⟨e0, v0⟩ := pS X0 t0 b0 hw hS
  obtain ⟨e1, v1⟩ := pC X1 t1 b1 hw hC
  obtain ⟨e2, v2⟩ := pM X2 t2 b2 hw hM
  obtain ⟨p1, p2, p3, p4, p5⟩ := X0
  obtain ⟨q1, q2, q3, q4, q5⟩ := X1
  obtain ⟨u1, u2, u3, u4, u5⟩ := X2
  rcases (by omega : i = 0 ∨ i = 1 ∨ i = 2) with e | e | e
  · subst e
    refine c_162S (n := n0) (f := f0) p1 p4 (fun i hi => ⟨(p5 i hi).1, by
      have := (p5 i hi).2.2
      rw [Nat.mul_zero, Nat.zero_add] at this
      exact this⟩) ?_
    intro d x r m hF hf d3 dv fr
    have ex := FF_u hF F0
    subst ex
    obtain ⟨er, em⟩ := ftS_u hf t0
    have ef : ftV di 0 = r := by
      unfold ftV
      rw [if_pos (show nI 0 = 0 from rfl), er, a0]
    rw [← ef]
    refine kk d ⟨?_, ?_, ?_, ?_, ?_, ?_, ?_, ?_⟩ (fun a k z1 z2 z3 => fr a k z1 (by omega) (by omega))
    · rw [d3, em, e0]
    · rw [fr _ _ (by omega) (by omega) (by omega)]; exact r2
    · rw [fr _ _ (by omega) (by omega) (by omega)]; exact r3
    · rw [fr _ _ (by omega) (by omega) (by omega)]; exact r4
    · rw [fr _ _ (by omega) (by omega) (by omega)]; exact r5
    · intro k hk j hj
      rw [dv k (by omega) j hj, v0 k (by omega) j hj]
    · intro k hk j hj
      rw [fr _ _ (by omega) (by omega) (by omega)]; exact r7 k hk j hj
    · intro k hk
      rw [fr _ _ (by omega) (by omega) (by omega)]; exact r8 k hk
  · subst e
    refine c_162C (n := n1) (f := f1) q1 q4 (fun i hi => ⟨(q5 i hi).1, (q5 i hi).2.2⟩) ?_
    intro d x r m hF hf d3 dv fr
    have ex := FF_u hF F1
    subst ex
    obtain ⟨er, em⟩ := ftC_u hf t1
    have ef : ftV di 1 = r := by
      unfold ftV
      rw [if_neg (by decide), if_pos (show nI 1 = 1 from rfl), er, a1]
    rw [← ef]
    refine kk d ⟨?_, ?_, ?_, ?_, ?_, ?_, ?_, ?_⟩ (fun a k z1 z2 z3 => fr a k z1 (by omega) (by omega))
    · rw [fr _ _ (by omega) (by omega) (by omega)]; exact r1
    · rw [d3, em, e1]
    · rw [fr _ _ (by omega) (by omega) (by omega)]; exact r3
    · rw [fr _ _ (by omega) (by omega) (by omega)]; exact r4
    · rw [fr _ _ (by omega) (by omega) (by omega)]; exact r5
    · intro k hk j hj
      rw [fr _ _ (by omega) (by omega) (by omega)]; exact r6 k hk j hj
    · intro k hk j hj
      rw [dv k (by omega) j hj, v1 k (by omega) j hj]
    · intro k hk
      rw [fr _ _ (by omega) (by omega) (by omega)]; exact r8 k hk
  · subst e
    refine r_162 (pk2 (by decide) ?_)
    refine c_161 (n := n2) (f := f2) u1 u4 (fun i hi => ⟨(u5 i hi).1, (u5 i hi).2.2⟩) ?_
    intro d x r m hF hf d3 dv fr
    have ex := FF_u hF F2
    subst ex
    obtain ⟨er, em⟩ := ftM_u hf t2
    have ef : ftV di 2 = r := by
      unfold ftV
      rw [if_neg (by decide), if_neg (by decide), if_pos (show nI 2 = 2 from rfl), er, a2]
    rw [← ef]
    refine kk d ⟨?_, ?_, ?_, ?_, ?_, ?_, ?_, ?_⟩ (fun a k z1 z2 z3 => fr a k (by omega) (by omega))
    · rw [fr _ _ (by omega) (by omega)]; exact r1
    · rw [fr _ _ (by omega) (by omega)]; exact r2
    · rw [d3, em, e2]
    · rw [fr _ _ (by omega) (by omega)]; exact r4
    · rw [fr _ _ (by omega) (by omega)]; exact r5
    · intro k hk j hj
      rw [fr _ _ (by omega) (by omega)]; exact r6 k hk j hj
    · intro k hk j hj
      rw [fr _ _ (by omega) (by omega)]; exact r7 k hk j hj
    · intro k hk
      rw [dv k (by omega), v2 k (by omega)]
theorem c_217 {K : Int64 → tDi → tDl → Prop} (hw : Wt t) (hr : Rs t di) (h : Int64) {m : Nat} (hm : m ≤ nM t) (kk : ∀ d, Rs t d → FI di d → K (hBe t m h) d dl) : ClJ 6 217 [.ref 176, .long h, .int (nI m)] di dl K := by
  have w1 := hw.1.1
  have w2 := hw.1.2.1
  refine r_217 ?_
  refine up_to (n := nS t) (G := fun s => ∀ d, Rs t d → FI di d → Wq none 6 217 6 [(0, .ref 176), (3, .int (nI m)), (4, .long (hCo (fun s => worn t (Qm t m) s) h s)), (6, .int (nI s))] [] d dl (RJ K)) ?_ ?_ (Nat.zero_le _) di hr FI_rf
  · intro d hd fc
    have c1 := hd.1
    refine r_217_6 ?_
    simp (disch := omega) only [true_imp_iff, false_imp_iff, not_true_eq_false, not_false_eq_true, and_true, true_and, Int32.reduceToInt, Int64.reduceToInt, Int32.reduceAdd, fa_lt, fa_le, fa_eq, cmi_lt, cmi_le, cmi_gt, cmi_ge, cmi_eq, fa_lt64, fa_le64, fa_eq64, Int32.toInt_toInt64, nI_toInt, ti_m1, sub1_ti, inB_iff, nI_clamp, Int32.add_zero, nI_1, nI_add, nI_p2, nI_p3, nI_p4, nI_p5, nI_p6, nI_p8, nI_p9, nI_p10, nI_m3, nI_m4, nI_m5, nI_m6, nI_m8, nI_m10, nI_m31, nI_m48, nI_m60, nI_m256, nI_t5, nI_t6, nI_a1, nI_a48, nI_a96, nI_d5, nI_d6, nI_d8, nI_d10, nI_d20, nI_s1, nI_s48, pk_sub, c1]
    repeat (first | (with_reducible refine pk1 ?_ ?_; omega) | (with_reducible refine pk2 ?_ ?_; omega) | (with_reducible refine bd1 ?_ ?_; omega))
    refine up_to (n := nC t) (G := fun c => ∀ d, Rs t d → FI di d → Wq none 6 217 43 [(0, .ref 176), (3, .int (nI m)), (4, .long (hIs t m (hCo (fun s => worn t (Qm t m) s) h (nS t)) c)), (6, .int (nI c))] [] d dl (RJ K)) ?_ ?_ (Nat.zero_le _) d hd fc
    · intro d hd fc
      have c2 := hd.2.1
      refine r_217_43 ?_
      rw [c2]
      refine pk1 ⟨Int32.le_refl _, fun z => absurd (Int32.le_refl _) (Int32.not_le.mpr z)⟩ ?_
      refine c_187 (j := 0) hw hd hm (by omega) ?_
      intro e1 h1 f1
      refine c_187 (j := 1) hw h1 hm (by omega) ?_
      intro e2 h2 f2
      refine c_193 hw h2 hm (Or.inl rfl) ?_
      intro e3 h3 f3
      refine c_193 hw h3 hm (Or.inr ⟨0, by omega, rfl⟩) ?_
      intro e4 h4 f4
      refine c_198 (L := 60) hw h4 hm (by omega) (by omega) ?_
      intro e5 h5 f5
      exact kk e5 h5 (FI_tr (FI_tr (FI_tr (FI_tr (FI_tr fc f1) f2) f3) f4) f5)
    · intro c hc ih d hd fc
      have c2 := hd.2.1
      refine r_217_43 ?_
      rw [c2]
      refine pk2 ⟨fun z => absurd (nI_lt hc (by omega)) (Int32.not_lt.mpr z), nI_lt hc (by omega)⟩ ?_
      refine up_to (n := 3) (G := fun j => ∀ d, Rs t d → FI di d → Wq none 6 217 57 [(0, .ref 176), (3, .int (nI m)), (4, .long (hCo (fun j => nI (Qm t m c j)) (hIs t m (hCo (fun s => worn t (Qm t m) s) h (nS t)) c) j)), (6, .int (nI c)), (7, .int (nI j))] [] d dl (RJ K)) ?_ ?_ (Nat.zero_le _) d hd fc
      · intro d hd fc
        refine r_217_57 (pk1 (by decide) ?_)
        refine c_182 hw hd hm hc ?_
        intro e ce fe
        rw [nI_1]
        exact ih e ce (FI_tr fc fe)
      · intro j hj ij d hd fc
        refine r_217_57 (pk2 ⟨fun z => absurd (nI_lt (b := 3) hj (by decide)) (Int32.not_lt.mpr z), nI_lt (b := 3) hj (by decide)⟩ ?_)
        refine c_180 hw hd hm hc hj ?_
        intro e ce fe
        rw [nI_1]
        exact ij e ce (FI_tr fc fe)
  · intro s hs ih d hd fc
    have c1 := hd.1
    refine r_217_6 ?_
    simp (disch := omega) only [true_imp_iff, false_imp_iff, not_true_eq_false, not_false_eq_true, and_true, true_and, Int32.reduceToInt, Int64.reduceToInt, Int32.reduceAdd, fa_lt, fa_le, fa_eq, cmi_lt, cmi_le, cmi_gt, cmi_ge, cmi_eq, fa_lt64, fa_le64, fa_eq64, Int32.toInt_toInt64, nI_toInt, ti_m1, sub1_ti, inB_iff, nI_clamp, Int32.add_zero, nI_1, nI_add, nI_p2, nI_p3, nI_p4, nI_p5, nI_p6, nI_p8, nI_p9, nI_p10, nI_m3, nI_m4, nI_m5, nI_m6, nI_m8, nI_m10, nI_m31, nI_m48, nI_m60, nI_m256, nI_t5, nI_t6, nI_a1, nI_a48, nI_a96, nI_d5, nI_d6, nI_d8, nI_d10, nI_d20, nI_s1, nI_s48, pk_sub, c1]
    repeat (first | (with_reducible refine pk1 ?_ ?_; omega) | (with_reducible refine pk2 ?_ ?_; omega) | (with_reducible refine bd1 ?_ ?_; omega))
    refine c_184 hw hd hm hs ?_
    intro e ce fe
    exact ih e ce (FI_tr fc fe)
theorem k_218 {K : Int64 → tDi → tDl → Prop} (hx : Itx di) (hs : Ise di) (hn : Ini di) (hl : Ila di) (hw : Wt t) (hc : Cs t di) (hy : Yb y) (hi : Yr y di) (kk : ∀ d, FM di d → K (digV t y (fun k => a_co di (nI k)) (ftV di)) d dl) : ClJ 8 218 [.ref 176] di dl K := by
  have w1 := hw.1.1
  have w2 := hw.1.2.1
  have w3 := hw.1.2.2.1
  refine r_218 ?_
  refine up_to (n := 8) (G := fun k => ∀ d, FM di d → (0 < k → Rs t d) → Wq none 8 218 6 [(0, .ref 176), (1, .long (hCo (fun k => a_co di (nI k)) 17 k)), (3, .int (nI k))] [] d dl (RJ K)) ?_ ?_ (Nat.zero_le _) di FM_rf (fun z => absurd z (by omega))
  · intro d fm hr0
    refine r_218_6 (pk1 (by decide) ?_)
    have R0 : Rx t y d := ⟨hr0 (by omega), Itx_FM fm hx, Ise_FM fm hs, Cs_FM fm hc, Yr_FM fm hi⟩
    refine up_to (n := 3) (G := fun i => ∀ d, FM di d → Rx t y d → Wq none 8 218 33 [(0, .ref 176), (1, .long (hCo (ftV di) (hCo (fun k => a_co di (nI k)) 17 8) i)), (3, .int (nI i))] [] d dl (RJ K)) ?_ ?_ (Nat.zero_le _) d fm R0
    · intro d fm R
      refine r_218_33 (pk1 (by decide) ?_)
      refine up_to (n := nS t) (G := fun s => ∀ d, FM di d → Rx t y d → Wq none 8 218 59 [(0, .ref 176), (1, .long (hSt t y (hCo (ftV di) (hCo (fun k => a_co di (nI k)) 17 8) 3) s)), (3, .int (nI s))] [] d dl (RJ K)) ?_ ?_ (Nat.zero_le _) d fm R
      · intro d fm R
        have c1 := R.1.1
        refine r_218_59 ?_
        simp (disch := omega) only [true_imp_iff, false_imp_iff, not_true_eq_false, not_false_eq_true, and_true, true_and, Int32.reduceToInt, Int64.reduceToInt, Int32.reduceAdd, fa_lt, fa_le, fa_eq, cmi_lt, cmi_le, cmi_gt, cmi_ge, cmi_eq, fa_lt64, fa_le64, fa_eq64, Int32.toInt_toInt64, nI_toInt, ti_m1, sub1_ti, inB_iff, nI_clamp, Int32.add_zero, nI_1, nI_add, nI_p2, nI_p3, nI_p4, nI_p5, nI_p6, nI_p8, nI_p9, nI_p10, nI_m3, nI_m4, nI_m5, nI_m6, nI_m8, nI_m10, nI_m31, nI_m48, nI_m60, nI_m256, nI_t5, nI_t6, nI_a1, nI_a48, nI_a96, nI_d5, nI_d6, nI_d8, nI_d10, nI_d20, nI_s1, nI_s48, pk_sub, c1]
        repeat (first | (with_reducible refine pk1 ?_ ?_; omega) | (with_reducible refine pk2 ?_ ?_; omega) | (with_reducible refine bd1 ?_ ?_; omega))
        refine up_to (n := nC t) (G := fun c => ∀ d, FM di d → Rx t y d → Wq none 8 218 137 [(0, .ref 176), (1, .long (hCl t (hSt t y (hCo (ftV di) (hCo (fun k => a_co di (nI k)) 17 8) 3) (nS t)) c)), (3, .int (nI c))] [] d dl (RJ K)) ?_ ?_ (Nat.zero_le _) d fm R
        · intro d fm R
          have c2 := R.1.2.1
          refine r_218_137 ?_
          rw [c2]
          refine pk1 ⟨Int32.le_refl _, fun z => absurd (Int32.le_refl _) (Int32.not_le.mpr z)⟩ ?_
          refine c_217 (m := 0) hw R.1 _ (Nat.zero_le _) ?_
          intro d1 r1 f1
          rw [r1.2.2.1]
          refine c_217 hw r1 _ (Nat.le_refl _) ?_
          intro d2 r2 f2
          refine c_189 (j := 0) hw r2 (by omega) ?_
          intro d3 r3 f3
          refine c_189 (j := 1) hw r3 (by omega) ?_
          intro d4 r4 f4
          have F4 := FM_tr fm (FM_I (FI_tr (FI_tr (FI_tr f1 f2) f3) f4))
          refine k_197 (Itx_FM F4 hx) (Ise_FM F4 hs) hw (Cs_FM F4 hc) 0 20 (-1) ?_
          intro d5 r5 f5
          have F5 := FM_tr F4 f5
          refine k_197 (Itx_FM F5 hx) (Ise_FM F5 hs) hw (Cs_FM F5 hc) 0 20 0 ?_
          intro d6 r6 f6
          have F6 := FM_tr F5 f6
          refine c_206 (j := 0) hw r6 hy (Yr_FM F6 hi) (by omega) ?_
          intro d7 r7 f7
          have F7 := FM_tr F6 (FM_I f7)
          refine c_206 (j := 1) hw r7 hy (Yr_FM F7 hi) (by omega) ?_
          intro d8 r8 f8
          have F8 := FM_tr F7 (FM_I f8)
          refine c_213 (n := 9) hw r8 7 (by omega) (Or.inl rfl) ?_
          intro d9 r9 f9
          exact kk d9 (FM_tr F8 (FM_I f9))
        · intro c hcl ih d fm R
          have c2 := R.1.2.1
          refine r_218_137 ?_
          rw [c2]
          refine pk2 ⟨fun z => absurd (nI_lt hcl (by omega)) (Int32.not_lt.mpr z), nI_lt hcl (by omega)⟩ ?_
          refine up_to (n := 4) (G := fun j => Wq none 8 218 150 [(0, .ref 176), (1, .long (hCo (fun j => nI (cv t c j)) (hCl t (hSt t y (hCo (ftV di) (hCo (fun k => a_co di (nI k)) 17 8) 3) (nS t)) c) j)), (3, .int (nI c)), (4, .int (nI j))] [] d dl (RJ K)) ?_ ?_ (Nat.zero_le _)
          · refine r_218_150 (pk1 (by decide) ?_)
            rw [R.1.2.2.1]
            refine k_212 R.2.1 R.2.2.1 hw R.2.2.2.1 5 (nI c) (nI (nM t)) 0 ?_
            intro d1 r1 f1
            have F1 := FM_m f1
            rw [r1.2.2.1]
            refine k_212 (Itx_FM F1 R.2.1) (Ise_FM F1 R.2.2.1) hw (Cs_FM F1 R.2.2.2.1) 5 (nI c) (nI (nM t)) 1 ?_
            intro d2 r2 f2
            refine c_213 (n := 9) hw r2 7 (by omega) (Or.inr ⟨c, hcl, rfl⟩) ?_
            intro d3 r3 f3
            have F3 := FM_tr (FM_tr F1 (FM_m f2)) (FM_I f3)
            rw [nI_1]
            exact ih d3 (FM_tr fm F3) (Rx_FM F3 r3 R)
          · intro j hj ij
            have r7 := R.1.2.2.2.2.2.2.1 c hcl j hj
            refine r_218_150 (pk2 ⟨fun z => absurd (nI_lt (b := 4) hj (by decide)) (Int32.not_lt.mpr z), nI_lt (b := 4) hj (by decide)⟩ ?_)
            rw [nI_m4, nI_add, nI_clamp (by omega), r7, nI_1]
            exact ⟨inB_n (by omega) (by decide), ij⟩
      · intro s hst ih d fm R
        have c1 := R.1.1
        refine r_218_59 ?_
        simp (disch := omega) only [true_imp_iff, false_imp_iff, not_true_eq_false, not_false_eq_true, and_true, true_and, Int32.reduceToInt, Int64.reduceToInt, Int32.reduceAdd, fa_lt, fa_le, fa_eq, cmi_lt, cmi_le, cmi_gt, cmi_ge, cmi_eq, fa_lt64, fa_le64, fa_eq64, Int32.toInt_toInt64, nI_toInt, ti_m1, sub1_ti, inB_iff, nI_clamp, Int32.add_zero, nI_1, nI_add, nI_p2, nI_p3, nI_p4, nI_p5, nI_p6, nI_p8, nI_p9, nI_p10, nI_m3, nI_m4, nI_m5, nI_m6, nI_m8, nI_m10, nI_m31, nI_m48, nI_m60, nI_m256, nI_t5, nI_t6, nI_a1, nI_a48, nI_a96, nI_d5, nI_d6, nI_d8, nI_d10, nI_d20, nI_s1, nI_s48, pk_sub, c1]
        repeat (first | (with_reducible refine pk1 ?_ ?_; omega) | (with_reducible refine pk2 ?_ ?_; omega) | (with_reducible refine bd1 ?_ ?_; omega))
        refine up_to (n := 4) (G := fun j => Wq none 8 218 72 [(0, .ref 176), (1, .long (hCo (fun j => nI (sv t s j)) (hSt t y (hCo (ftV di) (hCo (fun k => a_co di (nI k)) 17 8) 3) s) j)), (3, .int (nI s)), (4, .int (nI j))] [] d dl (RJ K)) ?_ ?_ (Nat.zero_le _)
        · refine r_218_72 (pk1 (by decide) ?_)
          refine c_191 hw R.1 hst ?_
          intro d1 r1 f1
          refine c_209 hw r1 hy (Yr_FI f1 R.2.2.2.2) hst ?_
          intro d2 r2 f2
          have F2 := FM_I (FI_tr f1 f2)
          rw [nI_1]
          exact ih d2 (FM_tr fm F2) (Rx_FM F2 r2 R)
        · intro j hj ij
          have r6 := R.1.2.2.2.2.2.1 s hst j hj
          refine r_218_72 (pk2 ⟨fun z => absurd (nI_lt (b := 4) hj (by decide)) (Int32.not_lt.mpr z), nI_lt (b := 4) hj (by decide)⟩ ?_)
          rw [nI_m4, nI_add, nI_clamp (by omega), r6, nI_1]
          exact ⟨inB_n (by omega) (by decide), ij⟩
    · intro i hi3 ii d fm R
      refine r_218_33 (pk2 ⟨fun z => absurd (nI_lt (b := 3) hi3 (by decide)) (Int32.not_lt.mpr z), nI_lt (b := 3) hi3 (by decide)⟩ ?_)
      refine k_162 hw R hi3 ?_
      intro e re fe
      rw [ftV_FM fm, nI_1]
      exact ii e (FM_tr fm fe) (Rx_FM fe re R)
  · intro k hk ik d fm hr0
    refine r_218_6 (pk2 ⟨fun z => absurd (nI_lt (b := 8) hk (by decide)) (Int32.not_lt.mpr z), nI_lt (b := 8) hk (by decide)⟩ ?_)
    refine k_216 (Itx_FM fm hx) (Ise_FM fm hs) hw (Cs_FM fm hc) (Ini_FM fm hn) (Ila_FM fm hl) (nI k) ?_
    intro e re fe
    rw [a_co_FM fm, nI_1]
    exact ik e (FM_tr fm (FM_m fe)) (fun _ => re)
end DIGR
