/-! regions, written by program (gen23.py) -/
theorem r_53t1 {a1 : Int32} {di : tDi} {dl : tDl} {K : Int32 → tDi → tDl → Prop} (H : ((a1 < 0 → (K 0 di dl)) ∧ (0 ≤ a1 → (((di 1 4) ≤ a1 → (K 0 di dl)) ∧ (a1 < (di 1 4) → (K 1 di dl)))))) : ClI 0 53 [.ref 1, .int a1] di dl K := by
  refine Cl_of C_53 Z_53 [(0, .ref 1), (1, .int a1)] rfl ?_
  refine q0 I_53_0 (wi_iload_n _ rfl ?_)
  refine q0 I_53_1 (wi_if_lt (fun h => ?_) (fun h => ?_))
  · replace H := H.1 h
    refine q1 (ls' := []) I_53_16 rfl (wi_iconst 0 rfl ?_)
    exact q1 (ls' := []) I_53_17 rfl (wi_zret T_53 (Or.inl C_53) (Or.inl rfl) ⟨_, rfl, H⟩)
  · replace H := H.2 h
    refine q1 (ls' := [(0, .ref 1), (1, .int a1)]) I_53_4 rfl (wi_iload_n _ rfl ?_)
    refine q0 I_53_5 (wi_aload_n _ rfl ?_)
    refine q0 I_53_6 (wi_getI S_1 rfl (by decide) rfl ?_)
    refine q0 I_53_9 (wi_ic_ge (fun h => ?_) (fun h => ?_))
    · replace H := H.1 h
      refine q1 (ls' := []) I_53_16 rfl (wi_iconst 0 rfl ?_)
      exact q1 (ls' := []) I_53_17 rfl (wi_zret T_53 (Or.inl C_53) (Or.inl rfl) ⟨_, rfl, H⟩)
    · replace H := H.2 h
      refine q1 (ls' := []) I_53_12 rfl (wi_iconst 1 rfl ?_)
      refine q0 I_53_13 (wi_goto ?_)
      exact q1 (ls' := []) I_53_17 rfl (wi_zret T_53 (Or.inl C_53) (Or.inr rfl) ⟨_, rfl, H⟩)
theorem r_53t3 {a1 : Int32} {di : tDi} {dl : tDl} {K : Int32 → tDi → tDl → Prop} (H : ((a1 < 0 → (K 0 di dl)) ∧ (0 ≤ a1 → (((di 3 4) ≤ a1 → (K 0 di dl)) ∧ (a1 < (di 3 4) → (K 1 di dl)))))) : ClI 0 53 [.ref 3, .int a1] di dl K := by
  refine Cl_of C_53 Z_53 [(0, .ref 3), (1, .int a1)] rfl ?_
  refine q0 I_53_0 (wi_iload_n _ rfl ?_)
  refine q0 I_53_1 (wi_if_lt (fun h => ?_) (fun h => ?_))
  · replace H := H.1 h
    refine q1 (ls' := []) I_53_16 rfl (wi_iconst 0 rfl ?_)
    exact q1 (ls' := []) I_53_17 rfl (wi_zret T_53 (Or.inl C_53) (Or.inl rfl) ⟨_, rfl, H⟩)
  · replace H := H.2 h
    refine q1 (ls' := [(0, .ref 3), (1, .int a1)]) I_53_4 rfl (wi_iload_n _ rfl ?_)
    refine q0 I_53_5 (wi_aload_n _ rfl ?_)
    refine q0 I_53_6 (wi_getI S_3 rfl (by decide) rfl ?_)
    refine q0 I_53_9 (wi_ic_ge (fun h => ?_) (fun h => ?_))
    · replace H := H.1 h
      refine q1 (ls' := []) I_53_16 rfl (wi_iconst 0 rfl ?_)
      exact q1 (ls' := []) I_53_17 rfl (wi_zret T_53 (Or.inl C_53) (Or.inl rfl) ⟨_, rfl, H⟩)
    · replace H := H.2 h
      refine q1 (ls' := []) I_53_12 rfl (wi_iconst 1 rfl ?_)
      refine q0 I_53_13 (wi_goto ?_)
      exact q1 (ls' := []) I_53_17 rfl (wi_zret T_53 (Or.inl C_53) (Or.inr rfl) ⟨_, rfl, H⟩)
theorem r_53t5 {a1 : Int32} {di : tDi} {dl : tDl} {K : Int32 → tDi → tDl → Prop} (H : ((a1 < 0 → (K 0 di dl)) ∧ (0 ≤ a1 → (((di 5 4) ≤ a1 → (K 0 di dl)) ∧ (a1 < (di 5 4) → (K 1 di dl)))))) : ClI 0 53 [.ref 5, .int a1] di dl K := by
  refine Cl_of C_53 Z_53 [(0, .ref 5), (1, .int a1)] rfl ?_
  refine q0 I_53_0 (wi_iload_n _ rfl ?_)
  refine q0 I_53_1 (wi_if_lt (fun h => ?_) (fun h => ?_))
  · replace H := H.1 h
    refine q1 (ls' := []) I_53_16 rfl (wi_iconst 0 rfl ?_)
    exact q1 (ls' := []) I_53_17 rfl (wi_zret T_53 (Or.inl C_53) (Or.inl rfl) ⟨_, rfl, H⟩)
  · replace H := H.2 h
    refine q1 (ls' := [(0, .ref 5), (1, .int a1)]) I_53_4 rfl (wi_iload_n _ rfl ?_)
    refine q0 I_53_5 (wi_aload_n _ rfl ?_)
    refine q0 I_53_6 (wi_getI S_5 rfl (by decide) rfl ?_)
    refine q0 I_53_9 (wi_ic_ge (fun h => ?_) (fun h => ?_))
    · replace H := H.1 h
      refine q1 (ls' := []) I_53_16 rfl (wi_iconst 0 rfl ?_)
      exact q1 (ls' := []) I_53_17 rfl (wi_zret T_53 (Or.inl C_53) (Or.inl rfl) ⟨_, rfl, H⟩)
    · replace H := H.2 h
      refine q1 (ls' := []) I_53_12 rfl (wi_iconst 1 rfl ?_)
      refine q0 I_53_13 (wi_goto ?_)
      exact q1 (ls' := []) I_53_17 rfl (wi_zret T_53 (Or.inl C_53) (Or.inr rfl) ⟨_, rfl, H⟩)
theorem r_54t1 {a1 : Int32} {di : tDi} {dl : tDl} {K : tDi → tDl → Prop} (H : ((47 ≤ (di 1 2) → (ClV 3 58 [.ref 1] di dl (fun di1 dl1 => (K di1 dl1)))) ∧ ((di 1 2) < 47 → (inB (di 1 2) 47 = true ∧ (ClV 3 58 [.ref 1] (up2 (up2 di 2 ((di 1 2).toNatClampNeg) a1) 1 2 ((di 1 2) + 1)) dl (fun di3 dl3 => (K di3 dl3))))))) : ClV 4 54 [.ref 1, .int a1] di dl K := by
  refine Cl_of C_54 Z_54 [(0, .ref 1), (1, .int a1)] rfl ?_
  refine q0 I_54_0 (wi_aload_n _ rfl ?_)
  refine q0 I_54_1 (wi_getI S_1 rfl (by decide) rfl ?_)
  refine q0 I_54_4 (wi_aload_n _ rfl ?_)
  refine q0 I_54_5 (wi_get (.ref 2) S_1 rfl (by decide) rfl ?_)
  refine q0 I_54_8 (wi_alen 47 S_2 (by decide) rfl ?_)
  refine q0 I_54_9 (wi_ic_ge (fun h => ?_) (fun h => ?_))
  · replace H := H.1 h
    refine q1 (ls' := [(0, .ref 1)]) I_54_32 rfl (wi_aload_n _ rfl ?_)
    refine q0 I_54_33 (wi_virtV (e := 3) [] [] S_1 rfl (by decide) rfl rfl rfl (okC_i rfl rfl rfl) C_58 (by decide) (ClV_mono H ?_))
    intro di1 dl1 H
    exact q0 I_54_36 (wi_ret T_54 C_54 ⟨rfl, H⟩)
  · replace H := H.2 h
    refine q1 (ls' := [(0, .ref 1), (1, .int a1)]) I_54_12 rfl (wi_aload_n _ rfl ?_)
    refine q0 I_54_13 (wi_get (.ref 2) S_1 rfl (by decide) rfl ?_)
    refine q0 I_54_16 (wi_aload_n _ rfl ?_)
    refine q0 I_54_17 (wi_getI S_1 rfl (by decide) rfl ?_)
    refine q0 I_54_20 (wi_iload_n _ rfl ?_)
    have hb2 := H.1
    replace H := H.2
    refine q0 I_54_21 (wi_iastore ((di 1 2).toNatClampNeg) S_2 hb2 rfl ?_)
    refine q0 I_54_22 (wi_aload_n _ rfl ?_)
    refine q0 I_54_23 (wi_dup rfl ?_)
    refine q0 I_54_24 (wi_get (.int (di 1 2)) S_1 rfl (by decide) rfl ?_)
    refine q0 I_54_27 (wi_iconst 1 rfl ?_)
    refine q0 I_54_28 (wi_iadd ?_)
    refine q0 I_54_29 (wi_putI S_1 rfl (by decide) rfl rfl rfl ?_)
    refine q1 (ls' := [(0, .ref 1)]) I_54_32 rfl (wi_aload_n _ rfl ?_)
    refine q0 I_54_33 (wi_virtV (e := 3) [] [] S_1 rfl (by decide) rfl rfl rfl (okC_i rfl rfl rfl) C_58 (by decide) (ClV_mono H ?_))
    intro di3 dl3 H
    exact q0 I_54_36 (wi_ret T_54 C_54 ⟨rfl, H⟩)
theorem r_54t3 {a1 : Int32} {di : tDi} {dl : tDl} {K : tDi → tDl → Prop} (H : ((47 ≤ (di 3 2) → (ClV 3 58 [.ref 3] di dl (fun di1 dl1 => (K di1 dl1)))) ∧ ((di 3 2) < 47 → (inB (di 3 2) 47 = true ∧ (ClV 3 58 [.ref 3] (up2 (up2 di 4 ((di 3 2).toNatClampNeg) a1) 3 2 ((di 3 2) + 1)) dl (fun di3 dl3 => (K di3 dl3))))))) : ClV 4 54 [.ref 3, .int a1] di dl K := by
  refine Cl_of C_54 Z_54 [(0, .ref 3), (1, .int a1)] rfl ?_
  refine q0 I_54_0 (wi_aload_n _ rfl ?_)
  refine q0 I_54_1 (wi_getI S_3 rfl (by decide) rfl ?_)
  refine q0 I_54_4 (wi_aload_n _ rfl ?_)
  refine q0 I_54_5 (wi_get (.ref 4) S_3 rfl (by decide) rfl ?_)
  refine q0 I_54_8 (wi_alen 47 S_4 (by decide) rfl ?_)
  refine q0 I_54_9 (wi_ic_ge (fun h => ?_) (fun h => ?_))
  · replace H := H.1 h
    refine q1 (ls' := [(0, .ref 3)]) I_54_32 rfl (wi_aload_n _ rfl ?_)
    refine q0 I_54_33 (wi_virtV (e := 3) [] [] S_3 rfl (by decide) rfl rfl rfl (okC_i rfl rfl rfl) C_58 (by decide) (ClV_mono H ?_))
    intro di1 dl1 H
    exact q0 I_54_36 (wi_ret T_54 C_54 ⟨rfl, H⟩)
  · replace H := H.2 h
    refine q1 (ls' := [(0, .ref 3), (1, .int a1)]) I_54_12 rfl (wi_aload_n _ rfl ?_)
    refine q0 I_54_13 (wi_get (.ref 4) S_3 rfl (by decide) rfl ?_)
    refine q0 I_54_16 (wi_aload_n _ rfl ?_)
    refine q0 I_54_17 (wi_getI S_3 rfl (by decide) rfl ?_)
    refine q0 I_54_20 (wi_iload_n _ rfl ?_)
    have hb2 := H.1
    replace H := H.2
    refine q0 I_54_21 (wi_iastore ((di 3 2).toNatClampNeg) S_4 hb2 rfl ?_)
    refine q0 I_54_22 (wi_aload_n _ rfl ?_)
    refine q0 I_54_23 (wi_dup rfl ?_)
    refine q0 I_54_24 (wi_get (.int (di 3 2)) S_3 rfl (by decide) rfl ?_)
    refine q0 I_54_27 (wi_iconst 1 rfl ?_)
    refine q0 I_54_28 (wi_iadd ?_)
    refine q0 I_54_29 (wi_putI S_3 rfl (by decide) rfl rfl rfl ?_)
    refine q1 (ls' := [(0, .ref 3)]) I_54_32 rfl (wi_aload_n _ rfl ?_)
    refine q0 I_54_33 (wi_virtV (e := 3) [] [] S_3 rfl (by decide) rfl rfl rfl (okC_i rfl rfl rfl) C_58 (by decide) (ClV_mono H ?_))
    intro di3 dl3 H
    exact q0 I_54_36 (wi_ret T_54 C_54 ⟨rfl, H⟩)
theorem r_54t5 {a1 : Int32} {di : tDi} {dl : tDl} {K : tDi → tDl → Prop} (H : ((47 ≤ (di 5 2) → (ClV 3 58 [.ref 5] di dl (fun di1 dl1 => (K di1 dl1)))) ∧ ((di 5 2) < 47 → (inB (di 5 2) 47 = true ∧ (ClV 3 58 [.ref 5] (up2 (up2 di 6 ((di 5 2).toNatClampNeg) a1) 5 2 ((di 5 2) + 1)) dl (fun di3 dl3 => (K di3 dl3))))))) : ClV 4 54 [.ref 5, .int a1] di dl K := by
  refine Cl_of C_54 Z_54 [(0, .ref 5), (1, .int a1)] rfl ?_
  refine q0 I_54_0 (wi_aload_n _ rfl ?_)
  refine q0 I_54_1 (wi_getI S_5 rfl (by decide) rfl ?_)
  refine q0 I_54_4 (wi_aload_n _ rfl ?_)
  refine q0 I_54_5 (wi_get (.ref 6) S_5 rfl (by decide) rfl ?_)
  refine q0 I_54_8 (wi_alen 47 S_6 (by decide) rfl ?_)
  refine q0 I_54_9 (wi_ic_ge (fun h => ?_) (fun h => ?_))
  · replace H := H.1 h
    refine q1 (ls' := [(0, .ref 5)]) I_54_32 rfl (wi_aload_n _ rfl ?_)
    refine q0 I_54_33 (wi_virtV (e := 3) [] [] S_5 rfl (by decide) rfl rfl rfl (okC_i rfl rfl rfl) C_58 (by decide) (ClV_mono H ?_))
    intro di1 dl1 H
    exact q0 I_54_36 (wi_ret T_54 C_54 ⟨rfl, H⟩)
  · replace H := H.2 h
    refine q1 (ls' := [(0, .ref 5), (1, .int a1)]) I_54_12 rfl (wi_aload_n _ rfl ?_)
    refine q0 I_54_13 (wi_get (.ref 6) S_5 rfl (by decide) rfl ?_)
    refine q0 I_54_16 (wi_aload_n _ rfl ?_)
    refine q0 I_54_17 (wi_getI S_5 rfl (by decide) rfl ?_)
    refine q0 I_54_20 (wi_iload_n _ rfl ?_)
    have hb2 := H.1
    replace H := H.2
    refine q0 I_54_21 (wi_iastore ((di 5 2).toNatClampNeg) S_6 hb2 rfl ?_)
    refine q0 I_54_22 (wi_aload_n _ rfl ?_)
    refine q0 I_54_23 (wi_dup rfl ?_)
    refine q0 I_54_24 (wi_get (.int (di 5 2)) S_5 rfl (by decide) rfl ?_)
    refine q0 I_54_27 (wi_iconst 1 rfl ?_)
    refine q0 I_54_28 (wi_iadd ?_)
    refine q0 I_54_29 (wi_putI S_5 rfl (by decide) rfl rfl rfl ?_)
    refine q1 (ls' := [(0, .ref 5)]) I_54_32 rfl (wi_aload_n _ rfl ?_)
    refine q0 I_54_33 (wi_virtV (e := 3) [] [] S_5 rfl (by decide) rfl rfl rfl (okC_i rfl rfl rfl) C_58 (by decide) (ClV_mono H ?_))
    intro di3 dl3 H
    exact q0 I_54_36 (wi_ret T_54 C_54 ⟨rfl, H⟩)
theorem r_55t1 {a1 : Int32} {di : tDi} {dl : tDl} {K : tDi → tDl → Prop} (H : (ClV 3 58 [.ref 1] (up2 di 1 2 (imax 0 (imin a1 (di 1 2)))) dl (fun di1 dl1 => (K di1 dl1)))) : ClV 4 55 [.ref 1, .int a1] di dl K := by
  refine Cl_of C_55 Z_55 [(0, .ref 1), (1, .int a1)] rfl ?_
  refine q0 I_55_0 (wi_aload_n _ rfl ?_)
  refine q0 I_55_1 (wi_iconst 0 rfl ?_)
  refine q0 I_55_2 (wi_iload_n _ rfl ?_)
  refine q0 I_55_3 (wi_aload_n _ rfl ?_)
  refine q0 I_55_4 (wi_getI S_1 rfl (by decide) rfl ?_)
  refine q0 I_55_7 (wi_min rfl (Nat.le_of_ble_eq_true rfl) ?_)
  refine q0 I_55_10 (wi_max rfl (Nat.le_of_ble_eq_true rfl) ?_)
  refine q0 I_55_13 (wi_putI S_1 rfl (by decide) rfl rfl rfl ?_)
  refine q0 I_55_16 (wi_aload_n _ rfl ?_)
  refine q0 I_55_17 (wi_virtV (e := 3) [] [] S_1 rfl (by decide) rfl rfl rfl (okC_i rfl rfl rfl) C_58 (by decide) (ClV_mono H ?_))
  intro di1 dl1 H
  exact q0 I_55_20 (wi_ret T_55 C_55 ⟨rfl, H⟩)
theorem r_55t3 {a1 : Int32} {di : tDi} {dl : tDl} {K : tDi → tDl → Prop} (H : (ClV 3 58 [.ref 3] (up2 di 3 2 (imax 0 (imin a1 (di 3 2)))) dl (fun di1 dl1 => (K di1 dl1)))) : ClV 4 55 [.ref 3, .int a1] di dl K := by
  refine Cl_of C_55 Z_55 [(0, .ref 3), (1, .int a1)] rfl ?_
  refine q0 I_55_0 (wi_aload_n _ rfl ?_)
  refine q0 I_55_1 (wi_iconst 0 rfl ?_)
  refine q0 I_55_2 (wi_iload_n _ rfl ?_)
  refine q0 I_55_3 (wi_aload_n _ rfl ?_)
  refine q0 I_55_4 (wi_getI S_3 rfl (by decide) rfl ?_)
  refine q0 I_55_7 (wi_min rfl (Nat.le_of_ble_eq_true rfl) ?_)
  refine q0 I_55_10 (wi_max rfl (Nat.le_of_ble_eq_true rfl) ?_)
  refine q0 I_55_13 (wi_putI S_3 rfl (by decide) rfl rfl rfl ?_)
  refine q0 I_55_16 (wi_aload_n _ rfl ?_)
  refine q0 I_55_17 (wi_virtV (e := 3) [] [] S_3 rfl (by decide) rfl rfl rfl (okC_i rfl rfl rfl) C_58 (by decide) (ClV_mono H ?_))
  intro di1 dl1 H
  exact q0 I_55_20 (wi_ret T_55 C_55 ⟨rfl, H⟩)
theorem r_55t5 {a1 : Int32} {di : tDi} {dl : tDl} {K : tDi → tDl → Prop} (H : (ClV 3 58 [.ref 5] (up2 di 5 2 (imax 0 (imin a1 (di 5 2)))) dl (fun di1 dl1 => (K di1 dl1)))) : ClV 4 55 [.ref 5, .int a1] di dl K := by
  refine Cl_of C_55 Z_55 [(0, .ref 5), (1, .int a1)] rfl ?_
  refine q0 I_55_0 (wi_aload_n _ rfl ?_)
  refine q0 I_55_1 (wi_iconst 0 rfl ?_)
  refine q0 I_55_2 (wi_iload_n _ rfl ?_)
  refine q0 I_55_3 (wi_aload_n _ rfl ?_)
  refine q0 I_55_4 (wi_getI S_5 rfl (by decide) rfl ?_)
  refine q0 I_55_7 (wi_min rfl (Nat.le_of_ble_eq_true rfl) ?_)
  refine q0 I_55_10 (wi_max rfl (Nat.le_of_ble_eq_true rfl) ?_)
  refine q0 I_55_13 (wi_putI S_5 rfl (by decide) rfl rfl rfl ?_)
  refine q0 I_55_16 (wi_aload_n _ rfl ?_)
  refine q0 I_55_17 (wi_virtV (e := 3) [] [] S_5 rfl (by decide) rfl rfl rfl (okC_i rfl rfl rfl) C_58 (by decide) (ClV_mono H ?_))
  intro di1 dl1 H
  exact q0 I_55_20 (wi_ret T_55 C_55 ⟨rfl, H⟩)
theorem r_56t1 {a1 : Int32} {di : tDi} {dl : tDl} {K : Int32 → tDi → tDl → Prop} (H : ((a1 < 0 → (K (-1) di dl)) ∧ (0 ≤ a1 → (((di 1 2) ≤ a1 → (K (-1) di dl)) ∧ (a1 < (di 1 2) → ((47 ≤ a1 → (K (-1) di dl)) ∧ (a1 < 47 → (inB a1 47 = true ∧ (K (di 2 (a1.toNatClampNeg)) di dl))))))))) : ClI 0 56 [.ref 1, .int a1] di dl K := by
  refine Cl_of C_56 Z_56 [(0, .ref 1), (1, .int a1)] rfl ?_
  refine q0 I_56_0 (wi_iload_n _ rfl ?_)
  refine q0 I_56_1 (wi_if_lt (fun h => ?_) (fun h => ?_))
  · replace H := H.1 h
    refine q1 (ls' := []) I_56_30 rfl (wi_iconst (-1) rfl ?_)
    exact q1 (ls' := []) I_56_31 rfl (wi_iret T_56 C_56 ⟨_, rfl, H⟩)
  · replace H := H.2 h
    refine q1 (ls' := [(0, .ref 1), (1, .int a1)]) I_56_4 rfl (wi_iload_n _ rfl ?_)
    refine q0 I_56_5 (wi_aload_n _ rfl ?_)
    refine q0 I_56_6 (wi_getI S_1 rfl (by decide) rfl ?_)
    refine q0 I_56_9 (wi_ic_ge (fun h => ?_) (fun h => ?_))
    · replace H := H.1 h
      refine q1 (ls' := []) I_56_30 rfl (wi_iconst (-1) rfl ?_)
      exact q1 (ls' := []) I_56_31 rfl (wi_iret T_56 C_56 ⟨_, rfl, H⟩)
    · replace H := H.2 h
      refine q1 (ls' := [(0, .ref 1), (1, .int a1)]) I_56_12 rfl (wi_iload_n _ rfl ?_)
      refine q0 I_56_13 (wi_aload_n _ rfl ?_)
      refine q0 I_56_14 (wi_get (.ref 2) S_1 rfl (by decide) rfl ?_)
      refine q0 I_56_17 (wi_alen 47 S_2 (by decide) rfl ?_)
      refine q0 I_56_18 (wi_ic_ge (fun h => ?_) (fun h => ?_))
      · replace H := H.1 h
        refine q1 (ls' := []) I_56_30 rfl (wi_iconst (-1) rfl ?_)
        exact q1 (ls' := []) I_56_31 rfl (wi_iret T_56 C_56 ⟨_, rfl, H⟩)
      · replace H := H.2 h
        refine q1 (ls' := [(0, .ref 1), (1, .int a1)]) I_56_21 rfl (wi_aload_n _ rfl ?_)
        refine q0 I_56_22 (wi_get (.ref 2) S_1 rfl (by decide) rfl ?_)
        refine q0 I_56_25 (wi_iload_n _ rfl ?_)
        have hb1 := H.1
        replace H := H.2
        refine q0 I_56_26 (wi_iaload (a1.toNatClampNeg) S_2 hb1 rfl ?_)
        refine q0 I_56_27 (wi_goto ?_)
        exact q1 (ls' := []) I_56_31 rfl (wi_iret T_56 C_56 ⟨_, rfl, H⟩)
theorem r_56t3 {a1 : Int32} {di : tDi} {dl : tDl} {K : Int32 → tDi → tDl → Prop} (H : ((a1 < 0 → (K (-1) di dl)) ∧ (0 ≤ a1 → (((di 3 2) ≤ a1 → (K (-1) di dl)) ∧ (a1 < (di 3 2) → ((47 ≤ a1 → (K (-1) di dl)) ∧ (a1 < 47 → (inB a1 47 = true ∧ (K (di 4 (a1.toNatClampNeg)) di dl))))))))) : ClI 0 56 [.ref 3, .int a1] di dl K := by
  refine Cl_of C_56 Z_56 [(0, .ref 3), (1, .int a1)] rfl ?_
  refine q0 I_56_0 (wi_iload_n _ rfl ?_)
  refine q0 I_56_1 (wi_if_lt (fun h => ?_) (fun h => ?_))
  · replace H := H.1 h
    refine q1 (ls' := []) I_56_30 rfl (wi_iconst (-1) rfl ?_)
    exact q1 (ls' := []) I_56_31 rfl (wi_iret T_56 C_56 ⟨_, rfl, H⟩)
  · replace H := H.2 h
    refine q1 (ls' := [(0, .ref 3), (1, .int a1)]) I_56_4 rfl (wi_iload_n _ rfl ?_)
    refine q0 I_56_5 (wi_aload_n _ rfl ?_)
    refine q0 I_56_6 (wi_getI S_3 rfl (by decide) rfl ?_)
    refine q0 I_56_9 (wi_ic_ge (fun h => ?_) (fun h => ?_))
    · replace H := H.1 h
      refine q1 (ls' := []) I_56_30 rfl (wi_iconst (-1) rfl ?_)
      exact q1 (ls' := []) I_56_31 rfl (wi_iret T_56 C_56 ⟨_, rfl, H⟩)
    · replace H := H.2 h
      refine q1 (ls' := [(0, .ref 3), (1, .int a1)]) I_56_12 rfl (wi_iload_n _ rfl ?_)
      refine q0 I_56_13 (wi_aload_n _ rfl ?_)
      refine q0 I_56_14 (wi_get (.ref 4) S_3 rfl (by decide) rfl ?_)
      refine q0 I_56_17 (wi_alen 47 S_4 (by decide) rfl ?_)
      refine q0 I_56_18 (wi_ic_ge (fun h => ?_) (fun h => ?_))
      · replace H := H.1 h
        refine q1 (ls' := []) I_56_30 rfl (wi_iconst (-1) rfl ?_)
        exact q1 (ls' := []) I_56_31 rfl (wi_iret T_56 C_56 ⟨_, rfl, H⟩)
      · replace H := H.2 h
        refine q1 (ls' := [(0, .ref 3), (1, .int a1)]) I_56_21 rfl (wi_aload_n _ rfl ?_)
        refine q0 I_56_22 (wi_get (.ref 4) S_3 rfl (by decide) rfl ?_)
        refine q0 I_56_25 (wi_iload_n _ rfl ?_)
        have hb1 := H.1
        replace H := H.2
        refine q0 I_56_26 (wi_iaload (a1.toNatClampNeg) S_4 hb1 rfl ?_)
        refine q0 I_56_27 (wi_goto ?_)
        exact q1 (ls' := []) I_56_31 rfl (wi_iret T_56 C_56 ⟨_, rfl, H⟩)
theorem r_56t5 {a1 : Int32} {di : tDi} {dl : tDl} {K : Int32 → tDi → tDl → Prop} (H : ((a1 < 0 → (K (-1) di dl)) ∧ (0 ≤ a1 → (((di 5 2) ≤ a1 → (K (-1) di dl)) ∧ (a1 < (di 5 2) → ((47 ≤ a1 → (K (-1) di dl)) ∧ (a1 < 47 → (inB a1 47 = true ∧ (K (di 6 (a1.toNatClampNeg)) di dl))))))))) : ClI 0 56 [.ref 5, .int a1] di dl K := by
  refine Cl_of C_56 Z_56 [(0, .ref 5), (1, .int a1)] rfl ?_
  refine q0 I_56_0 (wi_iload_n _ rfl ?_)
  refine q0 I_56_1 (wi_if_lt (fun h => ?_) (fun h => ?_))
  · replace H := H.1 h
    refine q1 (ls' := []) I_56_30 rfl (wi_iconst (-1) rfl ?_)
    exact q1 (ls' := []) I_56_31 rfl (wi_iret T_56 C_56 ⟨_, rfl, H⟩)
  · replace H := H.2 h
    refine q1 (ls' := [(0, .ref 5), (1, .int a1)]) I_56_4 rfl (wi_iload_n _ rfl ?_)
    refine q0 I_56_5 (wi_aload_n _ rfl ?_)
    refine q0 I_56_6 (wi_getI S_5 rfl (by decide) rfl ?_)
    refine q0 I_56_9 (wi_ic_ge (fun h => ?_) (fun h => ?_))
    · replace H := H.1 h
      refine q1 (ls' := []) I_56_30 rfl (wi_iconst (-1) rfl ?_)
      exact q1 (ls' := []) I_56_31 rfl (wi_iret T_56 C_56 ⟨_, rfl, H⟩)
    · replace H := H.2 h
      refine q1 (ls' := [(0, .ref 5), (1, .int a1)]) I_56_12 rfl (wi_iload_n _ rfl ?_)
      refine q0 I_56_13 (wi_aload_n _ rfl ?_)
      refine q0 I_56_14 (wi_get (.ref 6) S_5 rfl (by decide) rfl ?_)
      refine q0 I_56_17 (wi_alen 47 S_6 (by decide) rfl ?_)
      refine q0 I_56_18 (wi_ic_ge (fun h => ?_) (fun h => ?_))
      · replace H := H.1 h
        refine q1 (ls' := []) I_56_30 rfl (wi_iconst (-1) rfl ?_)
        exact q1 (ls' := []) I_56_31 rfl (wi_iret T_56 C_56 ⟨_, rfl, H⟩)
      · replace H := H.2 h
        refine q1 (ls' := [(0, .ref 5), (1, .int a1)]) I_56_21 rfl (wi_aload_n _ rfl ?_)
        refine q0 I_56_22 (wi_get (.ref 6) S_5 rfl (by decide) rfl ?_)
        refine q0 I_56_25 (wi_iload_n _ rfl ?_)
        have hb1 := H.1
        replace H := H.2
        refine q0 I_56_26 (wi_iaload (a1.toNatClampNeg) S_6 hb1 rfl ?_)
        refine q0 I_56_27 (wi_goto ?_)
        exact q1 (ls' := []) I_56_31 rfl (wi_iret T_56 C_56 ⟨_, rfl, H⟩)
theorem r_57t1 {a1 : Int32} {di : tDi} {dl : tDl} {K : Int32 → tDi → tDl → Prop} (H : ((a1 < 0 → (K 0 di dl)) ∧ (0 ≤ a1 → (((di 1 2) ≤ a1 → (K 0 di dl)) ∧ (a1 < (di 1 2) → ((47 ≤ a1 → (K 0 di dl)) ∧ (a1 < 47 → (inB a1 47 = true ∧ (K ((di 2 (a1.toNatClampNeg)) - 48) di dl))))))))) : ClI 0 57 [.ref 1, .int a1] di dl K := by
  refine Cl_of C_57 Z_57 [(0, .ref 1), (1, .int a1)] rfl ?_
  refine q0 I_57_0 (wi_iload_n _ rfl ?_)
  refine q0 I_57_1 (wi_if_lt (fun h => ?_) (fun h => ?_))
  · replace H := H.1 h
    refine q1 (ls' := []) I_57_33 rfl (wi_iconst 0 rfl ?_)
    exact q1 (ls' := []) I_57_34 rfl (wi_iret T_57 C_57 ⟨_, rfl, H⟩)
  · replace H := H.2 h
    refine q1 (ls' := [(0, .ref 1), (1, .int a1)]) I_57_4 rfl (wi_iload_n _ rfl ?_)
    refine q0 I_57_5 (wi_aload_n _ rfl ?_)
    refine q0 I_57_6 (wi_getI S_1 rfl (by decide) rfl ?_)
    refine q0 I_57_9 (wi_ic_ge (fun h => ?_) (fun h => ?_))
    · replace H := H.1 h
      refine q1 (ls' := []) I_57_33 rfl (wi_iconst 0 rfl ?_)
      exact q1 (ls' := []) I_57_34 rfl (wi_iret T_57 C_57 ⟨_, rfl, H⟩)
    · replace H := H.2 h
      refine q1 (ls' := [(0, .ref 1), (1, .int a1)]) I_57_12 rfl (wi_iload_n _ rfl ?_)
      refine q0 I_57_13 (wi_aload_n _ rfl ?_)
      refine q0 I_57_14 (wi_get (.ref 2) S_1 rfl (by decide) rfl ?_)
      refine q0 I_57_17 (wi_alen 47 S_2 (by decide) rfl ?_)
      refine q0 I_57_18 (wi_ic_ge (fun h => ?_) (fun h => ?_))
      · replace H := H.1 h
        refine q1 (ls' := []) I_57_33 rfl (wi_iconst 0 rfl ?_)
        exact q1 (ls' := []) I_57_34 rfl (wi_iret T_57 C_57 ⟨_, rfl, H⟩)
      · replace H := H.2 h
        refine q1 (ls' := [(0, .ref 1), (1, .int a1)]) I_57_21 rfl (wi_aload_n _ rfl ?_)
        refine q0 I_57_22 (wi_get (.ref 2) S_1 rfl (by decide) rfl ?_)
        refine q0 I_57_25 (wi_iload_n _ rfl ?_)
        have hb1 := H.1
        replace H := H.2
        refine q0 I_57_26 (wi_iaload (a1.toNatClampNeg) S_2 hb1 rfl ?_)
        refine q0 I_57_27 (wi_bipush 48 rfl ?_)
        refine q0 I_57_29 (wi_isub ?_)
        refine q0 I_57_30 (wi_goto ?_)
        exact q1 (ls' := []) I_57_34 rfl (wi_iret T_57 C_57 ⟨_, rfl, H⟩)
theorem r_57t3 {a1 : Int32} {di : tDi} {dl : tDl} {K : Int32 → tDi → tDl → Prop} (H : ((a1 < 0 → (K 0 di dl)) ∧ (0 ≤ a1 → (((di 3 2) ≤ a1 → (K 0 di dl)) ∧ (a1 < (di 3 2) → ((47 ≤ a1 → (K 0 di dl)) ∧ (a1 < 47 → (inB a1 47 = true ∧ (K ((di 4 (a1.toNatClampNeg)) - 48) di dl))))))))) : ClI 0 57 [.ref 3, .int a1] di dl K := by
  refine Cl_of C_57 Z_57 [(0, .ref 3), (1, .int a1)] rfl ?_
  refine q0 I_57_0 (wi_iload_n _ rfl ?_)
  refine q0 I_57_1 (wi_if_lt (fun h => ?_) (fun h => ?_))
  · replace H := H.1 h
    refine q1 (ls' := []) I_57_33 rfl (wi_iconst 0 rfl ?_)
    exact q1 (ls' := []) I_57_34 rfl (wi_iret T_57 C_57 ⟨_, rfl, H⟩)
  · replace H := H.2 h
    refine q1 (ls' := [(0, .ref 3), (1, .int a1)]) I_57_4 rfl (wi_iload_n _ rfl ?_)
    refine q0 I_57_5 (wi_aload_n _ rfl ?_)
    refine q0 I_57_6 (wi_getI S_3 rfl (by decide) rfl ?_)
    refine q0 I_57_9 (wi_ic_ge (fun h => ?_) (fun h => ?_))
    · replace H := H.1 h
      refine q1 (ls' := []) I_57_33 rfl (wi_iconst 0 rfl ?_)
      exact q1 (ls' := []) I_57_34 rfl (wi_iret T_57 C_57 ⟨_, rfl, H⟩)
    · replace H := H.2 h
      refine q1 (ls' := [(0, .ref 3), (1, .int a1)]) I_57_12 rfl (wi_iload_n _ rfl ?_)
      refine q0 I_57_13 (wi_aload_n _ rfl ?_)
      refine q0 I_57_14 (wi_get (.ref 4) S_3 rfl (by decide) rfl ?_)
      refine q0 I_57_17 (wi_alen 47 S_4 (by decide) rfl ?_)
      refine q0 I_57_18 (wi_ic_ge (fun h => ?_) (fun h => ?_))
      · replace H := H.1 h
        refine q1 (ls' := []) I_57_33 rfl (wi_iconst 0 rfl ?_)
        exact q1 (ls' := []) I_57_34 rfl (wi_iret T_57 C_57 ⟨_, rfl, H⟩)
      · replace H := H.2 h
        refine q1 (ls' := [(0, .ref 3), (1, .int a1)]) I_57_21 rfl (wi_aload_n _ rfl ?_)
        refine q0 I_57_22 (wi_get (.ref 4) S_3 rfl (by decide) rfl ?_)
        refine q0 I_57_25 (wi_iload_n _ rfl ?_)
        have hb1 := H.1
        replace H := H.2
        refine q0 I_57_26 (wi_iaload (a1.toNatClampNeg) S_4 hb1 rfl ?_)
        refine q0 I_57_27 (wi_bipush 48 rfl ?_)
        refine q0 I_57_29 (wi_isub ?_)
        refine q0 I_57_30 (wi_goto ?_)
        exact q1 (ls' := []) I_57_34 rfl (wi_iret T_57 C_57 ⟨_, rfl, H⟩)
theorem r_57t5 {a1 : Int32} {di : tDi} {dl : tDl} {K : Int32 → tDi → tDl → Prop} (H : ((a1 < 0 → (K 0 di dl)) ∧ (0 ≤ a1 → (((di 5 2) ≤ a1 → (K 0 di dl)) ∧ (a1 < (di 5 2) → ((47 ≤ a1 → (K 0 di dl)) ∧ (a1 < 47 → (inB a1 47 = true ∧ (K ((di 6 (a1.toNatClampNeg)) - 48) di dl))))))))) : ClI 0 57 [.ref 5, .int a1] di dl K := by
  refine Cl_of C_57 Z_57 [(0, .ref 5), (1, .int a1)] rfl ?_
  refine q0 I_57_0 (wi_iload_n _ rfl ?_)
  refine q0 I_57_1 (wi_if_lt (fun h => ?_) (fun h => ?_))
  · replace H := H.1 h
    refine q1 (ls' := []) I_57_33 rfl (wi_iconst 0 rfl ?_)
    exact q1 (ls' := []) I_57_34 rfl (wi_iret T_57 C_57 ⟨_, rfl, H⟩)
  · replace H := H.2 h
    refine q1 (ls' := [(0, .ref 5), (1, .int a1)]) I_57_4 rfl (wi_iload_n _ rfl ?_)
    refine q0 I_57_5 (wi_aload_n _ rfl ?_)
    refine q0 I_57_6 (wi_getI S_5 rfl (by decide) rfl ?_)
    refine q0 I_57_9 (wi_ic_ge (fun h => ?_) (fun h => ?_))
    · replace H := H.1 h
      refine q1 (ls' := []) I_57_33 rfl (wi_iconst 0 rfl ?_)
      exact q1 (ls' := []) I_57_34 rfl (wi_iret T_57 C_57 ⟨_, rfl, H⟩)
    · replace H := H.2 h
      refine q1 (ls' := [(0, .ref 5), (1, .int a1)]) I_57_12 rfl (wi_iload_n _ rfl ?_)
      refine q0 I_57_13 (wi_aload_n _ rfl ?_)
      refine q0 I_57_14 (wi_get (.ref 6) S_5 rfl (by decide) rfl ?_)
      refine q0 I_57_17 (wi_alen 47 S_6 (by decide) rfl ?_)
      refine q0 I_57_18 (wi_ic_ge (fun h => ?_) (fun h => ?_))
      · replace H := H.1 h
        refine q1 (ls' := []) I_57_33 rfl (wi_iconst 0 rfl ?_)
        exact q1 (ls' := []) I_57_34 rfl (wi_iret T_57 C_57 ⟨_, rfl, H⟩)
      · replace H := H.2 h
        refine q1 (ls' := [(0, .ref 5), (1, .int a1)]) I_57_21 rfl (wi_aload_n _ rfl ?_)
        refine q0 I_57_22 (wi_get (.ref 6) S_5 rfl (by decide) rfl ?_)
        refine q0 I_57_25 (wi_iload_n _ rfl ?_)
        have hb1 := H.1
        replace H := H.2
        refine q0 I_57_26 (wi_iaload (a1.toNatClampNeg) S_6 hb1 rfl ?_)
        refine q0 I_57_27 (wi_bipush 48 rfl ?_)
        refine q0 I_57_29 (wi_isub ?_)
        refine q0 I_57_30 (wi_goto ?_)
        exact q1 (ls' := []) I_57_34 rfl (wi_iret T_57 C_57 ⟨_, rfl, H⟩)
theorem r_58t1  {di : tDi} {dl : tDl} {K : tDi → tDl → Prop} (H : (Wq none 3 58 7 [(0, .ref 1), (1, .int 0)] [] (up2 di 1 3 (-1)) dl (RV K))) : ClV 3 58 [.ref 1] di dl K := by
  refine Cl_of C_58 Z_58 [(0, .ref 1)] rfl ?_
  refine q0 I_58_0 (wi_aload_n _ rfl ?_)
  refine q0 I_58_1 (wi_iconst (-1) rfl ?_)
  refine q0 I_58_2 (wi_putI S_1 rfl (by decide) rfl rfl rfl ?_)
  refine q0 I_58_5 (wi_iconst 0 rfl ?_)
  refine q0 I_58_6 (wi_istore_n [(0, .ref 1), (1, .int 0)] (lt_e X_58 rfl) rfl ?_)
  exact Wq_c I_58_7 rfl rfl H
theorem r_58t1_7 {x1 : Int32} {di : tDi} {dl : tDl} {K : tDi → tDl → Prop} (H : (((di 1 2) ≤ x1 → (ClI 0 46 [.ref 1] di dl (fun r21 di21 dl21 => ((¬ (di21 1 3) = (-1) → ((¬ (di21 1 3) = (-1) → (K (up2 di21 1 4 0) dl21)) ∧ ((di21 1 3) = (-1) → (K (up2 di21 1 4 r21) dl21)))) ∧ ((di21 1 3) = (-1) → ((¬ r21 = (-1) → ((¬ (di21 1 3) = (-1) → (K (up2 di21 1 4 0) dl21)) ∧ ((di21 1 3) = (-1) → (K (up2 di21 1 4 r21) dl21)))) ∧ (r21 = (-1) → ((¬ (di21 1 2) = (-1) → (K (up2 (up2 di21 1 3 (di21 1 2)) 1 4 0) dl21)) ∧ ((di21 1 2) = (-1) → (K (up2 (up2 di21 1 3 (di21 1 2)) 1 4 r21) dl21)))))))))) ∧ (x1 < (di 1 2) → ((¬ (di 1 3) = (-1) → (ClI 0 46 [.ref 1] di dl (fun r22 di22 dl22 => ((¬ (di22 1 3) = (-1) → ((¬ (di22 1 3) = (-1) → (K (up2 di22 1 4 0) dl22)) ∧ ((di22 1 3) = (-1) → (K (up2 di22 1 4 r22) dl22)))) ∧ ((di22 1 3) = (-1) → ((¬ r22 = (-1) → ((¬ (di22 1 3) = (-1) → (K (up2 di22 1 4 0) dl22)) ∧ ((di22 1 3) = (-1) → (K (up2 di22 1 4 r22) dl22)))) ∧ (r22 = (-1) → ((¬ (di22 1 2) = (-1) → (K (up2 (up2 di22 1 3 (di22 1 2)) 1 4 0) dl22)) ∧ ((di22 1 2) = (-1) → (K (up2 (up2 di22 1 3 (di22 1 2)) 1 4 r22) dl22)))))))))) ∧ ((di 1 3) = (-1) → (ClI 1 45 [.ref 1, .int x1] di dl (fun r23 di23 dl23 => ((¬ r23 = 0 → (Wq none 3 58 7 [(0, .ref 1), (1, .int (x1 + 1))] [] di23 dl23 (RV K))) ∧ (r23 = 0 → (Wq none 3 58 7 [(0, .ref 1), (1, .int (x1 + 1))] [] (up2 di23 1 3 x1) dl23 (RV K))))))))))) : Wq none 3 58 7 [(0, .ref 1), (1, .int x1)] [] di dl (RV K) := by
  refine q1 (ls' := [(0, .ref 1), (1, .int x1)]) I_58_7 rfl (wi_iload_n _ rfl ?_)
  refine q0 I_58_8 (wi_aload_n _ rfl ?_)
  refine q0 I_58_9 (wi_getI S_1 rfl (by decide) rfl ?_)
  refine q0 I_58_12 (wi_ic_ge (fun h => ?_) (fun h => ?_))
  · replace H := H.1 h
    refine q1 (ls' := [(0, .ref 1)]) I_58_42 rfl (wi_aload_n _ rfl ?_)
    refine q0 I_58_43 (wi_virtI (e := 0) [] [] S_1 rfl (by decide) rfl rfl rfl (okC_i rfl rfl rfl) C_46 (by decide) (ClI_mono H ?_))
    intro r21 di21 dl21 H
    refine q0 I_58_46 (wi_istore_n [(0, .ref 1), (1, .int r21)] (lt_e X_58 rfl) rfl ?_)
    refine q0 I_58_47 (wi_aload_n _ rfl ?_)
    refine q0 I_58_48 (wi_getI S_1 rfl (by decide) rfl ?_)
    refine q0 I_58_51 (wi_iconst (-1) rfl ?_)
    refine q0 I_58_52 (wi_ic_ne (fun h => ?_) (fun h => ?_))
    · replace H := H.1 h
      refine q1 (ls' := [(0, .ref 1), (1, .int r21)]) I_58_68 rfl (wi_aload_n _ rfl ?_)
      refine q0 I_58_69 (wi_aload_n _ rfl ?_)
      refine q0 I_58_70 (wi_getI S_1 rfl (by decide) rfl ?_)
      refine q0 I_58_73 (wi_iconst (-1) rfl ?_)
      refine q0 I_58_74 (wi_ic_ne (fun h => ?_) (fun h => ?_))
      · replace H := H.1 h
        refine q1 (ls' := []) I_58_81 rfl (wi_iconst 0 rfl ?_)
        refine q1 (ls' := []) I_58_82 rfl (wi_putI S_1 rfl (by decide) rfl rfl rfl ?_)
        exact q0 I_58_85 (wi_ret T_58 C_58 ⟨rfl, H⟩)
      · replace H := H.2 h
        refine q1 (ls' := [(1, .int r21)]) I_58_77 rfl (wi_iload_n _ rfl ?_)
        refine q0 I_58_78 (wi_goto ?_)
        refine q1 (ls' := []) I_58_82 rfl (wi_putI S_1 rfl (by decide) rfl rfl rfl ?_)
        exact q0 I_58_85 (wi_ret T_58 C_58 ⟨rfl, H⟩)
    · replace H := H.2 h
      refine q1 (ls' := [(0, .ref 1), (1, .int r21)]) I_58_55 rfl (wi_iload_n _ rfl ?_)
      refine q0 I_58_56 (wi_iconst (-1) rfl ?_)
      refine q0 I_58_57 (wi_ic_ne (fun h => ?_) (fun h => ?_))
      · replace H := H.1 h
        refine q1 (ls' := [(0, .ref 1), (1, .int r21)]) I_58_68 rfl (wi_aload_n _ rfl ?_)
        refine q0 I_58_69 (wi_aload_n _ rfl ?_)
        refine q0 I_58_70 (wi_getI S_1 rfl (by decide) rfl ?_)
        refine q0 I_58_73 (wi_iconst (-1) rfl ?_)
        refine q0 I_58_74 (wi_ic_ne (fun h => ?_) (fun h => ?_))
        · replace H := H.1 h
          refine q1 (ls' := []) I_58_81 rfl (wi_iconst 0 rfl ?_)
          refine q1 (ls' := []) I_58_82 rfl (wi_putI S_1 rfl (by decide) rfl rfl rfl ?_)
          exact q0 I_58_85 (wi_ret T_58 C_58 ⟨rfl, H⟩)
        · replace H := H.2 h
          refine q1 (ls' := [(1, .int r21)]) I_58_77 rfl (wi_iload_n _ rfl ?_)
          refine q0 I_58_78 (wi_goto ?_)
          refine q1 (ls' := []) I_58_82 rfl (wi_putI S_1 rfl (by decide) rfl rfl rfl ?_)
          exact q0 I_58_85 (wi_ret T_58 C_58 ⟨rfl, H⟩)
      · replace H := H.2 h
        refine q1 (ls' := [(0, .ref 1), (1, .int r21)]) I_58_60 rfl (wi_aload_n _ rfl ?_)
        refine q0 I_58_61 (wi_aload_n _ rfl ?_)
        refine q0 I_58_62 (wi_getI S_1 rfl (by decide) rfl ?_)
        refine q0 I_58_65 (wi_putI S_1 rfl (by decide) rfl rfl rfl ?_)
        refine q1 (ls' := [(0, .ref 1), (1, .int r21)]) I_58_68 rfl (wi_aload_n _ rfl ?_)
        refine q0 I_58_69 (wi_aload_n _ rfl ?_)
        refine q0 I_58_70 (wi_get (.int (di21 1 2)) S_1 rfl (by decide) rfl ?_)
        refine q0 I_58_73 (wi_iconst (-1) rfl ?_)
        refine q0 I_58_74 (wi_ic_ne (fun h => ?_) (fun h => ?_))
        · replace H := H.1 h
          refine q1 (ls' := []) I_58_81 rfl (wi_iconst 0 rfl ?_)
          refine q1 (ls' := []) I_58_82 rfl (wi_putI S_1 rfl (by decide) rfl rfl rfl ?_)
          exact q0 I_58_85 (wi_ret T_58 C_58 ⟨rfl, H⟩)
        · replace H := H.2 h
          refine q1 (ls' := [(1, .int r21)]) I_58_77 rfl (wi_iload_n _ rfl ?_)
          refine q0 I_58_78 (wi_goto ?_)
          refine q1 (ls' := []) I_58_82 rfl (wi_putI S_1 rfl (by decide) rfl rfl rfl ?_)
          exact q0 I_58_85 (wi_ret T_58 C_58 ⟨rfl, H⟩)
  · replace H := H.2 h
    refine q1 (ls' := [(0, .ref 1), (1, .int x1)]) I_58_15 rfl (wi_aload_n _ rfl ?_)
    refine q0 I_58_16 (wi_getI S_1 rfl (by decide) rfl ?_)
    refine q0 I_58_19 (wi_iconst (-1) rfl ?_)
    refine q0 I_58_20 (wi_ic_ne (fun h => ?_) (fun h => ?_))
    · replace H := H.1 h
      refine q1 (ls' := [(0, .ref 1)]) I_58_42 rfl (wi_aload_n _ rfl ?_)
      refine q0 I_58_43 (wi_virtI (e := 0) [] [] S_1 rfl (by decide) rfl rfl rfl (okC_i rfl rfl rfl) C_46 (by decide) (ClI_mono H ?_))
      intro r22 di22 dl22 H
      refine q0 I_58_46 (wi_istore_n [(0, .ref 1), (1, .int r22)] (lt_e X_58 rfl) rfl ?_)
      refine q0 I_58_47 (wi_aload_n _ rfl ?_)
      refine q0 I_58_48 (wi_getI S_1 rfl (by decide) rfl ?_)
      refine q0 I_58_51 (wi_iconst (-1) rfl ?_)
      refine q0 I_58_52 (wi_ic_ne (fun h => ?_) (fun h => ?_))
      · replace H := H.1 h
        refine q1 (ls' := [(0, .ref 1), (1, .int r22)]) I_58_68 rfl (wi_aload_n _ rfl ?_)
        refine q0 I_58_69 (wi_aload_n _ rfl ?_)
        refine q0 I_58_70 (wi_getI S_1 rfl (by decide) rfl ?_)
        refine q0 I_58_73 (wi_iconst (-1) rfl ?_)
        refine q0 I_58_74 (wi_ic_ne (fun h => ?_) (fun h => ?_))
        · replace H := H.1 h
          refine q1 (ls' := []) I_58_81 rfl (wi_iconst 0 rfl ?_)
          refine q1 (ls' := []) I_58_82 rfl (wi_putI S_1 rfl (by decide) rfl rfl rfl ?_)
          exact q0 I_58_85 (wi_ret T_58 C_58 ⟨rfl, H⟩)
        · replace H := H.2 h
          refine q1 (ls' := [(1, .int r22)]) I_58_77 rfl (wi_iload_n _ rfl ?_)
          refine q0 I_58_78 (wi_goto ?_)
          refine q1 (ls' := []) I_58_82 rfl (wi_putI S_1 rfl (by decide) rfl rfl rfl ?_)
          exact q0 I_58_85 (wi_ret T_58 C_58 ⟨rfl, H⟩)
      · replace H := H.2 h
        refine q1 (ls' := [(0, .ref 1), (1, .int r22)]) I_58_55 rfl (wi_iload_n _ rfl ?_)
        refine q0 I_58_56 (wi_iconst (-1) rfl ?_)
        refine q0 I_58_57 (wi_ic_ne (fun h => ?_) (fun h => ?_))
        · replace H := H.1 h
          refine q1 (ls' := [(0, .ref 1), (1, .int r22)]) I_58_68 rfl (wi_aload_n _ rfl ?_)
          refine q0 I_58_69 (wi_aload_n _ rfl ?_)
          refine q0 I_58_70 (wi_getI S_1 rfl (by decide) rfl ?_)
          refine q0 I_58_73 (wi_iconst (-1) rfl ?_)
          refine q0 I_58_74 (wi_ic_ne (fun h => ?_) (fun h => ?_))
          · replace H := H.1 h
            refine q1 (ls' := []) I_58_81 rfl (wi_iconst 0 rfl ?_)
            refine q1 (ls' := []) I_58_82 rfl (wi_putI S_1 rfl (by decide) rfl rfl rfl ?_)
            exact q0 I_58_85 (wi_ret T_58 C_58 ⟨rfl, H⟩)
          · replace H := H.2 h
            refine q1 (ls' := [(1, .int r22)]) I_58_77 rfl (wi_iload_n _ rfl ?_)
            refine q0 I_58_78 (wi_goto ?_)
            refine q1 (ls' := []) I_58_82 rfl (wi_putI S_1 rfl (by decide) rfl rfl rfl ?_)
            exact q0 I_58_85 (wi_ret T_58 C_58 ⟨rfl, H⟩)
        · replace H := H.2 h
          refine q1 (ls' := [(0, .ref 1), (1, .int r22)]) I_58_60 rfl (wi_aload_n _ rfl ?_)
          refine q0 I_58_61 (wi_aload_n _ rfl ?_)
          refine q0 I_58_62 (wi_getI S_1 rfl (by decide) rfl ?_)
          refine q0 I_58_65 (wi_putI S_1 rfl (by decide) rfl rfl rfl ?_)
          refine q1 (ls' := [(0, .ref 1), (1, .int r22)]) I_58_68 rfl (wi_aload_n _ rfl ?_)
          refine q0 I_58_69 (wi_aload_n _ rfl ?_)
          refine q0 I_58_70 (wi_get (.int (di22 1 2)) S_1 rfl (by decide) rfl ?_)
          refine q0 I_58_73 (wi_iconst (-1) rfl ?_)
          refine q0 I_58_74 (wi_ic_ne (fun h => ?_) (fun h => ?_))
          · replace H := H.1 h
            refine q1 (ls' := []) I_58_81 rfl (wi_iconst 0 rfl ?_)
            refine q1 (ls' := []) I_58_82 rfl (wi_putI S_1 rfl (by decide) rfl rfl rfl ?_)
            exact q0 I_58_85 (wi_ret T_58 C_58 ⟨rfl, H⟩)
          · replace H := H.2 h
            refine q1 (ls' := [(1, .int r22)]) I_58_77 rfl (wi_iload_n _ rfl ?_)
            refine q0 I_58_78 (wi_goto ?_)
            refine q1 (ls' := []) I_58_82 rfl (wi_putI S_1 rfl (by decide) rfl rfl rfl ?_)
            exact q0 I_58_85 (wi_ret T_58 C_58 ⟨rfl, H⟩)
    · replace H := H.2 h
      refine q1 (ls' := [(0, .ref 1), (1, .int x1)]) I_58_23 rfl (wi_aload_n _ rfl ?_)
      refine q0 I_58_24 (wi_iload_n _ rfl ?_)
      refine q0 I_58_25 (wi_virtI (e := 1) [.int x1] [] S_1 rfl (by decide) rfl rfl rfl (okC_i rfl rfl rfl) C_45 (by decide) (ClI_mono H ?_))
      intro r23 di23 dl23 H
      refine q0 I_58_28 (wi_if_ne (fun h => ?_) (fun h => ?_))
      · replace H := H.1 h
        refine q1 (ls' := [(0, .ref 1), (1, .int x1)]) I_58_36 rfl (wi_iinc 1 [(0, .ref 1), (1, .int (x1 + 1))] rfl (lt_e X_58 rfl) rfl rfl ?_)
        refine q0 I_58_39 (wi_goto ?_)
        exact Wq_c I_58_7 rfl rfl H
      · replace H := H.2 h
        refine q1 (ls' := [(0, .ref 1), (1, .int x1)]) I_58_31 rfl (wi_aload_n _ rfl ?_)
        refine q0 I_58_32 (wi_iload_n _ rfl ?_)
        refine q0 I_58_33 (wi_putI S_1 rfl (by decide) rfl rfl rfl ?_)
        refine q1 (ls' := [(0, .ref 1), (1, .int x1)]) I_58_36 rfl (wi_iinc 1 [(0, .ref 1), (1, .int (x1 + 1))] rfl (lt_e X_58 rfl) rfl rfl ?_)
        refine q0 I_58_39 (wi_goto ?_)
        exact Wq_c I_58_7 rfl rfl H
theorem r_58t3  {di : tDi} {dl : tDl} {K : tDi → tDl → Prop} (H : (Wq none 3 58 7 [(0, .ref 3), (1, .int 0)] [] (up2 di 3 3 (-1)) dl (RV K))) : ClV 3 58 [.ref 3] di dl K := by
  refine Cl_of C_58 Z_58 [(0, .ref 3)] rfl ?_
  refine q0 I_58_0 (wi_aload_n _ rfl ?_)
  refine q0 I_58_1 (wi_iconst (-1) rfl ?_)
  refine q0 I_58_2 (wi_putI S_3 rfl (by decide) rfl rfl rfl ?_)
  refine q0 I_58_5 (wi_iconst 0 rfl ?_)
  refine q0 I_58_6 (wi_istore_n [(0, .ref 3), (1, .int 0)] (lt_e X_58 rfl) rfl ?_)
  exact Wq_c I_58_7 rfl rfl H
theorem r_58t3_7 {x1 : Int32} {di : tDi} {dl : tDl} {K : tDi → tDl → Prop} (H : (((di 3 2) ≤ x1 → (ClI 0 7 [.ref 3] di dl (fun r21 di21 dl21 => ((¬ (di21 3 3) = (-1) → ((¬ (di21 3 3) = (-1) → (K (up2 di21 3 4 0) dl21)) ∧ ((di21 3 3) = (-1) → (K (up2 di21 3 4 r21) dl21)))) ∧ ((di21 3 3) = (-1) → ((¬ r21 = (-1) → ((¬ (di21 3 3) = (-1) → (K (up2 di21 3 4 0) dl21)) ∧ ((di21 3 3) = (-1) → (K (up2 di21 3 4 r21) dl21)))) ∧ (r21 = (-1) → ((¬ (di21 3 2) = (-1) → (K (up2 (up2 di21 3 3 (di21 3 2)) 3 4 0) dl21)) ∧ ((di21 3 2) = (-1) → (K (up2 (up2 di21 3 3 (di21 3 2)) 3 4 r21) dl21)))))))))) ∧ (x1 < (di 3 2) → ((¬ (di 3 3) = (-1) → (ClI 0 7 [.ref 3] di dl (fun r22 di22 dl22 => ((¬ (di22 3 3) = (-1) → ((¬ (di22 3 3) = (-1) → (K (up2 di22 3 4 0) dl22)) ∧ ((di22 3 3) = (-1) → (K (up2 di22 3 4 r22) dl22)))) ∧ ((di22 3 3) = (-1) → ((¬ r22 = (-1) → ((¬ (di22 3 3) = (-1) → (K (up2 di22 3 4 0) dl22)) ∧ ((di22 3 3) = (-1) → (K (up2 di22 3 4 r22) dl22)))) ∧ (r22 = (-1) → ((¬ (di22 3 2) = (-1) → (K (up2 (up2 di22 3 3 (di22 3 2)) 3 4 0) dl22)) ∧ ((di22 3 2) = (-1) → (K (up2 (up2 di22 3 3 (di22 3 2)) 3 4 r22) dl22)))))))))) ∧ ((di 3 3) = (-1) → (ClI 1 6 [.ref 3, .int x1] di dl (fun r23 di23 dl23 => ((¬ r23 = 0 → (Wq none 3 58 7 [(0, .ref 3), (1, .int (x1 + 1))] [] di23 dl23 (RV K))) ∧ (r23 = 0 → (Wq none 3 58 7 [(0, .ref 3), (1, .int (x1 + 1))] [] (up2 di23 3 3 x1) dl23 (RV K))))))))))) : Wq none 3 58 7 [(0, .ref 3), (1, .int x1)] [] di dl (RV K) := by
  refine q1 (ls' := [(0, .ref 3), (1, .int x1)]) I_58_7 rfl (wi_iload_n _ rfl ?_)
  refine q0 I_58_8 (wi_aload_n _ rfl ?_)
  refine q0 I_58_9 (wi_getI S_3 rfl (by decide) rfl ?_)
  refine q0 I_58_12 (wi_ic_ge (fun h => ?_) (fun h => ?_))
  · replace H := H.1 h
    refine q1 (ls' := [(0, .ref 3)]) I_58_42 rfl (wi_aload_n _ rfl ?_)
    refine q0 I_58_43 (wi_virtI (e := 0) [] [] S_3 rfl (by decide) rfl rfl rfl (okC_i rfl rfl rfl) C_7 (by decide) (ClI_mono H ?_))
    intro r21 di21 dl21 H
    refine q0 I_58_46 (wi_istore_n [(0, .ref 3), (1, .int r21)] (lt_e X_58 rfl) rfl ?_)
    refine q0 I_58_47 (wi_aload_n _ rfl ?_)
    refine q0 I_58_48 (wi_getI S_3 rfl (by decide) rfl ?_)
    refine q0 I_58_51 (wi_iconst (-1) rfl ?_)
    refine q0 I_58_52 (wi_ic_ne (fun h => ?_) (fun h => ?_))
    · replace H := H.1 h
      refine q1 (ls' := [(0, .ref 3), (1, .int r21)]) I_58_68 rfl (wi_aload_n _ rfl ?_)
      refine q0 I_58_69 (wi_aload_n _ rfl ?_)
      refine q0 I_58_70 (wi_getI S_3 rfl (by decide) rfl ?_)
      refine q0 I_58_73 (wi_iconst (-1) rfl ?_)
      refine q0 I_58_74 (wi_ic_ne (fun h => ?_) (fun h => ?_))
      · replace H := H.1 h
        refine q1 (ls' := []) I_58_81 rfl (wi_iconst 0 rfl ?_)
        refine q1 (ls' := []) I_58_82 rfl (wi_putI S_3 rfl (by decide) rfl rfl rfl ?_)
        exact q0 I_58_85 (wi_ret T_58 C_58 ⟨rfl, H⟩)
      · replace H := H.2 h
        refine q1 (ls' := [(1, .int r21)]) I_58_77 rfl (wi_iload_n _ rfl ?_)
        refine q0 I_58_78 (wi_goto ?_)
        refine q1 (ls' := []) I_58_82 rfl (wi_putI S_3 rfl (by decide) rfl rfl rfl ?_)
        exact q0 I_58_85 (wi_ret T_58 C_58 ⟨rfl, H⟩)
    · replace H := H.2 h
      refine q1 (ls' := [(0, .ref 3), (1, .int r21)]) I_58_55 rfl (wi_iload_n _ rfl ?_)
      refine q0 I_58_56 (wi_iconst (-1) rfl ?_)
      refine q0 I_58_57 (wi_ic_ne (fun h => ?_) (fun h => ?_))
      · replace H := H.1 h
        refine q1 (ls' := [(0, .ref 3), (1, .int r21)]) I_58_68 rfl (wi_aload_n _ rfl ?_)
        refine q0 I_58_69 (wi_aload_n _ rfl ?_)
        refine q0 I_58_70 (wi_getI S_3 rfl (by decide) rfl ?_)
        refine q0 I_58_73 (wi_iconst (-1) rfl ?_)
        refine q0 I_58_74 (wi_ic_ne (fun h => ?_) (fun h => ?_))
        · replace H := H.1 h
          refine q1 (ls' := []) I_58_81 rfl (wi_iconst 0 rfl ?_)
          refine q1 (ls' := []) I_58_82 rfl (wi_putI S_3 rfl (by decide) rfl rfl rfl ?_)
          exact q0 I_58_85 (wi_ret T_58 C_58 ⟨rfl, H⟩)
        · replace H := H.2 h
          refine q1 (ls' := [(1, .int r21)]) I_58_77 rfl (wi_iload_n _ rfl ?_)
          refine q0 I_58_78 (wi_goto ?_)
          refine q1 (ls' := []) I_58_82 rfl (wi_putI S_3 rfl (by decide) rfl rfl rfl ?_)
          exact q0 I_58_85 (wi_ret T_58 C_58 ⟨rfl, H⟩)
      · replace H := H.2 h
        refine q1 (ls' := [(0, .ref 3), (1, .int r21)]) I_58_60 rfl (wi_aload_n _ rfl ?_)
        refine q0 I_58_61 (wi_aload_n _ rfl ?_)
        refine q0 I_58_62 (wi_getI S_3 rfl (by decide) rfl ?_)
        refine q0 I_58_65 (wi_putI S_3 rfl (by decide) rfl rfl rfl ?_)
        refine q1 (ls' := [(0, .ref 3), (1, .int r21)]) I_58_68 rfl (wi_aload_n _ rfl ?_)
        refine q0 I_58_69 (wi_aload_n _ rfl ?_)
        refine q0 I_58_70 (wi_get (.int (di21 3 2)) S_3 rfl (by decide) rfl ?_)
        refine q0 I_58_73 (wi_iconst (-1) rfl ?_)
        refine q0 I_58_74 (wi_ic_ne (fun h => ?_) (fun h => ?_))
        · replace H := H.1 h
          refine q1 (ls' := []) I_58_81 rfl (wi_iconst 0 rfl ?_)
          refine q1 (ls' := []) I_58_82 rfl (wi_putI S_3 rfl (by decide) rfl rfl rfl ?_)
          exact q0 I_58_85 (wi_ret T_58 C_58 ⟨rfl, H⟩)
        · replace H := H.2 h
          refine q1 (ls' := [(1, .int r21)]) I_58_77 rfl (wi_iload_n _ rfl ?_)
          refine q0 I_58_78 (wi_goto ?_)
          refine q1 (ls' := []) I_58_82 rfl (wi_putI S_3 rfl (by decide) rfl rfl rfl ?_)
          exact q0 I_58_85 (wi_ret T_58 C_58 ⟨rfl, H⟩)
  · replace H := H.2 h
    refine q1 (ls' := [(0, .ref 3), (1, .int x1)]) I_58_15 rfl (wi_aload_n _ rfl ?_)
    refine q0 I_58_16 (wi_getI S_3 rfl (by decide) rfl ?_)
    refine q0 I_58_19 (wi_iconst (-1) rfl ?_)
    refine q0 I_58_20 (wi_ic_ne (fun h => ?_) (fun h => ?_))
    · replace H := H.1 h
      refine q1 (ls' := [(0, .ref 3)]) I_58_42 rfl (wi_aload_n _ rfl ?_)
      refine q0 I_58_43 (wi_virtI (e := 0) [] [] S_3 rfl (by decide) rfl rfl rfl (okC_i rfl rfl rfl) C_7 (by decide) (ClI_mono H ?_))
      intro r22 di22 dl22 H
      refine q0 I_58_46 (wi_istore_n [(0, .ref 3), (1, .int r22)] (lt_e X_58 rfl) rfl ?_)
      refine q0 I_58_47 (wi_aload_n _ rfl ?_)
      refine q0 I_58_48 (wi_getI S_3 rfl (by decide) rfl ?_)
      refine q0 I_58_51 (wi_iconst (-1) rfl ?_)
      refine q0 I_58_52 (wi_ic_ne (fun h => ?_) (fun h => ?_))
      · replace H := H.1 h
        refine q1 (ls' := [(0, .ref 3), (1, .int r22)]) I_58_68 rfl (wi_aload_n _ rfl ?_)
        refine q0 I_58_69 (wi_aload_n _ rfl ?_)
        refine q0 I_58_70 (wi_getI S_3 rfl (by decide) rfl ?_)
        refine q0 I_58_73 (wi_iconst (-1) rfl ?_)
        refine q0 I_58_74 (wi_ic_ne (fun h => ?_) (fun h => ?_))
        · replace H := H.1 h
          refine q1 (ls' := []) I_58_81 rfl (wi_iconst 0 rfl ?_)
          refine q1 (ls' := []) I_58_82 rfl (wi_putI S_3 rfl (by decide) rfl rfl rfl ?_)
          exact q0 I_58_85 (wi_ret T_58 C_58 ⟨rfl, H⟩)
        · replace H := H.2 h
          refine q1 (ls' := [(1, .int r22)]) I_58_77 rfl (wi_iload_n _ rfl ?_)
          refine q0 I_58_78 (wi_goto ?_)
          refine q1 (ls' := []) I_58_82 rfl (wi_putI S_3 rfl (by decide) rfl rfl rfl ?_)
          exact q0 I_58_85 (wi_ret T_58 C_58 ⟨rfl, H⟩)
      · replace H := H.2 h
        refine q1 (ls' := [(0, .ref 3), (1, .int r22)]) I_58_55 rfl (wi_iload_n _ rfl ?_)
        refine q0 I_58_56 (wi_iconst (-1) rfl ?_)
        refine q0 I_58_57 (wi_ic_ne (fun h => ?_) (fun h => ?_))
        · replace H := H.1 h
          refine q1 (ls' := [(0, .ref 3), (1, .int r22)]) I_58_68 rfl (wi_aload_n _ rfl ?_)
          refine q0 I_58_69 (wi_aload_n _ rfl ?_)
          refine q0 I_58_70 (wi_getI S_3 rfl (by decide) rfl ?_)
          refine q0 I_58_73 (wi_iconst (-1) rfl ?_)
          refine q0 I_58_74 (wi_ic_ne (fun h => ?_) (fun h => ?_))
          · replace H := H.1 h
            refine q1 (ls' := []) I_58_81 rfl (wi_iconst 0 rfl ?_)
            refine q1 (ls' := []) I_58_82 rfl (wi_putI S_3 rfl (by decide) rfl rfl rfl ?_)
            exact q0 I_58_85 (wi_ret T_58 C_58 ⟨rfl, H⟩)
          · replace H := H.2 h
            refine q1 (ls' := [(1, .int r22)]) I_58_77 rfl (wi_iload_n _ rfl ?_)
            refine q0 I_58_78 (wi_goto ?_)
            refine q1 (ls' := []) I_58_82 rfl (wi_putI S_3 rfl (by decide) rfl rfl rfl ?_)
            exact q0 I_58_85 (wi_ret T_58 C_58 ⟨rfl, H⟩)
        · replace H := H.2 h
          refine q1 (ls' := [(0, .ref 3), (1, .int r22)]) I_58_60 rfl (wi_aload_n _ rfl ?_)
          refine q0 I_58_61 (wi_aload_n _ rfl ?_)
          refine q0 I_58_62 (wi_getI S_3 rfl (by decide) rfl ?_)
          refine q0 I_58_65 (wi_putI S_3 rfl (by decide) rfl rfl rfl ?_)
          refine q1 (ls' := [(0, .ref 3), (1, .int r22)]) I_58_68 rfl (wi_aload_n _ rfl ?_)
          refine q0 I_58_69 (wi_aload_n _ rfl ?_)
          refine q0 I_58_70 (wi_get (.int (di22 3 2)) S_3 rfl (by decide) rfl ?_)
          refine q0 I_58_73 (wi_iconst (-1) rfl ?_)
          refine q0 I_58_74 (wi_ic_ne (fun h => ?_) (fun h => ?_))
          · replace H := H.1 h
            refine q1 (ls' := []) I_58_81 rfl (wi_iconst 0 rfl ?_)
            refine q1 (ls' := []) I_58_82 rfl (wi_putI S_3 rfl (by decide) rfl rfl rfl ?_)
            exact q0 I_58_85 (wi_ret T_58 C_58 ⟨rfl, H⟩)
          · replace H := H.2 h
            refine q1 (ls' := [(1, .int r22)]) I_58_77 rfl (wi_iload_n _ rfl ?_)
            refine q0 I_58_78 (wi_goto ?_)
            refine q1 (ls' := []) I_58_82 rfl (wi_putI S_3 rfl (by decide) rfl rfl rfl ?_)
            exact q0 I_58_85 (wi_ret T_58 C_58 ⟨rfl, H⟩)
    · replace H := H.2 h
      refine q1 (ls' := [(0, .ref 3), (1, .int x1)]) I_58_23 rfl (wi_aload_n _ rfl ?_)
      refine q0 I_58_24 (wi_iload_n _ rfl ?_)
      refine q0 I_58_25 (wi_virtI (e := 1) [.int x1] [] S_3 rfl (by decide) rfl rfl rfl (okC_i rfl rfl rfl) C_6 (by decide) (ClI_mono H ?_))
      intro r23 di23 dl23 H
      refine q0 I_58_28 (wi_if_ne (fun h => ?_) (fun h => ?_))
      · replace H := H.1 h
        refine q1 (ls' := [(0, .ref 3), (1, .int x1)]) I_58_36 rfl (wi_iinc 1 [(0, .ref 3), (1, .int (x1 + 1))] rfl (lt_e X_58 rfl) rfl rfl ?_)
        refine q0 I_58_39 (wi_goto ?_)
        exact Wq_c I_58_7 rfl rfl H
      · replace H := H.2 h
        refine q1 (ls' := [(0, .ref 3), (1, .int x1)]) I_58_31 rfl (wi_aload_n _ rfl ?_)
        refine q0 I_58_32 (wi_iload_n _ rfl ?_)
        refine q0 I_58_33 (wi_putI S_3 rfl (by decide) rfl rfl rfl ?_)
        refine q1 (ls' := [(0, .ref 3), (1, .int x1)]) I_58_36 rfl (wi_iinc 1 [(0, .ref 3), (1, .int (x1 + 1))] rfl (lt_e X_58 rfl) rfl rfl ?_)
        refine q0 I_58_39 (wi_goto ?_)
        exact Wq_c I_58_7 rfl rfl H
theorem r_58t5  {di : tDi} {dl : tDl} {K : tDi → tDl → Prop} (H : (Wq none 3 58 7 [(0, .ref 5), (1, .int 0)] [] (up2 di 5 3 (-1)) dl (RV K))) : ClV 3 58 [.ref 5] di dl K := by
  refine Cl_of C_58 Z_58 [(0, .ref 5)] rfl ?_
  refine q0 I_58_0 (wi_aload_n _ rfl ?_)
  refine q0 I_58_1 (wi_iconst (-1) rfl ?_)
  refine q0 I_58_2 (wi_putI S_5 rfl (by decide) rfl rfl rfl ?_)
  refine q0 I_58_5 (wi_iconst 0 rfl ?_)
  refine q0 I_58_6 (wi_istore_n [(0, .ref 5), (1, .int 0)] (lt_e X_58 rfl) rfl ?_)
  exact Wq_c I_58_7 rfl rfl H
theorem r_58t5_7 {x1 : Int32} {di : tDi} {dl : tDl} {K : tDi → tDl → Prop} (H : (((di 5 2) ≤ x1 → (ClI 0 34 [.ref 5] di dl (fun r21 di21 dl21 => ((¬ (di21 5 3) = (-1) → ((¬ (di21 5 3) = (-1) → (K (up2 di21 5 4 0) dl21)) ∧ ((di21 5 3) = (-1) → (K (up2 di21 5 4 r21) dl21)))) ∧ ((di21 5 3) = (-1) → ((¬ r21 = (-1) → ((¬ (di21 5 3) = (-1) → (K (up2 di21 5 4 0) dl21)) ∧ ((di21 5 3) = (-1) → (K (up2 di21 5 4 r21) dl21)))) ∧ (r21 = (-1) → ((¬ (di21 5 2) = (-1) → (K (up2 (up2 di21 5 3 (di21 5 2)) 5 4 0) dl21)) ∧ ((di21 5 2) = (-1) → (K (up2 (up2 di21 5 3 (di21 5 2)) 5 4 r21) dl21)))))))))) ∧ (x1 < (di 5 2) → ((¬ (di 5 3) = (-1) → (ClI 0 34 [.ref 5] di dl (fun r22 di22 dl22 => ((¬ (di22 5 3) = (-1) → ((¬ (di22 5 3) = (-1) → (K (up2 di22 5 4 0) dl22)) ∧ ((di22 5 3) = (-1) → (K (up2 di22 5 4 r22) dl22)))) ∧ ((di22 5 3) = (-1) → ((¬ r22 = (-1) → ((¬ (di22 5 3) = (-1) → (K (up2 di22 5 4 0) dl22)) ∧ ((di22 5 3) = (-1) → (K (up2 di22 5 4 r22) dl22)))) ∧ (r22 = (-1) → ((¬ (di22 5 2) = (-1) → (K (up2 (up2 di22 5 3 (di22 5 2)) 5 4 0) dl22)) ∧ ((di22 5 2) = (-1) → (K (up2 (up2 di22 5 3 (di22 5 2)) 5 4 r22) dl22)))))))))) ∧ ((di 5 3) = (-1) → (ClI 2 33 [.ref 5, .int x1] di dl (fun r23 di23 dl23 => ((¬ r23 = 0 → (Wq none 3 58 7 [(0, .ref 5), (1, .int (x1 + 1))] [] di23 dl23 (RV K))) ∧ (r23 = 0 → (Wq none 3 58 7 [(0, .ref 5), (1, .int (x1 + 1))] [] (up2 di23 5 3 x1) dl23 (RV K))))))))))) : Wq none 3 58 7 [(0, .ref 5), (1, .int x1)] [] di dl (RV K) := by
  refine q1 (ls' := [(0, .ref 5), (1, .int x1)]) I_58_7 rfl (wi_iload_n _ rfl ?_)
  refine q0 I_58_8 (wi_aload_n _ rfl ?_)
  refine q0 I_58_9 (wi_getI S_5 rfl (by decide) rfl ?_)
  refine q0 I_58_12 (wi_ic_ge (fun h => ?_) (fun h => ?_))
  · replace H := H.1 h
    refine q1 (ls' := [(0, .ref 5)]) I_58_42 rfl (wi_aload_n _ rfl ?_)
    refine q0 I_58_43 (wi_virtI (e := 0) [] [] S_5 rfl (by decide) rfl rfl rfl (okC_i rfl rfl rfl) C_34 (by decide) (ClI_mono H ?_))
    intro r21 di21 dl21 H
    refine q0 I_58_46 (wi_istore_n [(0, .ref 5), (1, .int r21)] (lt_e X_58 rfl) rfl ?_)
    refine q0 I_58_47 (wi_aload_n _ rfl ?_)
    refine q0 I_58_48 (wi_getI S_5 rfl (by decide) rfl ?_)
    refine q0 I_58_51 (wi_iconst (-1) rfl ?_)
    refine q0 I_58_52 (wi_ic_ne (fun h => ?_) (fun h => ?_))
    · replace H := H.1 h
      refine q1 (ls' := [(0, .ref 5), (1, .int r21)]) I_58_68 rfl (wi_aload_n _ rfl ?_)
      refine q0 I_58_69 (wi_aload_n _ rfl ?_)
      refine q0 I_58_70 (wi_getI S_5 rfl (by decide) rfl ?_)
      refine q0 I_58_73 (wi_iconst (-1) rfl ?_)
      refine q0 I_58_74 (wi_ic_ne (fun h => ?_) (fun h => ?_))
      · replace H := H.1 h
        refine q1 (ls' := []) I_58_81 rfl (wi_iconst 0 rfl ?_)
        refine q1 (ls' := []) I_58_82 rfl (wi_putI S_5 rfl (by decide) rfl rfl rfl ?_)
        exact q0 I_58_85 (wi_ret T_58 C_58 ⟨rfl, H⟩)
      · replace H := H.2 h
        refine q1 (ls' := [(1, .int r21)]) I_58_77 rfl (wi_iload_n _ rfl ?_)
        refine q0 I_58_78 (wi_goto ?_)
        refine q1 (ls' := []) I_58_82 rfl (wi_putI S_5 rfl (by decide) rfl rfl rfl ?_)
        exact q0 I_58_85 (wi_ret T_58 C_58 ⟨rfl, H⟩)
    · replace H := H.2 h
      refine q1 (ls' := [(0, .ref 5), (1, .int r21)]) I_58_55 rfl (wi_iload_n _ rfl ?_)
      refine q0 I_58_56 (wi_iconst (-1) rfl ?_)
      refine q0 I_58_57 (wi_ic_ne (fun h => ?_) (fun h => ?_))
      · replace H := H.1 h
        refine q1 (ls' := [(0, .ref 5), (1, .int r21)]) I_58_68 rfl (wi_aload_n _ rfl ?_)
        refine q0 I_58_69 (wi_aload_n _ rfl ?_)
        refine q0 I_58_70 (wi_getI S_5 rfl (by decide) rfl ?_)
        refine q0 I_58_73 (wi_iconst (-1) rfl ?_)
        refine q0 I_58_74 (wi_ic_ne (fun h => ?_) (fun h => ?_))
        · replace H := H.1 h
          refine q1 (ls' := []) I_58_81 rfl (wi_iconst 0 rfl ?_)
          refine q1 (ls' := []) I_58_82 rfl (wi_putI S_5 rfl (by decide) rfl rfl rfl ?_)
          exact q0 I_58_85 (wi_ret T_58 C_58 ⟨rfl, H⟩)
        · replace H := H.2 h
          refine q1 (ls' := [(1, .int r21)]) I_58_77 rfl (wi_iload_n _ rfl ?_)
          refine q0 I_58_78 (wi_goto ?_)
          refine q1 (ls' := []) I_58_82 rfl (wi_putI S_5 rfl (by decide) rfl rfl rfl ?_)
          exact q0 I_58_85 (wi_ret T_58 C_58 ⟨rfl, H⟩)
      · replace H := H.2 h
        refine q1 (ls' := [(0, .ref 5), (1, .int r21)]) I_58_60 rfl (wi_aload_n _ rfl ?_)
        refine q0 I_58_61 (wi_aload_n _ rfl ?_)
        refine q0 I_58_62 (wi_getI S_5 rfl (by decide) rfl ?_)
        refine q0 I_58_65 (wi_putI S_5 rfl (by decide) rfl rfl rfl ?_)
        refine q1 (ls' := [(0, .ref 5), (1, .int r21)]) I_58_68 rfl (wi_aload_n _ rfl ?_)
        refine q0 I_58_69 (wi_aload_n _ rfl ?_)
        refine q0 I_58_70 (wi_get (.int (di21 5 2)) S_5 rfl (by decide) rfl ?_)
        refine q0 I_58_73 (wi_iconst (-1) rfl ?_)
        refine q0 I_58_74 (wi_ic_ne (fun h => ?_) (fun h => ?_))
        · replace H := H.1 h
          refine q1 (ls' := []) I_58_81 rfl (wi_iconst 0 rfl ?_)
          refine q1 (ls' := []) I_58_82 rfl (wi_putI S_5 rfl (by decide) rfl rfl rfl ?_)
          exact q0 I_58_85 (wi_ret T_58 C_58 ⟨rfl, H⟩)
        · replace H := H.2 h
          refine q1 (ls' := [(1, .int r21)]) I_58_77 rfl (wi_iload_n _ rfl ?_)
          refine q0 I_58_78 (wi_goto ?_)
          refine q1 (ls' := []) I_58_82 rfl (wi_putI S_5 rfl (by decide) rfl rfl rfl ?_)
          exact q0 I_58_85 (wi_ret T_58 C_58 ⟨rfl, H⟩)
  · replace H := H.2 h
    refine q1 (ls' := [(0, .ref 5), (1, .int x1)]) I_58_15 rfl (wi_aload_n _ rfl ?_)
    refine q0 I_58_16 (wi_getI S_5 rfl (by decide) rfl ?_)
    refine q0 I_58_19 (wi_iconst (-1) rfl ?_)
    refine q0 I_58_20 (wi_ic_ne (fun h => ?_) (fun h => ?_))
    · replace H := H.1 h
      refine q1 (ls' := [(0, .ref 5)]) I_58_42 rfl (wi_aload_n _ rfl ?_)
      refine q0 I_58_43 (wi_virtI (e := 0) [] [] S_5 rfl (by decide) rfl rfl rfl (okC_i rfl rfl rfl) C_34 (by decide) (ClI_mono H ?_))
      intro r22 di22 dl22 H
      refine q0 I_58_46 (wi_istore_n [(0, .ref 5), (1, .int r22)] (lt_e X_58 rfl) rfl ?_)
      refine q0 I_58_47 (wi_aload_n _ rfl ?_)
      refine q0 I_58_48 (wi_getI S_5 rfl (by decide) rfl ?_)
      refine q0 I_58_51 (wi_iconst (-1) rfl ?_)
      refine q0 I_58_52 (wi_ic_ne (fun h => ?_) (fun h => ?_))
      · replace H := H.1 h
        refine q1 (ls' := [(0, .ref 5), (1, .int r22)]) I_58_68 rfl (wi_aload_n _ rfl ?_)
        refine q0 I_58_69 (wi_aload_n _ rfl ?_)
        refine q0 I_58_70 (wi_getI S_5 rfl (by decide) rfl ?_)
        refine q0 I_58_73 (wi_iconst (-1) rfl ?_)
        refine q0 I_58_74 (wi_ic_ne (fun h => ?_) (fun h => ?_))
        · replace H := H.1 h
          refine q1 (ls' := []) I_58_81 rfl (wi_iconst 0 rfl ?_)
          refine q1 (ls' := []) I_58_82 rfl (wi_putI S_5 rfl (by decide) rfl rfl rfl ?_)
          exact q0 I_58_85 (wi_ret T_58 C_58 ⟨rfl, H⟩)
        · replace H := H.2 h
          refine q1 (ls' := [(1, .int r22)]) I_58_77 rfl (wi_iload_n _ rfl ?_)
          refine q0 I_58_78 (wi_goto ?_)
          refine q1 (ls' := []) I_58_82 rfl (wi_putI S_5 rfl (by decide) rfl rfl rfl ?_)
          exact q0 I_58_85 (wi_ret T_58 C_58 ⟨rfl, H⟩)
      · replace H := H.2 h
        refine q1 (ls' := [(0, .ref 5), (1, .int r22)]) I_58_55 rfl (wi_iload_n _ rfl ?_)
        refine q0 I_58_56 (wi_iconst (-1) rfl ?_)
        refine q0 I_58_57 (wi_ic_ne (fun h => ?_) (fun h => ?_))
        · replace H := H.1 h
          refine q1 (ls' := [(0, .ref 5), (1, .int r22)]) I_58_68 rfl (wi_aload_n _ rfl ?_)
          refine q0 I_58_69 (wi_aload_n _ rfl ?_)
          refine q0 I_58_70 (wi_getI S_5 rfl (by decide) rfl ?_)
          refine q0 I_58_73 (wi_iconst (-1) rfl ?_)
          refine q0 I_58_74 (wi_ic_ne (fun h => ?_) (fun h => ?_))
          · replace H := H.1 h
            refine q1 (ls' := []) I_58_81 rfl (wi_iconst 0 rfl ?_)
            refine q1 (ls' := []) I_58_82 rfl (wi_putI S_5 rfl (by decide) rfl rfl rfl ?_)
            exact q0 I_58_85 (wi_ret T_58 C_58 ⟨rfl, H⟩)
          · replace H := H.2 h
            refine q1 (ls' := [(1, .int r22)]) I_58_77 rfl (wi_iload_n _ rfl ?_)
            refine q0 I_58_78 (wi_goto ?_)
            refine q1 (ls' := []) I_58_82 rfl (wi_putI S_5 rfl (by decide) rfl rfl rfl ?_)
            exact q0 I_58_85 (wi_ret T_58 C_58 ⟨rfl, H⟩)
        · replace H := H.2 h
          refine q1 (ls' := [(0, .ref 5), (1, .int r22)]) I_58_60 rfl (wi_aload_n _ rfl ?_)
          refine q0 I_58_61 (wi_aload_n _ rfl ?_)
          refine q0 I_58_62 (wi_getI S_5 rfl (by decide) rfl ?_)
          refine q0 I_58_65 (wi_putI S_5 rfl (by decide) rfl rfl rfl ?_)
          refine q1 (ls' := [(0, .ref 5), (1, .int r22)]) I_58_68 rfl (wi_aload_n _ rfl ?_)
          refine q0 I_58_69 (wi_aload_n _ rfl ?_)
          refine q0 I_58_70 (wi_get (.int (di22 5 2)) S_5 rfl (by decide) rfl ?_)
          refine q0 I_58_73 (wi_iconst (-1) rfl ?_)
          refine q0 I_58_74 (wi_ic_ne (fun h => ?_) (fun h => ?_))
          · replace H := H.1 h
            refine q1 (ls' := []) I_58_81 rfl (wi_iconst 0 rfl ?_)
            refine q1 (ls' := []) I_58_82 rfl (wi_putI S_5 rfl (by decide) rfl rfl rfl ?_)
            exact q0 I_58_85 (wi_ret T_58 C_58 ⟨rfl, H⟩)
          · replace H := H.2 h
            refine q1 (ls' := [(1, .int r22)]) I_58_77 rfl (wi_iload_n _ rfl ?_)
            refine q0 I_58_78 (wi_goto ?_)
            refine q1 (ls' := []) I_58_82 rfl (wi_putI S_5 rfl (by decide) rfl rfl rfl ?_)
            exact q0 I_58_85 (wi_ret T_58 C_58 ⟨rfl, H⟩)
    · replace H := H.2 h
      refine q1 (ls' := [(0, .ref 5), (1, .int x1)]) I_58_23 rfl (wi_aload_n _ rfl ?_)
      refine q0 I_58_24 (wi_iload_n _ rfl ?_)
      refine q0 I_58_25 (wi_virtI (e := 2) [.int x1] [] S_5 rfl (by decide) rfl rfl rfl (okC_i rfl rfl rfl) C_33 (by decide) (ClI_mono H ?_))
      intro r23 di23 dl23 H
      refine q0 I_58_28 (wi_if_ne (fun h => ?_) (fun h => ?_))
      · replace H := H.1 h
        refine q1 (ls' := [(0, .ref 5), (1, .int x1)]) I_58_36 rfl (wi_iinc 1 [(0, .ref 5), (1, .int (x1 + 1))] rfl (lt_e X_58 rfl) rfl rfl ?_)
        refine q0 I_58_39 (wi_goto ?_)
        exact Wq_c I_58_7 rfl rfl H
      · replace H := H.2 h
        refine q1 (ls' := [(0, .ref 5), (1, .int x1)]) I_58_31 rfl (wi_aload_n _ rfl ?_)
        refine q0 I_58_32 (wi_iload_n _ rfl ?_)
        refine q0 I_58_33 (wi_putI S_5 rfl (by decide) rfl rfl rfl ?_)
        refine q1 (ls' := [(0, .ref 5), (1, .int x1)]) I_58_36 rfl (wi_iinc 1 [(0, .ref 5), (1, .int (x1 + 1))] rfl (lt_e X_58 rfl) rfl rfl ?_)
        refine q0 I_58_39 (wi_goto ?_)
        exact Wq_c I_58_7 rfl rfl H
theorem r_59 {a1 : Int32} {a2 : Int32} {di : tDi} {dl : tDl} {K : Int32 → tDi → tDl → Prop} (H : ((a1 < ((48 : Int32) + a2) → (K 0 di dl)) ∧ (((48 : Int32) + a2) ≤ a1 → ((57 < a1 → (K 0 di dl)) ∧ (a1 ≤ 57 → (K 1 di dl)))))) : ClI 0 59 [.int a1, .int a2] di dl K := by
  refine Cl_of C_59 Z_59 [(0, .int a1), (1, .int a2)] rfl ?_
  refine q0 I_59_0 (wi_iload_n _ rfl ?_)
  refine q0 I_59_1 (wi_bipush 48 rfl ?_)
  refine q0 I_59_3 (wi_iload_n _ rfl ?_)
  refine q0 I_59_4 (wi_iadd ?_)
  refine q0 I_59_5 (wi_ic_lt (fun h => ?_) (fun h => ?_))
  · replace H := H.1 h
    refine q1 (ls' := []) I_59_18 rfl (wi_iconst 0 rfl ?_)
    exact q1 (ls' := []) I_59_19 rfl (wi_zret T_59 (Or.inl C_59) (Or.inl rfl) ⟨_, rfl, H⟩)
  · replace H := H.2 h
    refine q1 (ls' := [(0, .int a1)]) I_59_8 rfl (wi_iload_n _ rfl ?_)
    refine q0 I_59_9 (wi_bipush 57 rfl ?_)
    refine q0 I_59_11 (wi_ic_gt (fun h => ?_) (fun h => ?_))
    · replace H := H.1 h
      refine q1 (ls' := []) I_59_18 rfl (wi_iconst 0 rfl ?_)
      exact q1 (ls' := []) I_59_19 rfl (wi_zret T_59 (Or.inl C_59) (Or.inl rfl) ⟨_, rfl, H⟩)
    · replace H := H.2 h
      refine q1 (ls' := []) I_59_14 rfl (wi_iconst 1 rfl ?_)
      refine q0 I_59_15 (wi_goto ?_)
      exact q1 (ls' := []) I_59_19 rfl (wi_zret T_59 (Or.inl C_59) (Or.inr rfl) ⟨_, rfl, H⟩)
theorem r_61  {di : tDi} {dl : tDl} {K : tDi → tDl → Prop} (H : (K (up2 di 8 10 1) dl)) : ClV 0 61 [.ref 8] di dl K := by
  refine Cl_of C_61 Z_61 [(0, .ref 8)] rfl ?_
  refine q0 I_61_0 (wi_aload_n _ rfl ?_)
  refine q0 I_61_1 (wi_iconst 1 rfl ?_)
  refine q0 I_61_2 (wi_putZ S_8 rfl (by decide) rfl rfl rfl (Or.inr rfl) ?_)
  exact q0 I_61_5 (wi_ret T_61 C_61 ⟨rfl, H⟩)
theorem r_62 {a1 : Int32} {di : tDi} {dl : tDl} {K : Int32 → tDi → tDl → Prop} (H : (K (di 8 8) (up2 (up2 di 8 8 a1) 8 10 1) dl)) : ClI 0 62 [.ref 8, .int a1] di dl K := by
  refine Cl_of C_62 Z_62 [(0, .ref 8), (1, .int a1)] rfl ?_
  refine q0 I_62_0 (wi_aload_n _ rfl ?_)
  refine q0 I_62_1 (wi_getI S_8 rfl (by decide) rfl ?_)
  refine q0 I_62_4 (wi_istore_n [(0, .ref 8), (1, .int a1), (2, .int (di 8 8))] (lt_e X_62 rfl) rfl ?_)
  refine q0 I_62_5 (wi_aload_n _ rfl ?_)
  refine q0 I_62_6 (wi_iload_n _ rfl ?_)
  refine q0 I_62_7 (wi_putI S_8 rfl (by decide) rfl rfl rfl ?_)
  refine q0 I_62_10 (wi_aload_n _ rfl ?_)
  refine q0 I_62_11 (wi_iconst 1 rfl ?_)
  refine q0 I_62_12 (wi_putZ S_8 rfl (by decide) rfl rfl rfl (Or.inr rfl) ?_)
  refine q0 I_62_15 (wi_iload_n _ rfl ?_)
  exact q0 I_62_16 (wi_iret T_62 C_62 ⟨_, rfl, H⟩)
theorem r_63 {a1 : Int32} {di : tDi} {dl : tDl} {K : Int32 → tDi → tDl → Prop} (H : (K (di 8 9) (up2 (up2 di 8 9 a1) 8 10 1) dl)) : ClI 0 63 [.ref 8, .int a1] di dl K := by
  refine Cl_of C_63 Z_63 [(0, .ref 8), (1, .int a1)] rfl ?_
  refine q0 I_63_0 (wi_aload_n _ rfl ?_)
  refine q0 I_63_1 (wi_getI S_8 rfl (by decide) rfl ?_)
  refine q0 I_63_4 (wi_istore_n [(0, .ref 8), (1, .int a1), (2, .int (di 8 9))] (lt_e X_63 rfl) rfl ?_)
  refine q0 I_63_5 (wi_aload_n _ rfl ?_)
  refine q0 I_63_6 (wi_iload_n _ rfl ?_)
  refine q0 I_63_7 (wi_putI S_8 rfl (by decide) rfl rfl rfl ?_)
  refine q0 I_63_10 (wi_aload_n _ rfl ?_)
  refine q0 I_63_11 (wi_iconst 1 rfl ?_)
  refine q0 I_63_12 (wi_putZ S_8 rfl (by decide) rfl rfl rfl (Or.inr rfl) ?_)
  refine q0 I_63_15 (wi_iload_n _ rfl ?_)
  exact q0 I_63_16 (wi_iret T_63 C_63 ⟨_, rfl, H⟩)
theorem r_64  {di : tDi} {dl : tDl} {K : tDi → tDl → Prop} (H : ((¬ (di 8 10) = 0 → (ClV 2 83 [.ref 8, .int 0] (up2 di 8 10 0) dl (fun di1 dl1 => (ClV 2 87 [.ref 8, .int 0] di1 dl1 (fun di2 dl2 => (ClI 2 88 [.ref 8, .int 0] di2 dl2 (fun r3 di3 dl3 => (Wq none 3 64 31 [(0, .ref 8), (1, .int 0)] [] di3 dl3 (RV K))))))))) ∧ ((di 8 10) = 0 → (K di dl)))) : ClV 3 64 [.ref 8] di dl K := by
  refine Cl_of C_64 Z_64 [(0, .ref 8)] rfl ?_
  refine q0 I_64_0 (wi_aload_n _ rfl ?_)
  refine q0 I_64_1 (wi_getZ S_8 rfl (by decide) rfl ?_)
  refine q0 I_64_4 (wi_if_ne (fun h => ?_) (fun h => ?_))
  · replace H := H.1 h
    refine q1 (ls' := [(0, .ref 8)]) I_64_8 rfl (wi_aload_n _ rfl ?_)
    refine q0 I_64_9 (wi_iconst 0 rfl ?_)
    refine q0 I_64_10 (wi_putZ S_8 rfl (by decide) rfl rfl rfl (Or.inl rfl) ?_)
    refine q0 I_64_13 (wi_aload_n _ rfl ?_)
    refine q0 I_64_14 (wi_iconst 0 rfl ?_)
    refine q0 I_64_15 (wi_virtV (e := 2) [.int 0] [] S_8 rfl (by decide) rfl rfl rfl (okC_i rfl rfl rfl) C_83 (by decide) (ClV_mono H ?_))
    intro di1 dl1 H
    refine q0 I_64_18 (wi_aload_n _ rfl ?_)
    refine q0 I_64_19 (wi_iconst 0 rfl ?_)
    refine q0 I_64_20 (wi_virtV (e := 2) [.int 0] [] S_8 rfl (by decide) rfl rfl rfl (okC_i rfl rfl rfl) C_87 (by decide) (ClV_mono H ?_))
    intro di2 dl2 H
    refine q0 I_64_23 (wi_aload_n _ rfl ?_)
    refine q0 I_64_24 (wi_iconst 0 rfl ?_)
    refine q0 I_64_25 (wi_virtI (e := 2) [.int 0] [] S_8 rfl (by decide) rfl rfl rfl (okC_i rfl rfl rfl) C_88 (by decide) (ClI_mono H ?_))
    intro r3 di3 dl3 H
    refine q0 I_64_28 (wi_pop rfl ?_)
    refine q0 I_64_29 (wi_iconst 0 rfl ?_)
    refine q0 I_64_30 (wi_istore_n [(0, .ref 8), (1, .int 0)] (lt_e X_64 rfl) rfl ?_)
    exact Wq_c I_64_31 rfl rfl H
  · replace H := H.2 h
    exact q1 (ls' := []) I_64_7 rfl (wi_ret T_64 C_64 ⟨rfl, H⟩)
theorem r_64_31 {x1 : Int32} {di : tDi} {dl : tDl} {K : tDi → tDl → Prop} (H : (((di 5 4) ≤ x1 → (K di dl)) ∧ (x1 < (di 5 4) → ((24 ≤ x1 → (K di dl)) ∧ (x1 < 24 → (ClI 1 35 [.ref 5, .int x1] di dl (fun r21 di21 dl21 => (ClV 2 84 [.ref 8, .int x1, .int (x1 + 1), .int r21] di21 dl21 (fun di22 dl22 => (ClV 2 87 [.ref 8, .int (x1 + 1)] di22 dl22 (fun di23 dl23 => (ClI 2 88 [.ref 8, .int (x1 + 1)] di23 dl23 (fun r24 di24 dl24 => (Wq none 3 64 31 [(0, .ref 8), (1, .int (x1 + 1))] [] di24 dl24 (RV K))))))))))))))) : Wq none 3 64 31 [(0, .ref 8), (1, .int x1)] [] di dl (RV K) := by
  refine q1 (ls' := [(0, .ref 8), (1, .int x1)]) I_64_31 rfl (wi_iload_n _ rfl ?_)
  refine q0 I_64_32 (wi_aload_n _ rfl ?_)
  refine q0 I_64_33 (wi_get (.ref 5) S_8 rfl (by decide) rfl ?_)
  refine q0 I_64_36 (wi_getI S_5 rfl (by decide) rfl ?_)
  refine q0 I_64_39 (wi_ic_ge (fun h => ?_) (fun h => ?_))
  · replace H := H.1 h
    exact q1 (ls' := []) I_64_85 rfl (wi_ret T_64 C_64 ⟨rfl, H⟩)
  · replace H := H.2 h
    refine q1 (ls' := [(0, .ref 8), (1, .int x1)]) I_64_42 rfl (wi_iload_n _ rfl ?_)
    refine q0 I_64_43 (wi_bipush 24 rfl ?_)
    refine q0 I_64_45 (wi_ic_ge (fun h => ?_) (fun h => ?_))
    · replace H := H.1 h
      exact q1 (ls' := []) I_64_85 rfl (wi_ret T_64 C_64 ⟨rfl, H⟩)
    · replace H := H.2 h
      refine q1 (ls' := [(0, .ref 8), (1, .int x1)]) I_64_48 rfl (wi_aload_n _ rfl ?_)
      refine q0 I_64_49 (wi_iload_n _ rfl ?_)
      refine q0 I_64_50 (wi_iload_n _ rfl ?_)
      refine q0 I_64_51 (wi_iconst 1 rfl ?_)
      refine q0 I_64_52 (wi_iadd ?_)
      refine q0 I_64_53 (wi_aload_n _ rfl ?_)
      refine q0 I_64_54 (wi_get (.ref 5) S_8 rfl (by decide) rfl ?_)
      refine q0 I_64_57 (wi_iload_n _ rfl ?_)
      refine q0 I_64_58 (wi_virtI (e := 1) [.int x1] [.int (x1 + 1), .int x1, .ref 8] S_5 rfl (by decide) rfl rfl rfl (okC_i rfl rfl rfl) C_35 (by decide) (ClI_mono H ?_))
      intro r21 di21 dl21 H
      refine q0 I_64_61 (wi_virtV (e := 2) [.int x1, .int (x1 + 1), .int r21] [] S_8 rfl (by decide) rfl rfl rfl (okC_i rfl rfl rfl) C_84 (by decide) (ClV_mono H ?_))
      intro di22 dl22 H
      refine q0 I_64_64 (wi_aload_n _ rfl ?_)
      refine q0 I_64_65 (wi_iload_n _ rfl ?_)
      refine q0 I_64_66 (wi_iconst 1 rfl ?_)
      refine q0 I_64_67 (wi_iadd ?_)
      refine q0 I_64_68 (wi_virtV (e := 2) [.int (x1 + 1)] [] S_8 rfl (by decide) rfl rfl rfl (okC_i rfl rfl rfl) C_87 (by decide) (ClV_mono H ?_))
      intro di23 dl23 H
      refine q0 I_64_71 (wi_aload_n _ rfl ?_)
      refine q0 I_64_72 (wi_iload_n _ rfl ?_)
      refine q0 I_64_73 (wi_iconst 1 rfl ?_)
      refine q0 I_64_74 (wi_iadd ?_)
      refine q0 I_64_75 (wi_virtI (e := 2) [.int (x1 + 1)] [] S_8 rfl (by decide) rfl rfl rfl (okC_i rfl rfl rfl) C_88 (by decide) (ClI_mono H ?_))
      intro r24 di24 dl24 H
      refine q0 I_64_78 (wi_pop rfl ?_)
      refine q0 I_64_79 (wi_iinc 1 [(0, .ref 8), (1, .int (x1 + 1))] rfl (lt_e X_64 rfl) rfl rfl ?_)
      refine q0 I_64_82 (wi_goto ?_)
      exact Wq_c I_64_31 rfl rfl H
theorem r_65 {a1 : Int32} {a2 : Int32} {di : tDi} {dl : tDl} {K : Int32 → tDi → tDl → Prop} (H : ((a1 < 0 → (K 0 di dl)) ∧ (0 ≤ a1 → ((26 ≤ a1 → (K 0 di dl)) ∧ (a1 < 26 → ((a2 < 0 → (K 0 di dl)) ∧ (0 ≤ a2 → ((8 ≤ a2 → (K 0 di dl)) ∧ (a2 < 8 → (inB a1 26 = true ∧ (inB a2 8 = true ∧ (K (di (10 + a1.toNatClampNeg) (a2.toNatClampNeg)) di dl)))))))))))) : ClI 1 65 [.ref 8, .int a1, .int a2] di dl K := by
  refine Cl_of C_65 Z_65 [(0, .ref 8), (1, .int a1), (2, .int a2)] rfl ?_
  refine q0 I_65_0 (wi_iload_n _ rfl ?_)
  refine q0 I_65_1 (wi_iload_n _ rfl ?_)
  refine q0 I_65_2 (wi_statI (e := 0) [.int a1, .int a2] [] rfl (Or.inl rfl) rfl rfl rfl (okC_i rfl rfl rfl) C_80 (by decide) (Cl_of C_80 Z_80 [(0, .int a1), (1, .int a2)] rfl ?_))
  refine q0 I_80_0 (wi_iload_n _ rfl ?_)
  refine q0 I_80_1 (wi_if_lt (fun h => ?_) (fun h => ?_))
  · replace H := H.1 h
    refine q1 (ls' := []) I_80_24 rfl (wi_iconst 0 rfl ?_)
    refine q1 (ls' := []) I_80_25 rfl (wi_zret T_80 (Or.inl C_80) (Or.inl rfl) ⟨_, rfl, ?_⟩)
    refine q0 I_65_5 (wi_ifT rfl ?_)
    refine q1 (ls' := []) I_65_19 rfl (wi_iconst 0 rfl ?_)
    exact q1 (ls' := []) I_65_20 rfl (wi_iret T_65 C_65 ⟨_, rfl, H⟩)
  · replace H := H.2 h
    refine q1 (ls' := [(0, .int a1), (1, .int a2)]) I_80_4 rfl (wi_iload_n _ rfl ?_)
    refine q0 I_80_5 (wi_bipush 26 rfl ?_)
    refine q0 I_80_7 (wi_ic_ge (fun h => ?_) (fun h => ?_))
    · replace H := H.1 h
      refine q1 (ls' := []) I_80_24 rfl (wi_iconst 0 rfl ?_)
      refine q1 (ls' := []) I_80_25 rfl (wi_zret T_80 (Or.inl C_80) (Or.inl rfl) ⟨_, rfl, ?_⟩)
      refine q0 I_65_5 (wi_ifT rfl ?_)
      refine q1 (ls' := []) I_65_19 rfl (wi_iconst 0 rfl ?_)
      exact q1 (ls' := []) I_65_20 rfl (wi_iret T_65 C_65 ⟨_, rfl, H⟩)
    · replace H := H.2 h
      refine q1 (ls' := [(1, .int a2)]) I_80_10 rfl (wi_iload_n _ rfl ?_)
      refine q0 I_80_11 (wi_if_lt (fun h => ?_) (fun h => ?_))
      · replace H := H.1 h
        refine q1 (ls' := []) I_80_24 rfl (wi_iconst 0 rfl ?_)
        refine q1 (ls' := []) I_80_25 rfl (wi_zret T_80 (Or.inl C_80) (Or.inl rfl) ⟨_, rfl, ?_⟩)
        refine q0 I_65_5 (wi_ifT rfl ?_)
        refine q1 (ls' := []) I_65_19 rfl (wi_iconst 0 rfl ?_)
        exact q1 (ls' := []) I_65_20 rfl (wi_iret T_65 C_65 ⟨_, rfl, H⟩)
      · replace H := H.2 h
        refine q1 (ls' := [(1, .int a2)]) I_80_14 rfl (wi_iload_n _ rfl ?_)
        refine q0 I_80_15 (wi_bipush 8 rfl ?_)
        refine q0 I_80_17 (wi_ic_ge (fun h => ?_) (fun h => ?_))
        · replace H := H.1 h
          refine q1 (ls' := []) I_80_24 rfl (wi_iconst 0 rfl ?_)
          refine q1 (ls' := []) I_80_25 rfl (wi_zret T_80 (Or.inl C_80) (Or.inl rfl) ⟨_, rfl, ?_⟩)
          refine q0 I_65_5 (wi_ifT rfl ?_)
          refine q1 (ls' := []) I_65_19 rfl (wi_iconst 0 rfl ?_)
          exact q1 (ls' := []) I_65_20 rfl (wi_iret T_65 C_65 ⟨_, rfl, H⟩)
        · replace H := H.2 h
          refine q1 (ls' := []) I_80_20 rfl (wi_iconst 1 rfl ?_)
          refine q0 I_80_21 (wi_goto ?_)
          refine q1 (ls' := []) I_80_25 rfl (wi_zret T_80 (Or.inl C_80) (Or.inr rfl) ⟨_, rfl, ?_⟩)
          refine q0 I_65_5 (wi_ifF rfl ?_)
          refine q1 (ls' := [(0, .ref 8), (1, .int a1), (2, .int a2)]) I_65_8 rfl (wi_aload_n _ rfl ?_)
          refine q0 I_65_9 (wi_get (.ref 9) S_8 rfl (by decide) rfl ?_)
          refine q0 I_65_12 (wi_iload_n _ rfl ?_)
          have hb1 := H.1
          replace H := H.2
          refine q0 I_65_13 (wi_aaload (e := 2) (10 + a1.toNatClampNeg) S_9 hb1 (by decide) (K_9 hb1) ?_)
          refine q0 I_65_14 (wi_iload_n _ rfl ?_)
          have hb2 := H.1
          replace H := H.2
          refine q0 I_65_15 (wi_iaload (a2.toNatClampNeg) (G_9 hb1) hb2 rfl ?_)
          refine q0 I_65_16 (wi_goto ?_)
          exact q1 (ls' := []) I_65_20 rfl (wi_iret T_65 C_65 ⟨_, rfl, H⟩)
theorem r_66 {a1 : Int32} {a2 : Int32} {di : tDi} {dl : tDl} {K : Int32 → tDi → tDl → Prop} (H : ((a1 < 0 → (K 0 di dl)) ∧ (0 ≤ a1 → ((26 ≤ a1 → (K 0 di dl)) ∧ (a1 < 26 → ((a2 < 0 → (K 0 di dl)) ∧ (0 ≤ a2 → ((8 ≤ a2 → (K 0 di dl)) ∧ (a2 < 8 → (inB a1 26 = true ∧ (inB a2 8 = true ∧ (K (di (37 + a1.toNatClampNeg) (a2.toNatClampNeg)) di dl)))))))))))) : ClI 1 66 [.ref 8, .int a1, .int a2] di dl K := by
  refine Cl_of C_66 Z_66 [(0, .ref 8), (1, .int a1), (2, .int a2)] rfl ?_
  refine q0 I_66_0 (wi_iload_n _ rfl ?_)
  refine q0 I_66_1 (wi_iload_n _ rfl ?_)
  refine q0 I_66_2 (wi_statI (e := 0) [.int a1, .int a2] [] rfl (Or.inl rfl) rfl rfl rfl (okC_i rfl rfl rfl) C_80 (by decide) (Cl_of C_80 Z_80 [(0, .int a1), (1, .int a2)] rfl ?_))
  refine q0 I_80_0 (wi_iload_n _ rfl ?_)
  refine q0 I_80_1 (wi_if_lt (fun h => ?_) (fun h => ?_))
  · replace H := H.1 h
    refine q1 (ls' := []) I_80_24 rfl (wi_iconst 0 rfl ?_)
    refine q1 (ls' := []) I_80_25 rfl (wi_zret T_80 (Or.inl C_80) (Or.inl rfl) ⟨_, rfl, ?_⟩)
    refine q0 I_66_5 (wi_ifT rfl ?_)
    refine q1 (ls' := []) I_66_19 rfl (wi_iconst 0 rfl ?_)
    exact q1 (ls' := []) I_66_20 rfl (wi_iret T_66 C_66 ⟨_, rfl, H⟩)
  · replace H := H.2 h
    refine q1 (ls' := [(0, .int a1), (1, .int a2)]) I_80_4 rfl (wi_iload_n _ rfl ?_)
    refine q0 I_80_5 (wi_bipush 26 rfl ?_)
    refine q0 I_80_7 (wi_ic_ge (fun h => ?_) (fun h => ?_))
    · replace H := H.1 h
      refine q1 (ls' := []) I_80_24 rfl (wi_iconst 0 rfl ?_)
      refine q1 (ls' := []) I_80_25 rfl (wi_zret T_80 (Or.inl C_80) (Or.inl rfl) ⟨_, rfl, ?_⟩)
      refine q0 I_66_5 (wi_ifT rfl ?_)
      refine q1 (ls' := []) I_66_19 rfl (wi_iconst 0 rfl ?_)
      exact q1 (ls' := []) I_66_20 rfl (wi_iret T_66 C_66 ⟨_, rfl, H⟩)
    · replace H := H.2 h
      refine q1 (ls' := [(1, .int a2)]) I_80_10 rfl (wi_iload_n _ rfl ?_)
      refine q0 I_80_11 (wi_if_lt (fun h => ?_) (fun h => ?_))
      · replace H := H.1 h
        refine q1 (ls' := []) I_80_24 rfl (wi_iconst 0 rfl ?_)
        refine q1 (ls' := []) I_80_25 rfl (wi_zret T_80 (Or.inl C_80) (Or.inl rfl) ⟨_, rfl, ?_⟩)
        refine q0 I_66_5 (wi_ifT rfl ?_)
        refine q1 (ls' := []) I_66_19 rfl (wi_iconst 0 rfl ?_)
        exact q1 (ls' := []) I_66_20 rfl (wi_iret T_66 C_66 ⟨_, rfl, H⟩)
      · replace H := H.2 h
        refine q1 (ls' := [(1, .int a2)]) I_80_14 rfl (wi_iload_n _ rfl ?_)
        refine q0 I_80_15 (wi_bipush 8 rfl ?_)
        refine q0 I_80_17 (wi_ic_ge (fun h => ?_) (fun h => ?_))
        · replace H := H.1 h
          refine q1 (ls' := []) I_80_24 rfl (wi_iconst 0 rfl ?_)
          refine q1 (ls' := []) I_80_25 rfl (wi_zret T_80 (Or.inl C_80) (Or.inl rfl) ⟨_, rfl, ?_⟩)
          refine q0 I_66_5 (wi_ifT rfl ?_)
          refine q1 (ls' := []) I_66_19 rfl (wi_iconst 0 rfl ?_)
          exact q1 (ls' := []) I_66_20 rfl (wi_iret T_66 C_66 ⟨_, rfl, H⟩)
        · replace H := H.2 h
          refine q1 (ls' := []) I_80_20 rfl (wi_iconst 1 rfl ?_)
          refine q0 I_80_21 (wi_goto ?_)
          refine q1 (ls' := []) I_80_25 rfl (wi_zret T_80 (Or.inl C_80) (Or.inr rfl) ⟨_, rfl, ?_⟩)
          refine q0 I_66_5 (wi_ifF rfl ?_)
          refine q1 (ls' := [(0, .ref 8), (1, .int a1), (2, .int a2)]) I_66_8 rfl (wi_aload_n _ rfl ?_)
          refine q0 I_66_9 (wi_get (.ref 36) S_8 rfl (by decide) rfl ?_)
          refine q0 I_66_12 (wi_iload_n _ rfl ?_)
          have hb1 := H.1
          replace H := H.2
          refine q0 I_66_13 (wi_aaload (e := 2) (37 + a1.toNatClampNeg) S_36 hb1 (by decide) (K_36 hb1) ?_)
          refine q0 I_66_14 (wi_iload_n _ rfl ?_)
          have hb2 := H.1
          replace H := H.2
          refine q0 I_66_15 (wi_iaload (a2.toNatClampNeg) (G_36 hb1) hb2 rfl ?_)
          refine q0 I_66_16 (wi_goto ?_)
          exact q1 (ls' := []) I_66_20 rfl (wi_iret T_66 C_66 ⟨_, rfl, H⟩)
theorem r_67 {a1 : Int32} {a2 : Int32} {di : tDi} {dl : tDl} {K : Int32 → tDi → tDl → Prop} (H : ((a1 < 0 → (K 0 di dl)) ∧ (0 ≤ a1 → ((26 ≤ a1 → (K 0 di dl)) ∧ (a1 < 26 → ((a2 < 0 → (K 0 di dl)) ∧ (0 ≤ a2 → ((8 ≤ a2 → (K 0 di dl)) ∧ (a2 < 8 → (inB a1 26 = true ∧ (inB a2 8 = true ∧ (K (di (64 + a1.toNatClampNeg) (a2.toNatClampNeg)) di dl)))))))))))) : ClI 1 67 [.ref 8, .int a1, .int a2] di dl K := by
  refine Cl_of C_67 Z_67 [(0, .ref 8), (1, .int a1), (2, .int a2)] rfl ?_
  refine q0 I_67_0 (wi_iload_n _ rfl ?_)
  refine q0 I_67_1 (wi_iload_n _ rfl ?_)
  refine q0 I_67_2 (wi_statI (e := 0) [.int a1, .int a2] [] rfl (Or.inl rfl) rfl rfl rfl (okC_i rfl rfl rfl) C_80 (by decide) (Cl_of C_80 Z_80 [(0, .int a1), (1, .int a2)] rfl ?_))
  refine q0 I_80_0 (wi_iload_n _ rfl ?_)
  refine q0 I_80_1 (wi_if_lt (fun h => ?_) (fun h => ?_))
  · replace H := H.1 h
    refine q1 (ls' := []) I_80_24 rfl (wi_iconst 0 rfl ?_)
    refine q1 (ls' := []) I_80_25 rfl (wi_zret T_80 (Or.inl C_80) (Or.inl rfl) ⟨_, rfl, ?_⟩)
    refine q0 I_67_5 (wi_ifT rfl ?_)
    refine q1 (ls' := []) I_67_19 rfl (wi_iconst 0 rfl ?_)
    exact q1 (ls' := []) I_67_20 rfl (wi_iret T_67 C_67 ⟨_, rfl, H⟩)
  · replace H := H.2 h
    refine q1 (ls' := [(0, .int a1), (1, .int a2)]) I_80_4 rfl (wi_iload_n _ rfl ?_)
    refine q0 I_80_5 (wi_bipush 26 rfl ?_)
    refine q0 I_80_7 (wi_ic_ge (fun h => ?_) (fun h => ?_))
    · replace H := H.1 h
      refine q1 (ls' := []) I_80_24 rfl (wi_iconst 0 rfl ?_)
      refine q1 (ls' := []) I_80_25 rfl (wi_zret T_80 (Or.inl C_80) (Or.inl rfl) ⟨_, rfl, ?_⟩)
      refine q0 I_67_5 (wi_ifT rfl ?_)
      refine q1 (ls' := []) I_67_19 rfl (wi_iconst 0 rfl ?_)
      exact q1 (ls' := []) I_67_20 rfl (wi_iret T_67 C_67 ⟨_, rfl, H⟩)
    · replace H := H.2 h
      refine q1 (ls' := [(1, .int a2)]) I_80_10 rfl (wi_iload_n _ rfl ?_)
      refine q0 I_80_11 (wi_if_lt (fun h => ?_) (fun h => ?_))
      · replace H := H.1 h
        refine q1 (ls' := []) I_80_24 rfl (wi_iconst 0 rfl ?_)
        refine q1 (ls' := []) I_80_25 rfl (wi_zret T_80 (Or.inl C_80) (Or.inl rfl) ⟨_, rfl, ?_⟩)
        refine q0 I_67_5 (wi_ifT rfl ?_)
        refine q1 (ls' := []) I_67_19 rfl (wi_iconst 0 rfl ?_)
        exact q1 (ls' := []) I_67_20 rfl (wi_iret T_67 C_67 ⟨_, rfl, H⟩)
      · replace H := H.2 h
        refine q1 (ls' := [(1, .int a2)]) I_80_14 rfl (wi_iload_n _ rfl ?_)
        refine q0 I_80_15 (wi_bipush 8 rfl ?_)
        refine q0 I_80_17 (wi_ic_ge (fun h => ?_) (fun h => ?_))
        · replace H := H.1 h
          refine q1 (ls' := []) I_80_24 rfl (wi_iconst 0 rfl ?_)
          refine q1 (ls' := []) I_80_25 rfl (wi_zret T_80 (Or.inl C_80) (Or.inl rfl) ⟨_, rfl, ?_⟩)
          refine q0 I_67_5 (wi_ifT rfl ?_)
          refine q1 (ls' := []) I_67_19 rfl (wi_iconst 0 rfl ?_)
          exact q1 (ls' := []) I_67_20 rfl (wi_iret T_67 C_67 ⟨_, rfl, H⟩)
        · replace H := H.2 h
          refine q1 (ls' := []) I_80_20 rfl (wi_iconst 1 rfl ?_)
          refine q0 I_80_21 (wi_goto ?_)
          refine q1 (ls' := []) I_80_25 rfl (wi_zret T_80 (Or.inl C_80) (Or.inr rfl) ⟨_, rfl, ?_⟩)
          refine q0 I_67_5 (wi_ifF rfl ?_)
          refine q1 (ls' := [(0, .ref 8), (1, .int a1), (2, .int a2)]) I_67_8 rfl (wi_aload_n _ rfl ?_)
          refine q0 I_67_9 (wi_get (.ref 63) S_8 rfl (by decide) rfl ?_)
          refine q0 I_67_12 (wi_iload_n _ rfl ?_)
          have hb1 := H.1
          replace H := H.2
          refine q0 I_67_13 (wi_aaload (e := 2) (64 + a1.toNatClampNeg) S_63 hb1 (by decide) (K_63 hb1) ?_)
          refine q0 I_67_14 (wi_iload_n _ rfl ?_)
          have hb2 := H.1
          replace H := H.2
          refine q0 I_67_15 (wi_iaload (a2.toNatClampNeg) (G_63 hb1) hb2 rfl ?_)
          refine q0 I_67_16 (wi_goto ?_)
          exact q1 (ls' := []) I_67_20 rfl (wi_iret T_67 C_67 ⟨_, rfl, H⟩)
theorem r_68 {a1 : Int32} {a2 : Int32} {di : tDi} {dl : tDl} {K : Int32 → tDi → tDl → Prop} (H : ((a1 < 0 → (K (-1) di dl)) ∧ (0 ≤ a1 → ((26 ≤ a1 → (K (-1) di dl)) ∧ (a1 < 26 → ((a2 < 0 → (K (-1) di dl)) ∧ (0 ≤ a2 → ((8 ≤ a2 → (K (-1) di dl)) ∧ (a2 < 8 → (inB a1 26 = true ∧ (inB a2 8 = true ∧ (K (di (118 + a1.toNatClampNeg) (a2.toNatClampNeg)) di dl)))))))))))) : ClI 0 68 [.ref 8, .int a1, .int a2] di dl K := by
  refine Cl_of C_68 Z_68 [(0, .ref 8), (1, .int a1), (2, .int a2)] rfl ?_
  refine q0 I_68_0 (wi_iload_n _ rfl ?_)
  refine q0 I_68_1 (wi_if_lt (fun h => ?_) (fun h => ?_))
  · replace H := H.1 h
    refine q1 (ls' := []) I_68_31 rfl (wi_iconst (-1) rfl ?_)
    exact q1 (ls' := []) I_68_32 rfl (wi_iret T_68 C_68 ⟨_, rfl, H⟩)
  · replace H := H.2 h
    refine q1 (ls' := [(0, .ref 8), (1, .int a1), (2, .int a2)]) I_68_4 rfl (wi_iload_n _ rfl ?_)
    refine q0 I_68_5 (wi_bipush 26 rfl ?_)
    refine q0 I_68_7 (wi_ic_ge (fun h => ?_) (fun h => ?_))
    · replace H := H.1 h
      refine q1 (ls' := []) I_68_31 rfl (wi_iconst (-1) rfl ?_)
      exact q1 (ls' := []) I_68_32 rfl (wi_iret T_68 C_68 ⟨_, rfl, H⟩)
    · replace H := H.2 h
      refine q1 (ls' := [(0, .ref 8), (1, .int a1), (2, .int a2)]) I_68_10 rfl (wi_iload_n _ rfl ?_)
      refine q0 I_68_11 (wi_if_lt (fun h => ?_) (fun h => ?_))
      · replace H := H.1 h
        refine q1 (ls' := []) I_68_31 rfl (wi_iconst (-1) rfl ?_)
        exact q1 (ls' := []) I_68_32 rfl (wi_iret T_68 C_68 ⟨_, rfl, H⟩)
      · replace H := H.2 h
        refine q1 (ls' := [(0, .ref 8), (1, .int a1), (2, .int a2)]) I_68_14 rfl (wi_iload_n _ rfl ?_)
        refine q0 I_68_15 (wi_bipush 8 rfl ?_)
        refine q0 I_68_17 (wi_ic_ge (fun h => ?_) (fun h => ?_))
        · replace H := H.1 h
          refine q1 (ls' := []) I_68_31 rfl (wi_iconst (-1) rfl ?_)
          exact q1 (ls' := []) I_68_32 rfl (wi_iret T_68 C_68 ⟨_, rfl, H⟩)
        · replace H := H.2 h
          refine q1 (ls' := [(0, .ref 8), (1, .int a1), (2, .int a2)]) I_68_20 rfl (wi_aload_n _ rfl ?_)
          refine q0 I_68_21 (wi_get (.ref 117) S_8 rfl (by decide) rfl ?_)
          refine q0 I_68_24 (wi_iload_n _ rfl ?_)
          have hb1 := H.1
          replace H := H.2
          refine q0 I_68_25 (wi_aaload (e := 2) (118 + a1.toNatClampNeg) S_117 hb1 (by decide) (K_117 hb1) ?_)
          refine q0 I_68_26 (wi_iload_n _ rfl ?_)
          have hb2 := H.1
          replace H := H.2
          refine q0 I_68_27 (wi_iaload (a2.toNatClampNeg) (G_117 hb1) hb2 rfl ?_)
          refine q0 I_68_28 (wi_goto ?_)
          exact q1 (ls' := []) I_68_32 rfl (wi_iret T_68 C_68 ⟨_, rfl, H⟩)
theorem r_69 {a1 : Int32} {a2 : Int32} {di : tDi} {dl : tDl} {K : Int32 → tDi → tDl → Prop} (H : ((a1 < 0 → (K 0 di dl)) ∧ (0 ≤ a1 → ((26 ≤ a1 → (K 0 di dl)) ∧ (a1 < 26 → ((a2 < 0 → (K 0 di dl)) ∧ (0 ≤ a2 → ((8 ≤ a2 → (K 0 di dl)) ∧ (a2 < 8 → ((a2 < 0 → (K 0 di dl)) ∧ (0 ≤ a2 → (((di 1 4) ≤ a2 → (K 0 di dl)) ∧ (a2 < (di 1 4) → (inB a1 26 = true ∧ (inB a2 8 = true ∧ (K (di (91 + a1.toNatClampNeg) (a2.toNatClampNeg)) di dl)))))))))))))))) : ClI 1 69 [.ref 8, .int a1, .int a2] di dl K := by
  refine Cl_of C_69 Z_69 [(0, .ref 8), (1, .int a1), (2, .int a2)] rfl ?_
  refine q0 I_69_0 (wi_iload_n _ rfl ?_)
  refine q0 I_69_1 (wi_iload_n _ rfl ?_)
  refine q0 I_69_2 (wi_statI (e := 0) [.int a1, .int a2] [] rfl (Or.inl rfl) rfl rfl rfl (okC_i rfl rfl rfl) C_80 (by decide) (Cl_of C_80 Z_80 [(0, .int a1), (1, .int a2)] rfl ?_))
  refine q0 I_80_0 (wi_iload_n _ rfl ?_)
  refine q0 I_80_1 (wi_if_lt (fun h => ?_) (fun h => ?_))
  · replace H := H.1 h
    refine q1 (ls' := []) I_80_24 rfl (wi_iconst 0 rfl ?_)
    refine q1 (ls' := []) I_80_25 rfl (wi_zret T_80 (Or.inl C_80) (Or.inl rfl) ⟨_, rfl, ?_⟩)
    refine q0 I_69_5 (wi_ifT rfl ?_)
    refine q1 (ls' := []) I_69_30 rfl (wi_iconst 0 rfl ?_)
    exact q1 (ls' := []) I_69_31 rfl (wi_iret T_69 C_69 ⟨_, rfl, H⟩)
  · replace H := H.2 h
    refine q1 (ls' := [(0, .int a1), (1, .int a2)]) I_80_4 rfl (wi_iload_n _ rfl ?_)
    refine q0 I_80_5 (wi_bipush 26 rfl ?_)
    refine q0 I_80_7 (wi_ic_ge (fun h => ?_) (fun h => ?_))
    · replace H := H.1 h
      refine q1 (ls' := []) I_80_24 rfl (wi_iconst 0 rfl ?_)
      refine q1 (ls' := []) I_80_25 rfl (wi_zret T_80 (Or.inl C_80) (Or.inl rfl) ⟨_, rfl, ?_⟩)
      refine q0 I_69_5 (wi_ifT rfl ?_)
      refine q1 (ls' := []) I_69_30 rfl (wi_iconst 0 rfl ?_)
      exact q1 (ls' := []) I_69_31 rfl (wi_iret T_69 C_69 ⟨_, rfl, H⟩)
    · replace H := H.2 h
      refine q1 (ls' := [(1, .int a2)]) I_80_10 rfl (wi_iload_n _ rfl ?_)
      refine q0 I_80_11 (wi_if_lt (fun h => ?_) (fun h => ?_))
      · replace H := H.1 h
        refine q1 (ls' := []) I_80_24 rfl (wi_iconst 0 rfl ?_)
        refine q1 (ls' := []) I_80_25 rfl (wi_zret T_80 (Or.inl C_80) (Or.inl rfl) ⟨_, rfl, ?_⟩)
        refine q0 I_69_5 (wi_ifT rfl ?_)
        refine q1 (ls' := []) I_69_30 rfl (wi_iconst 0 rfl ?_)
        exact q1 (ls' := []) I_69_31 rfl (wi_iret T_69 C_69 ⟨_, rfl, H⟩)
      · replace H := H.2 h
        refine q1 (ls' := [(1, .int a2)]) I_80_14 rfl (wi_iload_n _ rfl ?_)
        refine q0 I_80_15 (wi_bipush 8 rfl ?_)
        refine q0 I_80_17 (wi_ic_ge (fun h => ?_) (fun h => ?_))
        · replace H := H.1 h
          refine q1 (ls' := []) I_80_24 rfl (wi_iconst 0 rfl ?_)
          refine q1 (ls' := []) I_80_25 rfl (wi_zret T_80 (Or.inl C_80) (Or.inl rfl) ⟨_, rfl, ?_⟩)
          refine q0 I_69_5 (wi_ifT rfl ?_)
          refine q1 (ls' := []) I_69_30 rfl (wi_iconst 0 rfl ?_)
          exact q1 (ls' := []) I_69_31 rfl (wi_iret T_69 C_69 ⟨_, rfl, H⟩)
        · replace H := H.2 h
          refine q1 (ls' := []) I_80_20 rfl (wi_iconst 1 rfl ?_)
          refine q0 I_80_21 (wi_goto ?_)
          refine q1 (ls' := []) I_80_25 rfl (wi_zret T_80 (Or.inl C_80) (Or.inr rfl) ⟨_, rfl, ?_⟩)
          refine q0 I_69_5 (wi_ifF rfl ?_)
          refine q1 (ls' := [(0, .ref 8), (1, .int a1), (2, .int a2)]) I_69_8 rfl (wi_aload_n _ rfl ?_)
          refine q0 I_69_9 (wi_get (.ref 1) S_8 rfl (by decide) rfl ?_)
          refine q0 I_69_12 (wi_iload_n _ rfl ?_)
          refine q0 I_69_13 (wi_virtI (e := 0) [.int a2] [] S_1 rfl (by decide) rfl rfl rfl (okC_i rfl rfl rfl) C_53 (by decide) (Cl_of C_53 Z_53 [(0, .ref 1), (1, .int a2)] rfl ?_))
          refine q0 I_53_0 (wi_iload_n _ rfl ?_)
          refine q0 I_53_1 (wi_if_lt (fun h => ?_) (fun h => ?_))
          · replace H := H.1 h
            refine q1 (ls' := []) I_53_16 rfl (wi_iconst 0 rfl ?_)
            refine q1 (ls' := []) I_53_17 rfl (wi_zret T_53 (Or.inl C_53) (Or.inl rfl) ⟨_, rfl, ?_⟩)
            refine q0 I_69_16 (wi_ifT rfl ?_)
            refine q1 (ls' := []) I_69_30 rfl (wi_iconst 0 rfl ?_)
            exact q1 (ls' := []) I_69_31 rfl (wi_iret T_69 C_69 ⟨_, rfl, H⟩)
          · replace H := H.2 h
            refine q1 (ls' := [(0, .ref 1), (1, .int a2)]) I_53_4 rfl (wi_iload_n _ rfl ?_)
            refine q0 I_53_5 (wi_aload_n _ rfl ?_)
            refine q0 I_53_6 (wi_getI S_1 rfl (by decide) rfl ?_)
            refine q0 I_53_9 (wi_ic_ge (fun h => ?_) (fun h => ?_))
            · replace H := H.1 h
              refine q1 (ls' := []) I_53_16 rfl (wi_iconst 0 rfl ?_)
              refine q1 (ls' := []) I_53_17 rfl (wi_zret T_53 (Or.inl C_53) (Or.inl rfl) ⟨_, rfl, ?_⟩)
              refine q0 I_69_16 (wi_ifT rfl ?_)
              refine q1 (ls' := []) I_69_30 rfl (wi_iconst 0 rfl ?_)
              exact q1 (ls' := []) I_69_31 rfl (wi_iret T_69 C_69 ⟨_, rfl, H⟩)
            · replace H := H.2 h
              refine q1 (ls' := []) I_53_12 rfl (wi_iconst 1 rfl ?_)
              refine q0 I_53_13 (wi_goto ?_)
              refine q1 (ls' := []) I_53_17 rfl (wi_zret T_53 (Or.inl C_53) (Or.inr rfl) ⟨_, rfl, ?_⟩)
              refine q0 I_69_16 (wi_ifF rfl ?_)
              refine q1 (ls' := [(0, .ref 8), (1, .int a1), (2, .int a2)]) I_69_19 rfl (wi_aload_n _ rfl ?_)
              refine q0 I_69_20 (wi_get (.ref 90) S_8 rfl (by decide) rfl ?_)
              refine q0 I_69_23 (wi_iload_n _ rfl ?_)
              have hb1 := H.1
              replace H := H.2
              refine q0 I_69_24 (wi_aaload (e := 2) (91 + a1.toNatClampNeg) S_90 hb1 (by decide) (K_90 hb1) ?_)
              refine q0 I_69_25 (wi_iload_n _ rfl ?_)
              have hb2 := H.1
              replace H := H.2
              refine q0 I_69_26 (wi_iaload (a2.toNatClampNeg) (G_90 hb1) hb2 rfl ?_)
              refine q0 I_69_27 (wi_goto ?_)
              exact q1 (ls' := []) I_69_31 rfl (wi_iret T_69 C_69 ⟨_, rfl, H⟩)
theorem r_70 {a1 : Int32} {a2 : Int32} {di : tDi} {dl : tDl} {K : Int32 → tDi → tDl → Prop} (H : (Wq none 2 70 5 [(0, .ref 8), (1, .int a1), (2, .int a2), (3, .int 0), (4, .int 0)] [] di dl (RI K))) : ClI 2 70 [.ref 8, .int a1, .int a2] di dl K := by
  refine Cl_of C_70 Z_70 [(0, .ref 8), (1, .int a1), (2, .int a2)] rfl ?_
  refine q0 I_70_0 (wi_iconst 0 rfl ?_)
  refine q0 I_70_1 (wi_istore_n [(0, .ref 8), (1, .int a1), (2, .int a2), (3, .int 0)] (lt_e X_70 rfl) rfl ?_)
  refine q0 I_70_2 (wi_iconst 0 rfl ?_)
  refine q0 I_70_3 (wi_istore [(0, .ref 8), (1, .int a1), (2, .int a2), (3, .int 0), (4, .int 0)] (lt_e X_70 rfl) rfl ?_)
  exact Wq_c I_70_5 rfl rfl H
theorem r_70_5 {x1 : Int32} {x2 : Int32} {x3 : Int32} {x4 : Int32} {di : tDi} {dl : tDl} {K : Int32 → tDi → tDl → Prop} (H : (((di 1 4) ≤ x4 → (K x3 di dl)) ∧ (x4 < (di 1 4) → (ClI 1 69 [.ref 8, .int x1, .int x4] di dl (fun r21 di21 dl21 => ((((r21 >>> (x2 &&& 31)) &&& 1) = 0 → (Wq none 2 70 5 [(0, .ref 8), (1, .int x1), (2, .int x2), (3, .int x3), (4, .int (x4 + 1))] [] di21 dl21 (RI K))) ∧ (¬ ((r21 >>> (x2 &&& 31)) &&& 1) = 0 → (Wq none 2 70 5 [(0, .ref 8), (1, .int x1), (2, .int x2), (3, .int (x3 ||| ((1 : Int32) <<< (x4 &&& 31)))), (4, .int (x4 + 1))] [] di21 dl21 (RI K))))))))) : Wq none 2 70 5 [(0, .ref 8), (1, .int x1), (2, .int x2), (3, .int x3), (4, .int x4)] [] di dl (RI K) := by
  refine q1 (ls' := [(0, .ref 8), (1, .int x1), (2, .int x2), (3, .int x3), (4, .int x4)]) I_70_5 rfl (wi_iload _ rfl ?_)
  refine q0 I_70_7 (wi_aload_n _ rfl ?_)
  refine q0 I_70_8 (wi_get (.ref 1) S_8 rfl (by decide) rfl ?_)
  refine q0 I_70_11 (wi_getI S_1 rfl (by decide) rfl ?_)
  refine q0 I_70_14 (wi_ic_ge (fun h => ?_) (fun h => ?_))
  · replace H := H.1 h
    refine q1 (ls' := [(3, .int x3)]) I_70_44 rfl (wi_iload_n _ rfl ?_)
    exact q0 I_70_45 (wi_iret T_70 C_70 ⟨_, rfl, H⟩)
  · replace H := H.2 h
    refine q1 (ls' := [(0, .ref 8), (1, .int x1), (2, .int x2), (3, .int x3), (4, .int x4)]) I_70_17 rfl (wi_aload_n _ rfl ?_)
    refine q0 I_70_18 (wi_iload_n _ rfl ?_)
    refine q0 I_70_19 (wi_iload _ rfl ?_)
    refine q0 I_70_21 (wi_virtI (e := 1) [.int x1, .int x4] [] S_8 rfl (by decide) rfl rfl rfl (okC_i rfl rfl rfl) C_69 (by decide) (ClI_mono H ?_))
    intro r21 di21 dl21 H
    refine q0 I_70_24 (wi_iload_n _ rfl ?_)
    refine q0 I_70_25 (wi_ishr ?_)
    refine q0 I_70_26 (wi_iconst 1 rfl ?_)
    refine q0 I_70_27 (wi_iand ?_)
    refine q0 I_70_28 (wi_if_eq (fun h => ?_) (fun h => ?_))
    · replace H := H.1 h
      refine q1 (ls' := [(0, .ref 8), (1, .int x1), (2, .int x2), (3, .int x3), (4, .int x4)]) I_70_38 rfl (wi_iinc 1 [(0, .ref 8), (1, .int x1), (2, .int x2), (3, .int x3), (4, .int (x4 + 1))] rfl (lt_e X_70 rfl) rfl rfl ?_)
      refine q0 I_70_41 (wi_goto ?_)
      exact Wq_c I_70_5 rfl rfl H
    · replace H := H.2 h
      refine q1 (ls' := [(0, .ref 8), (1, .int x1), (2, .int x2), (3, .int x3), (4, .int x4)]) I_70_31 rfl (wi_iload_n _ rfl ?_)
      refine q0 I_70_32 (wi_iconst 1 rfl ?_)
      refine q0 I_70_33 (wi_iload _ rfl ?_)
      refine q0 I_70_35 (wi_ishl ?_)
      refine q0 I_70_36 (wi_ior ?_)
      refine q0 I_70_37 (wi_istore_n [(0, .ref 8), (1, .int x1), (2, .int x2), (3, .int (x3 ||| ((1 : Int32) <<< (x4 &&& 31)))), (4, .int x4)] (lt_e X_70 rfl) rfl ?_)
      refine q1 (ls' := [(0, .ref 8), (1, .int x1), (2, .int x2), (3, .int (x3 ||| ((1 : Int32) <<< (x4 &&& 31)))), (4, .int x4)]) I_70_38 rfl (wi_iinc 1 [(0, .ref 8), (1, .int x1), (2, .int x2), (3, .int (x3 ||| ((1 : Int32) <<< (x4 &&& 31)))), (4, .int (x4 + 1))] rfl (lt_e X_70 rfl) rfl rfl ?_)
      refine q0 I_70_41 (wi_goto ?_)
      exact Wq_c I_70_5 rfl rfl H
theorem r_71 {a1 : Int32} {di : tDi} {dl : tDl} {K : Int32 → tDi → tDl → Prop} (H : (Wq none 1 71 4 [(0, .ref 8), (1, .int a1), (2, .int 0), (3, .int 0)] [] di dl (RI K))) : ClI 1 71 [.ref 8, .int a1] di dl K := by
  refine Cl_of C_71 Z_71 [(0, .ref 8), (1, .int a1)] rfl ?_
  refine q0 I_71_0 (wi_iconst 0 rfl ?_)
  refine q0 I_71_1 (wi_istore_n [(0, .ref 8), (1, .int a1), (2, .int 0)] (lt_e X_71 rfl) rfl ?_)
  refine q0 I_71_2 (wi_iconst 0 rfl ?_)
  refine q0 I_71_3 (wi_istore_n [(0, .ref 8), (1, .int a1), (2, .int 0), (3, .int 0)] (lt_e X_71 rfl) rfl ?_)
  exact Wq_c I_71_4 rfl rfl H
theorem r_71_4 {x1 : Int32} {x2 : Int32} {x3 : Int32} {di : tDi} {dl : tDl} {K : Int32 → tDi → tDl → Prop} (H : (((di 1 4) ≤ x3 → (K x2 di dl)) ∧ (x3 < (di 1 4) → (ClI 0 68 [.ref 8, .int x1, .int x3] di dl (fun r21 di21 dl21 => ((¬ r21 = (-1) → (Wq none 1 71 4 [(0, .ref 8), (1, .int x1), (2, .int x2), (3, .int (x3 + 1))] [] di21 dl21 (RI K))) ∧ (r21 = (-1) → (Wq none 1 71 4 [(0, .ref 8), (1, .int x1), (2, .int (x2 ||| ((1 : Int32) <<< (x3 &&& 31)))), (3, .int (x3 + 1))] [] di21 dl21 (RI K))))))))) : Wq none 1 71 4 [(0, .ref 8), (1, .int x1), (2, .int x2), (3, .int x3)] [] di dl (RI K) := by
  refine q1 (ls' := [(0, .ref 8), (1, .int x1), (2, .int x2), (3, .int x3)]) I_71_4 rfl (wi_iload_n _ rfl ?_)
  refine q0 I_71_5 (wi_aload_n _ rfl ?_)
  refine q0 I_71_6 (wi_get (.ref 1) S_8 rfl (by decide) rfl ?_)
  refine q0 I_71_9 (wi_getI S_1 rfl (by decide) rfl ?_)
  refine q0 I_71_12 (wi_ic_ge (fun h => ?_) (fun h => ?_))
  · replace H := H.1 h
    refine q1 (ls' := [(2, .int x2)]) I_71_37 rfl (wi_iload_n _ rfl ?_)
    exact q0 I_71_38 (wi_iret T_71 C_71 ⟨_, rfl, H⟩)
  · replace H := H.2 h
    refine q1 (ls' := [(0, .ref 8), (1, .int x1), (2, .int x2), (3, .int x3)]) I_71_15 rfl (wi_aload_n _ rfl ?_)
    refine q0 I_71_16 (wi_iload_n _ rfl ?_)
    refine q0 I_71_17 (wi_iload_n _ rfl ?_)
    refine q0 I_71_18 (wi_virtI (e := 0) [.int x1, .int x3] [] S_8 rfl (by decide) rfl rfl rfl (okC_i rfl rfl rfl) C_68 (by decide) (ClI_mono H ?_))
    intro r21 di21 dl21 H
    refine q0 I_71_21 (wi_iconst (-1) rfl ?_)
    refine q0 I_71_22 (wi_ic_ne (fun h => ?_) (fun h => ?_))
    · replace H := H.1 h
      refine q1 (ls' := [(0, .ref 8), (1, .int x1), (2, .int x2), (3, .int x3)]) I_71_31 rfl (wi_iinc 1 [(0, .ref 8), (1, .int x1), (2, .int x2), (3, .int (x3 + 1))] rfl (lt_e X_71 rfl) rfl rfl ?_)
      refine q0 I_71_34 (wi_goto ?_)
      exact Wq_c I_71_4 rfl rfl H
    · replace H := H.2 h
      refine q1 (ls' := [(0, .ref 8), (1, .int x1), (2, .int x2), (3, .int x3)]) I_71_25 rfl (wi_iload_n _ rfl ?_)
      refine q0 I_71_26 (wi_iconst 1 rfl ?_)
      refine q0 I_71_27 (wi_iload_n _ rfl ?_)
      refine q0 I_71_28 (wi_ishl ?_)
      refine q0 I_71_29 (wi_ior ?_)
      refine q0 I_71_30 (wi_istore_n [(0, .ref 8), (1, .int x1), (2, .int (x2 ||| ((1 : Int32) <<< (x3 &&& 31)))), (3, .int x3)] (lt_e X_71 rfl) rfl ?_)
      refine q1 (ls' := [(0, .ref 8), (1, .int x1), (2, .int (x2 ||| ((1 : Int32) <<< (x3 &&& 31)))), (3, .int x3)]) I_71_31 rfl (wi_iinc 1 [(0, .ref 8), (1, .int x1), (2, .int (x2 ||| ((1 : Int32) <<< (x3 &&& 31)))), (3, .int (x3 + 1))] rfl (lt_e X_71 rfl) rfl rfl ?_)
      refine q0 I_71_34 (wi_goto ?_)
      exact Wq_c I_71_4 rfl rfl H
theorem r_72 {a1 : Int32} {di : tDi} {dl : tDl} {K : Int32 → tDi → tDl → Prop} (H : (Wq none 2 72 4 [(0, .ref 8), (1, .int a1), (2, .int 0), (3, .int 0)] [] di dl (RI K))) : ClI 2 72 [.ref 8, .int a1] di dl K := by
  refine Cl_of C_72 Z_72 [(0, .ref 8), (1, .int a1)] rfl ?_
  refine q0 I_72_0 (wi_iconst 0 rfl ?_)
  refine q0 I_72_1 (wi_istore_n [(0, .ref 8), (1, .int a1), (2, .int 0)] (lt_e X_72 rfl) rfl ?_)
  refine q0 I_72_2 (wi_iconst 0 rfl ?_)
  refine q0 I_72_3 (wi_istore_n [(0, .ref 8), (1, .int a1), (2, .int 0), (3, .int 0)] (lt_e X_72 rfl) rfl ?_)
  exact Wq_c I_72_4 rfl rfl H
theorem r_72_4 {x1 : Int32} {x2 : Int32} {x3 : Int32} {di : tDi} {dl : tDl} {K : Int32 → tDi → tDl → Prop} (H : (((di 3 4) ≤ x3 → (K x2 di dl)) ∧ (x3 < (di 3 4) → (ClI 1 67 [.ref 8, .int x1, .int x3] di dl (fun r21 di21 dl21 => ((¬ r21 = 0 → (Wq none 2 72 4 [(0, .ref 8), (1, .int x1), (2, .int x2), (3, .int (x3 + 1))] [] di21 dl21 (RI K))) ∧ (r21 = 0 → (Wq none 2 72 4 [(0, .ref 8), (1, .int x1), (2, .int (x2 ||| ((1 : Int32) <<< (x3 &&& 31)))), (3, .int (x3 + 1))] [] di21 dl21 (RI K))))))))) : Wq none 2 72 4 [(0, .ref 8), (1, .int x1), (2, .int x2), (3, .int x3)] [] di dl (RI K) := by
  refine q1 (ls' := [(0, .ref 8), (1, .int x1), (2, .int x2), (3, .int x3)]) I_72_4 rfl (wi_iload_n _ rfl ?_)
  refine q0 I_72_5 (wi_aload_n _ rfl ?_)
  refine q0 I_72_6 (wi_get (.ref 3) S_8 rfl (by decide) rfl ?_)
  refine q0 I_72_9 (wi_getI S_3 rfl (by decide) rfl ?_)
  refine q0 I_72_12 (wi_ic_ge (fun h => ?_) (fun h => ?_))
  · replace H := H.1 h
    refine q1 (ls' := [(2, .int x2)]) I_72_36 rfl (wi_iload_n _ rfl ?_)
    exact q0 I_72_37 (wi_iret T_72 C_72 ⟨_, rfl, H⟩)
  · replace H := H.2 h
    refine q1 (ls' := [(0, .ref 8), (1, .int x1), (2, .int x2), (3, .int x3)]) I_72_15 rfl (wi_aload_n _ rfl ?_)
    refine q0 I_72_16 (wi_iload_n _ rfl ?_)
    refine q0 I_72_17 (wi_iload_n _ rfl ?_)
    refine q0 I_72_18 (wi_virtI (e := 1) [.int x1, .int x3] [] S_8 rfl (by decide) rfl rfl rfl (okC_i rfl rfl rfl) C_67 (by decide) (ClI_mono H ?_))
    intro r21 di21 dl21 H
    refine q0 I_72_21 (wi_if_ne (fun h => ?_) (fun h => ?_))
    · replace H := H.1 h
      refine q1 (ls' := [(0, .ref 8), (1, .int x1), (2, .int x2), (3, .int x3)]) I_72_30 rfl (wi_iinc 1 [(0, .ref 8), (1, .int x1), (2, .int x2), (3, .int (x3 + 1))] rfl (lt_e X_72 rfl) rfl rfl ?_)
      refine q0 I_72_33 (wi_goto ?_)
      exact Wq_c I_72_4 rfl rfl H
    · replace H := H.2 h
      refine q1 (ls' := [(0, .ref 8), (1, .int x1), (2, .int x2), (3, .int x3)]) I_72_24 rfl (wi_iload_n _ rfl ?_)
      refine q0 I_72_25 (wi_iconst 1 rfl ?_)
      refine q0 I_72_26 (wi_iload_n _ rfl ?_)
      refine q0 I_72_27 (wi_ishl ?_)
      refine q0 I_72_28 (wi_ior ?_)
      refine q0 I_72_29 (wi_istore_n [(0, .ref 8), (1, .int x1), (2, .int (x2 ||| ((1 : Int32) <<< (x3 &&& 31)))), (3, .int x3)] (lt_e X_72 rfl) rfl ?_)
      refine q1 (ls' := [(0, .ref 8), (1, .int x1), (2, .int (x2 ||| ((1 : Int32) <<< (x3 &&& 31)))), (3, .int x3)]) I_72_30 rfl (wi_iinc 1 [(0, .ref 8), (1, .int x1), (2, .int (x2 ||| ((1 : Int32) <<< (x3 &&& 31)))), (3, .int (x3 + 1))] rfl (lt_e X_72 rfl) rfl rfl ?_)
      refine q0 I_72_33 (wi_goto ?_)
      exact Wq_c I_72_4 rfl rfl H
theorem r_73 {a1 : Int32} {di : tDi} {dl : tDl} {K : Int32 → tDi → tDl → Prop} (H : (ClI 1 35 [.ref 5, .int a1] di dl (fun r1 di1 dl1 => ((r1 = 2 → (Wq none 2 73 18 [(0, .ref 8), (1, .int a1), (2, .int 0), (3, .int 0)] [] di1 dl1 (RI K))) ∧ (¬ r1 = 2 → (K 0 di1 dl1)))))) : ClI 2 73 [.ref 8, .int a1] di dl K := by
  refine Cl_of C_73 Z_73 [(0, .ref 8), (1, .int a1)] rfl ?_
  refine q0 I_73_0 (wi_aload_n _ rfl ?_)
  refine q0 I_73_1 (wi_get (.ref 5) S_8 rfl (by decide) rfl ?_)
  refine q0 I_73_4 (wi_iload_n _ rfl ?_)
  refine q0 I_73_5 (wi_virtI (e := 1) [.int a1] [] S_5 rfl (by decide) rfl rfl rfl (okC_i rfl rfl rfl) C_35 (by decide) (ClI_mono H ?_))
  intro r1 di1 dl1 H
  refine q0 I_73_8 (wi_iconst 2 rfl ?_)
  refine q0 I_73_9 (wi_ic_eq (fun h => ?_) (fun h => ?_))
  · replace H := H.1 h
    refine q1 (ls' := [(0, .ref 8), (1, .int a1)]) I_73_14 rfl (wi_iconst 0 rfl ?_)
    refine q0 I_73_15 (wi_istore_n [(0, .ref 8), (1, .int a1), (2, .int 0)] (lt_e X_73 rfl) rfl ?_)
    refine q0 I_73_16 (wi_iconst 0 rfl ?_)
    refine q0 I_73_17 (wi_istore_n [(0, .ref 8), (1, .int a1), (2, .int 0), (3, .int 0)] (lt_e X_73 rfl) rfl ?_)
    exact Wq_c I_73_18 rfl rfl H
  · replace H := H.2 h
    refine q1 (ls' := []) I_73_12 rfl (wi_iconst 0 rfl ?_)
    exact q0 I_73_13 (wi_iret T_73 C_73 ⟨_, rfl, H⟩)
theorem r_73_18 {x1 : Int32} {x2 : Int32} {x3 : Int32} {di : tDi} {dl : tDl} {K : Int32 → tDi → tDl → Prop} (H : (((di 1 4) ≤ x3 → (K x2 di dl)) ∧ (x3 < (di 1 4) → (ClI 1 50 [.ref 1, .int x3] di dl (fun r21 di21 dl21 => ((r21 = 0 → (Wq none 2 73 18 [(0, .ref 8), (1, .int x1), (2, .int x2), (3, .int (x3 + 1))] [] di21 dl21 (RI K))) ∧ (¬ r21 = 0 → (ClI 0 68 [.ref 8, .int (x1 + 1), .int x3] di21 dl21 (fun r22 di22 dl22 => ((¬ r22 = (-1) → (Wq none 2 73 18 [(0, .ref 8), (1, .int x1), (2, .int x2), (3, .int (x3 + 1))] [] di22 dl22 (RI K))) ∧ (r22 = (-1) → (Wq none 2 73 18 [(0, .ref 8), (1, .int x1), (2, .int (x2 ||| ((1 : Int32) <<< (x3 &&& 31)))), (3, .int (x3 + 1))] [] di22 dl22 (RI K))))))))))))) : Wq none 2 73 18 [(0, .ref 8), (1, .int x1), (2, .int x2), (3, .int x3)] [] di dl (RI K) := by
  refine q1 (ls' := [(0, .ref 8), (1, .int x1), (2, .int x2), (3, .int x3)]) I_73_18 rfl (wi_iload_n _ rfl ?_)
  refine q0 I_73_19 (wi_aload_n _ rfl ?_)
  refine q0 I_73_20 (wi_get (.ref 1) S_8 rfl (by decide) rfl ?_)
  refine q0 I_73_23 (wi_getI S_1 rfl (by decide) rfl ?_)
  refine q0 I_73_26 (wi_ic_ge (fun h => ?_) (fun h => ?_))
  · replace H := H.1 h
    refine q1 (ls' := [(2, .int x2)]) I_73_64 rfl (wi_iload_n _ rfl ?_)
    exact q0 I_73_65 (wi_iret T_73 C_73 ⟨_, rfl, H⟩)
  · replace H := H.2 h
    refine q1 (ls' := [(0, .ref 8), (1, .int x1), (2, .int x2), (3, .int x3)]) I_73_29 rfl (wi_aload_n _ rfl ?_)
    refine q0 I_73_30 (wi_get (.ref 1) S_8 rfl (by decide) rfl ?_)
    refine q0 I_73_33 (wi_iload_n _ rfl ?_)
    refine q0 I_73_34 (wi_virtI (e := 1) [.int x3] [] S_1 rfl (by decide) rfl rfl rfl (okC_i rfl rfl rfl) C_50 (by decide) (ClI_mono H ?_))
    intro r21 di21 dl21 H
    refine q0 I_73_37 (wi_if_eq (fun h => ?_) (fun h => ?_))
    · replace H := H.1 h
      refine q1 (ls' := [(0, .ref 8), (1, .int x1), (2, .int x2), (3, .int x3)]) I_73_58 rfl (wi_iinc 1 [(0, .ref 8), (1, .int x1), (2, .int x2), (3, .int (x3 + 1))] rfl (lt_e X_73 rfl) rfl rfl ?_)
      refine q0 I_73_61 (wi_goto ?_)
      exact Wq_c I_73_18 rfl rfl H
    · replace H := H.2 h
      refine q1 (ls' := [(0, .ref 8), (1, .int x1), (2, .int x2), (3, .int x3)]) I_73_40 rfl (wi_aload_n _ rfl ?_)
      refine q0 I_73_41 (wi_iload_n _ rfl ?_)
      refine q0 I_73_42 (wi_iconst 1 rfl ?_)
      refine q0 I_73_43 (wi_iadd ?_)
      refine q0 I_73_44 (wi_iload_n _ rfl ?_)
      refine q0 I_73_45 (wi_virtI (e := 0) [.int (x1 + 1), .int x3] [] S_8 rfl (by decide) rfl rfl rfl (okC_i rfl rfl rfl) C_68 (by decide) (ClI_mono H ?_))
      intro r22 di22 dl22 H
      refine q0 I_73_48 (wi_iconst (-1) rfl ?_)
      refine q0 I_73_49 (wi_ic_ne (fun h => ?_) (fun h => ?_))
      · replace H := H.1 h
        refine q1 (ls' := [(0, .ref 8), (1, .int x1), (2, .int x2), (3, .int x3)]) I_73_58 rfl (wi_iinc 1 [(0, .ref 8), (1, .int x1), (2, .int x2), (3, .int (x3 + 1))] rfl (lt_e X_73 rfl) rfl rfl ?_)
        refine q0 I_73_61 (wi_goto ?_)
        exact Wq_c I_73_18 rfl rfl H
      · replace H := H.2 h
        refine q1 (ls' := [(0, .ref 8), (1, .int x1), (2, .int x2), (3, .int x3)]) I_73_52 rfl (wi_iload_n _ rfl ?_)
        refine q0 I_73_53 (wi_iconst 1 rfl ?_)
        refine q0 I_73_54 (wi_iload_n _ rfl ?_)
        refine q0 I_73_55 (wi_ishl ?_)
        refine q0 I_73_56 (wi_ior ?_)
        refine q0 I_73_57 (wi_istore_n [(0, .ref 8), (1, .int x1), (2, .int (x2 ||| ((1 : Int32) <<< (x3 &&& 31)))), (3, .int x3)] (lt_e X_73 rfl) rfl ?_)
        refine q1 (ls' := [(0, .ref 8), (1, .int x1), (2, .int (x2 ||| ((1 : Int32) <<< (x3 &&& 31)))), (3, .int x3)]) I_73_58 rfl (wi_iinc 1 [(0, .ref 8), (1, .int x1), (2, .int (x2 ||| ((1 : Int32) <<< (x3 &&& 31)))), (3, .int (x3 + 1))] rfl (lt_e X_73 rfl) rfl rfl ?_)
        refine q0 I_73_61 (wi_goto ?_)
        exact Wq_c I_73_18 rfl rfl H
theorem r_74  {di : tDi} {dl : tDl} {K : Int32 → tDi → tDl → Prop} (H : (Wq none 3 74 2 [(0, .ref 8), (1, .int 0)] [] di dl (RI K))) : ClI 3 74 [.ref 8] di dl K := by
  refine Cl_of C_74 Z_74 [(0, .ref 8)] rfl ?_
  refine q0 I_74_0 (wi_iconst 0 rfl ?_)
  refine q0 I_74_1 (wi_istore_n [(0, .ref 8), (1, .int 0)] (lt_e X_74 rfl) rfl ?_)
  exact Wq_c I_74_2 rfl rfl H
theorem r_74_2 {x1 : Int32} {di : tDi} {dl : tDl} {K : Int32 → tDi → tDl → Prop} (H : (((di 5 4) ≤ x1 → (K (-1) di dl)) ∧ (x1 < (di 5 4) → (ClI 2 73 [.ref 8, .int x1] di dl (fun r21 di21 dl21 => ((r21 = 0 → (Wq none 3 74 2 [(0, .ref 8), (1, .int (x1 + 1))] [] di21 dl21 (RI K))) ∧ (¬ r21 = 0 → (K x1 di21 dl21)))))))) : Wq none 3 74 2 [(0, .ref 8), (1, .int x1)] [] di dl (RI K) := by
  refine q1 (ls' := [(0, .ref 8), (1, .int x1)]) I_74_2 rfl (wi_iload_n _ rfl ?_)
  refine q0 I_74_3 (wi_aload_n _ rfl ?_)
  refine q0 I_74_4 (wi_get (.ref 5) S_8 rfl (by decide) rfl ?_)
  refine q0 I_74_7 (wi_getI S_5 rfl (by decide) rfl ?_)
  refine q0 I_74_10 (wi_ic_ge (fun h => ?_) (fun h => ?_))
  · replace H := H.1 h
    refine q1 (ls' := []) I_74_29 rfl (wi_iconst (-1) rfl ?_)
    exact q0 I_74_30 (wi_iret T_74 C_74 ⟨_, rfl, H⟩)
  · replace H := H.2 h
    refine q1 (ls' := [(0, .ref 8), (1, .int x1)]) I_74_13 rfl (wi_aload_n _ rfl ?_)
    refine q0 I_74_14 (wi_iload_n _ rfl ?_)
    refine q0 I_74_15 (wi_virtI (e := 2) [.int x1] [] S_8 rfl (by decide) rfl rfl rfl (okC_i rfl rfl rfl) C_73 (by decide) (ClI_mono H ?_))
    intro r21 di21 dl21 H
    refine q0 I_74_18 (wi_if_eq (fun h => ?_) (fun h => ?_))
    · replace H := H.1 h
      refine q1 (ls' := [(0, .ref 8), (1, .int x1)]) I_74_23 rfl (wi_iinc 1 [(0, .ref 8), (1, .int (x1 + 1))] rfl (lt_e X_74 rfl) rfl rfl ?_)
      refine q0 I_74_26 (wi_goto ?_)
      exact Wq_c I_74_2 rfl rfl H
    · replace H := H.2 h
      refine q1 (ls' := [(1, .int x1)]) I_74_21 rfl (wi_iload_n _ rfl ?_)
      exact q0 I_74_22 (wi_iret T_74 C_74 ⟨_, rfl, H⟩)
theorem r_75 {a1 : Int32} {di : tDi} {dl : tDl} {K : Int32 → tDi → tDl → Prop} (H : (Wq none 1 75 4 [(0, .ref 8), (1, .int a1), (2, .int 0), (3, .int 1)] [] di dl (RI K))) : ClI 1 75 [.ref 8, .int a1] di dl K := by
  refine Cl_of C_75 Z_75 [(0, .ref 8), (1, .int a1)] rfl ?_
  refine q0 I_75_0 (wi_iconst 0 rfl ?_)
  refine q0 I_75_1 (wi_istore_n [(0, .ref 8), (1, .int a1), (2, .int 0)] (lt_e X_75 rfl) rfl ?_)
  refine q0 I_75_2 (wi_iconst 1 rfl ?_)
  refine q0 I_75_3 (wi_istore_n [(0, .ref 8), (1, .int a1), (2, .int 0), (3, .int 1)] (lt_e X_75 rfl) rfl ?_)
  exact Wq_c I_75_4 rfl rfl H
theorem r_75_4 {x1 : Int32} {x2 : Int32} {x3 : Int32} {di : tDi} {dl : tDl} {K : Int32 → tDi → tDl → Prop} (H : (((di 5 4) < x3 → (K x2 di dl)) ∧ (x3 ≤ (di 5 4) → (ClI 0 68 [.ref 8, .int x3, .int x1] di dl (fun r21 di21 dl21 => (ClI 0 68 [.ref 8, .int (x3 - 1), .int x1] di21 dl21 (fun r22 di22 dl22 => ((r21 = r22 → (Wq none 1 75 4 [(0, .ref 8), (1, .int x1), (2, .int x2), (3, .int (x3 + 1))] [] di22 dl22 (RI K))) ∧ (¬ r21 = r22 → (Wq none 1 75 4 [(0, .ref 8), (1, .int x1), (2, .int (x2 + 1)), (3, .int (x3 + 1))] [] di22 dl22 (RI K))))))))))) : Wq none 1 75 4 [(0, .ref 8), (1, .int x1), (2, .int x2), (3, .int x3)] [] di dl (RI K) := by
  refine q1 (ls' := [(0, .ref 8), (1, .int x1), (2, .int x2), (3, .int x3)]) I_75_4 rfl (wi_iload_n _ rfl ?_)
  refine q0 I_75_5 (wi_aload_n _ rfl ?_)
  refine q0 I_75_6 (wi_get (.ref 5) S_8 rfl (by decide) rfl ?_)
  refine q0 I_75_9 (wi_getI S_5 rfl (by decide) rfl ?_)
  refine q0 I_75_12 (wi_ic_gt (fun h => ?_) (fun h => ?_))
  · replace H := H.1 h
    refine q1 (ls' := [(2, .int x2)]) I_75_41 rfl (wi_iload_n _ rfl ?_)
    exact q0 I_75_42 (wi_iret T_75 C_75 ⟨_, rfl, H⟩)
  · replace H := H.2 h
    refine q1 (ls' := [(0, .ref 8), (1, .int x1), (2, .int x2), (3, .int x3)]) I_75_15 rfl (wi_aload_n _ rfl ?_)
    refine q0 I_75_16 (wi_iload_n _ rfl ?_)
    refine q0 I_75_17 (wi_iload_n _ rfl ?_)
    refine q0 I_75_18 (wi_virtI (e := 0) [.int x3, .int x1] [] S_8 rfl (by decide) rfl rfl rfl (okC_i rfl rfl rfl) C_68 (by decide) (ClI_mono H ?_))
    intro r21 di21 dl21 H
    refine q0 I_75_21 (wi_aload_n _ rfl ?_)
    refine q0 I_75_22 (wi_iload_n _ rfl ?_)
    refine q0 I_75_23 (wi_iconst 1 rfl ?_)
    refine q0 I_75_24 (wi_isub ?_)
    refine q0 I_75_25 (wi_iload_n _ rfl ?_)
    refine q0 I_75_26 (wi_virtI (e := 0) [.int (x3 - 1), .int x1] [.int r21] S_8 rfl (by decide) rfl rfl rfl (okC_i rfl rfl rfl) C_68 (by decide) (ClI_mono H ?_))
    intro r22 di22 dl22 H
    refine q0 I_75_29 (wi_ic_eq (fun h => ?_) (fun h => ?_))
    · replace H := H.1 h
      refine q1 (ls' := [(0, .ref 8), (1, .int x1), (2, .int x2), (3, .int x3)]) I_75_35 rfl (wi_iinc 1 [(0, .ref 8), (1, .int x1), (2, .int x2), (3, .int (x3 + 1))] rfl (lt_e X_75 rfl) rfl rfl ?_)
      refine q0 I_75_38 (wi_goto ?_)
      exact Wq_c I_75_4 rfl rfl H
    · replace H := H.2 h
      refine q1 (ls' := [(0, .ref 8), (1, .int x1), (2, .int x2), (3, .int x3)]) I_75_32 rfl (wi_iinc 1 [(0, .ref 8), (1, .int x1), (2, .int (x2 + 1)), (3, .int x3)] rfl (lt_e X_75 rfl) rfl rfl ?_)
      refine q1 (ls' := [(0, .ref 8), (1, .int x1), (2, .int (x2 + 1)), (3, .int x3)]) I_75_35 rfl (wi_iinc 1 [(0, .ref 8), (1, .int x1), (2, .int (x2 + 1)), (3, .int (x3 + 1))] rfl (lt_e X_75 rfl) rfl rfl ?_)
      refine q0 I_75_38 (wi_goto ?_)
      exact Wq_c I_75_4 rfl rfl H
theorem r_76 {a1 : Int32} {a2 : Int32} {di : tDi} {dl : tDl} {K : Int32 → tDi → tDl → Prop} (H : (ClI 2 72 [.ref 8, .int a1] di dl (fun r1 di1 dl1 => (Wq none 3 76 15 [(0, .ref 8), (1, .int a1), (2, .int a2), (3, .int (-1)), (4, .int 0), (5, .int r1), (6, .int 1)] [] di1 dl1 (RI K))))) : ClI 3 76 [.ref 8, .int a1, .int a2] di dl K := by
  refine Cl_of C_76 Z_76 [(0, .ref 8), (1, .int a1), (2, .int a2)] rfl ?_
  refine q0 I_76_0 (wi_iconst (-1) rfl ?_)
  refine q0 I_76_1 (wi_istore_n [(0, .ref 8), (1, .int a1), (2, .int a2), (3, .int (-1))] (lt_e X_76 rfl) rfl ?_)
  refine q0 I_76_2 (wi_iconst 0 rfl ?_)
  refine q0 I_76_3 (wi_istore [(0, .ref 8), (1, .int a1), (2, .int a2), (3, .int (-1)), (4, .int 0)] (lt_e X_76 rfl) rfl ?_)
  refine q0 I_76_5 (wi_aload_n _ rfl ?_)
  refine q0 I_76_6 (wi_iload_n _ rfl ?_)
  refine q0 I_76_7 (wi_virtI (e := 2) [.int a1] [] S_8 rfl (by decide) rfl rfl rfl (okC_i rfl rfl rfl) C_72 (by decide) (ClI_mono H ?_))
  intro r1 di1 dl1 H
  refine q0 I_76_10 (wi_istore [(0, .ref 8), (1, .int a1), (2, .int a2), (3, .int (-1)), (4, .int 0), (5, .int r1)] (lt_e X_76 rfl) rfl ?_)
  refine q0 I_76_12 (wi_iconst 1 rfl ?_)
  refine q0 I_76_13 (wi_istore [(0, .ref 8), (1, .int a1), (2, .int a2), (3, .int (-1)), (4, .int 0), (5, .int r1), (6, .int 1)] (lt_e X_76 rfl) rfl ?_)
  exact Wq_c I_76_15 rfl rfl H
theorem r_76_15 {x1 : Int32} {x2 : Int32} {x3 : Int32} {x4 : Int32} {x5 : Int32} {x6 : Int32} {di : tDi} {dl : tDl} {K : Int32 → tDi → tDl → Prop} (H : ((((1 : Int32) <<< ((di 3 4) &&& 31)) ≤ x6 → (K x3 di dl)) ∧ (x6 < ((1 : Int32) <<< ((di 3 4) &&& 31)) → ((¬ (x6 &&& x5) = 0 → (Wq none 3 76 15 [(0, .ref 8), (1, .int x1), (2, .int x2), (3, .int x3), (4, .int x4), (5, .int x5), (6, .int (x6 + 1))] [] di dl (RI K))) ∧ ((x6 &&& x5) = 0 → (ClI 2 81 [.ref 8, .int x1, .int x6] di dl (fun r21 di21 dl21 => ((x2 ≤ r21 → (ClI 2 82 [.ref 8, .int x1, .int x6] di21 dl21 (fun r22 di22 dl22 => ((¬ r22 = x4 → ((x3 = (-1) → (Wq none 3 76 15 [(0, .ref 8), (1, .int x1), (2, .int x2), (3, .int x6), (4, .int r22), (5, .int x5), (6, .int (x6 + 1))] [] di22 dl22 (RI K))) ∧ (¬ x3 = (-1) → ((r22 < x4 → (Wq none 3 76 15 [(0, .ref 8), (1, .int x1), (2, .int x2), (3, .int x6), (4, .int r22), (5, .int x5), (6, .int (x6 + 1))] [] di22 dl22 (RI K))) ∧ (x4 ≤ r22 → (Wq none 3 76 15 [(0, .ref 8), (1, .int x1), (2, .int x2), (3, .int x3), (4, .int x4), (5, .int x5), (6, .int (x6 + 1))] [] di22 dl22 (RI K))))))) ∧ (r22 = x4 → (ClI 0 219 [.int x6] di22 dl22 (fun r23 di23 dl23 => (ClI 0 219 [.int x3] di23 dl23 (fun r24 di24 dl24 => ((r24 ≤ r23 → ((x3 = (-1) → (Wq none 3 76 15 [(0, .ref 8), (1, .int x1), (2, .int x2), (3, .int x6), (4, .int r22), (5, .int x5), (6, .int (x6 + 1))] [] di24 dl24 (RI K))) ∧ (¬ x3 = (-1) → ((r22 < x4 → (Wq none 3 76 15 [(0, .ref 8), (1, .int x1), (2, .int x2), (3, .int x6), (4, .int r22), (5, .int x5), (6, .int (x6 + 1))] [] di24 dl24 (RI K))) ∧ (x4 ≤ r22 → (Wq none 3 76 15 [(0, .ref 8), (1, .int x1), (2, .int x2), (3, .int x3), (4, .int x4), (5, .int x5), (6, .int (x6 + 1))] [] di24 dl24 (RI K))))))) ∧ (r23 < r24 → ((x3 = (-1) → (Wq none 3 76 15 [(0, .ref 8), (1, .int x1), (2, .int x2), (3, .int x6), (4, .int r22), (5, .int x5), (6, .int (x6 + 1))] [] di24 dl24 (RI K))) ∧ (¬ x3 = (-1) → ((r22 < x4 → (Wq none 3 76 15 [(0, .ref 8), (1, .int x1), (2, .int x2), (3, .int x6), (4, .int r22), (5, .int x5), (6, .int (x6 + 1))] [] di24 dl24 (RI K))) ∧ (x4 ≤ r22 → (Wq none 3 76 15 [(0, .ref 8), (1, .int x1), (2, .int x2), (3, .int x6), (4, .int r22), (5, .int x5), (6, .int (x6 + 1))] [] di24 dl24 (RI K))))))))))))))))) ∧ (r21 < x2 → (Wq none 3 76 15 [(0, .ref 8), (1, .int x1), (2, .int x2), (3, .int x3), (4, .int x4), (5, .int x5), (6, .int (x6 + 1))] [] di21 dl21 (RI K))))))))))) : Wq none 3 76 15 [(0, .ref 8), (1, .int x1), (2, .int x2), (3, .int x3), (4, .int x4), (5, .int x5), (6, .int x6)] [] di dl (RI K) := by
  refine q1 (ls' := [(0, .ref 8), (1, .int x1), (2, .int x2), (3, .int x3), (4, .int x4), (5, .int x5), (6, .int x6)]) I_76_15 rfl (wi_iload _ rfl ?_)
  refine q0 I_76_17 (wi_iconst 1 rfl ?_)
  refine q0 I_76_18 (wi_aload_n _ rfl ?_)
  refine q0 I_76_19 (wi_get (.ref 3) S_8 rfl (by decide) rfl ?_)
  refine q0 I_76_22 (wi_getI S_3 rfl (by decide) rfl ?_)
  refine q0 I_76_25 (wi_ishl ?_)
  refine q0 I_76_26 (wi_ic_ge (fun h => ?_) (fun h => ?_))
  · replace H := H.1 h
    refine q1 (ls' := [(3, .int x3)]) I_76_116 rfl (wi_iload_n _ rfl ?_)
    exact q0 I_76_117 (wi_iret T_76 C_76 ⟨_, rfl, H⟩)
  · replace H := H.2 h
    refine q1 (ls' := [(0, .ref 8), (1, .int x1), (2, .int x2), (3, .int x3), (4, .int x4), (5, .int x5), (6, .int x6)]) I_76_29 rfl (wi_iload _ rfl ?_)
    refine q0 I_76_31 (wi_iload _ rfl ?_)
    refine q0 I_76_33 (wi_iand ?_)
    refine q0 I_76_34 (wi_if_ne (fun h => ?_) (fun h => ?_))
    · replace H := H.1 h
      refine q1 (ls' := [(0, .ref 8), (1, .int x1), (2, .int x2), (3, .int x3), (4, .int x4), (5, .int x5), (6, .int x6)]) I_76_110 rfl (wi_iinc 1 [(0, .ref 8), (1, .int x1), (2, .int x2), (3, .int x3), (4, .int x4), (5, .int x5), (6, .int (x6 + 1))] rfl (lt_e X_76 rfl) rfl rfl ?_)
      refine q0 I_76_113 (wi_goto ?_)
      exact Wq_c I_76_15 rfl rfl H
    · replace H := H.2 h
      refine q1 (ls' := [(0, .ref 8), (1, .int x1), (2, .int x2), (3, .int x3), (4, .int x4), (5, .int x5), (6, .int x6)]) I_76_37 rfl (wi_aload_n _ rfl ?_)
      refine q0 I_76_38 (wi_iload_n _ rfl ?_)
      refine q0 I_76_39 (wi_iload _ rfl ?_)
      refine q0 I_76_41 (wi_virtI (e := 2) [.int x1, .int x6] [] S_8 rfl (by decide) rfl rfl rfl (okC_i rfl rfl rfl) C_81 (by decide) (ClI_mono H ?_))
      intro r21 di21 dl21 H
      refine q0 I_76_44 (wi_iload_n _ rfl ?_)
      refine q0 I_76_45 (wi_ic_ge (fun h => ?_) (fun h => ?_))
      · replace H := H.1 h
        refine q1 (ls' := [(0, .ref 8), (1, .int x1), (2, .int x2), (3, .int x3), (4, .int x4), (5, .int x5), (6, .int x6)]) I_76_51 rfl (wi_aload_n _ rfl ?_)
        refine q0 I_76_52 (wi_iload_n _ rfl ?_)
        refine q0 I_76_53 (wi_iload _ rfl ?_)
        refine q0 I_76_55 (wi_virtI (e := 2) [.int x1, .int x6] [] S_8 rfl (by decide) rfl rfl rfl (okC_i rfl rfl rfl) C_82 (by decide) (ClI_mono H ?_))
        intro r22 di22 dl22 H
        refine q0 I_76_58 (wi_istore [(0, .ref 8), (1, .int x1), (2, .int x2), (3, .int x3), (4, .int x4), (5, .int x5), (6, .int x6), (7, .int r22)] (lt_e X_76 rfl) rfl ?_)
        refine q0 I_76_60 (wi_iload _ rfl ?_)
        refine q0 I_76_62 (wi_iload _ rfl ?_)
        refine q0 I_76_64 (wi_ic_ne (fun h => ?_) (fun h => ?_))
        · replace H := H.1 h
          refine q1 (ls' := [(0, .ref 8), (1, .int x1), (2, .int x2), (3, .int x3), (4, .int x4), (5, .int x5), (6, .int x6), (7, .int r22)]) I_76_83 rfl (wi_iconst 0 rfl ?_)
          refine q1 (ls' := [(0, .ref 8), (1, .int x1), (2, .int x2), (3, .int x3), (4, .int x4), (5, .int x5), (6, .int x6), (7, .int r22)]) I_76_84 rfl (wi_istore [(0, .ref 8), (1, .int x1), (2, .int x2), (3, .int x3), (4, .int x4), (5, .int x5), (6, .int x6), (7, .int r22), (8, .int 0)] (lt_e X_76 rfl) rfl ?_)
          refine q0 I_76_86 (wi_iload_n _ rfl ?_)
          refine q0 I_76_87 (wi_iconst (-1) rfl ?_)
          refine q0 I_76_88 (wi_ic_eq (fun h => ?_) (fun h => ?_))
          · replace H := H.1 h
            refine q1 (ls' := [(0, .ref 8), (1, .int x1), (2, .int x2), (5, .int x5), (6, .int x6), (7, .int r22)]) I_76_103 rfl (wi_iload _ rfl ?_)
            refine q0 I_76_105 (wi_istore_n [(0, .ref 8), (1, .int x1), (2, .int x2), (3, .int x6), (5, .int x5), (6, .int x6), (7, .int r22)] (lt_e X_76 rfl) rfl ?_)
            refine q0 I_76_106 (wi_iload _ rfl ?_)
            refine q0 I_76_108 (wi_istore [(0, .ref 8), (1, .int x1), (2, .int x2), (3, .int x6), (4, .int r22), (5, .int x5), (6, .int x6), (7, .int r22)] (lt_e X_76 rfl) rfl ?_)
            refine q1 (ls' := [(0, .ref 8), (1, .int x1), (2, .int x2), (3, .int x6), (4, .int r22), (5, .int x5), (6, .int x6)]) I_76_110 rfl (wi_iinc 1 [(0, .ref 8), (1, .int x1), (2, .int x2), (3, .int x6), (4, .int r22), (5, .int x5), (6, .int (x6 + 1))] rfl (lt_e X_76 rfl) rfl rfl ?_)
            refine q0 I_76_113 (wi_goto ?_)
            exact Wq_c I_76_15 rfl rfl H
          · replace H := H.2 h
            refine q1 (ls' := [(0, .ref 8), (1, .int x1), (2, .int x2), (3, .int x3), (4, .int x4), (5, .int x5), (6, .int x6), (7, .int r22), (8, .int 0)]) I_76_91 rfl (wi_iload _ rfl ?_)
            refine q0 I_76_93 (wi_iload _ rfl ?_)
            refine q0 I_76_95 (wi_ic_lt (fun h => ?_) (fun h => ?_))
            · replace H := H.1 h
              refine q1 (ls' := [(0, .ref 8), (1, .int x1), (2, .int x2), (5, .int x5), (6, .int x6), (7, .int r22)]) I_76_103 rfl (wi_iload _ rfl ?_)
              refine q0 I_76_105 (wi_istore_n [(0, .ref 8), (1, .int x1), (2, .int x2), (3, .int x6), (5, .int x5), (6, .int x6), (7, .int r22)] (lt_e X_76 rfl) rfl ?_)
              refine q0 I_76_106 (wi_iload _ rfl ?_)
              refine q0 I_76_108 (wi_istore [(0, .ref 8), (1, .int x1), (2, .int x2), (3, .int x6), (4, .int r22), (5, .int x5), (6, .int x6), (7, .int r22)] (lt_e X_76 rfl) rfl ?_)
              refine q1 (ls' := [(0, .ref 8), (1, .int x1), (2, .int x2), (3, .int x6), (4, .int r22), (5, .int x5), (6, .int x6)]) I_76_110 rfl (wi_iinc 1 [(0, .ref 8), (1, .int x1), (2, .int x2), (3, .int x6), (4, .int r22), (5, .int x5), (6, .int (x6 + 1))] rfl (lt_e X_76 rfl) rfl rfl ?_)
              refine q0 I_76_113 (wi_goto ?_)
              exact Wq_c I_76_15 rfl rfl H
            · replace H := H.2 h
              refine q1 (ls' := [(0, .ref 8), (1, .int x1), (2, .int x2), (3, .int x3), (4, .int x4), (5, .int x5), (6, .int x6), (7, .int r22), (8, .int 0)]) I_76_98 rfl (wi_iload _ rfl ?_)
              refine q0 I_76_100 (wi_ifT rfl ?_)
              refine q1 (ls' := [(0, .ref 8), (1, .int x1), (2, .int x2), (3, .int x3), (4, .int x4), (5, .int x5), (6, .int x6)]) I_76_110 rfl (wi_iinc 1 [(0, .ref 8), (1, .int x1), (2, .int x2), (3, .int x3), (4, .int x4), (5, .int x5), (6, .int (x6 + 1))] rfl (lt_e X_76 rfl) rfl rfl ?_)
              refine q0 I_76_113 (wi_goto ?_)
              exact Wq_c I_76_15 rfl rfl H
        · replace H := H.2 h
          refine q1 (ls' := [(0, .ref 8), (1, .int x1), (2, .int x2), (3, .int x3), (4, .int x4), (5, .int x5), (6, .int x6), (7, .int r22)]) I_76_67 rfl (wi_iload _ rfl ?_)
          refine q0 I_76_69 (wi_statI (e := 0) [.int x6] [] rfl (Or.inl rfl) rfl rfl rfl (okC_i rfl rfl rfl) C_219 (by decide) (ClI_mono H ?_))
          intro r23 di23 dl23 H
          refine q0 I_76_72 (wi_iload_n _ rfl ?_)
          refine q0 I_76_73 (wi_statI (e := 0) [.int x3] [.int r23] rfl (Or.inl rfl) rfl rfl rfl (okC_i rfl rfl rfl) C_219 (by decide) (ClI_mono H ?_))
          intro r24 di24 dl24 H
          refine q0 I_76_76 (wi_ic_ge (fun h => ?_) (fun h => ?_))
          · replace H := H.1 h
            refine q1 (ls' := [(0, .ref 8), (1, .int x1), (2, .int x2), (3, .int x3), (4, .int x4), (5, .int x5), (6, .int x6), (7, .int r22)]) I_76_83 rfl (wi_iconst 0 rfl ?_)
            refine q1 (ls' := [(0, .ref 8), (1, .int x1), (2, .int x2), (3, .int x3), (4, .int x4), (5, .int x5), (6, .int x6), (7, .int r22)]) I_76_84 rfl (wi_istore [(0, .ref 8), (1, .int x1), (2, .int x2), (3, .int x3), (4, .int x4), (5, .int x5), (6, .int x6), (7, .int r22), (8, .int 0)] (lt_e X_76 rfl) rfl ?_)
            refine q0 I_76_86 (wi_iload_n _ rfl ?_)
            refine q0 I_76_87 (wi_iconst (-1) rfl ?_)
            refine q0 I_76_88 (wi_ic_eq (fun h => ?_) (fun h => ?_))
            · replace H := H.1 h
              refine q1 (ls' := [(0, .ref 8), (1, .int x1), (2, .int x2), (5, .int x5), (6, .int x6), (7, .int r22)]) I_76_103 rfl (wi_iload _ rfl ?_)
              refine q0 I_76_105 (wi_istore_n [(0, .ref 8), (1, .int x1), (2, .int x2), (3, .int x6), (5, .int x5), (6, .int x6), (7, .int r22)] (lt_e X_76 rfl) rfl ?_)
              refine q0 I_76_106 (wi_iload _ rfl ?_)
              refine q0 I_76_108 (wi_istore [(0, .ref 8), (1, .int x1), (2, .int x2), (3, .int x6), (4, .int r22), (5, .int x5), (6, .int x6), (7, .int r22)] (lt_e X_76 rfl) rfl ?_)
              refine q1 (ls' := [(0, .ref 8), (1, .int x1), (2, .int x2), (3, .int x6), (4, .int r22), (5, .int x5), (6, .int x6)]) I_76_110 rfl (wi_iinc 1 [(0, .ref 8), (1, .int x1), (2, .int x2), (3, .int x6), (4, .int r22), (5, .int x5), (6, .int (x6 + 1))] rfl (lt_e X_76 rfl) rfl rfl ?_)
              refine q0 I_76_113 (wi_goto ?_)
              exact Wq_c I_76_15 rfl rfl H
            · replace H := H.2 h
              refine q1 (ls' := [(0, .ref 8), (1, .int x1), (2, .int x2), (3, .int x3), (4, .int x4), (5, .int x5), (6, .int x6), (7, .int r22), (8, .int 0)]) I_76_91 rfl (wi_iload _ rfl ?_)
              refine q0 I_76_93 (wi_iload _ rfl ?_)
              refine q0 I_76_95 (wi_ic_lt (fun h => ?_) (fun h => ?_))
              · replace H := H.1 h
                refine q1 (ls' := [(0, .ref 8), (1, .int x1), (2, .int x2), (5, .int x5), (6, .int x6), (7, .int r22)]) I_76_103 rfl (wi_iload _ rfl ?_)
                refine q0 I_76_105 (wi_istore_n [(0, .ref 8), (1, .int x1), (2, .int x2), (3, .int x6), (5, .int x5), (6, .int x6), (7, .int r22)] (lt_e X_76 rfl) rfl ?_)
                refine q0 I_76_106 (wi_iload _ rfl ?_)
                refine q0 I_76_108 (wi_istore [(0, .ref 8), (1, .int x1), (2, .int x2), (3, .int x6), (4, .int r22), (5, .int x5), (6, .int x6), (7, .int r22)] (lt_e X_76 rfl) rfl ?_)
                refine q1 (ls' := [(0, .ref 8), (1, .int x1), (2, .int x2), (3, .int x6), (4, .int r22), (5, .int x5), (6, .int x6)]) I_76_110 rfl (wi_iinc 1 [(0, .ref 8), (1, .int x1), (2, .int x2), (3, .int x6), (4, .int r22), (5, .int x5), (6, .int (x6 + 1))] rfl (lt_e X_76 rfl) rfl rfl ?_)
                refine q0 I_76_113 (wi_goto ?_)
                exact Wq_c I_76_15 rfl rfl H
              · replace H := H.2 h
                refine q1 (ls' := [(0, .ref 8), (1, .int x1), (2, .int x2), (3, .int x3), (4, .int x4), (5, .int x5), (6, .int x6), (7, .int r22), (8, .int 0)]) I_76_98 rfl (wi_iload _ rfl ?_)
                refine q0 I_76_100 (wi_ifT rfl ?_)
                refine q1 (ls' := [(0, .ref 8), (1, .int x1), (2, .int x2), (3, .int x3), (4, .int x4), (5, .int x5), (6, .int x6)]) I_76_110 rfl (wi_iinc 1 [(0, .ref 8), (1, .int x1), (2, .int x2), (3, .int x3), (4, .int x4), (5, .int x5), (6, .int (x6 + 1))] rfl (lt_e X_76 rfl) rfl rfl ?_)
                refine q0 I_76_113 (wi_goto ?_)
                exact Wq_c I_76_15 rfl rfl H
          · replace H := H.2 h
            refine q1 (ls' := [(0, .ref 8), (1, .int x1), (2, .int x2), (3, .int x3), (4, .int x4), (5, .int x5), (6, .int x6), (7, .int r22)]) I_76_79 rfl (wi_iconst 1 rfl ?_)
            refine q0 I_76_80 (wi_goto ?_)
            refine q1 (ls' := [(0, .ref 8), (1, .int x1), (2, .int x2), (3, .int x3), (4, .int x4), (5, .int x5), (6, .int x6), (7, .int r22)]) I_76_84 rfl (wi_istore [(0, .ref 8), (1, .int x1), (2, .int x2), (3, .int x3), (4, .int x4), (5, .int x5), (6, .int x6), (7, .int r22), (8, .int 1)] (lt_e X_76 rfl) rfl ?_)
            refine q0 I_76_86 (wi_iload_n _ rfl ?_)
            refine q0 I_76_87 (wi_iconst (-1) rfl ?_)
            refine q0 I_76_88 (wi_ic_eq (fun h => ?_) (fun h => ?_))
            · replace H := H.1 h
              refine q1 (ls' := [(0, .ref 8), (1, .int x1), (2, .int x2), (5, .int x5), (6, .int x6), (7, .int r22)]) I_76_103 rfl (wi_iload _ rfl ?_)
              refine q0 I_76_105 (wi_istore_n [(0, .ref 8), (1, .int x1), (2, .int x2), (3, .int x6), (5, .int x5), (6, .int x6), (7, .int r22)] (lt_e X_76 rfl) rfl ?_)
              refine q0 I_76_106 (wi_iload _ rfl ?_)
              refine q0 I_76_108 (wi_istore [(0, .ref 8), (1, .int x1), (2, .int x2), (3, .int x6), (4, .int r22), (5, .int x5), (6, .int x6), (7, .int r22)] (lt_e X_76 rfl) rfl ?_)
              refine q1 (ls' := [(0, .ref 8), (1, .int x1), (2, .int x2), (3, .int x6), (4, .int r22), (5, .int x5), (6, .int x6)]) I_76_110 rfl (wi_iinc 1 [(0, .ref 8), (1, .int x1), (2, .int x2), (3, .int x6), (4, .int r22), (5, .int x5), (6, .int (x6 + 1))] rfl (lt_e X_76 rfl) rfl rfl ?_)
              refine q0 I_76_113 (wi_goto ?_)
              exact Wq_c I_76_15 rfl rfl H
            · replace H := H.2 h
              refine q1 (ls' := [(0, .ref 8), (1, .int x1), (2, .int x2), (3, .int x3), (4, .int x4), (5, .int x5), (6, .int x6), (7, .int r22), (8, .int 1)]) I_76_91 rfl (wi_iload _ rfl ?_)
              refine q0 I_76_93 (wi_iload _ rfl ?_)
              refine q0 I_76_95 (wi_ic_lt (fun h => ?_) (fun h => ?_))
              · replace H := H.1 h
                refine q1 (ls' := [(0, .ref 8), (1, .int x1), (2, .int x2), (5, .int x5), (6, .int x6), (7, .int r22)]) I_76_103 rfl (wi_iload _ rfl ?_)
                refine q0 I_76_105 (wi_istore_n [(0, .ref 8), (1, .int x1), (2, .int x2), (3, .int x6), (5, .int x5), (6, .int x6), (7, .int r22)] (lt_e X_76 rfl) rfl ?_)
                refine q0 I_76_106 (wi_iload _ rfl ?_)
                refine q0 I_76_108 (wi_istore [(0, .ref 8), (1, .int x1), (2, .int x2), (3, .int x6), (4, .int r22), (5, .int x5), (6, .int x6), (7, .int r22)] (lt_e X_76 rfl) rfl ?_)
                refine q1 (ls' := [(0, .ref 8), (1, .int x1), (2, .int x2), (3, .int x6), (4, .int r22), (5, .int x5), (6, .int x6)]) I_76_110 rfl (wi_iinc 1 [(0, .ref 8), (1, .int x1), (2, .int x2), (3, .int x6), (4, .int r22), (5, .int x5), (6, .int (x6 + 1))] rfl (lt_e X_76 rfl) rfl rfl ?_)
                refine q0 I_76_113 (wi_goto ?_)
                exact Wq_c I_76_15 rfl rfl H
              · replace H := H.2 h
                refine q1 (ls' := [(0, .ref 8), (1, .int x1), (2, .int x2), (3, .int x3), (4, .int x4), (5, .int x5), (6, .int x6), (7, .int r22), (8, .int 1)]) I_76_98 rfl (wi_iload _ rfl ?_)
                refine q0 I_76_100 (wi_ifF rfl ?_)
                refine q1 (ls' := [(0, .ref 8), (1, .int x1), (2, .int x2), (5, .int x5), (6, .int x6), (7, .int r22)]) I_76_103 rfl (wi_iload _ rfl ?_)
                refine q0 I_76_105 (wi_istore_n [(0, .ref 8), (1, .int x1), (2, .int x2), (3, .int x6), (5, .int x5), (6, .int x6), (7, .int r22)] (lt_e X_76 rfl) rfl ?_)
                refine q0 I_76_106 (wi_iload _ rfl ?_)
                refine q0 I_76_108 (wi_istore [(0, .ref 8), (1, .int x1), (2, .int x2), (3, .int x6), (4, .int r22), (5, .int x5), (6, .int x6), (7, .int r22)] (lt_e X_76 rfl) rfl ?_)
                refine q1 (ls' := [(0, .ref 8), (1, .int x1), (2, .int x2), (3, .int x6), (4, .int r22), (5, .int x5), (6, .int x6)]) I_76_110 rfl (wi_iinc 1 [(0, .ref 8), (1, .int x1), (2, .int x2), (3, .int x6), (4, .int r22), (5, .int x5), (6, .int (x6 + 1))] rfl (lt_e X_76 rfl) rfl rfl ?_)
                refine q0 I_76_113 (wi_goto ?_)
                exact Wq_c I_76_15 rfl rfl H
      · replace H := H.2 h
        refine q1 (ls' := [(0, .ref 8), (1, .int x1), (2, .int x2), (3, .int x3), (4, .int x4), (5, .int x5), (6, .int x6)]) I_76_48 rfl (wi_goto ?_)
        refine q1 (ls' := [(0, .ref 8), (1, .int x1), (2, .int x2), (3, .int x3), (4, .int x4), (5, .int x5), (6, .int x6)]) I_76_110 rfl (wi_iinc 1 [(0, .ref 8), (1, .int x1), (2, .int x2), (3, .int x3), (4, .int x4), (5, .int x5), (6, .int (x6 + 1))] rfl (lt_e X_76 rfl) rfl rfl ?_)
        refine q0 I_76_113 (wi_goto ?_)
        exact Wq_c I_76_15 rfl rfl H
theorem r_77 {a1 : Int32} {a2 : Int32} {di : tDi} {dl : tDl} {K : tDi → tDl → Prop} (H : (ClV 2 83 [.ref 8, .int 25] di dl (fun di1 dl1 => (Wq none 3 77 11 [(0, .ref 8), (2, .int a2), (3, .int a1), (4, .int 0)] [] di1 dl1 (RV K))))) : ClV 3 77 [.ref 8, .int a1, .int a2] di dl K := by
  refine Cl_of C_77 Z_77 [(0, .ref 8), (1, .int a1), (2, .int a2)] rfl ?_
  refine q0 I_77_0 (wi_aload_n _ rfl ?_)
  refine q0 I_77_1 (wi_bipush 25 rfl ?_)
  refine q0 I_77_3 (wi_virtV (e := 2) [.int 25] [] S_8 rfl (by decide) rfl rfl rfl (okC_i rfl rfl rfl) C_83 (by decide) (ClV_mono H ?_))
  intro di1 dl1 H
  refine q0 I_77_6 (wi_iload_n _ rfl ?_)
  refine q0 I_77_7 (wi_istore_n [(0, .ref 8), (1, .int a1), (2, .int a2), (3, .int a1)] (lt_e X_77 rfl) rfl ?_)
  refine q0 I_77_8 (wi_iconst 0 rfl ?_)
  refine q0 I_77_9 (wi_istore [(0, .ref 8), (1, .int a1), (2, .int a2), (3, .int a1), (4, .int 0)] (lt_e X_77 rfl) rfl ?_)
  exact Wq_c I_77_11 rfl rfl H
theorem r_77_11 {x2 : Int32} {x3 : Int32} {x4 : Int32} {di : tDi} {dl : tDl} {K : tDi → tDl → Prop} (H : ((x2 ≤ x4 → (K di dl)) ∧ (x4 < x2 → (ClV 2 84 [.ref 8, .int 25, .int 25, .int ((ushr (((1103515245 : Int32) * x3) + 12345) 16) - (ushr (((1103515245 : Int32) * x3) + 12345) 16) / 5 * 5)] di dl (fun di21 dl21 => (Wq none 3 77 11 [(0, .ref 8), (2, .int x2), (3, .int (((1103515245 : Int32) * x3) + 12345)), (4, .int (x4 + 1))] [] di21 dl21 (RV K))))))) : Wq none 3 77 11 [(0, .ref 8), (2, .int x2), (3, .int x3), (4, .int x4)] [] di dl (RV K) := by
  refine q1 (ls' := [(0, .ref 8), (2, .int x2), (3, .int x3), (4, .int x4)]) I_77_11 rfl (wi_iload _ rfl ?_)
  refine q0 I_77_13 (wi_iload_n _ rfl ?_)
  refine q0 I_77_14 (wi_ic_ge (fun h => ?_) (fun h => ?_))
  · replace H := H.1 h
    exact q1 (ls' := []) I_77_46 rfl (wi_ret T_77 C_77 ⟨rfl, H⟩)
  · replace H := H.2 h
    refine q1 (ls' := [(0, .ref 8), (2, .int x2), (3, .int x3), (4, .int x4)]) I_77_17 rfl (wi_ldc 1103515245 rfl ?_)
    refine q0 I_77_19 (wi_iload_n _ rfl ?_)
    refine q0 I_77_20 (wi_imul ?_)
    refine q0 I_77_21 (wi_sipush 12345 rfl ?_)
    refine q0 I_77_24 (wi_iadd ?_)
    refine q0 I_77_25 (wi_istore_n [(0, .ref 8), (2, .int x2), (3, .int (((1103515245 : Int32) * x3) + 12345)), (4, .int x4)] (lt_e X_77 rfl) rfl ?_)
    refine q0 I_77_26 (wi_aload_n _ rfl ?_)
    refine q0 I_77_27 (wi_bipush 25 rfl ?_)
    refine q0 I_77_29 (wi_bipush 25 rfl ?_)
    refine q0 I_77_31 (wi_iload_n _ rfl ?_)
    refine q0 I_77_32 (wi_bipush 16 rfl ?_)
    refine q0 I_77_34 (wi_iushr ?_)
    refine q0 I_77_35 (wi_iconst 5 rfl ?_)
    refine q0 I_77_36 (wi_irem (by decide) ?_)
    refine q0 I_77_37 (wi_virtV (e := 2) [.int 25, .int 25, .int ((ushr (((1103515245 : Int32) * x3) + 12345) 16) - (ushr (((1103515245 : Int32) * x3) + 12345) 16) / 5 * 5)] [] S_8 rfl (by decide) rfl rfl rfl (okC_i rfl rfl rfl) C_84 (by decide) (ClV_mono H ?_))
    intro di21 dl21 H
    refine q0 I_77_40 (wi_iinc 1 [(0, .ref 8), (2, .int x2), (3, .int (((1103515245 : Int32) * x3) + 12345)), (4, .int (x4 + 1))] rfl (lt_e X_77 rfl) rfl rfl ?_)
    refine q0 I_77_43 (wi_goto ?_)
    exact Wq_c I_77_11 rfl rfl H
theorem r_78  {di : tDi} {dl : tDl} {K : Int32 → tDi → tDl → Prop} (H : (ClV 2 87 [.ref 8, .int 25] di dl (fun di1 dl1 => (ClI 2 88 [.ref 8, .int 25] di1 dl1 (fun r2 di2 dl2 => (K r2 di2 dl2)))))) : ClI 3 78 [.ref 8] di dl K := by
  refine Cl_of C_78 Z_78 [(0, .ref 8)] rfl ?_
  refine q0 I_78_0 (wi_aload_n _ rfl ?_)
  refine q0 I_78_1 (wi_bipush 25 rfl ?_)
  refine q0 I_78_3 (wi_virtV (e := 2) [.int 25] [] S_8 rfl (by decide) rfl rfl rfl (okC_i rfl rfl rfl) C_87 (by decide) (ClV_mono H ?_))
  intro di1 dl1 H
  refine q0 I_78_6 (wi_aload_n _ rfl ?_)
  refine q0 I_78_7 (wi_bipush 25 rfl ?_)
  refine q0 I_78_9 (wi_virtI (e := 2) [.int 25] [] S_8 rfl (by decide) rfl rfl rfl (okC_i rfl rfl rfl) C_88 (by decide) (ClI_mono H ?_))
  intro r2 di2 dl2 H
  exact q0 I_78_12 (wi_iret T_78 C_78 ⟨_, rfl, H⟩)
theorem r_79 {a1 : Int32} {di : tDi} {dl : tDl} {K : Int32 → tDi → tDl → Prop} (H : (ClI 1 65 [.ref 8, .int 25, .int a1] di dl (fun r1 di1 dl1 => (K r1 di1 dl1)))) : ClI 2 79 [.ref 8, .int a1] di dl K := by
  refine Cl_of C_79 Z_79 [(0, .ref 8), (1, .int a1)] rfl ?_
  refine q0 I_79_0 (wi_aload_n _ rfl ?_)
  refine q0 I_79_1 (wi_bipush 25 rfl ?_)
  refine q0 I_79_3 (wi_iload_n _ rfl ?_)
  refine q0 I_79_4 (wi_virtI (e := 1) [.int 25, .int a1] [] S_8 rfl (by decide) rfl rfl rfl (okC_i rfl rfl rfl) C_65 (by decide) (ClI_mono H ?_))
  intro r1 di1 dl1 H
  exact q0 I_79_7 (wi_iret T_79 C_79 ⟨_, rfl, H⟩)
theorem r_80 {a1 : Int32} {a2 : Int32} {di : tDi} {dl : tDl} {K : Int32 → tDi → tDl → Prop} (H : ((a1 < 0 → (K 0 di dl)) ∧ (0 ≤ a1 → ((26 ≤ a1 → (K 0 di dl)) ∧ (a1 < 26 → ((a2 < 0 → (K 0 di dl)) ∧ (0 ≤ a2 → ((8 ≤ a2 → (K 0 di dl)) ∧ (a2 < 8 → (K 1 di dl)))))))))) : ClI 0 80 [.int a1, .int a2] di dl K := by
  refine Cl_of C_80 Z_80 [(0, .int a1), (1, .int a2)] rfl ?_
  refine q0 I_80_0 (wi_iload_n _ rfl ?_)
  refine q0 I_80_1 (wi_if_lt (fun h => ?_) (fun h => ?_))
  · replace H := H.1 h
    refine q1 (ls' := []) I_80_24 rfl (wi_iconst 0 rfl ?_)
    exact q1 (ls' := []) I_80_25 rfl (wi_zret T_80 (Or.inl C_80) (Or.inl rfl) ⟨_, rfl, H⟩)
  · replace H := H.2 h
    refine q1 (ls' := [(0, .int a1), (1, .int a2)]) I_80_4 rfl (wi_iload_n _ rfl ?_)
    refine q0 I_80_5 (wi_bipush 26 rfl ?_)
    refine q0 I_80_7 (wi_ic_ge (fun h => ?_) (fun h => ?_))
    · replace H := H.1 h
      refine q1 (ls' := []) I_80_24 rfl (wi_iconst 0 rfl ?_)
      exact q1 (ls' := []) I_80_25 rfl (wi_zret T_80 (Or.inl C_80) (Or.inl rfl) ⟨_, rfl, H⟩)
    · replace H := H.2 h
      refine q1 (ls' := [(1, .int a2)]) I_80_10 rfl (wi_iload_n _ rfl ?_)
      refine q0 I_80_11 (wi_if_lt (fun h => ?_) (fun h => ?_))
      · replace H := H.1 h
        refine q1 (ls' := []) I_80_24 rfl (wi_iconst 0 rfl ?_)
        exact q1 (ls' := []) I_80_25 rfl (wi_zret T_80 (Or.inl C_80) (Or.inl rfl) ⟨_, rfl, H⟩)
      · replace H := H.2 h
        refine q1 (ls' := [(1, .int a2)]) I_80_14 rfl (wi_iload_n _ rfl ?_)
        refine q0 I_80_15 (wi_bipush 8 rfl ?_)
        refine q0 I_80_17 (wi_ic_ge (fun h => ?_) (fun h => ?_))
        · replace H := H.1 h
          refine q1 (ls' := []) I_80_24 rfl (wi_iconst 0 rfl ?_)
          exact q1 (ls' := []) I_80_25 rfl (wi_zret T_80 (Or.inl C_80) (Or.inl rfl) ⟨_, rfl, H⟩)
        · replace H := H.2 h
          refine q1 (ls' := []) I_80_20 rfl (wi_iconst 1 rfl ?_)
          refine q0 I_80_21 (wi_goto ?_)
          exact q1 (ls' := []) I_80_25 rfl (wi_zret T_80 (Or.inl C_80) (Or.inr rfl) ⟨_, rfl, H⟩)
theorem r_81 {a1 : Int32} {a2 : Int32} {di : tDi} {dl : tDl} {K : Int32 → tDi → tDl → Prop} (H : (Wq none 2 81 5 [(0, .ref 8), (1, .int a1), (2, .int a2), (3, .int 0), (4, .int 0)] [] di dl (RI K))) : ClI 2 81 [.ref 8, .int a1, .int a2] di dl K := by
  refine Cl_of C_81 Z_81 [(0, .ref 8), (1, .int a1), (2, .int a2)] rfl ?_
  refine q0 I_81_0 (wi_iconst 0 rfl ?_)
  refine q0 I_81_1 (wi_istore_n [(0, .ref 8), (1, .int a1), (2, .int a2), (3, .int 0)] (lt_e X_81 rfl) rfl ?_)
  refine q0 I_81_2 (wi_iconst 0 rfl ?_)
  refine q0 I_81_3 (wi_istore [(0, .ref 8), (1, .int a1), (2, .int a2), (3, .int 0), (4, .int 0)] (lt_e X_81 rfl) rfl ?_)
  exact Wq_c I_81_5 rfl rfl H
theorem r_81_5 {x1 : Int32} {x2 : Int32} {x3 : Int32} {x4 : Int32} {di : tDi} {dl : tDl} {K : Int32 → tDi → tDl → Prop} (H : (((di 3 4) ≤ x4 → (K x3 di dl)) ∧ (x4 < (di 3 4) → (ClI 1 65 [.ref 8, .int x1, .int x4] di dl (fun r21 di21 dl21 => (Wq none 2 81 5 [(0, .ref 8), (1, .int x1), (2, .int x2), (3, .int (x3 + (((x2 >>> (x4 &&& 31)) &&& 1) * r21))), (4, .int (x4 + 1))] [] di21 dl21 (RI K))))))) : Wq none 2 81 5 [(0, .ref 8), (1, .int x1), (2, .int x2), (3, .int x3), (4, .int x4)] [] di dl (RI K) := by
  refine q1 (ls' := [(0, .ref 8), (1, .int x1), (2, .int x2), (3, .int x3), (4, .int x4)]) I_81_5 rfl (wi_iload _ rfl ?_)
  refine q0 I_81_7 (wi_aload_n _ rfl ?_)
  refine q0 I_81_8 (wi_get (.ref 3) S_8 rfl (by decide) rfl ?_)
  refine q0 I_81_11 (wi_getI S_3 rfl (by decide) rfl ?_)
  refine q0 I_81_14 (wi_ic_ge (fun h => ?_) (fun h => ?_))
  · replace H := H.1 h
    refine q1 (ls' := [(3, .int x3)]) I_81_40 rfl (wi_iload_n _ rfl ?_)
    exact q0 I_81_41 (wi_iret T_81 C_81 ⟨_, rfl, H⟩)
  · replace H := H.2 h
    refine q1 (ls' := [(0, .ref 8), (1, .int x1), (2, .int x2), (3, .int x3), (4, .int x4)]) I_81_17 rfl (wi_iload_n _ rfl ?_)
    refine q0 I_81_18 (wi_iload_n _ rfl ?_)
    refine q0 I_81_19 (wi_iload _ rfl ?_)
    refine q0 I_81_21 (wi_ishr ?_)
    refine q0 I_81_22 (wi_iconst 1 rfl ?_)
    refine q0 I_81_23 (wi_iand ?_)
    refine q0 I_81_24 (wi_aload_n _ rfl ?_)
    refine q0 I_81_25 (wi_iload_n _ rfl ?_)
    refine q0 I_81_26 (wi_iload _ rfl ?_)
    refine q0 I_81_28 (wi_virtI (e := 1) [.int x1, .int x4] [.int ((x2 >>> (x4 &&& 31)) &&& 1), .int x3] S_8 rfl (by decide) rfl rfl rfl (okC_i rfl rfl rfl) C_65 (by decide) (ClI_mono H ?_))
    intro r21 di21 dl21 H
    refine q0 I_81_31 (wi_imul ?_)
    refine q0 I_81_32 (wi_iadd ?_)
    refine q0 I_81_33 (wi_istore_n [(0, .ref 8), (1, .int x1), (2, .int x2), (3, .int (x3 + (((x2 >>> (x4 &&& 31)) &&& 1) * r21))), (4, .int x4)] (lt_e X_81 rfl) rfl ?_)
    refine q0 I_81_34 (wi_iinc 1 [(0, .ref 8), (1, .int x1), (2, .int x2), (3, .int (x3 + (((x2 >>> (x4 &&& 31)) &&& 1) * r21))), (4, .int (x4 + 1))] rfl (lt_e X_81 rfl) rfl rfl ?_)
    refine q0 I_81_37 (wi_goto ?_)
    exact Wq_c I_81_5 rfl rfl H
theorem r_82 {a1 : Int32} {a2 : Int32} {di : tDi} {dl : tDl} {K : Int32 → tDi → tDl → Prop} (H : (Wq none 2 82 5 [(0, .ref 8), (1, .int a1), (2, .int a2), (3, .int 0), (4, .int 0)] [] di dl (RI K))) : ClI 2 82 [.ref 8, .int a1, .int a2] di dl K := by
  refine Cl_of C_82 Z_82 [(0, .ref 8), (1, .int a1), (2, .int a2)] rfl ?_
  refine q0 I_82_0 (wi_iconst 0 rfl ?_)
  refine q0 I_82_1 (wi_istore_n [(0, .ref 8), (1, .int a1), (2, .int a2), (3, .int 0)] (lt_e X_82 rfl) rfl ?_)
  refine q0 I_82_2 (wi_iconst 0 rfl ?_)
  refine q0 I_82_3 (wi_istore [(0, .ref 8), (1, .int a1), (2, .int a2), (3, .int 0), (4, .int 0)] (lt_e X_82 rfl) rfl ?_)
  exact Wq_c I_82_5 rfl rfl H
theorem r_82_5 {x1 : Int32} {x2 : Int32} {x3 : Int32} {x4 : Int32} {di : tDi} {dl : tDl} {K : Int32 → tDi → tDl → Prop} (H : (((di 3 4) ≤ x4 → (K x3 di dl)) ∧ (x4 < (di 3 4) → (ClI 1 67 [.ref 8, .int x1, .int x4] di dl (fun r21 di21 dl21 => (Wq none 2 82 5 [(0, .ref 8), (1, .int x1), (2, .int x2), (3, .int (x3 + (((x2 >>> (x4 &&& 31)) &&& 1) * r21))), (4, .int (x4 + 1))] [] di21 dl21 (RI K))))))) : Wq none 2 82 5 [(0, .ref 8), (1, .int x1), (2, .int x2), (3, .int x3), (4, .int x4)] [] di dl (RI K) := by
  refine q1 (ls' := [(0, .ref 8), (1, .int x1), (2, .int x2), (3, .int x3), (4, .int x4)]) I_82_5 rfl (wi_iload _ rfl ?_)
  refine q0 I_82_7 (wi_aload_n _ rfl ?_)
  refine q0 I_82_8 (wi_get (.ref 3) S_8 rfl (by decide) rfl ?_)
  refine q0 I_82_11 (wi_getI S_3 rfl (by decide) rfl ?_)
  refine q0 I_82_14 (wi_ic_ge (fun h => ?_) (fun h => ?_))
  · replace H := H.1 h
    refine q1 (ls' := [(3, .int x3)]) I_82_40 rfl (wi_iload_n _ rfl ?_)
    exact q0 I_82_41 (wi_iret T_82 C_82 ⟨_, rfl, H⟩)
  · replace H := H.2 h
    refine q1 (ls' := [(0, .ref 8), (1, .int x1), (2, .int x2), (3, .int x3), (4, .int x4)]) I_82_17 rfl (wi_iload_n _ rfl ?_)
    refine q0 I_82_18 (wi_iload_n _ rfl ?_)
    refine q0 I_82_19 (wi_iload _ rfl ?_)
    refine q0 I_82_21 (wi_ishr ?_)
    refine q0 I_82_22 (wi_iconst 1 rfl ?_)
    refine q0 I_82_23 (wi_iand ?_)
    refine q0 I_82_24 (wi_aload_n _ rfl ?_)
    refine q0 I_82_25 (wi_iload_n _ rfl ?_)
    refine q0 I_82_26 (wi_iload _ rfl ?_)
    refine q0 I_82_28 (wi_virtI (e := 1) [.int x1, .int x4] [.int ((x2 >>> (x4 &&& 31)) &&& 1), .int x3] S_8 rfl (by decide) rfl rfl rfl (okC_i rfl rfl rfl) C_67 (by decide) (ClI_mono H ?_))
    intro r21 di21 dl21 H
    refine q0 I_82_31 (wi_imul ?_)
    refine q0 I_82_32 (wi_iadd ?_)
    refine q0 I_82_33 (wi_istore_n [(0, .ref 8), (1, .int x1), (2, .int x2), (3, .int (x3 + (((x2 >>> (x4 &&& 31)) &&& 1) * r21))), (4, .int x4)] (lt_e X_82 rfl) rfl ?_)
    refine q0 I_82_34 (wi_iinc 1 [(0, .ref 8), (1, .int x1), (2, .int x2), (3, .int (x3 + (((x2 >>> (x4 &&& 31)) &&& 1) * r21))), (4, .int (x4 + 1))] rfl (lt_e X_82 rfl) rfl rfl ?_)
    refine q0 I_82_37 (wi_goto ?_)
    exact Wq_c I_82_5 rfl rfl H
theorem r_83 {a1 : Int32} {di : tDi} {dl : tDl} {K : tDi → tDl → Prop} (H : (Wq none 2 83 2 [(0, .ref 8), (1, .int a1), (2, .int 0)] [] di dl (RV K))) : ClV 2 83 [.ref 8, .int a1] di dl K := by
  refine Cl_of C_83 Z_83 [(0, .ref 8), (1, .int a1)] rfl ?_
  refine q0 I_83_0 (wi_iconst 0 rfl ?_)
  refine q0 I_83_1 (wi_istore_n [(0, .ref 8), (1, .int a1), (2, .int 0)] (lt_e X_83 rfl) rfl ?_)
  exact Wq_c I_83_2 rfl rfl H
theorem r_83_2 {x1 : Int32} {x2 : Int32} {di : tDi} {dl : tDl} {K : tDi → tDl → Prop} (H : (((di 3 4) ≤ x2 → (K di dl)) ∧ (x2 < (di 3 4) → ((x1 < 0 → (Wq none 2 83 2 [(0, .ref 8), (1, .int x1), (2, .int (x2 + 1))] [] di dl (RV K))) ∧ (0 ≤ x1 → ((26 ≤ x1 → (Wq none 2 83 2 [(0, .ref 8), (1, .int x1), (2, .int (x2 + 1))] [] di dl (RV K))) ∧ (x1 < 26 → ((x2 < 0 → (Wq none 2 83 2 [(0, .ref 8), (1, .int x1), (2, .int (x2 + 1))] [] di dl (RV K))) ∧ (0 ≤ x2 → ((8 ≤ x2 → (Wq none 2 83 2 [(0, .ref 8), (1, .int x1), (2, .int (x2 + 1))] [] di dl (RV K))) ∧ (x2 < 8 → (inB x1 26 = true ∧ (ClI 1 8 [.ref 3, .int x2] di dl (fun r22 di22 dl22 => (inB x2 8 = true ∧ (ClI 1 10 [.ref 3, .int x2] (up2 di22 (10 + x1.toNatClampNeg) (x2.toNatClampNeg) r22) dl22 (fun r24 di24 dl24 => (ClI 1 11 [.ref 3, .int x2] (up2 di24 (37 + x1.toNatClampNeg) (x2.toNatClampNeg) r24) dl24 (fun r25 di25 dl25 => (Wq none 2 83 2 [(0, .ref 8), (1, .int x1), (2, .int (x2 + 1))] [] (up2 di25 (64 + x1.toNatClampNeg) (x2.toNatClampNeg) r25) dl25 (RV K))))))))))))))))))))) : Wq none 2 83 2 [(0, .ref 8), (1, .int x1), (2, .int x2)] [] di dl (RV K) := by
  refine q1 (ls' := [(0, .ref 8), (1, .int x1), (2, .int x2)]) I_83_2 rfl (wi_iload_n _ rfl ?_)
  refine q0 I_83_3 (wi_aload_n _ rfl ?_)
  refine q0 I_83_4 (wi_get (.ref 3) S_8 rfl (by decide) rfl ?_)
  refine q0 I_83_7 (wi_getI S_3 rfl (by decide) rfl ?_)
  refine q0 I_83_10 (wi_ic_ge (fun h => ?_) (fun h => ?_))
  · replace H := H.1 h
    exact q1 (ls' := []) I_83_75 rfl (wi_ret T_83 C_83 ⟨rfl, H⟩)
  · replace H := H.2 h
    refine q1 (ls' := [(0, .ref 8), (1, .int x1), (2, .int x2)]) I_83_13 rfl (wi_iload_n _ rfl ?_)
    refine q0 I_83_14 (wi_iload_n _ rfl ?_)
    refine q0 I_83_15 (wi_statI (e := 1) [.int x1, .int x2] [] rfl (Or.inl rfl) rfl rfl rfl (okC_i rfl rfl rfl) C_80 (by decide) (Cl_of C_80 Z_80 [(0, .int x1), (1, .int x2)] rfl ?_))
    refine q0 I_80_0 (wi_iload_n _ rfl ?_)
    refine q0 I_80_1 (wi_if_lt (fun h => ?_) (fun h => ?_))
    · replace H := H.1 h
      refine q1 (ls' := []) I_80_24 rfl (wi_iconst 0 rfl ?_)
      refine q1 (ls' := []) I_80_25 rfl (wi_zret T_80 (Or.inl C_80) (Or.inl rfl) ⟨_, rfl, ?_⟩)
      refine q0 I_83_18 (wi_ifT rfl ?_)
      refine q1 (ls' := [(0, .ref 8), (1, .int x1), (2, .int x2)]) I_83_69 rfl (wi_iinc 1 [(0, .ref 8), (1, .int x1), (2, .int (x2 + 1))] rfl (lt_e X_83 rfl) rfl rfl ?_)
      refine q0 I_83_72 (wi_goto ?_)
      exact Wq_c I_83_2 rfl rfl H
    · replace H := H.2 h
      refine q1 (ls' := [(0, .int x1), (1, .int x2)]) I_80_4 rfl (wi_iload_n _ rfl ?_)
      refine q0 I_80_5 (wi_bipush 26 rfl ?_)
      refine q0 I_80_7 (wi_ic_ge (fun h => ?_) (fun h => ?_))
      · replace H := H.1 h
        refine q1 (ls' := []) I_80_24 rfl (wi_iconst 0 rfl ?_)
        refine q1 (ls' := []) I_80_25 rfl (wi_zret T_80 (Or.inl C_80) (Or.inl rfl) ⟨_, rfl, ?_⟩)
        refine q0 I_83_18 (wi_ifT rfl ?_)
        refine q1 (ls' := [(0, .ref 8), (1, .int x1), (2, .int x2)]) I_83_69 rfl (wi_iinc 1 [(0, .ref 8), (1, .int x1), (2, .int (x2 + 1))] rfl (lt_e X_83 rfl) rfl rfl ?_)
        refine q0 I_83_72 (wi_goto ?_)
        exact Wq_c I_83_2 rfl rfl H
      · replace H := H.2 h
        refine q1 (ls' := [(1, .int x2)]) I_80_10 rfl (wi_iload_n _ rfl ?_)
        refine q0 I_80_11 (wi_if_lt (fun h => ?_) (fun h => ?_))
        · replace H := H.1 h
          refine q1 (ls' := []) I_80_24 rfl (wi_iconst 0 rfl ?_)
          refine q1 (ls' := []) I_80_25 rfl (wi_zret T_80 (Or.inl C_80) (Or.inl rfl) ⟨_, rfl, ?_⟩)
          refine q0 I_83_18 (wi_ifT rfl ?_)
          refine q1 (ls' := [(0, .ref 8), (1, .int x1), (2, .int x2)]) I_83_69 rfl (wi_iinc 1 [(0, .ref 8), (1, .int x1), (2, .int (x2 + 1))] rfl (lt_e X_83 rfl) rfl rfl ?_)
          refine q0 I_83_72 (wi_goto ?_)
          exact Wq_c I_83_2 rfl rfl H
        · replace H := H.2 h
          refine q1 (ls' := [(1, .int x2)]) I_80_14 rfl (wi_iload_n _ rfl ?_)
          refine q0 I_80_15 (wi_bipush 8 rfl ?_)
          refine q0 I_80_17 (wi_ic_ge (fun h => ?_) (fun h => ?_))
          · replace H := H.1 h
            refine q1 (ls' := []) I_80_24 rfl (wi_iconst 0 rfl ?_)
            refine q1 (ls' := []) I_80_25 rfl (wi_zret T_80 (Or.inl C_80) (Or.inl rfl) ⟨_, rfl, ?_⟩)
            refine q0 I_83_18 (wi_ifT rfl ?_)
            refine q1 (ls' := [(0, .ref 8), (1, .int x1), (2, .int x2)]) I_83_69 rfl (wi_iinc 1 [(0, .ref 8), (1, .int x1), (2, .int (x2 + 1))] rfl (lt_e X_83 rfl) rfl rfl ?_)
            refine q0 I_83_72 (wi_goto ?_)
            exact Wq_c I_83_2 rfl rfl H
          · replace H := H.2 h
            refine q1 (ls' := []) I_80_20 rfl (wi_iconst 1 rfl ?_)
            refine q0 I_80_21 (wi_goto ?_)
            refine q1 (ls' := []) I_80_25 rfl (wi_zret T_80 (Or.inl C_80) (Or.inr rfl) ⟨_, rfl, ?_⟩)
            refine q0 I_83_18 (wi_ifF rfl ?_)
            refine q1 (ls' := [(0, .ref 8), (1, .int x1), (2, .int x2)]) I_83_21 rfl (wi_aload_n _ rfl ?_)
            refine q0 I_83_22 (wi_get (.ref 9) S_8 rfl (by decide) rfl ?_)
            refine q0 I_83_25 (wi_iload_n _ rfl ?_)
            have hb21 := H.1
            replace H := H.2
            refine q0 I_83_26 (wi_aaload (e := 2) (10 + x1.toNatClampNeg) S_9 hb21 (by decide) (K_9 hb21) ?_)
            refine q0 I_83_27 (wi_iload_n _ rfl ?_)
            refine q0 I_83_28 (wi_aload_n _ rfl ?_)
            refine q0 I_83_29 (wi_get (.ref 3) S_8 rfl (by decide) rfl ?_)
            refine q0 I_83_32 (wi_iload_n _ rfl ?_)
            refine q0 I_83_33 (wi_virtI (e := 1) [.int x2] [.int x2, .ref (10 + x1.toNatClampNeg)] S_3 rfl (by decide) rfl rfl rfl (okC_i rfl rfl rfl) C_8 (by decide) (ClI_mono H ?_))
            intro r22 di22 dl22 H
            have hb23 := H.1
            replace H := H.2
            refine q0 I_83_36 (wi_iastore (x2.toNatClampNeg) (G_9 hb21) hb23 rfl ?_)
            refine q0 I_83_37 (wi_aload_n _ rfl ?_)
            refine q0 I_83_38 (wi_get (.ref 36) S_8 rfl (by decide) rfl ?_)
            refine q0 I_83_41 (wi_iload_n _ rfl ?_)
            refine q0 I_83_42 (wi_aaload (e := 2) (37 + x1.toNatClampNeg) S_36 hb21 (by decide) (K_36 hb21) ?_)
            refine q0 I_83_43 (wi_iload_n _ rfl ?_)
            refine q0 I_83_44 (wi_aload_n _ rfl ?_)
            refine q0 I_83_45 (wi_get (.ref 3) S_8 rfl (by decide) rfl ?_)
            refine q0 I_83_48 (wi_iload_n _ rfl ?_)
            refine q0 I_83_49 (wi_virtI (e := 1) [.int x2] [.int x2, .ref (37 + x1.toNatClampNeg)] S_3 rfl (by decide) rfl rfl rfl (okC_i rfl rfl rfl) C_10 (by decide) (ClI_mono H ?_))
            intro r24 di24 dl24 H
            refine q0 I_83_52 (wi_iastore (x2.toNatClampNeg) (G_36 hb21) hb23 rfl ?_)
            refine q0 I_83_53 (wi_aload_n _ rfl ?_)
            refine q0 I_83_54 (wi_get (.ref 63) S_8 rfl (by decide) rfl ?_)
            refine q0 I_83_57 (wi_iload_n _ rfl ?_)
            refine q0 I_83_58 (wi_aaload (e := 2) (64 + x1.toNatClampNeg) S_63 hb21 (by decide) (K_63 hb21) ?_)
            refine q0 I_83_59 (wi_iload_n _ rfl ?_)
            refine q0 I_83_60 (wi_aload_n _ rfl ?_)
            refine q0 I_83_61 (wi_get (.ref 3) S_8 rfl (by decide) rfl ?_)
            refine q0 I_83_64 (wi_iload_n _ rfl ?_)
            refine q0 I_83_65 (wi_virtI (e := 1) [.int x2] [.int x2, .ref (64 + x1.toNatClampNeg)] S_3 rfl (by decide) rfl rfl rfl (okC_i rfl rfl rfl) C_11 (by decide) (ClI_mono H ?_))
            intro r25 di25 dl25 H
            refine q0 I_83_68 (wi_iastore (x2.toNatClampNeg) (G_63 hb21) hb23 rfl ?_)
            refine q1 (ls' := [(0, .ref 8), (1, .int x1), (2, .int x2)]) I_83_69 rfl (wi_iinc 1 [(0, .ref 8), (1, .int x1), (2, .int (x2 + 1))] rfl (lt_e X_83 rfl) rfl rfl ?_)
            refine q0 I_83_72 (wi_goto ?_)
            exact Wq_c I_83_2 rfl rfl H
theorem r_84 {a1 : Int32} {a2 : Int32} {a3 : Int32} {di : tDi} {dl : tDl} {K : tDi → tDl → Prop} (H : (Wq none 2 84 3 [(0, .ref 8), (1, .int a1), (2, .int a2), (3, .int a3), (4, .int 0)] [] di dl (RV K))) : ClV 2 84 [.ref 8, .int a1, .int a2, .int a3] di dl K := by
  refine Cl_of C_84 Z_84 [(0, .ref 8), (1, .int a1), (2, .int a2), (3, .int a3)] rfl ?_
  refine q0 I_84_0 (wi_iconst 0 rfl ?_)
  refine q0 I_84_1 (wi_istore [(0, .ref 8), (1, .int a1), (2, .int a2), (3, .int a3), (4, .int 0)] (lt_e X_84 rfl) rfl ?_)
  exact Wq_c I_84_3 rfl rfl H
theorem r_84_3 {x1 : Int32} {x2 : Int32} {x3 : Int32} {x4 : Int32} {di : tDi} {dl : tDl} {K : tDi → tDl → Prop} (H : (((di 3 4) ≤ x4 → (K di dl)) ∧ (x4 < (di 3 4) → ((x1 < 0 → (Wq none 2 84 206 [(0, .ref 8), (1, .int x1), (2, .int x2), (3, .int x3), (4, .int x4)] [] di dl (RV K))) ∧ (0 ≤ x1 → ((26 ≤ x1 → (Wq none 2 84 206 [(0, .ref 8), (1, .int x1), (2, .int x2), (3, .int x3), (4, .int x4)] [] di dl (RV K))) ∧ (x1 < 26 → ((x4 < 0 → (Wq none 2 84 206 [(0, .ref 8), (1, .int x1), (2, .int x2), (3, .int x3), (4, .int x4)] [] di dl (RV K))) ∧ (0 ≤ x4 → ((8 ≤ x4 → (Wq none 2 84 206 [(0, .ref 8), (1, .int x1), (2, .int x2), (3, .int x3), (4, .int x4)] [] di dl (RV K))) ∧ (x4 < 8 → ((x2 < 0 → (Wq none 2 84 206 [(0, .ref 8), (1, .int x1), (2, .int x2), (3, .int x3), (4, .int x4)] [] di dl (RV K))) ∧ (0 ≤ x2 → ((26 ≤ x2 → (Wq none 2 84 206 [(0, .ref 8), (1, .int x1), (2, .int x2), (3, .int x3), (4, .int x4)] [] di dl (RV K))) ∧ (x2 < 26 → ((x4 < 0 → (Wq none 2 84 206 [(0, .ref 8), (1, .int x1), (2, .int x2), (3, .int x3), (4, .int x4)] [] di dl (RV K))) ∧ (0 ≤ x4 → ((8 ≤ x4 → (Wq none 2 84 206 [(0, .ref 8), (1, .int x1), (2, .int x2), (3, .int x3), (4, .int x4)] [] di dl (RV K))) ∧ (x4 < 8 → (inB x1 26 = true ∧ (inB x4 8 = true ∧ (((di (64 + x1.toNatClampNeg) (x4.toNatClampNeg)) ≤ 0 → (Wq none 2 84 53 [(0, .ref 8), (1, .int x1), (2, .int x2), (3, .int x3), (4, .int x4)] [.int 0] di dl (RV K))) ∧ (0 < (di (64 + x1.toNatClampNeg) (x4.toNatClampNeg)) → (Wq none 2 84 53 [(0, .ref 8), (1, .int x1), (2, .int x2), (3, .int x3), (4, .int x4)] [.int 1] di dl (RV K))))))))))))))))))))))))) : Wq none 2 84 3 [(0, .ref 8), (1, .int x1), (2, .int x2), (3, .int x3), (4, .int x4)] [] di dl (RV K) := by
  refine q1 (ls' := [(0, .ref 8), (1, .int x1), (2, .int x2), (3, .int x3), (4, .int x4)]) I_84_3 rfl (wi_iload _ rfl ?_)
  refine q0 I_84_5 (wi_aload_n _ rfl ?_)
  refine q0 I_84_6 (wi_get (.ref 3) S_8 rfl (by decide) rfl ?_)
  refine q0 I_84_9 (wi_getI S_3 rfl (by decide) rfl ?_)
  refine q0 I_84_12 (wi_ic_ge (fun h => ?_) (fun h => ?_))
  · replace H := H.1 h
    exact q1 (ls' := []) I_84_212 rfl (wi_ret T_84 C_84 ⟨rfl, H⟩)
  · replace H := H.2 h
    refine q1 (ls' := [(0, .ref 8), (1, .int x1), (2, .int x2), (3, .int x3), (4, .int x4)]) I_84_15 rfl (wi_iload_n _ rfl ?_)
    refine q0 I_84_16 (wi_iload _ rfl ?_)
    refine q0 I_84_18 (wi_statI (e := 1) [.int x1, .int x4] [] rfl (Or.inl rfl) rfl rfl rfl (okC_i rfl rfl rfl) C_80 (by decide) (Cl_of C_80 Z_80 [(0, .int x1), (1, .int x4)] rfl ?_))
    refine q0 I_80_0 (wi_iload_n _ rfl ?_)
    refine q0 I_80_1 (wi_if_lt (fun h => ?_) (fun h => ?_))
    · replace H := H.1 h
      refine q1 (ls' := []) I_80_24 rfl (wi_iconst 0 rfl ?_)
      refine q1 (ls' := []) I_80_25 rfl (wi_zret T_80 (Or.inl C_80) (Or.inl rfl) ⟨_, rfl, ?_⟩)
      refine q0 I_84_21 (wi_ifT rfl ?_)
      exact Wq_c I_84_206 rfl rfl H
    · replace H := H.2 h
      refine q1 (ls' := [(0, .int x1), (1, .int x4)]) I_80_4 rfl (wi_iload_n _ rfl ?_)
      refine q0 I_80_5 (wi_bipush 26 rfl ?_)
      refine q0 I_80_7 (wi_ic_ge (fun h => ?_) (fun h => ?_))
      · replace H := H.1 h
        refine q1 (ls' := []) I_80_24 rfl (wi_iconst 0 rfl ?_)
        refine q1 (ls' := []) I_80_25 rfl (wi_zret T_80 (Or.inl C_80) (Or.inl rfl) ⟨_, rfl, ?_⟩)
        refine q0 I_84_21 (wi_ifT rfl ?_)
        exact Wq_c I_84_206 rfl rfl H
      · replace H := H.2 h
        refine q1 (ls' := [(1, .int x4)]) I_80_10 rfl (wi_iload_n _ rfl ?_)
        refine q0 I_80_11 (wi_if_lt (fun h => ?_) (fun h => ?_))
        · replace H := H.1 h
          refine q1 (ls' := []) I_80_24 rfl (wi_iconst 0 rfl ?_)
          refine q1 (ls' := []) I_80_25 rfl (wi_zret T_80 (Or.inl C_80) (Or.inl rfl) ⟨_, rfl, ?_⟩)
          refine q0 I_84_21 (wi_ifT rfl ?_)
          exact Wq_c I_84_206 rfl rfl H
        · replace H := H.2 h
          refine q1 (ls' := [(1, .int x4)]) I_80_14 rfl (wi_iload_n _ rfl ?_)
          refine q0 I_80_15 (wi_bipush 8 rfl ?_)
          refine q0 I_80_17 (wi_ic_ge (fun h => ?_) (fun h => ?_))
          · replace H := H.1 h
            refine q1 (ls' := []) I_80_24 rfl (wi_iconst 0 rfl ?_)
            refine q1 (ls' := []) I_80_25 rfl (wi_zret T_80 (Or.inl C_80) (Or.inl rfl) ⟨_, rfl, ?_⟩)
            refine q0 I_84_21 (wi_ifT rfl ?_)
            exact Wq_c I_84_206 rfl rfl H
          · replace H := H.2 h
            refine q1 (ls' := []) I_80_20 rfl (wi_iconst 1 rfl ?_)
            refine q0 I_80_21 (wi_goto ?_)
            refine q1 (ls' := []) I_80_25 rfl (wi_zret T_80 (Or.inl C_80) (Or.inr rfl) ⟨_, rfl, ?_⟩)
            refine q0 I_84_21 (wi_ifF rfl ?_)
            refine q1 (ls' := [(0, .ref 8), (1, .int x1), (2, .int x2), (3, .int x3), (4, .int x4)]) I_84_24 rfl (wi_iload_n _ rfl ?_)
            refine q0 I_84_25 (wi_iload _ rfl ?_)
            refine q0 I_84_27 (wi_statI (e := 1) [.int x2, .int x4] [] rfl (Or.inl rfl) rfl rfl rfl (okC_i rfl rfl rfl) C_80 (by decide) (Cl_of C_80 Z_80 [(0, .int x2), (1, .int x4)] rfl ?_))
            refine q0 I_80_0 (wi_iload_n _ rfl ?_)
            refine q0 I_80_1 (wi_if_lt (fun h => ?_) (fun h => ?_))
            · replace H := H.1 h
              refine q1 (ls' := []) I_80_24 rfl (wi_iconst 0 rfl ?_)
              refine q1 (ls' := []) I_80_25 rfl (wi_zret T_80 (Or.inl C_80) (Or.inl rfl) ⟨_, rfl, ?_⟩)
              refine q0 I_84_30 (wi_ifF rfl ?_)
              refine q1 (ls' := [(0, .ref 8), (1, .int x1), (2, .int x2), (3, .int x3), (4, .int x4)]) I_84_33 rfl (wi_goto ?_)
              exact Wq_c I_84_206 rfl rfl H
            · replace H := H.2 h
              refine q1 (ls' := [(0, .int x2), (1, .int x4)]) I_80_4 rfl (wi_iload_n _ rfl ?_)
              refine q0 I_80_5 (wi_bipush 26 rfl ?_)
              refine q0 I_80_7 (wi_ic_ge (fun h => ?_) (fun h => ?_))
              · replace H := H.1 h
                refine q1 (ls' := []) I_80_24 rfl (wi_iconst 0 rfl ?_)
                refine q1 (ls' := []) I_80_25 rfl (wi_zret T_80 (Or.inl C_80) (Or.inl rfl) ⟨_, rfl, ?_⟩)
                refine q0 I_84_30 (wi_ifF rfl ?_)
                refine q1 (ls' := [(0, .ref 8), (1, .int x1), (2, .int x2), (3, .int x3), (4, .int x4)]) I_84_33 rfl (wi_goto ?_)
                exact Wq_c I_84_206 rfl rfl H
              · replace H := H.2 h
                refine q1 (ls' := [(1, .int x4)]) I_80_10 rfl (wi_iload_n _ rfl ?_)
                refine q0 I_80_11 (wi_if_lt (fun h => ?_) (fun h => ?_))
                · replace H := H.1 h
                  refine q1 (ls' := []) I_80_24 rfl (wi_iconst 0 rfl ?_)
                  refine q1 (ls' := []) I_80_25 rfl (wi_zret T_80 (Or.inl C_80) (Or.inl rfl) ⟨_, rfl, ?_⟩)
                  refine q0 I_84_30 (wi_ifF rfl ?_)
                  refine q1 (ls' := [(0, .ref 8), (1, .int x1), (2, .int x2), (3, .int x3), (4, .int x4)]) I_84_33 rfl (wi_goto ?_)
                  exact Wq_c I_84_206 rfl rfl H
                · replace H := H.2 h
                  refine q1 (ls' := [(1, .int x4)]) I_80_14 rfl (wi_iload_n _ rfl ?_)
                  refine q0 I_80_15 (wi_bipush 8 rfl ?_)
                  refine q0 I_80_17 (wi_ic_ge (fun h => ?_) (fun h => ?_))
                  · replace H := H.1 h
                    refine q1 (ls' := []) I_80_24 rfl (wi_iconst 0 rfl ?_)
                    refine q1 (ls' := []) I_80_25 rfl (wi_zret T_80 (Or.inl C_80) (Or.inl rfl) ⟨_, rfl, ?_⟩)
                    refine q0 I_84_30 (wi_ifF rfl ?_)
                    refine q1 (ls' := [(0, .ref 8), (1, .int x1), (2, .int x2), (3, .int x3), (4, .int x4)]) I_84_33 rfl (wi_goto ?_)
                    exact Wq_c I_84_206 rfl rfl H
                  · replace H := H.2 h
                    refine q1 (ls' := []) I_80_20 rfl (wi_iconst 1 rfl ?_)
                    refine q0 I_80_21 (wi_goto ?_)
                    refine q1 (ls' := []) I_80_25 rfl (wi_zret T_80 (Or.inl C_80) (Or.inr rfl) ⟨_, rfl, ?_⟩)
                    refine q0 I_84_30 (wi_ifT rfl ?_)
                    refine q1 (ls' := [(0, .ref 8), (1, .int x1), (2, .int x2), (3, .int x3), (4, .int x4)]) I_84_36 rfl (wi_aload_n _ rfl ?_)
                    refine q0 I_84_37 (wi_get (.ref 63) S_8 rfl (by decide) rfl ?_)
                    refine q0 I_84_40 (wi_iload_n _ rfl ?_)
                    have hb21 := H.1
                    replace H := H.2
                    refine q0 I_84_41 (wi_aaload (e := 2) (64 + x1.toNatClampNeg) S_63 hb21 (by decide) (K_63 hb21) ?_)
                    refine q0 I_84_42 (wi_iload _ rfl ?_)
                    have hb22 := H.1
                    replace H := H.2
                    refine q0 I_84_44 (wi_iaload (x4.toNatClampNeg) (G_63 hb21) hb22 rfl ?_)
                    refine q0 I_84_45 (wi_if_le (fun h => ?_) (fun h => ?_))
                    · replace H := H.1 h
                      refine q1 (ls' := [(0, .ref 8), (1, .int x1), (2, .int x2), (3, .int x3), (4, .int x4)]) I_84_52 rfl (wi_iconst 0 rfl ?_)
                      exact Wq_c I_84_53 rfl rfl H
                    · replace H := H.2 h
                      refine q1 (ls' := [(0, .ref 8), (1, .int x1), (2, .int x2), (3, .int x3), (4, .int x4)]) I_84_48 rfl (wi_iconst 1 rfl ?_)
                      refine q0 I_84_49 (wi_goto ?_)
                      exact Wq_c I_84_53 rfl rfl H
theorem r_84_206 {x1 : Int32} {x2 : Int32} {x3 : Int32} {x4 : Int32} {di : tDi} {dl : tDl} {K : tDi → tDl → Prop} (H : (Wq none 2 84 3 [(0, .ref 8), (1, .int x1), (2, .int x2), (3, .int x3), (4, .int (x4 + 1))] [] di dl (RV K))) : Wq none 2 84 206 [(0, .ref 8), (1, .int x1), (2, .int x2), (3, .int x3), (4, .int x4)] [] di dl (RV K) := by
  refine q1 (ls' := [(0, .ref 8), (1, .int x1), (2, .int x2), (3, .int x3), (4, .int x4)]) I_84_206 rfl (wi_iinc 1 [(0, .ref 8), (1, .int x1), (2, .int x2), (3, .int x3), (4, .int (x4 + 1))] rfl (lt_e X_84 rfl) rfl rfl ?_)
  refine q0 I_84_209 (wi_goto ?_)
  exact Wq_c I_84_3 rfl rfl H
theorem r_84_53 {x1 : Int32} {x2 : Int32} {x3 : Int32} {x4 : Int32} {z0 : Int32} {di : tDi} {dl : tDl} {K : tDi → tDl → Prop} (H : (ClI 1 9 [.ref 3, .int x4] di dl (fun r21 di21 dl21 => ((z0 = 0 → (Wq none 2 84 93 [(0, .ref 8), (1, .int x1), (2, .int x2), (3, .int x3), (4, .int x4), (5, .int z0), (6, .int r21)] [] di21 dl21 (RV K))) ∧ (¬ z0 = 0 → ((¬ x3 = 1 → (Wq none 2 84 93 [(0, .ref 8), (1, .int x1), (2, .int x2), (3, .int x3), (4, .int x4), (5, .int z0), (6, .int r21)] [] di21 dl21 (RV K))) ∧ (x3 = 1 → (inB x1 26 = true ∧ (inB x4 8 = true ∧ ((r21 = 0 → (Wq none 2 84 94 [(0, .ref 8), (1, .int x1), (2, .int x2), (3, .int x3), (4, .int x4), (5, .int z0), (6, .int r21)] [.int ((di21 (10 + x1.toNatClampNeg) (x4.toNatClampNeg)) / 10)] di21 dl21 (RV K))) ∧ (¬ r21 = 0 → ((r21 = 2 → (Wq none 2 84 94 [(0, .ref 8), (1, .int x1), (2, .int x2), (3, .int x3), (4, .int x4), (5, .int z0), (6, .int r21)] [.int ((di21 (10 + x1.toNatClampNeg) (x4.toNatClampNeg)) / 20)] di21 dl21 (RV K))) ∧ (¬ r21 = 2 → (Wq none 2 84 94 [(0, .ref 8), (1, .int x1), (2, .int x2), (3, .int x3), (4, .int x4), (5, .int z0), (6, .int r21)] [.int 0] di21 dl21 (RV K))))))))))))))) : Wq none 2 84 53 [(0, .ref 8), (1, .int x1), (2, .int x2), (3, .int x3), (4, .int x4)] [.int z0] di dl (RV K) := by
  refine q1 (ls' := [(0, .ref 8), (1, .int x1), (2, .int x2), (3, .int x3), (4, .int x4)]) I_84_53 rfl (wi_istore [(0, .ref 8), (1, .int x1), (2, .int x2), (3, .int x3), (4, .int x4), (5, .int z0)] (lt_e X_84 rfl) rfl ?_)
  refine q0 I_84_55 (wi_aload_n _ rfl ?_)
  refine q0 I_84_56 (wi_get (.ref 3) S_8 rfl (by decide) rfl ?_)
  refine q0 I_84_59 (wi_iload _ rfl ?_)
  refine q0 I_84_61 (wi_virtI (e := 1) [.int x4] [] S_3 rfl (by decide) rfl rfl rfl (okC_i rfl rfl rfl) C_9 (by decide) (ClI_mono H ?_))
  intro r21 di21 dl21 H
  refine q0 I_84_64 (wi_istore [(0, .ref 8), (1, .int x1), (2, .int x2), (3, .int x3), (4, .int x4), (5, .int z0), (6, .int r21)] (lt_e X_84 rfl) rfl ?_)
  refine q0 I_84_66 (wi_iload _ rfl ?_)
  refine q0 I_84_68 (wi_if_eq (fun h => ?_) (fun h => ?_))
  · replace H := H.1 h
    exact Wq_c I_84_93 rfl rfl H
  · replace H := H.2 h
    refine q1 (ls' := [(0, .ref 8), (1, .int x1), (2, .int x2), (3, .int x3), (4, .int x4), (5, .int z0), (6, .int r21)]) I_84_71 rfl (wi_iload_n _ rfl ?_)
    refine q0 I_84_72 (wi_iconst 1 rfl ?_)
    refine q0 I_84_73 (wi_ic_ne (fun h => ?_) (fun h => ?_))
    · replace H := H.1 h
      exact Wq_c I_84_93 rfl rfl H
    · replace H := H.2 h
      refine q1 (ls' := [(0, .ref 8), (1, .int x1), (2, .int x2), (3, .int x3), (4, .int x4), (5, .int z0), (6, .int r21)]) I_84_76 rfl (wi_iload _ rfl ?_)
      refine q0 I_84_78 (wi_aload_n _ rfl ?_)
      refine q0 I_84_79 (wi_get (.ref 9) S_8 rfl (by decide) rfl ?_)
      refine q0 I_84_82 (wi_iload_n _ rfl ?_)
      have hb22 := H.1
      replace H := H.2
      refine q0 I_84_83 (wi_aaload (e := 2) (10 + x1.toNatClampNeg) S_9 hb22 (by decide) (K_9 hb22) ?_)
      refine q0 I_84_84 (wi_iload _ rfl ?_)
      have hb23 := H.1
      replace H := H.2
      refine q0 I_84_86 (wi_iaload (x4.toNatClampNeg) (G_9 hb22) hb23 rfl ?_)
      refine q0 I_84_87 (wi_statI (e := 1) [.int r21, .int (di21 (10 + x1.toNatClampNeg) (x4.toNatClampNeg))] [] rfl (Or.inl rfl) rfl rfl rfl (okC_i rfl rfl rfl) C_85 (by decide) (Cl_of C_85 Z_85 [(0, .int r21), (1, .int (di21 (10 + x1.toNatClampNeg) (x4.toNatClampNeg)))] rfl ?_))
      refine q0 I_85_0 (wi_iload_n _ rfl ?_)
      refine q0 I_85_1 (wi_lsw ?_)
      refine sw_cons 0 rfl ⟨fun h => ?_, fun h => ?_⟩
      · replace H := H.1 h
        refine q1 (ls' := [(1, .int (di21 (10 + x1.toNatClampNeg) (x4.toNatClampNeg)))]) I_85_28 rfl (wi_iload_n _ rfl ?_)
        refine q0 I_85_29 (wi_bipush 10 rfl ?_)
        refine q0 I_85_31 (wi_idiv (by decide) ?_)
        refine q0 I_85_32 (wi_iret T_85 C_85 ⟨_, rfl, ?_⟩)
        refine q0 I_84_90 (wi_goto ?_)
        exact Wq_c I_84_94 rfl rfl H
      · replace H := H.2 h
        refine sw_cons 2 rfl ⟨fun h => ?_, fun h => ?_⟩
        · replace H := H.1 h
          refine q1 (ls' := [(1, .int (di21 (10 + x1.toNatClampNeg) (x4.toNatClampNeg)))]) I_85_33 rfl (wi_iload_n _ rfl ?_)
          refine q0 I_85_34 (wi_bipush 20 rfl ?_)
          refine q0 I_85_36 (wi_idiv (by decide) ?_)
          refine q0 I_85_37 (wi_iret T_85 C_85 ⟨_, rfl, ?_⟩)
          refine q0 I_84_90 (wi_goto ?_)
          exact Wq_c I_84_94 rfl rfl H
        · replace H := H.2 h
          refine sw_nil ?_
          refine q1 (ls' := []) I_85_38 rfl (wi_iconst 0 rfl ?_)
          refine q0 I_85_39 (wi_iret T_85 C_85 ⟨_, rfl, ?_⟩)
          refine q0 I_84_90 (wi_goto ?_)
          exact Wq_c I_84_94 rfl rfl H
theorem r_84_93 {x1 : Int32} {x2 : Int32} {x3 : Int32} {x4 : Int32} {x5 : Int32} {x6 : Int32} {di : tDi} {dl : tDl} {K : tDi → tDl → Prop} (H : (Wq none 2 84 94 [(0, .ref 8), (1, .int x1), (2, .int x2), (3, .int x3), (4, .int x4), (5, .int x5), (6, .int x6)] [.int 0] di dl (RV K))) : Wq none 2 84 93 [(0, .ref 8), (1, .int x1), (2, .int x2), (3, .int x3), (4, .int x4), (5, .int x5), (6, .int x6)] [] di dl (RV K) := by
  refine q1 (ls' := [(0, .ref 8), (1, .int x1), (2, .int x2), (3, .int x3), (4, .int x4), (5, .int x5), (6, .int x6)]) I_84_93 rfl (wi_iconst 0 rfl ?_)
  exact Wq_c I_84_94 rfl rfl H
theorem r_84_94 {x1 : Int32} {x2 : Int32} {x3 : Int32} {x4 : Int32} {x5 : Int32} {x6 : Int32} {z0 : Int32} {di : tDi} {dl : tDl} {K : tDi → tDl → Prop} (H : ((x5 = 0 → (Wq none 2 84 116 [(0, .ref 8), (1, .int x1), (2, .int x2), (3, .int x3), (4, .int x4), (6, .int x6), (7, .int z0)] [] di dl (RV K))) ∧ (¬ x5 = 0 → ((¬ x3 = 3 → (Wq none 2 84 116 [(0, .ref 8), (1, .int x1), (2, .int x2), (3, .int x3), (4, .int x4), (6, .int x6), (7, .int z0)] [] di dl (RV K))) ∧ (x3 = 3 → ((¬ x6 = 1 → (Wq none 2 84 116 [(0, .ref 8), (1, .int x1), (2, .int x2), (3, .int x3), (4, .int x4), (6, .int x6), (7, .int z0)] [] di dl (RV K))) ∧ (x6 = 1 → (Wq none 2 84 117 [(0, .ref 8), (1, .int x1), (2, .int x2), (3, .int x3), (4, .int x4), (6, .int x6), (7, .int z0)] [.int 1] di dl (RV K))))))))) : Wq none 2 84 94 [(0, .ref 8), (1, .int x1), (2, .int x2), (3, .int x3), (4, .int x4), (5, .int x5), (6, .int x6)] [.int z0] di dl (RV K) := by
  refine q1 (ls' := [(0, .ref 8), (1, .int x1), (2, .int x2), (3, .int x3), (4, .int x4), (5, .int x5), (6, .int x6)]) I_84_94 rfl (wi_istore [(0, .ref 8), (1, .int x1), (2, .int x2), (3, .int x3), (4, .int x4), (5, .int x5), (6, .int x6), (7, .int z0)] (lt_e X_84 rfl) rfl ?_)
  refine q0 I_84_96 (wi_iload _ rfl ?_)
  refine q0 I_84_98 (wi_if_eq (fun h => ?_) (fun h => ?_))
  · replace H := H.1 h
    exact Wq_c I_84_116 rfl rfl H
  · replace H := H.2 h
    refine q1 (ls' := [(0, .ref 8), (1, .int x1), (2, .int x2), (3, .int x3), (4, .int x4), (6, .int x6), (7, .int z0)]) I_84_101 rfl (wi_iload_n _ rfl ?_)
    refine q0 I_84_102 (wi_iconst 3 rfl ?_)
    refine q0 I_84_103 (wi_ic_ne (fun h => ?_) (fun h => ?_))
    · replace H := H.1 h
      exact Wq_c I_84_116 rfl rfl H
    · replace H := H.2 h
      refine q1 (ls' := [(0, .ref 8), (1, .int x1), (2, .int x2), (3, .int x3), (4, .int x4), (6, .int x6), (7, .int z0)]) I_84_106 rfl (wi_iload _ rfl ?_)
      refine q0 I_84_108 (wi_iconst 1 rfl ?_)
      refine q0 I_84_109 (wi_ic_ne (fun h => ?_) (fun h => ?_))
      · replace H := H.1 h
        exact Wq_c I_84_116 rfl rfl H
      · replace H := H.2 h
        refine q1 (ls' := [(0, .ref 8), (1, .int x1), (2, .int x2), (3, .int x3), (4, .int x4), (6, .int x6), (7, .int z0)]) I_84_112 rfl (wi_iconst 1 rfl ?_)
        refine q0 I_84_113 (wi_goto ?_)
        exact Wq_c I_84_117 rfl rfl H
theorem r_84_116 {x1 : Int32} {x2 : Int32} {x3 : Int32} {x4 : Int32} {x6 : Int32} {x7 : Int32} {di : tDi} {dl : tDl} {K : tDi → tDl → Prop} (H : (Wq none 2 84 117 [(0, .ref 8), (1, .int x1), (2, .int x2), (3, .int x3), (4, .int x4), (6, .int x6), (7, .int x7)] [.int 0] di dl (RV K))) : Wq none 2 84 116 [(0, .ref 8), (1, .int x1), (2, .int x2), (3, .int x3), (4, .int x4), (6, .int x6), (7, .int x7)] [] di dl (RV K) := by
  refine q1 (ls' := [(0, .ref 8), (1, .int x1), (2, .int x2), (3, .int x3), (4, .int x4), (6, .int x6), (7, .int x7)]) I_84_116 rfl (wi_iconst 0 rfl ?_)
  exact Wq_c I_84_117 rfl rfl H
theorem r_84_117 {x1 : Int32} {x2 : Int32} {x3 : Int32} {x4 : Int32} {x6 : Int32} {x7 : Int32} {z0 : Int32} {di : tDi} {dl : tDl} {K : tDi → tDl → Prop} (H : ((¬ x3 = 4 → (Wq none 2 84 133 [(0, .ref 8), (1, .int x1), (2, .int x2), (3, .int x3), (4, .int x4), (7, .int x7), (8, .int z0)] [.int 0] di dl (RV K))) ∧ (x3 = 4 → ((x6 = 0 → (Wq none 2 84 133 [(0, .ref 8), (1, .int x1), (2, .int x2), (3, .int x3), (4, .int x4), (7, .int x7), (8, .int z0)] [.int 2] di dl (RV K))) ∧ (¬ x6 = 0 → ((x6 = 2 → (Wq none 2 84 133 [(0, .ref 8), (1, .int x1), (2, .int x2), (3, .int x3), (4, .int x4), (7, .int x7), (8, .int z0)] [.int 1] di dl (RV K))) ∧ (¬ x6 = 2 → (Wq none 2 84 133 [(0, .ref 8), (1, .int x1), (2, .int x2), (3, .int x3), (4, .int x4), (7, .int x7), (8, .int z0)] [.int 0] di dl (RV K))))))))) : Wq none 2 84 117 [(0, .ref 8), (1, .int x1), (2, .int x2), (3, .int x3), (4, .int x4), (6, .int x6), (7, .int x7)] [.int z0] di dl (RV K) := by
  refine q1 (ls' := [(0, .ref 8), (1, .int x1), (2, .int x2), (3, .int x3), (4, .int x4), (6, .int x6), (7, .int x7)]) I_84_117 rfl (wi_istore [(0, .ref 8), (1, .int x1), (2, .int x2), (3, .int x3), (4, .int x4), (6, .int x6), (7, .int x7), (8, .int z0)] (lt_e X_84 rfl) rfl ?_)
  refine q0 I_84_119 (wi_iload_n _ rfl ?_)
  refine q0 I_84_120 (wi_iconst 4 rfl ?_)
  refine q0 I_84_121 (wi_ic_ne (fun h => ?_) (fun h => ?_))
  · replace H := H.1 h
    refine q1 (ls' := [(0, .ref 8), (1, .int x1), (2, .int x2), (3, .int x3), (4, .int x4), (7, .int x7), (8, .int z0)]) I_84_132 rfl (wi_iconst 0 rfl ?_)
    exact Wq_c I_84_133 rfl rfl H
  · replace H := H.2 h
    refine q1 (ls' := [(0, .ref 8), (1, .int x1), (2, .int x2), (3, .int x3), (4, .int x4), (6, .int x6), (7, .int x7), (8, .int z0)]) I_84_124 rfl (wi_iload _ rfl ?_)
    refine q0 I_84_126 (wi_statI (e := 1) [.int x6] [] rfl (Or.inl rfl) rfl rfl rfl (okC_i rfl rfl rfl) C_86 (by decide) (Cl_of C_86 Z_86 [(0, .int x6)] rfl ?_))
    refine q0 I_86_0 (wi_iload_n _ rfl ?_)
    refine q0 I_86_1 (wi_lsw ?_)
    refine sw_cons 0 rfl ⟨fun h => ?_, fun h => ?_⟩
    · replace H := H.1 h
      refine q1 (ls' := []) I_86_28 rfl (wi_iconst 2 rfl ?_)
      refine q0 I_86_29 (wi_iret T_86 C_86 ⟨_, rfl, ?_⟩)
      refine q0 I_84_129 (wi_goto ?_)
      exact Wq_c I_84_133 rfl rfl H
    · replace H := H.2 h
      refine sw_cons 2 rfl ⟨fun h => ?_, fun h => ?_⟩
      · replace H := H.1 h
        refine q1 (ls' := []) I_86_30 rfl (wi_iconst 1 rfl ?_)
        refine q0 I_86_31 (wi_iret T_86 C_86 ⟨_, rfl, ?_⟩)
        refine q0 I_84_129 (wi_goto ?_)
        exact Wq_c I_84_133 rfl rfl H
      · replace H := H.2 h
        refine sw_nil ?_
        refine q1 (ls' := []) I_86_32 rfl (wi_iconst 0 rfl ?_)
        refine q0 I_86_33 (wi_iret T_86 C_86 ⟨_, rfl, ?_⟩)
        refine q0 I_84_129 (wi_goto ?_)
        exact Wq_c I_84_133 rfl rfl H
theorem r_84_133 {x1 : Int32} {x2 : Int32} {x3 : Int32} {x4 : Int32} {x7 : Int32} {x8 : Int32} {z0 : Int32} {di : tDi} {dl : tDl} {K : tDi → tDl → Prop} (H : (inB x2 26 = true ∧ (inB x1 26 = true ∧ (inB x4 8 = true ∧ (Wq none 2 84 206 [(0, .ref 8), (1, .int x1), (2, .int x2), (3, .int x3), (4, .int x4)] [] (up2 (up2 (up2 di (10 + x2.toNatClampNeg) (x4.toNatClampNeg) ((di (10 + x1.toNatClampNeg) (x4.toNatClampNeg)) - x7)) (37 + x2.toNatClampNeg) (x4.toNatClampNeg) (imax 0 (((up2 di (10 + x2.toNatClampNeg) (x4.toNatClampNeg) ((di (10 + x1.toNatClampNeg) (x4.toNatClampNeg)) - x7)) (37 + x1.toNatClampNeg) (x4.toNatClampNeg)) - x8))) (64 + x2.toNatClampNeg) (x4.toNatClampNeg) (imax 0 (((up2 (up2 di (10 + x2.toNatClampNeg) (x4.toNatClampNeg) ((di (10 + x1.toNatClampNeg) (x4.toNatClampNeg)) - x7)) (37 + x2.toNatClampNeg) (x4.toNatClampNeg) (imax 0 (((up2 di (10 + x2.toNatClampNeg) (x4.toNatClampNeg) ((di (10 + x1.toNatClampNeg) (x4.toNatClampNeg)) - x7)) (37 + x1.toNatClampNeg) (x4.toNatClampNeg)) - x8))) (64 + x1.toNatClampNeg) (x4.toNatClampNeg)) - z0))) dl (RV K)))))) : Wq none 2 84 133 [(0, .ref 8), (1, .int x1), (2, .int x2), (3, .int x3), (4, .int x4), (7, .int x7), (8, .int x8)] [.int z0] di dl (RV K) := by
  refine q1 (ls' := [(0, .ref 8), (1, .int x1), (2, .int x2), (3, .int x3), (4, .int x4), (7, .int x7), (8, .int x8)]) I_84_133 rfl (wi_istore [(0, .ref 8), (1, .int x1), (2, .int x2), (3, .int x3), (4, .int x4), (7, .int x7), (8, .int x8), (9, .int z0)] (lt_e X_84 rfl) rfl ?_)
  refine q0 I_84_135 (wi_aload_n _ rfl ?_)
  refine q0 I_84_136 (wi_get (.ref 9) S_8 rfl (by decide) rfl ?_)
  refine q0 I_84_139 (wi_iload_n _ rfl ?_)
  have hb21 := H.1
  replace H := H.2
  refine q0 I_84_140 (wi_aaload (e := 2) (10 + x2.toNatClampNeg) S_9 hb21 (by decide) (K_9 hb21) ?_)
  refine q0 I_84_141 (wi_iload _ rfl ?_)
  refine q0 I_84_143 (wi_aload_n _ rfl ?_)
  refine q0 I_84_144 (wi_get (.ref 9) S_8 rfl (by decide) rfl ?_)
  refine q0 I_84_147 (wi_iload_n _ rfl ?_)
  have hb22 := H.1
  replace H := H.2
  refine q0 I_84_148 (wi_aaload (e := 2) (10 + x1.toNatClampNeg) S_9 hb22 (by decide) (K_9 hb22) ?_)
  refine q0 I_84_149 (wi_iload _ rfl ?_)
  have hb23 := H.1
  replace H := H.2
  refine q0 I_84_151 (wi_iaload (x4.toNatClampNeg) (G_9 hb22) hb23 rfl ?_)
  refine q0 I_84_152 (wi_iload _ rfl ?_)
  refine q0 I_84_154 (wi_isub ?_)
  refine q0 I_84_155 (wi_iastore (x4.toNatClampNeg) (G_9 hb21) hb23 rfl ?_)
  refine q0 I_84_156 (wi_aload_n _ rfl ?_)
  refine q0 I_84_157 (wi_get (.ref 36) S_8 rfl (by decide) rfl ?_)
  refine q0 I_84_160 (wi_iload_n _ rfl ?_)
  refine q0 I_84_161 (wi_aaload (e := 2) (37 + x2.toNatClampNeg) S_36 hb21 (by decide) (K_36 hb21) ?_)
  refine q0 I_84_162 (wi_iload _ rfl ?_)
  refine q0 I_84_164 (wi_iconst 0 rfl ?_)
  refine q0 I_84_165 (wi_aload_n _ rfl ?_)
  refine q0 I_84_166 (wi_get (.ref 36) S_8 rfl (by decide) rfl ?_)
  refine q0 I_84_169 (wi_iload_n _ rfl ?_)
  refine q0 I_84_170 (wi_aaload (e := 2) (37 + x1.toNatClampNeg) S_36 hb22 (by decide) (K_36 hb22) ?_)
  refine q0 I_84_171 (wi_iload _ rfl ?_)
  refine q0 I_84_173 (wi_iaload (x4.toNatClampNeg) (G_36 hb22) hb23 rfl ?_)
  refine q0 I_84_174 (wi_iload _ rfl ?_)
  refine q0 I_84_176 (wi_isub ?_)
  refine q0 I_84_177 (wi_max rfl (Nat.le_of_ble_eq_true rfl) ?_)
  refine q0 I_84_180 (wi_iastore (x4.toNatClampNeg) (G_36 hb21) hb23 rfl ?_)
  refine q0 I_84_181 (wi_aload_n _ rfl ?_)
  refine q0 I_84_182 (wi_get (.ref 63) S_8 rfl (by decide) rfl ?_)
  refine q0 I_84_185 (wi_iload_n _ rfl ?_)
  refine q0 I_84_186 (wi_aaload (e := 2) (64 + x2.toNatClampNeg) S_63 hb21 (by decide) (K_63 hb21) ?_)
  refine q0 I_84_187 (wi_iload _ rfl ?_)
  refine q0 I_84_189 (wi_iconst 0 rfl ?_)
  refine q0 I_84_190 (wi_aload_n _ rfl ?_)
  refine q0 I_84_191 (wi_get (.ref 63) S_8 rfl (by decide) rfl ?_)
  refine q0 I_84_194 (wi_iload_n _ rfl ?_)
  refine q0 I_84_195 (wi_aaload (e := 2) (64 + x1.toNatClampNeg) S_63 hb22 (by decide) (K_63 hb22) ?_)
  refine q0 I_84_196 (wi_iload _ rfl ?_)
  refine q0 I_84_198 (wi_iaload (x4.toNatClampNeg) (G_63 hb22) hb23 rfl ?_)
  refine q0 I_84_199 (wi_iload _ rfl ?_)
  refine q0 I_84_201 (wi_isub ?_)
  refine q0 I_84_202 (wi_max rfl (Nat.le_of_ble_eq_true rfl) ?_)
  refine q0 I_84_205 (wi_iastore (x4.toNatClampNeg) (G_63 hb21) hb23 rfl ?_)
  exact Wq_c I_84_206 rfl rfl H
