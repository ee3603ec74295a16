/-! regions, written by program (gen23.py) -/
theorem r_202 {a1 : Int32} {di : tDi} {dl : tDl} {K : Int32 → tDi → tDl → Prop} (H : (((lg_cmp (a1 : Int32).toInt64 0) < 0 → (K (-2) di dl)) ∧ (0 ≤ (lg_cmp (a1 : Int32).toInt64 0) → ((0 < (lg_cmp (a1 : Int32).toInt64 3) → (K (-2) di dl)) ∧ ((lg_cmp (a1 : Int32).toInt64 3) ≤ 0 → (inB a1 4 = true ∧ ((0 ≤ (di 177 (a1.toNatClampNeg)) → (Wq none 2 202 29 [(0, .ref 176), (1, .int a1), (2, .int 0), (3, .int 1)] [] di dl (RI K))) ∧ ((di 177 (a1.toNatClampNeg)) < 0 → (K (((-10) : Int32) - 1) (up2 di 176 4 1) dl))))))))) : ClI 2 202 [.ref 176, .int a1] di dl K := by
  refine Cl_of C_202 Z_202 [(0, .ref 176), (1, .int a1)] rfl ?_
  refine q0 I_202_0 (wi_iload_n _ rfl ?_)
  refine q0 I_202_1 (wi_statI (e := 1) [.int a1] [] rfl (Or.inl rfl) rfl rfl rfl (okC_i rfl rfl rfl) C_143 (by decide) (Cl_of C_143 Z_143 [(0, .int a1)] rfl ?_))
  refine q0 I_143_0 (wi_iload_n _ rfl ?_)
  refine q0 I_143_1 (wi_i2l ?_)
  refine q0 I_143_2 (wi_lconst 0 rfl ?_)
  refine q0 I_143_3 (wi_ldc2_w 3 rfl ?_)
  refine q0 I_143_6 (wi_statI (e := 0) [.long (a1 : Int32).toInt64, .long 0, .long 3] [] rfl (Or.inl rfl) rfl rfl rfl (okC_i rfl rfl rfl) C_134 (by decide) (Cl_of C_134 Z_134 [(0, .long (a1 : Int32).toInt64), (2, .long 0), (4, .long 3)] rfl ?_))
  refine q0 I_134_0 (wi_lload_n _ rfl ?_)
  refine q0 I_134_1 (wi_lload_n _ rfl ?_)
  refine q0 I_134_2 (wi_lcmp ?_)
  refine q0 I_134_3 (wi_if_lt (fun h => ?_) (fun h => ?_))
  · replace H := H.1 h
    refine q1 (ls' := []) I_134_17 rfl (wi_iconst 0 rfl ?_)
    refine q1 (ls' := []) I_134_18 rfl (wi_zret T_134 (Or.inl C_134) (Or.inl rfl) ⟨_, rfl, ?_⟩)
    refine q0 I_143_9 (wi_zret T_143 (Or.inl C_143) (Or.inl rfl) ⟨_, rfl, ?_⟩)
    refine q0 I_202_4 (wi_ifF rfl ?_)
    refine q1 (ls' := []) I_202_7 rfl (wi_bipush (-2) rfl ?_)
    exact q0 I_202_9 (wi_iret T_202 C_202 ⟨_, rfl, H⟩)
  · replace H := H.2 h
    refine q1 (ls' := [(0, .long (a1 : Int32).toInt64), (4, .long 3)]) I_134_6 rfl (wi_lload_n _ rfl ?_)
    refine q0 I_134_7 (wi_lload _ rfl ?_)
    refine q0 I_134_9 (wi_lcmp ?_)
    refine q0 I_134_10 (wi_if_gt (fun h => ?_) (fun h => ?_))
    · replace H := H.1 h
      refine q1 (ls' := []) I_134_17 rfl (wi_iconst 0 rfl ?_)
      refine q1 (ls' := []) I_134_18 rfl (wi_zret T_134 (Or.inl C_134) (Or.inl rfl) ⟨_, rfl, ?_⟩)
      refine q0 I_143_9 (wi_zret T_143 (Or.inl C_143) (Or.inl rfl) ⟨_, rfl, ?_⟩)
      refine q0 I_202_4 (wi_ifF rfl ?_)
      refine q1 (ls' := []) I_202_7 rfl (wi_bipush (-2) rfl ?_)
      exact q0 I_202_9 (wi_iret T_202 C_202 ⟨_, rfl, H⟩)
    · replace H := H.2 h
      refine q1 (ls' := []) I_134_13 rfl (wi_iconst 1 rfl ?_)
      refine q0 I_134_14 (wi_goto ?_)
      refine q1 (ls' := []) I_134_18 rfl (wi_zret T_134 (Or.inl C_134) (Or.inr rfl) ⟨_, rfl, ?_⟩)
      refine q0 I_143_9 (wi_zret T_143 (Or.inl C_143) (Or.inr rfl) ⟨_, rfl, ?_⟩)
      refine q0 I_202_4 (wi_ifT rfl ?_)
      refine q1 (ls' := [(0, .ref 176), (1, .int a1)]) I_202_10 rfl (wi_aload_n _ rfl ?_)
      refine q0 I_202_11 (wi_get (.ref 177) S_176 rfl (by decide) rfl ?_)
      refine q0 I_202_14 (wi_iload_n _ rfl ?_)
      have hb1 := H.1
      replace H := H.2
      refine q0 I_202_15 (wi_iaload (a1.toNatClampNeg) S_177 hb1 rfl ?_)
      refine q0 I_202_16 (wi_if_ge (fun h => ?_) (fun h => ?_))
      · replace H := H.1 h
        refine q1 (ls' := [(0, .ref 176), (1, .int a1)]) I_202_25 rfl (wi_iconst 0 rfl ?_)
        refine q0 I_202_26 (wi_istore_n [(0, .ref 176), (1, .int a1), (2, .int 0)] (lt_e X_202 rfl) rfl ?_)
        refine q0 I_202_27 (wi_iconst 1 rfl ?_)
        refine q0 I_202_28 (wi_istore_n [(0, .ref 176), (1, .int a1), (2, .int 0), (3, .int 1)] (lt_e X_202 rfl) rfl ?_)
        exact Wq_c I_202_29 rfl rfl H
      · replace H := H.2 h
        refine q1 (ls' := [(0, .ref 176)]) I_202_19 rfl (wi_aload_n _ rfl ?_)
        refine q0 I_202_20 (wi_iconst 1 rfl ?_)
        refine q0 I_202_21 (wi_virtI (e := 1) [.int 1] [] S_176 rfl (by decide) rfl rfl rfl (okC_i rfl rfl rfl) C_142 (by decide) (Cl_of C_142 Z_142 [(0, .ref 176), (1, .int 1)] rfl ?_))
        refine q0 I_142_0 (wi_aload_n _ rfl ?_)
        refine q0 I_142_1 (wi_iload_n _ rfl ?_)
        refine q0 I_142_2 (wi_putI S_176 rfl (by decide) rfl rfl rfl ?_)
        refine q0 I_142_5 (wi_bipush (-10) rfl ?_)
        refine q0 I_142_7 (wi_iload_n _ rfl ?_)
        refine q0 I_142_8 (wi_isub ?_)
        refine q0 I_142_9 (wi_iret T_142 C_142 ⟨_, rfl, ?_⟩)
        exact q0 I_202_24 (wi_iret T_202 C_202 ⟨_, rfl, H⟩)
theorem r_202_29 {x1 : Int32} {x2 : Int32} {x3 : Int32} {di : tDi} {dl : tDl} {K : Int32 → tDi → tDl → Prop} (H : ((x3 = 0 → (K x2 di dl)) ∧ (¬ x3 = 0 → (inB x1 4 = true ∧ (((di 178 (x1.toNatClampNeg)) < (((3 : Int32) * x2) + 3) → (K x2 di dl)) ∧ ((((3 : Int32) * x2) + 3) ≤ (di 178 (x1.toNatClampNeg)) → (inB (((60 : Int32) * x1) + ((3 : Int32) * x2)) 240 = true ∧ (inB ((((60 : Int32) * x1) + ((3 : Int32) * x2)) + 1) 240 = true ∧ (inB ((((60 : Int32) * x1) + ((3 : Int32) * x2)) + 2) 240 = true ∧ (ClI 1 200 [.ref 176, .int (di 179 ((((60 : Int32) * x1) + ((3 : Int32) * x2)).toNatClampNeg)), .int (di 179 (((((60 : Int32) * x1) + ((3 : Int32) * x2)) + 1).toNatClampNeg)), .int (di 179 (((((60 : Int32) * x1) + ((3 : Int32) * x2)) + 2).toNatClampNeg))] di dl (fun r25 di25 dl25 => ((r25 < 0 → (Wq none 2 202 29 [(0, .ref 176), (1, .int x1), (2, .int (x2 + 0)), (3, .int 0)] [] di25 dl25 (RI K))) ∧ (0 ≤ r25 → (Wq none 2 202 29 [(0, .ref 176), (1, .int x1), (2, .int (x2 + 1)), (3, .int 1)] [] di25 dl25 (RI K))))))))))))))) : Wq none 2 202 29 [(0, .ref 176), (1, .int x1), (2, .int x2), (3, .int x3)] [] di dl (RI K) := by
  refine q1 (ls' := [(0, .ref 176), (1, .int x1), (2, .int x2), (3, .int x3)]) I_202_29 rfl (wi_iload_n _ rfl ?_)
  refine q0 I_202_30 (wi_if_eq (fun h => ?_) (fun h => ?_))
  · replace H := H.1 h
    refine q1 (ls' := [(2, .int x2)]) I_202_110 rfl (wi_iload_n _ rfl ?_)
    exact q0 I_202_111 (wi_iret T_202 C_202 ⟨_, rfl, H⟩)
  · replace H := H.2 h
    refine q1 (ls' := [(0, .ref 176), (1, .int x1), (2, .int x2)]) I_202_33 rfl (wi_iconst 3 rfl ?_)
    refine q0 I_202_34 (wi_iload_n _ rfl ?_)
    refine q0 I_202_35 (wi_imul ?_)
    refine q0 I_202_36 (wi_iconst 3 rfl ?_)
    refine q0 I_202_37 (wi_iadd ?_)
    refine q0 I_202_38 (wi_aload_n _ rfl ?_)
    refine q0 I_202_39 (wi_get (.ref 178) S_176 rfl (by decide) rfl ?_)
    refine q0 I_202_42 (wi_iload_n _ rfl ?_)
    have hb21 := H.1
    replace H := H.2
    refine q0 I_202_43 (wi_iaload (x1.toNatClampNeg) S_178 hb21 rfl ?_)
    refine q0 I_202_44 (wi_ic_gt (fun h => ?_) (fun h => ?_))
    · replace H := H.1 h
      refine q1 (ls' := [(2, .int x2)]) I_202_110 rfl (wi_iload_n _ rfl ?_)
      exact q0 I_202_111 (wi_iret T_202 C_202 ⟨_, rfl, H⟩)
    · replace H := H.2 h
      refine q1 (ls' := [(0, .ref 176), (1, .int x1), (2, .int x2)]) I_202_47 rfl (wi_bipush 60 rfl ?_)
      refine q0 I_202_49 (wi_iload_n _ rfl ?_)
      refine q0 I_202_50 (wi_imul ?_)
      refine q0 I_202_51 (wi_iconst 3 rfl ?_)
      refine q0 I_202_52 (wi_iload_n _ rfl ?_)
      refine q0 I_202_53 (wi_imul ?_)
      refine q0 I_202_54 (wi_iadd ?_)
      refine q0 I_202_55 (wi_istore [(0, .ref 176), (1, .int x1), (2, .int x2), (4, .int (((60 : Int32) * x1) + ((3 : Int32) * x2)))] (lt_e X_202 rfl) rfl ?_)
      refine q0 I_202_57 (wi_aload_n _ rfl ?_)
      refine q0 I_202_58 (wi_aload_n _ rfl ?_)
      refine q0 I_202_59 (wi_get (.ref 179) S_176 rfl (by decide) rfl ?_)
      refine q0 I_202_62 (wi_iload _ rfl ?_)
      have hb22 := H.1
      replace H := H.2
      refine q0 I_202_64 (wi_iaload ((((60 : Int32) * x1) + ((3 : Int32) * x2)).toNatClampNeg) S_179 hb22 rfl ?_)
      refine q0 I_202_65 (wi_aload_n _ rfl ?_)
      refine q0 I_202_66 (wi_get (.ref 179) S_176 rfl (by decide) rfl ?_)
      refine q0 I_202_69 (wi_iload _ rfl ?_)
      refine q0 I_202_71 (wi_iconst 1 rfl ?_)
      refine q0 I_202_72 (wi_iadd ?_)
      have hb23 := H.1
      replace H := H.2
      refine q0 I_202_73 (wi_iaload (((((60 : Int32) * x1) + ((3 : Int32) * x2)) + 1).toNatClampNeg) S_179 hb23 rfl ?_)
      refine q0 I_202_74 (wi_aload_n _ rfl ?_)
      refine q0 I_202_75 (wi_get (.ref 179) S_176 rfl (by decide) rfl ?_)
      refine q0 I_202_78 (wi_iload _ rfl ?_)
      refine q0 I_202_80 (wi_iconst 2 rfl ?_)
      refine q0 I_202_81 (wi_iadd ?_)
      have hb24 := H.1
      replace H := H.2
      refine q0 I_202_82 (wi_iaload (((((60 : Int32) * x1) + ((3 : Int32) * x2)) + 2).toNatClampNeg) S_179 hb24 rfl ?_)
      refine q0 I_202_83 (wi_virtI (e := 1) [.int (di 179 ((((60 : Int32) * x1) + ((3 : Int32) * x2)).toNatClampNeg)), .int (di 179 (((((60 : Int32) * x1) + ((3 : Int32) * x2)) + 1).toNatClampNeg)), .int (di 179 (((((60 : Int32) * x1) + ((3 : Int32) * x2)) + 2).toNatClampNeg))] [] S_176 rfl (by decide) rfl rfl rfl (okC_i rfl rfl rfl) C_200 (by decide) (ClI_mono H ?_))
      intro r25 di25 dl25 H
      refine q0 I_202_86 (wi_if_lt (fun h => ?_) (fun h => ?_))
      · replace H := H.1 h
        refine q1 (ls' := [(0, .ref 176), (1, .int x1), (2, .int x2)]) I_202_93 rfl (wi_iconst 0 rfl ?_)
        refine q1 (ls' := [(0, .ref 176), (1, .int x1), (2, .int x2)]) I_202_94 rfl (wi_istore_n [(0, .ref 176), (1, .int x1), (2, .int x2), (3, .int 0)] (lt_e X_202 rfl) rfl ?_)
        refine q0 I_202_95 (wi_iload_n _ rfl ?_)
        refine q0 I_202_96 (wi_iload_n _ rfl ?_)
        refine q0 I_202_97 (wi_ifT rfl ?_)
        refine q1 (ls' := [(0, .ref 176), (1, .int x1), (3, .int 0)]) I_202_104 rfl (wi_iconst 0 rfl ?_)
        refine q1 (ls' := [(0, .ref 176), (1, .int x1), (3, .int 0)]) I_202_105 rfl (wi_iadd ?_)
        refine q0 I_202_106 (wi_istore_n [(0, .ref 176), (1, .int x1), (2, .int (x2 + 0)), (3, .int 0)] (lt_e X_202 rfl) rfl ?_)
        refine q0 I_202_107 (wi_goto ?_)
        exact Wq_c I_202_29 rfl rfl H
      · replace H := H.2 h
        refine q1 (ls' := [(0, .ref 176), (1, .int x1), (2, .int x2)]) I_202_89 rfl (wi_iconst 1 rfl ?_)
        refine q0 I_202_90 (wi_goto ?_)
        refine q1 (ls' := [(0, .ref 176), (1, .int x1), (2, .int x2)]) I_202_94 rfl (wi_istore_n [(0, .ref 176), (1, .int x1), (2, .int x2), (3, .int 1)] (lt_e X_202 rfl) rfl ?_)
        refine q0 I_202_95 (wi_iload_n _ rfl ?_)
        refine q0 I_202_96 (wi_iload_n _ rfl ?_)
        refine q0 I_202_97 (wi_ifF rfl ?_)
        refine q1 (ls' := [(0, .ref 176), (1, .int x1), (3, .int 1)]) I_202_100 rfl (wi_iconst 1 rfl ?_)
        refine q0 I_202_101 (wi_goto ?_)
        refine q1 (ls' := [(0, .ref 176), (1, .int x1), (3, .int 1)]) I_202_105 rfl (wi_iadd ?_)
        refine q0 I_202_106 (wi_istore_n [(0, .ref 176), (1, .int x1), (2, .int (x2 + 1)), (3, .int 1)] (lt_e X_202 rfl) rfl ?_)
        refine q0 I_202_107 (wi_goto ?_)
        exact Wq_c I_202_29 rfl rfl H
theorem r_203  {di : tDi} {dl : tDl} {K : tDi → tDl → Prop} (H : (Wq none 5 203 2 [(0, .ref 176), (1, .int 0)] [] di dl (RV K))) : ClV 5 203 [.ref 176] di dl K := by
  refine Cl_of C_203 Z_203 [(0, .ref 176)] rfl ?_
  refine q0 I_203_0 (wi_iconst 0 rfl ?_)
  refine q0 I_203_1 (wi_istore_n [(0, .ref 176), (1, .int 0)] (lt_e X_203 rfl) rfl ?_)
  exact Wq_c I_203_2 rfl rfl H
theorem r_203_2 {x1 : Int32} {di : tDi} {dl : tDl} {K : tDi → tDl → Prop} (H : (((di 183 2) < x1 → (K di dl)) ∧ (x1 ≤ (di 183 2) → (ClV 4 179 [.ref 176, .int x1] di dl (fun di21 dl21 => (Wq none 5 203 19 [(0, .ref 176), (1, .int x1), (2, .int 0)] [] di21 dl21 (RV K))))))) : Wq none 5 203 2 [(0, .ref 176), (1, .int x1)] [] di dl (RV K) := by
  refine q1 (ls' := [(0, .ref 176), (1, .int x1)]) I_203_2 rfl (wi_iload_n _ rfl ?_)
  refine q0 I_203_3 (wi_aload_n _ rfl ?_)
  refine q0 I_203_4 (wi_get (.ref 183) S_176 rfl (by decide) rfl ?_)
  refine q0 I_203_7 (wi_iconst 2 rfl ?_)
  refine q0 I_203_8 (wi_iaload 2 S_183 rfl rfl ?_)
  refine q0 I_203_9 (wi_ic_gt (fun h => ?_) (fun h => ?_))
  · replace H := H.1 h
    exact q1 (ls' := []) I_203_58 rfl (wi_ret T_203 C_203 ⟨rfl, H⟩)
  · replace H := H.2 h
    refine q1 (ls' := [(0, .ref 176), (1, .int x1)]) I_203_12 rfl (wi_aload_n _ rfl ?_)
    refine q0 I_203_13 (wi_iload_n _ rfl ?_)
    refine q0 I_203_14 (wi_virtV (e := 4) [.int x1] [] S_176 rfl (by decide) rfl rfl rfl (okC_i rfl rfl rfl) C_179 (by decide) (ClV_mono H ?_))
    intro di21 dl21 H
    refine q0 I_203_17 (wi_iconst 0 rfl ?_)
    refine q0 I_203_18 (wi_istore_n [(0, .ref 176), (1, .int x1), (2, .int 0)] (lt_e X_203 rfl) rfl ?_)
    exact Wq_c I_203_19 rfl rfl H
theorem r_203_19 {x1 : Int32} {x2 : Int32} {di : tDi} {dl : tDl} {K : tDi → tDl → Prop} (H : (((di 183 0) ≤ x2 → (Wq none 5 203 2 [(0, .ref 176), (1, .int (x1 + 1))] [] di dl (RV K))) ∧ (x2 < (di 183 0) → (inB x2 8 = true ∧ (inB (((8 : Int32) * x1) + x2) 200 = true ∧ (Wq none 5 203 19 [(0, .ref 176), (1, .int x1), (2, .int (x2 + 1))] [] (up2 di 194 ((((8 : Int32) * x1) + x2).toNatClampNeg) (di 189 (x2.toNatClampNeg))) dl (RV K))))))) : Wq none 5 203 19 [(0, .ref 176), (1, .int x1), (2, .int x2)] [] di dl (RV K) := by
  refine q1 (ls' := [(0, .ref 176), (1, .int x1), (2, .int x2)]) I_203_19 rfl (wi_iload_n _ rfl ?_)
  refine q0 I_203_20 (wi_aload_n _ rfl ?_)
  refine q0 I_203_21 (wi_get (.ref 183) S_176 rfl (by decide) rfl ?_)
  refine q0 I_203_24 (wi_iconst 0 rfl ?_)
  refine q0 I_203_25 (wi_iaload 0 S_183 rfl rfl ?_)
  refine q0 I_203_26 (wi_ic_ge (fun h => ?_) (fun h => ?_))
  · replace H := H.1 h
    refine q1 (ls' := [(0, .ref 176), (1, .int x1)]) I_203_52 rfl (wi_iinc 1 [(0, .ref 176), (1, .int (x1 + 1))] rfl (lt_e X_203 rfl) rfl rfl ?_)
    refine q0 I_203_55 (wi_goto ?_)
    exact Wq_c I_203_2 rfl rfl H
  · replace H := H.2 h
    refine q1 (ls' := [(0, .ref 176), (1, .int x1), (2, .int x2)]) I_203_29 rfl (wi_aload_n _ rfl ?_)
    refine q0 I_203_30 (wi_get (.ref 194) S_176 rfl (by decide) rfl ?_)
    refine q0 I_203_33 (wi_bipush 8 rfl ?_)
    refine q0 I_203_35 (wi_iload_n _ rfl ?_)
    refine q0 I_203_36 (wi_imul ?_)
    refine q0 I_203_37 (wi_iload_n _ rfl ?_)
    refine q0 I_203_38 (wi_iadd ?_)
    refine q0 I_203_39 (wi_aload_n _ rfl ?_)
    refine q0 I_203_40 (wi_get (.ref 189) S_176 rfl (by decide) rfl ?_)
    refine q0 I_203_43 (wi_iload_n _ rfl ?_)
    have hb21 := H.1
    replace H := H.2
    refine q0 I_203_44 (wi_iaload (x2.toNatClampNeg) S_189 hb21 rfl ?_)
    have hb22 := H.1
    replace H := H.2
    refine q0 I_203_45 (wi_iastore ((((8 : Int32) * x1) + x2).toNatClampNeg) S_194 hb22 rfl ?_)
    refine q0 I_203_46 (wi_iinc 1 [(0, .ref 176), (1, .int x1), (2, .int (x2 + 1))] rfl (lt_e X_203 rfl) rfl rfl ?_)
    refine q0 I_203_49 (wi_goto ?_)
    exact Wq_c I_203_19 rfl rfl H
theorem r_204 {a1 : Int32} {a2 : Int32} {a3 : Int32} {di : tDi} {dl : tDl} {K : Int32 → tDi → tDl → Prop} (H : ((¬ a1 = a2 → ((¬ a1 = a3 → (K a1 di dl)) ∧ (a1 = a3 → (K a2 di dl)))) ∧ (a1 = a2 → (K a3 di dl)))) : ClI 0 204 [.int a1, .int a2, .int a3] di dl K := by
  refine Cl_of C_204 Z_204 [(0, .int a1), (1, .int a2), (2, .int a3)] rfl ?_
  refine q0 I_204_0 (wi_iload_n _ rfl ?_)
  refine q0 I_204_1 (wi_iload_n _ rfl ?_)
  refine q0 I_204_2 (wi_ic_ne (fun h => ?_) (fun h => ?_))
  · replace H := H.1 h
    refine q1 (ls' := [(0, .int a1), (1, .int a2), (2, .int a3)]) I_204_9 rfl (wi_iload_n _ rfl ?_)
    refine q0 I_204_10 (wi_iload_n _ rfl ?_)
    refine q0 I_204_11 (wi_ic_ne (fun h => ?_) (fun h => ?_))
    · replace H := H.1 h
      refine q1 (ls' := [(0, .int a1)]) I_204_18 rfl (wi_iload_n _ rfl ?_)
      exact q1 (ls' := []) I_204_19 rfl (wi_iret T_204 C_204 ⟨_, rfl, H⟩)
    · replace H := H.2 h
      refine q1 (ls' := [(1, .int a2)]) I_204_14 rfl (wi_iload_n _ rfl ?_)
      refine q0 I_204_15 (wi_goto ?_)
      exact q1 (ls' := []) I_204_19 rfl (wi_iret T_204 C_204 ⟨_, rfl, H⟩)
  · replace H := H.2 h
    refine q1 (ls' := [(2, .int a3)]) I_204_5 rfl (wi_iload_n _ rfl ?_)
    refine q0 I_204_6 (wi_goto ?_)
    exact q1 (ls' := []) I_204_19 rfl (wi_iret T_204 C_204 ⟨_, rfl, H⟩)
theorem r_205 {a1 : Int32} {a2 : Int32} {di : tDi} {dl : tDl} {K : Int32 → tDi → tDl → Prop} (H : (Wq none 2 205 5 [(0, .ref 176), (1, .int a1), (2, .int a2), (3, .int 1), (4, .int 0)] [] di dl (RI K))) : ClI 2 205 [.ref 176, .int a1, .int a2] di dl K := by
  refine Cl_of C_205 Z_205 [(0, .ref 176), (1, .int a1), (2, .int a2)] rfl ?_
  refine q0 I_205_0 (wi_iconst 1 rfl ?_)
  refine q0 I_205_1 (wi_istore_n [(0, .ref 176), (1, .int a1), (2, .int a2), (3, .int 1)] (lt_e X_205 rfl) rfl ?_)
  refine q0 I_205_2 (wi_iconst 0 rfl ?_)
  refine q0 I_205_3 (wi_istore [(0, .ref 176), (1, .int a1), (2, .int a2), (3, .int 1), (4, .int 0)] (lt_e X_205 rfl) rfl ?_)
  exact Wq_c I_205_5 rfl rfl H
theorem r_205_5 {x1 : Int32} {x2 : Int32} {x3 : Int32} {x4 : Int32} {di : tDi} {dl : tDl} {K : Int32 → tDi → tDl → Prop} (H : (((di 176 18) ≤ x4 → ((x3 = 0 ∨ x3 = 1) ∧ (K x3 di dl))) ∧ (x4 < (di 176 18) → ((x3 = 0 → ((x3 = 0 ∨ x3 = 1) ∧ (K x3 di dl))) ∧ (¬ x3 = 0 → (inB ((3 : Int32) * x4) 24 = true ∧ (inB (((3 : Int32) * x4) + 1) 24 = true ∧ (((lg_cmp ((di 193 (((3 : Int32) * x4).toNatClampNeg)) : Int32).toInt64 0) < 0 → (Wq none 2 205 5 [(0, .ref 176), (1, .int x1), (2, .int x2), (3, .int 0), (4, .int (x4 + 1))] [] di dl (RI K))) ∧ (0 ≤ (lg_cmp ((di 193 (((3 : Int32) * x4).toNatClampNeg)) : Int32).toInt64 0) → ((0 < (lg_cmp ((di 193 (((3 : Int32) * x4).toNatClampNeg)) : Int32).toInt64 ((di 183 2) : Int32).toInt64) → (Wq none 2 205 5 [(0, .ref 176), (1, .int x1), (2, .int x2), (3, .int 0), (4, .int (x4 + 1))] [] di dl (RI K))) ∧ ((lg_cmp ((di 193 (((3 : Int32) * x4).toNatClampNeg)) : Int32).toInt64 ((di 183 2) : Int32).toInt64) ≤ 0 → (((lg_cmp ((di 193 ((((3 : Int32) * x4) + 1).toNatClampNeg)) : Int32).toInt64 0) < 0 → (Wq none 2 205 5 [(0, .ref 176), (1, .int x1), (2, .int x2), (3, .int 0), (4, .int (x4 + 1))] [] di dl (RI K))) ∧ (0 ≤ (lg_cmp ((di 193 ((((3 : Int32) * x4) + 1).toNatClampNeg)) : Int32).toInt64 0) → ((0 < (lg_cmp ((di 193 ((((3 : Int32) * x4) + 1).toNatClampNeg)) : Int32).toInt64 (((di 183 0) - 1) : Int32).toInt64) → (Wq none 2 205 5 [(0, .ref 176), (1, .int x1), (2, .int x2), (3, .int 0), (4, .int (x4 + 1))] [] di dl (RI K))) ∧ ((lg_cmp ((di 193 ((((3 : Int32) * x4) + 1).toNatClampNeg)) : Int32).toInt64 (((di 183 0) - 1) : Int32).toInt64) ≤ 0 → ((¬ (di 193 ((((3 : Int32) * x4) + 1).toNatClampNeg)) = x1 → ((¬ (di 193 ((((3 : Int32) * x4) + 1).toNatClampNeg)) = x2 → (inB (((8 : Int32) * (di 193 (((3 : Int32) * x4).toNatClampNeg))) + (di 193 ((((3 : Int32) * x4) + 1).toNatClampNeg))) 200 = true ∧ (inB (((3 : Int32) * x4) + 2) 24 = true ∧ ((¬ (di 194 ((((8 : Int32) * (di 193 (((3 : Int32) * x4).toNatClampNeg))) + (di 193 ((((3 : Int32) * x4) + 1).toNatClampNeg))).toNatClampNeg)) = (di 193 ((((3 : Int32) * x4) + 2).toNatClampNeg)) → (Wq none 2 205 5 [(0, .ref 176), (1, .int x1), (2, .int x2), (3, .int 0), (4, .int (x4 + 1))] [] di dl (RI K))) ∧ ((di 194 ((((8 : Int32) * (di 193 (((3 : Int32) * x4).toNatClampNeg))) + (di 193 ((((3 : Int32) * x4) + 1).toNatClampNeg))).toNatClampNeg)) = (di 193 ((((3 : Int32) * x4) + 2).toNatClampNeg)) → (Wq none 2 205 5 [(0, .ref 176), (1, .int x1), (2, .int x2), (3, .int 1), (4, .int (x4 + 1))] [] di dl (RI K))))))) ∧ ((di 193 ((((3 : Int32) * x4) + 1).toNatClampNeg)) = x2 → (inB (((8 : Int32) * (di 193 (((3 : Int32) * x4).toNatClampNeg))) + x1) 200 = true ∧ (inB (((3 : Int32) * x4) + 2) 24 = true ∧ ((¬ (di 194 ((((8 : Int32) * (di 193 (((3 : Int32) * x4).toNatClampNeg))) + x1).toNatClampNeg)) = (di 193 ((((3 : Int32) * x4) + 2).toNatClampNeg)) → (Wq none 2 205 5 [(0, .ref 176), (1, .int x1), (2, .int x2), (3, .int 0), (4, .int (x4 + 1))] [] di dl (RI K))) ∧ ((di 194 ((((8 : Int32) * (di 193 (((3 : Int32) * x4).toNatClampNeg))) + x1).toNatClampNeg)) = (di 193 ((((3 : Int32) * x4) + 2).toNatClampNeg)) → (Wq none 2 205 5 [(0, .ref 176), (1, .int x1), (2, .int x2), (3, .int 1), (4, .int (x4 + 1))] [] di dl (RI K))))))))) ∧ ((di 193 ((((3 : Int32) * x4) + 1).toNatClampNeg)) = x1 → (inB (((8 : Int32) * (di 193 (((3 : Int32) * x4).toNatClampNeg))) + x2) 200 = true ∧ (inB (((3 : Int32) * x4) + 2) 24 = true ∧ ((¬ (di 194 ((((8 : Int32) * (di 193 (((3 : Int32) * x4).toNatClampNeg))) + x2).toNatClampNeg)) = (di 193 ((((3 : Int32) * x4) + 2).toNatClampNeg)) → (Wq none 2 205 5 [(0, .ref 176), (1, .int x1), (2, .int x2), (3, .int 0), (4, .int (x4 + 1))] [] di dl (RI K))) ∧ ((di 194 ((((8 : Int32) * (di 193 (((3 : Int32) * x4).toNatClampNeg))) + x2).toNatClampNeg)) = (di 193 ((((3 : Int32) * x4) + 2).toNatClampNeg)) → (Wq none 2 205 5 [(0, .ref 176), (1, .int x1), (2, .int x2), (3, .int 1), (4, .int (x4 + 1))] [] di dl (RI K))))))))))))))))))))))) : Wq none 2 205 5 [(0, .ref 176), (1, .int x1), (2, .int x2), (3, .int x3), (4, .int x4)] [] di dl (RI K) := by
  refine q1 (ls' := [(0, .ref 176), (1, .int x1), (2, .int x2), (3, .int x3), (4, .int x4)]) I_205_5 rfl (wi_iload _ rfl ?_)
  refine q0 I_205_7 (wi_aload_n _ rfl ?_)
  refine q0 I_205_8 (wi_getI S_176 rfl (by decide) rfl ?_)
  refine q0 I_205_11 (wi_ic_ge (fun h => ?_) (fun h => ?_))
  · replace H := H.1 h
    refine q1 (ls' := [(3, .int x3)]) I_205_104 rfl (wi_iload_n _ rfl ?_)
    have hz := H.1
    replace H := H.2
    exact q0 I_205_105 (wi_zret T_205 (Or.inl C_205) hz ⟨_, rfl, H⟩)
  · replace H := H.2 h
    refine q1 (ls' := [(0, .ref 176), (1, .int x1), (2, .int x2), (3, .int x3), (4, .int x4)]) I_205_14 rfl (wi_iload_n _ rfl ?_)
    refine q0 I_205_15 (wi_if_eq (fun h => ?_) (fun h => ?_))
    · replace H := H.1 h
      refine q1 (ls' := [(3, .int x3)]) I_205_104 rfl (wi_iload_n _ rfl ?_)
      have hz := H.1
      replace H := H.2
      exact q0 I_205_105 (wi_zret T_205 (Or.inl C_205) hz ⟨_, rfl, H⟩)
    · replace H := H.2 h
      refine q1 (ls' := [(0, .ref 176), (1, .int x1), (2, .int x2), (4, .int x4)]) I_205_18 rfl (wi_aload_n _ rfl ?_)
      refine q0 I_205_19 (wi_get (.ref 193) S_176 rfl (by decide) rfl ?_)
      refine q0 I_205_22 (wi_iconst 3 rfl ?_)
      refine q0 I_205_23 (wi_iload _ rfl ?_)
      refine q0 I_205_25 (wi_imul ?_)
      have hb21 := H.1
      replace H := H.2
      refine q0 I_205_26 (wi_iaload (((3 : Int32) * x4).toNatClampNeg) S_193 hb21 rfl ?_)
      refine q0 I_205_27 (wi_istore [(0, .ref 176), (1, .int x1), (2, .int x2), (4, .int x4), (5, .int (di 193 (((3 : Int32) * x4).toNatClampNeg)))] (lt_e X_205 rfl) rfl ?_)
      refine q0 I_205_29 (wi_aload_n _ rfl ?_)
      refine q0 I_205_30 (wi_get (.ref 193) S_176 rfl (by decide) rfl ?_)
      refine q0 I_205_33 (wi_iconst 3 rfl ?_)
      refine q0 I_205_34 (wi_iload _ rfl ?_)
      refine q0 I_205_36 (wi_imul ?_)
      refine q0 I_205_37 (wi_iconst 1 rfl ?_)
      refine q0 I_205_38 (wi_iadd ?_)
      have hb22 := H.1
      replace H := H.2
      refine q0 I_205_39 (wi_iaload ((((3 : Int32) * x4) + 1).toNatClampNeg) S_193 hb22 rfl ?_)
      refine q0 I_205_40 (wi_istore [(0, .ref 176), (1, .int x1), (2, .int x2), (4, .int x4), (5, .int (di 193 (((3 : Int32) * x4).toNatClampNeg))), (6, .int (di 193 ((((3 : Int32) * x4) + 1).toNatClampNeg)))] (lt_e X_205 rfl) rfl ?_)
      refine q0 I_205_42 (wi_aload_n _ rfl ?_)
      refine q0 I_205_43 (wi_iload _ rfl ?_)
      refine q0 I_205_45 (wi_virtI (e := 1) [.int (di 193 (((3 : Int32) * x4).toNatClampNeg))] [] S_176 rfl (by decide) rfl rfl rfl (okC_i rfl rfl rfl) C_167 (by decide) (Cl_of C_167 Z_167 [(0, .ref 176), (1, .int (di 193 (((3 : Int32) * x4).toNatClampNeg)))] rfl ?_))
      refine q0 I_167_0 (wi_iload_n _ rfl ?_)
      refine q0 I_167_1 (wi_i2l ?_)
      refine q0 I_167_2 (wi_lconst 0 rfl ?_)
      refine q0 I_167_3 (wi_aload_n _ rfl ?_)
      refine q0 I_167_4 (wi_get (.ref 183) S_176 rfl (by decide) rfl ?_)
      refine q0 I_167_7 (wi_iconst 2 rfl ?_)
      refine q0 I_167_8 (wi_iaload 2 S_183 rfl rfl ?_)
      refine q0 I_167_9 (wi_i2l ?_)
      refine q0 I_167_10 (wi_statI (e := 0) [.long ((di 193 (((3 : Int32) * x4).toNatClampNeg)) : Int32).toInt64, .long 0, .long ((di 183 2) : Int32).toInt64] [] rfl (Or.inl rfl) rfl rfl rfl (okC_i rfl rfl rfl) C_134 (by decide) (Cl_of C_134 Z_134 [(0, .long ((di 193 (((3 : Int32) * x4).toNatClampNeg)) : Int32).toInt64), (2, .long 0), (4, .long ((di 183 2) : Int32).toInt64)] rfl ?_))
      refine q0 I_134_0 (wi_lload_n _ rfl ?_)
      refine q0 I_134_1 (wi_lload_n _ rfl ?_)
      refine q0 I_134_2 (wi_lcmp ?_)
      refine q0 I_134_3 (wi_if_lt (fun h => ?_) (fun h => ?_))
      · replace H := H.1 h
        refine q1 (ls' := []) I_134_17 rfl (wi_iconst 0 rfl ?_)
        refine q1 (ls' := []) I_134_18 rfl (wi_zret T_134 (Or.inl C_134) (Or.inl rfl) ⟨_, rfl, ?_⟩)
        refine q0 I_167_13 (wi_zret T_167 (Or.inl C_167) (Or.inl rfl) ⟨_, rfl, ?_⟩)
        refine q0 I_205_48 (wi_ifT rfl ?_)
        refine q1 (ls' := [(0, .ref 176), (1, .int x1), (2, .int x2), (4, .int x4)]) I_205_96 rfl (wi_iconst 0 rfl ?_)
        refine q1 (ls' := [(0, .ref 176), (1, .int x1), (2, .int x2), (4, .int x4)]) I_205_97 rfl (wi_istore_n [(0, .ref 176), (1, .int x1), (2, .int x2), (3, .int 0), (4, .int x4)] (lt_e X_205 rfl) rfl ?_)
        refine q0 I_205_98 (wi_iinc 1 [(0, .ref 176), (1, .int x1), (2, .int x2), (3, .int 0), (4, .int (x4 + 1))] rfl (lt_e X_205 rfl) rfl rfl ?_)
        refine q0 I_205_101 (wi_goto ?_)
        exact Wq_c I_205_5 rfl rfl H
      · replace H := H.2 h
        refine q1 (ls' := [(0, .long ((di 193 (((3 : Int32) * x4).toNatClampNeg)) : Int32).toInt64), (4, .long ((di 183 2) : Int32).toInt64)]) I_134_6 rfl (wi_lload_n _ rfl ?_)
        refine q0 I_134_7 (wi_lload _ rfl ?_)
        refine q0 I_134_9 (wi_lcmp ?_)
        refine q0 I_134_10 (wi_if_gt (fun h => ?_) (fun h => ?_))
        · replace H := H.1 h
          refine q1 (ls' := []) I_134_17 rfl (wi_iconst 0 rfl ?_)
          refine q1 (ls' := []) I_134_18 rfl (wi_zret T_134 (Or.inl C_134) (Or.inl rfl) ⟨_, rfl, ?_⟩)
          refine q0 I_167_13 (wi_zret T_167 (Or.inl C_167) (Or.inl rfl) ⟨_, rfl, ?_⟩)
          refine q0 I_205_48 (wi_ifT rfl ?_)
          refine q1 (ls' := [(0, .ref 176), (1, .int x1), (2, .int x2), (4, .int x4)]) I_205_96 rfl (wi_iconst 0 rfl ?_)
          refine q1 (ls' := [(0, .ref 176), (1, .int x1), (2, .int x2), (4, .int x4)]) I_205_97 rfl (wi_istore_n [(0, .ref 176), (1, .int x1), (2, .int x2), (3, .int 0), (4, .int x4)] (lt_e X_205 rfl) rfl ?_)
          refine q0 I_205_98 (wi_iinc 1 [(0, .ref 176), (1, .int x1), (2, .int x2), (3, .int 0), (4, .int (x4 + 1))] rfl (lt_e X_205 rfl) rfl rfl ?_)
          refine q0 I_205_101 (wi_goto ?_)
          exact Wq_c I_205_5 rfl rfl H
        · replace H := H.2 h
          refine q1 (ls' := []) I_134_13 rfl (wi_iconst 1 rfl ?_)
          refine q0 I_134_14 (wi_goto ?_)
          refine q1 (ls' := []) I_134_18 rfl (wi_zret T_134 (Or.inl C_134) (Or.inr rfl) ⟨_, rfl, ?_⟩)
          refine q0 I_167_13 (wi_zret T_167 (Or.inl C_167) (Or.inr rfl) ⟨_, rfl, ?_⟩)
          refine q0 I_205_48 (wi_ifF rfl ?_)
          refine q1 (ls' := [(0, .ref 176), (1, .int x1), (2, .int x2), (4, .int x4), (5, .int (di 193 (((3 : Int32) * x4).toNatClampNeg))), (6, .int (di 193 ((((3 : Int32) * x4) + 1).toNatClampNeg)))]) I_205_51 rfl (wi_aload_n _ rfl ?_)
          refine q0 I_205_52 (wi_iload _ rfl ?_)
          refine q0 I_205_54 (wi_virtI (e := 1) [.int (di 193 ((((3 : Int32) * x4) + 1).toNatClampNeg))] [] S_176 rfl (by decide) rfl rfl rfl (okC_i rfl rfl rfl) C_165 (by decide) (Cl_of C_165 Z_165 [(0, .ref 176), (1, .int (di 193 ((((3 : Int32) * x4) + 1).toNatClampNeg)))] rfl ?_))
          refine q0 I_165_0 (wi_iload_n _ rfl ?_)
          refine q0 I_165_1 (wi_i2l ?_)
          refine q0 I_165_2 (wi_lconst 0 rfl ?_)
          refine q0 I_165_3 (wi_aload_n _ rfl ?_)
          refine q0 I_165_4 (wi_get (.ref 183) S_176 rfl (by decide) rfl ?_)
          refine q0 I_165_7 (wi_iconst 0 rfl ?_)
          refine q0 I_165_8 (wi_iaload 0 S_183 rfl rfl ?_)
          refine q0 I_165_9 (wi_iconst 1 rfl ?_)
          refine q0 I_165_10 (wi_isub ?_)
          refine q0 I_165_11 (wi_i2l ?_)
          refine q0 I_165_12 (wi_statI (e := 0) [.long ((di 193 ((((3 : Int32) * x4) + 1).toNatClampNeg)) : Int32).toInt64, .long 0, .long (((di 183 0) - 1) : Int32).toInt64] [] rfl (Or.inl rfl) rfl rfl rfl (okC_i rfl rfl rfl) C_134 (by decide) (Cl_of C_134 Z_134 [(0, .long ((di 193 ((((3 : Int32) * x4) + 1).toNatClampNeg)) : Int32).toInt64), (2, .long 0), (4, .long (((di 183 0) - 1) : Int32).toInt64)] rfl ?_))
          refine q0 I_134_0 (wi_lload_n _ rfl ?_)
          refine q0 I_134_1 (wi_lload_n _ rfl ?_)
          refine q0 I_134_2 (wi_lcmp ?_)
          refine q0 I_134_3 (wi_if_lt (fun h => ?_) (fun h => ?_))
          · replace H := H.1 h
            refine q1 (ls' := []) I_134_17 rfl (wi_iconst 0 rfl ?_)
            refine q1 (ls' := []) I_134_18 rfl (wi_zret T_134 (Or.inl C_134) (Or.inl rfl) ⟨_, rfl, ?_⟩)
            refine q0 I_165_15 (wi_zret T_165 (Or.inl C_165) (Or.inl rfl) ⟨_, rfl, ?_⟩)
            refine q0 I_205_57 (wi_ifT rfl ?_)
            refine q1 (ls' := [(0, .ref 176), (1, .int x1), (2, .int x2), (4, .int x4)]) I_205_96 rfl (wi_iconst 0 rfl ?_)
            refine q1 (ls' := [(0, .ref 176), (1, .int x1), (2, .int x2), (4, .int x4)]) I_205_97 rfl (wi_istore_n [(0, .ref 176), (1, .int x1), (2, .int x2), (3, .int 0), (4, .int x4)] (lt_e X_205 rfl) rfl ?_)
            refine q0 I_205_98 (wi_iinc 1 [(0, .ref 176), (1, .int x1), (2, .int x2), (3, .int 0), (4, .int (x4 + 1))] rfl (lt_e X_205 rfl) rfl rfl ?_)
            refine q0 I_205_101 (wi_goto ?_)
            exact Wq_c I_205_5 rfl rfl H
          · replace H := H.2 h
            refine q1 (ls' := [(0, .long ((di 193 ((((3 : Int32) * x4) + 1).toNatClampNeg)) : Int32).toInt64), (4, .long (((di 183 0) - 1) : Int32).toInt64)]) I_134_6 rfl (wi_lload_n _ rfl ?_)
            refine q0 I_134_7 (wi_lload _ rfl ?_)
            refine q0 I_134_9 (wi_lcmp ?_)
            refine q0 I_134_10 (wi_if_gt (fun h => ?_) (fun h => ?_))
            · replace H := H.1 h
              refine q1 (ls' := []) I_134_17 rfl (wi_iconst 0 rfl ?_)
              refine q1 (ls' := []) I_134_18 rfl (wi_zret T_134 (Or.inl C_134) (Or.inl rfl) ⟨_, rfl, ?_⟩)
              refine q0 I_165_15 (wi_zret T_165 (Or.inl C_165) (Or.inl rfl) ⟨_, rfl, ?_⟩)
              refine q0 I_205_57 (wi_ifT rfl ?_)
              refine q1 (ls' := [(0, .ref 176), (1, .int x1), (2, .int x2), (4, .int x4)]) I_205_96 rfl (wi_iconst 0 rfl ?_)
              refine q1 (ls' := [(0, .ref 176), (1, .int x1), (2, .int x2), (4, .int x4)]) I_205_97 rfl (wi_istore_n [(0, .ref 176), (1, .int x1), (2, .int x2), (3, .int 0), (4, .int x4)] (lt_e X_205 rfl) rfl ?_)
              refine q0 I_205_98 (wi_iinc 1 [(0, .ref 176), (1, .int x1), (2, .int x2), (3, .int 0), (4, .int (x4 + 1))] rfl (lt_e X_205 rfl) rfl rfl ?_)
              refine q0 I_205_101 (wi_goto ?_)
              exact Wq_c I_205_5 rfl rfl H
            · replace H := H.2 h
              refine q1 (ls' := []) I_134_13 rfl (wi_iconst 1 rfl ?_)
              refine q0 I_134_14 (wi_goto ?_)
              refine q1 (ls' := []) I_134_18 rfl (wi_zret T_134 (Or.inl C_134) (Or.inr rfl) ⟨_, rfl, ?_⟩)
              refine q0 I_165_15 (wi_zret T_165 (Or.inl C_165) (Or.inr rfl) ⟨_, rfl, ?_⟩)
              refine q0 I_205_57 (wi_ifF rfl ?_)
              refine q1 (ls' := [(0, .ref 176), (1, .int x1), (2, .int x2), (4, .int x4), (5, .int (di 193 (((3 : Int32) * x4).toNatClampNeg))), (6, .int (di 193 ((((3 : Int32) * x4) + 1).toNatClampNeg)))]) I_205_60 rfl (wi_aload_n _ rfl ?_)
              refine q0 I_205_61 (wi_get (.ref 194) S_176 rfl (by decide) rfl ?_)
              refine q0 I_205_64 (wi_bipush 8 rfl ?_)
              refine q0 I_205_66 (wi_iload _ rfl ?_)
              refine q0 I_205_68 (wi_imul ?_)
              refine q0 I_205_69 (wi_iload _ rfl ?_)
              refine q0 I_205_71 (wi_iload_n _ rfl ?_)
              refine q0 I_205_72 (wi_iload_n _ rfl ?_)
              refine q0 I_205_73 (wi_statI (e := 1) [.int (di 193 ((((3 : Int32) * x4) + 1).toNatClampNeg)), .int x1, .int x2] [.int ((8 : Int32) * (di 193 (((3 : Int32) * x4).toNatClampNeg))), .ref 194] rfl (Or.inl rfl) rfl rfl rfl (okC_i rfl rfl rfl) C_204 (by decide) (Cl_of C_204 Z_204 [(0, .int (di 193 ((((3 : Int32) * x4) + 1).toNatClampNeg))), (1, .int x1), (2, .int x2)] rfl ?_))
              refine q0 I_204_0 (wi_iload_n _ rfl ?_)
              refine q0 I_204_1 (wi_iload_n _ rfl ?_)
              refine q0 I_204_2 (wi_ic_ne (fun h => ?_) (fun h => ?_))
              · replace H := H.1 h
                refine q1 (ls' := [(0, .int (di 193 ((((3 : Int32) * x4) + 1).toNatClampNeg))), (1, .int x1), (2, .int x2)]) I_204_9 rfl (wi_iload_n _ rfl ?_)
                refine q0 I_204_10 (wi_iload_n _ rfl ?_)
                refine q0 I_204_11 (wi_ic_ne (fun h => ?_) (fun h => ?_))
                · replace H := H.1 h
                  refine q1 (ls' := [(0, .int (di 193 ((((3 : Int32) * x4) + 1).toNatClampNeg)))]) I_204_18 rfl (wi_iload_n _ rfl ?_)
                  refine q1 (ls' := []) I_204_19 rfl (wi_iret T_204 C_204 ⟨_, rfl, ?_⟩)
                  refine q0 I_205_76 (wi_iadd ?_)
                  have hb23 := H.1
                  replace H := H.2
                  refine q0 I_205_77 (wi_iaload ((((8 : Int32) * (di 193 (((3 : Int32) * x4).toNatClampNeg))) + (di 193 ((((3 : Int32) * x4) + 1).toNatClampNeg))).toNatClampNeg) S_194 hb23 rfl ?_)
                  refine q0 I_205_78 (wi_aload_n _ rfl ?_)
                  refine q0 I_205_79 (wi_get (.ref 193) S_176 rfl (by decide) rfl ?_)
                  refine q0 I_205_82 (wi_iconst 3 rfl ?_)
                  refine q0 I_205_83 (wi_iload _ rfl ?_)
                  refine q0 I_205_85 (wi_imul ?_)
                  refine q0 I_205_86 (wi_iconst 2 rfl ?_)
                  refine q0 I_205_87 (wi_iadd ?_)
                  have hb24 := H.1
                  replace H := H.2
                  refine q0 I_205_88 (wi_iaload ((((3 : Int32) * x4) + 2).toNatClampNeg) S_193 hb24 rfl ?_)
                  refine q0 I_205_89 (wi_ic_ne (fun h => ?_) (fun h => ?_))
                  · replace H := H.1 h
                    refine q1 (ls' := [(0, .ref 176), (1, .int x1), (2, .int x2), (4, .int x4)]) I_205_96 rfl (wi_iconst 0 rfl ?_)
                    refine q1 (ls' := [(0, .ref 176), (1, .int x1), (2, .int x2), (4, .int x4)]) I_205_97 rfl (wi_istore_n [(0, .ref 176), (1, .int x1), (2, .int x2), (3, .int 0), (4, .int x4)] (lt_e X_205 rfl) rfl ?_)
                    refine q0 I_205_98 (wi_iinc 1 [(0, .ref 176), (1, .int x1), (2, .int x2), (3, .int 0), (4, .int (x4 + 1))] rfl (lt_e X_205 rfl) rfl rfl ?_)
                    refine q0 I_205_101 (wi_goto ?_)
                    exact Wq_c I_205_5 rfl rfl H
                  · replace H := H.2 h
                    refine q1 (ls' := [(0, .ref 176), (1, .int x1), (2, .int x2), (4, .int x4)]) I_205_92 rfl (wi_iconst 1 rfl ?_)
                    refine q0 I_205_93 (wi_goto ?_)
                    refine q1 (ls' := [(0, .ref 176), (1, .int x1), (2, .int x2), (4, .int x4)]) I_205_97 rfl (wi_istore_n [(0, .ref 176), (1, .int x1), (2, .int x2), (3, .int 1), (4, .int x4)] (lt_e X_205 rfl) rfl ?_)
                    refine q0 I_205_98 (wi_iinc 1 [(0, .ref 176), (1, .int x1), (2, .int x2), (3, .int 1), (4, .int (x4 + 1))] rfl (lt_e X_205 rfl) rfl rfl ?_)
                    refine q0 I_205_101 (wi_goto ?_)
                    exact Wq_c I_205_5 rfl rfl H
                · replace H := H.2 h
                  refine q1 (ls' := [(1, .int x1)]) I_204_14 rfl (wi_iload_n _ rfl ?_)
                  refine q0 I_204_15 (wi_goto ?_)
                  refine q1 (ls' := []) I_204_19 rfl (wi_iret T_204 C_204 ⟨_, rfl, ?_⟩)
                  refine q0 I_205_76 (wi_iadd ?_)
                  have hb25 := H.1
                  replace H := H.2
                  refine q0 I_205_77 (wi_iaload ((((8 : Int32) * (di 193 (((3 : Int32) * x4).toNatClampNeg))) + x1).toNatClampNeg) S_194 hb25 rfl ?_)
                  refine q0 I_205_78 (wi_aload_n _ rfl ?_)
                  refine q0 I_205_79 (wi_get (.ref 193) S_176 rfl (by decide) rfl ?_)
                  refine q0 I_205_82 (wi_iconst 3 rfl ?_)
                  refine q0 I_205_83 (wi_iload _ rfl ?_)
                  refine q0 I_205_85 (wi_imul ?_)
                  refine q0 I_205_86 (wi_iconst 2 rfl ?_)
                  refine q0 I_205_87 (wi_iadd ?_)
                  have hb26 := H.1
                  replace H := H.2
                  refine q0 I_205_88 (wi_iaload ((((3 : Int32) * x4) + 2).toNatClampNeg) S_193 hb26 rfl ?_)
                  refine q0 I_205_89 (wi_ic_ne (fun h => ?_) (fun h => ?_))
                  · replace H := H.1 h
                    refine q1 (ls' := [(0, .ref 176), (1, .int x1), (2, .int x2), (4, .int x4)]) I_205_96 rfl (wi_iconst 0 rfl ?_)
                    refine q1 (ls' := [(0, .ref 176), (1, .int x1), (2, .int x2), (4, .int x4)]) I_205_97 rfl (wi_istore_n [(0, .ref 176), (1, .int x1), (2, .int x2), (3, .int 0), (4, .int x4)] (lt_e X_205 rfl) rfl ?_)
                    refine q0 I_205_98 (wi_iinc 1 [(0, .ref 176), (1, .int x1), (2, .int x2), (3, .int 0), (4, .int (x4 + 1))] rfl (lt_e X_205 rfl) rfl rfl ?_)
                    refine q0 I_205_101 (wi_goto ?_)
                    exact Wq_c I_205_5 rfl rfl H
                  · replace H := H.2 h
                    refine q1 (ls' := [(0, .ref 176), (1, .int x1), (2, .int x2), (4, .int x4)]) I_205_92 rfl (wi_iconst 1 rfl ?_)
                    refine q0 I_205_93 (wi_goto ?_)
                    refine q1 (ls' := [(0, .ref 176), (1, .int x1), (2, .int x2), (4, .int x4)]) I_205_97 rfl (wi_istore_n [(0, .ref 176), (1, .int x1), (2, .int x2), (3, .int 1), (4, .int x4)] (lt_e X_205 rfl) rfl ?_)
                    refine q0 I_205_98 (wi_iinc 1 [(0, .ref 176), (1, .int x1), (2, .int x2), (3, .int 1), (4, .int (x4 + 1))] rfl (lt_e X_205 rfl) rfl rfl ?_)
                    refine q0 I_205_101 (wi_goto ?_)
                    exact Wq_c I_205_5 rfl rfl H
              · replace H := H.2 h
                refine q1 (ls' := [(2, .int x2)]) I_204_5 rfl (wi_iload_n _ rfl ?_)
                refine q0 I_204_6 (wi_goto ?_)
                refine q1 (ls' := []) I_204_19 rfl (wi_iret T_204 C_204 ⟨_, rfl, ?_⟩)
                refine q0 I_205_76 (wi_iadd ?_)
                have hb27 := H.1
                replace H := H.2
                refine q0 I_205_77 (wi_iaload ((((8 : Int32) * (di 193 (((3 : Int32) * x4).toNatClampNeg))) + x2).toNatClampNeg) S_194 hb27 rfl ?_)
                refine q0 I_205_78 (wi_aload_n _ rfl ?_)
                refine q0 I_205_79 (wi_get (.ref 193) S_176 rfl (by decide) rfl ?_)
                refine q0 I_205_82 (wi_iconst 3 rfl ?_)
                refine q0 I_205_83 (wi_iload _ rfl ?_)
                refine q0 I_205_85 (wi_imul ?_)
                refine q0 I_205_86 (wi_iconst 2 rfl ?_)
                refine q0 I_205_87 (wi_iadd ?_)
                have hb28 := H.1
                replace H := H.2
                refine q0 I_205_88 (wi_iaload ((((3 : Int32) * x4) + 2).toNatClampNeg) S_193 hb28 rfl ?_)
                refine q0 I_205_89 (wi_ic_ne (fun h => ?_) (fun h => ?_))
                · replace H := H.1 h
                  refine q1 (ls' := [(0, .ref 176), (1, .int x1), (2, .int x2), (4, .int x4)]) I_205_96 rfl (wi_iconst 0 rfl ?_)
                  refine q1 (ls' := [(0, .ref 176), (1, .int x1), (2, .int x2), (4, .int x4)]) I_205_97 rfl (wi_istore_n [(0, .ref 176), (1, .int x1), (2, .int x2), (3, .int 0), (4, .int x4)] (lt_e X_205 rfl) rfl ?_)
                  refine q0 I_205_98 (wi_iinc 1 [(0, .ref 176), (1, .int x1), (2, .int x2), (3, .int 0), (4, .int (x4 + 1))] rfl (lt_e X_205 rfl) rfl rfl ?_)
                  refine q0 I_205_101 (wi_goto ?_)
                  exact Wq_c I_205_5 rfl rfl H
                · replace H := H.2 h
                  refine q1 (ls' := [(0, .ref 176), (1, .int x1), (2, .int x2), (4, .int x4)]) I_205_92 rfl (wi_iconst 1 rfl ?_)
                  refine q0 I_205_93 (wi_goto ?_)
                  refine q1 (ls' := [(0, .ref 176), (1, .int x1), (2, .int x2), (4, .int x4)]) I_205_97 rfl (wi_istore_n [(0, .ref 176), (1, .int x1), (2, .int x2), (3, .int 1), (4, .int x4)] (lt_e X_205 rfl) rfl ?_)
                  refine q0 I_205_98 (wi_iinc 1 [(0, .ref 176), (1, .int x1), (2, .int x2), (3, .int 1), (4, .int (x4 + 1))] rfl (lt_e X_205 rfl) rfl rfl ?_)
                  refine q0 I_205_101 (wi_goto ?_)
                  exact Wq_c I_205_5 rfl rfl H
theorem r_206 {a1 : Int32} {di : tDi} {dl : tDl} {K : Int32 → tDi → tDl → Prop} (H : (ClV 5 203 [.ref 176] di dl (fun di1 dl1 => (Wq none 6 206 11 [(0, .ref 176), (1, .int a1), (2, .int 0), (3, .int (-1)), (4, .int 0)] [] di1 dl1 (RI K))))) : ClI 6 206 [.ref 176, .int a1] di dl K := by
  refine Cl_of C_206 Z_206 [(0, .ref 176), (1, .int a1)] rfl ?_
  refine q0 I_206_0 (wi_aload_n _ rfl ?_)
  refine q0 I_206_1 (wi_virtV (e := 5) [] [] S_176 rfl (by decide) rfl rfl rfl (okC_i rfl rfl rfl) C_203 (by decide) (ClV_mono H ?_))
  intro di1 dl1 H
  refine q0 I_206_4 (wi_iconst 0 rfl ?_)
  refine q0 I_206_5 (wi_istore_n [(0, .ref 176), (1, .int a1), (2, .int 0)] (lt_e X_206 rfl) rfl ?_)
  refine q0 I_206_6 (wi_iconst (-1) rfl ?_)
  refine q0 I_206_7 (wi_istore_n [(0, .ref 176), (1, .int a1), (2, .int 0), (3, .int (-1))] (lt_e X_206 rfl) rfl ?_)
  refine q0 I_206_8 (wi_iconst 0 rfl ?_)
  refine q0 I_206_9 (wi_istore [(0, .ref 176), (1, .int a1), (2, .int 0), (3, .int (-1)), (4, .int 0)] (lt_e X_206 rfl) rfl ?_)
  exact Wq_c I_206_11 rfl rfl H
theorem r_206_11 {x1 : Int32} {x2 : Int32} {x3 : Int32} {x4 : Int32} {di : tDi} {dl : tDl} {K : Int32 → tDi → tDl → Prop} (H : (((di 183 0) ≤ x4 → ((¬ x1 = 0 → (K x3 di dl)) ∧ (x1 = 0 → (K x2 di dl)))) ∧ (x4 < (di 183 0) → (Wq none 6 206 28 [(0, .ref 176), (1, .int x1), (2, .int x2), (3, .int x3), (4, .int x4), (5, .int (x4 + 1))] [] di dl (RI K))))) : Wq none 6 206 11 [(0, .ref 176), (1, .int x1), (2, .int x2), (3, .int x3), (4, .int x4)] [] di dl (RI K) := by
  refine q1 (ls' := [(0, .ref 176), (1, .int x1), (2, .int x2), (3, .int x3), (4, .int x4)]) I_206_11 rfl (wi_iload _ rfl ?_)
  refine q0 I_206_13 (wi_aload_n _ rfl ?_)
  refine q0 I_206_14 (wi_get (.ref 183) S_176 rfl (by decide) rfl ?_)
  refine q0 I_206_17 (wi_iconst 0 rfl ?_)
  refine q0 I_206_18 (wi_iaload 0 S_183 rfl rfl ?_)
  refine q0 I_206_19 (wi_ic_ge (fun h => ?_) (fun h => ?_))
  · replace H := H.1 h
    refine q1 (ls' := [(1, .int x1), (2, .int x2), (3, .int x3)]) I_206_82 rfl (wi_iload_n _ rfl ?_)
    refine q0 I_206_83 (wi_if_ne (fun h => ?_) (fun h => ?_))
    · replace H := H.1 h
      refine q1 (ls' := [(3, .int x3)]) I_206_90 rfl (wi_iload_n _ rfl ?_)
      exact q1 (ls' := []) I_206_91 rfl (wi_iret T_206 C_206 ⟨_, rfl, H⟩)
    · replace H := H.2 h
      refine q1 (ls' := [(2, .int x2)]) I_206_86 rfl (wi_iload_n _ rfl ?_)
      refine q0 I_206_87 (wi_goto ?_)
      exact q1 (ls' := []) I_206_91 rfl (wi_iret T_206 C_206 ⟨_, rfl, H⟩)
  · replace H := H.2 h
    refine q1 (ls' := [(0, .ref 176), (1, .int x1), (2, .int x2), (3, .int x3), (4, .int x4)]) I_206_22 rfl (wi_iload _ rfl ?_)
    refine q0 I_206_24 (wi_iconst 1 rfl ?_)
    refine q0 I_206_25 (wi_iadd ?_)
    refine q0 I_206_26 (wi_istore [(0, .ref 176), (1, .int x1), (2, .int x2), (3, .int x3), (4, .int x4), (5, .int (x4 + 1))] (lt_e X_206 rfl) rfl ?_)
    exact Wq_c I_206_28 rfl rfl H
theorem r_206_28 {x1 : Int32} {x2 : Int32} {x3 : Int32} {x4 : Int32} {x5 : Int32} {di : tDi} {dl : tDl} {K : Int32 → tDi → tDl → Prop} (H : (((di 183 0) ≤ x5 → (Wq none 6 206 11 [(0, .ref 176), (1, .int x1), (2, .int x2), (3, .int x3), (4, .int (x4 + 1))] [] di dl (RI K))) ∧ (x5 < (di 183 0) → (ClI 2 205 [.ref 176, .int x4, .int x5] di dl (fun r21 di21 dl21 => ((r21 = 0 → (Wq none 6 206 28 [(0, .ref 176), (1, .int x1), (2, .int x2), (3, .int x3), (4, .int x4), (5, .int (x5 + 1))] [] di21 dl21 (RI K))) ∧ (¬ r21 = 0 → ((¬ x2 = 0 → (Wq none 6 206 28 [(0, .ref 176), (1, .int x1), (2, .int (x2 + 1)), (3, .int x3), (4, .int x4), (5, .int (x5 + 1))] [] di21 dl21 (RI K))) ∧ (x2 = 0 → (Wq none 6 206 28 [(0, .ref 176), (1, .int x1), (2, .int (x2 + 1)), (3, .int (((8 : Int32) * x4) + x5)), (4, .int x4), (5, .int (x5 + 1))] [] di21 dl21 (RI K))))))))))) : Wq none 6 206 28 [(0, .ref 176), (1, .int x1), (2, .int x2), (3, .int x3), (4, .int x4), (5, .int x5)] [] di dl (RI K) := by
  refine q1 (ls' := [(0, .ref 176), (1, .int x1), (2, .int x2), (3, .int x3), (4, .int x4), (5, .int x5)]) I_206_28 rfl (wi_iload _ rfl ?_)
  refine q0 I_206_30 (wi_aload_n _ rfl ?_)
  refine q0 I_206_31 (wi_get (.ref 183) S_176 rfl (by decide) rfl ?_)
  refine q0 I_206_34 (wi_iconst 0 rfl ?_)
  refine q0 I_206_35 (wi_iaload 0 S_183 rfl rfl ?_)
  refine q0 I_206_36 (wi_ic_ge (fun h => ?_) (fun h => ?_))
  · replace H := H.1 h
    refine q1 (ls' := [(0, .ref 176), (1, .int x1), (2, .int x2), (3, .int x3), (4, .int x4)]) I_206_76 rfl (wi_iinc 1 [(0, .ref 176), (1, .int x1), (2, .int x2), (3, .int x3), (4, .int (x4 + 1))] rfl (lt_e X_206 rfl) rfl rfl ?_)
    refine q0 I_206_79 (wi_goto ?_)
    exact Wq_c I_206_11 rfl rfl H
  · replace H := H.2 h
    refine q1 (ls' := [(0, .ref 176), (1, .int x1), (2, .int x2), (3, .int x3), (4, .int x4), (5, .int x5)]) I_206_39 rfl (wi_aload_n _ rfl ?_)
    refine q0 I_206_40 (wi_iload _ rfl ?_)
    refine q0 I_206_42 (wi_iload _ rfl ?_)
    refine q0 I_206_44 (wi_virtI (e := 2) [.int x4, .int x5] [] S_176 rfl (by decide) rfl rfl rfl (okC_i rfl rfl rfl) C_205 (by decide) (ClI_mono H ?_))
    intro r21 di21 dl21 H
    refine q0 I_206_47 (wi_if_eq (fun h => ?_) (fun h => ?_))
    · replace H := H.1 h
      refine q1 (ls' := [(0, .ref 176), (1, .int x1), (2, .int x2), (3, .int x3), (4, .int x4), (5, .int x5)]) I_206_70 rfl (wi_iinc 1 [(0, .ref 176), (1, .int x1), (2, .int x2), (3, .int x3), (4, .int x4), (5, .int (x5 + 1))] rfl (lt_e X_206 rfl) rfl rfl ?_)
      refine q0 I_206_73 (wi_goto ?_)
      exact Wq_c I_206_28 rfl rfl H
    · replace H := H.2 h
      refine q1 (ls' := [(0, .ref 176), (1, .int x1), (2, .int x2), (3, .int x3), (4, .int x4), (5, .int x5)]) I_206_50 rfl (wi_iload_n _ rfl ?_)
      refine q0 I_206_51 (wi_if_ne (fun h => ?_) (fun h => ?_))
      · replace H := H.1 h
        refine q1 (ls' := [(0, .ref 176), (1, .int x1), (2, .int x2), (3, .int x3), (4, .int x4), (5, .int x5)]) I_206_65 rfl (wi_iload_n _ rfl ?_)
        refine q1 (ls' := [(0, .ref 176), (1, .int x1), (2, .int x2), (4, .int x4), (5, .int x5)]) I_206_66 rfl (wi_istore_n [(0, .ref 176), (1, .int x1), (2, .int x2), (3, .int x3), (4, .int x4), (5, .int x5)] (lt_e X_206 rfl) rfl ?_)
        refine q0 I_206_67 (wi_iinc 1 [(0, .ref 176), (1, .int x1), (2, .int (x2 + 1)), (3, .int x3), (4, .int x4), (5, .int x5)] rfl (lt_e X_206 rfl) rfl rfl ?_)
        refine q1 (ls' := [(0, .ref 176), (1, .int x1), (2, .int (x2 + 1)), (3, .int x3), (4, .int x4), (5, .int x5)]) I_206_70 rfl (wi_iinc 1 [(0, .ref 176), (1, .int x1), (2, .int (x2 + 1)), (3, .int x3), (4, .int x4), (5, .int (x5 + 1))] rfl (lt_e X_206 rfl) rfl rfl ?_)
        refine q0 I_206_73 (wi_goto ?_)
        exact Wq_c I_206_28 rfl rfl H
      · replace H := H.2 h
        refine q1 (ls' := [(0, .ref 176), (1, .int x1), (2, .int x2), (4, .int x4), (5, .int x5)]) I_206_54 rfl (wi_bipush 8 rfl ?_)
        refine q0 I_206_56 (wi_iload _ rfl ?_)
        refine q0 I_206_58 (wi_imul ?_)
        refine q0 I_206_59 (wi_iload _ rfl ?_)
        refine q0 I_206_61 (wi_iadd ?_)
        refine q0 I_206_62 (wi_goto ?_)
        refine q1 (ls' := [(0, .ref 176), (1, .int x1), (2, .int x2), (4, .int x4), (5, .int x5)]) I_206_66 rfl (wi_istore_n [(0, .ref 176), (1, .int x1), (2, .int x2), (3, .int (((8 : Int32) * x4) + x5)), (4, .int x4), (5, .int x5)] (lt_e X_206 rfl) rfl ?_)
        refine q0 I_206_67 (wi_iinc 1 [(0, .ref 176), (1, .int x1), (2, .int (x2 + 1)), (3, .int (((8 : Int32) * x4) + x5)), (4, .int x4), (5, .int x5)] rfl (lt_e X_206 rfl) rfl rfl ?_)
        refine q1 (ls' := [(0, .ref 176), (1, .int x1), (2, .int (x2 + 1)), (3, .int (((8 : Int32) * x4) + x5)), (4, .int x4), (5, .int x5)]) I_206_70 rfl (wi_iinc 1 [(0, .ref 176), (1, .int x1), (2, .int (x2 + 1)), (3, .int (((8 : Int32) * x4) + x5)), (4, .int x4), (5, .int (x5 + 1))] rfl (lt_e X_206 rfl) rfl rfl ?_)
        refine q0 I_206_73 (wi_goto ?_)
        exact Wq_c I_206_28 rfl rfl H
theorem r_207 {a1 : Int32} {di : tDi} {dl : tDl} {K : Int32 → tDi → tDl → Prop} (H : (ClV 6 163 [.ref 176] di dl (fun di1 dl1 => (((lg_cmp (a1 : Int32).toInt64 0) < 0 → (K (-2) di1 dl1)) ∧ (0 ≤ (lg_cmp (a1 : Int32).toInt64 0) → ((0 < (lg_cmp (a1 : Int32).toInt64 1) → (K (-2) di1 dl1)) ∧ ((lg_cmp (a1 : Int32).toInt64 1) ≤ 0 → (ClI 6 206 [.ref 176, .int a1] di1 dl1 (fun r2 di2 dl2 => (K r2 di2 dl2)))))))))) : ClI 7 207 [.ref 176, .int a1] di dl K := by
  refine Cl_of C_207 Z_207 [(0, .ref 176), (1, .int a1)] rfl ?_
  refine q0 I_207_0 (wi_aload_n _ rfl ?_)
  refine q0 I_207_1 (wi_virtV (e := 6) [] [] S_176 rfl (by decide) rfl rfl rfl (okC_i rfl rfl rfl) C_163 (by decide) (ClV_mono H ?_))
  intro di1 dl1 H
  refine q0 I_207_4 (wi_iload_n _ rfl ?_)
  refine q0 I_207_5 (wi_statI (e := 6) [.int a1] [] rfl (Or.inl rfl) rfl rfl rfl (okC_i rfl rfl rfl) C_136 (by decide) (Cl_of C_136 Z_136 [(0, .int a1)] rfl ?_))
  refine q0 I_136_0 (wi_iload_n _ rfl ?_)
  refine q0 I_136_1 (wi_i2l ?_)
  refine q0 I_136_2 (wi_lconst 0 rfl ?_)
  refine q0 I_136_3 (wi_lconst 1 rfl ?_)
  refine q0 I_136_4 (wi_statI (e := 5) [.long (a1 : Int32).toInt64, .long 0, .long 1] [] rfl (Or.inl rfl) rfl rfl rfl (okC_i rfl rfl rfl) C_134 (by decide) (Cl_of C_134 Z_134 [(0, .long (a1 : Int32).toInt64), (2, .long 0), (4, .long 1)] rfl ?_))
  refine q0 I_134_0 (wi_lload_n _ rfl ?_)
  refine q0 I_134_1 (wi_lload_n _ rfl ?_)
  refine q0 I_134_2 (wi_lcmp ?_)
  refine q0 I_134_3 (wi_if_lt (fun h => ?_) (fun h => ?_))
  · replace H := H.1 h
    refine q1 (ls' := []) I_134_17 rfl (wi_iconst 0 rfl ?_)
    refine q1 (ls' := []) I_134_18 rfl (wi_zret T_134 (Or.inl C_134) (Or.inl rfl) ⟨_, rfl, ?_⟩)
    refine q0 I_136_7 (wi_zret T_136 (Or.inl C_136) (Or.inl rfl) ⟨_, rfl, ?_⟩)
    refine q0 I_207_8 (wi_ifT rfl ?_)
    refine q1 (ls' := []) I_207_19 rfl (wi_bipush (-2) rfl ?_)
    exact q1 (ls' := []) I_207_21 rfl (wi_iret T_207 C_207 ⟨_, rfl, H⟩)
  · replace H := H.2 h
    refine q1 (ls' := [(0, .long (a1 : Int32).toInt64), (4, .long 1)]) I_134_6 rfl (wi_lload_n _ rfl ?_)
    refine q0 I_134_7 (wi_lload _ rfl ?_)
    refine q0 I_134_9 (wi_lcmp ?_)
    refine q0 I_134_10 (wi_if_gt (fun h => ?_) (fun h => ?_))
    · replace H := H.1 h
      refine q1 (ls' := []) I_134_17 rfl (wi_iconst 0 rfl ?_)
      refine q1 (ls' := []) I_134_18 rfl (wi_zret T_134 (Or.inl C_134) (Or.inl rfl) ⟨_, rfl, ?_⟩)
      refine q0 I_136_7 (wi_zret T_136 (Or.inl C_136) (Or.inl rfl) ⟨_, rfl, ?_⟩)
      refine q0 I_207_8 (wi_ifT rfl ?_)
      refine q1 (ls' := []) I_207_19 rfl (wi_bipush (-2) rfl ?_)
      exact q1 (ls' := []) I_207_21 rfl (wi_iret T_207 C_207 ⟨_, rfl, H⟩)
    · replace H := H.2 h
      refine q1 (ls' := []) I_134_13 rfl (wi_iconst 1 rfl ?_)
      refine q0 I_134_14 (wi_goto ?_)
      refine q1 (ls' := []) I_134_18 rfl (wi_zret T_134 (Or.inl C_134) (Or.inr rfl) ⟨_, rfl, ?_⟩)
      refine q0 I_136_7 (wi_zret T_136 (Or.inl C_136) (Or.inr rfl) ⟨_, rfl, ?_⟩)
      refine q0 I_207_8 (wi_ifF rfl ?_)
      refine q1 (ls' := [(0, .ref 176), (1, .int a1)]) I_207_11 rfl (wi_aload_n _ rfl ?_)
      refine q0 I_207_12 (wi_iload_n _ rfl ?_)
      refine q0 I_207_13 (wi_virtI (e := 6) [.int a1] [] S_176 rfl (by decide) rfl rfl rfl (okC_i rfl rfl rfl) C_206 (by decide) (ClI_mono H ?_))
      intro r2 di2 dl2 H
      refine q0 I_207_16 (wi_goto ?_)
      exact q1 (ls' := []) I_207_21 rfl (wi_iret T_207 C_207 ⟨_, rfl, H⟩)
theorem r_208 {a1 : Int32} {a2 : Int32} {di : tDi} {dl : tDl} {K : Int32 → tDi → tDl → Prop} (H : (Wq none 3 208 2 [(0, .ref 176), (1, .int a1), (2, .int a2), (3, .int 0)] [] di dl (RI K))) : ClI 3 208 [.ref 176, .int a1, .int a2] di dl K := by
  refine Cl_of C_208 Z_208 [(0, .ref 176), (1, .int a1), (2, .int a2)] rfl ?_
  refine q0 I_208_0 (wi_iconst 0 rfl ?_)
  refine q0 I_208_1 (wi_istore_n [(0, .ref 176), (1, .int a1), (2, .int a2), (3, .int 0)] (lt_e X_208 rfl) rfl ?_)
  exact Wq_c I_208_2 rfl rfl H
theorem r_208_2 {x1 : Int32} {x2 : Int32} {x3 : Int32} {di : tDi} {dl : tDl} {K : Int32 → tDi → tDl → Prop} (H : ((9 ≤ x3 → (Wq none 3 208 26 [(0, .ref 176), (1, .int x1), (2, .int x2), (3, .int 0), (4, .int 0)] [] di dl (RI K))) ∧ (x3 < 9 → (inB x3 9 = true ∧ (Wq none 3 208 2 [(0, .ref 176), (1, .int x1), (2, .int x2), (3, .int (x3 + 1))] [] (up2 di 195 (x3.toNatClampNeg) 0) dl (RI K)))))) : Wq none 3 208 2 [(0, .ref 176), (1, .int x1), (2, .int x2), (3, .int x3)] [] di dl (RI K) := by
  refine q1 (ls' := [(0, .ref 176), (1, .int x1), (2, .int x2), (3, .int x3)]) I_208_2 rfl (wi_iload_n _ rfl ?_)
  refine q0 I_208_3 (wi_bipush 9 rfl ?_)
  refine q0 I_208_5 (wi_ic_ge (fun h => ?_) (fun h => ?_))
  · replace H := H.1 h
    refine q1 (ls' := [(0, .ref 176), (1, .int x1), (2, .int x2)]) I_208_21 rfl (wi_iconst 0 rfl ?_)
    refine q0 I_208_22 (wi_istore_n [(0, .ref 176), (1, .int x1), (2, .int x2), (3, .int 0)] (lt_e X_208 rfl) rfl ?_)
    refine q0 I_208_23 (wi_iconst 0 rfl ?_)
    refine q0 I_208_24 (wi_istore [(0, .ref 176), (1, .int x1), (2, .int x2), (3, .int 0), (4, .int 0)] (lt_e X_208 rfl) rfl ?_)
    exact Wq_c I_208_26 rfl rfl H
  · replace H := H.2 h
    refine q1 (ls' := [(0, .ref 176), (1, .int x1), (2, .int x2), (3, .int x3)]) I_208_8 rfl (wi_aload_n _ rfl ?_)
    refine q0 I_208_9 (wi_get (.ref 195) S_176 rfl (by decide) rfl ?_)
    refine q0 I_208_12 (wi_iload_n _ rfl ?_)
    refine q0 I_208_13 (wi_iconst 0 rfl ?_)
    have hb21 := H.1
    replace H := H.2
    refine q0 I_208_14 (wi_iastore (x3.toNatClampNeg) S_195 hb21 rfl ?_)
    refine q0 I_208_15 (wi_iinc 1 [(0, .ref 176), (1, .int x1), (2, .int x2), (3, .int (x3 + 1))] rfl (lt_e X_208 rfl) rfl rfl ?_)
    refine q0 I_208_18 (wi_goto ?_)
    exact Wq_c I_208_2 rfl rfl H
theorem r_208_26 {x1 : Int32} {x2 : Int32} {x3 : Int32} {x4 : Int32} {di : tDi} {dl : tDl} {K : Int32 → tDi → tDl → Prop} (H : (((di 183 0) ≤ x4 → (K x3 di dl)) ∧ (x4 < (di 183 0) → (Wq none 3 208 43 [(0, .ref 176), (1, .int x1), (2, .int x2), (3, .int x3), (4, .int x4), (5, .int (x4 + 1))] [] di dl (RI K))))) : Wq none 3 208 26 [(0, .ref 176), (1, .int x1), (2, .int x2), (3, .int x3), (4, .int x4)] [] di dl (RI K) := by
  refine q1 (ls' := [(0, .ref 176), (1, .int x1), (2, .int x2), (3, .int x3), (4, .int x4)]) I_208_26 rfl (wi_iload _ rfl ?_)
  refine q0 I_208_28 (wi_aload_n _ rfl ?_)
  refine q0 I_208_29 (wi_get (.ref 183) S_176 rfl (by decide) rfl ?_)
  refine q0 I_208_32 (wi_iconst 0 rfl ?_)
  refine q0 I_208_33 (wi_iaload 0 S_183 rfl rfl ?_)
  refine q0 I_208_34 (wi_ic_ge (fun h => ?_) (fun h => ?_))
  · replace H := H.1 h
    refine q1 (ls' := [(3, .int x3)]) I_208_133 rfl (wi_iload_n _ rfl ?_)
    exact q0 I_208_134 (wi_iret T_208 C_208 ⟨_, rfl, H⟩)
  · replace H := H.2 h
    refine q1 (ls' := [(0, .ref 176), (1, .int x1), (2, .int x2), (3, .int x3), (4, .int x4)]) I_208_37 rfl (wi_iload _ rfl ?_)
    refine q0 I_208_39 (wi_iconst 1 rfl ?_)
    refine q0 I_208_40 (wi_iadd ?_)
    refine q0 I_208_41 (wi_istore [(0, .ref 176), (1, .int x1), (2, .int x2), (3, .int x3), (4, .int x4), (5, .int (x4 + 1))] (lt_e X_208 rfl) rfl ?_)
    exact Wq_c I_208_43 rfl rfl H
theorem r_208_43 {x1 : Int32} {x2 : Int32} {x3 : Int32} {x4 : Int32} {x5 : Int32} {di : tDi} {dl : tDl} {K : Int32 → tDi → tDl → Prop} (H : (((di 183 0) ≤ x5 → (Wq none 3 208 26 [(0, .ref 176), (1, .int x1), (2, .int x2), (3, .int x3), (4, .int (x4 + 1))] [] di dl (RI K))) ∧ (x5 < (di 183 0) → (ClI 2 205 [.ref 176, .int x4, .int x5] di dl (fun r21 di21 dl21 => ((r21 = 0 → (Wq none 3 208 43 [(0, .ref 176), (1, .int x1), (2, .int x2), (3, .int x3), (4, .int x4), (5, .int (x5 + 1))] [] di21 dl21 (RI K))) ∧ (¬ r21 = 0 → ((¬ x2 = x4 → ((¬ x2 = x5 → (inB (((8 : Int32) * x1) + x2) 200 = true ∧ (inB ((di21 194 ((((8 : Int32) * x1) + x2).toNatClampNeg)) + 1) 9 = true ∧ ((((up2 di21 195 (((di21 194 ((((8 : Int32) * x1) + x2).toNatClampNeg)) + 1).toNatClampNeg) ((di21 195 (((di21 194 ((((8 : Int32) * x1) + x2).toNatClampNeg)) + 1).toNatClampNeg)) + 1)) 195 (((di21 194 ((((8 : Int32) * x1) + x2).toNatClampNeg)) + 1).toNatClampNeg)) ≤ x3 → (Wq none 3 208 43 [(0, .ref 176), (1, .int x1), (2, .int x2), (3, .int x3), (4, .int x4), (5, .int (x5 + 1))] [] (up2 di21 195 (((di21 194 ((((8 : Int32) * x1) + x2).toNatClampNeg)) + 1).toNatClampNeg) ((di21 195 (((di21 194 ((((8 : Int32) * x1) + x2).toNatClampNeg)) + 1).toNatClampNeg)) + 1)) dl21 (RI K))) ∧ (x3 < ((up2 di21 195 (((di21 194 ((((8 : Int32) * x1) + x2).toNatClampNeg)) + 1).toNatClampNeg) ((di21 195 (((di21 194 ((((8 : Int32) * x1) + x2).toNatClampNeg)) + 1).toNatClampNeg)) + 1)) 195 (((di21 194 ((((8 : Int32) * x1) + x2).toNatClampNeg)) + 1).toNatClampNeg)) → (Wq none 3 208 43 [(0, .ref 176), (1, .int x1), (2, .int x2), (3, .int ((up2 di21 195 (((di21 194 ((((8 : Int32) * x1) + x2).toNatClampNeg)) + 1).toNatClampNeg) ((di21 195 (((di21 194 ((((8 : Int32) * x1) + x2).toNatClampNeg)) + 1).toNatClampNeg)) + 1)) 195 (((di21 194 ((((8 : Int32) * x1) + x2).toNatClampNeg)) + 1).toNatClampNeg))), (4, .int x4), (5, .int (x5 + 1))] [] (up2 di21 195 (((di21 194 ((((8 : Int32) * x1) + x2).toNatClampNeg)) + 1).toNatClampNeg) ((di21 195 (((di21 194 ((((8 : Int32) * x1) + x2).toNatClampNeg)) + 1).toNatClampNeg)) + 1)) dl21 (RI K))))))) ∧ (x2 = x5 → (inB (((8 : Int32) * x1) + x4) 200 = true ∧ (inB ((di21 194 ((((8 : Int32) * x1) + x4).toNatClampNeg)) + 1) 9 = true ∧ ((((up2 di21 195 (((di21 194 ((((8 : Int32) * x1) + x4).toNatClampNeg)) + 1).toNatClampNeg) ((di21 195 (((di21 194 ((((8 : Int32) * x1) + x4).toNatClampNeg)) + 1).toNatClampNeg)) + 1)) 195 (((di21 194 ((((8 : Int32) * x1) + x4).toNatClampNeg)) + 1).toNatClampNeg)) ≤ x3 → (Wq none 3 208 43 [(0, .ref 176), (1, .int x1), (2, .int x2), (3, .int x3), (4, .int x4), (5, .int (x5 + 1))] [] (up2 di21 195 (((di21 194 ((((8 : Int32) * x1) + x4).toNatClampNeg)) + 1).toNatClampNeg) ((di21 195 (((di21 194 ((((8 : Int32) * x1) + x4).toNatClampNeg)) + 1).toNatClampNeg)) + 1)) dl21 (RI K))) ∧ (x3 < ((up2 di21 195 (((di21 194 ((((8 : Int32) * x1) + x4).toNatClampNeg)) + 1).toNatClampNeg) ((di21 195 (((di21 194 ((((8 : Int32) * x1) + x4).toNatClampNeg)) + 1).toNatClampNeg)) + 1)) 195 (((di21 194 ((((8 : Int32) * x1) + x4).toNatClampNeg)) + 1).toNatClampNeg)) → (Wq none 3 208 43 [(0, .ref 176), (1, .int x1), (2, .int x2), (3, .int ((up2 di21 195 (((di21 194 ((((8 : Int32) * x1) + x4).toNatClampNeg)) + 1).toNatClampNeg) ((di21 195 (((di21 194 ((((8 : Int32) * x1) + x4).toNatClampNeg)) + 1).toNatClampNeg)) + 1)) 195 (((di21 194 ((((8 : Int32) * x1) + x4).toNatClampNeg)) + 1).toNatClampNeg))), (4, .int x4), (5, .int (x5 + 1))] [] (up2 di21 195 (((di21 194 ((((8 : Int32) * x1) + x4).toNatClampNeg)) + 1).toNatClampNeg) ((di21 195 (((di21 194 ((((8 : Int32) * x1) + x4).toNatClampNeg)) + 1).toNatClampNeg)) + 1)) dl21 (RI K))))))))) ∧ (x2 = x4 → (inB (((8 : Int32) * x1) + x5) 200 = true ∧ (inB ((di21 194 ((((8 : Int32) * x1) + x5).toNatClampNeg)) + 1) 9 = true ∧ ((((up2 di21 195 (((di21 194 ((((8 : Int32) * x1) + x5).toNatClampNeg)) + 1).toNatClampNeg) ((di21 195 (((di21 194 ((((8 : Int32) * x1) + x5).toNatClampNeg)) + 1).toNatClampNeg)) + 1)) 195 (((di21 194 ((((8 : Int32) * x1) + x5).toNatClampNeg)) + 1).toNatClampNeg)) ≤ x3 → (Wq none 3 208 43 [(0, .ref 176), (1, .int x1), (2, .int x2), (3, .int x3), (4, .int x4), (5, .int (x5 + 1))] [] (up2 di21 195 (((di21 194 ((((8 : Int32) * x1) + x5).toNatClampNeg)) + 1).toNatClampNeg) ((di21 195 (((di21 194 ((((8 : Int32) * x1) + x5).toNatClampNeg)) + 1).toNatClampNeg)) + 1)) dl21 (RI K))) ∧ (x3 < ((up2 di21 195 (((di21 194 ((((8 : Int32) * x1) + x5).toNatClampNeg)) + 1).toNatClampNeg) ((di21 195 (((di21 194 ((((8 : Int32) * x1) + x5).toNatClampNeg)) + 1).toNatClampNeg)) + 1)) 195 (((di21 194 ((((8 : Int32) * x1) + x5).toNatClampNeg)) + 1).toNatClampNeg)) → (Wq none 3 208 43 [(0, .ref 176), (1, .int x1), (2, .int x2), (3, .int ((up2 di21 195 (((di21 194 ((((8 : Int32) * x1) + x5).toNatClampNeg)) + 1).toNatClampNeg) ((di21 195 (((di21 194 ((((8 : Int32) * x1) + x5).toNatClampNeg)) + 1).toNatClampNeg)) + 1)) 195 (((di21 194 ((((8 : Int32) * x1) + x5).toNatClampNeg)) + 1).toNatClampNeg))), (4, .int x4), (5, .int (x5 + 1))] [] (up2 di21 195 (((di21 194 ((((8 : Int32) * x1) + x5).toNatClampNeg)) + 1).toNatClampNeg) ((di21 195 (((di21 194 ((((8 : Int32) * x1) + x5).toNatClampNeg)) + 1).toNatClampNeg)) + 1)) dl21 (RI K))))))))))))))) : Wq none 3 208 43 [(0, .ref 176), (1, .int x1), (2, .int x2), (3, .int x3), (4, .int x4), (5, .int x5)] [] di dl (RI K) := by
  refine q1 (ls' := [(0, .ref 176), (1, .int x1), (2, .int x2), (3, .int x3), (4, .int x4), (5, .int x5)]) I_208_43 rfl (wi_iload _ rfl ?_)
  refine q0 I_208_45 (wi_aload_n _ rfl ?_)
  refine q0 I_208_46 (wi_get (.ref 183) S_176 rfl (by decide) rfl ?_)
  refine q0 I_208_49 (wi_iconst 0 rfl ?_)
  refine q0 I_208_50 (wi_iaload 0 S_183 rfl rfl ?_)
  refine q0 I_208_51 (wi_ic_ge (fun h => ?_) (fun h => ?_))
  · replace H := H.1 h
    refine q1 (ls' := [(0, .ref 176), (1, .int x1), (2, .int x2), (3, .int x3), (4, .int x4)]) I_208_127 rfl (wi_iinc 1 [(0, .ref 176), (1, .int x1), (2, .int x2), (3, .int x3), (4, .int (x4 + 1))] rfl (lt_e X_208 rfl) rfl rfl ?_)
    refine q0 I_208_130 (wi_goto ?_)
    exact Wq_c I_208_26 rfl rfl H
  · replace H := H.2 h
    refine q1 (ls' := [(0, .ref 176), (1, .int x1), (2, .int x2), (3, .int x3), (4, .int x4), (5, .int x5)]) I_208_54 rfl (wi_aload_n _ rfl ?_)
    refine q0 I_208_55 (wi_iload _ rfl ?_)
    refine q0 I_208_57 (wi_iload _ rfl ?_)
    refine q0 I_208_59 (wi_virtI (e := 2) [.int x4, .int x5] [] S_176 rfl (by decide) rfl rfl rfl (okC_i rfl rfl rfl) C_205 (by decide) (ClI_mono H ?_))
    intro r21 di21 dl21 H
    refine q0 I_208_62 (wi_if_eq (fun h => ?_) (fun h => ?_))
    · replace H := H.1 h
      refine q1 (ls' := [(0, .ref 176), (1, .int x1), (2, .int x2), (3, .int x3), (4, .int x4), (5, .int x5)]) I_208_121 rfl (wi_iinc 1 [(0, .ref 176), (1, .int x1), (2, .int x2), (3, .int x3), (4, .int x4), (5, .int (x5 + 1))] rfl (lt_e X_208 rfl) rfl rfl ?_)
      refine q0 I_208_124 (wi_goto ?_)
      exact Wq_c I_208_43 rfl rfl H
    · replace H := H.2 h
      refine q1 (ls' := [(0, .ref 176), (1, .int x1), (2, .int x2), (3, .int x3), (4, .int x4), (5, .int x5)]) I_208_65 rfl (wi_aload_n _ rfl ?_)
      refine q0 I_208_66 (wi_get (.ref 194) S_176 rfl (by decide) rfl ?_)
      refine q0 I_208_69 (wi_bipush 8 rfl ?_)
      refine q0 I_208_71 (wi_iload_n _ rfl ?_)
      refine q0 I_208_72 (wi_imul ?_)
      refine q0 I_208_73 (wi_iload_n _ rfl ?_)
      refine q0 I_208_74 (wi_iload _ rfl ?_)
      refine q0 I_208_76 (wi_iload _ rfl ?_)
      refine q0 I_208_78 (wi_statI (e := 2) [.int x2, .int x4, .int x5] [.int ((8 : Int32) * x1), .ref 194] rfl (Or.inl rfl) rfl rfl rfl (okC_i rfl rfl rfl) C_204 (by decide) (Cl_of C_204 Z_204 [(0, .int x2), (1, .int x4), (2, .int x5)] rfl ?_))
      refine q0 I_204_0 (wi_iload_n _ rfl ?_)
      refine q0 I_204_1 (wi_iload_n _ rfl ?_)
      refine q0 I_204_2 (wi_ic_ne (fun h => ?_) (fun h => ?_))
      · replace H := H.1 h
        refine q1 (ls' := [(0, .int x2), (1, .int x4), (2, .int x5)]) I_204_9 rfl (wi_iload_n _ rfl ?_)
        refine q0 I_204_10 (wi_iload_n _ rfl ?_)
        refine q0 I_204_11 (wi_ic_ne (fun h => ?_) (fun h => ?_))
        · replace H := H.1 h
          refine q1 (ls' := [(0, .int x2)]) I_204_18 rfl (wi_iload_n _ rfl ?_)
          refine q1 (ls' := []) I_204_19 rfl (wi_iret T_204 C_204 ⟨_, rfl, ?_⟩)
          refine q0 I_208_81 (wi_iadd ?_)
          have hb22 := H.1
          replace H := H.2
          refine q0 I_208_82 (wi_iaload ((((8 : Int32) * x1) + x2).toNatClampNeg) S_194 hb22 rfl ?_)
          refine q0 I_208_83 (wi_iconst 1 rfl ?_)
          refine q0 I_208_84 (wi_iadd ?_)
          refine q0 I_208_85 (wi_istore [(0, .ref 176), (1, .int x1), (2, .int x2), (3, .int x3), (4, .int x4), (5, .int x5), (6, .int ((di21 194 ((((8 : Int32) * x1) + x2).toNatClampNeg)) + 1))] (lt_e X_208 rfl) rfl ?_)
          refine q0 I_208_87 (wi_aload_n _ rfl ?_)
          refine q0 I_208_88 (wi_get (.ref 195) S_176 rfl (by decide) rfl ?_)
          refine q0 I_208_91 (wi_iload _ rfl ?_)
          refine q0 I_208_93 (wi_dup2 rfl rfl ?_)
          have hb23 := H.1
          replace H := H.2
          refine q0 I_208_94 (wi_iaload (((di21 194 ((((8 : Int32) * x1) + x2).toNatClampNeg)) + 1).toNatClampNeg) S_195 hb23 rfl ?_)
          refine q0 I_208_95 (wi_iconst 1 rfl ?_)
          refine q0 I_208_96 (wi_iadd ?_)
          refine q0 I_208_97 (wi_iastore (((di21 194 ((((8 : Int32) * x1) + x2).toNatClampNeg)) + 1).toNatClampNeg) S_195 hb23 rfl ?_)
          refine q0 I_208_98 (wi_aload_n _ rfl ?_)
          refine q0 I_208_99 (wi_get (.ref 195) S_176 rfl (by decide) rfl ?_)
          refine q0 I_208_102 (wi_iload _ rfl ?_)
          refine q0 I_208_104 (wi_iaload (((di21 194 ((((8 : Int32) * x1) + x2).toNatClampNeg)) + 1).toNatClampNeg) S_195 hb23 rfl ?_)
          refine q0 I_208_105 (wi_iload_n _ rfl ?_)
          refine q0 I_208_106 (wi_ic_le (fun h => ?_) (fun h => ?_))
          · replace H := H.1 h
            refine q1 (ls' := [(0, .ref 176), (1, .int x1), (2, .int x2), (3, .int x3), (4, .int x4), (5, .int x5)]) I_208_119 rfl (wi_iload_n _ rfl ?_)
            refine q1 (ls' := [(0, .ref 176), (1, .int x1), (2, .int x2), (4, .int x4), (5, .int x5)]) I_208_120 rfl (wi_istore_n [(0, .ref 176), (1, .int x1), (2, .int x2), (3, .int x3), (4, .int x4), (5, .int x5)] (lt_e X_208 rfl) rfl ?_)
            refine q1 (ls' := [(0, .ref 176), (1, .int x1), (2, .int x2), (3, .int x3), (4, .int x4), (5, .int x5)]) I_208_121 rfl (wi_iinc 1 [(0, .ref 176), (1, .int x1), (2, .int x2), (3, .int x3), (4, .int x4), (5, .int (x5 + 1))] rfl (lt_e X_208 rfl) rfl rfl ?_)
            refine q0 I_208_124 (wi_goto ?_)
            exact Wq_c I_208_43 rfl rfl H
          · replace H := H.2 h
            refine q1 (ls' := [(0, .ref 176), (1, .int x1), (2, .int x2), (4, .int x4), (5, .int x5), (6, .int ((di21 194 ((((8 : Int32) * x1) + x2).toNatClampNeg)) + 1))]) I_208_109 rfl (wi_aload_n _ rfl ?_)
            refine q0 I_208_110 (wi_get (.ref 195) S_176 rfl (by decide) rfl ?_)
            refine q0 I_208_113 (wi_iload _ rfl ?_)
            refine q0 I_208_115 (wi_iaload (((di21 194 ((((8 : Int32) * x1) + x2).toNatClampNeg)) + 1).toNatClampNeg) S_195 hb23 rfl ?_)
            refine q0 I_208_116 (wi_goto ?_)
            refine q1 (ls' := [(0, .ref 176), (1, .int x1), (2, .int x2), (4, .int x4), (5, .int x5)]) I_208_120 rfl (wi_istore_n [(0, .ref 176), (1, .int x1), (2, .int x2), (3, .int ((up2 di21 195 (((di21 194 ((((8 : Int32) * x1) + x2).toNatClampNeg)) + 1).toNatClampNeg) ((di21 195 (((di21 194 ((((8 : Int32) * x1) + x2).toNatClampNeg)) + 1).toNatClampNeg)) + 1)) 195 (((di21 194 ((((8 : Int32) * x1) + x2).toNatClampNeg)) + 1).toNatClampNeg))), (4, .int x4), (5, .int x5)] (lt_e X_208 rfl) rfl ?_)
            refine q1 (ls' := [(0, .ref 176), (1, .int x1), (2, .int x2), (3, .int ((up2 di21 195 (((di21 194 ((((8 : Int32) * x1) + x2).toNatClampNeg)) + 1).toNatClampNeg) ((di21 195 (((di21 194 ((((8 : Int32) * x1) + x2).toNatClampNeg)) + 1).toNatClampNeg)) + 1)) 195 (((di21 194 ((((8 : Int32) * x1) + x2).toNatClampNeg)) + 1).toNatClampNeg))), (4, .int x4), (5, .int x5)]) I_208_121 rfl (wi_iinc 1 [(0, .ref 176), (1, .int x1), (2, .int x2), (3, .int ((up2 di21 195 (((di21 194 ((((8 : Int32) * x1) + x2).toNatClampNeg)) + 1).toNatClampNeg) ((di21 195 (((di21 194 ((((8 : Int32) * x1) + x2).toNatClampNeg)) + 1).toNatClampNeg)) + 1)) 195 (((di21 194 ((((8 : Int32) * x1) + x2).toNatClampNeg)) + 1).toNatClampNeg))), (4, .int x4), (5, .int (x5 + 1))] rfl (lt_e X_208 rfl) rfl rfl ?_)
            refine q0 I_208_124 (wi_goto ?_)
            exact Wq_c I_208_43 rfl rfl H
        · replace H := H.2 h
          refine q1 (ls' := [(1, .int x4)]) I_204_14 rfl (wi_iload_n _ rfl ?_)
          refine q0 I_204_15 (wi_goto ?_)
          refine q1 (ls' := []) I_204_19 rfl (wi_iret T_204 C_204 ⟨_, rfl, ?_⟩)
          refine q0 I_208_81 (wi_iadd ?_)
          have hb24 := H.1
          replace H := H.2
          refine q0 I_208_82 (wi_iaload ((((8 : Int32) * x1) + x4).toNatClampNeg) S_194 hb24 rfl ?_)
          refine q0 I_208_83 (wi_iconst 1 rfl ?_)
          refine q0 I_208_84 (wi_iadd ?_)
          refine q0 I_208_85 (wi_istore [(0, .ref 176), (1, .int x1), (2, .int x2), (3, .int x3), (4, .int x4), (5, .int x5), (6, .int ((di21 194 ((((8 : Int32) * x1) + x4).toNatClampNeg)) + 1))] (lt_e X_208 rfl) rfl ?_)
          refine q0 I_208_87 (wi_aload_n _ rfl ?_)
          refine q0 I_208_88 (wi_get (.ref 195) S_176 rfl (by decide) rfl ?_)
          refine q0 I_208_91 (wi_iload _ rfl ?_)
          refine q0 I_208_93 (wi_dup2 rfl rfl ?_)
          have hb25 := H.1
          replace H := H.2
          refine q0 I_208_94 (wi_iaload (((di21 194 ((((8 : Int32) * x1) + x4).toNatClampNeg)) + 1).toNatClampNeg) S_195 hb25 rfl ?_)
          refine q0 I_208_95 (wi_iconst 1 rfl ?_)
          refine q0 I_208_96 (wi_iadd ?_)
          refine q0 I_208_97 (wi_iastore (((di21 194 ((((8 : Int32) * x1) + x4).toNatClampNeg)) + 1).toNatClampNeg) S_195 hb25 rfl ?_)
          refine q0 I_208_98 (wi_aload_n _ rfl ?_)
          refine q0 I_208_99 (wi_get (.ref 195) S_176 rfl (by decide) rfl ?_)
          refine q0 I_208_102 (wi_iload _ rfl ?_)
          refine q0 I_208_104 (wi_iaload (((di21 194 ((((8 : Int32) * x1) + x4).toNatClampNeg)) + 1).toNatClampNeg) S_195 hb25 rfl ?_)
          refine q0 I_208_105 (wi_iload_n _ rfl ?_)
          refine q0 I_208_106 (wi_ic_le (fun h => ?_) (fun h => ?_))
          · replace H := H.1 h
            refine q1 (ls' := [(0, .ref 176), (1, .int x1), (2, .int x2), (3, .int x3), (4, .int x4), (5, .int x5)]) I_208_119 rfl (wi_iload_n _ rfl ?_)
            refine q1 (ls' := [(0, .ref 176), (1, .int x1), (2, .int x2), (4, .int x4), (5, .int x5)]) I_208_120 rfl (wi_istore_n [(0, .ref 176), (1, .int x1), (2, .int x2), (3, .int x3), (4, .int x4), (5, .int x5)] (lt_e X_208 rfl) rfl ?_)
            refine q1 (ls' := [(0, .ref 176), (1, .int x1), (2, .int x2), (3, .int x3), (4, .int x4), (5, .int x5)]) I_208_121 rfl (wi_iinc 1 [(0, .ref 176), (1, .int x1), (2, .int x2), (3, .int x3), (4, .int x4), (5, .int (x5 + 1))] rfl (lt_e X_208 rfl) rfl rfl ?_)
            refine q0 I_208_124 (wi_goto ?_)
            exact Wq_c I_208_43 rfl rfl H
          · replace H := H.2 h
            refine q1 (ls' := [(0, .ref 176), (1, .int x1), (2, .int x2), (4, .int x4), (5, .int x5), (6, .int ((di21 194 ((((8 : Int32) * x1) + x4).toNatClampNeg)) + 1))]) I_208_109 rfl (wi_aload_n _ rfl ?_)
            refine q0 I_208_110 (wi_get (.ref 195) S_176 rfl (by decide) rfl ?_)
            refine q0 I_208_113 (wi_iload _ rfl ?_)
            refine q0 I_208_115 (wi_iaload (((di21 194 ((((8 : Int32) * x1) + x4).toNatClampNeg)) + 1).toNatClampNeg) S_195 hb25 rfl ?_)
            refine q0 I_208_116 (wi_goto ?_)
            refine q1 (ls' := [(0, .ref 176), (1, .int x1), (2, .int x2), (4, .int x4), (5, .int x5)]) I_208_120 rfl (wi_istore_n [(0, .ref 176), (1, .int x1), (2, .int x2), (3, .int ((up2 di21 195 (((di21 194 ((((8 : Int32) * x1) + x4).toNatClampNeg)) + 1).toNatClampNeg) ((di21 195 (((di21 194 ((((8 : Int32) * x1) + x4).toNatClampNeg)) + 1).toNatClampNeg)) + 1)) 195 (((di21 194 ((((8 : Int32) * x1) + x4).toNatClampNeg)) + 1).toNatClampNeg))), (4, .int x4), (5, .int x5)] (lt_e X_208 rfl) rfl ?_)
            refine q1 (ls' := [(0, .ref 176), (1, .int x1), (2, .int x2), (3, .int ((up2 di21 195 (((di21 194 ((((8 : Int32) * x1) + x4).toNatClampNeg)) + 1).toNatClampNeg) ((di21 195 (((di21 194 ((((8 : Int32) * x1) + x4).toNatClampNeg)) + 1).toNatClampNeg)) + 1)) 195 (((di21 194 ((((8 : Int32) * x1) + x4).toNatClampNeg)) + 1).toNatClampNeg))), (4, .int x4), (5, .int x5)]) I_208_121 rfl (wi_iinc 1 [(0, .ref 176), (1, .int x1), (2, .int x2), (3, .int ((up2 di21 195 (((di21 194 ((((8 : Int32) * x1) + x4).toNatClampNeg)) + 1).toNatClampNeg) ((di21 195 (((di21 194 ((((8 : Int32) * x1) + x4).toNatClampNeg)) + 1).toNatClampNeg)) + 1)) 195 (((di21 194 ((((8 : Int32) * x1) + x4).toNatClampNeg)) + 1).toNatClampNeg))), (4, .int x4), (5, .int (x5 + 1))] rfl (lt_e X_208 rfl) rfl rfl ?_)
            refine q0 I_208_124 (wi_goto ?_)
            exact Wq_c I_208_43 rfl rfl H
      · replace H := H.2 h
        refine q1 (ls' := [(2, .int x5)]) I_204_5 rfl (wi_iload_n _ rfl ?_)
        refine q0 I_204_6 (wi_goto ?_)
        refine q1 (ls' := []) I_204_19 rfl (wi_iret T_204 C_204 ⟨_, rfl, ?_⟩)
        refine q0 I_208_81 (wi_iadd ?_)
        have hb26 := H.1
        replace H := H.2
        refine q0 I_208_82 (wi_iaload ((((8 : Int32) * x1) + x5).toNatClampNeg) S_194 hb26 rfl ?_)
        refine q0 I_208_83 (wi_iconst 1 rfl ?_)
        refine q0 I_208_84 (wi_iadd ?_)
        refine q0 I_208_85 (wi_istore [(0, .ref 176), (1, .int x1), (2, .int x2), (3, .int x3), (4, .int x4), (5, .int x5), (6, .int ((di21 194 ((((8 : Int32) * x1) + x5).toNatClampNeg)) + 1))] (lt_e X_208 rfl) rfl ?_)
        refine q0 I_208_87 (wi_aload_n _ rfl ?_)
        refine q0 I_208_88 (wi_get (.ref 195) S_176 rfl (by decide) rfl ?_)
        refine q0 I_208_91 (wi_iload _ rfl ?_)
        refine q0 I_208_93 (wi_dup2 rfl rfl ?_)
        have hb27 := H.1
        replace H := H.2
        refine q0 I_208_94 (wi_iaload (((di21 194 ((((8 : Int32) * x1) + x5).toNatClampNeg)) + 1).toNatClampNeg) S_195 hb27 rfl ?_)
        refine q0 I_208_95 (wi_iconst 1 rfl ?_)
        refine q0 I_208_96 (wi_iadd ?_)
        refine q0 I_208_97 (wi_iastore (((di21 194 ((((8 : Int32) * x1) + x5).toNatClampNeg)) + 1).toNatClampNeg) S_195 hb27 rfl ?_)
        refine q0 I_208_98 (wi_aload_n _ rfl ?_)
        refine q0 I_208_99 (wi_get (.ref 195) S_176 rfl (by decide) rfl ?_)
        refine q0 I_208_102 (wi_iload _ rfl ?_)
        refine q0 I_208_104 (wi_iaload (((di21 194 ((((8 : Int32) * x1) + x5).toNatClampNeg)) + 1).toNatClampNeg) S_195 hb27 rfl ?_)
        refine q0 I_208_105 (wi_iload_n _ rfl ?_)
        refine q0 I_208_106 (wi_ic_le (fun h => ?_) (fun h => ?_))
        · replace H := H.1 h
          refine q1 (ls' := [(0, .ref 176), (1, .int x1), (2, .int x2), (3, .int x3), (4, .int x4), (5, .int x5)]) I_208_119 rfl (wi_iload_n _ rfl ?_)
          refine q1 (ls' := [(0, .ref 176), (1, .int x1), (2, .int x2), (4, .int x4), (5, .int x5)]) I_208_120 rfl (wi_istore_n [(0, .ref 176), (1, .int x1), (2, .int x2), (3, .int x3), (4, .int x4), (5, .int x5)] (lt_e X_208 rfl) rfl ?_)
          refine q1 (ls' := [(0, .ref 176), (1, .int x1), (2, .int x2), (3, .int x3), (4, .int x4), (5, .int x5)]) I_208_121 rfl (wi_iinc 1 [(0, .ref 176), (1, .int x1), (2, .int x2), (3, .int x3), (4, .int x4), (5, .int (x5 + 1))] rfl (lt_e X_208 rfl) rfl rfl ?_)
          refine q0 I_208_124 (wi_goto ?_)
          exact Wq_c I_208_43 rfl rfl H
        · replace H := H.2 h
          refine q1 (ls' := [(0, .ref 176), (1, .int x1), (2, .int x2), (4, .int x4), (5, .int x5), (6, .int ((di21 194 ((((8 : Int32) * x1) + x5).toNatClampNeg)) + 1))]) I_208_109 rfl (wi_aload_n _ rfl ?_)
          refine q0 I_208_110 (wi_get (.ref 195) S_176 rfl (by decide) rfl ?_)
          refine q0 I_208_113 (wi_iload _ rfl ?_)
          refine q0 I_208_115 (wi_iaload (((di21 194 ((((8 : Int32) * x1) + x5).toNatClampNeg)) + 1).toNatClampNeg) S_195 hb27 rfl ?_)
          refine q0 I_208_116 (wi_goto ?_)
          refine q1 (ls' := [(0, .ref 176), (1, .int x1), (2, .int x2), (4, .int x4), (5, .int x5)]) I_208_120 rfl (wi_istore_n [(0, .ref 176), (1, .int x1), (2, .int x2), (3, .int ((up2 di21 195 (((di21 194 ((((8 : Int32) * x1) + x5).toNatClampNeg)) + 1).toNatClampNeg) ((di21 195 (((di21 194 ((((8 : Int32) * x1) + x5).toNatClampNeg)) + 1).toNatClampNeg)) + 1)) 195 (((di21 194 ((((8 : Int32) * x1) + x5).toNatClampNeg)) + 1).toNatClampNeg))), (4, .int x4), (5, .int x5)] (lt_e X_208 rfl) rfl ?_)
          refine q1 (ls' := [(0, .ref 176), (1, .int x1), (2, .int x2), (3, .int ((up2 di21 195 (((di21 194 ((((8 : Int32) * x1) + x5).toNatClampNeg)) + 1).toNatClampNeg) ((di21 195 (((di21 194 ((((8 : Int32) * x1) + x5).toNatClampNeg)) + 1).toNatClampNeg)) + 1)) 195 (((di21 194 ((((8 : Int32) * x1) + x5).toNatClampNeg)) + 1).toNatClampNeg))), (4, .int x4), (5, .int x5)]) I_208_121 rfl (wi_iinc 1 [(0, .ref 176), (1, .int x1), (2, .int x2), (3, .int ((up2 di21 195 (((di21 194 ((((8 : Int32) * x1) + x5).toNatClampNeg)) + 1).toNatClampNeg) ((di21 195 (((di21 194 ((((8 : Int32) * x1) + x5).toNatClampNeg)) + 1).toNatClampNeg)) + 1)) 195 (((di21 194 ((((8 : Int32) * x1) + x5).toNatClampNeg)) + 1).toNatClampNeg))), (4, .int x4), (5, .int (x5 + 1))] rfl (lt_e X_208 rfl) rfl rfl ?_)
          refine q0 I_208_124 (wi_goto ?_)
          exact Wq_c I_208_43 rfl rfl H
theorem r_209 {a1 : Int32} {di : tDi} {dl : tDl} {K : Int32 → tDi → tDl → Prop} (H : (ClV 5 203 [.ref 176] di dl (fun di1 dl1 => (ClI 3 208 [.ref 176, .int 0, .int a1] di1 dl1 (fun r2 di2 dl2 => (Wq none 6 209 16 [(0, .ref 176), (1, .int a1), (2, .int 0), (3, .int r2), (4, .int 1)] [] di2 dl2 (RI K))))))) : ClI 6 209 [.ref 176, .int a1] di dl K := by
  refine Cl_of C_209 Z_209 [(0, .ref 176), (1, .int a1)] rfl ?_
  refine q0 I_209_0 (wi_aload_n _ rfl ?_)
  refine q0 I_209_1 (wi_virtV (e := 5) [] [] S_176 rfl (by decide) rfl rfl rfl (okC_i rfl rfl rfl) C_203 (by decide) (ClV_mono H ?_))
  intro di1 dl1 H
  refine q0 I_209_4 (wi_iconst 0 rfl ?_)
  refine q0 I_209_5 (wi_istore_n [(0, .ref 176), (1, .int a1), (2, .int 0)] (lt_e X_209 rfl) rfl ?_)
  refine q0 I_209_6 (wi_aload_n _ rfl ?_)
  refine q0 I_209_7 (wi_iconst 0 rfl ?_)
  refine q0 I_209_8 (wi_iload_n _ rfl ?_)
  refine q0 I_209_9 (wi_virtI (e := 3) [.int 0, .int a1] [] S_176 rfl (by decide) rfl rfl rfl (okC_i rfl rfl rfl) C_208 (by decide) (ClI_mono H ?_))
  intro r2 di2 dl2 H
  refine q0 I_209_12 (wi_istore_n [(0, .ref 176), (1, .int a1), (2, .int 0), (3, .int r2)] (lt_e X_209 rfl) rfl ?_)
  refine q0 I_209_13 (wi_iconst 1 rfl ?_)
  refine q0 I_209_14 (wi_istore [(0, .ref 176), (1, .int a1), (2, .int 0), (3, .int r2), (4, .int 1)] (lt_e X_209 rfl) rfl ?_)
  exact Wq_c I_209_16 rfl rfl H
theorem r_209_16 {x1 : Int32} {x2 : Int32} {x3 : Int32} {x4 : Int32} {di : tDi} {dl : tDl} {K : Int32 → tDi → tDl → Prop} (H : (((di 183 2) < x4 → (K x2 di dl)) ∧ (x4 ≤ (di 183 2) → (ClI 3 208 [.ref 176, .int x4, .int x1] di dl (fun r21 di21 dl21 => ((x3 ≤ r21 → ((x3 ≤ r21 → (Wq none 6 209 16 [(0, .ref 176), (1, .int x1), (2, .int x2), (3, .int x3), (4, .int (x4 + 1))] [] di21 dl21 (RI K))) ∧ (r21 < x3 → (Wq none 6 209 16 [(0, .ref 176), (1, .int x1), (2, .int x2), (3, .int r21), (4, .int (x4 + 1))] [] di21 dl21 (RI K))))) ∧ (r21 < x3 → ((x3 ≤ r21 → (Wq none 6 209 16 [(0, .ref 176), (1, .int x1), (2, .int x4), (3, .int x3), (4, .int (x4 + 1))] [] di21 dl21 (RI K))) ∧ (r21 < x3 → (Wq none 6 209 16 [(0, .ref 176), (1, .int x1), (2, .int x4), (3, .int r21), (4, .int (x4 + 1))] [] di21 dl21 (RI K))))))))))) : Wq none 6 209 16 [(0, .ref 176), (1, .int x1), (2, .int x2), (3, .int x3), (4, .int x4)] [] di dl (RI K) := by
  refine q1 (ls' := [(0, .ref 176), (1, .int x1), (2, .int x2), (3, .int x3), (4, .int x4)]) I_209_16 rfl (wi_iload _ rfl ?_)
  refine q0 I_209_18 (wi_aload_n _ rfl ?_)
  refine q0 I_209_19 (wi_get (.ref 183) S_176 rfl (by decide) rfl ?_)
  refine q0 I_209_22 (wi_iconst 2 rfl ?_)
  refine q0 I_209_23 (wi_iaload 2 S_183 rfl rfl ?_)
  refine q0 I_209_24 (wi_ic_gt (fun h => ?_) (fun h => ?_))
  · replace H := H.1 h
    refine q1 (ls' := [(2, .int x2)]) I_209_62 rfl (wi_iload_n _ rfl ?_)
    exact q0 I_209_63 (wi_iret T_209 C_209 ⟨_, rfl, H⟩)
  · replace H := H.2 h
    refine q1 (ls' := [(0, .ref 176), (1, .int x1), (2, .int x2), (3, .int x3), (4, .int x4)]) I_209_27 rfl (wi_aload_n _ rfl ?_)
    refine q0 I_209_28 (wi_iload _ rfl ?_)
    refine q0 I_209_30 (wi_iload_n _ rfl ?_)
    refine q0 I_209_31 (wi_virtI (e := 3) [.int x4, .int x1] [] S_176 rfl (by decide) rfl rfl rfl (okC_i rfl rfl rfl) C_208 (by decide) (ClI_mono H ?_))
    intro r21 di21 dl21 H
    refine q0 I_209_34 (wi_istore [(0, .ref 176), (1, .int x1), (2, .int x2), (3, .int x3), (4, .int x4), (5, .int r21)] (lt_e X_209 rfl) rfl ?_)
    refine q0 I_209_36 (wi_iload _ rfl ?_)
    refine q0 I_209_38 (wi_iload_n _ rfl ?_)
    refine q0 I_209_39 (wi_ic_ge (fun h => ?_) (fun h => ?_))
    · replace H := H.1 h
      refine q1 (ls' := [(0, .ref 176), (1, .int x1), (2, .int x2), (3, .int x3), (4, .int x4), (5, .int r21)]) I_209_47 rfl (wi_iload_n _ rfl ?_)
      refine q1 (ls' := [(0, .ref 176), (1, .int x1), (3, .int x3), (4, .int x4), (5, .int r21)]) I_209_48 rfl (wi_istore_n [(0, .ref 176), (1, .int x1), (2, .int x2), (3, .int x3), (4, .int x4), (5, .int r21)] (lt_e X_209 rfl) rfl ?_)
      refine q0 I_209_49 (wi_iload _ rfl ?_)
      refine q0 I_209_51 (wi_iload_n _ rfl ?_)
      refine q0 I_209_52 (wi_statI (e := 5) [.int r21, .int x3] [] rfl (Or.inl rfl) rfl rfl rfl (okC_i rfl rfl rfl) C_139 (by decide) (Cl_of C_139 Z_139 [(0, .int r21), (1, .int x3)] rfl ?_))
      refine q0 I_139_0 (wi_iload_n _ rfl ?_)
      refine q0 I_139_1 (wi_iload_n _ rfl ?_)
      refine q0 I_139_2 (wi_ic_ge (fun h => ?_) (fun h => ?_))
      · replace H := H.1 h
        refine q1 (ls' := [(1, .int x3)]) I_139_9 rfl (wi_iload_n _ rfl ?_)
        refine q1 (ls' := []) I_139_10 rfl (wi_iret T_139 C_139 ⟨_, rfl, ?_⟩)
        refine q0 I_209_55 (wi_istore_n [(0, .ref 176), (1, .int x1), (2, .int x2), (3, .int x3), (4, .int x4), (5, .int r21)] (lt_e X_209 rfl) rfl ?_)
        refine q0 I_209_56 (wi_iinc 1 [(0, .ref 176), (1, .int x1), (2, .int x2), (3, .int x3), (4, .int (x4 + 1)), (5, .int r21)] rfl (lt_e X_209 rfl) rfl rfl ?_)
        refine q0 I_209_59 (wi_goto ?_)
        exact Wq_c I_209_16 rfl rfl H
      · replace H := H.2 h
        refine q1 (ls' := [(0, .int r21)]) I_139_5 rfl (wi_iload_n _ rfl ?_)
        refine q0 I_139_6 (wi_goto ?_)
        refine q1 (ls' := []) I_139_10 rfl (wi_iret T_139 C_139 ⟨_, rfl, ?_⟩)
        refine q0 I_209_55 (wi_istore_n [(0, .ref 176), (1, .int x1), (2, .int x2), (3, .int r21), (4, .int x4), (5, .int r21)] (lt_e X_209 rfl) rfl ?_)
        refine q0 I_209_56 (wi_iinc 1 [(0, .ref 176), (1, .int x1), (2, .int x2), (3, .int r21), (4, .int (x4 + 1)), (5, .int r21)] rfl (lt_e X_209 rfl) rfl rfl ?_)
        refine q0 I_209_59 (wi_goto ?_)
        exact Wq_c I_209_16 rfl rfl H
    · replace H := H.2 h
      refine q1 (ls' := [(0, .ref 176), (1, .int x1), (3, .int x3), (4, .int x4), (5, .int r21)]) I_209_42 rfl (wi_iload _ rfl ?_)
      refine q0 I_209_44 (wi_goto ?_)
      refine q1 (ls' := [(0, .ref 176), (1, .int x1), (3, .int x3), (4, .int x4), (5, .int r21)]) I_209_48 rfl (wi_istore_n [(0, .ref 176), (1, .int x1), (2, .int x4), (3, .int x3), (4, .int x4), (5, .int r21)] (lt_e X_209 rfl) rfl ?_)
      refine q0 I_209_49 (wi_iload _ rfl ?_)
      refine q0 I_209_51 (wi_iload_n _ rfl ?_)
      refine q0 I_209_52 (wi_statI (e := 5) [.int r21, .int x3] [] rfl (Or.inl rfl) rfl rfl rfl (okC_i rfl rfl rfl) C_139 (by decide) (Cl_of C_139 Z_139 [(0, .int r21), (1, .int x3)] rfl ?_))
      refine q0 I_139_0 (wi_iload_n _ rfl ?_)
      refine q0 I_139_1 (wi_iload_n _ rfl ?_)
      refine q0 I_139_2 (wi_ic_ge (fun h => ?_) (fun h => ?_))
      · replace H := H.1 h
        refine q1 (ls' := [(1, .int x3)]) I_139_9 rfl (wi_iload_n _ rfl ?_)
        refine q1 (ls' := []) I_139_10 rfl (wi_iret T_139 C_139 ⟨_, rfl, ?_⟩)
        refine q0 I_209_55 (wi_istore_n [(0, .ref 176), (1, .int x1), (2, .int x4), (3, .int x3), (4, .int x4), (5, .int r21)] (lt_e X_209 rfl) rfl ?_)
        refine q0 I_209_56 (wi_iinc 1 [(0, .ref 176), (1, .int x1), (2, .int x4), (3, .int x3), (4, .int (x4 + 1)), (5, .int r21)] rfl (lt_e X_209 rfl) rfl rfl ?_)
        refine q0 I_209_59 (wi_goto ?_)
        exact Wq_c I_209_16 rfl rfl H
      · replace H := H.2 h
        refine q1 (ls' := [(0, .int r21)]) I_139_5 rfl (wi_iload_n _ rfl ?_)
        refine q0 I_139_6 (wi_goto ?_)
        refine q1 (ls' := []) I_139_10 rfl (wi_iret T_139 C_139 ⟨_, rfl, ?_⟩)
        refine q0 I_209_55 (wi_istore_n [(0, .ref 176), (1, .int x1), (2, .int x4), (3, .int r21), (4, .int x4), (5, .int r21)] (lt_e X_209 rfl) rfl ?_)
        refine q0 I_209_56 (wi_iinc 1 [(0, .ref 176), (1, .int x1), (2, .int x4), (3, .int r21), (4, .int (x4 + 1)), (5, .int r21)] rfl (lt_e X_209 rfl) rfl rfl ?_)
        refine q0 I_209_59 (wi_goto ?_)
        exact Wq_c I_209_16 rfl rfl H
theorem r_210 {a1 : Int32} {di : tDi} {dl : tDl} {K : Int32 → tDi → tDl → Prop} (H : (ClV 6 163 [.ref 176] di dl (fun di1 dl1 => (((lg_cmp (a1 : Int32).toInt64 0) < 0 → (K (-2) di1 dl1)) ∧ (0 ≤ (lg_cmp (a1 : Int32).toInt64 0) → ((0 < (lg_cmp (a1 : Int32).toInt64 (((di1 183 0) - 1) : Int32).toInt64) → (K (-2) di1 dl1)) ∧ ((lg_cmp (a1 : Int32).toInt64 (((di1 183 0) - 1) : Int32).toInt64) ≤ 0 → (ClI 6 209 [.ref 176, .int a1] di1 dl1 (fun r2 di2 dl2 => (K r2 di2 dl2)))))))))) : ClI 7 210 [.ref 176, .int a1] di dl K := by
  refine Cl_of C_210 Z_210 [(0, .ref 176), (1, .int a1)] rfl ?_
  refine q0 I_210_0 (wi_aload_n _ rfl ?_)
  refine q0 I_210_1 (wi_virtV (e := 6) [] [] S_176 rfl (by decide) rfl rfl rfl (okC_i rfl rfl rfl) C_163 (by decide) (ClV_mono H ?_))
  intro di1 dl1 H
  refine q0 I_210_4 (wi_aload_n _ rfl ?_)
  refine q0 I_210_5 (wi_iload_n _ rfl ?_)
  refine q0 I_210_6 (wi_virtI (e := 6) [.int a1] [] S_176 rfl (by decide) rfl rfl rfl (okC_i rfl rfl rfl) C_165 (by decide) (Cl_of C_165 Z_165 [(0, .ref 176), (1, .int a1)] rfl ?_))
  refine q0 I_165_0 (wi_iload_n _ rfl ?_)
  refine q0 I_165_1 (wi_i2l ?_)
  refine q0 I_165_2 (wi_lconst 0 rfl ?_)
  refine q0 I_165_3 (wi_aload_n _ rfl ?_)
  refine q0 I_165_4 (wi_get (.ref 183) S_176 rfl (by decide) rfl ?_)
  refine q0 I_165_7 (wi_iconst 0 rfl ?_)
  refine q0 I_165_8 (wi_iaload 0 S_183 rfl rfl ?_)
  refine q0 I_165_9 (wi_iconst 1 rfl ?_)
  refine q0 I_165_10 (wi_isub ?_)
  refine q0 I_165_11 (wi_i2l ?_)
  refine q0 I_165_12 (wi_statI (e := 5) [.long (a1 : Int32).toInt64, .long 0, .long (((di1 183 0) - 1) : Int32).toInt64] [] rfl (Or.inl rfl) rfl rfl rfl (okC_i rfl rfl rfl) C_134 (by decide) (Cl_of C_134 Z_134 [(0, .long (a1 : Int32).toInt64), (2, .long 0), (4, .long (((di1 183 0) - 1) : Int32).toInt64)] rfl ?_))
  refine q0 I_134_0 (wi_lload_n _ rfl ?_)
  refine q0 I_134_1 (wi_lload_n _ rfl ?_)
  refine q0 I_134_2 (wi_lcmp ?_)
  refine q0 I_134_3 (wi_if_lt (fun h => ?_) (fun h => ?_))
  · replace H := H.1 h
    refine q1 (ls' := []) I_134_17 rfl (wi_iconst 0 rfl ?_)
    refine q1 (ls' := []) I_134_18 rfl (wi_zret T_134 (Or.inl C_134) (Or.inl rfl) ⟨_, rfl, ?_⟩)
    refine q0 I_165_15 (wi_zret T_165 (Or.inl C_165) (Or.inl rfl) ⟨_, rfl, ?_⟩)
    refine q0 I_210_9 (wi_ifT rfl ?_)
    refine q1 (ls' := []) I_210_20 rfl (wi_bipush (-2) rfl ?_)
    exact q1 (ls' := []) I_210_22 rfl (wi_iret T_210 C_210 ⟨_, rfl, H⟩)
  · replace H := H.2 h
    refine q1 (ls' := [(0, .long (a1 : Int32).toInt64), (4, .long (((di1 183 0) - 1) : Int32).toInt64)]) I_134_6 rfl (wi_lload_n _ rfl ?_)
    refine q0 I_134_7 (wi_lload _ rfl ?_)
    refine q0 I_134_9 (wi_lcmp ?_)
    refine q0 I_134_10 (wi_if_gt (fun h => ?_) (fun h => ?_))
    · replace H := H.1 h
      refine q1 (ls' := []) I_134_17 rfl (wi_iconst 0 rfl ?_)
      refine q1 (ls' := []) I_134_18 rfl (wi_zret T_134 (Or.inl C_134) (Or.inl rfl) ⟨_, rfl, ?_⟩)
      refine q0 I_165_15 (wi_zret T_165 (Or.inl C_165) (Or.inl rfl) ⟨_, rfl, ?_⟩)
      refine q0 I_210_9 (wi_ifT rfl ?_)
      refine q1 (ls' := []) I_210_20 rfl (wi_bipush (-2) rfl ?_)
      exact q1 (ls' := []) I_210_22 rfl (wi_iret T_210 C_210 ⟨_, rfl, H⟩)
    · replace H := H.2 h
      refine q1 (ls' := []) I_134_13 rfl (wi_iconst 1 rfl ?_)
      refine q0 I_134_14 (wi_goto ?_)
      refine q1 (ls' := []) I_134_18 rfl (wi_zret T_134 (Or.inl C_134) (Or.inr rfl) ⟨_, rfl, ?_⟩)
      refine q0 I_165_15 (wi_zret T_165 (Or.inl C_165) (Or.inr rfl) ⟨_, rfl, ?_⟩)
      refine q0 I_210_9 (wi_ifF rfl ?_)
      refine q1 (ls' := [(0, .ref 176), (1, .int a1)]) I_210_12 rfl (wi_aload_n _ rfl ?_)
      refine q0 I_210_13 (wi_iload_n _ rfl ?_)
      refine q0 I_210_14 (wi_virtI (e := 6) [.int a1] [] S_176 rfl (by decide) rfl rfl rfl (okC_i rfl rfl rfl) C_209 (by decide) (ClI_mono H ?_))
      intro r2 di2 dl2 H
      refine q0 I_210_17 (wi_goto ?_)
      exact q1 (ls' := []) I_210_22 rfl (wi_iret T_210 C_210 ⟨_, rfl, H⟩)
theorem r_211 {a1 : Int32} {a2 : Int32} {a3 : Int32} {a4 : Int32} {di : tDi} {dl : tDl} {K : Int64 → tDi → tDl → Prop} (H : (Wq none 1 211 6 [(0, .ref 176), (1, .int a1), (2, .int a2), (3, .int a3), (4, .int a4), (5, .int 0), (6, .int 0)] [] di dl (RJ K))) : ClJ 1 211 [.ref 176, .int a1, .int a2, .int a3, .int a4] di dl K := by
  refine Cl_of C_211 Z_211 [(0, .ref 176), (1, .int a1), (2, .int a2), (3, .int a3), (4, .int a4)] rfl ?_
  refine q0 I_211_0 (wi_iconst 0 rfl ?_)
  refine q0 I_211_1 (wi_istore [(0, .ref 176), (1, .int a1), (2, .int a2), (3, .int a3), (4, .int a4), (5, .int 0)] (lt_e X_211 rfl) rfl ?_)
  refine q0 I_211_3 (wi_iconst 0 rfl ?_)
  refine q0 I_211_4 (wi_istore [(0, .ref 176), (1, .int a1), (2, .int a2), (3, .int a3), (4, .int a4), (5, .int 0), (6, .int 0)] (lt_e X_211 rfl) rfl ?_)
  exact Wq_c I_211_6 rfl rfl H
theorem r_211_6 {x1 : Int32} {x2 : Int32} {x3 : Int32} {x4 : Int32} {x5 : Int32} {x6 : Int32} {di : tDi} {dl : tDl} {K : Int64 → tDi → tDl → Prop} (H : ((x3 ≤ x6 → (Wq none 1 211 51 [(0, .ref 176), (1, .int x1), (2, .int x2), (4, .int x4), (5, .int x5), (6, .long 0), (8, .long 1), (10, .long 1), (12, .int 0)] [] di dl (RJ K))) ∧ (x6 < x3 → (inB x6 24 = true ∧ ((¬ (di 186 (x6.toNatClampNeg)) = 4 → (Wq none 1 211 6 [(0, .ref 176), (1, .int x1), (2, .int x2), (3, .int x3), (4, .int x4), (5, .int (x5 + 0)), (6, .int (x6 + 1))] [] di dl (RJ K))) ∧ ((di 186 (x6.toNatClampNeg)) = 4 → (Wq none 1 211 6 [(0, .ref 176), (1, .int x1), (2, .int x2), (3, .int x3), (4, .int x4), (5, .int (x5 + 1)), (6, .int (x6 + 1))] [] di dl (RJ K)))))))) : Wq none 1 211 6 [(0, .ref 176), (1, .int x1), (2, .int x2), (3, .int x3), (4, .int x4), (5, .int x5), (6, .int x6)] [] di dl (RJ K) := by
  refine q1 (ls' := [(0, .ref 176), (1, .int x1), (2, .int x2), (3, .int x3), (4, .int x4), (5, .int x5), (6, .int x6)]) I_211_6 rfl (wi_iload _ rfl ?_)
  refine q0 I_211_8 (wi_iload_n _ rfl ?_)
  refine q0 I_211_9 (wi_ic_ge (fun h => ?_) (fun h => ?_))
  · replace H := H.1 h
    refine q1 (ls' := [(0, .ref 176), (1, .int x1), (2, .int x2), (4, .int x4), (5, .int x5)]) I_211_39 rfl (wi_lconst 0 rfl ?_)
    refine q0 I_211_40 (wi_lstore [(0, .ref 176), (1, .int x1), (2, .int x2), (4, .int x4), (5, .int x5), (6, .long 0)] (lt_e X_211 rfl) rfl ?_)
    refine q0 I_211_42 (wi_lconst 1 rfl ?_)
    refine q0 I_211_43 (wi_lstore [(0, .ref 176), (1, .int x1), (2, .int x2), (4, .int x4), (5, .int x5), (6, .long 0), (8, .long 1)] (lt_e X_211 rfl) rfl ?_)
    refine q0 I_211_45 (wi_lconst 1 rfl ?_)
    refine q0 I_211_46 (wi_lstore [(0, .ref 176), (1, .int x1), (2, .int x2), (4, .int x4), (5, .int x5), (6, .long 0), (8, .long 1), (10, .long 1)] (lt_e X_211 rfl) rfl ?_)
    refine q0 I_211_48 (wi_iconst 0 rfl ?_)
    refine q0 I_211_49 (wi_istore [(0, .ref 176), (1, .int x1), (2, .int x2), (4, .int x4), (5, .int x5), (6, .long 0), (8, .long 1), (10, .long 1), (12, .int 0)] (lt_e X_211 rfl) rfl ?_)
    exact Wq_c I_211_51 rfl rfl H
  · replace H := H.2 h
    refine q1 (ls' := [(0, .ref 176), (1, .int x1), (2, .int x2), (3, .int x3), (4, .int x4), (5, .int x5), (6, .int x6)]) I_211_12 rfl (wi_iload _ rfl ?_)
    refine q0 I_211_14 (wi_aload_n _ rfl ?_)
    refine q0 I_211_15 (wi_get (.ref 186) S_176 rfl (by decide) rfl ?_)
    refine q0 I_211_18 (wi_iload _ rfl ?_)
    have hb21 := H.1
    replace H := H.2
    refine q0 I_211_20 (wi_iaload (x6.toNatClampNeg) S_186 hb21 rfl ?_)
    refine q0 I_211_21 (wi_iconst 4 rfl ?_)
    refine q0 I_211_22 (wi_ic_ne (fun h => ?_) (fun h => ?_))
    · replace H := H.1 h
      refine q1 (ls' := [(0, .ref 176), (1, .int x1), (2, .int x2), (3, .int x3), (4, .int x4), (6, .int x6)]) I_211_29 rfl (wi_iconst 0 rfl ?_)
      refine q1 (ls' := [(0, .ref 176), (1, .int x1), (2, .int x2), (3, .int x3), (4, .int x4), (6, .int x6)]) I_211_30 rfl (wi_iadd ?_)
      refine q0 I_211_31 (wi_istore [(0, .ref 176), (1, .int x1), (2, .int x2), (3, .int x3), (4, .int x4), (5, .int (x5 + 0)), (6, .int x6)] (lt_e X_211 rfl) rfl ?_)
      refine q0 I_211_33 (wi_iinc 1 [(0, .ref 176), (1, .int x1), (2, .int x2), (3, .int x3), (4, .int x4), (5, .int (x5 + 0)), (6, .int (x6 + 1))] rfl (lt_e X_211 rfl) rfl rfl ?_)
      refine q0 I_211_36 (wi_goto ?_)
      exact Wq_c I_211_6 rfl rfl H
    · replace H := H.2 h
      refine q1 (ls' := [(0, .ref 176), (1, .int x1), (2, .int x2), (3, .int x3), (4, .int x4), (6, .int x6)]) I_211_25 rfl (wi_iconst 1 rfl ?_)
      refine q0 I_211_26 (wi_goto ?_)
      refine q1 (ls' := [(0, .ref 176), (1, .int x1), (2, .int x2), (3, .int x3), (4, .int x4), (6, .int x6)]) I_211_30 rfl (wi_iadd ?_)
      refine q0 I_211_31 (wi_istore [(0, .ref 176), (1, .int x1), (2, .int x2), (3, .int x3), (4, .int x4), (5, .int (x5 + 1)), (6, .int x6)] (lt_e X_211 rfl) rfl ?_)
      refine q0 I_211_33 (wi_iinc 1 [(0, .ref 176), (1, .int x1), (2, .int x2), (3, .int x3), (4, .int x4), (5, .int (x5 + 1)), (6, .int (x6 + 1))] rfl (lt_e X_211 rfl) rfl rfl ?_)
      refine q0 I_211_36 (wi_goto ?_)
      exact Wq_c I_211_6 rfl rfl H
theorem r_211_51 {x1 : Int32} {x2 : Int32} {x4 : Int32} {x5 : Int32} {x6 : Int64} {x8 : Int64} {x10 : Int64} {x12 : Int32} {di : tDi} {dl : tDl} {K : Int64 → tDi → tDl → Prop} (H : ((x5 < x12 → (ClJ 0 141 [.long x6, .long x8, .int x4] di dl (fun r21 di21 dl21 => (K r21 di21 dl21)))) ∧ (x12 ≤ x5 → (Wq none 1 211 65 [(0, .ref 176), (1, .int x1), (2, .int x2), (4, .int x4), (5, .int x5), (6, .long x6), (8, .long x8), (10, .long x10), (12, .int x12), (13, .long x10), (15, .int 0)] [] di dl (RJ K))))) : Wq none 1 211 51 [(0, .ref 176), (1, .int x1), (2, .int x2), (4, .int x4), (5, .int x5), (6, .long x6), (8, .long x8), (10, .long x10), (12, .int x12)] [] di dl (RJ K) := by
  refine q1 (ls' := [(0, .ref 176), (1, .int x1), (2, .int x2), (4, .int x4), (5, .int x5), (6, .long x6), (8, .long x8), (10, .long x10), (12, .int x12)]) I_211_51 rfl (wi_iload _ rfl ?_)
  refine q0 I_211_53 (wi_iload _ rfl ?_)
  refine q0 I_211_55 (wi_ic_gt (fun h => ?_) (fun h => ?_))
  · replace H := H.1 h
    refine q1 (ls' := [(4, .int x4), (6, .long x6), (8, .long x8)]) I_211_183 rfl (wi_lload _ rfl ?_)
    refine q0 I_211_185 (wi_lload _ rfl ?_)
    refine q0 I_211_187 (wi_iload _ rfl ?_)
    refine q0 I_211_189 (wi_statJ (e := 0) [.long x6, .long x8, .int x4] [] rfl (Or.inl rfl) rfl rfl rfl (okC_i rfl rfl rfl) C_141 (by decide) (ClJ_mono H ?_))
    intro r21 di21 dl21 H
    exact q0 I_211_192 (wi_jret T_211 C_211 ⟨_, rfl, H⟩)
  · replace H := H.2 h
    refine q1 (ls' := [(0, .ref 176), (1, .int x1), (2, .int x2), (4, .int x4), (5, .int x5), (6, .long x6), (8, .long x8), (10, .long x10), (12, .int x12)]) I_211_58 rfl (wi_lload _ rfl ?_)
    refine q0 I_211_60 (wi_lstore [(0, .ref 176), (1, .int x1), (2, .int x2), (4, .int x4), (5, .int x5), (6, .long x6), (8, .long x8), (10, .long x10), (12, .int x12), (13, .long x10)] (lt_e X_211 rfl) rfl ?_)
    refine q0 I_211_62 (wi_iconst 0 rfl ?_)
    refine q0 I_211_63 (wi_istore [(0, .ref 176), (1, .int x1), (2, .int x2), (4, .int x4), (5, .int x5), (6, .long x6), (8, .long x8), (10, .long x10), (12, .int x12), (13, .long x10), (15, .int 0)] (lt_e X_211 rfl) rfl ?_)
    exact Wq_c I_211_65 rfl rfl H
theorem r_211_65 {x1 : Int32} {x2 : Int32} {x4 : Int32} {x5 : Int32} {x6 : Int64} {x8 : Int64} {x10 : Int64} {x12 : Int32} {x13 : Int64} {x15 : Int32} {di : tDi} {dl : tDl} {K : Int64 → tDi → tDl → Prop} (H : ((x5 ≤ x15 → (inB (((4 : Int32) * x2) + 3) 32 = true ∧ (inB (((4 : Int32) * x2) + 1) 32 = true ∧ ((¬ (di 185 ((((4 : Int32) * x2) + 1).toNatClampNeg)) = 0 → ((¬ (di 185 ((((4 : Int32) * x2) + 1).toNatClampNeg)) = 2 → ((((di 185 ((((4 : Int32) * x2) + 3).toNatClampNeg)) - (x12 * 0)) ≤ 0 → ((x5 ≤ x12 → (¬ ((x12 + 1) : Int32).toInt64 = 0 ∧ (Wq none 1 211 51 [(0, .ref 176), (1, .int x1), (2, .int x2), (4, .int x4), (5, .int x5), (6, .long (x6 + 0)), (8, .long (x8 * 1)), (10, .long ((x10 * ((x5 - x12) : Int32).toInt64) / ((x12 + 1) : Int32).toInt64)), (12, .int (x12 + 1))] [] di dl (RJ K)))) ∧ (x12 < x5 → (¬ ((x12 + 1) : Int32).toInt64 = 0 ∧ (Wq none 1 211 51 [(0, .ref 176), (1, .int x1), (2, .int x2), (4, .int x4), (5, .int x5), (6, .long (x6 + 0)), (8, .long (x8 * 16)), (10, .long ((x10 * ((x5 - x12) : Int32).toInt64) / ((x12 + 1) : Int32).toInt64)), (12, .int (x12 + 1))] [] di dl (RJ K)))))) ∧ (0 < ((di 185 ((((4 : Int32) * x2) + 3).toNatClampNeg)) - (x12 * 0)) → ((x5 ≤ x12 → (¬ ((x12 + 1) : Int32).toInt64 = 0 ∧ (Wq none 1 211 51 [(0, .ref 176), (1, .int x1), (2, .int x2), (4, .int x4), (5, .int x5), (6, .long (x6 + x13)), (8, .long (x8 * 1)), (10, .long ((x10 * ((x5 - x12) : Int32).toInt64) / ((x12 + 1) : Int32).toInt64)), (12, .int (x12 + 1))] [] di dl (RJ K)))) ∧ (x12 < x5 → (¬ ((x12 + 1) : Int32).toInt64 = 0 ∧ (Wq none 1 211 51 [(0, .ref 176), (1, .int x1), (2, .int x2), (4, .int x4), (5, .int x5), (6, .long (x6 + x13)), (8, .long (x8 * 16)), (10, .long ((x10 * ((x5 - x12) : Int32).toInt64) / ((x12 + 1) : Int32).toInt64)), (12, .int (x12 + 1))] [] di dl (RJ K)))))))) ∧ ((di 185 ((((4 : Int32) * x2) + 1).toNatClampNeg)) = 2 → ((((di 185 ((((4 : Int32) * x2) + 3).toNatClampNeg)) - (x12 * 1)) ≤ 0 → ((x5 ≤ x12 → (¬ ((x12 + 1) : Int32).toInt64 = 0 ∧ (Wq none 1 211 51 [(0, .ref 176), (1, .int x1), (2, .int x2), (4, .int x4), (5, .int x5), (6, .long (x6 + 0)), (8, .long (x8 * 1)), (10, .long ((x10 * ((x5 - x12) : Int32).toInt64) / ((x12 + 1) : Int32).toInt64)), (12, .int (x12 + 1))] [] di dl (RJ K)))) ∧ (x12 < x5 → (¬ ((x12 + 1) : Int32).toInt64 = 0 ∧ (Wq none 1 211 51 [(0, .ref 176), (1, .int x1), (2, .int x2), (4, .int x4), (5, .int x5), (6, .long (x6 + 0)), (8, .long (x8 * 16)), (10, .long ((x10 * ((x5 - x12) : Int32).toInt64) / ((x12 + 1) : Int32).toInt64)), (12, .int (x12 + 1))] [] di dl (RJ K)))))) ∧ (0 < ((di 185 ((((4 : Int32) * x2) + 3).toNatClampNeg)) - (x12 * 1)) → ((x5 ≤ x12 → (¬ ((x12 + 1) : Int32).toInt64 = 0 ∧ (Wq none 1 211 51 [(0, .ref 176), (1, .int x1), (2, .int x2), (4, .int x4), (5, .int x5), (6, .long (x6 + x13)), (8, .long (x8 * 1)), (10, .long ((x10 * ((x5 - x12) : Int32).toInt64) / ((x12 + 1) : Int32).toInt64)), (12, .int (x12 + 1))] [] di dl (RJ K)))) ∧ (x12 < x5 → (¬ ((x12 + 1) : Int32).toInt64 = 0 ∧ (Wq none 1 211 51 [(0, .ref 176), (1, .int x1), (2, .int x2), (4, .int x4), (5, .int x5), (6, .long (x6 + x13)), (8, .long (x8 * 16)), (10, .long ((x10 * ((x5 - x12) : Int32).toInt64) / ((x12 + 1) : Int32).toInt64)), (12, .int (x12 + 1))] [] di dl (RJ K)))))))))) ∧ ((di 185 ((((4 : Int32) * x2) + 1).toNatClampNeg)) = 0 → ((((di 185 ((((4 : Int32) * x2) + 3).toNatClampNeg)) - (x12 * 2)) ≤ 0 → ((x5 ≤ x12 → (¬ ((x12 + 1) : Int32).toInt64 = 0 ∧ (Wq none 1 211 51 [(0, .ref 176), (1, .int x1), (2, .int x2), (4, .int x4), (5, .int x5), (6, .long (x6 + 0)), (8, .long (x8 * 1)), (10, .long ((x10 * ((x5 - x12) : Int32).toInt64) / ((x12 + 1) : Int32).toInt64)), (12, .int (x12 + 1))] [] di dl (RJ K)))) ∧ (x12 < x5 → (¬ ((x12 + 1) : Int32).toInt64 = 0 ∧ (Wq none 1 211 51 [(0, .ref 176), (1, .int x1), (2, .int x2), (4, .int x4), (5, .int x5), (6, .long (x6 + 0)), (8, .long (x8 * 16)), (10, .long ((x10 * ((x5 - x12) : Int32).toInt64) / ((x12 + 1) : Int32).toInt64)), (12, .int (x12 + 1))] [] di dl (RJ K)))))) ∧ (0 < ((di 185 ((((4 : Int32) * x2) + 3).toNatClampNeg)) - (x12 * 2)) → ((x5 ≤ x12 → (¬ ((x12 + 1) : Int32).toInt64 = 0 ∧ (Wq none 1 211 51 [(0, .ref 176), (1, .int x1), (2, .int x2), (4, .int x4), (5, .int x5), (6, .long (x6 + x13)), (8, .long (x8 * 1)), (10, .long ((x10 * ((x5 - x12) : Int32).toInt64) / ((x12 + 1) : Int32).toInt64)), (12, .int (x12 + 1))] [] di dl (RJ K)))) ∧ (x12 < x5 → (¬ ((x12 + 1) : Int32).toInt64 = 0 ∧ (Wq none 1 211 51 [(0, .ref 176), (1, .int x1), (2, .int x2), (4, .int x4), (5, .int x5), (6, .long (x6 + x13)), (8, .long (x8 * 16)), (10, .long ((x10 * ((x5 - x12) : Int32).toInt64) / ((x12 + 1) : Int32).toInt64)), (12, .int (x12 + 1))] [] di dl (RJ K)))))))))))) ∧ (x15 < x5 → ((x12 ≤ x15 → (Wq none 1 211 65 [(0, .ref 176), (1, .int x1), (2, .int x2), (4, .int x4), (5, .int x5), (6, .long x6), (8, .long x8), (10, .long x10), (12, .int x12), (13, .long (x13 * (((16 : Int32) - x1) : Int32).toInt64)), (15, .int (x15 + 1))] [] di dl (RJ K))) ∧ (x15 < x12 → (Wq none 1 211 65 [(0, .ref 176), (1, .int x1), (2, .int x2), (4, .int x4), (5, .int x5), (6, .long x6), (8, .long x8), (10, .long x10), (12, .int x12), (13, .long (x13 * (x1 : Int32).toInt64)), (15, .int (x15 + 1))] [] di dl (RJ K))))))) : Wq none 1 211 65 [(0, .ref 176), (1, .int x1), (2, .int x2), (4, .int x4), (5, .int x5), (6, .long x6), (8, .long x8), (10, .long x10), (12, .int x12), (13, .long x13), (15, .int x15)] [] di dl (RJ K) := by
  refine q1 (ls' := [(0, .ref 176), (1, .int x1), (2, .int x2), (4, .int x4), (5, .int x5), (6, .long x6), (8, .long x8), (10, .long x10), (12, .int x12), (13, .long x13), (15, .int x15)]) I_211_65 rfl (wi_iload _ rfl ?_)
  refine q0 I_211_67 (wi_iload _ rfl ?_)
  refine q0 I_211_69 (wi_ic_ge (fun h => ?_) (fun h => ?_))
  · replace H := H.1 h
    refine q1 (ls' := [(0, .ref 176), (1, .int x1), (2, .int x2), (4, .int x4), (5, .int x5), (6, .long x6), (8, .long x8), (10, .long x10), (12, .int x12), (13, .long x13)]) I_211_100 rfl (wi_lload _ rfl ?_)
    refine q0 I_211_102 (wi_aload_n _ rfl ?_)
    refine q0 I_211_103 (wi_get (.ref 185) S_176 rfl (by decide) rfl ?_)
    refine q0 I_211_106 (wi_iconst 4 rfl ?_)
    refine q0 I_211_107 (wi_iload_n _ rfl ?_)
    refine q0 I_211_108 (wi_imul ?_)
    refine q0 I_211_109 (wi_iconst 3 rfl ?_)
    refine q0 I_211_110 (wi_iadd ?_)
    have hb21 := H.1
    replace H := H.2
    refine q0 I_211_111 (wi_iaload ((((4 : Int32) * x2) + 3).toNatClampNeg) S_185 hb21 rfl ?_)
    refine q0 I_211_112 (wi_iload _ rfl ?_)
    refine q0 I_211_114 (wi_aload_n _ rfl ?_)
    refine q0 I_211_115 (wi_get (.ref 185) S_176 rfl (by decide) rfl ?_)
    refine q0 I_211_118 (wi_iconst 4 rfl ?_)
    refine q0 I_211_119 (wi_iload_n _ rfl ?_)
    refine q0 I_211_120 (wi_imul ?_)
    refine q0 I_211_121 (wi_iconst 1 rfl ?_)
    refine q0 I_211_122 (wi_iadd ?_)
    have hb22 := H.1
    replace H := H.2
    refine q0 I_211_123 (wi_iaload ((((4 : Int32) * x2) + 1).toNatClampNeg) S_185 hb22 rfl ?_)
    refine q0 I_211_124 (wi_statI (e := 0) [.int (di 185 ((((4 : Int32) * x2) + 1).toNatClampNeg))] [.int x12, .int (di 185 ((((4 : Int32) * x2) + 3).toNatClampNeg)), .long x6] rfl (Or.inl rfl) rfl rfl rfl (okC_i rfl rfl rfl) C_173 (by decide) (Cl_of C_173 Z_173 [(0, .int (di 185 ((((4 : Int32) * x2) + 1).toNatClampNeg)))] rfl ?_))
    refine q0 I_173_0 (wi_iload_n _ rfl ?_)
    refine q0 I_173_1 (wi_if_ne (fun h => ?_) (fun h => ?_))
    · replace H := H.1 h
      refine q1 (ls' := [(0, .int (di 185 ((((4 : Int32) * x2) + 1).toNatClampNeg)))]) I_173_8 rfl (wi_iload_n _ rfl ?_)
      refine q0 I_173_9 (wi_iconst 2 rfl ?_)
      refine q0 I_173_10 (wi_ic_ne (fun h => ?_) (fun h => ?_))
      · replace H := H.1 h
        refine q1 (ls' := []) I_173_17 rfl (wi_iconst 0 rfl ?_)
        refine q1 (ls' := []) I_173_18 rfl (wi_iret T_173 C_173 ⟨_, rfl, ?_⟩)
        refine q0 I_211_127 (wi_imul ?_)
        refine q0 I_211_128 (wi_isub ?_)
        refine q0 I_211_129 (wi_if_le (fun h => ?_) (fun h => ?_))
        · replace H := H.1 h
          refine q1 (ls' := [(0, .ref 176), (1, .int x1), (2, .int x2), (4, .int x4), (5, .int x5), (8, .long x8), (10, .long x10), (12, .int x12)]) I_211_137 rfl (wi_lconst 0 rfl ?_)
          refine q1 (ls' := [(0, .ref 176), (1, .int x1), (2, .int x2), (4, .int x4), (5, .int x5), (8, .long x8), (10, .long x10), (12, .int x12)]) I_211_138 rfl (wi_ladd ?_)
          refine q0 I_211_139 (wi_lstore [(0, .ref 176), (1, .int x1), (2, .int x2), (4, .int x4), (5, .int x5), (6, .long (x6 + 0)), (8, .long x8), (10, .long x10), (12, .int x12)] (lt_e X_211 rfl) rfl ?_)
          refine q0 I_211_141 (wi_lload _ rfl ?_)
          refine q0 I_211_143 (wi_iload _ rfl ?_)
          refine q0 I_211_145 (wi_iload _ rfl ?_)
          refine q0 I_211_147 (wi_ic_ge (fun h => ?_) (fun h => ?_))
          · replace H := H.1 h
            refine q1 (ls' := [(0, .ref 176), (1, .int x1), (2, .int x2), (4, .int x4), (5, .int x5), (6, .long (x6 + 0)), (10, .long x10), (12, .int x12)]) I_211_156 rfl (wi_lconst 1 rfl ?_)
            refine q1 (ls' := [(0, .ref 176), (1, .int x1), (2, .int x2), (4, .int x4), (5, .int x5), (6, .long (x6 + 0)), (10, .long x10), (12, .int x12)]) I_211_157 rfl (wi_lmul ?_)
            refine q0 I_211_158 (wi_lstore [(0, .ref 176), (1, .int x1), (2, .int x2), (4, .int x4), (5, .int x5), (6, .long (x6 + 0)), (8, .long (x8 * 1)), (10, .long x10), (12, .int x12)] (lt_e X_211 rfl) rfl ?_)
            refine q0 I_211_160 (wi_lload _ rfl ?_)
            refine q0 I_211_162 (wi_iload _ rfl ?_)
            refine q0 I_211_164 (wi_iload _ rfl ?_)
            refine q0 I_211_166 (wi_isub ?_)
            refine q0 I_211_167 (wi_i2l ?_)
            refine q0 I_211_168 (wi_lmul ?_)
            refine q0 I_211_169 (wi_iload _ rfl ?_)
            refine q0 I_211_171 (wi_iconst 1 rfl ?_)
            refine q0 I_211_172 (wi_iadd ?_)
            refine q0 I_211_173 (wi_i2l ?_)
            refine q0 I_211_174 (wi_ldiv H.1 ?_)
            replace H := H.2
            refine q0 I_211_175 (wi_lstore [(0, .ref 176), (1, .int x1), (2, .int x2), (4, .int x4), (5, .int x5), (6, .long (x6 + 0)), (8, .long (x8 * 1)), (10, .long ((x10 * ((x5 - x12) : Int32).toInt64) / ((x12 + 1) : Int32).toInt64)), (12, .int x12)] (lt_e X_211 rfl) rfl ?_)
            refine q0 I_211_177 (wi_iinc 1 [(0, .ref 176), (1, .int x1), (2, .int x2), (4, .int x4), (5, .int x5), (6, .long (x6 + 0)), (8, .long (x8 * 1)), (10, .long ((x10 * ((x5 - x12) : Int32).toInt64) / ((x12 + 1) : Int32).toInt64)), (12, .int (x12 + 1))] rfl (lt_e X_211 rfl) rfl rfl ?_)
            refine q0 I_211_180 (wi_goto ?_)
            exact Wq_c I_211_51 rfl rfl H
          · replace H := H.2 h
            refine q1 (ls' := [(0, .ref 176), (1, .int x1), (2, .int x2), (4, .int x4), (5, .int x5), (6, .long (x6 + 0)), (10, .long x10), (12, .int x12)]) I_211_150 rfl (wi_ldc2_w 16 rfl ?_)
            refine q0 I_211_153 (wi_goto ?_)
            refine q1 (ls' := [(0, .ref 176), (1, .int x1), (2, .int x2), (4, .int x4), (5, .int x5), (6, .long (x6 + 0)), (10, .long x10), (12, .int x12)]) I_211_157 rfl (wi_lmul ?_)
            refine q0 I_211_158 (wi_lstore [(0, .ref 176), (1, .int x1), (2, .int x2), (4, .int x4), (5, .int x5), (6, .long (x6 + 0)), (8, .long (x8 * 16)), (10, .long x10), (12, .int x12)] (lt_e X_211 rfl) rfl ?_)
            refine q0 I_211_160 (wi_lload _ rfl ?_)
            refine q0 I_211_162 (wi_iload _ rfl ?_)
            refine q0 I_211_164 (wi_iload _ rfl ?_)
            refine q0 I_211_166 (wi_isub ?_)
            refine q0 I_211_167 (wi_i2l ?_)
            refine q0 I_211_168 (wi_lmul ?_)
            refine q0 I_211_169 (wi_iload _ rfl ?_)
            refine q0 I_211_171 (wi_iconst 1 rfl ?_)
            refine q0 I_211_172 (wi_iadd ?_)
            refine q0 I_211_173 (wi_i2l ?_)
            refine q0 I_211_174 (wi_ldiv H.1 ?_)
            replace H := H.2
            refine q0 I_211_175 (wi_lstore [(0, .ref 176), (1, .int x1), (2, .int x2), (4, .int x4), (5, .int x5), (6, .long (x6 + 0)), (8, .long (x8 * 16)), (10, .long ((x10 * ((x5 - x12) : Int32).toInt64) / ((x12 + 1) : Int32).toInt64)), (12, .int x12)] (lt_e X_211 rfl) rfl ?_)
            refine q0 I_211_177 (wi_iinc 1 [(0, .ref 176), (1, .int x1), (2, .int x2), (4, .int x4), (5, .int x5), (6, .long (x6 + 0)), (8, .long (x8 * 16)), (10, .long ((x10 * ((x5 - x12) : Int32).toInt64) / ((x12 + 1) : Int32).toInt64)), (12, .int (x12 + 1))] rfl (lt_e X_211 rfl) rfl rfl ?_)
            refine q0 I_211_180 (wi_goto ?_)
            exact Wq_c I_211_51 rfl rfl H
        · replace H := H.2 h
          refine q1 (ls' := [(0, .ref 176), (1, .int x1), (2, .int x2), (4, .int x4), (5, .int x5), (8, .long x8), (10, .long x10), (12, .int x12), (13, .long x13)]) I_211_132 rfl (wi_lload _ rfl ?_)
          refine q0 I_211_134 (wi_goto ?_)
          refine q1 (ls' := [(0, .ref 176), (1, .int x1), (2, .int x2), (4, .int x4), (5, .int x5), (8, .long x8), (10, .long x10), (12, .int x12)]) I_211_138 rfl (wi_ladd ?_)
          refine q0 I_211_139 (wi_lstore [(0, .ref 176), (1, .int x1), (2, .int x2), (4, .int x4), (5, .int x5), (6, .long (x6 + x13)), (8, .long x8), (10, .long x10), (12, .int x12)] (lt_e X_211 rfl) rfl ?_)
          refine q0 I_211_141 (wi_lload _ rfl ?_)
          refine q0 I_211_143 (wi_iload _ rfl ?_)
          refine q0 I_211_145 (wi_iload _ rfl ?_)
          refine q0 I_211_147 (wi_ic_ge (fun h => ?_) (fun h => ?_))
          · replace H := H.1 h
            refine q1 (ls' := [(0, .ref 176), (1, .int x1), (2, .int x2), (4, .int x4), (5, .int x5), (6, .long (x6 + x13)), (10, .long x10), (12, .int x12)]) I_211_156 rfl (wi_lconst 1 rfl ?_)
            refine q1 (ls' := [(0, .ref 176), (1, .int x1), (2, .int x2), (4, .int x4), (5, .int x5), (6, .long (x6 + x13)), (10, .long x10), (12, .int x12)]) I_211_157 rfl (wi_lmul ?_)
            refine q0 I_211_158 (wi_lstore [(0, .ref 176), (1, .int x1), (2, .int x2), (4, .int x4), (5, .int x5), (6, .long (x6 + x13)), (8, .long (x8 * 1)), (10, .long x10), (12, .int x12)] (lt_e X_211 rfl) rfl ?_)
            refine q0 I_211_160 (wi_lload _ rfl ?_)
            refine q0 I_211_162 (wi_iload _ rfl ?_)
            refine q0 I_211_164 (wi_iload _ rfl ?_)
            refine q0 I_211_166 (wi_isub ?_)
            refine q0 I_211_167 (wi_i2l ?_)
            refine q0 I_211_168 (wi_lmul ?_)
            refine q0 I_211_169 (wi_iload _ rfl ?_)
            refine q0 I_211_171 (wi_iconst 1 rfl ?_)
            refine q0 I_211_172 (wi_iadd ?_)
            refine q0 I_211_173 (wi_i2l ?_)
            refine q0 I_211_174 (wi_ldiv H.1 ?_)
            replace H := H.2
            refine q0 I_211_175 (wi_lstore [(0, .ref 176), (1, .int x1), (2, .int x2), (4, .int x4), (5, .int x5), (6, .long (x6 + x13)), (8, .long (x8 * 1)), (10, .long ((x10 * ((x5 - x12) : Int32).toInt64) / ((x12 + 1) : Int32).toInt64)), (12, .int x12)] (lt_e X_211 rfl) rfl ?_)
            refine q0 I_211_177 (wi_iinc 1 [(0, .ref 176), (1, .int x1), (2, .int x2), (4, .int x4), (5, .int x5), (6, .long (x6 + x13)), (8, .long (x8 * 1)), (10, .long ((x10 * ((x5 - x12) : Int32).toInt64) / ((x12 + 1) : Int32).toInt64)), (12, .int (x12 + 1))] rfl (lt_e X_211 rfl) rfl rfl ?_)
            refine q0 I_211_180 (wi_goto ?_)
            exact Wq_c I_211_51 rfl rfl H
          · replace H := H.2 h
            refine q1 (ls' := [(0, .ref 176), (1, .int x1), (2, .int x2), (4, .int x4), (5, .int x5), (6, .long (x6 + x13)), (10, .long x10), (12, .int x12)]) I_211_150 rfl (wi_ldc2_w 16 rfl ?_)
            refine q0 I_211_153 (wi_goto ?_)
            refine q1 (ls' := [(0, .ref 176), (1, .int x1), (2, .int x2), (4, .int x4), (5, .int x5), (6, .long (x6 + x13)), (10, .long x10), (12, .int x12)]) I_211_157 rfl (wi_lmul ?_)
            refine q0 I_211_158 (wi_lstore [(0, .ref 176), (1, .int x1), (2, .int x2), (4, .int x4), (5, .int x5), (6, .long (x6 + x13)), (8, .long (x8 * 16)), (10, .long x10), (12, .int x12)] (lt_e X_211 rfl) rfl ?_)
            refine q0 I_211_160 (wi_lload _ rfl ?_)
            refine q0 I_211_162 (wi_iload _ rfl ?_)
            refine q0 I_211_164 (wi_iload _ rfl ?_)
            refine q0 I_211_166 (wi_isub ?_)
            refine q0 I_211_167 (wi_i2l ?_)
            refine q0 I_211_168 (wi_lmul ?_)
            refine q0 I_211_169 (wi_iload _ rfl ?_)
            refine q0 I_211_171 (wi_iconst 1 rfl ?_)
            refine q0 I_211_172 (wi_iadd ?_)
            refine q0 I_211_173 (wi_i2l ?_)
            refine q0 I_211_174 (wi_ldiv H.1 ?_)
            replace H := H.2
            refine q0 I_211_175 (wi_lstore [(0, .ref 176), (1, .int x1), (2, .int x2), (4, .int x4), (5, .int x5), (6, .long (x6 + x13)), (8, .long (x8 * 16)), (10, .long ((x10 * ((x5 - x12) : Int32).toInt64) / ((x12 + 1) : Int32).toInt64)), (12, .int x12)] (lt_e X_211 rfl) rfl ?_)
            refine q0 I_211_177 (wi_iinc 1 [(0, .ref 176), (1, .int x1), (2, .int x2), (4, .int x4), (5, .int x5), (6, .long (x6 + x13)), (8, .long (x8 * 16)), (10, .long ((x10 * ((x5 - x12) : Int32).toInt64) / ((x12 + 1) : Int32).toInt64)), (12, .int (x12 + 1))] rfl (lt_e X_211 rfl) rfl rfl ?_)
            refine q0 I_211_180 (wi_goto ?_)
            exact Wq_c I_211_51 rfl rfl H
      · replace H := H.2 h
        refine q1 (ls' := []) I_173_13 rfl (wi_iconst 1 rfl ?_)
        refine q0 I_173_14 (wi_goto ?_)
        refine q1 (ls' := []) I_173_18 rfl (wi_iret T_173 C_173 ⟨_, rfl, ?_⟩)
        refine q0 I_211_127 (wi_imul ?_)
        refine q0 I_211_128 (wi_isub ?_)
        refine q0 I_211_129 (wi_if_le (fun h => ?_) (fun h => ?_))
        · replace H := H.1 h
          refine q1 (ls' := [(0, .ref 176), (1, .int x1), (2, .int x2), (4, .int x4), (5, .int x5), (8, .long x8), (10, .long x10), (12, .int x12)]) I_211_137 rfl (wi_lconst 0 rfl ?_)
          refine q1 (ls' := [(0, .ref 176), (1, .int x1), (2, .int x2), (4, .int x4), (5, .int x5), (8, .long x8), (10, .long x10), (12, .int x12)]) I_211_138 rfl (wi_ladd ?_)
          refine q0 I_211_139 (wi_lstore [(0, .ref 176), (1, .int x1), (2, .int x2), (4, .int x4), (5, .int x5), (6, .long (x6 + 0)), (8, .long x8), (10, .long x10), (12, .int x12)] (lt_e X_211 rfl) rfl ?_)
          refine q0 I_211_141 (wi_lload _ rfl ?_)
          refine q0 I_211_143 (wi_iload _ rfl ?_)
          refine q0 I_211_145 (wi_iload _ rfl ?_)
          refine q0 I_211_147 (wi_ic_ge (fun h => ?_) (fun h => ?_))
          · replace H := H.1 h
            refine q1 (ls' := [(0, .ref 176), (1, .int x1), (2, .int x2), (4, .int x4), (5, .int x5), (6, .long (x6 + 0)), (10, .long x10), (12, .int x12)]) I_211_156 rfl (wi_lconst 1 rfl ?_)
            refine q1 (ls' := [(0, .ref 176), (1, .int x1), (2, .int x2), (4, .int x4), (5, .int x5), (6, .long (x6 + 0)), (10, .long x10), (12, .int x12)]) I_211_157 rfl (wi_lmul ?_)
            refine q0 I_211_158 (wi_lstore [(0, .ref 176), (1, .int x1), (2, .int x2), (4, .int x4), (5, .int x5), (6, .long (x6 + 0)), (8, .long (x8 * 1)), (10, .long x10), (12, .int x12)] (lt_e X_211 rfl) rfl ?_)
            refine q0 I_211_160 (wi_lload _ rfl ?_)
            refine q0 I_211_162 (wi_iload _ rfl ?_)
            refine q0 I_211_164 (wi_iload _ rfl ?_)
            refine q0 I_211_166 (wi_isub ?_)
            refine q0 I_211_167 (wi_i2l ?_)
            refine q0 I_211_168 (wi_lmul ?_)
            refine q0 I_211_169 (wi_iload _ rfl ?_)
            refine q0 I_211_171 (wi_iconst 1 rfl ?_)
            refine q0 I_211_172 (wi_iadd ?_)
            refine q0 I_211_173 (wi_i2l ?_)
            refine q0 I_211_174 (wi_ldiv H.1 ?_)
            replace H := H.2
            refine q0 I_211_175 (wi_lstore [(0, .ref 176), (1, .int x1), (2, .int x2), (4, .int x4), (5, .int x5), (6, .long (x6 + 0)), (8, .long (x8 * 1)), (10, .long ((x10 * ((x5 - x12) : Int32).toInt64) / ((x12 + 1) : Int32).toInt64)), (12, .int x12)] (lt_e X_211 rfl) rfl ?_)
            refine q0 I_211_177 (wi_iinc 1 [(0, .ref 176), (1, .int x1), (2, .int x2), (4, .int x4), (5, .int x5), (6, .long (x6 + 0)), (8, .long (x8 * 1)), (10, .long ((x10 * ((x5 - x12) : Int32).toInt64) / ((x12 + 1) : Int32).toInt64)), (12, .int (x12 + 1))] rfl (lt_e X_211 rfl) rfl rfl ?_)
            refine q0 I_211_180 (wi_goto ?_)
            exact Wq_c I_211_51 rfl rfl H
          · replace H := H.2 h
            refine q1 (ls' := [(0, .ref 176), (1, .int x1), (2, .int x2), (4, .int x4), (5, .int x5), (6, .long (x6 + 0)), (10, .long x10), (12, .int x12)]) I_211_150 rfl (wi_ldc2_w 16 rfl ?_)
            refine q0 I_211_153 (wi_goto ?_)
            refine q1 (ls' := [(0, .ref 176), (1, .int x1), (2, .int x2), (4, .int x4), (5, .int x5), (6, .long (x6 + 0)), (10, .long x10), (12, .int x12)]) I_211_157 rfl (wi_lmul ?_)
            refine q0 I_211_158 (wi_lstore [(0, .ref 176), (1, .int x1), (2, .int x2), (4, .int x4), (5, .int x5), (6, .long (x6 + 0)), (8, .long (x8 * 16)), (10, .long x10), (12, .int x12)] (lt_e X_211 rfl) rfl ?_)
            refine q0 I_211_160 (wi_lload _ rfl ?_)
            refine q0 I_211_162 (wi_iload _ rfl ?_)
            refine q0 I_211_164 (wi_iload _ rfl ?_)
            refine q0 I_211_166 (wi_isub ?_)
            refine q0 I_211_167 (wi_i2l ?_)
            refine q0 I_211_168 (wi_lmul ?_)
            refine q0 I_211_169 (wi_iload _ rfl ?_)
            refine q0 I_211_171 (wi_iconst 1 rfl ?_)
            refine q0 I_211_172 (wi_iadd ?_)
            refine q0 I_211_173 (wi_i2l ?_)
            refine q0 I_211_174 (wi_ldiv H.1 ?_)
            replace H := H.2
            refine q0 I_211_175 (wi_lstore [(0, .ref 176), (1, .int x1), (2, .int x2), (4, .int x4), (5, .int x5), (6, .long (x6 + 0)), (8, .long (x8 * 16)), (10, .long ((x10 * ((x5 - x12) : Int32).toInt64) / ((x12 + 1) : Int32).toInt64)), (12, .int x12)] (lt_e X_211 rfl) rfl ?_)
            refine q0 I_211_177 (wi_iinc 1 [(0, .ref 176), (1, .int x1), (2, .int x2), (4, .int x4), (5, .int x5), (6, .long (x6 + 0)), (8, .long (x8 * 16)), (10, .long ((x10 * ((x5 - x12) : Int32).toInt64) / ((x12 + 1) : Int32).toInt64)), (12, .int (x12 + 1))] rfl (lt_e X_211 rfl) rfl rfl ?_)
            refine q0 I_211_180 (wi_goto ?_)
            exact Wq_c I_211_51 rfl rfl H
        · replace H := H.2 h
          refine q1 (ls' := [(0, .ref 176), (1, .int x1), (2, .int x2), (4, .int x4), (5, .int x5), (8, .long x8), (10, .long x10), (12, .int x12), (13, .long x13)]) I_211_132 rfl (wi_lload _ rfl ?_)
          refine q0 I_211_134 (wi_goto ?_)
          refine q1 (ls' := [(0, .ref 176), (1, .int x1), (2, .int x2), (4, .int x4), (5, .int x5), (8, .long x8), (10, .long x10), (12, .int x12)]) I_211_138 rfl (wi_ladd ?_)
          refine q0 I_211_139 (wi_lstore [(0, .ref 176), (1, .int x1), (2, .int x2), (4, .int x4), (5, .int x5), (6, .long (x6 + x13)), (8, .long x8), (10, .long x10), (12, .int x12)] (lt_e X_211 rfl) rfl ?_)
          refine q0 I_211_141 (wi_lload _ rfl ?_)
          refine q0 I_211_143 (wi_iload _ rfl ?_)
          refine q0 I_211_145 (wi_iload _ rfl ?_)
          refine q0 I_211_147 (wi_ic_ge (fun h => ?_) (fun h => ?_))
          · replace H := H.1 h
            refine q1 (ls' := [(0, .ref 176), (1, .int x1), (2, .int x2), (4, .int x4), (5, .int x5), (6, .long (x6 + x13)), (10, .long x10), (12, .int x12)]) I_211_156 rfl (wi_lconst 1 rfl ?_)
            refine q1 (ls' := [(0, .ref 176), (1, .int x1), (2, .int x2), (4, .int x4), (5, .int x5), (6, .long (x6 + x13)), (10, .long x10), (12, .int x12)]) I_211_157 rfl (wi_lmul ?_)
            refine q0 I_211_158 (wi_lstore [(0, .ref 176), (1, .int x1), (2, .int x2), (4, .int x4), (5, .int x5), (6, .long (x6 + x13)), (8, .long (x8 * 1)), (10, .long x10), (12, .int x12)] (lt_e X_211 rfl) rfl ?_)
            refine q0 I_211_160 (wi_lload _ rfl ?_)
            refine q0 I_211_162 (wi_iload _ rfl ?_)
            refine q0 I_211_164 (wi_iload _ rfl ?_)
            refine q0 I_211_166 (wi_isub ?_)
            refine q0 I_211_167 (wi_i2l ?_)
            refine q0 I_211_168 (wi_lmul ?_)
            refine q0 I_211_169 (wi_iload _ rfl ?_)
            refine q0 I_211_171 (wi_iconst 1 rfl ?_)
            refine q0 I_211_172 (wi_iadd ?_)
            refine q0 I_211_173 (wi_i2l ?_)
            refine q0 I_211_174 (wi_ldiv H.1 ?_)
            replace H := H.2
            refine q0 I_211_175 (wi_lstore [(0, .ref 176), (1, .int x1), (2, .int x2), (4, .int x4), (5, .int x5), (6, .long (x6 + x13)), (8, .long (x8 * 1)), (10, .long ((x10 * ((x5 - x12) : Int32).toInt64) / ((x12 + 1) : Int32).toInt64)), (12, .int x12)] (lt_e X_211 rfl) rfl ?_)
            refine q0 I_211_177 (wi_iinc 1 [(0, .ref 176), (1, .int x1), (2, .int x2), (4, .int x4), (5, .int x5), (6, .long (x6 + x13)), (8, .long (x8 * 1)), (10, .long ((x10 * ((x5 - x12) : Int32).toInt64) / ((x12 + 1) : Int32).toInt64)), (12, .int (x12 + 1))] rfl (lt_e X_211 rfl) rfl rfl ?_)
            refine q0 I_211_180 (wi_goto ?_)
            exact Wq_c I_211_51 rfl rfl H
          · replace H := H.2 h
            refine q1 (ls' := [(0, .ref 176), (1, .int x1), (2, .int x2), (4, .int x4), (5, .int x5), (6, .long (x6 + x13)), (10, .long x10), (12, .int x12)]) I_211_150 rfl (wi_ldc2_w 16 rfl ?_)
            refine q0 I_211_153 (wi_goto ?_)
            refine q1 (ls' := [(0, .ref 176), (1, .int x1), (2, .int x2), (4, .int x4), (5, .int x5), (6, .long (x6 + x13)), (10, .long x10), (12, .int x12)]) I_211_157 rfl (wi_lmul ?_)
            refine q0 I_211_158 (wi_lstore [(0, .ref 176), (1, .int x1), (2, .int x2), (4, .int x4), (5, .int x5), (6, .long (x6 + x13)), (8, .long (x8 * 16)), (10, .long x10), (12, .int x12)] (lt_e X_211 rfl) rfl ?_)
            refine q0 I_211_160 (wi_lload _ rfl ?_)
            refine q0 I_211_162 (wi_iload _ rfl ?_)
            refine q0 I_211_164 (wi_iload _ rfl ?_)
            refine q0 I_211_166 (wi_isub ?_)
            refine q0 I_211_167 (wi_i2l ?_)
            refine q0 I_211_168 (wi_lmul ?_)
            refine q0 I_211_169 (wi_iload _ rfl ?_)
            refine q0 I_211_171 (wi_iconst 1 rfl ?_)
            refine q0 I_211_172 (wi_iadd ?_)
            refine q0 I_211_173 (wi_i2l ?_)
            refine q0 I_211_174 (wi_ldiv H.1 ?_)
            replace H := H.2
            refine q0 I_211_175 (wi_lstore [(0, .ref 176), (1, .int x1), (2, .int x2), (4, .int x4), (5, .int x5), (6, .long (x6 + x13)), (8, .long (x8 * 16)), (10, .long ((x10 * ((x5 - x12) : Int32).toInt64) / ((x12 + 1) : Int32).toInt64)), (12, .int x12)] (lt_e X_211 rfl) rfl ?_)
            refine q0 I_211_177 (wi_iinc 1 [(0, .ref 176), (1, .int x1), (2, .int x2), (4, .int x4), (5, .int x5), (6, .long (x6 + x13)), (8, .long (x8 * 16)), (10, .long ((x10 * ((x5 - x12) : Int32).toInt64) / ((x12 + 1) : Int32).toInt64)), (12, .int (x12 + 1))] rfl (lt_e X_211 rfl) rfl rfl ?_)
            refine q0 I_211_180 (wi_goto ?_)
            exact Wq_c I_211_51 rfl rfl H
    · replace H := H.2 h
      refine q1 (ls' := []) I_173_4 rfl (wi_iconst 2 rfl ?_)
      refine q0 I_173_5 (wi_goto ?_)
      refine q1 (ls' := []) I_173_18 rfl (wi_iret T_173 C_173 ⟨_, rfl, ?_⟩)
      refine q0 I_211_127 (wi_imul ?_)
      refine q0 I_211_128 (wi_isub ?_)
      refine q0 I_211_129 (wi_if_le (fun h => ?_) (fun h => ?_))
      · replace H := H.1 h
        refine q1 (ls' := [(0, .ref 176), (1, .int x1), (2, .int x2), (4, .int x4), (5, .int x5), (8, .long x8), (10, .long x10), (12, .int x12)]) I_211_137 rfl (wi_lconst 0 rfl ?_)
        refine q1 (ls' := [(0, .ref 176), (1, .int x1), (2, .int x2), (4, .int x4), (5, .int x5), (8, .long x8), (10, .long x10), (12, .int x12)]) I_211_138 rfl (wi_ladd ?_)
        refine q0 I_211_139 (wi_lstore [(0, .ref 176), (1, .int x1), (2, .int x2), (4, .int x4), (5, .int x5), (6, .long (x6 + 0)), (8, .long x8), (10, .long x10), (12, .int x12)] (lt_e X_211 rfl) rfl ?_)
        refine q0 I_211_141 (wi_lload _ rfl ?_)
        refine q0 I_211_143 (wi_iload _ rfl ?_)
        refine q0 I_211_145 (wi_iload _ rfl ?_)
        refine q0 I_211_147 (wi_ic_ge (fun h => ?_) (fun h => ?_))
        · replace H := H.1 h
          refine q1 (ls' := [(0, .ref 176), (1, .int x1), (2, .int x2), (4, .int x4), (5, .int x5), (6, .long (x6 + 0)), (10, .long x10), (12, .int x12)]) I_211_156 rfl (wi_lconst 1 rfl ?_)
          refine q1 (ls' := [(0, .ref 176), (1, .int x1), (2, .int x2), (4, .int x4), (5, .int x5), (6, .long (x6 + 0)), (10, .long x10), (12, .int x12)]) I_211_157 rfl (wi_lmul ?_)
          refine q0 I_211_158 (wi_lstore [(0, .ref 176), (1, .int x1), (2, .int x2), (4, .int x4), (5, .int x5), (6, .long (x6 + 0)), (8, .long (x8 * 1)), (10, .long x10), (12, .int x12)] (lt_e X_211 rfl) rfl ?_)
          refine q0 I_211_160 (wi_lload _ rfl ?_)
          refine q0 I_211_162 (wi_iload _ rfl ?_)
          refine q0 I_211_164 (wi_iload _ rfl ?_)
          refine q0 I_211_166 (wi_isub ?_)
          refine q0 I_211_167 (wi_i2l ?_)
          refine q0 I_211_168 (wi_lmul ?_)
          refine q0 I_211_169 (wi_iload _ rfl ?_)
          refine q0 I_211_171 (wi_iconst 1 rfl ?_)
          refine q0 I_211_172 (wi_iadd ?_)
          refine q0 I_211_173 (wi_i2l ?_)
          refine q0 I_211_174 (wi_ldiv H.1 ?_)
          replace H := H.2
          refine q0 I_211_175 (wi_lstore [(0, .ref 176), (1, .int x1), (2, .int x2), (4, .int x4), (5, .int x5), (6, .long (x6 + 0)), (8, .long (x8 * 1)), (10, .long ((x10 * ((x5 - x12) : Int32).toInt64) / ((x12 + 1) : Int32).toInt64)), (12, .int x12)] (lt_e X_211 rfl) rfl ?_)
          refine q0 I_211_177 (wi_iinc 1 [(0, .ref 176), (1, .int x1), (2, .int x2), (4, .int x4), (5, .int x5), (6, .long (x6 + 0)), (8, .long (x8 * 1)), (10, .long ((x10 * ((x5 - x12) : Int32).toInt64) / ((x12 + 1) : Int32).toInt64)), (12, .int (x12 + 1))] rfl (lt_e X_211 rfl) rfl rfl ?_)
          refine q0 I_211_180 (wi_goto ?_)
          exact Wq_c I_211_51 rfl rfl H
        · replace H := H.2 h
          refine q1 (ls' := [(0, .ref 176), (1, .int x1), (2, .int x2), (4, .int x4), (5, .int x5), (6, .long (x6 + 0)), (10, .long x10), (12, .int x12)]) I_211_150 rfl (wi_ldc2_w 16 rfl ?_)
          refine q0 I_211_153 (wi_goto ?_)
          refine q1 (ls' := [(0, .ref 176), (1, .int x1), (2, .int x2), (4, .int x4), (5, .int x5), (6, .long (x6 + 0)), (10, .long x10), (12, .int x12)]) I_211_157 rfl (wi_lmul ?_)
          refine q0 I_211_158 (wi_lstore [(0, .ref 176), (1, .int x1), (2, .int x2), (4, .int x4), (5, .int x5), (6, .long (x6 + 0)), (8, .long (x8 * 16)), (10, .long x10), (12, .int x12)] (lt_e X_211 rfl) rfl ?_)
          refine q0 I_211_160 (wi_lload _ rfl ?_)
          refine q0 I_211_162 (wi_iload _ rfl ?_)
          refine q0 I_211_164 (wi_iload _ rfl ?_)
          refine q0 I_211_166 (wi_isub ?_)
          refine q0 I_211_167 (wi_i2l ?_)
          refine q0 I_211_168 (wi_lmul ?_)
          refine q0 I_211_169 (wi_iload _ rfl ?_)
          refine q0 I_211_171 (wi_iconst 1 rfl ?_)
          refine q0 I_211_172 (wi_iadd ?_)
          refine q0 I_211_173 (wi_i2l ?_)
          refine q0 I_211_174 (wi_ldiv H.1 ?_)
          replace H := H.2
          refine q0 I_211_175 (wi_lstore [(0, .ref 176), (1, .int x1), (2, .int x2), (4, .int x4), (5, .int x5), (6, .long (x6 + 0)), (8, .long (x8 * 16)), (10, .long ((x10 * ((x5 - x12) : Int32).toInt64) / ((x12 + 1) : Int32).toInt64)), (12, .int x12)] (lt_e X_211 rfl) rfl ?_)
          refine q0 I_211_177 (wi_iinc 1 [(0, .ref 176), (1, .int x1), (2, .int x2), (4, .int x4), (5, .int x5), (6, .long (x6 + 0)), (8, .long (x8 * 16)), (10, .long ((x10 * ((x5 - x12) : Int32).toInt64) / ((x12 + 1) : Int32).toInt64)), (12, .int (x12 + 1))] rfl (lt_e X_211 rfl) rfl rfl ?_)
          refine q0 I_211_180 (wi_goto ?_)
          exact Wq_c I_211_51 rfl rfl H
      · replace H := H.2 h
        refine q1 (ls' := [(0, .ref 176), (1, .int x1), (2, .int x2), (4, .int x4), (5, .int x5), (8, .long x8), (10, .long x10), (12, .int x12), (13, .long x13)]) I_211_132 rfl (wi_lload _ rfl ?_)
        refine q0 I_211_134 (wi_goto ?_)
        refine q1 (ls' := [(0, .ref 176), (1, .int x1), (2, .int x2), (4, .int x4), (5, .int x5), (8, .long x8), (10, .long x10), (12, .int x12)]) I_211_138 rfl (wi_ladd ?_)
        refine q0 I_211_139 (wi_lstore [(0, .ref 176), (1, .int x1), (2, .int x2), (4, .int x4), (5, .int x5), (6, .long (x6 + x13)), (8, .long x8), (10, .long x10), (12, .int x12)] (lt_e X_211 rfl) rfl ?_)
        refine q0 I_211_141 (wi_lload _ rfl ?_)
        refine q0 I_211_143 (wi_iload _ rfl ?_)
        refine q0 I_211_145 (wi_iload _ rfl ?_)
        refine q0 I_211_147 (wi_ic_ge (fun h => ?_) (fun h => ?_))
        · replace H := H.1 h
          refine q1 (ls' := [(0, .ref 176), (1, .int x1), (2, .int x2), (4, .int x4), (5, .int x5), (6, .long (x6 + x13)), (10, .long x10), (12, .int x12)]) I_211_156 rfl (wi_lconst 1 rfl ?_)
          refine q1 (ls' := [(0, .ref 176), (1, .int x1), (2, .int x2), (4, .int x4), (5, .int x5), (6, .long (x6 + x13)), (10, .long x10), (12, .int x12)]) I_211_157 rfl (wi_lmul ?_)
          refine q0 I_211_158 (wi_lstore [(0, .ref 176), (1, .int x1), (2, .int x2), (4, .int x4), (5, .int x5), (6, .long (x6 + x13)), (8, .long (x8 * 1)), (10, .long x10), (12, .int x12)] (lt_e X_211 rfl) rfl ?_)
          refine q0 I_211_160 (wi_lload _ rfl ?_)
          refine q0 I_211_162 (wi_iload _ rfl ?_)
          refine q0 I_211_164 (wi_iload _ rfl ?_)
          refine q0 I_211_166 (wi_isub ?_)
          refine q0 I_211_167 (wi_i2l ?_)
          refine q0 I_211_168 (wi_lmul ?_)
          refine q0 I_211_169 (wi_iload _ rfl ?_)
          refine q0 I_211_171 (wi_iconst 1 rfl ?_)
          refine q0 I_211_172 (wi_iadd ?_)
          refine q0 I_211_173 (wi_i2l ?_)
          refine q0 I_211_174 (wi_ldiv H.1 ?_)
          replace H := H.2
          refine q0 I_211_175 (wi_lstore [(0, .ref 176), (1, .int x1), (2, .int x2), (4, .int x4), (5, .int x5), (6, .long (x6 + x13)), (8, .long (x8 * 1)), (10, .long ((x10 * ((x5 - x12) : Int32).toInt64) / ((x12 + 1) : Int32).toInt64)), (12, .int x12)] (lt_e X_211 rfl) rfl ?_)
          refine q0 I_211_177 (wi_iinc 1 [(0, .ref 176), (1, .int x1), (2, .int x2), (4, .int x4), (5, .int x5), (6, .long (x6 + x13)), (8, .long (x8 * 1)), (10, .long ((x10 * ((x5 - x12) : Int32).toInt64) / ((x12 + 1) : Int32).toInt64)), (12, .int (x12 + 1))] rfl (lt_e X_211 rfl) rfl rfl ?_)
          refine q0 I_211_180 (wi_goto ?_)
          exact Wq_c I_211_51 rfl rfl H
        · replace H := H.2 h
          refine q1 (ls' := [(0, .ref 176), (1, .int x1), (2, .int x2), (4, .int x4), (5, .int x5), (6, .long (x6 + x13)), (10, .long x10), (12, .int x12)]) I_211_150 rfl (wi_ldc2_w 16 rfl ?_)
          refine q0 I_211_153 (wi_goto ?_)
          refine q1 (ls' := [(0, .ref 176), (1, .int x1), (2, .int x2), (4, .int x4), (5, .int x5), (6, .long (x6 + x13)), (10, .long x10), (12, .int x12)]) I_211_157 rfl (wi_lmul ?_)
          refine q0 I_211_158 (wi_lstore [(0, .ref 176), (1, .int x1), (2, .int x2), (4, .int x4), (5, .int x5), (6, .long (x6 + x13)), (8, .long (x8 * 16)), (10, .long x10), (12, .int x12)] (lt_e X_211 rfl) rfl ?_)
          refine q0 I_211_160 (wi_lload _ rfl ?_)
          refine q0 I_211_162 (wi_iload _ rfl ?_)
          refine q0 I_211_164 (wi_iload _ rfl ?_)
          refine q0 I_211_166 (wi_isub ?_)
          refine q0 I_211_167 (wi_i2l ?_)
          refine q0 I_211_168 (wi_lmul ?_)
          refine q0 I_211_169 (wi_iload _ rfl ?_)
          refine q0 I_211_171 (wi_iconst 1 rfl ?_)
          refine q0 I_211_172 (wi_iadd ?_)
          refine q0 I_211_173 (wi_i2l ?_)
          refine q0 I_211_174 (wi_ldiv H.1 ?_)
          replace H := H.2
          refine q0 I_211_175 (wi_lstore [(0, .ref 176), (1, .int x1), (2, .int x2), (4, .int x4), (5, .int x5), (6, .long (x6 + x13)), (8, .long (x8 * 16)), (10, .long ((x10 * ((x5 - x12) : Int32).toInt64) / ((x12 + 1) : Int32).toInt64)), (12, .int x12)] (lt_e X_211 rfl) rfl ?_)
          refine q0 I_211_177 (wi_iinc 1 [(0, .ref 176), (1, .int x1), (2, .int x2), (4, .int x4), (5, .int x5), (6, .long (x6 + x13)), (8, .long (x8 * 16)), (10, .long ((x10 * ((x5 - x12) : Int32).toInt64) / ((x12 + 1) : Int32).toInt64)), (12, .int (x12 + 1))] rfl (lt_e X_211 rfl) rfl rfl ?_)
          refine q0 I_211_180 (wi_goto ?_)
          exact Wq_c I_211_51 rfl rfl H
  · replace H := H.2 h
    refine q1 (ls' := [(0, .ref 176), (1, .int x1), (2, .int x2), (4, .int x4), (5, .int x5), (6, .long x6), (8, .long x8), (10, .long x10), (12, .int x12), (13, .long x13), (15, .int x15)]) I_211_72 rfl (wi_lload _ rfl ?_)
    refine q0 I_211_74 (wi_iload _ rfl ?_)
    refine q0 I_211_76 (wi_iload _ rfl ?_)
    refine q0 I_211_78 (wi_ic_ge (fun h => ?_) (fun h => ?_))
    · replace H := H.1 h
      refine q1 (ls' := [(0, .ref 176), (1, .int x1), (2, .int x2), (4, .int x4), (5, .int x5), (6, .long x6), (8, .long x8), (10, .long x10), (12, .int x12), (15, .int x15)]) I_211_86 rfl (wi_bipush 16 rfl ?_)
      refine q0 I_211_88 (wi_iload_n _ rfl ?_)
      refine q0 I_211_89 (wi_isub ?_)
      refine q0 I_211_90 (wi_i2l ?_)
      refine q1 (ls' := [(0, .ref 176), (1, .int x1), (2, .int x2), (4, .int x4), (5, .int x5), (6, .long x6), (8, .long x8), (10, .long x10), (12, .int x12), (15, .int x15)]) I_211_91 rfl (wi_lmul ?_)
      refine q0 I_211_92 (wi_lstore [(0, .ref 176), (1, .int x1), (2, .int x2), (4, .int x4), (5, .int x5), (6, .long x6), (8, .long x8), (10, .long x10), (12, .int x12), (13, .long (x13 * (((16 : Int32) - x1) : Int32).toInt64)), (15, .int x15)] (lt_e X_211 rfl) rfl ?_)
      refine q0 I_211_94 (wi_iinc 1 [(0, .ref 176), (1, .int x1), (2, .int x2), (4, .int x4), (5, .int x5), (6, .long x6), (8, .long x8), (10, .long x10), (12, .int x12), (13, .long (x13 * (((16 : Int32) - x1) : Int32).toInt64)), (15, .int (x15 + 1))] rfl (lt_e X_211 rfl) rfl rfl ?_)
      refine q0 I_211_97 (wi_goto ?_)
      exact Wq_c I_211_65 rfl rfl H
    · replace H := H.2 h
      refine q1 (ls' := [(0, .ref 176), (1, .int x1), (2, .int x2), (4, .int x4), (5, .int x5), (6, .long x6), (8, .long x8), (10, .long x10), (12, .int x12), (15, .int x15)]) I_211_81 rfl (wi_iload_n _ rfl ?_)
      refine q0 I_211_82 (wi_i2l ?_)
      refine q0 I_211_83 (wi_goto ?_)
      refine q1 (ls' := [(0, .ref 176), (1, .int x1), (2, .int x2), (4, .int x4), (5, .int x5), (6, .long x6), (8, .long x8), (10, .long x10), (12, .int x12), (15, .int x15)]) I_211_91 rfl (wi_lmul ?_)
      refine q0 I_211_92 (wi_lstore [(0, .ref 176), (1, .int x1), (2, .int x2), (4, .int x4), (5, .int x5), (6, .long x6), (8, .long x8), (10, .long x10), (12, .int x12), (13, .long (x13 * (x1 : Int32).toInt64)), (15, .int x15)] (lt_e X_211 rfl) rfl ?_)
      refine q0 I_211_94 (wi_iinc 1 [(0, .ref 176), (1, .int x1), (2, .int x2), (4, .int x4), (5, .int x5), (6, .long x6), (8, .long x8), (10, .long x10), (12, .int x12), (13, .long (x13 * (x1 : Int32).toInt64)), (15, .int (x15 + 1))] rfl (lt_e X_211 rfl) rfl rfl ?_)
      refine q0 I_211_97 (wi_goto ?_)
      exact Wq_c I_211_65 rfl rfl H
theorem r_212 {a1 : Int32} {a2 : Int32} {a3 : Int32} {a4 : Int32} {di : tDi} {dl : tDl} {K : Int64 → tDi → tDl → Prop} (H : (ClV 6 163 [.ref 176] di dl (fun di1 dl1 => (((lg_cmp (a1 : Int32).toInt64 0) < 0 → (K (((-9223372036854775808) : Int64) - ((-2) : Int32).toInt64) di1 dl1)) ∧ (0 ≤ (lg_cmp (a1 : Int32).toInt64 0) → ((0 < (lg_cmp (a1 : Int32).toInt64 16) → (K (((-9223372036854775808) : Int64) - ((-2) : Int32).toInt64) di1 dl1)) ∧ ((lg_cmp (a1 : Int32).toInt64 16) ≤ 0 → (((lg_cmp (a2 : Int32).toInt64 0) < 0 → (K (((-9223372036854775808) : Int64) - ((-2) : Int32).toInt64) di1 dl1)) ∧ (0 ≤ (lg_cmp (a2 : Int32).toInt64 0) → ((0 < (lg_cmp (a2 : Int32).toInt64 (((di1 183 1) - 1) : Int32).toInt64) → (K (((-9223372036854775808) : Int64) - ((-2) : Int32).toInt64) di1 dl1)) ∧ ((lg_cmp (a2 : Int32).toInt64 (((di1 183 1) - 1) : Int32).toInt64) ≤ 0 → (((lg_cmp (a3 : Int32).toInt64 0) < 0 → (K (((-9223372036854775808) : Int64) - ((-2) : Int32).toInt64) di1 dl1)) ∧ (0 ≤ (lg_cmp (a3 : Int32).toInt64 0) → ((0 < (lg_cmp (a3 : Int32).toInt64 ((di1 183 2) : Int32).toInt64) → (K (((-9223372036854775808) : Int64) - ((-2) : Int32).toInt64) di1 dl1)) ∧ ((lg_cmp (a3 : Int32).toInt64 ((di1 183 2) : Int32).toInt64) ≤ 0 → ((13 ≤ a3 → (K (((-9223372036854775808) : Int64) - ((-2) : Int32).toInt64) di1 dl1)) ∧ (a3 < 13 → (((lg_cmp (a4 : Int32).toInt64 0) < 0 → (K (((-9223372036854775808) : Int64) - ((-2) : Int32).toInt64) di1 dl1)) ∧ (0 ≤ (lg_cmp (a4 : Int32).toInt64 0) → ((0 < (lg_cmp (a4 : Int32).toInt64 1) → (K (((-9223372036854775808) : Int64) - ((-2) : Int32).toInt64) di1 dl1)) ∧ ((lg_cmp (a4 : Int32).toInt64 1) ≤ 0 → (ClJ 1 211 [.ref 176, .int a1, .int a2, .int a3, .int a4] di1 dl1 (fun r2 di2 dl2 => (K r2 di2 dl2)))))))))))))))))))))))) : ClJ 7 212 [.ref 176, .int a1, .int a2, .int a3, .int a4] di dl K := by
  refine Cl_of C_212 Z_212 [(0, .ref 176), (1, .int a1), (2, .int a2), (3, .int a3), (4, .int a4)] rfl ?_
  refine q0 I_212_0 (wi_aload_n _ rfl ?_)
  refine q0 I_212_1 (wi_virtV (e := 6) [] [] S_176 rfl (by decide) rfl rfl rfl (okC_i rfl rfl rfl) C_163 (by decide) (ClV_mono H ?_))
  intro di1 dl1 H
  refine q0 I_212_4 (wi_iload_n _ rfl ?_)
  refine q0 I_212_5 (wi_i2l ?_)
  refine q0 I_212_6 (wi_lconst 0 rfl ?_)
  refine q0 I_212_7 (wi_ldc2_w 16 rfl ?_)
  refine q0 I_212_10 (wi_statI (e := 6) [.long (a1 : Int32).toInt64, .long 0, .long 16] [] rfl (Or.inl rfl) rfl rfl rfl (okC_i rfl rfl rfl) C_134 (by decide) (Cl_of C_134 Z_134 [(0, .long (a1 : Int32).toInt64), (2, .long 0), (4, .long 16)] rfl ?_))
  refine q0 I_134_0 (wi_lload_n _ rfl ?_)
  refine q0 I_134_1 (wi_lload_n _ rfl ?_)
  refine q0 I_134_2 (wi_lcmp ?_)
  refine q0 I_134_3 (wi_if_lt (fun h => ?_) (fun h => ?_))
  · replace H := H.1 h
    refine q1 (ls' := []) I_134_17 rfl (wi_iconst 0 rfl ?_)
    refine q1 (ls' := []) I_134_18 rfl (wi_zret T_134 (Or.inl C_134) (Or.inl rfl) ⟨_, rfl, ?_⟩)
    refine q0 I_212_13 (wi_ifT rfl ?_)
    refine q1 (ls' := []) I_212_58 rfl (wi_bipush (-2) rfl ?_)
    refine q0 I_212_60 (wi_statJ (e := 6) [.int (-2)] [] rfl (Or.inl rfl) rfl rfl rfl (okC_i rfl rfl rfl) C_135 (by decide) (Cl_of C_135 Z_135 [(0, .int (-2))] rfl ?_))
    refine q0 I_135_0 (wi_ldc2_w (-9223372036854775808) rfl ?_)
    refine q0 I_135_3 (wi_iload_n _ rfl ?_)
    refine q0 I_135_4 (wi_i2l ?_)
    refine q0 I_135_5 (wi_lsub ?_)
    refine q0 I_135_6 (wi_jret T_135 C_135 ⟨_, rfl, ?_⟩)
    exact q1 (ls' := []) I_212_63 rfl (wi_jret T_212 C_212 ⟨_, rfl, H⟩)
  · replace H := H.2 h
    refine q1 (ls' := [(0, .long (a1 : Int32).toInt64), (4, .long 16)]) I_134_6 rfl (wi_lload_n _ rfl ?_)
    refine q0 I_134_7 (wi_lload _ rfl ?_)
    refine q0 I_134_9 (wi_lcmp ?_)
    refine q0 I_134_10 (wi_if_gt (fun h => ?_) (fun h => ?_))
    · replace H := H.1 h
      refine q1 (ls' := []) I_134_17 rfl (wi_iconst 0 rfl ?_)
      refine q1 (ls' := []) I_134_18 rfl (wi_zret T_134 (Or.inl C_134) (Or.inl rfl) ⟨_, rfl, ?_⟩)
      refine q0 I_212_13 (wi_ifT rfl ?_)
      refine q1 (ls' := []) I_212_58 rfl (wi_bipush (-2) rfl ?_)
      refine q0 I_212_60 (wi_statJ (e := 6) [.int (-2)] [] rfl (Or.inl rfl) rfl rfl rfl (okC_i rfl rfl rfl) C_135 (by decide) (Cl_of C_135 Z_135 [(0, .int (-2))] rfl ?_))
      refine q0 I_135_0 (wi_ldc2_w (-9223372036854775808) rfl ?_)
      refine q0 I_135_3 (wi_iload_n _ rfl ?_)
      refine q0 I_135_4 (wi_i2l ?_)
      refine q0 I_135_5 (wi_lsub ?_)
      refine q0 I_135_6 (wi_jret T_135 C_135 ⟨_, rfl, ?_⟩)
      exact q1 (ls' := []) I_212_63 rfl (wi_jret T_212 C_212 ⟨_, rfl, H⟩)
    · replace H := H.2 h
      refine q1 (ls' := []) I_134_13 rfl (wi_iconst 1 rfl ?_)
      refine q0 I_134_14 (wi_goto ?_)
      refine q1 (ls' := []) I_134_18 rfl (wi_zret T_134 (Or.inl C_134) (Or.inr rfl) ⟨_, rfl, ?_⟩)
      refine q0 I_212_13 (wi_ifF rfl ?_)
      refine q1 (ls' := [(0, .ref 176), (1, .int a1), (2, .int a2), (3, .int a3), (4, .int a4)]) I_212_16 rfl (wi_aload_n _ rfl ?_)
      refine q0 I_212_17 (wi_iload_n _ rfl ?_)
      refine q0 I_212_18 (wi_virtI (e := 6) [.int a2] [] S_176 rfl (by decide) rfl rfl rfl (okC_i rfl rfl rfl) C_166 (by decide) (Cl_of C_166 Z_166 [(0, .ref 176), (1, .int a2)] rfl ?_))
      refine q0 I_166_0 (wi_iload_n _ rfl ?_)
      refine q0 I_166_1 (wi_i2l ?_)
      refine q0 I_166_2 (wi_lconst 0 rfl ?_)
      refine q0 I_166_3 (wi_aload_n _ rfl ?_)
      refine q0 I_166_4 (wi_get (.ref 183) S_176 rfl (by decide) rfl ?_)
      refine q0 I_166_7 (wi_iconst 1 rfl ?_)
      refine q0 I_166_8 (wi_iaload 1 S_183 rfl rfl ?_)
      refine q0 I_166_9 (wi_iconst 1 rfl ?_)
      refine q0 I_166_10 (wi_isub ?_)
      refine q0 I_166_11 (wi_i2l ?_)
      refine q0 I_166_12 (wi_statI (e := 5) [.long (a2 : Int32).toInt64, .long 0, .long (((di1 183 1) - 1) : Int32).toInt64] [] rfl (Or.inl rfl) rfl rfl rfl (okC_i rfl rfl rfl) C_134 (by decide) (Cl_of C_134 Z_134 [(0, .long (a2 : Int32).toInt64), (2, .long 0), (4, .long (((di1 183 1) - 1) : Int32).toInt64)] rfl ?_))
      refine q0 I_134_0 (wi_lload_n _ rfl ?_)
      refine q0 I_134_1 (wi_lload_n _ rfl ?_)
      refine q0 I_134_2 (wi_lcmp ?_)
      refine q0 I_134_3 (wi_if_lt (fun h => ?_) (fun h => ?_))
      · replace H := H.1 h
        refine q1 (ls' := []) I_134_17 rfl (wi_iconst 0 rfl ?_)
        refine q1 (ls' := []) I_134_18 rfl (wi_zret T_134 (Or.inl C_134) (Or.inl rfl) ⟨_, rfl, ?_⟩)
        refine q0 I_166_15 (wi_zret T_166 (Or.inl C_166) (Or.inl rfl) ⟨_, rfl, ?_⟩)
        refine q0 I_212_21 (wi_ifT rfl ?_)
        refine q1 (ls' := []) I_212_58 rfl (wi_bipush (-2) rfl ?_)
        refine q0 I_212_60 (wi_statJ (e := 6) [.int (-2)] [] rfl (Or.inl rfl) rfl rfl rfl (okC_i rfl rfl rfl) C_135 (by decide) (Cl_of C_135 Z_135 [(0, .int (-2))] rfl ?_))
        refine q0 I_135_0 (wi_ldc2_w (-9223372036854775808) rfl ?_)
        refine q0 I_135_3 (wi_iload_n _ rfl ?_)
        refine q0 I_135_4 (wi_i2l ?_)
        refine q0 I_135_5 (wi_lsub ?_)
        refine q0 I_135_6 (wi_jret T_135 C_135 ⟨_, rfl, ?_⟩)
        exact q1 (ls' := []) I_212_63 rfl (wi_jret T_212 C_212 ⟨_, rfl, H⟩)
      · replace H := H.2 h
        refine q1 (ls' := [(0, .long (a2 : Int32).toInt64), (4, .long (((di1 183 1) - 1) : Int32).toInt64)]) I_134_6 rfl (wi_lload_n _ rfl ?_)
        refine q0 I_134_7 (wi_lload _ rfl ?_)
        refine q0 I_134_9 (wi_lcmp ?_)
        refine q0 I_134_10 (wi_if_gt (fun h => ?_) (fun h => ?_))
        · replace H := H.1 h
          refine q1 (ls' := []) I_134_17 rfl (wi_iconst 0 rfl ?_)
          refine q1 (ls' := []) I_134_18 rfl (wi_zret T_134 (Or.inl C_134) (Or.inl rfl) ⟨_, rfl, ?_⟩)
          refine q0 I_166_15 (wi_zret T_166 (Or.inl C_166) (Or.inl rfl) ⟨_, rfl, ?_⟩)
          refine q0 I_212_21 (wi_ifT rfl ?_)
          refine q1 (ls' := []) I_212_58 rfl (wi_bipush (-2) rfl ?_)
          refine q0 I_212_60 (wi_statJ (e := 6) [.int (-2)] [] rfl (Or.inl rfl) rfl rfl rfl (okC_i rfl rfl rfl) C_135 (by decide) (Cl_of C_135 Z_135 [(0, .int (-2))] rfl ?_))
          refine q0 I_135_0 (wi_ldc2_w (-9223372036854775808) rfl ?_)
          refine q0 I_135_3 (wi_iload_n _ rfl ?_)
          refine q0 I_135_4 (wi_i2l ?_)
          refine q0 I_135_5 (wi_lsub ?_)
          refine q0 I_135_6 (wi_jret T_135 C_135 ⟨_, rfl, ?_⟩)
          exact q1 (ls' := []) I_212_63 rfl (wi_jret T_212 C_212 ⟨_, rfl, H⟩)
        · replace H := H.2 h
          refine q1 (ls' := []) I_134_13 rfl (wi_iconst 1 rfl ?_)
          refine q0 I_134_14 (wi_goto ?_)
          refine q1 (ls' := []) I_134_18 rfl (wi_zret T_134 (Or.inl C_134) (Or.inr rfl) ⟨_, rfl, ?_⟩)
          refine q0 I_166_15 (wi_zret T_166 (Or.inl C_166) (Or.inr rfl) ⟨_, rfl, ?_⟩)
          refine q0 I_212_21 (wi_ifF rfl ?_)
          refine q1 (ls' := [(0, .ref 176), (1, .int a1), (2, .int a2), (3, .int a3), (4, .int a4)]) I_212_24 rfl (wi_aload_n _ rfl ?_)
          refine q0 I_212_25 (wi_iload_n _ rfl ?_)
          refine q0 I_212_26 (wi_virtI (e := 6) [.int a3] [] S_176 rfl (by decide) rfl rfl rfl (okC_i rfl rfl rfl) C_167 (by decide) (Cl_of C_167 Z_167 [(0, .ref 176), (1, .int a3)] rfl ?_))
          refine q0 I_167_0 (wi_iload_n _ rfl ?_)
          refine q0 I_167_1 (wi_i2l ?_)
          refine q0 I_167_2 (wi_lconst 0 rfl ?_)
          refine q0 I_167_3 (wi_aload_n _ rfl ?_)
          refine q0 I_167_4 (wi_get (.ref 183) S_176 rfl (by decide) rfl ?_)
          refine q0 I_167_7 (wi_iconst 2 rfl ?_)
          refine q0 I_167_8 (wi_iaload 2 S_183 rfl rfl ?_)
          refine q0 I_167_9 (wi_i2l ?_)
          refine q0 I_167_10 (wi_statI (e := 5) [.long (a3 : Int32).toInt64, .long 0, .long ((di1 183 2) : Int32).toInt64] [] rfl (Or.inl rfl) rfl rfl rfl (okC_i rfl rfl rfl) C_134 (by decide) (Cl_of C_134 Z_134 [(0, .long (a3 : Int32).toInt64), (2, .long 0), (4, .long ((di1 183 2) : Int32).toInt64)] rfl ?_))
          refine q0 I_134_0 (wi_lload_n _ rfl ?_)
          refine q0 I_134_1 (wi_lload_n _ rfl ?_)
          refine q0 I_134_2 (wi_lcmp ?_)
          refine q0 I_134_3 (wi_if_lt (fun h => ?_) (fun h => ?_))
          · replace H := H.1 h
            refine q1 (ls' := []) I_134_17 rfl (wi_iconst 0 rfl ?_)
            refine q1 (ls' := []) I_134_18 rfl (wi_zret T_134 (Or.inl C_134) (Or.inl rfl) ⟨_, rfl, ?_⟩)
            refine q0 I_167_13 (wi_zret T_167 (Or.inl C_167) (Or.inl rfl) ⟨_, rfl, ?_⟩)
            refine q0 I_212_29 (wi_ifT rfl ?_)
            refine q1 (ls' := []) I_212_58 rfl (wi_bipush (-2) rfl ?_)
            refine q0 I_212_60 (wi_statJ (e := 6) [.int (-2)] [] rfl (Or.inl rfl) rfl rfl rfl (okC_i rfl rfl rfl) C_135 (by decide) (Cl_of C_135 Z_135 [(0, .int (-2))] rfl ?_))
            refine q0 I_135_0 (wi_ldc2_w (-9223372036854775808) rfl ?_)
            refine q0 I_135_3 (wi_iload_n _ rfl ?_)
            refine q0 I_135_4 (wi_i2l ?_)
            refine q0 I_135_5 (wi_lsub ?_)
            refine q0 I_135_6 (wi_jret T_135 C_135 ⟨_, rfl, ?_⟩)
            exact q1 (ls' := []) I_212_63 rfl (wi_jret T_212 C_212 ⟨_, rfl, H⟩)
          · replace H := H.2 h
            refine q1 (ls' := [(0, .long (a3 : Int32).toInt64), (4, .long ((di1 183 2) : Int32).toInt64)]) I_134_6 rfl (wi_lload_n _ rfl ?_)
            refine q0 I_134_7 (wi_lload _ rfl ?_)
            refine q0 I_134_9 (wi_lcmp ?_)
            refine q0 I_134_10 (wi_if_gt (fun h => ?_) (fun h => ?_))
            · replace H := H.1 h
              refine q1 (ls' := []) I_134_17 rfl (wi_iconst 0 rfl ?_)
              refine q1 (ls' := []) I_134_18 rfl (wi_zret T_134 (Or.inl C_134) (Or.inl rfl) ⟨_, rfl, ?_⟩)
              refine q0 I_167_13 (wi_zret T_167 (Or.inl C_167) (Or.inl rfl) ⟨_, rfl, ?_⟩)
              refine q0 I_212_29 (wi_ifT rfl ?_)
              refine q1 (ls' := []) I_212_58 rfl (wi_bipush (-2) rfl ?_)
              refine q0 I_212_60 (wi_statJ (e := 6) [.int (-2)] [] rfl (Or.inl rfl) rfl rfl rfl (okC_i rfl rfl rfl) C_135 (by decide) (Cl_of C_135 Z_135 [(0, .int (-2))] rfl ?_))
              refine q0 I_135_0 (wi_ldc2_w (-9223372036854775808) rfl ?_)
              refine q0 I_135_3 (wi_iload_n _ rfl ?_)
              refine q0 I_135_4 (wi_i2l ?_)
              refine q0 I_135_5 (wi_lsub ?_)
              refine q0 I_135_6 (wi_jret T_135 C_135 ⟨_, rfl, ?_⟩)
              exact q1 (ls' := []) I_212_63 rfl (wi_jret T_212 C_212 ⟨_, rfl, H⟩)
            · replace H := H.2 h
              refine q1 (ls' := []) I_134_13 rfl (wi_iconst 1 rfl ?_)
              refine q0 I_134_14 (wi_goto ?_)
              refine q1 (ls' := []) I_134_18 rfl (wi_zret T_134 (Or.inl C_134) (Or.inr rfl) ⟨_, rfl, ?_⟩)
              refine q0 I_167_13 (wi_zret T_167 (Or.inl C_167) (Or.inr rfl) ⟨_, rfl, ?_⟩)
              refine q0 I_212_29 (wi_ifF rfl ?_)
              refine q1 (ls' := [(0, .ref 176), (1, .int a1), (2, .int a2), (3, .int a3), (4, .int a4)]) I_212_32 rfl (wi_iload_n _ rfl ?_)
              refine q0 I_212_33 (wi_bipush 13 rfl ?_)
              refine q0 I_212_35 (wi_ic_ge (fun h => ?_) (fun h => ?_))
              · replace H := H.1 h
                refine q1 (ls' := []) I_212_58 rfl (wi_bipush (-2) rfl ?_)
                refine q0 I_212_60 (wi_statJ (e := 6) [.int (-2)] [] rfl (Or.inl rfl) rfl rfl rfl (okC_i rfl rfl rfl) C_135 (by decide) (Cl_of C_135 Z_135 [(0, .int (-2))] rfl ?_))
                refine q0 I_135_0 (wi_ldc2_w (-9223372036854775808) rfl ?_)
                refine q0 I_135_3 (wi_iload_n _ rfl ?_)
                refine q0 I_135_4 (wi_i2l ?_)
                refine q0 I_135_5 (wi_lsub ?_)
                refine q0 I_135_6 (wi_jret T_135 C_135 ⟨_, rfl, ?_⟩)
                exact q1 (ls' := []) I_212_63 rfl (wi_jret T_212 C_212 ⟨_, rfl, H⟩)
              · replace H := H.2 h
                refine q1 (ls' := [(0, .ref 176), (1, .int a1), (2, .int a2), (3, .int a3), (4, .int a4)]) I_212_38 rfl (wi_iload _ rfl ?_)
                refine q0 I_212_40 (wi_statI (e := 6) [.int a4] [] rfl (Or.inl rfl) rfl rfl rfl (okC_i rfl rfl rfl) C_136 (by decide) (Cl_of C_136 Z_136 [(0, .int a4)] rfl ?_))
                refine q0 I_136_0 (wi_iload_n _ rfl ?_)
                refine q0 I_136_1 (wi_i2l ?_)
                refine q0 I_136_2 (wi_lconst 0 rfl ?_)
                refine q0 I_136_3 (wi_lconst 1 rfl ?_)
                refine q0 I_136_4 (wi_statI (e := 5) [.long (a4 : Int32).toInt64, .long 0, .long 1] [] rfl (Or.inl rfl) rfl rfl rfl (okC_i rfl rfl rfl) C_134 (by decide) (Cl_of C_134 Z_134 [(0, .long (a4 : Int32).toInt64), (2, .long 0), (4, .long 1)] rfl ?_))
                refine q0 I_134_0 (wi_lload_n _ rfl ?_)
                refine q0 I_134_1 (wi_lload_n _ rfl ?_)
                refine q0 I_134_2 (wi_lcmp ?_)
                refine q0 I_134_3 (wi_if_lt (fun h => ?_) (fun h => ?_))
                · replace H := H.1 h
                  refine q1 (ls' := []) I_134_17 rfl (wi_iconst 0 rfl ?_)
                  refine q1 (ls' := []) I_134_18 rfl (wi_zret T_134 (Or.inl C_134) (Or.inl rfl) ⟨_, rfl, ?_⟩)
                  refine q0 I_136_7 (wi_zret T_136 (Or.inl C_136) (Or.inl rfl) ⟨_, rfl, ?_⟩)
                  refine q0 I_212_43 (wi_ifT rfl ?_)
                  refine q1 (ls' := []) I_212_58 rfl (wi_bipush (-2) rfl ?_)
                  refine q0 I_212_60 (wi_statJ (e := 6) [.int (-2)] [] rfl (Or.inl rfl) rfl rfl rfl (okC_i rfl rfl rfl) C_135 (by decide) (Cl_of C_135 Z_135 [(0, .int (-2))] rfl ?_))
                  refine q0 I_135_0 (wi_ldc2_w (-9223372036854775808) rfl ?_)
                  refine q0 I_135_3 (wi_iload_n _ rfl ?_)
                  refine q0 I_135_4 (wi_i2l ?_)
                  refine q0 I_135_5 (wi_lsub ?_)
                  refine q0 I_135_6 (wi_jret T_135 C_135 ⟨_, rfl, ?_⟩)
                  exact q1 (ls' := []) I_212_63 rfl (wi_jret T_212 C_212 ⟨_, rfl, H⟩)
                · replace H := H.2 h
                  refine q1 (ls' := [(0, .long (a4 : Int32).toInt64), (4, .long 1)]) I_134_6 rfl (wi_lload_n _ rfl ?_)
                  refine q0 I_134_7 (wi_lload _ rfl ?_)
                  refine q0 I_134_9 (wi_lcmp ?_)
                  refine q0 I_134_10 (wi_if_gt (fun h => ?_) (fun h => ?_))
                  · replace H := H.1 h
                    refine q1 (ls' := []) I_134_17 rfl (wi_iconst 0 rfl ?_)
                    refine q1 (ls' := []) I_134_18 rfl (wi_zret T_134 (Or.inl C_134) (Or.inl rfl) ⟨_, rfl, ?_⟩)
                    refine q0 I_136_7 (wi_zret T_136 (Or.inl C_136) (Or.inl rfl) ⟨_, rfl, ?_⟩)
                    refine q0 I_212_43 (wi_ifT rfl ?_)
                    refine q1 (ls' := []) I_212_58 rfl (wi_bipush (-2) rfl ?_)
                    refine q0 I_212_60 (wi_statJ (e := 6) [.int (-2)] [] rfl (Or.inl rfl) rfl rfl rfl (okC_i rfl rfl rfl) C_135 (by decide) (Cl_of C_135 Z_135 [(0, .int (-2))] rfl ?_))
                    refine q0 I_135_0 (wi_ldc2_w (-9223372036854775808) rfl ?_)
                    refine q0 I_135_3 (wi_iload_n _ rfl ?_)
                    refine q0 I_135_4 (wi_i2l ?_)
                    refine q0 I_135_5 (wi_lsub ?_)
                    refine q0 I_135_6 (wi_jret T_135 C_135 ⟨_, rfl, ?_⟩)
                    exact q1 (ls' := []) I_212_63 rfl (wi_jret T_212 C_212 ⟨_, rfl, H⟩)
                  · replace H := H.2 h
                    refine q1 (ls' := []) I_134_13 rfl (wi_iconst 1 rfl ?_)
                    refine q0 I_134_14 (wi_goto ?_)
                    refine q1 (ls' := []) I_134_18 rfl (wi_zret T_134 (Or.inl C_134) (Or.inr rfl) ⟨_, rfl, ?_⟩)
                    refine q0 I_136_7 (wi_zret T_136 (Or.inl C_136) (Or.inr rfl) ⟨_, rfl, ?_⟩)
                    refine q0 I_212_43 (wi_ifF rfl ?_)
                    refine q1 (ls' := [(0, .ref 176), (1, .int a1), (2, .int a2), (3, .int a3), (4, .int a4)]) I_212_46 rfl (wi_aload_n _ rfl ?_)
                    refine q0 I_212_47 (wi_iload_n _ rfl ?_)
                    refine q0 I_212_48 (wi_iload_n _ rfl ?_)
                    refine q0 I_212_49 (wi_iload_n _ rfl ?_)
                    refine q0 I_212_50 (wi_iload _ rfl ?_)
                    refine q0 I_212_52 (wi_virtJ (e := 1) [.int a1, .int a2, .int a3, .int a4] [] S_176 rfl (by decide) rfl rfl rfl (okC_i rfl rfl rfl) C_211 (by decide) (ClJ_mono H ?_))
                    intro r2 di2 dl2 H
                    refine q0 I_212_55 (wi_goto ?_)
                    exact q1 (ls' := []) I_212_63 rfl (wi_jret T_212 C_212 ⟨_, rfl, H⟩)
theorem r_213 {a1 : Int32} {a2 : Int32} {a3 : Int32} {di : tDi} {dl : tDl} {K : Int32 → tDi → tDl → Prop} (H : (ClV 0 172 [.ref 176] di dl (fun di1 dl1 => (Wq none 4 213 10 [(0, .ref 176), (2, .int a2), (3, .int a3), (4, .int a1), (5, .int 0)] [] di1 dl1 (RI K))))) : ClI 4 213 [.ref 176, .int a1, .int a2, .int a3] di dl K := by
  refine Cl_of C_213 Z_213 [(0, .ref 176), (1, .int a1), (2, .int a2), (3, .int a3)] rfl ?_
  refine q0 I_213_0 (wi_iload_n _ rfl ?_)
  refine q0 I_213_1 (wi_istore [(0, .ref 176), (1, .int a1), (2, .int a2), (3, .int a3), (4, .int a1)] (lt_e X_213 rfl) rfl ?_)
  refine q0 I_213_3 (wi_aload_n _ rfl ?_)
  refine q0 I_213_4 (wi_virtV (e := 0) [] [] S_176 rfl (by decide) rfl rfl rfl (okC_i rfl rfl rfl) C_172 (by decide) (ClV_mono H ?_))
  intro di1 dl1 H
  refine q0 I_213_7 (wi_iconst 0 rfl ?_)
  refine q0 I_213_8 (wi_istore [(0, .ref 176), (1, .int a1), (2, .int a2), (3, .int a3), (4, .int a1), (5, .int 0)] (lt_e X_213 rfl) rfl ?_)
  exact Wq_c I_213_10 rfl rfl H
theorem r_213_10 {x2 : Int32} {x3 : Int32} {x4 : Int32} {x5 : Int32} {di : tDi} {dl : tDl} {K : Int32 → tDi → tDl → Prop} (H : ((x2 ≤ x5 → (ClV 3 178 [.ref 176] di dl (fun di21 dl21 => ((¬ x3 = (-1) → (inB ((3 : Int32) * x3) 24 = true ∧ (K (di21 188 (((3 : Int32) * x3).toNatClampNeg)) di21 dl21))) ∧ (x3 = (-1) → (ClI 0 186 [.ref 176] di21 dl21 (fun r23 di23 dl23 => (ClI 0 138 [.int r23] di23 dl23 (fun r24 di24 dl24 => (K ((di21 183 0) - r24) di24 dl24)))))))))) ∧ (x5 < x2 → (ClV 2 175 [.ref 176, .int ((ushr (((1103515245 : Int32) * x4) + 12345) 16) - (ushr (((1103515245 : Int32) * x4) + 12345) 16) / 5 * 5)] di dl (fun di25 dl25 => (Wq none 4 213 10 [(0, .ref 176), (2, .int x2), (3, .int x3), (4, .int (((1103515245 : Int32) * x4) + 12345)), (5, .int (x5 + 1))] [] di25 dl25 (RI K))))))) : Wq none 4 213 10 [(0, .ref 176), (2, .int x2), (3, .int x3), (4, .int x4), (5, .int x5)] [] di dl (RI K) := by
  refine q1 (ls' := [(0, .ref 176), (2, .int x2), (3, .int x3), (4, .int x4), (5, .int x5)]) I_213_10 rfl (wi_iload _ rfl ?_)
  refine q0 I_213_12 (wi_iload_n _ rfl ?_)
  refine q0 I_213_13 (wi_ic_ge (fun h => ?_) (fun h => ?_))
  · replace H := H.1 h
    refine q1 (ls' := [(0, .ref 176), (3, .int x3)]) I_213_45 rfl (wi_aload_n _ rfl ?_)
    refine q0 I_213_46 (wi_virtV (e := 3) [] [] S_176 rfl (by decide) rfl rfl rfl (okC_i rfl rfl rfl) C_178 (by decide) (ClV_mono H ?_))
    intro di21 dl21 H
    refine q0 I_213_49 (wi_iload_n _ rfl ?_)
    refine q0 I_213_50 (wi_iconst (-1) rfl ?_)
    refine q0 I_213_51 (wi_ic_ne (fun h => ?_) (fun h => ?_))
    · replace H := H.1 h
      refine q1 (ls' := [(0, .ref 176), (3, .int x3)]) I_213_71 rfl (wi_aload_n _ rfl ?_)
      refine q0 I_213_72 (wi_get (.ref 188) S_176 rfl (by decide) rfl ?_)
      refine q0 I_213_75 (wi_iconst 3 rfl ?_)
      refine q0 I_213_76 (wi_iload_n _ rfl ?_)
      refine q0 I_213_77 (wi_imul ?_)
      have hb22 := H.1
      replace H := H.2
      refine q0 I_213_78 (wi_iaload (((3 : Int32) * x3).toNatClampNeg) S_188 hb22 rfl ?_)
      exact q1 (ls' := []) I_213_79 rfl (wi_iret T_213 C_213 ⟨_, rfl, H⟩)
    · replace H := H.2 h
      refine q1 (ls' := [(0, .ref 176)]) I_213_54 rfl (wi_aload_n _ rfl ?_)
      refine q0 I_213_55 (wi_get (.ref 183) S_176 rfl (by decide) rfl ?_)
      refine q0 I_213_58 (wi_iconst 0 rfl ?_)
      refine q0 I_213_59 (wi_iaload 0 S_183 rfl rfl ?_)
      refine q0 I_213_60 (wi_aload_n _ rfl ?_)
      refine q0 I_213_61 (wi_virtI (e := 0) [] [.int (di21 183 0)] S_176 rfl (by decide) rfl rfl rfl (okC_i rfl rfl rfl) C_186 (by decide) (ClI_mono H ?_))
      intro r23 di23 dl23 H
      refine q0 I_213_64 (wi_statI (e := 0) [.int r23] [.int (di21 183 0)] rfl (Or.inl rfl) rfl rfl rfl (okC_i rfl rfl rfl) C_138 (by decide) (ClI_mono H ?_))
      intro r24 di24 dl24 H
      refine q0 I_213_67 (wi_isub ?_)
      refine q0 I_213_68 (wi_goto ?_)
      exact q1 (ls' := []) I_213_79 rfl (wi_iret T_213 C_213 ⟨_, rfl, H⟩)
  · replace H := H.2 h
    refine q1 (ls' := [(0, .ref 176), (2, .int x2), (3, .int x3), (4, .int x4), (5, .int x5)]) I_213_16 rfl (wi_ldc_w 1103515245 rfl ?_)
    refine q0 I_213_19 (wi_iload _ rfl ?_)
    refine q0 I_213_21 (wi_imul ?_)
    refine q0 I_213_22 (wi_sipush 12345 rfl ?_)
    refine q0 I_213_25 (wi_iadd ?_)
    refine q0 I_213_26 (wi_istore [(0, .ref 176), (2, .int x2), (3, .int x3), (4, .int (((1103515245 : Int32) * x4) + 12345)), (5, .int x5)] (lt_e X_213 rfl) rfl ?_)
    refine q0 I_213_28 (wi_aload_n _ rfl ?_)
    refine q0 I_213_29 (wi_iload _ rfl ?_)
    refine q0 I_213_31 (wi_bipush 16 rfl ?_)
    refine q0 I_213_33 (wi_iushr ?_)
    refine q0 I_213_34 (wi_iconst 5 rfl ?_)
    refine q0 I_213_35 (wi_irem (by decide) ?_)
    refine q0 I_213_36 (wi_virtV (e := 2) [.int ((ushr (((1103515245 : Int32) * x4) + 12345) 16) - (ushr (((1103515245 : Int32) * x4) + 12345) 16) / 5 * 5)] [] S_176 rfl (by decide) rfl rfl rfl (okC_i rfl rfl rfl) C_175 (by decide) (ClV_mono H ?_))
    intro di25 dl25 H
    refine q0 I_213_39 (wi_iinc 1 [(0, .ref 176), (2, .int x2), (3, .int x3), (4, .int (((1103515245 : Int32) * x4) + 12345)), (5, .int (x5 + 1))] rfl (lt_e X_213 rfl) rfl rfl ?_)
    refine q0 I_213_42 (wi_goto ?_)
    exact Wq_c I_213_10 rfl rfl H
theorem r_214 {a1 : Int32} {a2 : Int32} {a3 : Int32} {di : tDi} {dl : tDl} {K : Int32 → tDi → tDl → Prop} (H : (ClV 6 163 [.ref 176] di dl (fun di1 dl1 => (((lg_cmp (a2 : Int32).toInt64 1) < 0 → (K (-2) di1 dl1)) ∧ (0 ≤ (lg_cmp (a2 : Int32).toInt64 1) → ((0 < (lg_cmp (a2 : Int32).toInt64 40) → (K (-2) di1 dl1)) ∧ ((lg_cmp (a2 : Int32).toInt64 40) ≤ 0 → ((a3 = (-1) → (ClI 4 213 [.ref 176, .int a1, .int a2, .int a3] di1 dl1 (fun r2 di2 dl2 => (K r2 di2 dl2)))) ∧ (¬ a3 = (-1) → (((lg_cmp (a3 : Int32).toInt64 0) < 0 → (K (-2) di1 dl1)) ∧ (0 ≤ (lg_cmp (a3 : Int32).toInt64 0) → ((0 < (lg_cmp (a3 : Int32).toInt64 (((di1 183 1) - 1) : Int32).toInt64) → (K (-2) di1 dl1)) ∧ ((lg_cmp (a3 : Int32).toInt64 (((di1 183 1) - 1) : Int32).toInt64) ≤ 0 → (ClI 4 213 [.ref 176, .int a1, .int a2, .int a3] di1 dl1 (fun r3 di3 dl3 => (K r3 di3 dl3)))))))))))))))) : ClI 7 214 [.ref 176, .int a1, .int a2, .int a3] di dl K := by
  refine Cl_of C_214 Z_214 [(0, .ref 176), (1, .int a1), (2, .int a2), (3, .int a3)] rfl ?_
  refine q0 I_214_0 (wi_aload_n _ rfl ?_)
  refine q0 I_214_1 (wi_virtV (e := 6) [] [] S_176 rfl (by decide) rfl rfl rfl (okC_i rfl rfl rfl) C_163 (by decide) (ClV_mono H ?_))
  intro di1 dl1 H
  refine q0 I_214_4 (wi_iload_n _ rfl ?_)
  refine q0 I_214_5 (wi_i2l ?_)
  refine q0 I_214_6 (wi_lconst 1 rfl ?_)
  refine q0 I_214_7 (wi_ldc2_w 40 rfl ?_)
  refine q0 I_214_10 (wi_statI (e := 6) [.long (a2 : Int32).toInt64, .long 1, .long 40] [] rfl (Or.inl rfl) rfl rfl rfl (okC_i rfl rfl rfl) C_134 (by decide) (Cl_of C_134 Z_134 [(0, .long (a2 : Int32).toInt64), (2, .long 1), (4, .long 40)] rfl ?_))
  refine q0 I_134_0 (wi_lload_n _ rfl ?_)
  refine q0 I_134_1 (wi_lload_n _ rfl ?_)
  refine q0 I_134_2 (wi_lcmp ?_)
  refine q0 I_134_3 (wi_if_lt (fun h => ?_) (fun h => ?_))
  · replace H := H.1 h
    refine q1 (ls' := []) I_134_17 rfl (wi_iconst 0 rfl ?_)
    refine q1 (ls' := []) I_134_18 rfl (wi_zret T_134 (Or.inl C_134) (Or.inl rfl) ⟨_, rfl, ?_⟩)
    refine q0 I_214_13 (wi_ifT rfl ?_)
    refine q1 (ls' := []) I_214_39 rfl (wi_bipush (-2) rfl ?_)
    exact q1 (ls' := []) I_214_41 rfl (wi_iret T_214 C_214 ⟨_, rfl, H⟩)
  · replace H := H.2 h
    refine q1 (ls' := [(0, .long (a2 : Int32).toInt64), (4, .long 40)]) I_134_6 rfl (wi_lload_n _ rfl ?_)
    refine q0 I_134_7 (wi_lload _ rfl ?_)
    refine q0 I_134_9 (wi_lcmp ?_)
    refine q0 I_134_10 (wi_if_gt (fun h => ?_) (fun h => ?_))
    · replace H := H.1 h
      refine q1 (ls' := []) I_134_17 rfl (wi_iconst 0 rfl ?_)
      refine q1 (ls' := []) I_134_18 rfl (wi_zret T_134 (Or.inl C_134) (Or.inl rfl) ⟨_, rfl, ?_⟩)
      refine q0 I_214_13 (wi_ifT rfl ?_)
      refine q1 (ls' := []) I_214_39 rfl (wi_bipush (-2) rfl ?_)
      exact q1 (ls' := []) I_214_41 rfl (wi_iret T_214 C_214 ⟨_, rfl, H⟩)
    · replace H := H.2 h
      refine q1 (ls' := []) I_134_13 rfl (wi_iconst 1 rfl ?_)
      refine q0 I_134_14 (wi_goto ?_)
      refine q1 (ls' := []) I_134_18 rfl (wi_zret T_134 (Or.inl C_134) (Or.inr rfl) ⟨_, rfl, ?_⟩)
      refine q0 I_214_13 (wi_ifF rfl ?_)
      refine q1 (ls' := [(0, .ref 176), (1, .int a1), (2, .int a2), (3, .int a3)]) I_214_16 rfl (wi_iload_n _ rfl ?_)
      refine q0 I_214_17 (wi_iconst (-1) rfl ?_)
      refine q0 I_214_18 (wi_ic_eq (fun h => ?_) (fun h => ?_))
      · replace H := H.1 h
        refine q1 (ls' := [(0, .ref 176), (1, .int a1), (2, .int a2), (3, .int a3)]) I_214_29 rfl (wi_aload_n _ rfl ?_)
        refine q0 I_214_30 (wi_iload_n _ rfl ?_)
        refine q0 I_214_31 (wi_iload_n _ rfl ?_)
        refine q0 I_214_32 (wi_iload_n _ rfl ?_)
        refine q0 I_214_33 (wi_virtI (e := 4) [.int a1, .int a2, .int a3] [] S_176 rfl (by decide) rfl rfl rfl (okC_i rfl rfl rfl) C_213 (by decide) (ClI_mono H ?_))
        intro r2 di2 dl2 H
        refine q0 I_214_36 (wi_goto ?_)
        exact q1 (ls' := []) I_214_41 rfl (wi_iret T_214 C_214 ⟨_, rfl, H⟩)
      · replace H := H.2 h
        refine q1 (ls' := [(0, .ref 176), (1, .int a1), (2, .int a2), (3, .int a3)]) I_214_21 rfl (wi_aload_n _ rfl ?_)
        refine q0 I_214_22 (wi_iload_n _ rfl ?_)
        refine q0 I_214_23 (wi_virtI (e := 6) [.int a3] [] S_176 rfl (by decide) rfl rfl rfl (okC_i rfl rfl rfl) C_166 (by decide) (Cl_of C_166 Z_166 [(0, .ref 176), (1, .int a3)] rfl ?_))
        refine q0 I_166_0 (wi_iload_n _ rfl ?_)
        refine q0 I_166_1 (wi_i2l ?_)
        refine q0 I_166_2 (wi_lconst 0 rfl ?_)
        refine q0 I_166_3 (wi_aload_n _ rfl ?_)
        refine q0 I_166_4 (wi_get (.ref 183) S_176 rfl (by decide) rfl ?_)
        refine q0 I_166_7 (wi_iconst 1 rfl ?_)
        refine q0 I_166_8 (wi_iaload 1 S_183 rfl rfl ?_)
        refine q0 I_166_9 (wi_iconst 1 rfl ?_)
        refine q0 I_166_10 (wi_isub ?_)
        refine q0 I_166_11 (wi_i2l ?_)
        refine q0 I_166_12 (wi_statI (e := 5) [.long (a3 : Int32).toInt64, .long 0, .long (((di1 183 1) - 1) : Int32).toInt64] [] rfl (Or.inl rfl) rfl rfl rfl (okC_i rfl rfl rfl) C_134 (by decide) (Cl_of C_134 Z_134 [(0, .long (a3 : Int32).toInt64), (2, .long 0), (4, .long (((di1 183 1) - 1) : Int32).toInt64)] rfl ?_))
        refine q0 I_134_0 (wi_lload_n _ rfl ?_)
        refine q0 I_134_1 (wi_lload_n _ rfl ?_)
        refine q0 I_134_2 (wi_lcmp ?_)
        refine q0 I_134_3 (wi_if_lt (fun h => ?_) (fun h => ?_))
        · replace H := H.1 h
          refine q1 (ls' := []) I_134_17 rfl (wi_iconst 0 rfl ?_)
          refine q1 (ls' := []) I_134_18 rfl (wi_zret T_134 (Or.inl C_134) (Or.inl rfl) ⟨_, rfl, ?_⟩)
          refine q0 I_166_15 (wi_zret T_166 (Or.inl C_166) (Or.inl rfl) ⟨_, rfl, ?_⟩)
          refine q0 I_214_26 (wi_ifT rfl ?_)
          refine q1 (ls' := []) I_214_39 rfl (wi_bipush (-2) rfl ?_)
          exact q1 (ls' := []) I_214_41 rfl (wi_iret T_214 C_214 ⟨_, rfl, H⟩)
        · replace H := H.2 h
          refine q1 (ls' := [(0, .long (a3 : Int32).toInt64), (4, .long (((di1 183 1) - 1) : Int32).toInt64)]) I_134_6 rfl (wi_lload_n _ rfl ?_)
          refine q0 I_134_7 (wi_lload _ rfl ?_)
          refine q0 I_134_9 (wi_lcmp ?_)
          refine q0 I_134_10 (wi_if_gt (fun h => ?_) (fun h => ?_))
          · replace H := H.1 h
            refine q1 (ls' := []) I_134_17 rfl (wi_iconst 0 rfl ?_)
            refine q1 (ls' := []) I_134_18 rfl (wi_zret T_134 (Or.inl C_134) (Or.inl rfl) ⟨_, rfl, ?_⟩)
            refine q0 I_166_15 (wi_zret T_166 (Or.inl C_166) (Or.inl rfl) ⟨_, rfl, ?_⟩)
            refine q0 I_214_26 (wi_ifT rfl ?_)
            refine q1 (ls' := []) I_214_39 rfl (wi_bipush (-2) rfl ?_)
            exact q1 (ls' := []) I_214_41 rfl (wi_iret T_214 C_214 ⟨_, rfl, H⟩)
          · replace H := H.2 h
            refine q1 (ls' := []) I_134_13 rfl (wi_iconst 1 rfl ?_)
            refine q0 I_134_14 (wi_goto ?_)
            refine q1 (ls' := []) I_134_18 rfl (wi_zret T_134 (Or.inl C_134) (Or.inr rfl) ⟨_, rfl, ?_⟩)
            refine q0 I_166_15 (wi_zret T_166 (Or.inl C_166) (Or.inr rfl) ⟨_, rfl, ?_⟩)
            refine q0 I_214_26 (wi_ifF rfl ?_)
            refine q1 (ls' := [(0, .ref 176), (1, .int a1), (2, .int a2), (3, .int a3)]) I_214_29 rfl (wi_aload_n _ rfl ?_)
            refine q0 I_214_30 (wi_iload_n _ rfl ?_)
            refine q0 I_214_31 (wi_iload_n _ rfl ?_)
            refine q0 I_214_32 (wi_iload_n _ rfl ?_)
            refine q0 I_214_33 (wi_virtI (e := 4) [.int a1, .int a2, .int a3] [] S_176 rfl (by decide) rfl rfl rfl (okC_i rfl rfl rfl) C_213 (by decide) (ClI_mono H ?_))
            intro r3 di3 dl3 H
            refine q0 I_214_36 (wi_goto ?_)
            exact q1 (ls' := []) I_214_41 rfl (wi_iret T_214 C_214 ⟨_, rfl, H⟩)
theorem r_215 {a1 : Int32} {a2 : Int32} {di : tDi} {dl : tDl} {K : Int32 → tDi → tDl → Prop} (H : (ClV 6 163 [.ref 176] di dl (fun di1 dl1 => (((lg_cmp (a1 : Int32).toInt64 0) < 0 → (K (-2) di1 dl1)) ∧ (0 ≤ (lg_cmp (a1 : Int32).toInt64 0) → ((0 < (lg_cmp (a1 : Int32).toInt64 ((di1 183 2) : Int32).toInt64) → (K (-2) di1 dl1)) ∧ ((lg_cmp (a1 : Int32).toInt64 ((di1 183 2) : Int32).toInt64) ≤ 0 → (((lg_cmp (a2 : Int32).toInt64 0) < 0 → (K (-2) di1 dl1)) ∧ (0 ≤ (lg_cmp (a2 : Int32).toInt64 0) → ((0 < (lg_cmp (a2 : Int32).toInt64 3) → (K (-2) di1 dl1)) ∧ ((lg_cmp (a2 : Int32).toInt64 3) ≤ 0 → (inB a2 4 = true ∧ ((0 ≤ (di1 177 (a2.toNatClampNeg)) → (ClV 4 179 [.ref 176, .int a1] di1 dl1 (fun di3 dl3 => (((di3 183 0) ≤ (di3 178 (a2.toNatClampNeg)) → (Wq none 7 215 61 [(0, .ref 176), (2, .int a2), (3, .int (di3 183 0)), (4, .int 0)] [] di3 dl3 (RI K))) ∧ ((di3 178 (a2.toNatClampNeg)) < (di3 183 0) → (Wq none 7 215 61 [(0, .ref 176), (2, .int a2), (3, .int (di3 178 (a2.toNatClampNeg))), (4, .int 0)] [] di3 dl3 (RI K))))))) ∧ ((di1 177 (a2.toNatClampNeg)) < 0 → (K (((-10) : Int32) - 1) (up2 di1 176 4 1) dl1))))))))))))))) : ClI 7 215 [.ref 176, .int a1, .int a2] di dl K := by
  refine Cl_of C_215 Z_215 [(0, .ref 176), (1, .int a1), (2, .int a2)] rfl ?_
  refine q0 I_215_0 (wi_aload_n _ rfl ?_)
  refine q0 I_215_1 (wi_virtV (e := 6) [] [] S_176 rfl (by decide) rfl rfl rfl (okC_i rfl rfl rfl) C_163 (by decide) (ClV_mono H ?_))
  intro di1 dl1 H
  refine q0 I_215_4 (wi_aload_n _ rfl ?_)
  refine q0 I_215_5 (wi_iload_n _ rfl ?_)
  refine q0 I_215_6 (wi_virtI (e := 6) [.int a1] [] S_176 rfl (by decide) rfl rfl rfl (okC_i rfl rfl rfl) C_167 (by decide) (Cl_of C_167 Z_167 [(0, .ref 176), (1, .int a1)] rfl ?_))
  refine q0 I_167_0 (wi_iload_n _ rfl ?_)
  refine q0 I_167_1 (wi_i2l ?_)
  refine q0 I_167_2 (wi_lconst 0 rfl ?_)
  refine q0 I_167_3 (wi_aload_n _ rfl ?_)
  refine q0 I_167_4 (wi_get (.ref 183) S_176 rfl (by decide) rfl ?_)
  refine q0 I_167_7 (wi_iconst 2 rfl ?_)
  refine q0 I_167_8 (wi_iaload 2 S_183 rfl rfl ?_)
  refine q0 I_167_9 (wi_i2l ?_)
  refine q0 I_167_10 (wi_statI (e := 5) [.long (a1 : Int32).toInt64, .long 0, .long ((di1 183 2) : Int32).toInt64] [] rfl (Or.inl rfl) rfl rfl rfl (okC_i rfl rfl rfl) C_134 (by decide) (Cl_of C_134 Z_134 [(0, .long (a1 : Int32).toInt64), (2, .long 0), (4, .long ((di1 183 2) : Int32).toInt64)] rfl ?_))
  refine q0 I_134_0 (wi_lload_n _ rfl ?_)
  refine q0 I_134_1 (wi_lload_n _ rfl ?_)
  refine q0 I_134_2 (wi_lcmp ?_)
  refine q0 I_134_3 (wi_if_lt (fun h => ?_) (fun h => ?_))
  · replace H := H.1 h
    refine q1 (ls' := []) I_134_17 rfl (wi_iconst 0 rfl ?_)
    refine q1 (ls' := []) I_134_18 rfl (wi_zret T_134 (Or.inl C_134) (Or.inl rfl) ⟨_, rfl, ?_⟩)
    refine q0 I_167_13 (wi_zret T_167 (Or.inl C_167) (Or.inl rfl) ⟨_, rfl, ?_⟩)
    refine q0 I_215_9 (wi_ifT rfl ?_)
    refine q1 (ls' := []) I_215_19 rfl (wi_bipush (-2) rfl ?_)
    exact q0 I_215_21 (wi_iret T_215 C_215 ⟨_, rfl, H⟩)
  · replace H := H.2 h
    refine q1 (ls' := [(0, .long (a1 : Int32).toInt64), (4, .long ((di1 183 2) : Int32).toInt64)]) I_134_6 rfl (wi_lload_n _ rfl ?_)
    refine q0 I_134_7 (wi_lload _ rfl ?_)
    refine q0 I_134_9 (wi_lcmp ?_)
    refine q0 I_134_10 (wi_if_gt (fun h => ?_) (fun h => ?_))
    · replace H := H.1 h
      refine q1 (ls' := []) I_134_17 rfl (wi_iconst 0 rfl ?_)
      refine q1 (ls' := []) I_134_18 rfl (wi_zret T_134 (Or.inl C_134) (Or.inl rfl) ⟨_, rfl, ?_⟩)
      refine q0 I_167_13 (wi_zret T_167 (Or.inl C_167) (Or.inl rfl) ⟨_, rfl, ?_⟩)
      refine q0 I_215_9 (wi_ifT rfl ?_)
      refine q1 (ls' := []) I_215_19 rfl (wi_bipush (-2) rfl ?_)
      exact q0 I_215_21 (wi_iret T_215 C_215 ⟨_, rfl, H⟩)
    · replace H := H.2 h
      refine q1 (ls' := []) I_134_13 rfl (wi_iconst 1 rfl ?_)
      refine q0 I_134_14 (wi_goto ?_)
      refine q1 (ls' := []) I_134_18 rfl (wi_zret T_134 (Or.inl C_134) (Or.inr rfl) ⟨_, rfl, ?_⟩)
      refine q0 I_167_13 (wi_zret T_167 (Or.inl C_167) (Or.inr rfl) ⟨_, rfl, ?_⟩)
      refine q0 I_215_9 (wi_ifF rfl ?_)
      refine q1 (ls' := [(0, .ref 176), (1, .int a1), (2, .int a2)]) I_215_12 rfl (wi_iload_n _ rfl ?_)
      refine q0 I_215_13 (wi_statI (e := 6) [.int a2] [] rfl (Or.inl rfl) rfl rfl rfl (okC_i rfl rfl rfl) C_143 (by decide) (Cl_of C_143 Z_143 [(0, .int a2)] rfl ?_))
      refine q0 I_143_0 (wi_iload_n _ rfl ?_)
      refine q0 I_143_1 (wi_i2l ?_)
      refine q0 I_143_2 (wi_lconst 0 rfl ?_)
      refine q0 I_143_3 (wi_ldc2_w 3 rfl ?_)
      refine q0 I_143_6 (wi_statI (e := 5) [.long (a2 : Int32).toInt64, .long 0, .long 3] [] rfl (Or.inl rfl) rfl rfl rfl (okC_i rfl rfl rfl) C_134 (by decide) (Cl_of C_134 Z_134 [(0, .long (a2 : Int32).toInt64), (2, .long 0), (4, .long 3)] rfl ?_))
      refine q0 I_134_0 (wi_lload_n _ rfl ?_)
      refine q0 I_134_1 (wi_lload_n _ rfl ?_)
      refine q0 I_134_2 (wi_lcmp ?_)
      refine q0 I_134_3 (wi_if_lt (fun h => ?_) (fun h => ?_))
      · replace H := H.1 h
        refine q1 (ls' := []) I_134_17 rfl (wi_iconst 0 rfl ?_)
        refine q1 (ls' := []) I_134_18 rfl (wi_zret T_134 (Or.inl C_134) (Or.inl rfl) ⟨_, rfl, ?_⟩)
        refine q0 I_143_9 (wi_zret T_143 (Or.inl C_143) (Or.inl rfl) ⟨_, rfl, ?_⟩)
        refine q0 I_215_16 (wi_ifF rfl ?_)
        refine q1 (ls' := []) I_215_19 rfl (wi_bipush (-2) rfl ?_)
        exact q0 I_215_21 (wi_iret T_215 C_215 ⟨_, rfl, H⟩)
      · replace H := H.2 h
        refine q1 (ls' := [(0, .long (a2 : Int32).toInt64), (4, .long 3)]) I_134_6 rfl (wi_lload_n _ rfl ?_)
        refine q0 I_134_7 (wi_lload _ rfl ?_)
        refine q0 I_134_9 (wi_lcmp ?_)
        refine q0 I_134_10 (wi_if_gt (fun h => ?_) (fun h => ?_))
        · replace H := H.1 h
          refine q1 (ls' := []) I_134_17 rfl (wi_iconst 0 rfl ?_)
          refine q1 (ls' := []) I_134_18 rfl (wi_zret T_134 (Or.inl C_134) (Or.inl rfl) ⟨_, rfl, ?_⟩)
          refine q0 I_143_9 (wi_zret T_143 (Or.inl C_143) (Or.inl rfl) ⟨_, rfl, ?_⟩)
          refine q0 I_215_16 (wi_ifF rfl ?_)
          refine q1 (ls' := []) I_215_19 rfl (wi_bipush (-2) rfl ?_)
          exact q0 I_215_21 (wi_iret T_215 C_215 ⟨_, rfl, H⟩)
        · replace H := H.2 h
          refine q1 (ls' := []) I_134_13 rfl (wi_iconst 1 rfl ?_)
          refine q0 I_134_14 (wi_goto ?_)
          refine q1 (ls' := []) I_134_18 rfl (wi_zret T_134 (Or.inl C_134) (Or.inr rfl) ⟨_, rfl, ?_⟩)
          refine q0 I_143_9 (wi_zret T_143 (Or.inl C_143) (Or.inr rfl) ⟨_, rfl, ?_⟩)
          refine q0 I_215_16 (wi_ifT rfl ?_)
          refine q1 (ls' := [(0, .ref 176), (1, .int a1), (2, .int a2)]) I_215_22 rfl (wi_aload_n _ rfl ?_)
          refine q0 I_215_23 (wi_get (.ref 177) S_176 rfl (by decide) rfl ?_)
          refine q0 I_215_26 (wi_iload_n _ rfl ?_)
          have hb2 := H.1
          replace H := H.2
          refine q0 I_215_27 (wi_iaload (a2.toNatClampNeg) S_177 hb2 rfl ?_)
          refine q0 I_215_28 (wi_if_ge (fun h => ?_) (fun h => ?_))
          · replace H := H.1 h
            refine q1 (ls' := [(0, .ref 176), (1, .int a1), (2, .int a2)]) I_215_37 rfl (wi_aload_n _ rfl ?_)
            refine q0 I_215_38 (wi_iload_n _ rfl ?_)
            refine q0 I_215_39 (wi_virtV (e := 4) [.int a1] [] S_176 rfl (by decide) rfl rfl rfl (okC_i rfl rfl rfl) C_179 (by decide) (ClV_mono H ?_))
            intro di3 dl3 H
            refine q0 I_215_42 (wi_aload_n _ rfl ?_)
            refine q0 I_215_43 (wi_get (.ref 178) S_176 rfl (by decide) rfl ?_)
            refine q0 I_215_46 (wi_iload_n _ rfl ?_)
            refine q0 I_215_47 (wi_iaload (a2.toNatClampNeg) S_178 hb2 rfl ?_)
            refine q0 I_215_48 (wi_aload_n _ rfl ?_)
            refine q0 I_215_49 (wi_get (.ref 183) S_176 rfl (by decide) rfl ?_)
            refine q0 I_215_52 (wi_iconst 0 rfl ?_)
            refine q0 I_215_53 (wi_iaload 0 S_183 rfl rfl ?_)
            refine q0 I_215_54 (wi_statI (e := 6) [.int (di3 178 (a2.toNatClampNeg)), .int (di3 183 0)] [] rfl (Or.inl rfl) rfl rfl rfl (okC_i rfl rfl rfl) C_139 (by decide) (Cl_of C_139 Z_139 [(0, .int (di3 178 (a2.toNatClampNeg))), (1, .int (di3 183 0))] rfl ?_))
            refine q0 I_139_0 (wi_iload_n _ rfl ?_)
            refine q0 I_139_1 (wi_iload_n _ rfl ?_)
            refine q0 I_139_2 (wi_ic_ge (fun h => ?_) (fun h => ?_))
            · replace H := H.1 h
              refine q1 (ls' := [(1, .int (di3 183 0))]) I_139_9 rfl (wi_iload_n _ rfl ?_)
              refine q1 (ls' := []) I_139_10 rfl (wi_iret T_139 C_139 ⟨_, rfl, ?_⟩)
              refine q0 I_215_57 (wi_istore_n [(0, .ref 176), (1, .int a1), (2, .int a2), (3, .int (di3 183 0))] (lt_e X_215 rfl) rfl ?_)
              refine q0 I_215_58 (wi_iconst 0 rfl ?_)
              refine q0 I_215_59 (wi_istore [(0, .ref 176), (1, .int a1), (2, .int a2), (3, .int (di3 183 0)), (4, .int 0)] (lt_e X_215 rfl) rfl ?_)
              exact Wq_c I_215_61 rfl rfl H
            · replace H := H.2 h
              refine q1 (ls' := [(0, .int (di3 178 (a2.toNatClampNeg)))]) I_139_5 rfl (wi_iload_n _ rfl ?_)
              refine q0 I_139_6 (wi_goto ?_)
              refine q1 (ls' := []) I_139_10 rfl (wi_iret T_139 C_139 ⟨_, rfl, ?_⟩)
              refine q0 I_215_57 (wi_istore_n [(0, .ref 176), (1, .int a1), (2, .int a2), (3, .int (di3 178 (a2.toNatClampNeg)))] (lt_e X_215 rfl) rfl ?_)
              refine q0 I_215_58 (wi_iconst 0 rfl ?_)
              refine q0 I_215_59 (wi_istore [(0, .ref 176), (1, .int a1), (2, .int a2), (3, .int (di3 178 (a2.toNatClampNeg))), (4, .int 0)] (lt_e X_215 rfl) rfl ?_)
              exact Wq_c I_215_61 rfl rfl H
          · replace H := H.2 h
            refine q1 (ls' := [(0, .ref 176)]) I_215_31 rfl (wi_aload_n _ rfl ?_)
            refine q0 I_215_32 (wi_iconst 1 rfl ?_)
            refine q0 I_215_33 (wi_virtI (e := 6) [.int 1] [] S_176 rfl (by decide) rfl rfl rfl (okC_i rfl rfl rfl) C_142 (by decide) (Cl_of C_142 Z_142 [(0, .ref 176), (1, .int 1)] rfl ?_))
            refine q0 I_142_0 (wi_aload_n _ rfl ?_)
            refine q0 I_142_1 (wi_iload_n _ rfl ?_)
            refine q0 I_142_2 (wi_putI S_176 rfl (by decide) rfl rfl rfl ?_)
            refine q0 I_142_5 (wi_bipush (-10) rfl ?_)
            refine q0 I_142_7 (wi_iload_n _ rfl ?_)
            refine q0 I_142_8 (wi_isub ?_)
            refine q0 I_142_9 (wi_iret T_142 C_142 ⟨_, rfl, ?_⟩)
            exact q0 I_215_36 (wi_iret T_215 C_215 ⟨_, rfl, H⟩)
theorem r_215_61 {x2 : Int32} {x3 : Int32} {x4 : Int32} {di : tDi} {dl : tDl} {K : Int32 → tDi → tDl → Prop} (H : ((x3 ≤ x4 → (K x3 di dl)) ∧ (x4 < x3 → (inB x2 4 = true ∧ (inB x4 8 = true ∧ ((¬ (di 177 (x2.toNatClampNeg)) = 0 → ((¬ (di 177 (x2.toNatClampNeg)) = 1 → (inB (((60 : Int32) * x2) + x4) 240 = true ∧ (Wq none 7 215 61 [(0, .ref 176), (2, .int x2), (3, .int x3), (4, .int (x4 + 1))] [] (up2 di 179 ((((60 : Int32) * x2) + x4).toNatClampNeg) (di 189 (x4.toNatClampNeg))) dl (RI K)))) ∧ ((di 177 (x2.toNatClampNeg)) = 1 → (inB (((60 : Int32) * x2) + x4) 240 = true ∧ (Wq none 7 215 61 [(0, .ref 176), (2, .int x2), (3, .int x3), (4, .int (x4 + 1))] [] (up2 di 179 ((((60 : Int32) * x2) + x4).toNatClampNeg) ((di 189 (x4.toNatClampNeg))).toInt16.toInt32) dl (RI K)))))) ∧ ((di 177 (x2.toNatClampNeg)) = 0 → (inB (((60 : Int32) * x2) + x4) 240 = true ∧ (Wq none 7 215 61 [(0, .ref 176), (2, .int x2), (3, .int x3), (4, .int (x4 + 1))] [] (up2 di 179 ((((60 : Int32) * x2) + x4).toNatClampNeg) ((di 189 (x4.toNatClampNeg))).toInt8.toInt32) dl (RI K)))))))))) : Wq none 7 215 61 [(0, .ref 176), (2, .int x2), (3, .int x3), (4, .int x4)] [] di dl (RI K) := by
  refine q1 (ls' := [(0, .ref 176), (2, .int x2), (3, .int x3), (4, .int x4)]) I_215_61 rfl (wi_iload _ rfl ?_)
  refine q0 I_215_63 (wi_iload_n _ rfl ?_)
  refine q0 I_215_64 (wi_ic_ge (fun h => ?_) (fun h => ?_))
  · replace H := H.1 h
    refine q1 (ls' := [(3, .int x3)]) I_215_101 rfl (wi_iload_n _ rfl ?_)
    exact q0 I_215_102 (wi_iret T_215 C_215 ⟨_, rfl, H⟩)
  · replace H := H.2 h
    refine q1 (ls' := [(0, .ref 176), (2, .int x2), (3, .int x3), (4, .int x4)]) I_215_67 rfl (wi_aload_n _ rfl ?_)
    refine q0 I_215_68 (wi_get (.ref 179) S_176 rfl (by decide) rfl ?_)
    refine q0 I_215_71 (wi_bipush 60 rfl ?_)
    refine q0 I_215_73 (wi_iload_n _ rfl ?_)
    refine q0 I_215_74 (wi_imul ?_)
    refine q0 I_215_75 (wi_iload _ rfl ?_)
    refine q0 I_215_77 (wi_iadd ?_)
    refine q0 I_215_78 (wi_aload_n _ rfl ?_)
    refine q0 I_215_79 (wi_get (.ref 177) S_176 rfl (by decide) rfl ?_)
    refine q0 I_215_82 (wi_iload_n _ rfl ?_)
    have hb21 := H.1
    replace H := H.2
    refine q0 I_215_83 (wi_iaload (x2.toNatClampNeg) S_177 hb21 rfl ?_)
    refine q0 I_215_84 (wi_aload_n _ rfl ?_)
    refine q0 I_215_85 (wi_get (.ref 189) S_176 rfl (by decide) rfl ?_)
    refine q0 I_215_88 (wi_iload _ rfl ?_)
    have hb22 := H.1
    replace H := H.2
    refine q0 I_215_90 (wi_iaload (x4.toNatClampNeg) S_189 hb22 rfl ?_)
    refine q0 I_215_91 (wi_statI (e := 6) [.int (di 177 (x2.toNatClampNeg)), .int (di 189 (x4.toNatClampNeg))] [.int (((60 : Int32) * x2) + x4), .ref 179] rfl (Or.inl rfl) rfl rfl rfl (okC_i rfl rfl rfl) C_147 (by decide) (Cl_of C_147 Z_147 [(0, .int (di 177 (x2.toNatClampNeg))), (1, .int (di 189 (x4.toNatClampNeg)))] rfl ?_))
    refine q0 I_147_0 (wi_iload_n _ rfl ?_)
    refine q0 I_147_1 (wi_if_ne (fun h => ?_) (fun h => ?_))
    · replace H := H.1 h
      refine q1 (ls' := [(0, .int (di 177 (x2.toNatClampNeg))), (1, .int (di 189 (x4.toNatClampNeg)))]) I_147_9 rfl (wi_iload_n _ rfl ?_)
      refine q0 I_147_10 (wi_iconst 1 rfl ?_)
      refine q0 I_147_11 (wi_ic_ne (fun h => ?_) (fun h => ?_))
      · replace H := H.1 h
        refine q1 (ls' := [(1, .int (di 189 (x4.toNatClampNeg)))]) I_147_19 rfl (wi_iload_n _ rfl ?_)
        refine q1 (ls' := []) I_147_20 rfl (wi_iret T_147 C_147 ⟨_, rfl, ?_⟩)
        have hb23 := H.1
        replace H := H.2
        refine q0 I_215_94 (wi_iastore ((((60 : Int32) * x2) + x4).toNatClampNeg) S_179 hb23 rfl ?_)
        refine q0 I_215_95 (wi_iinc 1 [(0, .ref 176), (2, .int x2), (3, .int x3), (4, .int (x4 + 1))] rfl (lt_e X_215 rfl) rfl rfl ?_)
        refine q0 I_215_98 (wi_goto ?_)
        exact Wq_c I_215_61 rfl rfl H
      · replace H := H.2 h
        refine q1 (ls' := [(1, .int (di 189 (x4.toNatClampNeg)))]) I_147_14 rfl (wi_iload_n _ rfl ?_)
        refine q0 I_147_15 (wi_i2s ?_)
        refine q0 I_147_16 (wi_goto ?_)
        refine q1 (ls' := []) I_147_20 rfl (wi_iret T_147 C_147 ⟨_, rfl, ?_⟩)
        have hb24 := H.1
        replace H := H.2
        refine q0 I_215_94 (wi_iastore ((((60 : Int32) * x2) + x4).toNatClampNeg) S_179 hb24 rfl ?_)
        refine q0 I_215_95 (wi_iinc 1 [(0, .ref 176), (2, .int x2), (3, .int x3), (4, .int (x4 + 1))] rfl (lt_e X_215 rfl) rfl rfl ?_)
        refine q0 I_215_98 (wi_goto ?_)
        exact Wq_c I_215_61 rfl rfl H
    · replace H := H.2 h
      refine q1 (ls' := [(1, .int (di 189 (x4.toNatClampNeg)))]) I_147_4 rfl (wi_iload_n _ rfl ?_)
      refine q0 I_147_5 (wi_i2b ?_)
      refine q0 I_147_6 (wi_goto ?_)
      refine q1 (ls' := []) I_147_20 rfl (wi_iret T_147 C_147 ⟨_, rfl, ?_⟩)
      have hb25 := H.1
      replace H := H.2
      refine q0 I_215_94 (wi_iastore ((((60 : Int32) * x2) + x4).toNatClampNeg) S_179 hb25 rfl ?_)
      refine q0 I_215_95 (wi_iinc 1 [(0, .ref 176), (2, .int x2), (3, .int x3), (4, .int (x4 + 1))] rfl (lt_e X_215 rfl) rfl rfl ?_)
      refine q0 I_215_98 (wi_goto ?_)
      exact Wq_c I_215_61 rfl rfl H
theorem r_216 {a1 : Int32} {di : tDi} {dl : tDl} {K : Int32 → tDi → tDl → Prop} (H : (ClV 6 163 [.ref 176] di dl (fun di1 dl1 => ((a1 = 0 → (inB a1 3 = true ∧ (K (di1 183 (a1.toNatClampNeg)) di1 dl1))) ∧ (¬ a1 = 0 → ((a1 = 1 → (inB a1 3 = true ∧ (K (di1 183 (a1.toNatClampNeg)) di1 dl1))) ∧ (¬ a1 = 1 → ((a1 = 2 → (inB a1 3 = true ∧ (K (di1 183 (a1.toNatClampNeg)) di1 dl1))) ∧ (¬ a1 = 2 → ((a1 = 3 → (inB (a1 - 3) 3 = true ∧ (K (di1 182 ((a1 - 3).toNatClampNeg)) di1 dl1))) ∧ (¬ a1 = 3 → ((a1 = 4 → (inB (a1 - 3) 3 = true ∧ (K (di1 182 ((a1 - 3).toNatClampNeg)) di1 dl1))) ∧ (¬ a1 = 4 → ((a1 = 5 → (inB (a1 - 3) 3 = true ∧ (K (di1 182 ((a1 - 3).toNatClampNeg)) di1 dl1))) ∧ (¬ a1 = 5 → ((a1 = 6 → (K (di1 187 0) di1 dl1)) ∧ (¬ a1 = 6 → ((a1 = 7 → (K (di1 176 18) di1 dl1)) ∧ (¬ a1 = 7 → ((a1 = 8 → (K (di1 176 4) di1 dl1)) ∧ (¬ a1 = 8 → (K (-2) di1 dl1)))))))))))))))))))))) : ClI 7 216 [.ref 176, .int a1] di dl K := by
  refine Cl_of C_216 Z_216 [(0, .ref 176), (1, .int a1)] rfl ?_
  refine q0 I_216_0 (wi_aload_n _ rfl ?_)
  refine q0 I_216_1 (wi_virtV (e := 6) [] [] S_176 rfl (by decide) rfl rfl rfl (okC_i rfl rfl rfl) C_163 (by decide) (ClV_mono H ?_))
  intro di1 dl1 H
  refine q0 I_216_4 (wi_iload_n _ rfl ?_)
  refine q0 I_216_5 (wi_tsw ?_)
  refine sw_cons 0 rfl ⟨fun h => ?_, fun h => ?_⟩
  · replace H := H.1 h
    refine q1 (ls' := [(0, .ref 176), (1, .int a1)]) I_216_56 rfl (wi_aload_n _ rfl ?_)
    refine q0 I_216_57 (wi_get (.ref 183) S_176 rfl (by decide) rfl ?_)
    refine q0 I_216_60 (wi_iload_n _ rfl ?_)
    have hb2 := H.1
    replace H := H.2
    refine q0 I_216_61 (wi_iaload (a1.toNatClampNeg) S_183 hb2 rfl ?_)
    exact q0 I_216_62 (wi_iret T_216 C_216 ⟨_, rfl, H⟩)
  · replace H := H.2 h
    refine sw_cons 1 rfl ⟨fun h => ?_, fun h => ?_⟩
    · replace H := H.1 h
      refine q1 (ls' := [(0, .ref 176), (1, .int a1)]) I_216_56 rfl (wi_aload_n _ rfl ?_)
      refine q0 I_216_57 (wi_get (.ref 183) S_176 rfl (by decide) rfl ?_)
      refine q0 I_216_60 (wi_iload_n _ rfl ?_)
      have hb3 := H.1
      replace H := H.2
      refine q0 I_216_61 (wi_iaload (a1.toNatClampNeg) S_183 hb3 rfl ?_)
      exact q0 I_216_62 (wi_iret T_216 C_216 ⟨_, rfl, H⟩)
    · replace H := H.2 h
      refine sw_cons 2 rfl ⟨fun h => ?_, fun h => ?_⟩
      · replace H := H.1 h
        refine q1 (ls' := [(0, .ref 176), (1, .int a1)]) I_216_56 rfl (wi_aload_n _ rfl ?_)
        refine q0 I_216_57 (wi_get (.ref 183) S_176 rfl (by decide) rfl ?_)
        refine q0 I_216_60 (wi_iload_n _ rfl ?_)
        have hb4 := H.1
        replace H := H.2
        refine q0 I_216_61 (wi_iaload (a1.toNatClampNeg) S_183 hb4 rfl ?_)
        exact q0 I_216_62 (wi_iret T_216 C_216 ⟨_, rfl, H⟩)
      · replace H := H.2 h
        refine sw_cons 3 rfl ⟨fun h => ?_, fun h => ?_⟩
        · replace H := H.1 h
          refine q1 (ls' := [(0, .ref 176), (1, .int a1)]) I_216_63 rfl (wi_aload_n _ rfl ?_)
          refine q0 I_216_64 (wi_get (.ref 182) S_176 rfl (by decide) rfl ?_)
          refine q0 I_216_67 (wi_iload_n _ rfl ?_)
          refine q0 I_216_68 (wi_iconst 3 rfl ?_)
          refine q0 I_216_69 (wi_isub ?_)
          have hb5 := H.1
          replace H := H.2
          refine q0 I_216_70 (wi_iaload ((a1 - 3).toNatClampNeg) S_182 hb5 rfl ?_)
          exact q0 I_216_71 (wi_iret T_216 C_216 ⟨_, rfl, H⟩)
        · replace H := H.2 h
          refine sw_cons 4 rfl ⟨fun h => ?_, fun h => ?_⟩
          · replace H := H.1 h
            refine q1 (ls' := [(0, .ref 176), (1, .int a1)]) I_216_63 rfl (wi_aload_n _ rfl ?_)
            refine q0 I_216_64 (wi_get (.ref 182) S_176 rfl (by decide) rfl ?_)
            refine q0 I_216_67 (wi_iload_n _ rfl ?_)
            refine q0 I_216_68 (wi_iconst 3 rfl ?_)
            refine q0 I_216_69 (wi_isub ?_)
            have hb6 := H.1
            replace H := H.2
            refine q0 I_216_70 (wi_iaload ((a1 - 3).toNatClampNeg) S_182 hb6 rfl ?_)
            exact q0 I_216_71 (wi_iret T_216 C_216 ⟨_, rfl, H⟩)
          · replace H := H.2 h
            refine sw_cons 5 rfl ⟨fun h => ?_, fun h => ?_⟩
            · replace H := H.1 h
              refine q1 (ls' := [(0, .ref 176), (1, .int a1)]) I_216_63 rfl (wi_aload_n _ rfl ?_)
              refine q0 I_216_64 (wi_get (.ref 182) S_176 rfl (by decide) rfl ?_)
              refine q0 I_216_67 (wi_iload_n _ rfl ?_)
              refine q0 I_216_68 (wi_iconst 3 rfl ?_)
              refine q0 I_216_69 (wi_isub ?_)
              have hb7 := H.1
              replace H := H.2
              refine q0 I_216_70 (wi_iaload ((a1 - 3).toNatClampNeg) S_182 hb7 rfl ?_)
              exact q0 I_216_71 (wi_iret T_216 C_216 ⟨_, rfl, H⟩)
            · replace H := H.2 h
              refine sw_cons 6 rfl ⟨fun h => ?_, fun h => ?_⟩
              · replace H := H.1 h
                refine q1 (ls' := [(0, .ref 176)]) I_216_72 rfl (wi_aload_n _ rfl ?_)
                refine q0 I_216_73 (wi_get (.ref 187) S_176 rfl (by decide) rfl ?_)
                refine q0 I_216_76 (wi_iconst 0 rfl ?_)
                refine q0 I_216_77 (wi_iaload 0 S_187 rfl rfl ?_)
                exact q0 I_216_78 (wi_iret T_216 C_216 ⟨_, rfl, H⟩)
              · replace H := H.2 h
                refine sw_cons 7 rfl ⟨fun h => ?_, fun h => ?_⟩
                · replace H := H.1 h
                  refine q1 (ls' := [(0, .ref 176)]) I_216_79 rfl (wi_aload_n _ rfl ?_)
                  refine q0 I_216_80 (wi_getI S_176 rfl (by decide) rfl ?_)
                  exact q0 I_216_83 (wi_iret T_216 C_216 ⟨_, rfl, H⟩)
                · replace H := H.2 h
                  refine sw_cons 8 rfl ⟨fun h => ?_, fun h => ?_⟩
                  · replace H := H.1 h
                    refine q1 (ls' := [(0, .ref 176)]) I_216_84 rfl (wi_aload_n _ rfl ?_)
                    refine q0 I_216_85 (wi_getI S_176 rfl (by decide) rfl ?_)
                    exact q0 I_216_88 (wi_iret T_216 C_216 ⟨_, rfl, H⟩)
                  · replace H := H.2 h
                    refine sw_nil ?_
                    refine q1 (ls' := []) I_216_89 rfl (wi_bipush (-2) rfl ?_)
                    exact q0 I_216_91 (wi_iret T_216 C_216 ⟨_, rfl, H⟩)
theorem r_217 {a1 : Int64} {a2 : Int32} {di : tDi} {dl : tDl} {K : Int64 → tDi → tDl → Prop} (H : (Wq none 6 217 6 [(0, .ref 176), (3, .int a2), (4, .long a1), (6, .int 0)] [] di dl (RJ K))) : ClJ 6 217 [.ref 176, .long a1, .int a2] di dl K := by
  refine Cl_of C_217 Z_217 [(0, .ref 176), (1, .long a1), (3, .int a2)] rfl ?_
  refine q0 I_217_0 (wi_lload_n _ rfl ?_)
  refine q0 I_217_1 (wi_lstore [(0, .ref 176), (1, .long a1), (3, .int a2), (4, .long a1)] (lt_e X_217 rfl) rfl ?_)
  refine q0 I_217_3 (wi_iconst 0 rfl ?_)
  refine q0 I_217_4 (wi_istore [(0, .ref 176), (1, .long a1), (3, .int a2), (4, .long a1), (6, .int 0)] (lt_e X_217 rfl) rfl ?_)
  exact Wq_c I_217_6 rfl rfl H
theorem r_217_6 {x3 : Int32} {x4 : Int64} {x6 : Int32} {di : tDi} {dl : tDl} {K : Int64 → tDi → tDl → Prop} (H : (((di 183 0) ≤ x6 → (Wq none 6 217 43 [(0, .ref 176), (3, .int x3), (4, .long x4), (6, .int 0)] [] di dl (RJ K))) ∧ (x6 < (di 183 0) → (ClI 5 184 [.ref 176, .int x3, .int x6] di dl (fun r21 di21 dl21 => (Wq none 6 217 6 [(0, .ref 176), (3, .int x3), (4, .long (((31 : Int64) * x4) + (r21 : Int32).toInt64)), (6, .int (x6 + 1))] [] di21 dl21 (RJ K))))))) : Wq none 6 217 6 [(0, .ref 176), (3, .int x3), (4, .long x4), (6, .int x6)] [] di dl (RJ K) := by
  refine q1 (ls' := [(0, .ref 176), (3, .int x3), (4, .long x4), (6, .int x6)]) I_217_6 rfl (wi_iload _ rfl ?_)
  refine q0 I_217_8 (wi_aload_n _ rfl ?_)
  refine q0 I_217_9 (wi_get (.ref 183) S_176 rfl (by decide) rfl ?_)
  refine q0 I_217_12 (wi_iconst 0 rfl ?_)
  refine q0 I_217_13 (wi_iaload 0 S_183 rfl rfl ?_)
  refine q0 I_217_14 (wi_ic_ge (fun h => ?_) (fun h => ?_))
  · replace H := H.1 h
    refine q1 (ls' := [(0, .ref 176), (3, .int x3), (4, .long x4)]) I_217_40 rfl (wi_iconst 0 rfl ?_)
    refine q0 I_217_41 (wi_istore [(0, .ref 176), (3, .int x3), (4, .long x4), (6, .int 0)] (lt_e X_217 rfl) rfl ?_)
    exact Wq_c I_217_43 rfl rfl H
  · replace H := H.2 h
    refine q1 (ls' := [(0, .ref 176), (3, .int x3), (4, .long x4), (6, .int x6)]) I_217_17 rfl (wi_ldc2_w 31 rfl ?_)
    refine q0 I_217_20 (wi_lload _ rfl ?_)
    refine q0 I_217_22 (wi_lmul ?_)
    refine q0 I_217_23 (wi_aload_n _ rfl ?_)
    refine q0 I_217_24 (wi_iload_n _ rfl ?_)
    refine q0 I_217_25 (wi_iload _ rfl ?_)
    refine q0 I_217_27 (wi_virtI (e := 5) [.int x3, .int x6] [.long ((31 : Int64) * x4)] S_176 rfl (by decide) rfl rfl rfl (okC_i rfl rfl rfl) C_184 (by decide) (ClI_mono H ?_))
    intro r21 di21 dl21 H
    refine q0 I_217_30 (wi_i2l ?_)
    refine q0 I_217_31 (wi_ladd ?_)
    refine q0 I_217_32 (wi_lstore [(0, .ref 176), (3, .int x3), (4, .long (((31 : Int64) * x4) + (r21 : Int32).toInt64)), (6, .int x6)] (lt_e X_217 rfl) rfl ?_)
    refine q0 I_217_34 (wi_iinc 1 [(0, .ref 176), (3, .int x3), (4, .long (((31 : Int64) * x4) + (r21 : Int32).toInt64)), (6, .int (x6 + 1))] rfl (lt_e X_217 rfl) rfl rfl ?_)
    refine q0 I_217_37 (wi_goto ?_)
    exact Wq_c I_217_6 rfl rfl H
theorem r_217_43 {x3 : Int32} {x4 : Int64} {x6 : Int32} {di : tDi} {dl : tDl} {K : Int64 → tDi → tDl → Prop} (H : (((di 183 1) ≤ x6 → (ClI 5 187 [.ref 176, .int x3, .int 0] di dl (fun r21 di21 dl21 => (ClI 5 187 [.ref 176, .int x3, .int 1] di21 dl21 (fun r22 di22 dl22 => (ClI 5 193 [.ref 176, .int x3, .int (-1)] di22 dl22 (fun r23 di23 dl23 => (ClI 5 193 [.ref 176, .int x3, .int 0] di23 dl23 (fun r24 di24 dl24 => (ClI 5 198 [.ref 176, .int x3, .int 60] di24 dl24 (fun r25 di25 dl25 => (K (((31 : Int64) * (((31 : Int64) * (((31 : Int64) * (((31 : Int64) * (((31 : Int64) * x4) + (r21 : Int32).toInt64)) + (r22 : Int32).toInt64)) + (r23 : Int32).toInt64)) + (r24 : Int32).toInt64)) + (r25 : Int32).toInt64) di25 dl25)))))))))))) ∧ (x6 < (di 183 1) → (Wq none 6 217 57 [(0, .ref 176), (3, .int x3), (4, .long x4), (6, .int x6), (7, .int 0)] [] di dl (RJ K))))) : Wq none 6 217 43 [(0, .ref 176), (3, .int x3), (4, .long x4), (6, .int x6)] [] di dl (RJ K) := by
  refine q1 (ls' := [(0, .ref 176), (3, .int x3), (4, .long x4), (6, .int x6)]) I_217_43 rfl (wi_iload _ rfl ?_)
  refine q0 I_217_45 (wi_aload_n _ rfl ?_)
  refine q0 I_217_46 (wi_get (.ref 183) S_176 rfl (by decide) rfl ?_)
  refine q0 I_217_49 (wi_iconst 1 rfl ?_)
  refine q0 I_217_50 (wi_iaload 1 S_183 rfl rfl ?_)
  refine q0 I_217_51 (wi_ic_ge (fun h => ?_) (fun h => ?_))
  · replace H := H.1 h
    refine q1 (ls' := [(0, .ref 176), (3, .int x3), (4, .long x4)]) I_217_111 rfl (wi_ldc2_w 31 rfl ?_)
    refine q0 I_217_114 (wi_lload _ rfl ?_)
    refine q0 I_217_116 (wi_lmul ?_)
    refine q0 I_217_117 (wi_aload_n _ rfl ?_)
    refine q0 I_217_118 (wi_iload_n _ rfl ?_)
    refine q0 I_217_119 (wi_iconst 0 rfl ?_)
    refine q0 I_217_120 (wi_virtI (e := 5) [.int x3, .int 0] [.long ((31 : Int64) * x4)] S_176 rfl (by decide) rfl rfl rfl (okC_i rfl rfl rfl) C_187 (by decide) (ClI_mono H ?_))
    intro r21 di21 dl21 H
    refine q0 I_217_123 (wi_i2l ?_)
    refine q0 I_217_124 (wi_ladd ?_)
    refine q0 I_217_125 (wi_lstore [(0, .ref 176), (3, .int x3), (4, .long (((31 : Int64) * x4) + (r21 : Int32).toInt64))] (lt_e X_217 rfl) rfl ?_)
    refine q0 I_217_127 (wi_ldc2_w 31 rfl ?_)
    refine q0 I_217_130 (wi_lload _ rfl ?_)
    refine q0 I_217_132 (wi_lmul ?_)
    refine q0 I_217_133 (wi_aload_n _ rfl ?_)
    refine q0 I_217_134 (wi_iload_n _ rfl ?_)
    refine q0 I_217_135 (wi_iconst 1 rfl ?_)
    refine q0 I_217_136 (wi_virtI (e := 5) [.int x3, .int 1] [.long ((31 : Int64) * (((31 : Int64) * x4) + (r21 : Int32).toInt64))] S_176 rfl (by decide) rfl rfl rfl (okC_i rfl rfl rfl) C_187 (by decide) (ClI_mono H ?_))
    intro r22 di22 dl22 H
    refine q0 I_217_139 (wi_i2l ?_)
    refine q0 I_217_140 (wi_ladd ?_)
    refine q0 I_217_141 (wi_lstore [(0, .ref 176), (3, .int x3), (4, .long (((31 : Int64) * (((31 : Int64) * x4) + (r21 : Int32).toInt64)) + (r22 : Int32).toInt64))] (lt_e X_217 rfl) rfl ?_)
    refine q0 I_217_143 (wi_ldc2_w 31 rfl ?_)
    refine q0 I_217_146 (wi_lload _ rfl ?_)
    refine q0 I_217_148 (wi_lmul ?_)
    refine q0 I_217_149 (wi_aload_n _ rfl ?_)
    refine q0 I_217_150 (wi_iload_n _ rfl ?_)
    refine q0 I_217_151 (wi_iconst (-1) rfl ?_)
    refine q0 I_217_152 (wi_virtI (e := 5) [.int x3, .int (-1)] [.long ((31 : Int64) * (((31 : Int64) * (((31 : Int64) * x4) + (r21 : Int32).toInt64)) + (r22 : Int32).toInt64))] S_176 rfl (by decide) rfl rfl rfl (okC_i rfl rfl rfl) C_193 (by decide) (ClI_mono H ?_))
    intro r23 di23 dl23 H
    refine q0 I_217_155 (wi_i2l ?_)
    refine q0 I_217_156 (wi_ladd ?_)
    refine q0 I_217_157 (wi_lstore [(0, .ref 176), (3, .int x3), (4, .long (((31 : Int64) * (((31 : Int64) * (((31 : Int64) * x4) + (r21 : Int32).toInt64)) + (r22 : Int32).toInt64)) + (r23 : Int32).toInt64))] (lt_e X_217 rfl) rfl ?_)
    refine q0 I_217_159 (wi_ldc2_w 31 rfl ?_)
    refine q0 I_217_162 (wi_lload _ rfl ?_)
    refine q0 I_217_164 (wi_lmul ?_)
    refine q0 I_217_165 (wi_aload_n _ rfl ?_)
    refine q0 I_217_166 (wi_iload_n _ rfl ?_)
    refine q0 I_217_167 (wi_iconst 0 rfl ?_)
    refine q0 I_217_168 (wi_virtI (e := 5) [.int x3, .int 0] [.long ((31 : Int64) * (((31 : Int64) * (((31 : Int64) * (((31 : Int64) * x4) + (r21 : Int32).toInt64)) + (r22 : Int32).toInt64)) + (r23 : Int32).toInt64))] S_176 rfl (by decide) rfl rfl rfl (okC_i rfl rfl rfl) C_193 (by decide) (ClI_mono H ?_))
    intro r24 di24 dl24 H
    refine q0 I_217_171 (wi_i2l ?_)
    refine q0 I_217_172 (wi_ladd ?_)
    refine q0 I_217_173 (wi_lstore [(0, .ref 176), (3, .int x3), (4, .long (((31 : Int64) * (((31 : Int64) * (((31 : Int64) * (((31 : Int64) * x4) + (r21 : Int32).toInt64)) + (r22 : Int32).toInt64)) + (r23 : Int32).toInt64)) + (r24 : Int32).toInt64))] (lt_e X_217 rfl) rfl ?_)
    refine q0 I_217_175 (wi_ldc2_w 31 rfl ?_)
    refine q0 I_217_178 (wi_lload _ rfl ?_)
    refine q0 I_217_180 (wi_lmul ?_)
    refine q0 I_217_181 (wi_aload_n _ rfl ?_)
    refine q0 I_217_182 (wi_iload_n _ rfl ?_)
    refine q0 I_217_183 (wi_bipush 60 rfl ?_)
    refine q0 I_217_185 (wi_virtI (e := 5) [.int x3, .int 60] [.long ((31 : Int64) * (((31 : Int64) * (((31 : Int64) * (((31 : Int64) * (((31 : Int64) * x4) + (r21 : Int32).toInt64)) + (r22 : Int32).toInt64)) + (r23 : Int32).toInt64)) + (r24 : Int32).toInt64))] S_176 rfl (by decide) rfl rfl rfl (okC_i rfl rfl rfl) C_198 (by decide) (ClI_mono H ?_))
    intro r25 di25 dl25 H
    refine q0 I_217_188 (wi_i2l ?_)
    refine q0 I_217_189 (wi_ladd ?_)
    exact q0 I_217_190 (wi_jret T_217 C_217 ⟨_, rfl, H⟩)
  · replace H := H.2 h
    refine q1 (ls' := [(0, .ref 176), (3, .int x3), (4, .long x4), (6, .int x6)]) I_217_54 rfl (wi_iconst 0 rfl ?_)
    refine q0 I_217_55 (wi_istore [(0, .ref 176), (3, .int x3), (4, .long x4), (6, .int x6), (7, .int 0)] (lt_e X_217 rfl) rfl ?_)
    exact Wq_c I_217_57 rfl rfl H
theorem r_217_57 {x3 : Int32} {x4 : Int64} {x6 : Int32} {x7 : Int32} {di : tDi} {dl : tDl} {K : Int64 → tDi → tDl → Prop} (H : ((3 ≤ x7 → (ClI 5 182 [.ref 176, .int x3, .int x6] di dl (fun r21 di21 dl21 => (Wq none 6 217 43 [(0, .ref 176), (3, .int x3), (4, .long (((31 : Int64) * x4) + (r21 : Int32).toInt64)), (6, .int (x6 + 1))] [] di21 dl21 (RJ K))))) ∧ (x7 < 3 → (ClI 5 180 [.ref 176, .int x3, .int x6, .int x7] di dl (fun r22 di22 dl22 => (Wq none 6 217 57 [(0, .ref 176), (3, .int x3), (4, .long (((31 : Int64) * x4) + (r22 : Int32).toInt64)), (6, .int x6), (7, .int (x7 + 1))] [] di22 dl22 (RJ K))))))) : Wq none 6 217 57 [(0, .ref 176), (3, .int x3), (4, .long x4), (6, .int x6), (7, .int x7)] [] di dl (RJ K) := by
  refine q1 (ls' := [(0, .ref 176), (3, .int x3), (4, .long x4), (6, .int x6), (7, .int x7)]) I_217_57 rfl (wi_iload _ rfl ?_)
  refine q0 I_217_59 (wi_iconst 3 rfl ?_)
  refine q0 I_217_60 (wi_ic_ge (fun h => ?_) (fun h => ?_))
  · replace H := H.1 h
    refine q1 (ls' := [(0, .ref 176), (3, .int x3), (4, .long x4), (6, .int x6)]) I_217_88 rfl (wi_ldc2_w 31 rfl ?_)
    refine q0 I_217_91 (wi_lload _ rfl ?_)
    refine q0 I_217_93 (wi_lmul ?_)
    refine q0 I_217_94 (wi_aload_n _ rfl ?_)
    refine q0 I_217_95 (wi_iload_n _ rfl ?_)
    refine q0 I_217_96 (wi_iload _ rfl ?_)
    refine q0 I_217_98 (wi_virtI (e := 5) [.int x3, .int x6] [.long ((31 : Int64) * x4)] S_176 rfl (by decide) rfl rfl rfl (okC_i rfl rfl rfl) C_182 (by decide) (ClI_mono H ?_))
    intro r21 di21 dl21 H
    refine q0 I_217_101 (wi_i2l ?_)
    refine q0 I_217_102 (wi_ladd ?_)
    refine q0 I_217_103 (wi_lstore [(0, .ref 176), (3, .int x3), (4, .long (((31 : Int64) * x4) + (r21 : Int32).toInt64)), (6, .int x6)] (lt_e X_217 rfl) rfl ?_)
    refine q0 I_217_105 (wi_iinc 1 [(0, .ref 176), (3, .int x3), (4, .long (((31 : Int64) * x4) + (r21 : Int32).toInt64)), (6, .int (x6 + 1))] rfl (lt_e X_217 rfl) rfl rfl ?_)
    refine q0 I_217_108 (wi_goto ?_)
    exact Wq_c I_217_43 rfl rfl H
  · replace H := H.2 h
    refine q1 (ls' := [(0, .ref 176), (3, .int x3), (4, .long x4), (6, .int x6), (7, .int x7)]) I_217_63 rfl (wi_ldc2_w 31 rfl ?_)
    refine q0 I_217_66 (wi_lload _ rfl ?_)
    refine q0 I_217_68 (wi_lmul ?_)
    refine q0 I_217_69 (wi_aload_n _ rfl ?_)
    refine q0 I_217_70 (wi_iload_n _ rfl ?_)
    refine q0 I_217_71 (wi_iload _ rfl ?_)
    refine q0 I_217_73 (wi_iload _ rfl ?_)
    refine q0 I_217_75 (wi_virtI (e := 5) [.int x3, .int x6, .int x7] [.long ((31 : Int64) * x4)] S_176 rfl (by decide) rfl rfl rfl (okC_i rfl rfl rfl) C_180 (by decide) (ClI_mono H ?_))
    intro r22 di22 dl22 H
    refine q0 I_217_78 (wi_i2l ?_)
    refine q0 I_217_79 (wi_ladd ?_)
    refine q0 I_217_80 (wi_lstore [(0, .ref 176), (3, .int x3), (4, .long (((31 : Int64) * x4) + (r22 : Int32).toInt64)), (6, .int x6), (7, .int x7)] (lt_e X_217 rfl) rfl ?_)
    refine q0 I_217_82 (wi_iinc 1 [(0, .ref 176), (3, .int x3), (4, .long (((31 : Int64) * x4) + (r22 : Int32).toInt64)), (6, .int x6), (7, .int (x7 + 1))] rfl (lt_e X_217 rfl) rfl rfl ?_)
    refine q0 I_217_85 (wi_goto ?_)
    exact Wq_c I_217_57 rfl rfl H
