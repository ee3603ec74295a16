/-! regions, written by program (gen23.py) -/
theorem r_188 {a1 : Int32} {a2 : Int32} {di : tDi} {dl : tDl} {K : Int32 → tDi → tDl → Prop} (H : (ClV 6 163 [.ref 176] di dl (fun di1 dl1 => (((lg_cmp (a1 : Int32).toInt64 0) < 0 → (K (-2) di1 dl1)) ∧ (0 ≤ (lg_cmp (a1 : Int32).toInt64 0) → ((0 < (lg_cmp (a1 : Int32).toInt64 ((di1 183 2) : Int32).toInt64) → (K (-2) di1 dl1)) ∧ ((lg_cmp (a1 : Int32).toInt64 ((di1 183 2) : Int32).toInt64) ≤ 0 → (((lg_cmp (a2 : Int32).toInt64 0) < 0 → (K (-2) di1 dl1)) ∧ (0 ≤ (lg_cmp (a2 : Int32).toInt64 0) → ((0 < (lg_cmp (a2 : Int32).toInt64 1) → (K (-2) di1 dl1)) ∧ ((lg_cmp (a2 : Int32).toInt64 1) ≤ 0 → (ClI 5 187 [.ref 176, .int a1, .int a2] di1 dl1 (fun r2 di2 dl2 => (K r2 di2 dl2)))))))))))))) : ClI 7 188 [.ref 176, .int a1, .int a2] di dl K := by
  refine Cl_of C_188 Z_188 [(0, .ref 176), (1, .int a1), (2, .int a2)] rfl ?_
  refine q0 I_188_0 (wi_aload_n _ rfl ?_)
  refine q0 I_188_1 (wi_virtV (e := 6) [] [] S_176 rfl (by decide) rfl rfl rfl (okC_i rfl rfl rfl) C_163 (by decide) (ClV_mono H ?_))
  intro di1 dl1 H
  refine q0 I_188_4 (wi_aload_n _ rfl ?_)
  refine q0 I_188_5 (wi_iload_n _ rfl ?_)
  refine q0 I_188_6 (wi_virtI (e := 6) [.int a1] [] S_176 rfl (by decide) rfl rfl rfl (okC_i rfl rfl rfl) C_167 (by decide) (Cl_of C_167 Z_167 [(0, .ref 176), (1, .int a1)] rfl ?_))
  refine q0 I_167_0 (wi_iload_n _ rfl ?_)
  refine q0 I_167_1 (wi_i2l ?_)
  refine q0 I_167_2 (wi_lconst 0 rfl ?_)
  refine q0 I_167_3 (wi_aload_n _ rfl ?_)
  refine q0 I_167_4 (wi_get (.ref 183) S_176 rfl (by decide) rfl ?_)
  refine q0 I_167_7 (wi_iconst 2 rfl ?_)
  refine q0 I_167_8 (wi_iaload 2 S_183 rfl rfl ?_)
  refine q0 I_167_9 (wi_i2l ?_)
  refine q0 I_167_10 (wi_statI (e := 5) [.long (a1 : Int32).toInt64, .long 0, .long ((di1 183 2) : Int32).toInt64] [] rfl (Or.inl rfl) rfl rfl rfl (okC_i rfl rfl rfl) C_134 (by decide) (Cl_of C_134 Z_134 [(0, .long (a1 : Int32).toInt64), (2, .long 0), (4, .long ((di1 183 2) : Int32).toInt64)] rfl ?_))
  refine q0 I_134_0 (wi_lload_n _ rfl ?_)
  refine q0 I_134_1 (wi_lload_n _ rfl ?_)
  refine q0 I_134_2 (wi_lcmp ?_)
  refine q0 I_134_3 (wi_if_lt (fun h => ?_) (fun h => ?_))
  · replace H := H.1 h
    refine q1 (ls' := []) I_134_17 rfl (wi_iconst 0 rfl ?_)
    refine q1 (ls' := []) I_134_18 rfl (wi_zret T_134 (Or.inl C_134) (Or.inl rfl) ⟨_, rfl, ?_⟩)
    refine q0 I_167_13 (wi_zret T_167 (Or.inl C_167) (Or.inl rfl) ⟨_, rfl, ?_⟩)
    refine q0 I_188_9 (wi_ifT rfl ?_)
    refine q1 (ls' := []) I_188_28 rfl (wi_bipush (-2) rfl ?_)
    exact q1 (ls' := []) I_188_30 rfl (wi_iret T_188 C_188 ⟨_, rfl, H⟩)
  · replace H := H.2 h
    refine q1 (ls' := [(0, .long (a1 : Int32).toInt64), (4, .long ((di1 183 2) : Int32).toInt64)]) I_134_6 rfl (wi_lload_n _ rfl ?_)
    refine q0 I_134_7 (wi_lload _ rfl ?_)
    refine q0 I_134_9 (wi_lcmp ?_)
    refine q0 I_134_10 (wi_if_gt (fun h => ?_) (fun h => ?_))
    · replace H := H.1 h
      refine q1 (ls' := []) I_134_17 rfl (wi_iconst 0 rfl ?_)
      refine q1 (ls' := []) I_134_18 rfl (wi_zret T_134 (Or.inl C_134) (Or.inl rfl) ⟨_, rfl, ?_⟩)
      refine q0 I_167_13 (wi_zret T_167 (Or.inl C_167) (Or.inl rfl) ⟨_, rfl, ?_⟩)
      refine q0 I_188_9 (wi_ifT rfl ?_)
      refine q1 (ls' := []) I_188_28 rfl (wi_bipush (-2) rfl ?_)
      exact q1 (ls' := []) I_188_30 rfl (wi_iret T_188 C_188 ⟨_, rfl, H⟩)
    · replace H := H.2 h
      refine q1 (ls' := []) I_134_13 rfl (wi_iconst 1 rfl ?_)
      refine q0 I_134_14 (wi_goto ?_)
      refine q1 (ls' := []) I_134_18 rfl (wi_zret T_134 (Or.inl C_134) (Or.inr rfl) ⟨_, rfl, ?_⟩)
      refine q0 I_167_13 (wi_zret T_167 (Or.inl C_167) (Or.inr rfl) ⟨_, rfl, ?_⟩)
      refine q0 I_188_9 (wi_ifF rfl ?_)
      refine q1 (ls' := [(0, .ref 176), (1, .int a1), (2, .int a2)]) I_188_12 rfl (wi_iload_n _ rfl ?_)
      refine q0 I_188_13 (wi_statI (e := 6) [.int a2] [] rfl (Or.inl rfl) rfl rfl rfl (okC_i rfl rfl rfl) C_136 (by decide) (Cl_of C_136 Z_136 [(0, .int a2)] rfl ?_))
      refine q0 I_136_0 (wi_iload_n _ rfl ?_)
      refine q0 I_136_1 (wi_i2l ?_)
      refine q0 I_136_2 (wi_lconst 0 rfl ?_)
      refine q0 I_136_3 (wi_lconst 1 rfl ?_)
      refine q0 I_136_4 (wi_statI (e := 5) [.long (a2 : Int32).toInt64, .long 0, .long 1] [] rfl (Or.inl rfl) rfl rfl rfl (okC_i rfl rfl rfl) C_134 (by decide) (Cl_of C_134 Z_134 [(0, .long (a2 : Int32).toInt64), (2, .long 0), (4, .long 1)] rfl ?_))
      refine q0 I_134_0 (wi_lload_n _ rfl ?_)
      refine q0 I_134_1 (wi_lload_n _ rfl ?_)
      refine q0 I_134_2 (wi_lcmp ?_)
      refine q0 I_134_3 (wi_if_lt (fun h => ?_) (fun h => ?_))
      · replace H := H.1 h
        refine q1 (ls' := []) I_134_17 rfl (wi_iconst 0 rfl ?_)
        refine q1 (ls' := []) I_134_18 rfl (wi_zret T_134 (Or.inl C_134) (Or.inl rfl) ⟨_, rfl, ?_⟩)
        refine q0 I_136_7 (wi_zret T_136 (Or.inl C_136) (Or.inl rfl) ⟨_, rfl, ?_⟩)
        refine q0 I_188_16 (wi_ifT rfl ?_)
        refine q1 (ls' := []) I_188_28 rfl (wi_bipush (-2) rfl ?_)
        exact q1 (ls' := []) I_188_30 rfl (wi_iret T_188 C_188 ⟨_, rfl, H⟩)
      · replace H := H.2 h
        refine q1 (ls' := [(0, .long (a2 : Int32).toInt64), (4, .long 1)]) I_134_6 rfl (wi_lload_n _ rfl ?_)
        refine q0 I_134_7 (wi_lload _ rfl ?_)
        refine q0 I_134_9 (wi_lcmp ?_)
        refine q0 I_134_10 (wi_if_gt (fun h => ?_) (fun h => ?_))
        · replace H := H.1 h
          refine q1 (ls' := []) I_134_17 rfl (wi_iconst 0 rfl ?_)
          refine q1 (ls' := []) I_134_18 rfl (wi_zret T_134 (Or.inl C_134) (Or.inl rfl) ⟨_, rfl, ?_⟩)
          refine q0 I_136_7 (wi_zret T_136 (Or.inl C_136) (Or.inl rfl) ⟨_, rfl, ?_⟩)
          refine q0 I_188_16 (wi_ifT rfl ?_)
          refine q1 (ls' := []) I_188_28 rfl (wi_bipush (-2) rfl ?_)
          exact q1 (ls' := []) I_188_30 rfl (wi_iret T_188 C_188 ⟨_, rfl, H⟩)
        · replace H := H.2 h
          refine q1 (ls' := []) I_134_13 rfl (wi_iconst 1 rfl ?_)
          refine q0 I_134_14 (wi_goto ?_)
          refine q1 (ls' := []) I_134_18 rfl (wi_zret T_134 (Or.inl C_134) (Or.inr rfl) ⟨_, rfl, ?_⟩)
          refine q0 I_136_7 (wi_zret T_136 (Or.inl C_136) (Or.inr rfl) ⟨_, rfl, ?_⟩)
          refine q0 I_188_16 (wi_ifF rfl ?_)
          refine q1 (ls' := [(0, .ref 176), (1, .int a1), (2, .int a2)]) I_188_19 rfl (wi_aload_n _ rfl ?_)
          refine q0 I_188_20 (wi_iload_n _ rfl ?_)
          refine q0 I_188_21 (wi_iload_n _ rfl ?_)
          refine q0 I_188_22 (wi_virtI (e := 5) [.int a1, .int a2] [] S_176 rfl (by decide) rfl rfl rfl (okC_i rfl rfl rfl) C_187 (by decide) (ClI_mono H ?_))
          intro r2 di2 dl2 H
          refine q0 I_188_25 (wi_goto ?_)
          exact q1 (ls' := []) I_188_30 rfl (wi_iret T_188 C_188 ⟨_, rfl, H⟩)
theorem r_189 {a1 : Int32} {di : tDi} {dl : tDl} {K : Int32 → tDi → tDl → Prop} (H : (Wq none 5 189 2 [(0, .ref 176), (1, .int a1), (2, .int 0)] [] di dl (RI K))) : ClI 5 189 [.ref 176, .int a1] di dl K := by
  refine Cl_of C_189 Z_189 [(0, .ref 176), (1, .int a1)] rfl ?_
  refine q0 I_189_0 (wi_iconst 0 rfl ?_)
  refine q0 I_189_1 (wi_istore_n [(0, .ref 176), (1, .int a1), (2, .int 0)] (lt_e X_189 rfl) rfl ?_)
  exact Wq_c I_189_2 rfl rfl H
theorem r_189_2 {x1 : Int32} {x2 : Int32} {di : tDi} {dl : tDl} {K : Int32 → tDi → tDl → Prop} (H : (((di 183 2) ≤ x2 → (K (-1) di dl)) ∧ (x2 < (di 183 2) → (ClV 4 179 [.ref 176, .int (x2 + 1)] di dl (fun di21 dl21 => (Wq none 5 189 21 [(0, .ref 176), (1, .int x1), (2, .int x2), (3, .int 0)] [] di21 dl21 (RI K))))))) : Wq none 5 189 2 [(0, .ref 176), (1, .int x1), (2, .int x2)] [] di dl (RI K) := by
  refine q1 (ls' := [(0, .ref 176), (1, .int x1), (2, .int x2)]) I_189_2 rfl (wi_iload_n _ rfl ?_)
  refine q0 I_189_3 (wi_aload_n _ rfl ?_)
  refine q0 I_189_4 (wi_get (.ref 183) S_176 rfl (by decide) rfl ?_)
  refine q0 I_189_7 (wi_iconst 2 rfl ?_)
  refine q0 I_189_8 (wi_iaload 2 S_183 rfl rfl ?_)
  refine q0 I_189_9 (wi_ic_ge (fun h => ?_) (fun h => ?_))
  · replace H := H.1 h
    refine q1 (ls' := []) I_189_87 rfl (wi_iconst (-1) rfl ?_)
    exact q0 I_189_88 (wi_iret T_189 C_189 ⟨_, rfl, H⟩)
  · replace H := H.2 h
    refine q1 (ls' := [(0, .ref 176), (1, .int x1), (2, .int x2)]) I_189_12 rfl (wi_aload_n _ rfl ?_)
    refine q0 I_189_13 (wi_iload_n _ rfl ?_)
    refine q0 I_189_14 (wi_iconst 1 rfl ?_)
    refine q0 I_189_15 (wi_iadd ?_)
    refine q0 I_189_16 (wi_virtV (e := 4) [.int (x2 + 1)] [] S_176 rfl (by decide) rfl rfl rfl (okC_i rfl rfl rfl) C_179 (by decide) (ClV_mono H ?_))
    intro di21 dl21 H
    refine q0 I_189_19 (wi_iconst 0 rfl ?_)
    refine q0 I_189_20 (wi_istore_n [(0, .ref 176), (1, .int x1), (2, .int x2), (3, .int 0)] (lt_e X_189 rfl) rfl ?_)
    exact Wq_c I_189_21 rfl rfl H
theorem r_189_21 {x1 : Int32} {x2 : Int32} {x3 : Int32} {di : tDi} {dl : tDl} {K : Int32 → tDi → tDl → Prop} (H : (((di 183 0) ≤ x3 → (Wq none 5 189 2 [(0, .ref 176), (1, .int x1), (2, .int (x2 + 1))] [] di dl (RI K))) ∧ (x3 < (di 183 0) → (inB x2 24 = true ∧ ((¬ (di 186 (x2.toNatClampNeg)) = 2 → (Wq none 5 189 21 [(0, .ref 176), (1, .int x1), (2, .int x2), (3, .int (x3 + 1))] [] di dl (RI K))) ∧ ((di 186 (x2.toNatClampNeg)) = 2 → (inB x3 8 = true ∧ ((¬ (di 189 (x3.toNatClampNeg)) = (-1) → (Wq none 5 189 21 [(0, .ref 176), (1, .int x1), (2, .int x2), (3, .int (x3 + 1))] [] di dl (RI K))) ∧ ((di 189 (x3.toNatClampNeg)) = (-1) → (inB (((4 : Int32) * x3) + 3) 32 = true ∧ ((¬ (di 184 ((((4 : Int32) * x3) + 3).toNatClampNeg)) = 1 → (Wq none 5 189 21 [(0, .ref 176), (1, .int x1), (2, .int x2), (3, .int (x3 + 1))] [] di dl (RI K))) ∧ ((di 184 ((((4 : Int32) * x3) + 3).toNatClampNeg)) = 1 → ((¬ x1 = 0 → (K x3 di dl)) ∧ (x1 = 0 → (K x2 di dl))))))))))))))) : Wq none 5 189 21 [(0, .ref 176), (1, .int x1), (2, .int x2), (3, .int x3)] [] di dl (RI K) := by
  refine q1 (ls' := [(0, .ref 176), (1, .int x1), (2, .int x2), (3, .int x3)]) I_189_21 rfl (wi_iload_n _ rfl ?_)
  refine q0 I_189_22 (wi_aload_n _ rfl ?_)
  refine q0 I_189_23 (wi_get (.ref 183) S_176 rfl (by decide) rfl ?_)
  refine q0 I_189_26 (wi_iconst 0 rfl ?_)
  refine q0 I_189_27 (wi_iaload 0 S_183 rfl rfl ?_)
  refine q0 I_189_28 (wi_ic_ge (fun h => ?_) (fun h => ?_))
  · replace H := H.1 h
    refine q1 (ls' := [(0, .ref 176), (1, .int x1), (2, .int x2)]) I_189_81 rfl (wi_iinc 1 [(0, .ref 176), (1, .int x1), (2, .int (x2 + 1))] rfl (lt_e X_189 rfl) rfl rfl ?_)
    refine q0 I_189_84 (wi_goto ?_)
    exact Wq_c I_189_2 rfl rfl H
  · replace H := H.2 h
    refine q1 (ls' := [(0, .ref 176), (1, .int x1), (2, .int x2), (3, .int x3)]) I_189_31 rfl (wi_aload_n _ rfl ?_)
    refine q0 I_189_32 (wi_get (.ref 186) S_176 rfl (by decide) rfl ?_)
    refine q0 I_189_35 (wi_iload_n _ rfl ?_)
    have hb21 := H.1
    replace H := H.2
    refine q0 I_189_36 (wi_iaload (x2.toNatClampNeg) S_186 hb21 rfl ?_)
    refine q0 I_189_37 (wi_iconst 2 rfl ?_)
    refine q0 I_189_38 (wi_ic_ne (fun h => ?_) (fun h => ?_))
    · replace H := H.1 h
      refine q1 (ls' := [(0, .ref 176), (1, .int x1), (2, .int x2), (3, .int x3)]) I_189_75 rfl (wi_iinc 1 [(0, .ref 176), (1, .int x1), (2, .int x2), (3, .int (x3 + 1))] rfl (lt_e X_189 rfl) rfl rfl ?_)
      refine q0 I_189_78 (wi_goto ?_)
      exact Wq_c I_189_21 rfl rfl H
    · replace H := H.2 h
      refine q1 (ls' := [(0, .ref 176), (1, .int x1), (2, .int x2), (3, .int x3)]) I_189_41 rfl (wi_aload_n _ rfl ?_)
      refine q0 I_189_42 (wi_get (.ref 189) S_176 rfl (by decide) rfl ?_)
      refine q0 I_189_45 (wi_iload_n _ rfl ?_)
      have hb22 := H.1
      replace H := H.2
      refine q0 I_189_46 (wi_iaload (x3.toNatClampNeg) S_189 hb22 rfl ?_)
      refine q0 I_189_47 (wi_iconst (-1) rfl ?_)
      refine q0 I_189_48 (wi_ic_ne (fun h => ?_) (fun h => ?_))
      · replace H := H.1 h
        refine q1 (ls' := [(0, .ref 176), (1, .int x1), (2, .int x2), (3, .int x3)]) I_189_75 rfl (wi_iinc 1 [(0, .ref 176), (1, .int x1), (2, .int x2), (3, .int (x3 + 1))] rfl (lt_e X_189 rfl) rfl rfl ?_)
        refine q0 I_189_78 (wi_goto ?_)
        exact Wq_c I_189_21 rfl rfl H
      · replace H := H.2 h
        refine q1 (ls' := [(0, .ref 176), (1, .int x1), (2, .int x2), (3, .int x3)]) I_189_51 rfl (wi_aload_n _ rfl ?_)
        refine q0 I_189_52 (wi_get (.ref 184) S_176 rfl (by decide) rfl ?_)
        refine q0 I_189_55 (wi_iconst 4 rfl ?_)
        refine q0 I_189_56 (wi_iload_n _ rfl ?_)
        refine q0 I_189_57 (wi_imul ?_)
        refine q0 I_189_58 (wi_iconst 3 rfl ?_)
        refine q0 I_189_59 (wi_iadd ?_)
        have hb23 := H.1
        replace H := H.2
        refine q0 I_189_60 (wi_iaload ((((4 : Int32) * x3) + 3).toNatClampNeg) S_184 hb23 rfl ?_)
        refine q0 I_189_61 (wi_iconst 1 rfl ?_)
        refine q0 I_189_62 (wi_ic_ne (fun h => ?_) (fun h => ?_))
        · replace H := H.1 h
          refine q1 (ls' := [(0, .ref 176), (1, .int x1), (2, .int x2), (3, .int x3)]) I_189_75 rfl (wi_iinc 1 [(0, .ref 176), (1, .int x1), (2, .int x2), (3, .int (x3 + 1))] rfl (lt_e X_189 rfl) rfl rfl ?_)
          refine q0 I_189_78 (wi_goto ?_)
          exact Wq_c I_189_21 rfl rfl H
        · replace H := H.2 h
          refine q1 (ls' := [(1, .int x1), (2, .int x2), (3, .int x3)]) I_189_65 rfl (wi_iload_n _ rfl ?_)
          refine q0 I_189_66 (wi_if_ne (fun h => ?_) (fun h => ?_))
          · replace H := H.1 h
            refine q1 (ls' := [(3, .int x3)]) I_189_73 rfl (wi_iload_n _ rfl ?_)
            exact q1 (ls' := []) I_189_74 rfl (wi_iret T_189 C_189 ⟨_, rfl, H⟩)
          · replace H := H.2 h
            refine q1 (ls' := [(2, .int x2)]) I_189_69 rfl (wi_iload_n _ rfl ?_)
            refine q0 I_189_70 (wi_goto ?_)
            exact q1 (ls' := []) I_189_74 rfl (wi_iret T_189 C_189 ⟨_, rfl, H⟩)
theorem r_190 {a1 : Int32} {di : tDi} {dl : tDl} {K : Int32 → tDi → tDl → Prop} (H : (ClV 6 163 [.ref 176] di dl (fun di1 dl1 => (((lg_cmp (a1 : Int32).toInt64 0) < 0 → (K (-2) di1 dl1)) ∧ (0 ≤ (lg_cmp (a1 : Int32).toInt64 0) → ((0 < (lg_cmp (a1 : Int32).toInt64 1) → (K (-2) di1 dl1)) ∧ ((lg_cmp (a1 : Int32).toInt64 1) ≤ 0 → (ClI 5 189 [.ref 176, .int a1] di1 dl1 (fun r2 di2 dl2 => (K r2 di2 dl2)))))))))) : ClI 7 190 [.ref 176, .int a1] di dl K := by
  refine Cl_of C_190 Z_190 [(0, .ref 176), (1, .int a1)] rfl ?_
  refine q0 I_190_0 (wi_aload_n _ rfl ?_)
  refine q0 I_190_1 (wi_virtV (e := 6) [] [] S_176 rfl (by decide) rfl rfl rfl (okC_i rfl rfl rfl) C_163 (by decide) (ClV_mono H ?_))
  intro di1 dl1 H
  refine q0 I_190_4 (wi_iload_n _ rfl ?_)
  refine q0 I_190_5 (wi_statI (e := 6) [.int a1] [] rfl (Or.inl rfl) rfl rfl rfl (okC_i rfl rfl rfl) C_136 (by decide) (Cl_of C_136 Z_136 [(0, .int a1)] rfl ?_))
  refine q0 I_136_0 (wi_iload_n _ rfl ?_)
  refine q0 I_136_1 (wi_i2l ?_)
  refine q0 I_136_2 (wi_lconst 0 rfl ?_)
  refine q0 I_136_3 (wi_lconst 1 rfl ?_)
  refine q0 I_136_4 (wi_statI (e := 5) [.long (a1 : Int32).toInt64, .long 0, .long 1] [] rfl (Or.inl rfl) rfl rfl rfl (okC_i rfl rfl rfl) C_134 (by decide) (Cl_of C_134 Z_134 [(0, .long (a1 : Int32).toInt64), (2, .long 0), (4, .long 1)] rfl ?_))
  refine q0 I_134_0 (wi_lload_n _ rfl ?_)
  refine q0 I_134_1 (wi_lload_n _ rfl ?_)
  refine q0 I_134_2 (wi_lcmp ?_)
  refine q0 I_134_3 (wi_if_lt (fun h => ?_) (fun h => ?_))
  · replace H := H.1 h
    refine q1 (ls' := []) I_134_17 rfl (wi_iconst 0 rfl ?_)
    refine q1 (ls' := []) I_134_18 rfl (wi_zret T_134 (Or.inl C_134) (Or.inl rfl) ⟨_, rfl, ?_⟩)
    refine q0 I_136_7 (wi_zret T_136 (Or.inl C_136) (Or.inl rfl) ⟨_, rfl, ?_⟩)
    refine q0 I_190_8 (wi_ifT rfl ?_)
    refine q1 (ls' := []) I_190_19 rfl (wi_bipush (-2) rfl ?_)
    exact q1 (ls' := []) I_190_21 rfl (wi_iret T_190 C_190 ⟨_, rfl, H⟩)
  · replace H := H.2 h
    refine q1 (ls' := [(0, .long (a1 : Int32).toInt64), (4, .long 1)]) I_134_6 rfl (wi_lload_n _ rfl ?_)
    refine q0 I_134_7 (wi_lload _ rfl ?_)
    refine q0 I_134_9 (wi_lcmp ?_)
    refine q0 I_134_10 (wi_if_gt (fun h => ?_) (fun h => ?_))
    · replace H := H.1 h
      refine q1 (ls' := []) I_134_17 rfl (wi_iconst 0 rfl ?_)
      refine q1 (ls' := []) I_134_18 rfl (wi_zret T_134 (Or.inl C_134) (Or.inl rfl) ⟨_, rfl, ?_⟩)
      refine q0 I_136_7 (wi_zret T_136 (Or.inl C_136) (Or.inl rfl) ⟨_, rfl, ?_⟩)
      refine q0 I_190_8 (wi_ifT rfl ?_)
      refine q1 (ls' := []) I_190_19 rfl (wi_bipush (-2) rfl ?_)
      exact q1 (ls' := []) I_190_21 rfl (wi_iret T_190 C_190 ⟨_, rfl, H⟩)
    · replace H := H.2 h
      refine q1 (ls' := []) I_134_13 rfl (wi_iconst 1 rfl ?_)
      refine q0 I_134_14 (wi_goto ?_)
      refine q1 (ls' := []) I_134_18 rfl (wi_zret T_134 (Or.inl C_134) (Or.inr rfl) ⟨_, rfl, ?_⟩)
      refine q0 I_136_7 (wi_zret T_136 (Or.inl C_136) (Or.inr rfl) ⟨_, rfl, ?_⟩)
      refine q0 I_190_8 (wi_ifF rfl ?_)
      refine q1 (ls' := [(0, .ref 176), (1, .int a1)]) I_190_11 rfl (wi_aload_n _ rfl ?_)
      refine q0 I_190_12 (wi_iload_n _ rfl ?_)
      refine q0 I_190_13 (wi_virtI (e := 5) [.int a1] [] S_176 rfl (by decide) rfl rfl rfl (okC_i rfl rfl rfl) C_189 (by decide) (ClI_mono H ?_))
      intro r2 di2 dl2 H
      refine q0 I_190_16 (wi_goto ?_)
      exact q1 (ls' := []) I_190_21 rfl (wi_iret T_190 C_190 ⟨_, rfl, H⟩)
theorem r_191 {a1 : Int32} {di : tDi} {dl : tDl} {K : Int32 → tDi → tDl → Prop} (H : (ClI 5 184 [.ref 176, .int 0, .int a1] di dl (fun r1 di1 dl1 => (Wq none 6 191 12 [(0, .ref 176), (1, .int a1), (2, .int 0), (3, .int r1), (4, .int 1)] [] di1 dl1 (RI K))))) : ClI 6 191 [.ref 176, .int a1] di dl K := by
  refine Cl_of C_191 Z_191 [(0, .ref 176), (1, .int a1)] rfl ?_
  refine q0 I_191_0 (wi_iconst 0 rfl ?_)
  refine q0 I_191_1 (wi_istore_n [(0, .ref 176), (1, .int a1), (2, .int 0)] (lt_e X_191 rfl) rfl ?_)
  refine q0 I_191_2 (wi_aload_n _ rfl ?_)
  refine q0 I_191_3 (wi_iconst 0 rfl ?_)
  refine q0 I_191_4 (wi_iload_n _ rfl ?_)
  refine q0 I_191_5 (wi_virtI (e := 5) [.int 0, .int a1] [] S_176 rfl (by decide) rfl rfl rfl (okC_i rfl rfl rfl) C_184 (by decide) (ClI_mono H ?_))
  intro r1 di1 dl1 H
  refine q0 I_191_8 (wi_istore_n [(0, .ref 176), (1, .int a1), (2, .int 0), (3, .int r1)] (lt_e X_191 rfl) rfl ?_)
  refine q0 I_191_9 (wi_iconst 1 rfl ?_)
  refine q0 I_191_10 (wi_istore [(0, .ref 176), (1, .int a1), (2, .int 0), (3, .int r1), (4, .int 1)] (lt_e X_191 rfl) rfl ?_)
  exact Wq_c I_191_12 rfl rfl H
theorem r_191_12 {x1 : Int32} {x2 : Int32} {x3 : Int32} {x4 : Int32} {di : tDi} {dl : tDl} {K : Int32 → tDi → tDl → Prop} (H : (((di 183 2) < x4 → (K x2 di dl)) ∧ (x4 ≤ (di 183 2) → (ClI 5 184 [.ref 176, .int x4, .int x1] di dl (fun r21 di21 dl21 => ((r21 = x3 → (Wq none 6 191 12 [(0, .ref 176), (1, .int x1), (2, .int (x2 + 0)), (3, .int r21), (4, .int (x4 + 1))] [] di21 dl21 (RI K))) ∧ (¬ r21 = x3 → (Wq none 6 191 12 [(0, .ref 176), (1, .int x1), (2, .int (x2 + 1)), (3, .int r21), (4, .int (x4 + 1))] [] di21 dl21 (RI K))))))))) : Wq none 6 191 12 [(0, .ref 176), (1, .int x1), (2, .int x2), (3, .int x3), (4, .int x4)] [] di dl (RI K) := by
  refine q1 (ls' := [(0, .ref 176), (1, .int x1), (2, .int x2), (3, .int x3), (4, .int x4)]) I_191_12 rfl (wi_iload _ rfl ?_)
  refine q0 I_191_14 (wi_aload_n _ rfl ?_)
  refine q0 I_191_15 (wi_get (.ref 183) S_176 rfl (by decide) rfl ?_)
  refine q0 I_191_18 (wi_iconst 2 rfl ?_)
  refine q0 I_191_19 (wi_iaload 2 S_183 rfl rfl ?_)
  refine q0 I_191_20 (wi_ic_gt (fun h => ?_) (fun h => ?_))
  · replace H := H.1 h
    refine q1 (ls' := [(2, .int x2)]) I_191_55 rfl (wi_iload_n _ rfl ?_)
    exact q0 I_191_56 (wi_iret T_191 C_191 ⟨_, rfl, H⟩)
  · replace H := H.2 h
    refine q1 (ls' := [(0, .ref 176), (1, .int x1), (2, .int x2), (3, .int x3), (4, .int x4)]) I_191_23 rfl (wi_aload_n _ rfl ?_)
    refine q0 I_191_24 (wi_iload _ rfl ?_)
    refine q0 I_191_26 (wi_iload_n _ rfl ?_)
    refine q0 I_191_27 (wi_virtI (e := 5) [.int x4, .int x1] [] S_176 rfl (by decide) rfl rfl rfl (okC_i rfl rfl rfl) C_184 (by decide) (ClI_mono H ?_))
    intro r21 di21 dl21 H
    refine q0 I_191_30 (wi_istore [(0, .ref 176), (1, .int x1), (2, .int x2), (3, .int x3), (4, .int x4), (5, .int r21)] (lt_e X_191 rfl) rfl ?_)
    refine q0 I_191_32 (wi_iload_n _ rfl ?_)
    refine q0 I_191_33 (wi_iload _ rfl ?_)
    refine q0 I_191_35 (wi_iload_n _ rfl ?_)
    refine q0 I_191_36 (wi_ic_eq (fun h => ?_) (fun h => ?_))
    · replace H := H.1 h
      refine q1 (ls' := [(0, .ref 176), (1, .int x1), (4, .int x4), (5, .int r21)]) I_191_43 rfl (wi_iconst 0 rfl ?_)
      refine q1 (ls' := [(0, .ref 176), (1, .int x1), (4, .int x4), (5, .int r21)]) I_191_44 rfl (wi_iadd ?_)
      refine q0 I_191_45 (wi_istore_n [(0, .ref 176), (1, .int x1), (2, .int (x2 + 0)), (4, .int x4), (5, .int r21)] (lt_e X_191 rfl) rfl ?_)
      refine q0 I_191_46 (wi_iload _ rfl ?_)
      refine q0 I_191_48 (wi_istore_n [(0, .ref 176), (1, .int x1), (2, .int (x2 + 0)), (3, .int r21), (4, .int x4), (5, .int r21)] (lt_e X_191 rfl) rfl ?_)
      refine q0 I_191_49 (wi_iinc 1 [(0, .ref 176), (1, .int x1), (2, .int (x2 + 0)), (3, .int r21), (4, .int (x4 + 1)), (5, .int r21)] rfl (lt_e X_191 rfl) rfl rfl ?_)
      refine q0 I_191_52 (wi_goto ?_)
      exact Wq_c I_191_12 rfl rfl H
    · replace H := H.2 h
      refine q1 (ls' := [(0, .ref 176), (1, .int x1), (4, .int x4), (5, .int r21)]) I_191_39 rfl (wi_iconst 1 rfl ?_)
      refine q0 I_191_40 (wi_goto ?_)
      refine q1 (ls' := [(0, .ref 176), (1, .int x1), (4, .int x4), (5, .int r21)]) I_191_44 rfl (wi_iadd ?_)
      refine q0 I_191_45 (wi_istore_n [(0, .ref 176), (1, .int x1), (2, .int (x2 + 1)), (4, .int x4), (5, .int r21)] (lt_e X_191 rfl) rfl ?_)
      refine q0 I_191_46 (wi_iload _ rfl ?_)
      refine q0 I_191_48 (wi_istore_n [(0, .ref 176), (1, .int x1), (2, .int (x2 + 1)), (3, .int r21), (4, .int x4), (5, .int r21)] (lt_e X_191 rfl) rfl ?_)
      refine q0 I_191_49 (wi_iinc 1 [(0, .ref 176), (1, .int x1), (2, .int (x2 + 1)), (3, .int r21), (4, .int (x4 + 1)), (5, .int r21)] rfl (lt_e X_191 rfl) rfl rfl ?_)
      refine q0 I_191_52 (wi_goto ?_)
      exact Wq_c I_191_12 rfl rfl H
theorem r_192 {a1 : Int32} {di : tDi} {dl : tDl} {K : Int32 → tDi → tDl → Prop} (H : (ClV 6 163 [.ref 176] di dl (fun di1 dl1 => (((lg_cmp (a1 : Int32).toInt64 0) < 0 → (K (-2) di1 dl1)) ∧ (0 ≤ (lg_cmp (a1 : Int32).toInt64 0) → ((0 < (lg_cmp (a1 : Int32).toInt64 (((di1 183 0) - 1) : Int32).toInt64) → (K (-2) di1 dl1)) ∧ ((lg_cmp (a1 : Int32).toInt64 (((di1 183 0) - 1) : Int32).toInt64) ≤ 0 → (ClI 6 191 [.ref 176, .int a1] di1 dl1 (fun r2 di2 dl2 => (K r2 di2 dl2)))))))))) : ClI 7 192 [.ref 176, .int a1] di dl K := by
  refine Cl_of C_192 Z_192 [(0, .ref 176), (1, .int a1)] rfl ?_
  refine q0 I_192_0 (wi_aload_n _ rfl ?_)
  refine q0 I_192_1 (wi_virtV (e := 6) [] [] S_176 rfl (by decide) rfl rfl rfl (okC_i rfl rfl rfl) C_163 (by decide) (ClV_mono H ?_))
  intro di1 dl1 H
  refine q0 I_192_4 (wi_aload_n _ rfl ?_)
  refine q0 I_192_5 (wi_iload_n _ rfl ?_)
  refine q0 I_192_6 (wi_virtI (e := 6) [.int a1] [] S_176 rfl (by decide) rfl rfl rfl (okC_i rfl rfl rfl) C_165 (by decide) (Cl_of C_165 Z_165 [(0, .ref 176), (1, .int a1)] rfl ?_))
  refine q0 I_165_0 (wi_iload_n _ rfl ?_)
  refine q0 I_165_1 (wi_i2l ?_)
  refine q0 I_165_2 (wi_lconst 0 rfl ?_)
  refine q0 I_165_3 (wi_aload_n _ rfl ?_)
  refine q0 I_165_4 (wi_get (.ref 183) S_176 rfl (by decide) rfl ?_)
  refine q0 I_165_7 (wi_iconst 0 rfl ?_)
  refine q0 I_165_8 (wi_iaload 0 S_183 rfl rfl ?_)
  refine q0 I_165_9 (wi_iconst 1 rfl ?_)
  refine q0 I_165_10 (wi_isub ?_)
  refine q0 I_165_11 (wi_i2l ?_)
  refine q0 I_165_12 (wi_statI (e := 5) [.long (a1 : Int32).toInt64, .long 0, .long (((di1 183 0) - 1) : Int32).toInt64] [] rfl (Or.inl rfl) rfl rfl rfl (okC_i rfl rfl rfl) C_134 (by decide) (Cl_of C_134 Z_134 [(0, .long (a1 : Int32).toInt64), (2, .long 0), (4, .long (((di1 183 0) - 1) : Int32).toInt64)] rfl ?_))
  refine q0 I_134_0 (wi_lload_n _ rfl ?_)
  refine q0 I_134_1 (wi_lload_n _ rfl ?_)
  refine q0 I_134_2 (wi_lcmp ?_)
  refine q0 I_134_3 (wi_if_lt (fun h => ?_) (fun h => ?_))
  · replace H := H.1 h
    refine q1 (ls' := []) I_134_17 rfl (wi_iconst 0 rfl ?_)
    refine q1 (ls' := []) I_134_18 rfl (wi_zret T_134 (Or.inl C_134) (Or.inl rfl) ⟨_, rfl, ?_⟩)
    refine q0 I_165_15 (wi_zret T_165 (Or.inl C_165) (Or.inl rfl) ⟨_, rfl, ?_⟩)
    refine q0 I_192_9 (wi_ifT rfl ?_)
    refine q1 (ls' := []) I_192_20 rfl (wi_bipush (-2) rfl ?_)
    exact q1 (ls' := []) I_192_22 rfl (wi_iret T_192 C_192 ⟨_, rfl, H⟩)
  · replace H := H.2 h
    refine q1 (ls' := [(0, .long (a1 : Int32).toInt64), (4, .long (((di1 183 0) - 1) : Int32).toInt64)]) I_134_6 rfl (wi_lload_n _ rfl ?_)
    refine q0 I_134_7 (wi_lload _ rfl ?_)
    refine q0 I_134_9 (wi_lcmp ?_)
    refine q0 I_134_10 (wi_if_gt (fun h => ?_) (fun h => ?_))
    · replace H := H.1 h
      refine q1 (ls' := []) I_134_17 rfl (wi_iconst 0 rfl ?_)
      refine q1 (ls' := []) I_134_18 rfl (wi_zret T_134 (Or.inl C_134) (Or.inl rfl) ⟨_, rfl, ?_⟩)
      refine q0 I_165_15 (wi_zret T_165 (Or.inl C_165) (Or.inl rfl) ⟨_, rfl, ?_⟩)
      refine q0 I_192_9 (wi_ifT rfl ?_)
      refine q1 (ls' := []) I_192_20 rfl (wi_bipush (-2) rfl ?_)
      exact q1 (ls' := []) I_192_22 rfl (wi_iret T_192 C_192 ⟨_, rfl, H⟩)
    · replace H := H.2 h
      refine q1 (ls' := []) I_134_13 rfl (wi_iconst 1 rfl ?_)
      refine q0 I_134_14 (wi_goto ?_)
      refine q1 (ls' := []) I_134_18 rfl (wi_zret T_134 (Or.inl C_134) (Or.inr rfl) ⟨_, rfl, ?_⟩)
      refine q0 I_165_15 (wi_zret T_165 (Or.inl C_165) (Or.inr rfl) ⟨_, rfl, ?_⟩)
      refine q0 I_192_9 (wi_ifF rfl ?_)
      refine q1 (ls' := [(0, .ref 176), (1, .int a1)]) I_192_12 rfl (wi_aload_n _ rfl ?_)
      refine q0 I_192_13 (wi_iload_n _ rfl ?_)
      refine q0 I_192_14 (wi_virtI (e := 6) [.int a1] [] S_176 rfl (by decide) rfl rfl rfl (okC_i rfl rfl rfl) C_191 (by decide) (ClI_mono H ?_))
      intro r2 di2 dl2 H
      refine q0 I_192_17 (wi_goto ?_)
      exact q1 (ls' := []) I_192_22 rfl (wi_iret T_192 C_192 ⟨_, rfl, H⟩)
theorem r_193 {a1 : Int32} {a2 : Int32} {di : tDi} {dl : tDl} {K : Int32 → tDi → tDl → Prop} (H : (ClV 4 179 [.ref 176, .int a1] di dl (fun di1 dl1 => (Wq none 5 193 12 [(0, .ref 176), (2, .int a2), (3, .int (di1 183 0))] [] di1 dl1 (RI K))))) : ClI 5 193 [.ref 176, .int a1, .int a2] di dl K := by
  refine Cl_of C_193 Z_193 [(0, .ref 176), (1, .int a1), (2, .int a2)] rfl ?_
  refine q0 I_193_0 (wi_aload_n _ rfl ?_)
  refine q0 I_193_1 (wi_iload_n _ rfl ?_)
  refine q0 I_193_2 (wi_virtV (e := 4) [.int a1] [] S_176 rfl (by decide) rfl rfl rfl (okC_i rfl rfl rfl) C_179 (by decide) (ClV_mono H ?_))
  intro di1 dl1 H
  refine q0 I_193_5 (wi_aload_n _ rfl ?_)
  refine q0 I_193_6 (wi_get (.ref 183) S_176 rfl (by decide) rfl ?_)
  refine q0 I_193_9 (wi_iconst 0 rfl ?_)
  refine q0 I_193_10 (wi_iaload 0 S_183 rfl rfl ?_)
  refine q0 I_193_11 (wi_istore_n [(0, .ref 176), (1, .int a1), (2, .int a2), (3, .int (di1 183 0))] (lt_e X_193 rfl) rfl ?_)
  exact Wq_c I_193_12 rfl rfl H
theorem r_193_12 {x2 : Int32} {x3 : Int32} {di : tDi} {dl : tDl} {K : Int32 → tDi → tDl → Prop} (H : ((x3 < 0 → (Wq none 5 193 187 [(0, .ref 176), (2, .int x2), (3, .int 0), (4, .int (-1)), (5, .int 0)] [] di dl (RI K))) ∧ (0 ≤ x3 → (Wq none 5 193 19 [(0, .ref 176), (2, .int x2), (3, .int x3), (4, .int 0)] [] di dl (RI K))))) : Wq none 5 193 12 [(0, .ref 176), (2, .int x2), (3, .int x3)] [] di dl (RI K) := by
  refine q1 (ls' := [(0, .ref 176), (2, .int x2), (3, .int x3)]) I_193_12 rfl (wi_iload_n _ rfl ?_)
  refine q0 I_193_13 (wi_if_lt (fun h => ?_) (fun h => ?_))
  · replace H := H.1 h
    refine q1 (ls' := [(0, .ref 176), (2, .int x2)]) I_193_179 rfl (wi_iconst 0 rfl ?_)
    refine q0 I_193_180 (wi_istore_n [(0, .ref 176), (2, .int x2), (3, .int 0)] (lt_e X_193 rfl) rfl ?_)
    refine q0 I_193_181 (wi_iconst (-1) rfl ?_)
    refine q0 I_193_182 (wi_istore [(0, .ref 176), (2, .int x2), (3, .int 0), (4, .int (-1))] (lt_e X_193 rfl) rfl ?_)
    refine q0 I_193_184 (wi_iconst 0 rfl ?_)
    refine q0 I_193_185 (wi_istore [(0, .ref 176), (2, .int x2), (3, .int 0), (4, .int (-1)), (5, .int 0)] (lt_e X_193 rfl) rfl ?_)
    exact Wq_c I_193_187 rfl rfl H
  · replace H := H.2 h
    refine q1 (ls' := [(0, .ref 176), (2, .int x2), (3, .int x3)]) I_193_16 rfl (wi_iconst 0 rfl ?_)
    refine q0 I_193_17 (wi_istore [(0, .ref 176), (2, .int x2), (3, .int x3), (4, .int 0)] (lt_e X_193 rfl) rfl ?_)
    exact Wq_c I_193_19 rfl rfl H
theorem r_193_187 {x2 : Int32} {x3 : Int32} {x4 : Int32} {x5 : Int32} {di : tDi} {dl : tDl} {K : Int32 → tDi → tDl → Prop} (H : ((x2 < x5 → ((¬ x2 = (-1) → (((di 183 0) ≤ x2 → (K (-1) di dl)) ∧ (x2 < (di 183 0) → (K x4 di dl)))) ∧ (x2 = (-1) → (K (di 190 0) di dl)))) ∧ (x5 ≤ x2 → (((di 183 0) ≤ x5 → ((¬ x2 = (-1) → (((di 183 0) ≤ x2 → (K (-1) di dl)) ∧ (x2 < (di 183 0) → (K x4 di dl)))) ∧ (x2 = (-1) → (K (di 190 0) di dl)))) ∧ (x5 < (di 183 0) → (Wq none 5 193 217 [(0, .ref 176), (2, .int x2), (3, .int x3), (4, .int (-1)), (5, .int x5), (6, .int ((di 183 1) - 1))] [] di dl (RI K))))))) : Wq none 5 193 187 [(0, .ref 176), (2, .int x2), (3, .int x3), (4, .int x4), (5, .int x5)] [] di dl (RI K) := by
  refine q1 (ls' := [(0, .ref 176), (2, .int x2), (3, .int x3), (4, .int x4), (5, .int x5)]) I_193_187 rfl (wi_iload _ rfl ?_)
  refine q0 I_193_189 (wi_iload_n _ rfl ?_)
  refine q0 I_193_190 (wi_ic_gt (fun h => ?_) (fun h => ?_))
  · replace H := H.1 h
    refine q1 (ls' := [(0, .ref 176), (2, .int x2), (4, .int x4)]) I_193_330 rfl (wi_iload_n _ rfl ?_)
    refine q0 I_193_331 (wi_iconst (-1) rfl ?_)
    refine q0 I_193_332 (wi_ic_ne (fun h => ?_) (fun h => ?_))
    · replace H := H.1 h
      refine q1 (ls' := [(0, .ref 176), (2, .int x2), (4, .int x4)]) I_193_344 rfl (wi_iload_n _ rfl ?_)
      refine q0 I_193_345 (wi_aload_n _ rfl ?_)
      refine q0 I_193_346 (wi_get (.ref 183) S_176 rfl (by decide) rfl ?_)
      refine q0 I_193_349 (wi_iconst 0 rfl ?_)
      refine q0 I_193_350 (wi_iaload 0 S_183 rfl rfl ?_)
      refine q0 I_193_351 (wi_ic_ge (fun h => ?_) (fun h => ?_))
      · replace H := H.1 h
        refine q1 (ls' := []) I_193_359 rfl (wi_iconst (-1) rfl ?_)
        exact q1 (ls' := []) I_193_360 rfl (wi_iret T_193 C_193 ⟨_, rfl, H⟩)
      · replace H := H.2 h
        refine q1 (ls' := [(4, .int x4)]) I_193_354 rfl (wi_iload _ rfl ?_)
        refine q0 I_193_356 (wi_goto ?_)
        exact q1 (ls' := []) I_193_360 rfl (wi_iret T_193 C_193 ⟨_, rfl, H⟩)
    · replace H := H.2 h
      refine q1 (ls' := [(0, .ref 176)]) I_193_335 rfl (wi_aload_n _ rfl ?_)
      refine q0 I_193_336 (wi_get (.ref 190) S_176 rfl (by decide) rfl ?_)
      refine q0 I_193_339 (wi_iconst 0 rfl ?_)
      refine q0 I_193_340 (wi_iaload 0 S_190 rfl rfl ?_)
      refine q0 I_193_341 (wi_goto ?_)
      exact q1 (ls' := []) I_193_360 rfl (wi_iret T_193 C_193 ⟨_, rfl, H⟩)
  · replace H := H.2 h
    refine q1 (ls' := [(0, .ref 176), (2, .int x2), (3, .int x3), (4, .int x4), (5, .int x5)]) I_193_193 rfl (wi_iload _ rfl ?_)
    refine q0 I_193_195 (wi_aload_n _ rfl ?_)
    refine q0 I_193_196 (wi_get (.ref 183) S_176 rfl (by decide) rfl ?_)
    refine q0 I_193_199 (wi_iconst 0 rfl ?_)
    refine q0 I_193_200 (wi_iaload 0 S_183 rfl rfl ?_)
    refine q0 I_193_201 (wi_ic_ge (fun h => ?_) (fun h => ?_))
    · replace H := H.1 h
      refine q1 (ls' := [(0, .ref 176), (2, .int x2), (4, .int x4)]) I_193_330 rfl (wi_iload_n _ rfl ?_)
      refine q0 I_193_331 (wi_iconst (-1) rfl ?_)
      refine q0 I_193_332 (wi_ic_ne (fun h => ?_) (fun h => ?_))
      · replace H := H.1 h
        refine q1 (ls' := [(0, .ref 176), (2, .int x2), (4, .int x4)]) I_193_344 rfl (wi_iload_n _ rfl ?_)
        refine q0 I_193_345 (wi_aload_n _ rfl ?_)
        refine q0 I_193_346 (wi_get (.ref 183) S_176 rfl (by decide) rfl ?_)
        refine q0 I_193_349 (wi_iconst 0 rfl ?_)
        refine q0 I_193_350 (wi_iaload 0 S_183 rfl rfl ?_)
        refine q0 I_193_351 (wi_ic_ge (fun h => ?_) (fun h => ?_))
        · replace H := H.1 h
          refine q1 (ls' := []) I_193_359 rfl (wi_iconst (-1) rfl ?_)
          exact q1 (ls' := []) I_193_360 rfl (wi_iret T_193 C_193 ⟨_, rfl, H⟩)
        · replace H := H.2 h
          refine q1 (ls' := [(4, .int x4)]) I_193_354 rfl (wi_iload _ rfl ?_)
          refine q0 I_193_356 (wi_goto ?_)
          exact q1 (ls' := []) I_193_360 rfl (wi_iret T_193 C_193 ⟨_, rfl, H⟩)
      · replace H := H.2 h
        refine q1 (ls' := [(0, .ref 176)]) I_193_335 rfl (wi_aload_n _ rfl ?_)
        refine q0 I_193_336 (wi_get (.ref 190) S_176 rfl (by decide) rfl ?_)
        refine q0 I_193_339 (wi_iconst 0 rfl ?_)
        refine q0 I_193_340 (wi_iaload 0 S_190 rfl rfl ?_)
        refine q0 I_193_341 (wi_goto ?_)
        exact q1 (ls' := []) I_193_360 rfl (wi_iret T_193 C_193 ⟨_, rfl, H⟩)
    · replace H := H.2 h
      refine q1 (ls' := [(0, .ref 176), (2, .int x2), (3, .int x3), (5, .int x5)]) I_193_204 rfl (wi_iconst (-1) rfl ?_)
      refine q0 I_193_205 (wi_istore [(0, .ref 176), (2, .int x2), (3, .int x3), (4, .int (-1)), (5, .int x5)] (lt_e X_193 rfl) rfl ?_)
      refine q0 I_193_207 (wi_aload_n _ rfl ?_)
      refine q0 I_193_208 (wi_get (.ref 183) S_176 rfl (by decide) rfl ?_)
      refine q0 I_193_211 (wi_iconst 1 rfl ?_)
      refine q0 I_193_212 (wi_iaload 1 S_183 rfl rfl ?_)
      refine q0 I_193_213 (wi_iconst 1 rfl ?_)
      refine q0 I_193_214 (wi_isub ?_)
      refine q0 I_193_215 (wi_istore [(0, .ref 176), (2, .int x2), (3, .int x3), (4, .int (-1)), (5, .int x5), (6, .int ((di 183 1) - 1))] (lt_e X_193 rfl) rfl ?_)
      exact Wq_c I_193_217 rfl rfl H
theorem r_193_19 {x2 : Int32} {x3 : Int32} {x4 : Int32} {di : tDi} {dl : tDl} {K : Int32 → tDi → tDl → Prop} (H : ((256 ≤ x4 → (Wq none 5 193 12 [(0, .ref 176), (2, .int x2), (3, .int (x3 + (-1)))] [] di dl (RI K))) ∧ (x4 < 256 → ((¬ x3 = (di 183 0) → (inB (((256 : Int32) * (x3 + 1)) + x4) 2304 = true ∧ (Wq none 5 193 61 [(0, .ref 176), (2, .int x2), (3, .int x3), (4, .int x4), (5, .int (di 190 ((((256 : Int32) * (x3 + 1)) + x4).toNatClampNeg))), (6, .int 0)] [] di dl (RI K)))) ∧ (x3 = (di 183 0) → (Wq none 5 193 61 [(0, .ref 176), (2, .int x2), (3, .int x3), (4, .int x4), (5, .int 0), (6, .int 0)] [] di dl (RI K))))))) : Wq none 5 193 19 [(0, .ref 176), (2, .int x2), (3, .int x3), (4, .int x4)] [] di dl (RI K) := by
  refine q1 (ls' := [(0, .ref 176), (2, .int x2), (3, .int x3), (4, .int x4)]) I_193_19 rfl (wi_iload _ rfl ?_)
  refine q0 I_193_21 (wi_sipush 256 rfl ?_)
  refine q0 I_193_24 (wi_ic_ge (fun h => ?_) (fun h => ?_))
  · replace H := H.1 h
    refine q1 (ls' := [(0, .ref 176), (2, .int x2), (3, .int x3)]) I_193_173 rfl (wi_iinc (-1) [(0, .ref 176), (2, .int x2), (3, .int (x3 + (-1)))] rfl (lt_e X_193 rfl) rfl rfl ?_)
    refine q0 I_193_176 (wi_goto ?_)
    exact Wq_c I_193_12 rfl rfl H
  · replace H := H.2 h
    refine q1 (ls' := [(0, .ref 176), (2, .int x2), (3, .int x3), (4, .int x4)]) I_193_27 rfl (wi_iload_n _ rfl ?_)
    refine q0 I_193_28 (wi_aload_n _ rfl ?_)
    refine q0 I_193_29 (wi_get (.ref 183) S_176 rfl (by decide) rfl ?_)
    refine q0 I_193_32 (wi_iconst 0 rfl ?_)
    refine q0 I_193_33 (wi_iaload 0 S_183 rfl rfl ?_)
    refine q0 I_193_34 (wi_ic_ne (fun h => ?_) (fun h => ?_))
    · replace H := H.1 h
      refine q1 (ls' := [(0, .ref 176), (2, .int x2), (3, .int x3), (4, .int x4)]) I_193_41 rfl (wi_aload_n _ rfl ?_)
      refine q0 I_193_42 (wi_get (.ref 190) S_176 rfl (by decide) rfl ?_)
      refine q0 I_193_45 (wi_sipush 256 rfl ?_)
      refine q0 I_193_48 (wi_iload_n _ rfl ?_)
      refine q0 I_193_49 (wi_iconst 1 rfl ?_)
      refine q0 I_193_50 (wi_iadd ?_)
      refine q0 I_193_51 (wi_imul ?_)
      refine q0 I_193_52 (wi_iload _ rfl ?_)
      refine q0 I_193_54 (wi_iadd ?_)
      have hb21 := H.1
      replace H := H.2
      refine q0 I_193_55 (wi_iaload ((((256 : Int32) * (x3 + 1)) + x4).toNatClampNeg) S_190 hb21 rfl ?_)
      refine q1 (ls' := [(0, .ref 176), (2, .int x2), (3, .int x3), (4, .int x4)]) I_193_56 rfl (wi_istore [(0, .ref 176), (2, .int x2), (3, .int x3), (4, .int x4), (5, .int (di 190 ((((256 : Int32) * (x3 + 1)) + x4).toNatClampNeg)))] (lt_e X_193 rfl) rfl ?_)
      refine q0 I_193_58 (wi_iconst 0 rfl ?_)
      refine q0 I_193_59 (wi_istore [(0, .ref 176), (2, .int x2), (3, .int x3), (4, .int x4), (5, .int (di 190 ((((256 : Int32) * (x3 + 1)) + x4).toNatClampNeg))), (6, .int 0)] (lt_e X_193 rfl) rfl ?_)
      exact Wq_c I_193_61 rfl rfl H
    · replace H := H.2 h
      refine q1 (ls' := [(0, .ref 176), (2, .int x2), (3, .int x3), (4, .int x4)]) I_193_37 rfl (wi_iconst 0 rfl ?_)
      refine q0 I_193_38 (wi_goto ?_)
      refine q1 (ls' := [(0, .ref 176), (2, .int x2), (3, .int x3), (4, .int x4)]) I_193_56 rfl (wi_istore [(0, .ref 176), (2, .int x2), (3, .int x3), (4, .int x4), (5, .int 0)] (lt_e X_193 rfl) rfl ?_)
      refine q0 I_193_58 (wi_iconst 0 rfl ?_)
      refine q0 I_193_59 (wi_istore [(0, .ref 176), (2, .int x2), (3, .int x3), (4, .int x4), (5, .int 0), (6, .int 0)] (lt_e X_193 rfl) rfl ?_)
      exact Wq_c I_193_61 rfl rfl H
theorem r_193_217 {x2 : Int32} {x3 : Int32} {x4 : Int32} {x5 : Int32} {x6 : Int32} {di : tDi} {dl : tDl} {K : Int32 → tDi → tDl → Prop} (H : ((x6 < 0 → ((¬ x4 = (-1) → (Wq none 5 193 187 [(0, .ref 176), (2, .int x2), (3, .int (x3 ||| ((1 : Int32) <<< (x4 &&& 31)))), (4, .int x4), (5, .int (x5 + 1))] [] di dl (RI K))) ∧ (x4 = (-1) → (Wq none 5 193 187 [(0, .ref 176), (2, .int x2), (3, .int (x3 ||| 0)), (4, .int x4), (5, .int (x5 + 1))] [] di dl (RI K))))) ∧ (0 ≤ x6 → ((¬ ((x3 >>> (x6 &&& 31)) &&& 1) = 1 → (ClI 1 176 [.ref 176, .int x6, .int x5] di dl (fun r21 di21 dl21 => ((r21 = 0 → (Wq none 5 193 217 [(0, .ref 176), (2, .int x2), (3, .int x3), (4, .int x4), (5, .int x5), (6, .int (x6 + (-1)))] [] di21 dl21 (RI K))) ∧ (¬ r21 = 0 → (inB (((256 : Int32) * (x5 + 1)) + (x3 ||| ((1 : Int32) <<< (x6 &&& 31)))) 2304 = true ∧ (inB (((256 : Int32) * x5) + x3) 2304 = true ∧ ((¬ ((1 : Int32) + (di21 190 ((((256 : Int32) * (x5 + 1)) + (x3 ||| ((1 : Int32) <<< (x6 &&& 31)))).toNatClampNeg))) = (di21 190 ((((256 : Int32) * x5) + x3).toNatClampNeg)) → (Wq none 5 193 217 [(0, .ref 176), (2, .int x2), (3, .int x3), (4, .int x4), (5, .int x5), (6, .int (x6 + (-1)))] [] di21 dl21 (RI K))) ∧ (((1 : Int32) + (di21 190 ((((256 : Int32) * (x5 + 1)) + (x3 ||| ((1 : Int32) <<< (x6 &&& 31)))).toNatClampNeg))) = (di21 190 ((((256 : Int32) * x5) + x3).toNatClampNeg)) → (Wq none 5 193 217 [(0, .ref 176), (2, .int x2), (3, .int x3), (4, .int x6), (5, .int x5), (6, .int (x6 + (-1)))] [] di21 dl21 (RI K))))))))))) ∧ (((x3 >>> (x6 &&& 31)) &&& 1) = 1 → (Wq none 5 193 217 [(0, .ref 176), (2, .int x2), (3, .int x3), (4, .int x4), (5, .int x5), (6, .int (x6 + (-1)))] [] di dl (RI K))))))) : Wq none 5 193 217 [(0, .ref 176), (2, .int x2), (3, .int x3), (4, .int x4), (5, .int x5), (6, .int x6)] [] di dl (RI K) := by
  refine q1 (ls' := [(0, .ref 176), (2, .int x2), (3, .int x3), (4, .int x4), (5, .int x5), (6, .int x6)]) I_193_217 rfl (wi_iload _ rfl ?_)
  refine q0 I_193_219 (wi_if_lt (fun h => ?_) (fun h => ?_))
  · replace H := H.1 h
    refine q1 (ls' := [(0, .ref 176), (2, .int x2), (3, .int x3), (4, .int x4), (5, .int x5)]) I_193_307 rfl (wi_iload_n _ rfl ?_)
    refine q0 I_193_308 (wi_iload _ rfl ?_)
    refine q0 I_193_310 (wi_iconst (-1) rfl ?_)
    refine q0 I_193_311 (wi_ic_ne (fun h => ?_) (fun h => ?_))
    · replace H := H.1 h
      refine q1 (ls' := [(0, .ref 176), (2, .int x2), (4, .int x4), (5, .int x5)]) I_193_318 rfl (wi_iconst 1 rfl ?_)
      refine q0 I_193_319 (wi_iload _ rfl ?_)
      refine q0 I_193_321 (wi_ishl ?_)
      refine q1 (ls' := [(0, .ref 176), (2, .int x2), (4, .int x4), (5, .int x5)]) I_193_322 rfl (wi_ior ?_)
      refine q0 I_193_323 (wi_istore_n [(0, .ref 176), (2, .int x2), (3, .int (x3 ||| ((1 : Int32) <<< (x4 &&& 31)))), (4, .int x4), (5, .int x5)] (lt_e X_193 rfl) rfl ?_)
      refine q0 I_193_324 (wi_iinc 1 [(0, .ref 176), (2, .int x2), (3, .int (x3 ||| ((1 : Int32) <<< (x4 &&& 31)))), (4, .int x4), (5, .int (x5 + 1))] rfl (lt_e X_193 rfl) rfl rfl ?_)
      refine q0 I_193_327 (wi_goto ?_)
      exact Wq_c I_193_187 rfl rfl H
    · replace H := H.2 h
      refine q1 (ls' := [(0, .ref 176), (2, .int x2), (4, .int x4), (5, .int x5)]) I_193_314 rfl (wi_iconst 0 rfl ?_)
      refine q0 I_193_315 (wi_goto ?_)
      refine q1 (ls' := [(0, .ref 176), (2, .int x2), (4, .int x4), (5, .int x5)]) I_193_322 rfl (wi_ior ?_)
      refine q0 I_193_323 (wi_istore_n [(0, .ref 176), (2, .int x2), (3, .int (x3 ||| 0)), (4, .int x4), (5, .int x5)] (lt_e X_193 rfl) rfl ?_)
      refine q0 I_193_324 (wi_iinc 1 [(0, .ref 176), (2, .int x2), (3, .int (x3 ||| 0)), (4, .int x4), (5, .int (x5 + 1))] rfl (lt_e X_193 rfl) rfl rfl ?_)
      refine q0 I_193_327 (wi_goto ?_)
      exact Wq_c I_193_187 rfl rfl H
  · replace H := H.2 h
    refine q1 (ls' := [(0, .ref 176), (2, .int x2), (3, .int x3), (4, .int x4), (5, .int x5), (6, .int x6)]) I_193_222 rfl (wi_iload_n _ rfl ?_)
    refine q0 I_193_223 (wi_iload _ rfl ?_)
    refine q0 I_193_225 (wi_statI (e := 4) [.int x3, .int x6] [] rfl (Or.inl rfl) rfl rfl rfl (okC_i rfl rfl rfl) C_137 (by decide) (Cl_of C_137 Z_137 [(0, .int x3), (1, .int x6)] rfl ?_))
    refine q0 I_137_0 (wi_iload_n _ rfl ?_)
    refine q0 I_137_1 (wi_iload_n _ rfl ?_)
    refine q0 I_137_2 (wi_ishr ?_)
    refine q0 I_137_3 (wi_iconst 1 rfl ?_)
    refine q0 I_137_4 (wi_iand ?_)
    refine q0 I_137_5 (wi_iconst 1 rfl ?_)
    refine q0 I_137_6 (wi_ic_ne (fun h => ?_) (fun h => ?_))
    · replace H := H.1 h
      refine q1 (ls' := []) I_137_13 rfl (wi_iconst 0 rfl ?_)
      refine q1 (ls' := []) I_137_14 rfl (wi_zret T_137 (Or.inl C_137) (Or.inl rfl) ⟨_, rfl, ?_⟩)
      refine q0 I_193_228 (wi_ifF rfl ?_)
      refine q1 (ls' := [(0, .ref 176), (2, .int x2), (3, .int x3), (4, .int x4), (5, .int x5), (6, .int x6)]) I_193_231 rfl (wi_aload_n _ rfl ?_)
      refine q0 I_193_232 (wi_iload _ rfl ?_)
      refine q0 I_193_234 (wi_iload _ rfl ?_)
      refine q0 I_193_236 (wi_virtI (e := 1) [.int x6, .int x5] [] S_176 rfl (by decide) rfl rfl rfl (okC_i rfl rfl rfl) C_176 (by decide) (ClI_mono H ?_))
      intro r21 di21 dl21 H
      refine q0 I_193_239 (wi_if_eq (fun h => ?_) (fun h => ?_))
      · replace H := H.1 h
        refine q1 (ls' := [(0, .ref 176), (2, .int x2), (3, .int x3), (4, .int x4), (5, .int x5), (6, .int x6)]) I_193_246 rfl (wi_iconst 0 rfl ?_)
        refine q1 (ls' := [(0, .ref 176), (2, .int x2), (3, .int x3), (4, .int x4), (5, .int x5), (6, .int x6)]) I_193_247 rfl (wi_istore [(0, .ref 176), (2, .int x2), (3, .int x3), (4, .int x4), (5, .int x5), (6, .int x6), (7, .int 0)] (lt_e X_193 rfl) rfl ?_)
        refine q0 I_193_249 (wi_iload _ rfl ?_)
        refine q0 I_193_251 (wi_ifT rfl ?_)
        refine q1 (ls' := [(0, .ref 176), (2, .int x2), (3, .int x3), (4, .int x4), (5, .int x5), (6, .int x6)]) I_193_297 rfl (wi_iload _ rfl ?_)
        refine q1 (ls' := [(0, .ref 176), (2, .int x2), (3, .int x3), (5, .int x5), (6, .int x6)]) I_193_299 rfl (wi_istore [(0, .ref 176), (2, .int x2), (3, .int x3), (4, .int x4), (5, .int x5), (6, .int x6)] (lt_e X_193 rfl) rfl ?_)
        refine q0 I_193_301 (wi_iinc (-1) [(0, .ref 176), (2, .int x2), (3, .int x3), (4, .int x4), (5, .int x5), (6, .int (x6 + (-1)))] rfl (lt_e X_193 rfl) rfl rfl ?_)
        refine q0 I_193_304 (wi_goto ?_)
        exact Wq_c I_193_217 rfl rfl H
      · replace H := H.2 h
        refine q1 (ls' := [(0, .ref 176), (2, .int x2), (3, .int x3), (4, .int x4), (5, .int x5), (6, .int x6)]) I_193_242 rfl (wi_iconst 1 rfl ?_)
        refine q0 I_193_243 (wi_goto ?_)
        refine q1 (ls' := [(0, .ref 176), (2, .int x2), (3, .int x3), (4, .int x4), (5, .int x5), (6, .int x6)]) I_193_247 rfl (wi_istore [(0, .ref 176), (2, .int x2), (3, .int x3), (4, .int x4), (5, .int x5), (6, .int x6), (7, .int 1)] (lt_e X_193 rfl) rfl ?_)
        refine q0 I_193_249 (wi_iload _ rfl ?_)
        refine q0 I_193_251 (wi_ifF rfl ?_)
        refine q1 (ls' := [(0, .ref 176), (2, .int x2), (3, .int x3), (4, .int x4), (5, .int x5), (6, .int x6)]) I_193_254 rfl (wi_iconst 1 rfl ?_)
        refine q0 I_193_255 (wi_aload_n _ rfl ?_)
        refine q0 I_193_256 (wi_get (.ref 190) S_176 rfl (by decide) rfl ?_)
        refine q0 I_193_259 (wi_sipush 256 rfl ?_)
        refine q0 I_193_262 (wi_iload _ rfl ?_)
        refine q0 I_193_264 (wi_iconst 1 rfl ?_)
        refine q0 I_193_265 (wi_iadd ?_)
        refine q0 I_193_266 (wi_imul ?_)
        refine q0 I_193_267 (wi_iload_n _ rfl ?_)
        refine q0 I_193_268 (wi_iconst 1 rfl ?_)
        refine q0 I_193_269 (wi_iload _ rfl ?_)
        refine q0 I_193_271 (wi_ishl ?_)
        refine q0 I_193_272 (wi_ior ?_)
        refine q0 I_193_273 (wi_iadd ?_)
        have hb22 := H.1
        replace H := H.2
        refine q0 I_193_274 (wi_iaload ((((256 : Int32) * (x5 + 1)) + (x3 ||| ((1 : Int32) <<< (x6 &&& 31)))).toNatClampNeg) S_190 hb22 rfl ?_)
        refine q0 I_193_275 (wi_iadd ?_)
        refine q0 I_193_276 (wi_aload_n _ rfl ?_)
        refine q0 I_193_277 (wi_get (.ref 190) S_176 rfl (by decide) rfl ?_)
        refine q0 I_193_280 (wi_sipush 256 rfl ?_)
        refine q0 I_193_283 (wi_iload _ rfl ?_)
        refine q0 I_193_285 (wi_imul ?_)
        refine q0 I_193_286 (wi_iload_n _ rfl ?_)
        refine q0 I_193_287 (wi_iadd ?_)
        have hb23 := H.1
        replace H := H.2
        refine q0 I_193_288 (wi_iaload ((((256 : Int32) * x5) + x3).toNatClampNeg) S_190 hb23 rfl ?_)
        refine q0 I_193_289 (wi_ic_ne (fun h => ?_) (fun h => ?_))
        · replace H := H.1 h
          refine q1 (ls' := [(0, .ref 176), (2, .int x2), (3, .int x3), (4, .int x4), (5, .int x5), (6, .int x6)]) I_193_297 rfl (wi_iload _ rfl ?_)
          refine q1 (ls' := [(0, .ref 176), (2, .int x2), (3, .int x3), (5, .int x5), (6, .int x6)]) I_193_299 rfl (wi_istore [(0, .ref 176), (2, .int x2), (3, .int x3), (4, .int x4), (5, .int x5), (6, .int x6)] (lt_e X_193 rfl) rfl ?_)
          refine q0 I_193_301 (wi_iinc (-1) [(0, .ref 176), (2, .int x2), (3, .int x3), (4, .int x4), (5, .int x5), (6, .int (x6 + (-1)))] rfl (lt_e X_193 rfl) rfl rfl ?_)
          refine q0 I_193_304 (wi_goto ?_)
          exact Wq_c I_193_217 rfl rfl H
        · replace H := H.2 h
          refine q1 (ls' := [(0, .ref 176), (2, .int x2), (3, .int x3), (5, .int x5), (6, .int x6)]) I_193_292 rfl (wi_iload _ rfl ?_)
          refine q0 I_193_294 (wi_goto ?_)
          refine q1 (ls' := [(0, .ref 176), (2, .int x2), (3, .int x3), (5, .int x5), (6, .int x6)]) I_193_299 rfl (wi_istore [(0, .ref 176), (2, .int x2), (3, .int x3), (4, .int x6), (5, .int x5), (6, .int x6)] (lt_e X_193 rfl) rfl ?_)
          refine q0 I_193_301 (wi_iinc (-1) [(0, .ref 176), (2, .int x2), (3, .int x3), (4, .int x6), (5, .int x5), (6, .int (x6 + (-1)))] rfl (lt_e X_193 rfl) rfl rfl ?_)
          refine q0 I_193_304 (wi_goto ?_)
          exact Wq_c I_193_217 rfl rfl H
    · replace H := H.2 h
      refine q1 (ls' := []) I_137_9 rfl (wi_iconst 1 rfl ?_)
      refine q0 I_137_10 (wi_goto ?_)
      refine q1 (ls' := []) I_137_14 rfl (wi_zret T_137 (Or.inl C_137) (Or.inr rfl) ⟨_, rfl, ?_⟩)
      refine q0 I_193_228 (wi_ifT rfl ?_)
      refine q1 (ls' := [(0, .ref 176), (2, .int x2), (3, .int x3), (4, .int x4), (5, .int x5), (6, .int x6)]) I_193_246 rfl (wi_iconst 0 rfl ?_)
      refine q1 (ls' := [(0, .ref 176), (2, .int x2), (3, .int x3), (4, .int x4), (5, .int x5), (6, .int x6)]) I_193_247 rfl (wi_istore [(0, .ref 176), (2, .int x2), (3, .int x3), (4, .int x4), (5, .int x5), (6, .int x6), (7, .int 0)] (lt_e X_193 rfl) rfl ?_)
      refine q0 I_193_249 (wi_iload _ rfl ?_)
      refine q0 I_193_251 (wi_ifT rfl ?_)
      refine q1 (ls' := [(0, .ref 176), (2, .int x2), (3, .int x3), (4, .int x4), (5, .int x5), (6, .int x6)]) I_193_297 rfl (wi_iload _ rfl ?_)
      refine q1 (ls' := [(0, .ref 176), (2, .int x2), (3, .int x3), (5, .int x5), (6, .int x6)]) I_193_299 rfl (wi_istore [(0, .ref 176), (2, .int x2), (3, .int x3), (4, .int x4), (5, .int x5), (6, .int x6)] (lt_e X_193 rfl) rfl ?_)
      refine q0 I_193_301 (wi_iinc (-1) [(0, .ref 176), (2, .int x2), (3, .int x3), (4, .int x4), (5, .int x5), (6, .int (x6 + (-1)))] rfl (lt_e X_193 rfl) rfl rfl ?_)
      refine q0 I_193_304 (wi_goto ?_)
      exact Wq_c I_193_217 rfl rfl H
theorem r_193_61 {x2 : Int32} {x3 : Int32} {x4 : Int32} {x5 : Int32} {x6 : Int32} {di : tDi} {dl : tDl} {K : Int32 → tDi → tDl → Prop} (H : (((di 183 1) ≤ x6 → (inB (((256 : Int32) * x3) + x4) 2304 = true ∧ (Wq none 5 193 19 [(0, .ref 176), (2, .int x2), (3, .int x3), (4, .int (x4 + 1))] [] (up2 di 190 ((((256 : Int32) * x3) + x4).toNatClampNeg) x5) dl (RI K)))) ∧ (x6 < (di 183 1) → (((di 183 0) ≤ x3 → (inB (((256 : Int32) * x3) + x4) 2304 = true ∧ (Wq none 5 193 19 [(0, .ref 176), (2, .int x2), (3, .int x3), (4, .int (x4 + 1))] [] (up2 di 190 ((((256 : Int32) * x3) + x4).toNatClampNeg) x5) dl (RI K)))) ∧ (x3 < (di 183 0) → ((¬ ((x4 >>> (x6 &&& 31)) &&& 1) = 1 → (ClI 1 176 [.ref 176, .int x6, .int x3] di dl (fun r23 di23 dl23 => ((r23 = 0 → ((0 ≤ x5 → (Wq none 5 193 61 [(0, .ref 176), (2, .int x2), (3, .int x3), (4, .int x4), (5, .int x5), (6, .int (x6 + 1))] [] di23 dl23 (RI K))) ∧ (x5 < 0 → (Wq none 5 193 61 [(0, .ref 176), (2, .int x2), (3, .int x3), (4, .int x4), (5, .int 0), (6, .int (x6 + 1))] [] di23 dl23 (RI K))))) ∧ (¬ r23 = 0 → (inB (((256 : Int32) * (x3 + 1)) + (x4 ||| ((1 : Int32) <<< (x6 &&& 31)))) 2304 = true ∧ ((((1 : Int32) + (di23 190 ((((256 : Int32) * (x3 + 1)) + (x4 ||| ((1 : Int32) <<< (x6 &&& 31)))).toNatClampNeg))) ≤ x5 → (Wq none 5 193 61 [(0, .ref 176), (2, .int x2), (3, .int x3), (4, .int x4), (5, .int x5), (6, .int (x6 + 1))] [] di23 dl23 (RI K))) ∧ (x5 < ((1 : Int32) + (di23 190 ((((256 : Int32) * (x3 + 1)) + (x4 ||| ((1 : Int32) <<< (x6 &&& 31)))).toNatClampNeg))) → (Wq none 5 193 61 [(0, .ref 176), (2, .int x2), (3, .int x3), (4, .int x4), (5, .int ((1 : Int32) + (di23 190 ((((256 : Int32) * (x3 + 1)) + (x4 ||| ((1 : Int32) <<< (x6 &&& 31)))).toNatClampNeg)))), (6, .int (x6 + 1))] [] di23 dl23 (RI K)))))))))) ∧ (((x4 >>> (x6 &&& 31)) &&& 1) = 1 → ((0 ≤ x5 → (Wq none 5 193 61 [(0, .ref 176), (2, .int x2), (3, .int x3), (4, .int x4), (5, .int x5), (6, .int (x6 + 1))] [] di dl (RI K))) ∧ (x5 < 0 → (Wq none 5 193 61 [(0, .ref 176), (2, .int x2), (3, .int x3), (4, .int x4), (5, .int 0), (6, .int (x6 + 1))] [] di dl (RI K))))))))))) : Wq none 5 193 61 [(0, .ref 176), (2, .int x2), (3, .int x3), (4, .int x4), (5, .int x5), (6, .int x6)] [] di dl (RI K) := by
  refine q1 (ls' := [(0, .ref 176), (2, .int x2), (3, .int x3), (4, .int x4), (5, .int x5), (6, .int x6)]) I_193_61 rfl (wi_iload _ rfl ?_)
  refine q0 I_193_63 (wi_aload_n _ rfl ?_)
  refine q0 I_193_64 (wi_get (.ref 183) S_176 rfl (by decide) rfl ?_)
  refine q0 I_193_67 (wi_iconst 1 rfl ?_)
  refine q0 I_193_68 (wi_iaload 1 S_183 rfl rfl ?_)
  refine q0 I_193_69 (wi_ic_ge (fun h => ?_) (fun h => ?_))
  · replace H := H.1 h
    refine q1 (ls' := [(0, .ref 176), (2, .int x2), (3, .int x3), (4, .int x4), (5, .int x5)]) I_193_152 rfl (wi_aload_n _ rfl ?_)
    refine q0 I_193_153 (wi_get (.ref 190) S_176 rfl (by decide) rfl ?_)
    refine q0 I_193_156 (wi_sipush 256 rfl ?_)
    refine q0 I_193_159 (wi_iload_n _ rfl ?_)
    refine q0 I_193_160 (wi_imul ?_)
    refine q0 I_193_161 (wi_iload _ rfl ?_)
    refine q0 I_193_163 (wi_iadd ?_)
    refine q0 I_193_164 (wi_iload _ rfl ?_)
    have hb21 := H.1
    replace H := H.2
    refine q0 I_193_166 (wi_iastore ((((256 : Int32) * x3) + x4).toNatClampNeg) S_190 hb21 rfl ?_)
    refine q0 I_193_167 (wi_iinc 1 [(0, .ref 176), (2, .int x2), (3, .int x3), (4, .int (x4 + 1)), (5, .int x5)] rfl (lt_e X_193 rfl) rfl rfl ?_)
    refine q0 I_193_170 (wi_goto ?_)
    exact Wq_c I_193_19 rfl rfl H
  · replace H := H.2 h
    refine q1 (ls' := [(0, .ref 176), (2, .int x2), (3, .int x3), (4, .int x4), (5, .int x5), (6, .int x6)]) I_193_72 rfl (wi_iload_n _ rfl ?_)
    refine q0 I_193_73 (wi_aload_n _ rfl ?_)
    refine q0 I_193_74 (wi_get (.ref 183) S_176 rfl (by decide) rfl ?_)
    refine q0 I_193_77 (wi_iconst 0 rfl ?_)
    refine q0 I_193_78 (wi_iaload 0 S_183 rfl rfl ?_)
    refine q0 I_193_79 (wi_ic_ge (fun h => ?_) (fun h => ?_))
    · replace H := H.1 h
      refine q1 (ls' := [(0, .ref 176), (2, .int x2), (3, .int x3), (4, .int x4), (5, .int x5)]) I_193_152 rfl (wi_aload_n _ rfl ?_)
      refine q0 I_193_153 (wi_get (.ref 190) S_176 rfl (by decide) rfl ?_)
      refine q0 I_193_156 (wi_sipush 256 rfl ?_)
      refine q0 I_193_159 (wi_iload_n _ rfl ?_)
      refine q0 I_193_160 (wi_imul ?_)
      refine q0 I_193_161 (wi_iload _ rfl ?_)
      refine q0 I_193_163 (wi_iadd ?_)
      refine q0 I_193_164 (wi_iload _ rfl ?_)
      have hb22 := H.1
      replace H := H.2
      refine q0 I_193_166 (wi_iastore ((((256 : Int32) * x3) + x4).toNatClampNeg) S_190 hb22 rfl ?_)
      refine q0 I_193_167 (wi_iinc 1 [(0, .ref 176), (2, .int x2), (3, .int x3), (4, .int (x4 + 1)), (5, .int x5)] rfl (lt_e X_193 rfl) rfl rfl ?_)
      refine q0 I_193_170 (wi_goto ?_)
      exact Wq_c I_193_19 rfl rfl H
    · replace H := H.2 h
      refine q1 (ls' := [(0, .ref 176), (2, .int x2), (3, .int x3), (4, .int x4), (5, .int x5), (6, .int x6)]) I_193_82 rfl (wi_iload _ rfl ?_)
      refine q0 I_193_84 (wi_iload _ rfl ?_)
      refine q0 I_193_86 (wi_statI (e := 4) [.int x4, .int x6] [] rfl (Or.inl rfl) rfl rfl rfl (okC_i rfl rfl rfl) C_137 (by decide) (Cl_of C_137 Z_137 [(0, .int x4), (1, .int x6)] rfl ?_))
      refine q0 I_137_0 (wi_iload_n _ rfl ?_)
      refine q0 I_137_1 (wi_iload_n _ rfl ?_)
      refine q0 I_137_2 (wi_ishr ?_)
      refine q0 I_137_3 (wi_iconst 1 rfl ?_)
      refine q0 I_137_4 (wi_iand ?_)
      refine q0 I_137_5 (wi_iconst 1 rfl ?_)
      refine q0 I_137_6 (wi_ic_ne (fun h => ?_) (fun h => ?_))
      · replace H := H.1 h
        refine q1 (ls' := []) I_137_13 rfl (wi_iconst 0 rfl ?_)
        refine q1 (ls' := []) I_137_14 rfl (wi_zret T_137 (Or.inl C_137) (Or.inl rfl) ⟨_, rfl, ?_⟩)
        refine q0 I_193_89 (wi_ifF rfl ?_)
        refine q1 (ls' := [(0, .ref 176), (2, .int x2), (3, .int x3), (4, .int x4), (5, .int x5), (6, .int x6)]) I_193_92 rfl (wi_aload_n _ rfl ?_)
        refine q0 I_193_93 (wi_iload _ rfl ?_)
        refine q0 I_193_95 (wi_iload_n _ rfl ?_)
        refine q0 I_193_96 (wi_virtI (e := 1) [.int x6, .int x3] [] S_176 rfl (by decide) rfl rfl rfl (okC_i rfl rfl rfl) C_176 (by decide) (ClI_mono H ?_))
        intro r23 di23 dl23 H
        refine q0 I_193_99 (wi_if_eq (fun h => ?_) (fun h => ?_))
        · replace H := H.1 h
          refine q1 (ls' := [(0, .ref 176), (2, .int x2), (3, .int x3), (4, .int x4), (5, .int x5), (6, .int x6)]) I_193_127 rfl (wi_iconst 0 rfl ?_)
          refine q1 (ls' := [(0, .ref 176), (2, .int x2), (3, .int x3), (4, .int x4), (5, .int x5), (6, .int x6)]) I_193_128 rfl (wi_istore [(0, .ref 176), (2, .int x2), (3, .int x3), (4, .int x4), (5, .int x5), (6, .int x6), (7, .int 0)] (lt_e X_193 rfl) rfl ?_)
          refine q0 I_193_130 (wi_iload _ rfl ?_)
          refine q0 I_193_132 (wi_iload _ rfl ?_)
          refine q0 I_193_134 (wi_ic_le (fun h => ?_) (fun h => ?_))
          · replace H := H.1 h
            refine q1 (ls' := [(0, .ref 176), (2, .int x2), (3, .int x3), (4, .int x4), (5, .int x5), (6, .int x6)]) I_193_142 rfl (wi_iload _ rfl ?_)
            refine q1 (ls' := [(0, .ref 176), (2, .int x2), (3, .int x3), (4, .int x4), (6, .int x6)]) I_193_144 rfl (wi_istore [(0, .ref 176), (2, .int x2), (3, .int x3), (4, .int x4), (5, .int x5), (6, .int x6)] (lt_e X_193 rfl) rfl ?_)
            refine q0 I_193_146 (wi_iinc 1 [(0, .ref 176), (2, .int x2), (3, .int x3), (4, .int x4), (5, .int x5), (6, .int (x6 + 1))] rfl (lt_e X_193 rfl) rfl rfl ?_)
            refine q0 I_193_149 (wi_goto ?_)
            exact Wq_c I_193_61 rfl rfl H
          · replace H := H.2 h
            refine q1 (ls' := [(0, .ref 176), (2, .int x2), (3, .int x3), (4, .int x4), (6, .int x6), (7, .int 0)]) I_193_137 rfl (wi_iload _ rfl ?_)
            refine q0 I_193_139 (wi_goto ?_)
            refine q1 (ls' := [(0, .ref 176), (2, .int x2), (3, .int x3), (4, .int x4), (6, .int x6)]) I_193_144 rfl (wi_istore [(0, .ref 176), (2, .int x2), (3, .int x3), (4, .int x4), (5, .int 0), (6, .int x6)] (lt_e X_193 rfl) rfl ?_)
            refine q0 I_193_146 (wi_iinc 1 [(0, .ref 176), (2, .int x2), (3, .int x3), (4, .int x4), (5, .int 0), (6, .int (x6 + 1))] rfl (lt_e X_193 rfl) rfl rfl ?_)
            refine q0 I_193_149 (wi_goto ?_)
            exact Wq_c I_193_61 rfl rfl H
        · replace H := H.2 h
          refine q1 (ls' := [(0, .ref 176), (2, .int x2), (3, .int x3), (4, .int x4), (5, .int x5), (6, .int x6)]) I_193_102 rfl (wi_iconst 1 rfl ?_)
          refine q0 I_193_103 (wi_aload_n _ rfl ?_)
          refine q0 I_193_104 (wi_get (.ref 190) S_176 rfl (by decide) rfl ?_)
          refine q0 I_193_107 (wi_sipush 256 rfl ?_)
          refine q0 I_193_110 (wi_iload_n _ rfl ?_)
          refine q0 I_193_111 (wi_iconst 1 rfl ?_)
          refine q0 I_193_112 (wi_iadd ?_)
          refine q0 I_193_113 (wi_imul ?_)
          refine q0 I_193_114 (wi_iload _ rfl ?_)
          refine q0 I_193_116 (wi_iconst 1 rfl ?_)
          refine q0 I_193_117 (wi_iload _ rfl ?_)
          refine q0 I_193_119 (wi_ishl ?_)
          refine q0 I_193_120 (wi_ior ?_)
          refine q0 I_193_121 (wi_iadd ?_)
          have hb24 := H.1
          replace H := H.2
          refine q0 I_193_122 (wi_iaload ((((256 : Int32) * (x3 + 1)) + (x4 ||| ((1 : Int32) <<< (x6 &&& 31)))).toNatClampNeg) S_190 hb24 rfl ?_)
          refine q0 I_193_123 (wi_iadd ?_)
          refine q0 I_193_124 (wi_goto ?_)
          refine q1 (ls' := [(0, .ref 176), (2, .int x2), (3, .int x3), (4, .int x4), (5, .int x5), (6, .int x6)]) I_193_128 rfl (wi_istore [(0, .ref 176), (2, .int x2), (3, .int x3), (4, .int x4), (5, .int x5), (6, .int x6), (7, .int ((1 : Int32) + (di23 190 ((((256 : Int32) * (x3 + 1)) + (x4 ||| ((1 : Int32) <<< (x6 &&& 31)))).toNatClampNeg))))] (lt_e X_193 rfl) rfl ?_)
          refine q0 I_193_130 (wi_iload _ rfl ?_)
          refine q0 I_193_132 (wi_iload _ rfl ?_)
          refine q0 I_193_134 (wi_ic_le (fun h => ?_) (fun h => ?_))
          · replace H := H.1 h
            refine q1 (ls' := [(0, .ref 176), (2, .int x2), (3, .int x3), (4, .int x4), (5, .int x5), (6, .int x6)]) I_193_142 rfl (wi_iload _ rfl ?_)
            refine q1 (ls' := [(0, .ref 176), (2, .int x2), (3, .int x3), (4, .int x4), (6, .int x6)]) I_193_144 rfl (wi_istore [(0, .ref 176), (2, .int x2), (3, .int x3), (4, .int x4), (5, .int x5), (6, .int x6)] (lt_e X_193 rfl) rfl ?_)
            refine q0 I_193_146 (wi_iinc 1 [(0, .ref 176), (2, .int x2), (3, .int x3), (4, .int x4), (5, .int x5), (6, .int (x6 + 1))] rfl (lt_e X_193 rfl) rfl rfl ?_)
            refine q0 I_193_149 (wi_goto ?_)
            exact Wq_c I_193_61 rfl rfl H
          · replace H := H.2 h
            refine q1 (ls' := [(0, .ref 176), (2, .int x2), (3, .int x3), (4, .int x4), (6, .int x6), (7, .int ((1 : Int32) + (di23 190 ((((256 : Int32) * (x3 + 1)) + (x4 ||| ((1 : Int32) <<< (x6 &&& 31)))).toNatClampNeg))))]) I_193_137 rfl (wi_iload _ rfl ?_)
            refine q0 I_193_139 (wi_goto ?_)
            refine q1 (ls' := [(0, .ref 176), (2, .int x2), (3, .int x3), (4, .int x4), (6, .int x6)]) I_193_144 rfl (wi_istore [(0, .ref 176), (2, .int x2), (3, .int x3), (4, .int x4), (5, .int ((1 : Int32) + (di23 190 ((((256 : Int32) * (x3 + 1)) + (x4 ||| ((1 : Int32) <<< (x6 &&& 31)))).toNatClampNeg)))), (6, .int x6)] (lt_e X_193 rfl) rfl ?_)
            refine q0 I_193_146 (wi_iinc 1 [(0, .ref 176), (2, .int x2), (3, .int x3), (4, .int x4), (5, .int ((1 : Int32) + (di23 190 ((((256 : Int32) * (x3 + 1)) + (x4 ||| ((1 : Int32) <<< (x6 &&& 31)))).toNatClampNeg)))), (6, .int (x6 + 1))] rfl (lt_e X_193 rfl) rfl rfl ?_)
            refine q0 I_193_149 (wi_goto ?_)
            exact Wq_c I_193_61 rfl rfl H
      · replace H := H.2 h
        refine q1 (ls' := []) I_137_9 rfl (wi_iconst 1 rfl ?_)
        refine q0 I_137_10 (wi_goto ?_)
        refine q1 (ls' := []) I_137_14 rfl (wi_zret T_137 (Or.inl C_137) (Or.inr rfl) ⟨_, rfl, ?_⟩)
        refine q0 I_193_89 (wi_ifT rfl ?_)
        refine q1 (ls' := [(0, .ref 176), (2, .int x2), (3, .int x3), (4, .int x4), (5, .int x5), (6, .int x6)]) I_193_127 rfl (wi_iconst 0 rfl ?_)
        refine q1 (ls' := [(0, .ref 176), (2, .int x2), (3, .int x3), (4, .int x4), (5, .int x5), (6, .int x6)]) I_193_128 rfl (wi_istore [(0, .ref 176), (2, .int x2), (3, .int x3), (4, .int x4), (5, .int x5), (6, .int x6), (7, .int 0)] (lt_e X_193 rfl) rfl ?_)
        refine q0 I_193_130 (wi_iload _ rfl ?_)
        refine q0 I_193_132 (wi_iload _ rfl ?_)
        refine q0 I_193_134 (wi_ic_le (fun h => ?_) (fun h => ?_))
        · replace H := H.1 h
          refine q1 (ls' := [(0, .ref 176), (2, .int x2), (3, .int x3), (4, .int x4), (5, .int x5), (6, .int x6)]) I_193_142 rfl (wi_iload _ rfl ?_)
          refine q1 (ls' := [(0, .ref 176), (2, .int x2), (3, .int x3), (4, .int x4), (6, .int x6)]) I_193_144 rfl (wi_istore [(0, .ref 176), (2, .int x2), (3, .int x3), (4, .int x4), (5, .int x5), (6, .int x6)] (lt_e X_193 rfl) rfl ?_)
          refine q0 I_193_146 (wi_iinc 1 [(0, .ref 176), (2, .int x2), (3, .int x3), (4, .int x4), (5, .int x5), (6, .int (x6 + 1))] rfl (lt_e X_193 rfl) rfl rfl ?_)
          refine q0 I_193_149 (wi_goto ?_)
          exact Wq_c I_193_61 rfl rfl H
        · replace H := H.2 h
          refine q1 (ls' := [(0, .ref 176), (2, .int x2), (3, .int x3), (4, .int x4), (6, .int x6), (7, .int 0)]) I_193_137 rfl (wi_iload _ rfl ?_)
          refine q0 I_193_139 (wi_goto ?_)
          refine q1 (ls' := [(0, .ref 176), (2, .int x2), (3, .int x3), (4, .int x4), (6, .int x6)]) I_193_144 rfl (wi_istore [(0, .ref 176), (2, .int x2), (3, .int x3), (4, .int x4), (5, .int 0), (6, .int x6)] (lt_e X_193 rfl) rfl ?_)
          refine q0 I_193_146 (wi_iinc 1 [(0, .ref 176), (2, .int x2), (3, .int x3), (4, .int x4), (5, .int 0), (6, .int (x6 + 1))] rfl (lt_e X_193 rfl) rfl rfl ?_)
          refine q0 I_193_149 (wi_goto ?_)
          exact Wq_c I_193_61 rfl rfl H
theorem r_194 {a1 : Int32} {a2 : Int32} {di : tDi} {dl : tDl} {K : Int32 → tDi → tDl → Prop} (H : (ClV 6 163 [.ref 176] di dl (fun di1 dl1 => (((lg_cmp (a1 : Int32).toInt64 0) < 0 → (K (-2) di1 dl1)) ∧ (0 ≤ (lg_cmp (a1 : Int32).toInt64 0) → ((0 < (lg_cmp (a1 : Int32).toInt64 ((di1 183 2) : Int32).toInt64) → (K (-2) di1 dl1)) ∧ ((lg_cmp (a1 : Int32).toInt64 ((di1 183 2) : Int32).toInt64) ≤ 0 → (((lg_cmp (a2 : Int32).toInt64 (-1)) < 0 → (K (-2) di1 dl1)) ∧ (0 ≤ (lg_cmp (a2 : Int32).toInt64 (-1)) → ((0 < (lg_cmp (a2 : Int32).toInt64 7) → (K (-2) di1 dl1)) ∧ ((lg_cmp (a2 : Int32).toInt64 7) ≤ 0 → (ClI 5 193 [.ref 176, .int a1, .int a2] di1 dl1 (fun r2 di2 dl2 => (K r2 di2 dl2)))))))))))))) : ClI 7 194 [.ref 176, .int a1, .int a2] di dl K := by
  refine Cl_of C_194 Z_194 [(0, .ref 176), (1, .int a1), (2, .int a2)] rfl ?_
  refine q0 I_194_0 (wi_aload_n _ rfl ?_)
  refine q0 I_194_1 (wi_virtV (e := 6) [] [] S_176 rfl (by decide) rfl rfl rfl (okC_i rfl rfl rfl) C_163 (by decide) (ClV_mono H ?_))
  intro di1 dl1 H
  refine q0 I_194_4 (wi_aload_n _ rfl ?_)
  refine q0 I_194_5 (wi_iload_n _ rfl ?_)
  refine q0 I_194_6 (wi_virtI (e := 6) [.int a1] [] S_176 rfl (by decide) rfl rfl rfl (okC_i rfl rfl rfl) C_167 (by decide) (Cl_of C_167 Z_167 [(0, .ref 176), (1, .int a1)] rfl ?_))
  refine q0 I_167_0 (wi_iload_n _ rfl ?_)
  refine q0 I_167_1 (wi_i2l ?_)
  refine q0 I_167_2 (wi_lconst 0 rfl ?_)
  refine q0 I_167_3 (wi_aload_n _ rfl ?_)
  refine q0 I_167_4 (wi_get (.ref 183) S_176 rfl (by decide) rfl ?_)
  refine q0 I_167_7 (wi_iconst 2 rfl ?_)
  refine q0 I_167_8 (wi_iaload 2 S_183 rfl rfl ?_)
  refine q0 I_167_9 (wi_i2l ?_)
  refine q0 I_167_10 (wi_statI (e := 5) [.long (a1 : Int32).toInt64, .long 0, .long ((di1 183 2) : Int32).toInt64] [] rfl (Or.inl rfl) rfl rfl rfl (okC_i rfl rfl rfl) C_134 (by decide) (Cl_of C_134 Z_134 [(0, .long (a1 : Int32).toInt64), (2, .long 0), (4, .long ((di1 183 2) : Int32).toInt64)] rfl ?_))
  refine q0 I_134_0 (wi_lload_n _ rfl ?_)
  refine q0 I_134_1 (wi_lload_n _ rfl ?_)
  refine q0 I_134_2 (wi_lcmp ?_)
  refine q0 I_134_3 (wi_if_lt (fun h => ?_) (fun h => ?_))
  · replace H := H.1 h
    refine q1 (ls' := []) I_134_17 rfl (wi_iconst 0 rfl ?_)
    refine q1 (ls' := []) I_134_18 rfl (wi_zret T_134 (Or.inl C_134) (Or.inl rfl) ⟨_, rfl, ?_⟩)
    refine q0 I_167_13 (wi_zret T_167 (Or.inl C_167) (Or.inl rfl) ⟨_, rfl, ?_⟩)
    refine q0 I_194_9 (wi_ifT rfl ?_)
    refine q1 (ls' := []) I_194_35 rfl (wi_bipush (-2) rfl ?_)
    exact q1 (ls' := []) I_194_37 rfl (wi_iret T_194 C_194 ⟨_, rfl, H⟩)
  · replace H := H.2 h
    refine q1 (ls' := [(0, .long (a1 : Int32).toInt64), (4, .long ((di1 183 2) : Int32).toInt64)]) I_134_6 rfl (wi_lload_n _ rfl ?_)
    refine q0 I_134_7 (wi_lload _ rfl ?_)
    refine q0 I_134_9 (wi_lcmp ?_)
    refine q0 I_134_10 (wi_if_gt (fun h => ?_) (fun h => ?_))
    · replace H := H.1 h
      refine q1 (ls' := []) I_134_17 rfl (wi_iconst 0 rfl ?_)
      refine q1 (ls' := []) I_134_18 rfl (wi_zret T_134 (Or.inl C_134) (Or.inl rfl) ⟨_, rfl, ?_⟩)
      refine q0 I_167_13 (wi_zret T_167 (Or.inl C_167) (Or.inl rfl) ⟨_, rfl, ?_⟩)
      refine q0 I_194_9 (wi_ifT rfl ?_)
      refine q1 (ls' := []) I_194_35 rfl (wi_bipush (-2) rfl ?_)
      exact q1 (ls' := []) I_194_37 rfl (wi_iret T_194 C_194 ⟨_, rfl, H⟩)
    · replace H := H.2 h
      refine q1 (ls' := []) I_134_13 rfl (wi_iconst 1 rfl ?_)
      refine q0 I_134_14 (wi_goto ?_)
      refine q1 (ls' := []) I_134_18 rfl (wi_zret T_134 (Or.inl C_134) (Or.inr rfl) ⟨_, rfl, ?_⟩)
      refine q0 I_167_13 (wi_zret T_167 (Or.inl C_167) (Or.inr rfl) ⟨_, rfl, ?_⟩)
      refine q0 I_194_9 (wi_ifF rfl ?_)
      refine q1 (ls' := [(0, .ref 176), (1, .int a1), (2, .int a2)]) I_194_12 rfl (wi_iload_n _ rfl ?_)
      refine q0 I_194_13 (wi_i2l ?_)
      refine q0 I_194_14 (wi_ldc2_w (-1) rfl ?_)
      refine q0 I_194_17 (wi_ldc2_w 7 rfl ?_)
      refine q0 I_194_20 (wi_statI (e := 6) [.long (a2 : Int32).toInt64, .long (-1), .long 7] [] rfl (Or.inl rfl) rfl rfl rfl (okC_i rfl rfl rfl) C_134 (by decide) (Cl_of C_134 Z_134 [(0, .long (a2 : Int32).toInt64), (2, .long (-1)), (4, .long 7)] rfl ?_))
      refine q0 I_134_0 (wi_lload_n _ rfl ?_)
      refine q0 I_134_1 (wi_lload_n _ rfl ?_)
      refine q0 I_134_2 (wi_lcmp ?_)
      refine q0 I_134_3 (wi_if_lt (fun h => ?_) (fun h => ?_))
      · replace H := H.1 h
        refine q1 (ls' := []) I_134_17 rfl (wi_iconst 0 rfl ?_)
        refine q1 (ls' := []) I_134_18 rfl (wi_zret T_134 (Or.inl C_134) (Or.inl rfl) ⟨_, rfl, ?_⟩)
        refine q0 I_194_23 (wi_ifT rfl ?_)
        refine q1 (ls' := []) I_194_35 rfl (wi_bipush (-2) rfl ?_)
        exact q1 (ls' := []) I_194_37 rfl (wi_iret T_194 C_194 ⟨_, rfl, H⟩)
      · replace H := H.2 h
        refine q1 (ls' := [(0, .long (a2 : Int32).toInt64), (4, .long 7)]) I_134_6 rfl (wi_lload_n _ rfl ?_)
        refine q0 I_134_7 (wi_lload _ rfl ?_)
        refine q0 I_134_9 (wi_lcmp ?_)
        refine q0 I_134_10 (wi_if_gt (fun h => ?_) (fun h => ?_))
        · replace H := H.1 h
          refine q1 (ls' := []) I_134_17 rfl (wi_iconst 0 rfl ?_)
          refine q1 (ls' := []) I_134_18 rfl (wi_zret T_134 (Or.inl C_134) (Or.inl rfl) ⟨_, rfl, ?_⟩)
          refine q0 I_194_23 (wi_ifT rfl ?_)
          refine q1 (ls' := []) I_194_35 rfl (wi_bipush (-2) rfl ?_)
          exact q1 (ls' := []) I_194_37 rfl (wi_iret T_194 C_194 ⟨_, rfl, H⟩)
        · replace H := H.2 h
          refine q1 (ls' := []) I_134_13 rfl (wi_iconst 1 rfl ?_)
          refine q0 I_134_14 (wi_goto ?_)
          refine q1 (ls' := []) I_134_18 rfl (wi_zret T_134 (Or.inl C_134) (Or.inr rfl) ⟨_, rfl, ?_⟩)
          refine q0 I_194_23 (wi_ifF rfl ?_)
          refine q1 (ls' := [(0, .ref 176), (1, .int a1), (2, .int a2)]) I_194_26 rfl (wi_aload_n _ rfl ?_)
          refine q0 I_194_27 (wi_iload_n _ rfl ?_)
          refine q0 I_194_28 (wi_iload_n _ rfl ?_)
          refine q0 I_194_29 (wi_virtI (e := 5) [.int a1, .int a2] [] S_176 rfl (by decide) rfl rfl rfl (okC_i rfl rfl rfl) C_193 (by decide) (ClI_mono H ?_))
          intro r2 di2 dl2 H
          refine q0 I_194_32 (wi_goto ?_)
          exact q1 (ls' := []) I_194_37 rfl (wi_iret T_194 C_194 ⟨_, rfl, H⟩)
theorem r_195 {a1 : Int32} {a2 : Int32} {di : tDi} {dl : tDl} {K : tDi → tDl → Prop} (H : (Wq none 0 195 7 [(0, .ref 176), (1, .int a1), (3, .int a2), (4, .int (a1 - 1))] [] di dl (RV K))) : ClV 0 195 [.ref 176, .int a1, .int a2] di dl K := by
  refine Cl_of C_195 Z_195 [(0, .ref 176), (1, .int a1), (2, .int a2)] rfl ?_
  refine q0 I_195_0 (wi_iload_n _ rfl ?_)
  refine q0 I_195_1 (wi_istore_n [(0, .ref 176), (1, .int a1), (2, .int a2), (3, .int a2)] (lt_e X_195 rfl) rfl ?_)
  refine q0 I_195_2 (wi_iload_n _ rfl ?_)
  refine q0 I_195_3 (wi_iconst 1 rfl ?_)
  refine q0 I_195_4 (wi_isub ?_)
  refine q0 I_195_5 (wi_istore [(0, .ref 176), (1, .int a1), (2, .int a2), (3, .int a2), (4, .int (a1 - 1))] (lt_e X_195 rfl) rfl ?_)
  exact Wq_c I_195_7 rfl rfl H
theorem r_195_7 {x1 : Int32} {x3 : Int32} {x4 : Int32} {di : tDi} {dl : tDl} {K : tDi → tDl → Prop} (H : ((x4 < 0 → (Wq none 0 195 43 [(0, .ref 176), (1, .int x1), (4, .int (x1 - 1))] [] di dl (RV K))) ∧ (0 ≤ x4 → (¬ (x1 - x4) = 0 ∧ (inB x4 6 = true ∧ (¬ (x1 - x4) = 0 ∧ (Wq none 0 195 7 [(0, .ref 176), (1, .int x1), (3, .int (x3 / (x1 - x4))), (4, .int (x4 + (-1)))] [] (up2 di 191 (x4.toNatClampNeg) (x3 - x3 / (x1 - x4) * (x1 - x4))) dl (RV K)))))))) : Wq none 0 195 7 [(0, .ref 176), (1, .int x1), (3, .int x3), (4, .int x4)] [] di dl (RV K) := by
  refine q1 (ls' := [(0, .ref 176), (1, .int x1), (3, .int x3), (4, .int x4)]) I_195_7 rfl (wi_iload _ rfl ?_)
  refine q0 I_195_9 (wi_if_lt (fun h => ?_) (fun h => ?_))
  · replace H := H.1 h
    refine q1 (ls' := [(0, .ref 176), (1, .int x1)]) I_195_38 rfl (wi_iload_n _ rfl ?_)
    refine q0 I_195_39 (wi_iconst 1 rfl ?_)
    refine q0 I_195_40 (wi_isub ?_)
    refine q0 I_195_41 (wi_istore [(0, .ref 176), (1, .int x1), (4, .int (x1 - 1))] (lt_e X_195 rfl) rfl ?_)
    exact Wq_c I_195_43 rfl rfl H
  · replace H := H.2 h
    refine q1 (ls' := [(0, .ref 176), (1, .int x1), (3, .int x3), (4, .int x4)]) I_195_12 rfl (wi_aload_n _ rfl ?_)
    refine q0 I_195_13 (wi_get (.ref 191) S_176 rfl (by decide) rfl ?_)
    refine q0 I_195_16 (wi_iload _ rfl ?_)
    refine q0 I_195_18 (wi_iload_n _ rfl ?_)
    refine q0 I_195_19 (wi_iload_n _ rfl ?_)
    refine q0 I_195_20 (wi_iload _ rfl ?_)
    refine q0 I_195_22 (wi_isub ?_)
    refine q0 I_195_23 (wi_irem H.1 ?_)
    replace H := H.2
    have hb21 := H.1
    replace H := H.2
    refine q0 I_195_24 (wi_iastore (x4.toNatClampNeg) S_191 hb21 rfl ?_)
    refine q0 I_195_25 (wi_iload_n _ rfl ?_)
    refine q0 I_195_26 (wi_iload_n _ rfl ?_)
    refine q0 I_195_27 (wi_iload _ rfl ?_)
    refine q0 I_195_29 (wi_isub ?_)
    refine q0 I_195_30 (wi_idiv H.1 ?_)
    replace H := H.2
    refine q0 I_195_31 (wi_istore_n [(0, .ref 176), (1, .int x1), (3, .int (x3 / (x1 - x4))), (4, .int x4)] (lt_e X_195 rfl) rfl ?_)
    refine q0 I_195_32 (wi_iinc (-1) [(0, .ref 176), (1, .int x1), (3, .int (x3 / (x1 - x4))), (4, .int (x4 + (-1)))] rfl (lt_e X_195 rfl) rfl rfl ?_)
    refine q0 I_195_35 (wi_goto ?_)
    exact Wq_c I_195_7 rfl rfl H
theorem r_195_43 {x1 : Int32} {x4 : Int32} {di : tDi} {dl : tDl} {K : tDi → tDl → Prop} (H : ((x4 < 0 → (K di dl)) ∧ (0 ≤ x4 → (Wq none 0 195 54 [(0, .ref 176), (1, .int x1), (4, .int x4), (5, .int (x4 + 1))] [] di dl (RV K))))) : Wq none 0 195 43 [(0, .ref 176), (1, .int x1), (4, .int x4)] [] di dl (RV K) := by
  refine q1 (ls' := [(0, .ref 176), (1, .int x1), (4, .int x4)]) I_195_43 rfl (wi_iload _ rfl ?_)
  refine q0 I_195_45 (wi_if_lt (fun h => ?_) (fun h => ?_))
  · replace H := H.1 h
    exact q1 (ls' := []) I_195_104 rfl (wi_ret T_195 C_195 ⟨rfl, H⟩)
  · replace H := H.2 h
    refine q1 (ls' := [(0, .ref 176), (1, .int x1), (4, .int x4)]) I_195_48 rfl (wi_iload _ rfl ?_)
    refine q0 I_195_50 (wi_iconst 1 rfl ?_)
    refine q0 I_195_51 (wi_iadd ?_)
    refine q0 I_195_52 (wi_istore [(0, .ref 176), (1, .int x1), (4, .int x4), (5, .int (x4 + 1))] (lt_e X_195 rfl) rfl ?_)
    exact Wq_c I_195_54 rfl rfl H
theorem r_195_54 {x1 : Int32} {x4 : Int32} {x5 : Int32} {di : tDi} {dl : tDl} {K : tDi → tDl → Prop} (H : ((x1 ≤ x5 → (Wq none 0 195 43 [(0, .ref 176), (1, .int x1), (4, .int (x4 + (-1)))] [] di dl (RV K))) ∧ (x5 < x1 → (inB x5 6 = true ∧ (inB x4 6 = true ∧ (((di 191 (x5.toNatClampNeg)) < (di 191 (x4.toNatClampNeg)) → (Wq none 0 195 54 [(0, .ref 176), (1, .int x1), (4, .int x4), (5, .int (x5 + 1))] [] (up2 di 191 (x5.toNatClampNeg) ((di 191 (x5.toNatClampNeg)) + 0)) dl (RV K))) ∧ ((di 191 (x4.toNatClampNeg)) ≤ (di 191 (x5.toNatClampNeg)) → (Wq none 0 195 54 [(0, .ref 176), (1, .int x1), (4, .int x4), (5, .int (x5 + 1))] [] (up2 di 191 (x5.toNatClampNeg) ((di 191 (x5.toNatClampNeg)) + 1)) dl (RV K))))))))) : Wq none 0 195 54 [(0, .ref 176), (1, .int x1), (4, .int x4), (5, .int x5)] [] di dl (RV K) := by
  refine q1 (ls' := [(0, .ref 176), (1, .int x1), (4, .int x4), (5, .int x5)]) I_195_54 rfl (wi_iload _ rfl ?_)
  refine q0 I_195_56 (wi_iload_n _ rfl ?_)
  refine q0 I_195_57 (wi_ic_ge (fun h => ?_) (fun h => ?_))
  · replace H := H.1 h
    refine q1 (ls' := [(0, .ref 176), (1, .int x1), (4, .int x4)]) I_195_98 rfl (wi_iinc (-1) [(0, .ref 176), (1, .int x1), (4, .int (x4 + (-1)))] rfl (lt_e X_195 rfl) rfl rfl ?_)
    refine q0 I_195_101 (wi_goto ?_)
    exact Wq_c I_195_43 rfl rfl H
  · replace H := H.2 h
    refine q1 (ls' := [(0, .ref 176), (1, .int x1), (4, .int x4), (5, .int x5)]) I_195_60 rfl (wi_aload_n _ rfl ?_)
    refine q0 I_195_61 (wi_get (.ref 191) S_176 rfl (by decide) rfl ?_)
    refine q0 I_195_64 (wi_iload _ rfl ?_)
    refine q0 I_195_66 (wi_dup2 rfl rfl ?_)
    have hb21 := H.1
    replace H := H.2
    refine q0 I_195_67 (wi_iaload (x5.toNatClampNeg) S_191 hb21 rfl ?_)
    refine q0 I_195_68 (wi_aload_n _ rfl ?_)
    refine q0 I_195_69 (wi_get (.ref 191) S_176 rfl (by decide) rfl ?_)
    refine q0 I_195_72 (wi_iload _ rfl ?_)
    refine q0 I_195_74 (wi_iaload (x5.toNatClampNeg) S_191 hb21 rfl ?_)
    refine q0 I_195_75 (wi_aload_n _ rfl ?_)
    refine q0 I_195_76 (wi_get (.ref 191) S_176 rfl (by decide) rfl ?_)
    refine q0 I_195_79 (wi_iload _ rfl ?_)
    have hb22 := H.1
    replace H := H.2
    refine q0 I_195_81 (wi_iaload (x4.toNatClampNeg) S_191 hb22 rfl ?_)
    refine q0 I_195_82 (wi_ic_lt (fun h => ?_) (fun h => ?_))
    · replace H := H.1 h
      refine q1 (ls' := [(0, .ref 176), (1, .int x1), (4, .int x4), (5, .int x5)]) I_195_89 rfl (wi_iconst 0 rfl ?_)
      refine q1 (ls' := [(0, .ref 176), (1, .int x1), (4, .int x4), (5, .int x5)]) I_195_90 rfl (wi_iadd ?_)
      refine q0 I_195_91 (wi_iastore (x5.toNatClampNeg) S_191 hb21 rfl ?_)
      refine q0 I_195_92 (wi_iinc 1 [(0, .ref 176), (1, .int x1), (4, .int x4), (5, .int (x5 + 1))] rfl (lt_e X_195 rfl) rfl rfl ?_)
      refine q0 I_195_95 (wi_goto ?_)
      exact Wq_c I_195_54 rfl rfl H
    · replace H := H.2 h
      refine q1 (ls' := [(0, .ref 176), (1, .int x1), (4, .int x4), (5, .int x5)]) I_195_85 rfl (wi_iconst 1 rfl ?_)
      refine q0 I_195_86 (wi_goto ?_)
      refine q1 (ls' := [(0, .ref 176), (1, .int x1), (4, .int x4), (5, .int x5)]) I_195_90 rfl (wi_iadd ?_)
      refine q0 I_195_91 (wi_iastore (x5.toNatClampNeg) S_191 hb21 rfl ?_)
      refine q0 I_195_92 (wi_iinc 1 [(0, .ref 176), (1, .int x1), (4, .int x4), (5, .int (x5 + 1))] rfl (lt_e X_195 rfl) rfl rfl ?_)
      refine q0 I_195_95 (wi_goto ?_)
      exact Wq_c I_195_54 rfl rfl H
theorem r_196 {a1 : Int32} {a2 : Int32} {a3 : Int32} {di : tDi} {dl : tDl} {K : Int32 → tDi → tDl → Prop} (H : ((6 ≤ (di 183 0) → (Wq none 1 196 19 [(0, .ref 176), (1, .int a1), (2, .int a2), (3, .int a3), (4, .int 6), (5, .int 1), (6, .int 2)] [] di dl (RI K))) ∧ ((di 183 0) < 6 → (Wq none 1 196 19 [(0, .ref 176), (1, .int a1), (2, .int a2), (3, .int a3), (4, .int (di 183 0)), (5, .int 1), (6, .int 2)] [] di dl (RI K))))) : ClI 1 196 [.ref 176, .int a1, .int a2, .int a3] di dl K := by
  refine Cl_of C_196 Z_196 [(0, .ref 176), (1, .int a1), (2, .int a2), (3, .int a3)] rfl ?_
  refine q0 I_196_0 (wi_aload_n _ rfl ?_)
  refine q0 I_196_1 (wi_get (.ref 183) S_176 rfl (by decide) rfl ?_)
  refine q0 I_196_4 (wi_iconst 0 rfl ?_)
  refine q0 I_196_5 (wi_iaload 0 S_183 rfl rfl ?_)
  refine q0 I_196_6 (wi_bipush 6 rfl ?_)
  refine q0 I_196_8 (wi_statI (e := 0) [.int (di 183 0), .int 6] [] rfl (Or.inl rfl) rfl rfl rfl (okC_i rfl rfl rfl) C_139 (by decide) (Cl_of C_139 Z_139 [(0, .int (di 183 0)), (1, .int 6)] rfl ?_))
  refine q0 I_139_0 (wi_iload_n _ rfl ?_)
  refine q0 I_139_1 (wi_iload_n _ rfl ?_)
  refine q0 I_139_2 (wi_ic_ge (fun h => ?_) (fun h => ?_))
  · replace H := H.1 h
    refine q1 (ls' := [(1, .int 6)]) I_139_9 rfl (wi_iload_n _ rfl ?_)
    refine q1 (ls' := []) I_139_10 rfl (wi_iret T_139 C_139 ⟨_, rfl, ?_⟩)
    refine q0 I_196_11 (wi_istore [(0, .ref 176), (1, .int a1), (2, .int a2), (3, .int a3), (4, .int 6)] (lt_e X_196 rfl) rfl ?_)
    refine q0 I_196_13 (wi_iconst 1 rfl ?_)
    refine q0 I_196_14 (wi_istore [(0, .ref 176), (1, .int a1), (2, .int a2), (3, .int a3), (4, .int 6), (5, .int 1)] (lt_e X_196 rfl) rfl ?_)
    refine q0 I_196_16 (wi_iconst 2 rfl ?_)
    refine q0 I_196_17 (wi_istore [(0, .ref 176), (1, .int a1), (2, .int a2), (3, .int a3), (4, .int 6), (5, .int 1), (6, .int 2)] (lt_e X_196 rfl) rfl ?_)
    exact Wq_c I_196_19 rfl rfl H
  · replace H := H.2 h
    refine q1 (ls' := [(0, .int (di 183 0))]) I_139_5 rfl (wi_iload_n _ rfl ?_)
    refine q0 I_139_6 (wi_goto ?_)
    refine q1 (ls' := []) I_139_10 rfl (wi_iret T_139 C_139 ⟨_, rfl, ?_⟩)
    refine q0 I_196_11 (wi_istore [(0, .ref 176), (1, .int a1), (2, .int a2), (3, .int a3), (4, .int (di 183 0))] (lt_e X_196 rfl) rfl ?_)
    refine q0 I_196_13 (wi_iconst 1 rfl ?_)
    refine q0 I_196_14 (wi_istore [(0, .ref 176), (1, .int a1), (2, .int a2), (3, .int a3), (4, .int (di 183 0)), (5, .int 1)] (lt_e X_196 rfl) rfl ?_)
    refine q0 I_196_16 (wi_iconst 2 rfl ?_)
    refine q0 I_196_17 (wi_istore [(0, .ref 176), (1, .int a1), (2, .int a2), (3, .int a3), (4, .int (di 183 0)), (5, .int 1), (6, .int 2)] (lt_e X_196 rfl) rfl ?_)
    exact Wq_c I_196_19 rfl rfl H
theorem r_196_19 {x1 : Int32} {x2 : Int32} {x3 : Int32} {x4 : Int32} {x5 : Int32} {x6 : Int32} {di : tDi} {dl : tDl} {K : Int32 → tDi → tDl → Prop} (H : ((x4 < x6 → (Wq none 1 196 45 [(0, .ref 176), (1, .int x1), (2, .int x2), (3, .int x3), (4, .int x4), (5, .int x5), (6, .int (-1)), (7, .int 0)] [] di dl (RI K))) ∧ (x6 ≤ x4 → (Wq none 1 196 19 [(0, .ref 176), (1, .int x1), (2, .int x2), (3, .int x3), (4, .int x4), (5, .int (x5 * x6)), (6, .int (x6 + 1))] [] di dl (RI K))))) : Wq none 1 196 19 [(0, .ref 176), (1, .int x1), (2, .int x2), (3, .int x3), (4, .int x4), (5, .int x5), (6, .int x6)] [] di dl (RI K) := by
  refine q1 (ls' := [(0, .ref 176), (1, .int x1), (2, .int x2), (3, .int x3), (4, .int x4), (5, .int x5), (6, .int x6)]) I_196_19 rfl (wi_iload _ rfl ?_)
  refine q0 I_196_21 (wi_iload _ rfl ?_)
  refine q0 I_196_23 (wi_ic_gt (fun h => ?_) (fun h => ?_))
  · replace H := H.1 h
    refine q1 (ls' := [(0, .ref 176), (1, .int x1), (2, .int x2), (3, .int x3), (4, .int x4), (5, .int x5)]) I_196_39 rfl (wi_iconst (-1) rfl ?_)
    refine q0 I_196_40 (wi_istore [(0, .ref 176), (1, .int x1), (2, .int x2), (3, .int x3), (4, .int x4), (5, .int x5), (6, .int (-1))] (lt_e X_196 rfl) rfl ?_)
    refine q0 I_196_42 (wi_iconst 0 rfl ?_)
    refine q0 I_196_43 (wi_istore [(0, .ref 176), (1, .int x1), (2, .int x2), (3, .int x3), (4, .int x4), (5, .int x5), (6, .int (-1)), (7, .int 0)] (lt_e X_196 rfl) rfl ?_)
    exact Wq_c I_196_45 rfl rfl H
  · replace H := H.2 h
    refine q1 (ls' := [(0, .ref 176), (1, .int x1), (2, .int x2), (3, .int x3), (4, .int x4), (5, .int x5), (6, .int x6)]) I_196_26 rfl (wi_iload _ rfl ?_)
    refine q0 I_196_28 (wi_iload _ rfl ?_)
    refine q0 I_196_30 (wi_imul ?_)
    refine q0 I_196_31 (wi_istore [(0, .ref 176), (1, .int x1), (2, .int x2), (3, .int x3), (4, .int x4), (5, .int (x5 * x6)), (6, .int x6)] (lt_e X_196 rfl) rfl ?_)
    refine q0 I_196_33 (wi_iinc 1 [(0, .ref 176), (1, .int x1), (2, .int x2), (3, .int x3), (4, .int x4), (5, .int (x5 * x6)), (6, .int (x6 + 1))] rfl (lt_e X_196 rfl) rfl rfl ?_)
    refine q0 I_196_36 (wi_goto ?_)
    exact Wq_c I_196_19 rfl rfl H
theorem r_196_45 {x1 : Int32} {x2 : Int32} {x3 : Int32} {x4 : Int32} {x5 : Int32} {x6 : Int32} {x7 : Int32} {di : tDi} {dl : tDl} {K : Int32 → tDi → tDl → Prop} (H : ((x5 ≤ x7 → ((¬ x6 = (-1) → ((¬ x3 = (-1) → ((x4 ≤ x3 → (K (-1) di dl)) ∧ (x3 < x4 → (inB x3 6 = true ∧ (K (di 192 (x3.toNatClampNeg)) di dl))))) ∧ (x3 = (-1) → (K x6 di dl)))) ∧ (x6 = (-1) → (K (-1) di dl)))) ∧ (x7 < x5 → (ClV 0 195 [.ref 176, .int x4, .int x7] di dl (fun di22 dl22 => (Wq none 1 196 75 [(0, .ref 176), (1, .int x1), (2, .int x2), (3, .int x3), (4, .int x4), (5, .int x5), (6, .int x6), (7, .int x7), (8, .int 0), (9, .int 0), (10, .int 0), (11, .int 1), (12, .int 0)] [] di22 dl22 (RI K))))))) : Wq none 1 196 45 [(0, .ref 176), (1, .int x1), (2, .int x2), (3, .int x3), (4, .int x4), (5, .int x5), (6, .int x6), (7, .int x7)] [] di dl (RI K) := by
  refine q1 (ls' := [(0, .ref 176), (1, .int x1), (2, .int x2), (3, .int x3), (4, .int x4), (5, .int x5), (6, .int x6), (7, .int x7)]) I_196_45 rfl (wi_iload _ rfl ?_)
  refine q0 I_196_47 (wi_iload _ rfl ?_)
  refine q0 I_196_49 (wi_ic_ge (fun h => ?_) (fun h => ?_))
  · replace H := H.1 h
    refine q1 (ls' := [(0, .ref 176), (3, .int x3), (4, .int x4), (6, .int x6)]) I_196_219 rfl (wi_iload _ rfl ?_)
    refine q0 I_196_221 (wi_iconst (-1) rfl ?_)
    refine q0 I_196_222 (wi_ic_ne (fun h => ?_) (fun h => ?_))
    · replace H := H.1 h
      refine q1 (ls' := [(0, .ref 176), (3, .int x3), (4, .int x4), (6, .int x6)]) I_196_229 rfl (wi_iload_n _ rfl ?_)
      refine q0 I_196_230 (wi_iconst (-1) rfl ?_)
      refine q0 I_196_231 (wi_ic_ne (fun h => ?_) (fun h => ?_))
      · replace H := H.1 h
        refine q1 (ls' := [(0, .ref 176), (3, .int x3), (4, .int x4)]) I_196_239 rfl (wi_iload_n _ rfl ?_)
        refine q0 I_196_240 (wi_iload _ rfl ?_)
        refine q0 I_196_242 (wi_ic_ge (fun h => ?_) (fun h => ?_))
        · replace H := H.1 h
          refine q1 (ls' := []) I_196_254 rfl (wi_iconst (-1) rfl ?_)
          exact q1 (ls' := []) I_196_255 rfl (wi_iret T_196 C_196 ⟨_, rfl, H⟩)
        · replace H := H.2 h
          refine q1 (ls' := [(0, .ref 176), (3, .int x3)]) I_196_245 rfl (wi_aload_n _ rfl ?_)
          refine q0 I_196_246 (wi_get (.ref 192) S_176 rfl (by decide) rfl ?_)
          refine q0 I_196_249 (wi_iload_n _ rfl ?_)
          have hb21 := H.1
          replace H := H.2
          refine q0 I_196_250 (wi_iaload (x3.toNatClampNeg) S_192 hb21 rfl ?_)
          refine q0 I_196_251 (wi_goto ?_)
          exact q1 (ls' := []) I_196_255 rfl (wi_iret T_196 C_196 ⟨_, rfl, H⟩)
      · replace H := H.2 h
        refine q1 (ls' := [(6, .int x6)]) I_196_234 rfl (wi_iload _ rfl ?_)
        refine q0 I_196_236 (wi_goto ?_)
        exact q1 (ls' := []) I_196_255 rfl (wi_iret T_196 C_196 ⟨_, rfl, H⟩)
    · replace H := H.2 h
      refine q1 (ls' := []) I_196_225 rfl (wi_iconst (-1) rfl ?_)
      refine q0 I_196_226 (wi_goto ?_)
      exact q1 (ls' := []) I_196_255 rfl (wi_iret T_196 C_196 ⟨_, rfl, H⟩)
  · replace H := H.2 h
    refine q1 (ls' := [(0, .ref 176), (1, .int x1), (2, .int x2), (3, .int x3), (4, .int x4), (5, .int x5), (6, .int x6), (7, .int x7)]) I_196_52 rfl (wi_aload_n _ rfl ?_)
    refine q0 I_196_53 (wi_iload _ rfl ?_)
    refine q0 I_196_55 (wi_iload _ rfl ?_)
    refine q0 I_196_57 (wi_virtV (e := 0) [.int x4, .int x7] [] S_176 rfl (by decide) rfl rfl rfl (okC_i rfl rfl rfl) C_195 (by decide) (ClV_mono H ?_))
    intro di22 dl22 H
    refine q0 I_196_60 (wi_iconst 0 rfl ?_)
    refine q0 I_196_61 (wi_istore [(0, .ref 176), (1, .int x1), (2, .int x2), (3, .int x3), (4, .int x4), (5, .int x5), (6, .int x6), (7, .int x7), (8, .int 0)] (lt_e X_196 rfl) rfl ?_)
    refine q0 I_196_63 (wi_iconst 0 rfl ?_)
    refine q0 I_196_64 (wi_istore [(0, .ref 176), (1, .int x1), (2, .int x2), (3, .int x3), (4, .int x4), (5, .int x5), (6, .int x6), (7, .int x7), (8, .int 0), (9, .int 0)] (lt_e X_196 rfl) rfl ?_)
    refine q0 I_196_66 (wi_iconst 0 rfl ?_)
    refine q0 I_196_67 (wi_istore [(0, .ref 176), (1, .int x1), (2, .int x2), (3, .int x3), (4, .int x4), (5, .int x5), (6, .int x6), (7, .int x7), (8, .int 0), (9, .int 0), (10, .int 0)] (lt_e X_196 rfl) rfl ?_)
    refine q0 I_196_69 (wi_iconst 1 rfl ?_)
    refine q0 I_196_70 (wi_istore [(0, .ref 176), (1, .int x1), (2, .int x2), (3, .int x3), (4, .int x4), (5, .int x5), (6, .int x6), (7, .int x7), (8, .int 0), (9, .int 0), (10, .int 0), (11, .int 1)] (lt_e X_196 rfl) rfl ?_)
    refine q0 I_196_72 (wi_iconst 0 rfl ?_)
    refine q0 I_196_73 (wi_istore [(0, .ref 176), (1, .int x1), (2, .int x2), (3, .int x3), (4, .int x4), (5, .int x5), (6, .int x6), (7, .int x7), (8, .int 0), (9, .int 0), (10, .int 0), (11, .int 1), (12, .int 0)] (lt_e X_196 rfl) rfl ?_)
    exact Wq_c I_196_75 rfl rfl H
theorem r_196_75 {x1 : Int32} {x2 : Int32} {x3 : Int32} {x4 : Int32} {x5 : Int32} {x6 : Int32} {x7 : Int32} {x8 : Int32} {x9 : Int32} {x10 : Int32} {x11 : Int32} {x12 : Int32} {di : tDi} {dl : tDl} {K : Int32 → tDi → tDl → Prop} (H : ((x4 ≤ x12 → ((x11 = 0 → (Wq none 1 196 45 [(0, .ref 176), (1, .int x1), (2, .int x2), (3, .int x3), (4, .int x4), (5, .int x5), (6, .int x6), (7, .int (x7 + 1))] [] di dl (RI K))) ∧ (¬ x11 = 0 → ((x6 = (-1) → (Wq none 1 196 186 [(0, .ref 176), (1, .int x1), (2, .int x2), (3, .int x3), (4, .int x4), (5, .int x5), (6, .int x10), (7, .int x7), (12, .int 0)] [] di dl (RI K))) ∧ (¬ x6 = (-1) → ((x6 ≤ x10 → (Wq none 1 196 45 [(0, .ref 176), (1, .int x1), (2, .int x2), (3, .int x3), (4, .int x4), (5, .int x5), (6, .int x6), (7, .int (x7 + 1))] [] di dl (RI K))) ∧ (x10 < x6 → (Wq none 1 196 186 [(0, .ref 176), (1, .int x1), (2, .int x2), (3, .int x3), (4, .int x4), (5, .int x5), (6, .int x10), (7, .int x7), (12, .int 0)] [] di dl (RI K))))))))) ∧ (x12 < x4 → (inB x12 6 = true ∧ (inB (((4 : Int32) * (di 191 (x12.toNatClampNeg))) + 1) 32 = true ∧ ((0 ≤ ((di 184 ((((4 : Int32) * (di 191 (x12.toNatClampNeg))) + 1).toNatClampNeg)) - x9) → ((x11 = 0 → (Wq none 1 196 75 [(0, .ref 176), (1, .int x1), (2, .int x2), (3, .int x3), (4, .int x4), (5, .int x5), (6, .int x6), (7, .int x7), (8, .int (x8 + (((di 184 ((((4 : Int32) * (di 191 (x12.toNatClampNeg))) + 1).toNatClampNeg)) - x9) + 1))), (9, .int (di 184 ((((4 : Int32) * (di 191 (x12.toNatClampNeg))) + 1).toNatClampNeg))), (10, .int (x10 + (x8 + (((di 184 ((((4 : Int32) * (di 191 (x12.toNatClampNeg))) + 1).toNatClampNeg)) - x9) + 1)))), (11, .int 0), (12, .int (x12 + 1))] [] di dl (RI K))) ∧ (¬ x11 = 0 → ((¬ (di 191 (x12.toNatClampNeg)) = x1 → (Wq none 1 196 75 [(0, .ref 176), (1, .int x1), (2, .int x2), (3, .int x3), (4, .int x4), (5, .int x5), (6, .int x6), (7, .int x7), (8, .int (x8 + (((di 184 ((((4 : Int32) * (di 191 (x12.toNatClampNeg))) + 1).toNatClampNeg)) - x9) + 1))), (9, .int (di 184 ((((4 : Int32) * (di 191 (x12.toNatClampNeg))) + 1).toNatClampNeg))), (10, .int (x10 + (x8 + (((di 184 ((((4 : Int32) * (di 191 (x12.toNatClampNeg))) + 1).toNatClampNeg)) - x9) + 1)))), (11, .int 1), (12, .int (x12 + 1))] [] di dl (RI K))) ∧ ((di 191 (x12.toNatClampNeg)) = x1 → ((x2 < (x8 + (((di 184 ((((4 : Int32) * (di 191 (x12.toNatClampNeg))) + 1).toNatClampNeg)) - x9) + 1)) → (Wq none 1 196 75 [(0, .ref 176), (1, .int x1), (2, .int x2), (3, .int x3), (4, .int x4), (5, .int x5), (6, .int x6), (7, .int x7), (8, .int (x8 + (((di 184 ((((4 : Int32) * (di 191 (x12.toNatClampNeg))) + 1).toNatClampNeg)) - x9) + 1))), (9, .int (di 184 ((((4 : Int32) * (di 191 (x12.toNatClampNeg))) + 1).toNatClampNeg))), (10, .int (x10 + (x8 + (((di 184 ((((4 : Int32) * (di 191 (x12.toNatClampNeg))) + 1).toNatClampNeg)) - x9) + 1)))), (11, .int 0), (12, .int (x12 + 1))] [] di dl (RI K))) ∧ ((x8 + (((di 184 ((((4 : Int32) * (di 191 (x12.toNatClampNeg))) + 1).toNatClampNeg)) - x9) + 1)) ≤ x2 → (Wq none 1 196 75 [(0, .ref 176), (1, .int x1), (2, .int x2), (3, .int x3), (4, .int x4), (5, .int x5), (6, .int x6), (7, .int x7), (8, .int (x8 + (((di 184 ((((4 : Int32) * (di 191 (x12.toNatClampNeg))) + 1).toNatClampNeg)) - x9) + 1))), (9, .int (di 184 ((((4 : Int32) * (di 191 (x12.toNatClampNeg))) + 1).toNatClampNeg))), (10, .int (x10 + (x8 + (((di 184 ((((4 : Int32) * (di 191 (x12.toNatClampNeg))) + 1).toNatClampNeg)) - x9) + 1)))), (11, .int 1), (12, .int (x12 + 1))] [] di dl (RI K))))))))) ∧ (((di 184 ((((4 : Int32) * (di 191 (x12.toNatClampNeg))) + 1).toNatClampNeg)) - x9) < 0 → ((x11 = 0 → (Wq none 1 196 75 [(0, .ref 176), (1, .int x1), (2, .int x2), (3, .int x3), (4, .int x4), (5, .int x5), (6, .int x6), (7, .int x7), (8, .int (x8 + ((-((di 184 ((((4 : Int32) * (di 191 (x12.toNatClampNeg))) + 1).toNatClampNeg)) - x9)) + 1))), (9, .int (di 184 ((((4 : Int32) * (di 191 (x12.toNatClampNeg))) + 1).toNatClampNeg))), (10, .int (x10 + (x8 + ((-((di 184 ((((4 : Int32) * (di 191 (x12.toNatClampNeg))) + 1).toNatClampNeg)) - x9)) + 1)))), (11, .int 0), (12, .int (x12 + 1))] [] di dl (RI K))) ∧ (¬ x11 = 0 → ((¬ (di 191 (x12.toNatClampNeg)) = x1 → (Wq none 1 196 75 [(0, .ref 176), (1, .int x1), (2, .int x2), (3, .int x3), (4, .int x4), (5, .int x5), (6, .int x6), (7, .int x7), (8, .int (x8 + ((-((di 184 ((((4 : Int32) * (di 191 (x12.toNatClampNeg))) + 1).toNatClampNeg)) - x9)) + 1))), (9, .int (di 184 ((((4 : Int32) * (di 191 (x12.toNatClampNeg))) + 1).toNatClampNeg))), (10, .int (x10 + (x8 + ((-((di 184 ((((4 : Int32) * (di 191 (x12.toNatClampNeg))) + 1).toNatClampNeg)) - x9)) + 1)))), (11, .int 1), (12, .int (x12 + 1))] [] di dl (RI K))) ∧ ((di 191 (x12.toNatClampNeg)) = x1 → ((x2 < (x8 + ((-((di 184 ((((4 : Int32) * (di 191 (x12.toNatClampNeg))) + 1).toNatClampNeg)) - x9)) + 1)) → (Wq none 1 196 75 [(0, .ref 176), (1, .int x1), (2, .int x2), (3, .int x3), (4, .int x4), (5, .int x5), (6, .int x6), (7, .int x7), (8, .int (x8 + ((-((di 184 ((((4 : Int32) * (di 191 (x12.toNatClampNeg))) + 1).toNatClampNeg)) - x9)) + 1))), (9, .int (di 184 ((((4 : Int32) * (di 191 (x12.toNatClampNeg))) + 1).toNatClampNeg))), (10, .int (x10 + (x8 + ((-((di 184 ((((4 : Int32) * (di 191 (x12.toNatClampNeg))) + 1).toNatClampNeg)) - x9)) + 1)))), (11, .int 0), (12, .int (x12 + 1))] [] di dl (RI K))) ∧ ((x8 + ((-((di 184 ((((4 : Int32) * (di 191 (x12.toNatClampNeg))) + 1).toNatClampNeg)) - x9)) + 1)) ≤ x2 → (Wq none 1 196 75 [(0, .ref 176), (1, .int x1), (2, .int x2), (3, .int x3), (4, .int x4), (5, .int x5), (6, .int x6), (7, .int x7), (8, .int (x8 + ((-((di 184 ((((4 : Int32) * (di 191 (x12.toNatClampNeg))) + 1).toNatClampNeg)) - x9)) + 1))), (9, .int (di 184 ((((4 : Int32) * (di 191 (x12.toNatClampNeg))) + 1).toNatClampNeg))), (10, .int (x10 + (x8 + ((-((di 184 ((((4 : Int32) * (di 191 (x12.toNatClampNeg))) + 1).toNatClampNeg)) - x9)) + 1)))), (11, .int 1), (12, .int (x12 + 1))] [] di dl (RI K))))))))))))))) : Wq none 1 196 75 [(0, .ref 176), (1, .int x1), (2, .int x2), (3, .int x3), (4, .int x4), (5, .int x5), (6, .int x6), (7, .int x7), (8, .int x8), (9, .int x9), (10, .int x10), (11, .int x11), (12, .int x12)] [] di dl (RI K) := by
  refine q1 (ls' := [(0, .ref 176), (1, .int x1), (2, .int x2), (3, .int x3), (4, .int x4), (5, .int x5), (6, .int x6), (7, .int x7), (8, .int x8), (9, .int x9), (10, .int x10), (11, .int x11), (12, .int x12)]) I_196_75 rfl (wi_iload _ rfl ?_)
  refine q0 I_196_77 (wi_iload _ rfl ?_)
  refine q0 I_196_79 (wi_ic_ge (fun h => ?_) (fun h => ?_))
  · replace H := H.1 h
    refine q1 (ls' := [(0, .ref 176), (1, .int x1), (2, .int x2), (3, .int x3), (4, .int x4), (5, .int x5), (6, .int x6), (7, .int x7), (10, .int x10), (11, .int x11)]) I_196_161 rfl (wi_iload _ rfl ?_)
    refine q0 I_196_163 (wi_if_eq (fun h => ?_) (fun h => ?_))
    · replace H := H.1 h
      refine q1 (ls' := [(0, .ref 176), (1, .int x1), (2, .int x2), (3, .int x3), (4, .int x4), (5, .int x5), (6, .int x6), (7, .int x7)]) I_196_213 rfl (wi_iinc 1 [(0, .ref 176), (1, .int x1), (2, .int x2), (3, .int x3), (4, .int x4), (5, .int x5), (6, .int x6), (7, .int (x7 + 1))] rfl (lt_e X_196 rfl) rfl rfl ?_)
      refine q0 I_196_216 (wi_goto ?_)
      exact Wq_c I_196_45 rfl rfl H
    · replace H := H.2 h
      refine q1 (ls' := [(0, .ref 176), (1, .int x1), (2, .int x2), (3, .int x3), (4, .int x4), (5, .int x5), (6, .int x6), (7, .int x7), (10, .int x10)]) I_196_166 rfl (wi_iload _ rfl ?_)
      refine q0 I_196_168 (wi_iconst (-1) rfl ?_)
      refine q0 I_196_169 (wi_ic_eq (fun h => ?_) (fun h => ?_))
      · replace H := H.1 h
        refine q1 (ls' := [(0, .ref 176), (1, .int x1), (2, .int x2), (3, .int x3), (4, .int x4), (5, .int x5), (7, .int x7), (10, .int x10)]) I_196_179 rfl (wi_iload _ rfl ?_)
        refine q0 I_196_181 (wi_istore [(0, .ref 176), (1, .int x1), (2, .int x2), (3, .int x3), (4, .int x4), (5, .int x5), (6, .int x10), (7, .int x7), (10, .int x10)] (lt_e X_196 rfl) rfl ?_)
        refine q0 I_196_183 (wi_iconst 0 rfl ?_)
        refine q0 I_196_184 (wi_istore [(0, .ref 176), (1, .int x1), (2, .int x2), (3, .int x3), (4, .int x4), (5, .int x5), (6, .int x10), (7, .int x7), (10, .int x10), (12, .int 0)] (lt_e X_196 rfl) rfl ?_)
        exact Wq_c I_196_186 rfl rfl H
      · replace H := H.2 h
        refine q1 (ls' := [(0, .ref 176), (1, .int x1), (2, .int x2), (3, .int x3), (4, .int x4), (5, .int x5), (6, .int x6), (7, .int x7), (10, .int x10)]) I_196_172 rfl (wi_iload _ rfl ?_)
        refine q0 I_196_174 (wi_iload _ rfl ?_)
        refine q0 I_196_176 (wi_ic_ge (fun h => ?_) (fun h => ?_))
        · replace H := H.1 h
          refine q1 (ls' := [(0, .ref 176), (1, .int x1), (2, .int x2), (3, .int x3), (4, .int x4), (5, .int x5), (6, .int x6), (7, .int x7)]) I_196_213 rfl (wi_iinc 1 [(0, .ref 176), (1, .int x1), (2, .int x2), (3, .int x3), (4, .int x4), (5, .int x5), (6, .int x6), (7, .int (x7 + 1))] rfl (lt_e X_196 rfl) rfl rfl ?_)
          refine q0 I_196_216 (wi_goto ?_)
          exact Wq_c I_196_45 rfl rfl H
        · replace H := H.2 h
          refine q1 (ls' := [(0, .ref 176), (1, .int x1), (2, .int x2), (3, .int x3), (4, .int x4), (5, .int x5), (7, .int x7), (10, .int x10)]) I_196_179 rfl (wi_iload _ rfl ?_)
          refine q0 I_196_181 (wi_istore [(0, .ref 176), (1, .int x1), (2, .int x2), (3, .int x3), (4, .int x4), (5, .int x5), (6, .int x10), (7, .int x7), (10, .int x10)] (lt_e X_196 rfl) rfl ?_)
          refine q0 I_196_183 (wi_iconst 0 rfl ?_)
          refine q0 I_196_184 (wi_istore [(0, .ref 176), (1, .int x1), (2, .int x2), (3, .int x3), (4, .int x4), (5, .int x5), (6, .int x10), (7, .int x7), (10, .int x10), (12, .int 0)] (lt_e X_196 rfl) rfl ?_)
          exact Wq_c I_196_186 rfl rfl H
  · replace H := H.2 h
    refine q1 (ls' := [(0, .ref 176), (1, .int x1), (2, .int x2), (3, .int x3), (4, .int x4), (5, .int x5), (6, .int x6), (7, .int x7), (8, .int x8), (9, .int x9), (10, .int x10), (11, .int x11), (12, .int x12)]) I_196_82 rfl (wi_aload_n _ rfl ?_)
    refine q0 I_196_83 (wi_get (.ref 184) S_176 rfl (by decide) rfl ?_)
    refine q0 I_196_86 (wi_iconst 4 rfl ?_)
    refine q0 I_196_87 (wi_aload_n _ rfl ?_)
    refine q0 I_196_88 (wi_get (.ref 191) S_176 rfl (by decide) rfl ?_)
    refine q0 I_196_91 (wi_iload _ rfl ?_)
    have hb21 := H.1
    replace H := H.2
    refine q0 I_196_93 (wi_iaload (x12.toNatClampNeg) S_191 hb21 rfl ?_)
    refine q0 I_196_94 (wi_imul ?_)
    refine q0 I_196_95 (wi_iconst 1 rfl ?_)
    refine q0 I_196_96 (wi_iadd ?_)
    have hb22 := H.1
    replace H := H.2
    refine q0 I_196_97 (wi_iaload ((((4 : Int32) * (di 191 (x12.toNatClampNeg))) + 1).toNatClampNeg) S_184 hb22 rfl ?_)
    refine q0 I_196_98 (wi_istore [(0, .ref 176), (1, .int x1), (2, .int x2), (3, .int x3), (4, .int x4), (5, .int x5), (6, .int x6), (7, .int x7), (8, .int x8), (9, .int x9), (10, .int x10), (11, .int x11), (12, .int x12), (13, .int (di 184 ((((4 : Int32) * (di 191 (x12.toNatClampNeg))) + 1).toNatClampNeg)))] (lt_e X_196 rfl) rfl ?_)
    refine q0 I_196_100 (wi_iload _ rfl ?_)
    refine q0 I_196_102 (wi_iload _ rfl ?_)
    refine q0 I_196_104 (wi_iload _ rfl ?_)
    refine q0 I_196_106 (wi_isub ?_)
    refine q0 I_196_107 (wi_statI (e := 0) [.int ((di 184 ((((4 : Int32) * (di 191 (x12.toNatClampNeg))) + 1).toNatClampNeg)) - x9)] [.int x8] rfl (Or.inl rfl) rfl rfl rfl (okC_i rfl rfl rfl) C_140 (by decide) (Cl_of C_140 Z_140 [(0, .int ((di 184 ((((4 : Int32) * (di 191 (x12.toNatClampNeg))) + 1).toNatClampNeg)) - x9))] rfl ?_))
    refine q0 I_140_0 (wi_iload_n _ rfl ?_)
    refine q0 I_140_1 (wi_if_ge (fun h => ?_) (fun h => ?_))
    · replace H := H.1 h
      refine q1 (ls' := [(0, .int ((di 184 ((((4 : Int32) * (di 191 (x12.toNatClampNeg))) + 1).toNatClampNeg)) - x9))]) I_140_9 rfl (wi_iload_n _ rfl ?_)
      refine q1 (ls' := []) I_140_10 rfl (wi_iret T_140 C_140 ⟨_, rfl, ?_⟩)
      refine q0 I_196_110 (wi_iconst 1 rfl ?_)
      refine q0 I_196_111 (wi_iadd ?_)
      refine q0 I_196_112 (wi_iadd ?_)
      refine q0 I_196_113 (wi_istore [(0, .ref 176), (1, .int x1), (2, .int x2), (3, .int x3), (4, .int x4), (5, .int x5), (6, .int x6), (7, .int x7), (8, .int (x8 + (((di 184 ((((4 : Int32) * (di 191 (x12.toNatClampNeg))) + 1).toNatClampNeg)) - x9) + 1))), (9, .int x9), (10, .int x10), (11, .int x11), (12, .int x12), (13, .int (di 184 ((((4 : Int32) * (di 191 (x12.toNatClampNeg))) + 1).toNatClampNeg)))] (lt_e X_196 rfl) rfl ?_)
      refine q0 I_196_115 (wi_iload _ rfl ?_)
      refine q0 I_196_117 (wi_istore [(0, .ref 176), (1, .int x1), (2, .int x2), (3, .int x3), (4, .int x4), (5, .int x5), (6, .int x6), (7, .int x7), (8, .int (x8 + (((di 184 ((((4 : Int32) * (di 191 (x12.toNatClampNeg))) + 1).toNatClampNeg)) - x9) + 1))), (9, .int (di 184 ((((4 : Int32) * (di 191 (x12.toNatClampNeg))) + 1).toNatClampNeg))), (10, .int x10), (11, .int x11), (12, .int x12), (13, .int (di 184 ((((4 : Int32) * (di 191 (x12.toNatClampNeg))) + 1).toNatClampNeg)))] (lt_e X_196 rfl) rfl ?_)
      refine q0 I_196_119 (wi_iload _ rfl ?_)
      refine q0 I_196_121 (wi_iload _ rfl ?_)
      refine q0 I_196_123 (wi_iadd ?_)
      refine q0 I_196_124 (wi_istore [(0, .ref 176), (1, .int x1), (2, .int x2), (3, .int x3), (4, .int x4), (5, .int x5), (6, .int x6), (7, .int x7), (8, .int (x8 + (((di 184 ((((4 : Int32) * (di 191 (x12.toNatClampNeg))) + 1).toNatClampNeg)) - x9) + 1))), (9, .int (di 184 ((((4 : Int32) * (di 191 (x12.toNatClampNeg))) + 1).toNatClampNeg))), (10, .int (x10 + (x8 + (((di 184 ((((4 : Int32) * (di 191 (x12.toNatClampNeg))) + 1).toNatClampNeg)) - x9) + 1)))), (11, .int x11), (12, .int x12), (13, .int (di 184 ((((4 : Int32) * (di 191 (x12.toNatClampNeg))) + 1).toNatClampNeg)))] (lt_e X_196 rfl) rfl ?_)
      refine q0 I_196_126 (wi_iload _ rfl ?_)
      refine q0 I_196_128 (wi_if_eq (fun h => ?_) (fun h => ?_))
      · replace H := H.1 h
        refine q1 (ls' := [(0, .ref 176), (1, .int x1), (2, .int x2), (3, .int x3), (4, .int x4), (5, .int x5), (6, .int x6), (7, .int x7), (8, .int (x8 + (((di 184 ((((4 : Int32) * (di 191 (x12.toNatClampNeg))) + 1).toNatClampNeg)) - x9) + 1))), (9, .int (di 184 ((((4 : Int32) * (di 191 (x12.toNatClampNeg))) + 1).toNatClampNeg))), (10, .int (x10 + (x8 + (((di 184 ((((4 : Int32) * (di 191 (x12.toNatClampNeg))) + 1).toNatClampNeg)) - x9) + 1)))), (12, .int x12)]) I_196_152 rfl (wi_iconst 0 rfl ?_)
        refine q1 (ls' := [(0, .ref 176), (1, .int x1), (2, .int x2), (3, .int x3), (4, .int x4), (5, .int x5), (6, .int x6), (7, .int x7), (8, .int (x8 + (((di 184 ((((4 : Int32) * (di 191 (x12.toNatClampNeg))) + 1).toNatClampNeg)) - x9) + 1))), (9, .int (di 184 ((((4 : Int32) * (di 191 (x12.toNatClampNeg))) + 1).toNatClampNeg))), (10, .int (x10 + (x8 + (((di 184 ((((4 : Int32) * (di 191 (x12.toNatClampNeg))) + 1).toNatClampNeg)) - x9) + 1)))), (12, .int x12)]) I_196_153 rfl (wi_istore [(0, .ref 176), (1, .int x1), (2, .int x2), (3, .int x3), (4, .int x4), (5, .int x5), (6, .int x6), (7, .int x7), (8, .int (x8 + (((di 184 ((((4 : Int32) * (di 191 (x12.toNatClampNeg))) + 1).toNatClampNeg)) - x9) + 1))), (9, .int (di 184 ((((4 : Int32) * (di 191 (x12.toNatClampNeg))) + 1).toNatClampNeg))), (10, .int (x10 + (x8 + (((di 184 ((((4 : Int32) * (di 191 (x12.toNatClampNeg))) + 1).toNatClampNeg)) - x9) + 1)))), (11, .int 0), (12, .int x12)] (lt_e X_196 rfl) rfl ?_)
        refine q0 I_196_155 (wi_iinc 1 [(0, .ref 176), (1, .int x1), (2, .int x2), (3, .int x3), (4, .int x4), (5, .int x5), (6, .int x6), (7, .int x7), (8, .int (x8 + (((di 184 ((((4 : Int32) * (di 191 (x12.toNatClampNeg))) + 1).toNatClampNeg)) - x9) + 1))), (9, .int (di 184 ((((4 : Int32) * (di 191 (x12.toNatClampNeg))) + 1).toNatClampNeg))), (10, .int (x10 + (x8 + (((di 184 ((((4 : Int32) * (di 191 (x12.toNatClampNeg))) + 1).toNatClampNeg)) - x9) + 1)))), (11, .int 0), (12, .int (x12 + 1))] rfl (lt_e X_196 rfl) rfl rfl ?_)
        refine q0 I_196_158 (wi_goto ?_)
        exact Wq_c I_196_75 rfl rfl H
      · replace H := H.2 h
        refine q1 (ls' := [(0, .ref 176), (1, .int x1), (2, .int x2), (3, .int x3), (4, .int x4), (5, .int x5), (6, .int x6), (7, .int x7), (8, .int (x8 + (((di 184 ((((4 : Int32) * (di 191 (x12.toNatClampNeg))) + 1).toNatClampNeg)) - x9) + 1))), (9, .int (di 184 ((((4 : Int32) * (di 191 (x12.toNatClampNeg))) + 1).toNatClampNeg))), (10, .int (x10 + (x8 + (((di 184 ((((4 : Int32) * (di 191 (x12.toNatClampNeg))) + 1).toNatClampNeg)) - x9) + 1)))), (12, .int x12)]) I_196_131 rfl (wi_aload_n _ rfl ?_)
        refine q0 I_196_132 (wi_get (.ref 191) S_176 rfl (by decide) rfl ?_)
        refine q0 I_196_135 (wi_iload _ rfl ?_)
        refine q0 I_196_137 (wi_iaload (x12.toNatClampNeg) S_191 hb21 rfl ?_)
        refine q0 I_196_138 (wi_iload_n _ rfl ?_)
        refine q0 I_196_139 (wi_ic_ne (fun h => ?_) (fun h => ?_))
        · replace H := H.1 h
          refine q1 (ls' := [(0, .ref 176), (1, .int x1), (2, .int x2), (3, .int x3), (4, .int x4), (5, .int x5), (6, .int x6), (7, .int x7), (8, .int (x8 + (((di 184 ((((4 : Int32) * (di 191 (x12.toNatClampNeg))) + 1).toNatClampNeg)) - x9) + 1))), (9, .int (di 184 ((((4 : Int32) * (di 191 (x12.toNatClampNeg))) + 1).toNatClampNeg))), (10, .int (x10 + (x8 + (((di 184 ((((4 : Int32) * (di 191 (x12.toNatClampNeg))) + 1).toNatClampNeg)) - x9) + 1)))), (12, .int x12)]) I_196_148 rfl (wi_iconst 1 rfl ?_)
          refine q0 I_196_149 (wi_goto ?_)
          refine q1 (ls' := [(0, .ref 176), (1, .int x1), (2, .int x2), (3, .int x3), (4, .int x4), (5, .int x5), (6, .int x6), (7, .int x7), (8, .int (x8 + (((di 184 ((((4 : Int32) * (di 191 (x12.toNatClampNeg))) + 1).toNatClampNeg)) - x9) + 1))), (9, .int (di 184 ((((4 : Int32) * (di 191 (x12.toNatClampNeg))) + 1).toNatClampNeg))), (10, .int (x10 + (x8 + (((di 184 ((((4 : Int32) * (di 191 (x12.toNatClampNeg))) + 1).toNatClampNeg)) - x9) + 1)))), (12, .int x12)]) I_196_153 rfl (wi_istore [(0, .ref 176), (1, .int x1), (2, .int x2), (3, .int x3), (4, .int x4), (5, .int x5), (6, .int x6), (7, .int x7), (8, .int (x8 + (((di 184 ((((4 : Int32) * (di 191 (x12.toNatClampNeg))) + 1).toNatClampNeg)) - x9) + 1))), (9, .int (di 184 ((((4 : Int32) * (di 191 (x12.toNatClampNeg))) + 1).toNatClampNeg))), (10, .int (x10 + (x8 + (((di 184 ((((4 : Int32) * (di 191 (x12.toNatClampNeg))) + 1).toNatClampNeg)) - x9) + 1)))), (11, .int 1), (12, .int x12)] (lt_e X_196 rfl) rfl ?_)
          refine q0 I_196_155 (wi_iinc 1 [(0, .ref 176), (1, .int x1), (2, .int x2), (3, .int x3), (4, .int x4), (5, .int x5), (6, .int x6), (7, .int x7), (8, .int (x8 + (((di 184 ((((4 : Int32) * (di 191 (x12.toNatClampNeg))) + 1).toNatClampNeg)) - x9) + 1))), (9, .int (di 184 ((((4 : Int32) * (di 191 (x12.toNatClampNeg))) + 1).toNatClampNeg))), (10, .int (x10 + (x8 + (((di 184 ((((4 : Int32) * (di 191 (x12.toNatClampNeg))) + 1).toNatClampNeg)) - x9) + 1)))), (11, .int 1), (12, .int (x12 + 1))] rfl (lt_e X_196 rfl) rfl rfl ?_)
          refine q0 I_196_158 (wi_goto ?_)
          exact Wq_c I_196_75 rfl rfl H
        · replace H := H.2 h
          refine q1 (ls' := [(0, .ref 176), (1, .int x1), (2, .int x2), (3, .int x3), (4, .int x4), (5, .int x5), (6, .int x6), (7, .int x7), (8, .int (x8 + (((di 184 ((((4 : Int32) * (di 191 (x12.toNatClampNeg))) + 1).toNatClampNeg)) - x9) + 1))), (9, .int (di 184 ((((4 : Int32) * (di 191 (x12.toNatClampNeg))) + 1).toNatClampNeg))), (10, .int (x10 + (x8 + (((di 184 ((((4 : Int32) * (di 191 (x12.toNatClampNeg))) + 1).toNatClampNeg)) - x9) + 1)))), (12, .int x12)]) I_196_142 rfl (wi_iload _ rfl ?_)
          refine q0 I_196_144 (wi_iload_n _ rfl ?_)
          refine q0 I_196_145 (wi_ic_gt (fun h => ?_) (fun h => ?_))
          · replace H := H.1 h
            refine q1 (ls' := [(0, .ref 176), (1, .int x1), (2, .int x2), (3, .int x3), (4, .int x4), (5, .int x5), (6, .int x6), (7, .int x7), (8, .int (x8 + (((di 184 ((((4 : Int32) * (di 191 (x12.toNatClampNeg))) + 1).toNatClampNeg)) - x9) + 1))), (9, .int (di 184 ((((4 : Int32) * (di 191 (x12.toNatClampNeg))) + 1).toNatClampNeg))), (10, .int (x10 + (x8 + (((di 184 ((((4 : Int32) * (di 191 (x12.toNatClampNeg))) + 1).toNatClampNeg)) - x9) + 1)))), (12, .int x12)]) I_196_152 rfl (wi_iconst 0 rfl ?_)
            refine q1 (ls' := [(0, .ref 176), (1, .int x1), (2, .int x2), (3, .int x3), (4, .int x4), (5, .int x5), (6, .int x6), (7, .int x7), (8, .int (x8 + (((di 184 ((((4 : Int32) * (di 191 (x12.toNatClampNeg))) + 1).toNatClampNeg)) - x9) + 1))), (9, .int (di 184 ((((4 : Int32) * (di 191 (x12.toNatClampNeg))) + 1).toNatClampNeg))), (10, .int (x10 + (x8 + (((di 184 ((((4 : Int32) * (di 191 (x12.toNatClampNeg))) + 1).toNatClampNeg)) - x9) + 1)))), (12, .int x12)]) I_196_153 rfl (wi_istore [(0, .ref 176), (1, .int x1), (2, .int x2), (3, .int x3), (4, .int x4), (5, .int x5), (6, .int x6), (7, .int x7), (8, .int (x8 + (((di 184 ((((4 : Int32) * (di 191 (x12.toNatClampNeg))) + 1).toNatClampNeg)) - x9) + 1))), (9, .int (di 184 ((((4 : Int32) * (di 191 (x12.toNatClampNeg))) + 1).toNatClampNeg))), (10, .int (x10 + (x8 + (((di 184 ((((4 : Int32) * (di 191 (x12.toNatClampNeg))) + 1).toNatClampNeg)) - x9) + 1)))), (11, .int 0), (12, .int x12)] (lt_e X_196 rfl) rfl ?_)
            refine q0 I_196_155 (wi_iinc 1 [(0, .ref 176), (1, .int x1), (2, .int x2), (3, .int x3), (4, .int x4), (5, .int x5), (6, .int x6), (7, .int x7), (8, .int (x8 + (((di 184 ((((4 : Int32) * (di 191 (x12.toNatClampNeg))) + 1).toNatClampNeg)) - x9) + 1))), (9, .int (di 184 ((((4 : Int32) * (di 191 (x12.toNatClampNeg))) + 1).toNatClampNeg))), (10, .int (x10 + (x8 + (((di 184 ((((4 : Int32) * (di 191 (x12.toNatClampNeg))) + 1).toNatClampNeg)) - x9) + 1)))), (11, .int 0), (12, .int (x12 + 1))] rfl (lt_e X_196 rfl) rfl rfl ?_)
            refine q0 I_196_158 (wi_goto ?_)
            exact Wq_c I_196_75 rfl rfl H
          · replace H := H.2 h
            refine q1 (ls' := [(0, .ref 176), (1, .int x1), (2, .int x2), (3, .int x3), (4, .int x4), (5, .int x5), (6, .int x6), (7, .int x7), (8, .int (x8 + (((di 184 ((((4 : Int32) * (di 191 (x12.toNatClampNeg))) + 1).toNatClampNeg)) - x9) + 1))), (9, .int (di 184 ((((4 : Int32) * (di 191 (x12.toNatClampNeg))) + 1).toNatClampNeg))), (10, .int (x10 + (x8 + (((di 184 ((((4 : Int32) * (di 191 (x12.toNatClampNeg))) + 1).toNatClampNeg)) - x9) + 1)))), (12, .int x12)]) I_196_148 rfl (wi_iconst 1 rfl ?_)
            refine q0 I_196_149 (wi_goto ?_)
            refine q1 (ls' := [(0, .ref 176), (1, .int x1), (2, .int x2), (3, .int x3), (4, .int x4), (5, .int x5), (6, .int x6), (7, .int x7), (8, .int (x8 + (((di 184 ((((4 : Int32) * (di 191 (x12.toNatClampNeg))) + 1).toNatClampNeg)) - x9) + 1))), (9, .int (di 184 ((((4 : Int32) * (di 191 (x12.toNatClampNeg))) + 1).toNatClampNeg))), (10, .int (x10 + (x8 + (((di 184 ((((4 : Int32) * (di 191 (x12.toNatClampNeg))) + 1).toNatClampNeg)) - x9) + 1)))), (12, .int x12)]) I_196_153 rfl (wi_istore [(0, .ref 176), (1, .int x1), (2, .int x2), (3, .int x3), (4, .int x4), (5, .int x5), (6, .int x6), (7, .int x7), (8, .int (x8 + (((di 184 ((((4 : Int32) * (di 191 (x12.toNatClampNeg))) + 1).toNatClampNeg)) - x9) + 1))), (9, .int (di 184 ((((4 : Int32) * (di 191 (x12.toNatClampNeg))) + 1).toNatClampNeg))), (10, .int (x10 + (x8 + (((di 184 ((((4 : Int32) * (di 191 (x12.toNatClampNeg))) + 1).toNatClampNeg)) - x9) + 1)))), (11, .int 1), (12, .int x12)] (lt_e X_196 rfl) rfl ?_)
            refine q0 I_196_155 (wi_iinc 1 [(0, .ref 176), (1, .int x1), (2, .int x2), (3, .int x3), (4, .int x4), (5, .int x5), (6, .int x6), (7, .int x7), (8, .int (x8 + (((di 184 ((((4 : Int32) * (di 191 (x12.toNatClampNeg))) + 1).toNatClampNeg)) - x9) + 1))), (9, .int (di 184 ((((4 : Int32) * (di 191 (x12.toNatClampNeg))) + 1).toNatClampNeg))), (10, .int (x10 + (x8 + (((di 184 ((((4 : Int32) * (di 191 (x12.toNatClampNeg))) + 1).toNatClampNeg)) - x9) + 1)))), (11, .int 1), (12, .int (x12 + 1))] rfl (lt_e X_196 rfl) rfl rfl ?_)
            refine q0 I_196_158 (wi_goto ?_)
            exact Wq_c I_196_75 rfl rfl H
    · replace H := H.2 h
      refine q1 (ls' := [(0, .int ((di 184 ((((4 : Int32) * (di 191 (x12.toNatClampNeg))) + 1).toNatClampNeg)) - x9))]) I_140_4 rfl (wi_iload_n _ rfl ?_)
      refine q0 I_140_5 (wi_ineg ?_)
      refine q0 I_140_6 (wi_goto ?_)
      refine q1 (ls' := []) I_140_10 rfl (wi_iret T_140 C_140 ⟨_, rfl, ?_⟩)
      refine q0 I_196_110 (wi_iconst 1 rfl ?_)
      refine q0 I_196_111 (wi_iadd ?_)
      refine q0 I_196_112 (wi_iadd ?_)
      refine q0 I_196_113 (wi_istore [(0, .ref 176), (1, .int x1), (2, .int x2), (3, .int x3), (4, .int x4), (5, .int x5), (6, .int x6), (7, .int x7), (8, .int (x8 + ((-((di 184 ((((4 : Int32) * (di 191 (x12.toNatClampNeg))) + 1).toNatClampNeg)) - x9)) + 1))), (9, .int x9), (10, .int x10), (11, .int x11), (12, .int x12), (13, .int (di 184 ((((4 : Int32) * (di 191 (x12.toNatClampNeg))) + 1).toNatClampNeg)))] (lt_e X_196 rfl) rfl ?_)
      refine q0 I_196_115 (wi_iload _ rfl ?_)
      refine q0 I_196_117 (wi_istore [(0, .ref 176), (1, .int x1), (2, .int x2), (3, .int x3), (4, .int x4), (5, .int x5), (6, .int x6), (7, .int x7), (8, .int (x8 + ((-((di 184 ((((4 : Int32) * (di 191 (x12.toNatClampNeg))) + 1).toNatClampNeg)) - x9)) + 1))), (9, .int (di 184 ((((4 : Int32) * (di 191 (x12.toNatClampNeg))) + 1).toNatClampNeg))), (10, .int x10), (11, .int x11), (12, .int x12), (13, .int (di 184 ((((4 : Int32) * (di 191 (x12.toNatClampNeg))) + 1).toNatClampNeg)))] (lt_e X_196 rfl) rfl ?_)
      refine q0 I_196_119 (wi_iload _ rfl ?_)
      refine q0 I_196_121 (wi_iload _ rfl ?_)
      refine q0 I_196_123 (wi_iadd ?_)
      refine q0 I_196_124 (wi_istore [(0, .ref 176), (1, .int x1), (2, .int x2), (3, .int x3), (4, .int x4), (5, .int x5), (6, .int x6), (7, .int x7), (8, .int (x8 + ((-((di 184 ((((4 : Int32) * (di 191 (x12.toNatClampNeg))) + 1).toNatClampNeg)) - x9)) + 1))), (9, .int (di 184 ((((4 : Int32) * (di 191 (x12.toNatClampNeg))) + 1).toNatClampNeg))), (10, .int (x10 + (x8 + ((-((di 184 ((((4 : Int32) * (di 191 (x12.toNatClampNeg))) + 1).toNatClampNeg)) - x9)) + 1)))), (11, .int x11), (12, .int x12), (13, .int (di 184 ((((4 : Int32) * (di 191 (x12.toNatClampNeg))) + 1).toNatClampNeg)))] (lt_e X_196 rfl) rfl ?_)
      refine q0 I_196_126 (wi_iload _ rfl ?_)
      refine q0 I_196_128 (wi_if_eq (fun h => ?_) (fun h => ?_))
      · replace H := H.1 h
        refine q1 (ls' := [(0, .ref 176), (1, .int x1), (2, .int x2), (3, .int x3), (4, .int x4), (5, .int x5), (6, .int x6), (7, .int x7), (8, .int (x8 + ((-((di 184 ((((4 : Int32) * (di 191 (x12.toNatClampNeg))) + 1).toNatClampNeg)) - x9)) + 1))), (9, .int (di 184 ((((4 : Int32) * (di 191 (x12.toNatClampNeg))) + 1).toNatClampNeg))), (10, .int (x10 + (x8 + ((-((di 184 ((((4 : Int32) * (di 191 (x12.toNatClampNeg))) + 1).toNatClampNeg)) - x9)) + 1)))), (12, .int x12)]) I_196_152 rfl (wi_iconst 0 rfl ?_)
        refine q1 (ls' := [(0, .ref 176), (1, .int x1), (2, .int x2), (3, .int x3), (4, .int x4), (5, .int x5), (6, .int x6), (7, .int x7), (8, .int (x8 + ((-((di 184 ((((4 : Int32) * (di 191 (x12.toNatClampNeg))) + 1).toNatClampNeg)) - x9)) + 1))), (9, .int (di 184 ((((4 : Int32) * (di 191 (x12.toNatClampNeg))) + 1).toNatClampNeg))), (10, .int (x10 + (x8 + ((-((di 184 ((((4 : Int32) * (di 191 (x12.toNatClampNeg))) + 1).toNatClampNeg)) - x9)) + 1)))), (12, .int x12)]) I_196_153 rfl (wi_istore [(0, .ref 176), (1, .int x1), (2, .int x2), (3, .int x3), (4, .int x4), (5, .int x5), (6, .int x6), (7, .int x7), (8, .int (x8 + ((-((di 184 ((((4 : Int32) * (di 191 (x12.toNatClampNeg))) + 1).toNatClampNeg)) - x9)) + 1))), (9, .int (di 184 ((((4 : Int32) * (di 191 (x12.toNatClampNeg))) + 1).toNatClampNeg))), (10, .int (x10 + (x8 + ((-((di 184 ((((4 : Int32) * (di 191 (x12.toNatClampNeg))) + 1).toNatClampNeg)) - x9)) + 1)))), (11, .int 0), (12, .int x12)] (lt_e X_196 rfl) rfl ?_)
        refine q0 I_196_155 (wi_iinc 1 [(0, .ref 176), (1, .int x1), (2, .int x2), (3, .int x3), (4, .int x4), (5, .int x5), (6, .int x6), (7, .int x7), (8, .int (x8 + ((-((di 184 ((((4 : Int32) * (di 191 (x12.toNatClampNeg))) + 1).toNatClampNeg)) - x9)) + 1))), (9, .int (di 184 ((((4 : Int32) * (di 191 (x12.toNatClampNeg))) + 1).toNatClampNeg))), (10, .int (x10 + (x8 + ((-((di 184 ((((4 : Int32) * (di 191 (x12.toNatClampNeg))) + 1).toNatClampNeg)) - x9)) + 1)))), (11, .int 0), (12, .int (x12 + 1))] rfl (lt_e X_196 rfl) rfl rfl ?_)
        refine q0 I_196_158 (wi_goto ?_)
        exact Wq_c I_196_75 rfl rfl H
      · replace H := H.2 h
        refine q1 (ls' := [(0, .ref 176), (1, .int x1), (2, .int x2), (3, .int x3), (4, .int x4), (5, .int x5), (6, .int x6), (7, .int x7), (8, .int (x8 + ((-((di 184 ((((4 : Int32) * (di 191 (x12.toNatClampNeg))) + 1).toNatClampNeg)) - x9)) + 1))), (9, .int (di 184 ((((4 : Int32) * (di 191 (x12.toNatClampNeg))) + 1).toNatClampNeg))), (10, .int (x10 + (x8 + ((-((di 184 ((((4 : Int32) * (di 191 (x12.toNatClampNeg))) + 1).toNatClampNeg)) - x9)) + 1)))), (12, .int x12)]) I_196_131 rfl (wi_aload_n _ rfl ?_)
        refine q0 I_196_132 (wi_get (.ref 191) S_176 rfl (by decide) rfl ?_)
        refine q0 I_196_135 (wi_iload _ rfl ?_)
        refine q0 I_196_137 (wi_iaload (x12.toNatClampNeg) S_191 hb21 rfl ?_)
        refine q0 I_196_138 (wi_iload_n _ rfl ?_)
        refine q0 I_196_139 (wi_ic_ne (fun h => ?_) (fun h => ?_))
        · replace H := H.1 h
          refine q1 (ls' := [(0, .ref 176), (1, .int x1), (2, .int x2), (3, .int x3), (4, .int x4), (5, .int x5), (6, .int x6), (7, .int x7), (8, .int (x8 + ((-((di 184 ((((4 : Int32) * (di 191 (x12.toNatClampNeg))) + 1).toNatClampNeg)) - x9)) + 1))), (9, .int (di 184 ((((4 : Int32) * (di 191 (x12.toNatClampNeg))) + 1).toNatClampNeg))), (10, .int (x10 + (x8 + ((-((di 184 ((((4 : Int32) * (di 191 (x12.toNatClampNeg))) + 1).toNatClampNeg)) - x9)) + 1)))), (12, .int x12)]) I_196_148 rfl (wi_iconst 1 rfl ?_)
          refine q0 I_196_149 (wi_goto ?_)
          refine q1 (ls' := [(0, .ref 176), (1, .int x1), (2, .int x2), (3, .int x3), (4, .int x4), (5, .int x5), (6, .int x6), (7, .int x7), (8, .int (x8 + ((-((di 184 ((((4 : Int32) * (di 191 (x12.toNatClampNeg))) + 1).toNatClampNeg)) - x9)) + 1))), (9, .int (di 184 ((((4 : Int32) * (di 191 (x12.toNatClampNeg))) + 1).toNatClampNeg))), (10, .int (x10 + (x8 + ((-((di 184 ((((4 : Int32) * (di 191 (x12.toNatClampNeg))) + 1).toNatClampNeg)) - x9)) + 1)))), (12, .int x12)]) I_196_153 rfl (wi_istore [(0, .ref 176), (1, .int x1), (2, .int x2), (3, .int x3), (4, .int x4), (5, .int x5), (6, .int x6), (7, .int x7), (8, .int (x8 + ((-((di 184 ((((4 : Int32) * (di 191 (x12.toNatClampNeg))) + 1).toNatClampNeg)) - x9)) + 1))), (9, .int (di 184 ((((4 : Int32) * (di 191 (x12.toNatClampNeg))) + 1).toNatClampNeg))), (10, .int (x10 + (x8 + ((-((di 184 ((((4 : Int32) * (di 191 (x12.toNatClampNeg))) + 1).toNatClampNeg)) - x9)) + 1)))), (11, .int 1), (12, .int x12)] (lt_e X_196 rfl) rfl ?_)
          refine q0 I_196_155 (wi_iinc 1 [(0, .ref 176), (1, .int x1), (2, .int x2), (3, .int x3), (4, .int x4), (5, .int x5), (6, .int x6), (7, .int x7), (8, .int (x8 + ((-((di 184 ((((4 : Int32) * (di 191 (x12.toNatClampNeg))) + 1).toNatClampNeg)) - x9)) + 1))), (9, .int (di 184 ((((4 : Int32) * (di 191 (x12.toNatClampNeg))) + 1).toNatClampNeg))), (10, .int (x10 + (x8 + ((-((di 184 ((((4 : Int32) * (di 191 (x12.toNatClampNeg))) + 1).toNatClampNeg)) - x9)) + 1)))), (11, .int 1), (12, .int (x12 + 1))] rfl (lt_e X_196 rfl) rfl rfl ?_)
          refine q0 I_196_158 (wi_goto ?_)
          exact Wq_c I_196_75 rfl rfl H
        · replace H := H.2 h
          refine q1 (ls' := [(0, .ref 176), (1, .int x1), (2, .int x2), (3, .int x3), (4, .int x4), (5, .int x5), (6, .int x6), (7, .int x7), (8, .int (x8 + ((-((di 184 ((((4 : Int32) * (di 191 (x12.toNatClampNeg))) + 1).toNatClampNeg)) - x9)) + 1))), (9, .int (di 184 ((((4 : Int32) * (di 191 (x12.toNatClampNeg))) + 1).toNatClampNeg))), (10, .int (x10 + (x8 + ((-((di 184 ((((4 : Int32) * (di 191 (x12.toNatClampNeg))) + 1).toNatClampNeg)) - x9)) + 1)))), (12, .int x12)]) I_196_142 rfl (wi_iload _ rfl ?_)
          refine q0 I_196_144 (wi_iload_n _ rfl ?_)
          refine q0 I_196_145 (wi_ic_gt (fun h => ?_) (fun h => ?_))
          · replace H := H.1 h
            refine q1 (ls' := [(0, .ref 176), (1, .int x1), (2, .int x2), (3, .int x3), (4, .int x4), (5, .int x5), (6, .int x6), (7, .int x7), (8, .int (x8 + ((-((di 184 ((((4 : Int32) * (di 191 (x12.toNatClampNeg))) + 1).toNatClampNeg)) - x9)) + 1))), (9, .int (di 184 ((((4 : Int32) * (di 191 (x12.toNatClampNeg))) + 1).toNatClampNeg))), (10, .int (x10 + (x8 + ((-((di 184 ((((4 : Int32) * (di 191 (x12.toNatClampNeg))) + 1).toNatClampNeg)) - x9)) + 1)))), (12, .int x12)]) I_196_152 rfl (wi_iconst 0 rfl ?_)
            refine q1 (ls' := [(0, .ref 176), (1, .int x1), (2, .int x2), (3, .int x3), (4, .int x4), (5, .int x5), (6, .int x6), (7, .int x7), (8, .int (x8 + ((-((di 184 ((((4 : Int32) * (di 191 (x12.toNatClampNeg))) + 1).toNatClampNeg)) - x9)) + 1))), (9, .int (di 184 ((((4 : Int32) * (di 191 (x12.toNatClampNeg))) + 1).toNatClampNeg))), (10, .int (x10 + (x8 + ((-((di 184 ((((4 : Int32) * (di 191 (x12.toNatClampNeg))) + 1).toNatClampNeg)) - x9)) + 1)))), (12, .int x12)]) I_196_153 rfl (wi_istore [(0, .ref 176), (1, .int x1), (2, .int x2), (3, .int x3), (4, .int x4), (5, .int x5), (6, .int x6), (7, .int x7), (8, .int (x8 + ((-((di 184 ((((4 : Int32) * (di 191 (x12.toNatClampNeg))) + 1).toNatClampNeg)) - x9)) + 1))), (9, .int (di 184 ((((4 : Int32) * (di 191 (x12.toNatClampNeg))) + 1).toNatClampNeg))), (10, .int (x10 + (x8 + ((-((di 184 ((((4 : Int32) * (di 191 (x12.toNatClampNeg))) + 1).toNatClampNeg)) - x9)) + 1)))), (11, .int 0), (12, .int x12)] (lt_e X_196 rfl) rfl ?_)
            refine q0 I_196_155 (wi_iinc 1 [(0, .ref 176), (1, .int x1), (2, .int x2), (3, .int x3), (4, .int x4), (5, .int x5), (6, .int x6), (7, .int x7), (8, .int (x8 + ((-((di 184 ((((4 : Int32) * (di 191 (x12.toNatClampNeg))) + 1).toNatClampNeg)) - x9)) + 1))), (9, .int (di 184 ((((4 : Int32) * (di 191 (x12.toNatClampNeg))) + 1).toNatClampNeg))), (10, .int (x10 + (x8 + ((-((di 184 ((((4 : Int32) * (di 191 (x12.toNatClampNeg))) + 1).toNatClampNeg)) - x9)) + 1)))), (11, .int 0), (12, .int (x12 + 1))] rfl (lt_e X_196 rfl) rfl rfl ?_)
            refine q0 I_196_158 (wi_goto ?_)
            exact Wq_c I_196_75 rfl rfl H
          · replace H := H.2 h
            refine q1 (ls' := [(0, .ref 176), (1, .int x1), (2, .int x2), (3, .int x3), (4, .int x4), (5, .int x5), (6, .int x6), (7, .int x7), (8, .int (x8 + ((-((di 184 ((((4 : Int32) * (di 191 (x12.toNatClampNeg))) + 1).toNatClampNeg)) - x9)) + 1))), (9, .int (di 184 ((((4 : Int32) * (di 191 (x12.toNatClampNeg))) + 1).toNatClampNeg))), (10, .int (x10 + (x8 + ((-((di 184 ((((4 : Int32) * (di 191 (x12.toNatClampNeg))) + 1).toNatClampNeg)) - x9)) + 1)))), (12, .int x12)]) I_196_148 rfl (wi_iconst 1 rfl ?_)
            refine q0 I_196_149 (wi_goto ?_)
            refine q1 (ls' := [(0, .ref 176), (1, .int x1), (2, .int x2), (3, .int x3), (4, .int x4), (5, .int x5), (6, .int x6), (7, .int x7), (8, .int (x8 + ((-((di 184 ((((4 : Int32) * (di 191 (x12.toNatClampNeg))) + 1).toNatClampNeg)) - x9)) + 1))), (9, .int (di 184 ((((4 : Int32) * (di 191 (x12.toNatClampNeg))) + 1).toNatClampNeg))), (10, .int (x10 + (x8 + ((-((di 184 ((((4 : Int32) * (di 191 (x12.toNatClampNeg))) + 1).toNatClampNeg)) - x9)) + 1)))), (12, .int x12)]) I_196_153 rfl (wi_istore [(0, .ref 176), (1, .int x1), (2, .int x2), (3, .int x3), (4, .int x4), (5, .int x5), (6, .int x6), (7, .int x7), (8, .int (x8 + ((-((di 184 ((((4 : Int32) * (di 191 (x12.toNatClampNeg))) + 1).toNatClampNeg)) - x9)) + 1))), (9, .int (di 184 ((((4 : Int32) * (di 191 (x12.toNatClampNeg))) + 1).toNatClampNeg))), (10, .int (x10 + (x8 + ((-((di 184 ((((4 : Int32) * (di 191 (x12.toNatClampNeg))) + 1).toNatClampNeg)) - x9)) + 1)))), (11, .int 1), (12, .int x12)] (lt_e X_196 rfl) rfl ?_)
            refine q0 I_196_155 (wi_iinc 1 [(0, .ref 176), (1, .int x1), (2, .int x2), (3, .int x3), (4, .int x4), (5, .int x5), (6, .int x6), (7, .int x7), (8, .int (x8 + ((-((di 184 ((((4 : Int32) * (di 191 (x12.toNatClampNeg))) + 1).toNatClampNeg)) - x9)) + 1))), (9, .int (di 184 ((((4 : Int32) * (di 191 (x12.toNatClampNeg))) + 1).toNatClampNeg))), (10, .int (x10 + (x8 + ((-((di 184 ((((4 : Int32) * (di 191 (x12.toNatClampNeg))) + 1).toNatClampNeg)) - x9)) + 1)))), (11, .int 1), (12, .int (x12 + 1))] rfl (lt_e X_196 rfl) rfl rfl ?_)
            refine q0 I_196_158 (wi_goto ?_)
            exact Wq_c I_196_75 rfl rfl H
theorem r_196_186 {x1 : Int32} {x2 : Int32} {x3 : Int32} {x4 : Int32} {x5 : Int32} {x6 : Int32} {x7 : Int32} {x12 : Int32} {di : tDi} {dl : tDl} {K : Int32 → tDi → tDl → Prop} (H : ((x4 ≤ x12 → (Wq none 1 196 45 [(0, .ref 176), (1, .int x1), (2, .int x2), (3, .int x3), (4, .int x4), (5, .int x5), (6, .int x6), (7, .int (x7 + 1))] [] di dl (RI K))) ∧ (x12 < x4 → (inB x12 6 = true ∧ (Wq none 1 196 186 [(0, .ref 176), (1, .int x1), (2, .int x2), (3, .int x3), (4, .int x4), (5, .int x5), (6, .int x6), (7, .int x7), (12, .int (x12 + 1))] [] (up2 di 192 (x12.toNatClampNeg) (di 191 (x12.toNatClampNeg))) dl (RI K)))))) : Wq none 1 196 186 [(0, .ref 176), (1, .int x1), (2, .int x2), (3, .int x3), (4, .int x4), (5, .int x5), (6, .int x6), (7, .int x7), (12, .int x12)] [] di dl (RI K) := by
  refine q1 (ls' := [(0, .ref 176), (1, .int x1), (2, .int x2), (3, .int x3), (4, .int x4), (5, .int x5), (6, .int x6), (7, .int x7), (12, .int x12)]) I_196_186 rfl (wi_iload _ rfl ?_)
  refine q0 I_196_188 (wi_iload _ rfl ?_)
  refine q0 I_196_190 (wi_ic_ge (fun h => ?_) (fun h => ?_))
  · replace H := H.1 h
    refine q1 (ls' := [(0, .ref 176), (1, .int x1), (2, .int x2), (3, .int x3), (4, .int x4), (5, .int x5), (6, .int x6), (7, .int x7)]) I_196_213 rfl (wi_iinc 1 [(0, .ref 176), (1, .int x1), (2, .int x2), (3, .int x3), (4, .int x4), (5, .int x5), (6, .int x6), (7, .int (x7 + 1))] rfl (lt_e X_196 rfl) rfl rfl ?_)
    refine q0 I_196_216 (wi_goto ?_)
    exact Wq_c I_196_45 rfl rfl H
  · replace H := H.2 h
    refine q1 (ls' := [(0, .ref 176), (1, .int x1), (2, .int x2), (3, .int x3), (4, .int x4), (5, .int x5), (6, .int x6), (7, .int x7), (12, .int x12)]) I_196_193 rfl (wi_aload_n _ rfl ?_)
    refine q0 I_196_194 (wi_get (.ref 192) S_176 rfl (by decide) rfl ?_)
    refine q0 I_196_197 (wi_iload _ rfl ?_)
    refine q0 I_196_199 (wi_aload_n _ rfl ?_)
    refine q0 I_196_200 (wi_get (.ref 191) S_176 rfl (by decide) rfl ?_)
    refine q0 I_196_203 (wi_iload _ rfl ?_)
    have hb21 := H.1
    replace H := H.2
    refine q0 I_196_205 (wi_iaload (x12.toNatClampNeg) S_191 hb21 rfl ?_)
    refine q0 I_196_206 (wi_iastore (x12.toNatClampNeg) S_192 hb21 rfl ?_)
    refine q0 I_196_207 (wi_iinc 1 [(0, .ref 176), (1, .int x1), (2, .int x2), (3, .int x3), (4, .int x4), (5, .int x5), (6, .int x6), (7, .int x7), (12, .int (x12 + 1))] rfl (lt_e X_196 rfl) rfl rfl ?_)
    refine q0 I_196_210 (wi_goto ?_)
    exact Wq_c I_196_186 rfl rfl H
theorem r_197 {a1 : Int32} {a2 : Int32} {a3 : Int32} {di : tDi} {dl : tDl} {K : Int32 → tDi → tDl → Prop} (H : (ClV 6 163 [.ref 176] di dl (fun di1 dl1 => (((lg_cmp (a1 : Int32).toInt64 0) < 0 → (K (-2) di1 dl1)) ∧ (0 ≤ (lg_cmp (a1 : Int32).toInt64 0) → ((0 < (lg_cmp (a1 : Int32).toInt64 (((di1 183 0) - 1) : Int32).toInt64) → (K (-2) di1 dl1)) ∧ ((lg_cmp (a1 : Int32).toInt64 (((di1 183 0) - 1) : Int32).toInt64) ≤ 0 → ((6 ≤ a1 → (K (-2) di1 dl1)) ∧ (a1 < 6 → (((lg_cmp (a2 : Int32).toInt64 0) < 0 → (K (-2) di1 dl1)) ∧ (0 ≤ (lg_cmp (a2 : Int32).toInt64 0) → ((0 < (lg_cmp (a2 : Int32).toInt64 99) → (K (-2) di1 dl1)) ∧ ((lg_cmp (a2 : Int32).toInt64 99) ≤ 0 → (((lg_cmp (a3 : Int32).toInt64 (-1)) < 0 → (K (-2) di1 dl1)) ∧ (0 ≤ (lg_cmp (a3 : Int32).toInt64 (-1)) → ((0 < (lg_cmp (a3 : Int32).toInt64 5) → (K (-2) di1 dl1)) ∧ ((lg_cmp (a3 : Int32).toInt64 5) ≤ 0 → (ClI 1 196 [.ref 176, .int a1, .int a2, .int a3] di1 dl1 (fun r2 di2 dl2 => (K r2 di2 dl2)))))))))))))))))))) : ClI 7 197 [.ref 176, .int a1, .int a2, .int a3] di dl K := by
  refine Cl_of C_197 Z_197 [(0, .ref 176), (1, .int a1), (2, .int a2), (3, .int a3)] rfl ?_
  refine q0 I_197_0 (wi_aload_n _ rfl ?_)
  refine q0 I_197_1 (wi_virtV (e := 6) [] [] S_176 rfl (by decide) rfl rfl rfl (okC_i rfl rfl rfl) C_163 (by decide) (ClV_mono H ?_))
  intro di1 dl1 H
  refine q0 I_197_4 (wi_aload_n _ rfl ?_)
  refine q0 I_197_5 (wi_iload_n _ rfl ?_)
  refine q0 I_197_6 (wi_virtI (e := 6) [.int a1] [] S_176 rfl (by decide) rfl rfl rfl (okC_i rfl rfl rfl) C_165 (by decide) (Cl_of C_165 Z_165 [(0, .ref 176), (1, .int a1)] rfl ?_))
  refine q0 I_165_0 (wi_iload_n _ rfl ?_)
  refine q0 I_165_1 (wi_i2l ?_)
  refine q0 I_165_2 (wi_lconst 0 rfl ?_)
  refine q0 I_165_3 (wi_aload_n _ rfl ?_)
  refine q0 I_165_4 (wi_get (.ref 183) S_176 rfl (by decide) rfl ?_)
  refine q0 I_165_7 (wi_iconst 0 rfl ?_)
  refine q0 I_165_8 (wi_iaload 0 S_183 rfl rfl ?_)
  refine q0 I_165_9 (wi_iconst 1 rfl ?_)
  refine q0 I_165_10 (wi_isub ?_)
  refine q0 I_165_11 (wi_i2l ?_)
  refine q0 I_165_12 (wi_statI (e := 5) [.long (a1 : Int32).toInt64, .long 0, .long (((di1 183 0) - 1) : Int32).toInt64] [] rfl (Or.inl rfl) rfl rfl rfl (okC_i rfl rfl rfl) C_134 (by decide) (Cl_of C_134 Z_134 [(0, .long (a1 : Int32).toInt64), (2, .long 0), (4, .long (((di1 183 0) - 1) : Int32).toInt64)] rfl ?_))
  refine q0 I_134_0 (wi_lload_n _ rfl ?_)
  refine q0 I_134_1 (wi_lload_n _ rfl ?_)
  refine q0 I_134_2 (wi_lcmp ?_)
  refine q0 I_134_3 (wi_if_lt (fun h => ?_) (fun h => ?_))
  · replace H := H.1 h
    refine q1 (ls' := []) I_134_17 rfl (wi_iconst 0 rfl ?_)
    refine q1 (ls' := []) I_134_18 rfl (wi_zret T_134 (Or.inl C_134) (Or.inl rfl) ⟨_, rfl, ?_⟩)
    refine q0 I_165_15 (wi_zret T_165 (Or.inl C_165) (Or.inl rfl) ⟨_, rfl, ?_⟩)
    refine q0 I_197_9 (wi_ifT rfl ?_)
    refine q1 (ls' := []) I_197_54 rfl (wi_bipush (-2) rfl ?_)
    exact q1 (ls' := []) I_197_56 rfl (wi_iret T_197 C_197 ⟨_, rfl, H⟩)
  · replace H := H.2 h
    refine q1 (ls' := [(0, .long (a1 : Int32).toInt64), (4, .long (((di1 183 0) - 1) : Int32).toInt64)]) I_134_6 rfl (wi_lload_n _ rfl ?_)
    refine q0 I_134_7 (wi_lload _ rfl ?_)
    refine q0 I_134_9 (wi_lcmp ?_)
    refine q0 I_134_10 (wi_if_gt (fun h => ?_) (fun h => ?_))
    · replace H := H.1 h
      refine q1 (ls' := []) I_134_17 rfl (wi_iconst 0 rfl ?_)
      refine q1 (ls' := []) I_134_18 rfl (wi_zret T_134 (Or.inl C_134) (Or.inl rfl) ⟨_, rfl, ?_⟩)
      refine q0 I_165_15 (wi_zret T_165 (Or.inl C_165) (Or.inl rfl) ⟨_, rfl, ?_⟩)
      refine q0 I_197_9 (wi_ifT rfl ?_)
      refine q1 (ls' := []) I_197_54 rfl (wi_bipush (-2) rfl ?_)
      exact q1 (ls' := []) I_197_56 rfl (wi_iret T_197 C_197 ⟨_, rfl, H⟩)
    · replace H := H.2 h
      refine q1 (ls' := []) I_134_13 rfl (wi_iconst 1 rfl ?_)
      refine q0 I_134_14 (wi_goto ?_)
      refine q1 (ls' := []) I_134_18 rfl (wi_zret T_134 (Or.inl C_134) (Or.inr rfl) ⟨_, rfl, ?_⟩)
      refine q0 I_165_15 (wi_zret T_165 (Or.inl C_165) (Or.inr rfl) ⟨_, rfl, ?_⟩)
      refine q0 I_197_9 (wi_ifF rfl ?_)
      refine q1 (ls' := [(0, .ref 176), (1, .int a1), (2, .int a2), (3, .int a3)]) I_197_12 rfl (wi_iload_n _ rfl ?_)
      refine q0 I_197_13 (wi_bipush 6 rfl ?_)
      refine q0 I_197_15 (wi_ic_ge (fun h => ?_) (fun h => ?_))
      · replace H := H.1 h
        refine q1 (ls' := []) I_197_54 rfl (wi_bipush (-2) rfl ?_)
        exact q1 (ls' := []) I_197_56 rfl (wi_iret T_197 C_197 ⟨_, rfl, H⟩)
      · replace H := H.2 h
        refine q1 (ls' := [(0, .ref 176), (1, .int a1), (2, .int a2), (3, .int a3)]) I_197_18 rfl (wi_iload_n _ rfl ?_)
        refine q0 I_197_19 (wi_i2l ?_)
        refine q0 I_197_20 (wi_lconst 0 rfl ?_)
        refine q0 I_197_21 (wi_ldc2_w 99 rfl ?_)
        refine q0 I_197_24 (wi_statI (e := 6) [.long (a2 : Int32).toInt64, .long 0, .long 99] [] rfl (Or.inl rfl) rfl rfl rfl (okC_i rfl rfl rfl) C_134 (by decide) (Cl_of C_134 Z_134 [(0, .long (a2 : Int32).toInt64), (2, .long 0), (4, .long 99)] rfl ?_))
        refine q0 I_134_0 (wi_lload_n _ rfl ?_)
        refine q0 I_134_1 (wi_lload_n _ rfl ?_)
        refine q0 I_134_2 (wi_lcmp ?_)
        refine q0 I_134_3 (wi_if_lt (fun h => ?_) (fun h => ?_))
        · replace H := H.1 h
          refine q1 (ls' := []) I_134_17 rfl (wi_iconst 0 rfl ?_)
          refine q1 (ls' := []) I_134_18 rfl (wi_zret T_134 (Or.inl C_134) (Or.inl rfl) ⟨_, rfl, ?_⟩)
          refine q0 I_197_27 (wi_ifT rfl ?_)
          refine q1 (ls' := []) I_197_54 rfl (wi_bipush (-2) rfl ?_)
          exact q1 (ls' := []) I_197_56 rfl (wi_iret T_197 C_197 ⟨_, rfl, H⟩)
        · replace H := H.2 h
          refine q1 (ls' := [(0, .long (a2 : Int32).toInt64), (4, .long 99)]) I_134_6 rfl (wi_lload_n _ rfl ?_)
          refine q0 I_134_7 (wi_lload _ rfl ?_)
          refine q0 I_134_9 (wi_lcmp ?_)
          refine q0 I_134_10 (wi_if_gt (fun h => ?_) (fun h => ?_))
          · replace H := H.1 h
            refine q1 (ls' := []) I_134_17 rfl (wi_iconst 0 rfl ?_)
            refine q1 (ls' := []) I_134_18 rfl (wi_zret T_134 (Or.inl C_134) (Or.inl rfl) ⟨_, rfl, ?_⟩)
            refine q0 I_197_27 (wi_ifT rfl ?_)
            refine q1 (ls' := []) I_197_54 rfl (wi_bipush (-2) rfl ?_)
            exact q1 (ls' := []) I_197_56 rfl (wi_iret T_197 C_197 ⟨_, rfl, H⟩)
          · replace H := H.2 h
            refine q1 (ls' := []) I_134_13 rfl (wi_iconst 1 rfl ?_)
            refine q0 I_134_14 (wi_goto ?_)
            refine q1 (ls' := []) I_134_18 rfl (wi_zret T_134 (Or.inl C_134) (Or.inr rfl) ⟨_, rfl, ?_⟩)
            refine q0 I_197_27 (wi_ifF rfl ?_)
            refine q1 (ls' := [(0, .ref 176), (1, .int a1), (2, .int a2), (3, .int a3)]) I_197_30 rfl (wi_iload_n _ rfl ?_)
            refine q0 I_197_31 (wi_i2l ?_)
            refine q0 I_197_32 (wi_ldc2_w (-1) rfl ?_)
            refine q0 I_197_35 (wi_ldc2_w 5 rfl ?_)
            refine q0 I_197_38 (wi_statI (e := 6) [.long (a3 : Int32).toInt64, .long (-1), .long 5] [] rfl (Or.inl rfl) rfl rfl rfl (okC_i rfl rfl rfl) C_134 (by decide) (Cl_of C_134 Z_134 [(0, .long (a3 : Int32).toInt64), (2, .long (-1)), (4, .long 5)] rfl ?_))
            refine q0 I_134_0 (wi_lload_n _ rfl ?_)
            refine q0 I_134_1 (wi_lload_n _ rfl ?_)
            refine q0 I_134_2 (wi_lcmp ?_)
            refine q0 I_134_3 (wi_if_lt (fun h => ?_) (fun h => ?_))
            · replace H := H.1 h
              refine q1 (ls' := []) I_134_17 rfl (wi_iconst 0 rfl ?_)
              refine q1 (ls' := []) I_134_18 rfl (wi_zret T_134 (Or.inl C_134) (Or.inl rfl) ⟨_, rfl, ?_⟩)
              refine q0 I_197_41 (wi_ifT rfl ?_)
              refine q1 (ls' := []) I_197_54 rfl (wi_bipush (-2) rfl ?_)
              exact q1 (ls' := []) I_197_56 rfl (wi_iret T_197 C_197 ⟨_, rfl, H⟩)
            · replace H := H.2 h
              refine q1 (ls' := [(0, .long (a3 : Int32).toInt64), (4, .long 5)]) I_134_6 rfl (wi_lload_n _ rfl ?_)
              refine q0 I_134_7 (wi_lload _ rfl ?_)
              refine q0 I_134_9 (wi_lcmp ?_)
              refine q0 I_134_10 (wi_if_gt (fun h => ?_) (fun h => ?_))
              · replace H := H.1 h
                refine q1 (ls' := []) I_134_17 rfl (wi_iconst 0 rfl ?_)
                refine q1 (ls' := []) I_134_18 rfl (wi_zret T_134 (Or.inl C_134) (Or.inl rfl) ⟨_, rfl, ?_⟩)
                refine q0 I_197_41 (wi_ifT rfl ?_)
                refine q1 (ls' := []) I_197_54 rfl (wi_bipush (-2) rfl ?_)
                exact q1 (ls' := []) I_197_56 rfl (wi_iret T_197 C_197 ⟨_, rfl, H⟩)
              · replace H := H.2 h
                refine q1 (ls' := []) I_134_13 rfl (wi_iconst 1 rfl ?_)
                refine q0 I_134_14 (wi_goto ?_)
                refine q1 (ls' := []) I_134_18 rfl (wi_zret T_134 (Or.inl C_134) (Or.inr rfl) ⟨_, rfl, ?_⟩)
                refine q0 I_197_41 (wi_ifF rfl ?_)
                refine q1 (ls' := [(0, .ref 176), (1, .int a1), (2, .int a2), (3, .int a3)]) I_197_44 rfl (wi_aload_n _ rfl ?_)
                refine q0 I_197_45 (wi_iload_n _ rfl ?_)
                refine q0 I_197_46 (wi_iload_n _ rfl ?_)
                refine q0 I_197_47 (wi_iload_n _ rfl ?_)
                refine q0 I_197_48 (wi_virtI (e := 1) [.int a1, .int a2, .int a3] [] S_176 rfl (by decide) rfl rfl rfl (okC_i rfl rfl rfl) C_196 (by decide) (ClI_mono H ?_))
                intro r2 di2 dl2 H
                refine q0 I_197_51 (wi_goto ?_)
                exact q1 (ls' := []) I_197_56 rfl (wi_iret T_197 C_197 ⟨_, rfl, H⟩)
theorem r_198 {a1 : Int32} {a2 : Int32} {di : tDi} {dl : tDl} {K : Int32 → tDi → tDl → Prop} (H : (ClV 4 179 [.ref 176, .int a1] di dl (fun di1 dl1 => (Wq none 5 198 13 [(0, .ref 176), (2, .int a2), (3, .int (-1)), (4, .int 0), (5, .int 0)] [] di1 dl1 (RI K))))) : ClI 5 198 [.ref 176, .int a1, .int a2] di dl K := by
  refine Cl_of C_198 Z_198 [(0, .ref 176), (1, .int a1), (2, .int a2)] rfl ?_
  refine q0 I_198_0 (wi_aload_n _ rfl ?_)
  refine q0 I_198_1 (wi_iload_n _ rfl ?_)
  refine q0 I_198_2 (wi_virtV (e := 4) [.int a1] [] S_176 rfl (by decide) rfl rfl rfl (okC_i rfl rfl rfl) C_179 (by decide) (ClV_mono H ?_))
  intro di1 dl1 H
  refine q0 I_198_5 (wi_iconst (-1) rfl ?_)
  refine q0 I_198_6 (wi_istore_n [(0, .ref 176), (1, .int a1), (2, .int a2), (3, .int (-1))] (lt_e X_198 rfl) rfl ?_)
  refine q0 I_198_7 (wi_iconst 0 rfl ?_)
  refine q0 I_198_8 (wi_istore [(0, .ref 176), (1, .int a1), (2, .int a2), (3, .int (-1)), (4, .int 0)] (lt_e X_198 rfl) rfl ?_)
  refine q0 I_198_10 (wi_iconst 0 rfl ?_)
  refine q0 I_198_11 (wi_istore [(0, .ref 176), (1, .int a1), (2, .int a2), (3, .int (-1)), (4, .int 0), (5, .int 0)] (lt_e X_198 rfl) rfl ?_)
  exact Wq_c I_198_13 rfl rfl H
theorem r_198_13 {x2 : Int32} {x3 : Int32} {x4 : Int32} {x5 : Int32} {di : tDi} {dl : tDl} {K : Int32 → tDi → tDl → Prop} (H : ((((1 : Int32) <<< ((di 183 1) &&& 31)) ≤ x5 → (K x3 di dl)) ∧ (x5 < ((1 : Int32) <<< ((di 183 1) &&& 31)) → (Wq none 5 198 38 [(0, .ref 176), (2, .int x2), (3, .int x3), (4, .int x4), (5, .int x5), (6, .int 0), (7, .int 0), (8, .int 1), (9, .int 0)] [] di dl (RI K))))) : Wq none 5 198 13 [(0, .ref 176), (2, .int x2), (3, .int x3), (4, .int x4), (5, .int x5)] [] di dl (RI K) := by
  refine q1 (ls' := [(0, .ref 176), (2, .int x2), (3, .int x3), (4, .int x4), (5, .int x5)]) I_198_13 rfl (wi_iload _ rfl ?_)
  refine q0 I_198_15 (wi_iconst 1 rfl ?_)
  refine q0 I_198_16 (wi_aload_n _ rfl ?_)
  refine q0 I_198_17 (wi_get (.ref 183) S_176 rfl (by decide) rfl ?_)
  refine q0 I_198_20 (wi_iconst 1 rfl ?_)
  refine q0 I_198_21 (wi_iaload 1 S_183 rfl rfl ?_)
  refine q0 I_198_22 (wi_ishl ?_)
  refine q0 I_198_23 (wi_ic_ge (fun h => ?_) (fun h => ?_))
  · replace H := H.1 h
    refine q1 (ls' := [(3, .int x3)]) I_198_216 rfl (wi_iload_n _ rfl ?_)
    exact q0 I_198_217 (wi_iret T_198 C_198 ⟨_, rfl, H⟩)
  · replace H := H.2 h
    refine q1 (ls' := [(0, .ref 176), (2, .int x2), (3, .int x3), (4, .int x4), (5, .int x5)]) I_198_26 rfl (wi_iconst 0 rfl ?_)
    refine q0 I_198_27 (wi_istore [(0, .ref 176), (2, .int x2), (3, .int x3), (4, .int x4), (5, .int x5), (6, .int 0)] (lt_e X_198 rfl) rfl ?_)
    refine q0 I_198_29 (wi_iconst 0 rfl ?_)
    refine q0 I_198_30 (wi_istore [(0, .ref 176), (2, .int x2), (3, .int x3), (4, .int x4), (5, .int x5), (6, .int 0), (7, .int 0)] (lt_e X_198 rfl) rfl ?_)
    refine q0 I_198_32 (wi_iconst 1 rfl ?_)
    refine q0 I_198_33 (wi_istore [(0, .ref 176), (2, .int x2), (3, .int x3), (4, .int x4), (5, .int x5), (6, .int 0), (7, .int 0), (8, .int 1)] (lt_e X_198 rfl) rfl ?_)
    refine q0 I_198_35 (wi_iconst 0 rfl ?_)
    refine q0 I_198_36 (wi_istore [(0, .ref 176), (2, .int x2), (3, .int x3), (4, .int x4), (5, .int x5), (6, .int 0), (7, .int 0), (8, .int 1), (9, .int 0)] (lt_e X_198 rfl) rfl ?_)
    exact Wq_c I_198_38 rfl rfl H
theorem r_198_38 {x2 : Int32} {x3 : Int32} {x4 : Int32} {x5 : Int32} {x6 : Int32} {x7 : Int32} {x8 : Int32} {x9 : Int32} {di : tDi} {dl : tDl} {K : Int32 → tDi → tDl → Prop} (H : (((di 183 1) ≤ x9 → ((x3 = (-1) → ((x8 = 0 → (Wq none 5 198 13 [(0, .ref 176), (2, .int x2), (3, .int x3), (4, .int x4), (5, .int (x5 + 1))] [] di dl (RI K))) ∧ (¬ x8 = 0 → ((x6 < x2 → (Wq none 5 198 13 [(0, .ref 176), (2, .int x2), (3, .int x3), (4, .int x4), (5, .int (x5 + 1))] [] di dl (RI K))) ∧ (x2 ≤ x6 → (Wq none 5 198 13 [(0, .ref 176), (2, .int x2), (3, .int x5), (4, .int x7), (5, .int (x5 + 1))] [] di dl (RI K))))))) ∧ (¬ x3 = (-1) → ((x7 < x4 → ((x8 = 0 → (Wq none 5 198 13 [(0, .ref 176), (2, .int x2), (3, .int x3), (4, .int x4), (5, .int (x5 + 1))] [] di dl (RI K))) ∧ (¬ x8 = 0 → ((x6 < x2 → (Wq none 5 198 13 [(0, .ref 176), (2, .int x2), (3, .int x3), (4, .int x4), (5, .int (x5 + 1))] [] di dl (RI K))) ∧ (x2 ≤ x6 → (Wq none 5 198 13 [(0, .ref 176), (2, .int x2), (3, .int x5), (4, .int x7), (5, .int (x5 + 1))] [] di dl (RI K))))))) ∧ (x4 ≤ x7 → ((¬ x7 = x4 → ((x8 = 0 → (Wq none 5 198 13 [(0, .ref 176), (2, .int x2), (3, .int x3), (4, .int x4), (5, .int (x5 + 1))] [] di dl (RI K))) ∧ (¬ x8 = 0 → ((x6 < x2 → (Wq none 5 198 13 [(0, .ref 176), (2, .int x2), (3, .int x3), (4, .int x4), (5, .int (x5 + 1))] [] di dl (RI K))) ∧ (x2 ≤ x6 → (Wq none 5 198 13 [(0, .ref 176), (2, .int x2), (3, .int x3), (4, .int x4), (5, .int (x5 + 1))] [] di dl (RI K))))))) ∧ (x7 = x4 → (ClI 0 138 [.int x5] di dl (fun r21 di21 dl21 => (ClI 0 138 [.int x3] di21 dl21 (fun r22 di22 dl22 => ((r22 ≤ r21 → ((x8 = 0 → (Wq none 5 198 13 [(0, .ref 176), (2, .int x2), (3, .int x3), (4, .int x4), (5, .int (x5 + 1))] [] di22 dl22 (RI K))) ∧ (¬ x8 = 0 → ((x6 < x2 → (Wq none 5 198 13 [(0, .ref 176), (2, .int x2), (3, .int x3), (4, .int x4), (5, .int (x5 + 1))] [] di22 dl22 (RI K))) ∧ (x2 ≤ x6 → (Wq none 5 198 13 [(0, .ref 176), (2, .int x2), (3, .int x3), (4, .int x4), (5, .int (x5 + 1))] [] di22 dl22 (RI K))))))) ∧ (r21 < r22 → ((x8 = 0 → (Wq none 5 198 13 [(0, .ref 176), (2, .int x2), (3, .int x3), (4, .int x4), (5, .int (x5 + 1))] [] di22 dl22 (RI K))) ∧ (¬ x8 = 0 → ((x6 < x2 → (Wq none 5 198 13 [(0, .ref 176), (2, .int x2), (3, .int x3), (4, .int x4), (5, .int (x5 + 1))] [] di22 dl22 (RI K))) ∧ (x2 ≤ x6 → (Wq none 5 198 13 [(0, .ref 176), (2, .int x2), (3, .int x5), (4, .int x7), (5, .int (x5 + 1))] [] di22 dl22 (RI K))))))))))))))))))) ∧ (x9 < (di 183 1) → ((¬ ((x5 >>> (x9 &&& 31)) &&& 1) = 1 → ((¬ ((x5 >>> (x9 &&& 31)) &&& 1) = 1 → ((x8 = 0 → (Wq none 5 198 38 [(0, .ref 176), (2, .int x2), (3, .int x3), (4, .int x4), (5, .int x5), (6, .int (x6 + 0)), (7, .int (x7 + 0)), (8, .int 0), (9, .int (x9 + 1))] [] di dl (RI K))) ∧ (¬ x8 = 0 → ((¬ ((x5 >>> (x9 &&& 31)) &&& 1) = 1 → (Wq none 5 198 38 [(0, .ref 176), (2, .int x2), (3, .int x3), (4, .int x4), (5, .int x5), (6, .int (x6 + 0)), (7, .int (x7 + 0)), (8, .int 1), (9, .int (x9 + 1))] [] di dl (RI K))) ∧ (((x5 >>> (x9 &&& 31)) &&& 1) = 1 → (inB (((3 : Int32) * x9) + 2) 24 = true ∧ (((di 188 ((((3 : Int32) * x9) + 2).toNatClampNeg)) ≤ 0 → (Wq none 5 198 38 [(0, .ref 176), (2, .int x2), (3, .int x3), (4, .int x4), (5, .int x5), (6, .int (x6 + 0)), (7, .int (x7 + 0)), (8, .int 0), (9, .int (x9 + 1))] [] di dl (RI K))) ∧ (0 < (di 188 ((((3 : Int32) * x9) + 2).toNatClampNeg)) → (Wq none 5 198 38 [(0, .ref 176), (2, .int x2), (3, .int x3), (4, .int x4), (5, .int x5), (6, .int (x6 + 0)), (7, .int (x7 + 0)), (8, .int 1), (9, .int (x9 + 1))] [] di dl (RI K)))))))))) ∧ (((x5 >>> (x9 &&& 31)) &&& 1) = 1 → (inB (((3 : Int32) * x9) + 2) 24 = true ∧ ((x8 = 0 → (Wq none 5 198 38 [(0, .ref 176), (2, .int x2), (3, .int x3), (4, .int x4), (5, .int x5), (6, .int (x6 + 0)), (7, .int (x7 + (di 188 ((((3 : Int32) * x9) + 2).toNatClampNeg)))), (8, .int 0), (9, .int (x9 + 1))] [] di dl (RI K))) ∧ (¬ x8 = 0 → ((¬ ((x5 >>> (x9 &&& 31)) &&& 1) = 1 → (Wq none 5 198 38 [(0, .ref 176), (2, .int x2), (3, .int x3), (4, .int x4), (5, .int x5), (6, .int (x6 + 0)), (7, .int (x7 + (di 188 ((((3 : Int32) * x9) + 2).toNatClampNeg)))), (8, .int 1), (9, .int (x9 + 1))] [] di dl (RI K))) ∧ (((x5 >>> (x9 &&& 31)) &&& 1) = 1 → (((di 188 ((((3 : Int32) * x9) + 2).toNatClampNeg)) ≤ 0 → (Wq none 5 198 38 [(0, .ref 176), (2, .int x2), (3, .int x3), (4, .int x4), (5, .int x5), (6, .int (x6 + 0)), (7, .int (x7 + (di 188 ((((3 : Int32) * x9) + 2).toNatClampNeg)))), (8, .int 0), (9, .int (x9 + 1))] [] di dl (RI K))) ∧ (0 < (di 188 ((((3 : Int32) * x9) + 2).toNatClampNeg)) → (Wq none 5 198 38 [(0, .ref 176), (2, .int x2), (3, .int x3), (4, .int x4), (5, .int x5), (6, .int (x6 + 0)), (7, .int (x7 + (di 188 ((((3 : Int32) * x9) + 2).toNatClampNeg)))), (8, .int 1), (9, .int (x9 + 1))] [] di dl (RI K)))))))))))) ∧ (((x5 >>> (x9 &&& 31)) &&& 1) = 1 → (inB ((3 : Int32) * x9) 24 = true ∧ ((¬ ((x5 >>> (x9 &&& 31)) &&& 1) = 1 → ((x8 = 0 → (Wq none 5 198 38 [(0, .ref 176), (2, .int x2), (3, .int x3), (4, .int x4), (5, .int x5), (6, .int (x6 + (di 188 (((3 : Int32) * x9).toNatClampNeg)))), (7, .int (x7 + 0)), (8, .int 0), (9, .int (x9 + 1))] [] di dl (RI K))) ∧ (¬ x8 = 0 → ((¬ ((x5 >>> (x9 &&& 31)) &&& 1) = 1 → (Wq none 5 198 38 [(0, .ref 176), (2, .int x2), (3, .int x3), (4, .int x4), (5, .int x5), (6, .int (x6 + (di 188 (((3 : Int32) * x9).toNatClampNeg)))), (7, .int (x7 + 0)), (8, .int 1), (9, .int (x9 + 1))] [] di dl (RI K))) ∧ (((x5 >>> (x9 &&& 31)) &&& 1) = 1 → (inB (((3 : Int32) * x9) + 2) 24 = true ∧ (((di 188 ((((3 : Int32) * x9) + 2).toNatClampNeg)) ≤ 0 → (Wq none 5 198 38 [(0, .ref 176), (2, .int x2), (3, .int x3), (4, .int x4), (5, .int x5), (6, .int (x6 + (di 188 (((3 : Int32) * x9).toNatClampNeg)))), (7, .int (x7 + 0)), (8, .int 0), (9, .int (x9 + 1))] [] di dl (RI K))) ∧ (0 < (di 188 ((((3 : Int32) * x9) + 2).toNatClampNeg)) → (Wq none 5 198 38 [(0, .ref 176), (2, .int x2), (3, .int x3), (4, .int x4), (5, .int x5), (6, .int (x6 + (di 188 (((3 : Int32) * x9).toNatClampNeg)))), (7, .int (x7 + 0)), (8, .int 1), (9, .int (x9 + 1))] [] di dl (RI K)))))))))) ∧ (((x5 >>> (x9 &&& 31)) &&& 1) = 1 → (inB (((3 : Int32) * x9) + 2) 24 = true ∧ ((x8 = 0 → (Wq none 5 198 38 [(0, .ref 176), (2, .int x2), (3, .int x3), (4, .int x4), (5, .int x5), (6, .int (x6 + (di 188 (((3 : Int32) * x9).toNatClampNeg)))), (7, .int (x7 + (di 188 ((((3 : Int32) * x9) + 2).toNatClampNeg)))), (8, .int 0), (9, .int (x9 + 1))] [] di dl (RI K))) ∧ (¬ x8 = 0 → ((¬ ((x5 >>> (x9 &&& 31)) &&& 1) = 1 → (Wq none 5 198 38 [(0, .ref 176), (2, .int x2), (3, .int x3), (4, .int x4), (5, .int x5), (6, .int (x6 + (di 188 (((3 : Int32) * x9).toNatClampNeg)))), (7, .int (x7 + (di 188 ((((3 : Int32) * x9) + 2).toNatClampNeg)))), (8, .int 1), (9, .int (x9 + 1))] [] di dl (RI K))) ∧ (((x5 >>> (x9 &&& 31)) &&& 1) = 1 → (((di 188 ((((3 : Int32) * x9) + 2).toNatClampNeg)) ≤ 0 → (Wq none 5 198 38 [(0, .ref 176), (2, .int x2), (3, .int x3), (4, .int x4), (5, .int x5), (6, .int (x6 + (di 188 (((3 : Int32) * x9).toNatClampNeg)))), (7, .int (x7 + (di 188 ((((3 : Int32) * x9) + 2).toNatClampNeg)))), (8, .int 0), (9, .int (x9 + 1))] [] di dl (RI K))) ∧ (0 < (di 188 ((((3 : Int32) * x9) + 2).toNatClampNeg)) → (Wq none 5 198 38 [(0, .ref 176), (2, .int x2), (3, .int x3), (4, .int x4), (5, .int x5), (6, .int (x6 + (di 188 (((3 : Int32) * x9).toNatClampNeg)))), (7, .int (x7 + (di 188 ((((3 : Int32) * x9) + 2).toNatClampNeg)))), (8, .int 1), (9, .int (x9 + 1))] [] di dl (RI K))))))))))))))))) : Wq none 5 198 38 [(0, .ref 176), (2, .int x2), (3, .int x3), (4, .int x4), (5, .int x5), (6, .int x6), (7, .int x7), (8, .int x8), (9, .int x9)] [] di dl (RI K) := by
  refine q1 (ls' := [(0, .ref 176), (2, .int x2), (3, .int x3), (4, .int x4), (5, .int x5), (6, .int x6), (7, .int x7), (8, .int x8), (9, .int x9)]) I_198_38 rfl (wi_iload _ rfl ?_)
  refine q0 I_198_40 (wi_aload_n _ rfl ?_)
  refine q0 I_198_41 (wi_get (.ref 183) S_176 rfl (by decide) rfl ?_)
  refine q0 I_198_44 (wi_iconst 1 rfl ?_)
  refine q0 I_198_45 (wi_iaload 1 S_183 rfl rfl ?_)
  refine q0 I_198_46 (wi_ic_ge (fun h => ?_) (fun h => ?_))
  · replace H := H.1 h
    refine q1 (ls' := [(0, .ref 176), (2, .int x2), (3, .int x3), (4, .int x4), (5, .int x5), (6, .int x6), (7, .int x7), (8, .int x8)]) I_198_149 rfl (wi_iload_n _ rfl ?_)
    refine q0 I_198_150 (wi_iconst (-1) rfl ?_)
    refine q0 I_198_151 (wi_ic_eq (fun h => ?_) (fun h => ?_))
    · replace H := H.1 h
      refine q1 (ls' := [(0, .ref 176), (2, .int x2), (3, .int x3), (4, .int x4), (5, .int x5), (6, .int x6), (7, .int x7), (8, .int x8)]) I_198_180 rfl (wi_iconst 1 rfl ?_)
      refine q0 I_198_181 (wi_goto ?_)
      refine q1 (ls' := [(0, .ref 176), (2, .int x2), (3, .int x3), (4, .int x4), (5, .int x5), (6, .int x6), (7, .int x7), (8, .int x8)]) I_198_185 rfl (wi_istore [(0, .ref 176), (2, .int x2), (3, .int x3), (4, .int x4), (5, .int x5), (6, .int x6), (7, .int x7), (8, .int x8), (9, .int 1)] (lt_e X_198 rfl) rfl ?_)
      refine q0 I_198_187 (wi_iload _ rfl ?_)
      refine q0 I_198_189 (wi_if_eq (fun h => ?_) (fun h => ?_))
      · replace H := H.1 h
        refine q1 (ls' := [(0, .ref 176), (2, .int x2), (3, .int x3), (4, .int x4), (5, .int x5)]) I_198_210 rfl (wi_iinc 1 [(0, .ref 176), (2, .int x2), (3, .int x3), (4, .int x4), (5, .int (x5 + 1))] rfl (lt_e X_198 rfl) rfl rfl ?_)
        refine q0 I_198_213 (wi_goto ?_)
        exact Wq_c I_198_13 rfl rfl H
      · replace H := H.2 h
        refine q1 (ls' := [(0, .ref 176), (2, .int x2), (3, .int x3), (4, .int x4), (5, .int x5), (6, .int x6), (7, .int x7), (9, .int 1)]) I_198_192 rfl (wi_iload _ rfl ?_)
        refine q0 I_198_194 (wi_iload_n _ rfl ?_)
        refine q0 I_198_195 (wi_ic_lt (fun h => ?_) (fun h => ?_))
        · replace H := H.1 h
          refine q1 (ls' := [(0, .ref 176), (2, .int x2), (3, .int x3), (4, .int x4), (5, .int x5)]) I_198_210 rfl (wi_iinc 1 [(0, .ref 176), (2, .int x2), (3, .int x3), (4, .int x4), (5, .int (x5 + 1))] rfl (lt_e X_198 rfl) rfl rfl ?_)
          refine q0 I_198_213 (wi_goto ?_)
          exact Wq_c I_198_13 rfl rfl H
        · replace H := H.2 h
          refine q1 (ls' := [(0, .ref 176), (2, .int x2), (3, .int x3), (4, .int x4), (5, .int x5), (7, .int x7), (9, .int 1)]) I_198_198 rfl (wi_iload _ rfl ?_)
          refine q0 I_198_200 (wi_ifF rfl ?_)
          refine q1 (ls' := [(0, .ref 176), (2, .int x2), (5, .int x5), (7, .int x7)]) I_198_203 rfl (wi_iload _ rfl ?_)
          refine q0 I_198_205 (wi_istore_n [(0, .ref 176), (2, .int x2), (3, .int x5), (5, .int x5), (7, .int x7)] (lt_e X_198 rfl) rfl ?_)
          refine q0 I_198_206 (wi_iload _ rfl ?_)
          refine q0 I_198_208 (wi_istore [(0, .ref 176), (2, .int x2), (3, .int x5), (4, .int x7), (5, .int x5), (7, .int x7)] (lt_e X_198 rfl) rfl ?_)
          refine q1 (ls' := [(0, .ref 176), (2, .int x2), (3, .int x5), (4, .int x7), (5, .int x5)]) I_198_210 rfl (wi_iinc 1 [(0, .ref 176), (2, .int x2), (3, .int x5), (4, .int x7), (5, .int (x5 + 1))] rfl (lt_e X_198 rfl) rfl rfl ?_)
          refine q0 I_198_213 (wi_goto ?_)
          exact Wq_c I_198_13 rfl rfl H
    · replace H := H.2 h
      refine q1 (ls' := [(0, .ref 176), (2, .int x2), (3, .int x3), (4, .int x4), (5, .int x5), (6, .int x6), (7, .int x7), (8, .int x8)]) I_198_154 rfl (wi_iload _ rfl ?_)
      refine q0 I_198_156 (wi_iload _ rfl ?_)
      refine q0 I_198_158 (wi_ic_lt (fun h => ?_) (fun h => ?_))
      · replace H := H.1 h
        refine q1 (ls' := [(0, .ref 176), (2, .int x2), (3, .int x3), (4, .int x4), (5, .int x5), (6, .int x6), (7, .int x7), (8, .int x8)]) I_198_180 rfl (wi_iconst 1 rfl ?_)
        refine q0 I_198_181 (wi_goto ?_)
        refine q1 (ls' := [(0, .ref 176), (2, .int x2), (3, .int x3), (4, .int x4), (5, .int x5), (6, .int x6), (7, .int x7), (8, .int x8)]) I_198_185 rfl (wi_istore [(0, .ref 176), (2, .int x2), (3, .int x3), (4, .int x4), (5, .int x5), (6, .int x6), (7, .int x7), (8, .int x8), (9, .int 1)] (lt_e X_198 rfl) rfl ?_)
        refine q0 I_198_187 (wi_iload _ rfl ?_)
        refine q0 I_198_189 (wi_if_eq (fun h => ?_) (fun h => ?_))
        · replace H := H.1 h
          refine q1 (ls' := [(0, .ref 176), (2, .int x2), (3, .int x3), (4, .int x4), (5, .int x5)]) I_198_210 rfl (wi_iinc 1 [(0, .ref 176), (2, .int x2), (3, .int x3), (4, .int x4), (5, .int (x5 + 1))] rfl (lt_e X_198 rfl) rfl rfl ?_)
          refine q0 I_198_213 (wi_goto ?_)
          exact Wq_c I_198_13 rfl rfl H
        · replace H := H.2 h
          refine q1 (ls' := [(0, .ref 176), (2, .int x2), (3, .int x3), (4, .int x4), (5, .int x5), (6, .int x6), (7, .int x7), (9, .int 1)]) I_198_192 rfl (wi_iload _ rfl ?_)
          refine q0 I_198_194 (wi_iload_n _ rfl ?_)
          refine q0 I_198_195 (wi_ic_lt (fun h => ?_) (fun h => ?_))
          · replace H := H.1 h
            refine q1 (ls' := [(0, .ref 176), (2, .int x2), (3, .int x3), (4, .int x4), (5, .int x5)]) I_198_210 rfl (wi_iinc 1 [(0, .ref 176), (2, .int x2), (3, .int x3), (4, .int x4), (5, .int (x5 + 1))] rfl (lt_e X_198 rfl) rfl rfl ?_)
            refine q0 I_198_213 (wi_goto ?_)
            exact Wq_c I_198_13 rfl rfl H
          · replace H := H.2 h
            refine q1 (ls' := [(0, .ref 176), (2, .int x2), (3, .int x3), (4, .int x4), (5, .int x5), (7, .int x7), (9, .int 1)]) I_198_198 rfl (wi_iload _ rfl ?_)
            refine q0 I_198_200 (wi_ifF rfl ?_)
            refine q1 (ls' := [(0, .ref 176), (2, .int x2), (5, .int x5), (7, .int x7)]) I_198_203 rfl (wi_iload _ rfl ?_)
            refine q0 I_198_205 (wi_istore_n [(0, .ref 176), (2, .int x2), (3, .int x5), (5, .int x5), (7, .int x7)] (lt_e X_198 rfl) rfl ?_)
            refine q0 I_198_206 (wi_iload _ rfl ?_)
            refine q0 I_198_208 (wi_istore [(0, .ref 176), (2, .int x2), (3, .int x5), (4, .int x7), (5, .int x5), (7, .int x7)] (lt_e X_198 rfl) rfl ?_)
            refine q1 (ls' := [(0, .ref 176), (2, .int x2), (3, .int x5), (4, .int x7), (5, .int x5)]) I_198_210 rfl (wi_iinc 1 [(0, .ref 176), (2, .int x2), (3, .int x5), (4, .int x7), (5, .int (x5 + 1))] rfl (lt_e X_198 rfl) rfl rfl ?_)
            refine q0 I_198_213 (wi_goto ?_)
            exact Wq_c I_198_13 rfl rfl H
      · replace H := H.2 h
        refine q1 (ls' := [(0, .ref 176), (2, .int x2), (3, .int x3), (4, .int x4), (5, .int x5), (6, .int x6), (7, .int x7), (8, .int x8)]) I_198_161 rfl (wi_iload _ rfl ?_)
        refine q0 I_198_163 (wi_iload _ rfl ?_)
        refine q0 I_198_165 (wi_ic_ne (fun h => ?_) (fun h => ?_))
        · replace H := H.1 h
          refine q1 (ls' := [(0, .ref 176), (2, .int x2), (3, .int x3), (4, .int x4), (5, .int x5), (6, .int x6), (7, .int x7), (8, .int x8)]) I_198_184 rfl (wi_iconst 0 rfl ?_)
          refine q1 (ls' := [(0, .ref 176), (2, .int x2), (3, .int x3), (4, .int x4), (5, .int x5), (6, .int x6), (7, .int x7), (8, .int x8)]) I_198_185 rfl (wi_istore [(0, .ref 176), (2, .int x2), (3, .int x3), (4, .int x4), (5, .int x5), (6, .int x6), (7, .int x7), (8, .int x8), (9, .int 0)] (lt_e X_198 rfl) rfl ?_)
          refine q0 I_198_187 (wi_iload _ rfl ?_)
          refine q0 I_198_189 (wi_if_eq (fun h => ?_) (fun h => ?_))
          · replace H := H.1 h
            refine q1 (ls' := [(0, .ref 176), (2, .int x2), (3, .int x3), (4, .int x4), (5, .int x5)]) I_198_210 rfl (wi_iinc 1 [(0, .ref 176), (2, .int x2), (3, .int x3), (4, .int x4), (5, .int (x5 + 1))] rfl (lt_e X_198 rfl) rfl rfl ?_)
            refine q0 I_198_213 (wi_goto ?_)
            exact Wq_c I_198_13 rfl rfl H
          · replace H := H.2 h
            refine q1 (ls' := [(0, .ref 176), (2, .int x2), (3, .int x3), (4, .int x4), (5, .int x5), (6, .int x6), (7, .int x7), (9, .int 0)]) I_198_192 rfl (wi_iload _ rfl ?_)
            refine q0 I_198_194 (wi_iload_n _ rfl ?_)
            refine q0 I_198_195 (wi_ic_lt (fun h => ?_) (fun h => ?_))
            · replace H := H.1 h
              refine q1 (ls' := [(0, .ref 176), (2, .int x2), (3, .int x3), (4, .int x4), (5, .int x5)]) I_198_210 rfl (wi_iinc 1 [(0, .ref 176), (2, .int x2), (3, .int x3), (4, .int x4), (5, .int (x5 + 1))] rfl (lt_e X_198 rfl) rfl rfl ?_)
              refine q0 I_198_213 (wi_goto ?_)
              exact Wq_c I_198_13 rfl rfl H
            · replace H := H.2 h
              refine q1 (ls' := [(0, .ref 176), (2, .int x2), (3, .int x3), (4, .int x4), (5, .int x5), (7, .int x7), (9, .int 0)]) I_198_198 rfl (wi_iload _ rfl ?_)
              refine q0 I_198_200 (wi_ifT rfl ?_)
              refine q1 (ls' := [(0, .ref 176), (2, .int x2), (3, .int x3), (4, .int x4), (5, .int x5)]) I_198_210 rfl (wi_iinc 1 [(0, .ref 176), (2, .int x2), (3, .int x3), (4, .int x4), (5, .int (x5 + 1))] rfl (lt_e X_198 rfl) rfl rfl ?_)
              refine q0 I_198_213 (wi_goto ?_)
              exact Wq_c I_198_13 rfl rfl H
        · replace H := H.2 h
          refine q1 (ls' := [(0, .ref 176), (2, .int x2), (3, .int x3), (4, .int x4), (5, .int x5), (6, .int x6), (7, .int x7), (8, .int x8)]) I_198_168 rfl (wi_iload _ rfl ?_)
          refine q0 I_198_170 (wi_statI (e := 0) [.int x5] [] rfl (Or.inl rfl) rfl rfl rfl (okC_i rfl rfl rfl) C_138 (by decide) (ClI_mono H ?_))
          intro r21 di21 dl21 H
          refine q0 I_198_173 (wi_iload_n _ rfl ?_)
          refine q0 I_198_174 (wi_statI (e := 0) [.int x3] [.int r21] rfl (Or.inl rfl) rfl rfl rfl (okC_i rfl rfl rfl) C_138 (by decide) (ClI_mono H ?_))
          intro r22 di22 dl22 H
          refine q0 I_198_177 (wi_ic_ge (fun h => ?_) (fun h => ?_))
          · replace H := H.1 h
            refine q1 (ls' := [(0, .ref 176), (2, .int x2), (3, .int x3), (4, .int x4), (5, .int x5), (6, .int x6), (7, .int x7), (8, .int x8)]) I_198_184 rfl (wi_iconst 0 rfl ?_)
            refine q1 (ls' := [(0, .ref 176), (2, .int x2), (3, .int x3), (4, .int x4), (5, .int x5), (6, .int x6), (7, .int x7), (8, .int x8)]) I_198_185 rfl (wi_istore [(0, .ref 176), (2, .int x2), (3, .int x3), (4, .int x4), (5, .int x5), (6, .int x6), (7, .int x7), (8, .int x8), (9, .int 0)] (lt_e X_198 rfl) rfl ?_)
            refine q0 I_198_187 (wi_iload _ rfl ?_)
            refine q0 I_198_189 (wi_if_eq (fun h => ?_) (fun h => ?_))
            · replace H := H.1 h
              refine q1 (ls' := [(0, .ref 176), (2, .int x2), (3, .int x3), (4, .int x4), (5, .int x5)]) I_198_210 rfl (wi_iinc 1 [(0, .ref 176), (2, .int x2), (3, .int x3), (4, .int x4), (5, .int (x5 + 1))] rfl (lt_e X_198 rfl) rfl rfl ?_)
              refine q0 I_198_213 (wi_goto ?_)
              exact Wq_c I_198_13 rfl rfl H
            · replace H := H.2 h
              refine q1 (ls' := [(0, .ref 176), (2, .int x2), (3, .int x3), (4, .int x4), (5, .int x5), (6, .int x6), (7, .int x7), (9, .int 0)]) I_198_192 rfl (wi_iload _ rfl ?_)
              refine q0 I_198_194 (wi_iload_n _ rfl ?_)
              refine q0 I_198_195 (wi_ic_lt (fun h => ?_) (fun h => ?_))
              · replace H := H.1 h
                refine q1 (ls' := [(0, .ref 176), (2, .int x2), (3, .int x3), (4, .int x4), (5, .int x5)]) I_198_210 rfl (wi_iinc 1 [(0, .ref 176), (2, .int x2), (3, .int x3), (4, .int x4), (5, .int (x5 + 1))] rfl (lt_e X_198 rfl) rfl rfl ?_)
                refine q0 I_198_213 (wi_goto ?_)
                exact Wq_c I_198_13 rfl rfl H
              · replace H := H.2 h
                refine q1 (ls' := [(0, .ref 176), (2, .int x2), (3, .int x3), (4, .int x4), (5, .int x5), (7, .int x7), (9, .int 0)]) I_198_198 rfl (wi_iload _ rfl ?_)
                refine q0 I_198_200 (wi_ifT rfl ?_)
                refine q1 (ls' := [(0, .ref 176), (2, .int x2), (3, .int x3), (4, .int x4), (5, .int x5)]) I_198_210 rfl (wi_iinc 1 [(0, .ref 176), (2, .int x2), (3, .int x3), (4, .int x4), (5, .int (x5 + 1))] rfl (lt_e X_198 rfl) rfl rfl ?_)
                refine q0 I_198_213 (wi_goto ?_)
                exact Wq_c I_198_13 rfl rfl H
          · replace H := H.2 h
            refine q1 (ls' := [(0, .ref 176), (2, .int x2), (3, .int x3), (4, .int x4), (5, .int x5), (6, .int x6), (7, .int x7), (8, .int x8)]) I_198_180 rfl (wi_iconst 1 rfl ?_)
            refine q0 I_198_181 (wi_goto ?_)
            refine q1 (ls' := [(0, .ref 176), (2, .int x2), (3, .int x3), (4, .int x4), (5, .int x5), (6, .int x6), (7, .int x7), (8, .int x8)]) I_198_185 rfl (wi_istore [(0, .ref 176), (2, .int x2), (3, .int x3), (4, .int x4), (5, .int x5), (6, .int x6), (7, .int x7), (8, .int x8), (9, .int 1)] (lt_e X_198 rfl) rfl ?_)
            refine q0 I_198_187 (wi_iload _ rfl ?_)
            refine q0 I_198_189 (wi_if_eq (fun h => ?_) (fun h => ?_))
            · replace H := H.1 h
              refine q1 (ls' := [(0, .ref 176), (2, .int x2), (3, .int x3), (4, .int x4), (5, .int x5)]) I_198_210 rfl (wi_iinc 1 [(0, .ref 176), (2, .int x2), (3, .int x3), (4, .int x4), (5, .int (x5 + 1))] rfl (lt_e X_198 rfl) rfl rfl ?_)
              refine q0 I_198_213 (wi_goto ?_)
              exact Wq_c I_198_13 rfl rfl H
            · replace H := H.2 h
              refine q1 (ls' := [(0, .ref 176), (2, .int x2), (3, .int x3), (4, .int x4), (5, .int x5), (6, .int x6), (7, .int x7), (9, .int 1)]) I_198_192 rfl (wi_iload _ rfl ?_)
              refine q0 I_198_194 (wi_iload_n _ rfl ?_)
              refine q0 I_198_195 (wi_ic_lt (fun h => ?_) (fun h => ?_))
              · replace H := H.1 h
                refine q1 (ls' := [(0, .ref 176), (2, .int x2), (3, .int x3), (4, .int x4), (5, .int x5)]) I_198_210 rfl (wi_iinc 1 [(0, .ref 176), (2, .int x2), (3, .int x3), (4, .int x4), (5, .int (x5 + 1))] rfl (lt_e X_198 rfl) rfl rfl ?_)
                refine q0 I_198_213 (wi_goto ?_)
                exact Wq_c I_198_13 rfl rfl H
              · replace H := H.2 h
                refine q1 (ls' := [(0, .ref 176), (2, .int x2), (3, .int x3), (4, .int x4), (5, .int x5), (7, .int x7), (9, .int 1)]) I_198_198 rfl (wi_iload _ rfl ?_)
                refine q0 I_198_200 (wi_ifF rfl ?_)
                refine q1 (ls' := [(0, .ref 176), (2, .int x2), (5, .int x5), (7, .int x7)]) I_198_203 rfl (wi_iload _ rfl ?_)
                refine q0 I_198_205 (wi_istore_n [(0, .ref 176), (2, .int x2), (3, .int x5), (5, .int x5), (7, .int x7)] (lt_e X_198 rfl) rfl ?_)
                refine q0 I_198_206 (wi_iload _ rfl ?_)
                refine q0 I_198_208 (wi_istore [(0, .ref 176), (2, .int x2), (3, .int x5), (4, .int x7), (5, .int x5), (7, .int x7)] (lt_e X_198 rfl) rfl ?_)
                refine q1 (ls' := [(0, .ref 176), (2, .int x2), (3, .int x5), (4, .int x7), (5, .int x5)]) I_198_210 rfl (wi_iinc 1 [(0, .ref 176), (2, .int x2), (3, .int x5), (4, .int x7), (5, .int (x5 + 1))] rfl (lt_e X_198 rfl) rfl rfl ?_)
                refine q0 I_198_213 (wi_goto ?_)
                exact Wq_c I_198_13 rfl rfl H
  · replace H := H.2 h
    refine q1 (ls' := [(0, .ref 176), (2, .int x2), (3, .int x3), (4, .int x4), (5, .int x5), (6, .int x6), (7, .int x7), (8, .int x8), (9, .int x9)]) I_198_49 rfl (wi_iload _ rfl ?_)
    refine q0 I_198_51 (wi_iload _ rfl ?_)
    refine q0 I_198_53 (wi_iload _ rfl ?_)
    refine q0 I_198_55 (wi_statI (e := 4) [.int x5, .int x9] [.int x6] rfl (Or.inl rfl) rfl rfl rfl (okC_i rfl rfl rfl) C_137 (by decide) (Cl_of C_137 Z_137 [(0, .int x5), (1, .int x9)] rfl ?_))
    refine q0 I_137_0 (wi_iload_n _ rfl ?_)
    refine q0 I_137_1 (wi_iload_n _ rfl ?_)
    refine q0 I_137_2 (wi_ishr ?_)
    refine q0 I_137_3 (wi_iconst 1 rfl ?_)
    refine q0 I_137_4 (wi_iand ?_)
    refine q0 I_137_5 (wi_iconst 1 rfl ?_)
    refine q0 I_137_6 (wi_ic_ne (fun h => ?_) (fun h => ?_))
    · replace H := H.1 h
      refine q1 (ls' := []) I_137_13 rfl (wi_iconst 0 rfl ?_)
      refine q1 (ls' := []) I_137_14 rfl (wi_zret T_137 (Or.inl C_137) (Or.inl rfl) ⟨_, rfl, ?_⟩)
      refine q0 I_198_58 (wi_ifT rfl ?_)
      refine q1 (ls' := [(0, .ref 176), (2, .int x2), (3, .int x3), (4, .int x4), (5, .int x5), (7, .int x7), (8, .int x8), (9, .int x9)]) I_198_73 rfl (wi_iconst 0 rfl ?_)
      refine q1 (ls' := [(0, .ref 176), (2, .int x2), (3, .int x3), (4, .int x4), (5, .int x5), (7, .int x7), (8, .int x8), (9, .int x9)]) I_198_74 rfl (wi_iadd ?_)
      refine q0 I_198_75 (wi_istore [(0, .ref 176), (2, .int x2), (3, .int x3), (4, .int x4), (5, .int x5), (6, .int (x6 + 0)), (7, .int x7), (8, .int x8), (9, .int x9)] (lt_e X_198 rfl) rfl ?_)
      refine q0 I_198_77 (wi_iload _ rfl ?_)
      refine q0 I_198_79 (wi_iload _ rfl ?_)
      refine q0 I_198_81 (wi_iload _ rfl ?_)
      refine q0 I_198_83 (wi_statI (e := 4) [.int x5, .int x9] [.int x7] rfl (Or.inl rfl) rfl rfl rfl (okC_i rfl rfl rfl) C_137 (by decide) (Cl_of C_137 Z_137 [(0, .int x5), (1, .int x9)] rfl ?_))
      refine q0 I_137_0 (wi_iload_n _ rfl ?_)
      refine q0 I_137_1 (wi_iload_n _ rfl ?_)
      refine q0 I_137_2 (wi_ishr ?_)
      refine q0 I_137_3 (wi_iconst 1 rfl ?_)
      refine q0 I_137_4 (wi_iand ?_)
      refine q0 I_137_5 (wi_iconst 1 rfl ?_)
      refine q0 I_137_6 (wi_ic_ne (fun h => ?_) (fun h => ?_))
      · replace H := H.1 h
        refine q1 (ls' := []) I_137_13 rfl (wi_iconst 0 rfl ?_)
        refine q1 (ls' := []) I_137_14 rfl (wi_zret T_137 (Or.inl C_137) (Or.inl rfl) ⟨_, rfl, ?_⟩)
        refine q0 I_198_86 (wi_ifT rfl ?_)
        refine q1 (ls' := [(0, .ref 176), (2, .int x2), (3, .int x3), (4, .int x4), (5, .int x5), (6, .int (x6 + 0)), (8, .int x8), (9, .int x9)]) I_198_103 rfl (wi_iconst 0 rfl ?_)
        refine q1 (ls' := [(0, .ref 176), (2, .int x2), (3, .int x3), (4, .int x4), (5, .int x5), (6, .int (x6 + 0)), (8, .int x8), (9, .int x9)]) I_198_104 rfl (wi_iadd ?_)
        refine q0 I_198_105 (wi_istore [(0, .ref 176), (2, .int x2), (3, .int x3), (4, .int x4), (5, .int x5), (6, .int (x6 + 0)), (7, .int (x7 + 0)), (8, .int x8), (9, .int x9)] (lt_e X_198 rfl) rfl ?_)
        refine q0 I_198_107 (wi_iload _ rfl ?_)
        refine q0 I_198_109 (wi_if_eq (fun h => ?_) (fun h => ?_))
        · replace H := H.1 h
          refine q1 (ls' := [(0, .ref 176), (2, .int x2), (3, .int x3), (4, .int x4), (5, .int x5), (6, .int (x6 + 0)), (7, .int (x7 + 0)), (9, .int x9)]) I_198_140 rfl (wi_iconst 0 rfl ?_)
          refine q1 (ls' := [(0, .ref 176), (2, .int x2), (3, .int x3), (4, .int x4), (5, .int x5), (6, .int (x6 + 0)), (7, .int (x7 + 0)), (9, .int x9)]) I_198_141 rfl (wi_istore [(0, .ref 176), (2, .int x2), (3, .int x3), (4, .int x4), (5, .int x5), (6, .int (x6 + 0)), (7, .int (x7 + 0)), (8, .int 0), (9, .int x9)] (lt_e X_198 rfl) rfl ?_)
          refine q0 I_198_143 (wi_iinc 1 [(0, .ref 176), (2, .int x2), (3, .int x3), (4, .int x4), (5, .int x5), (6, .int (x6 + 0)), (7, .int (x7 + 0)), (8, .int 0), (9, .int (x9 + 1))] rfl (lt_e X_198 rfl) rfl rfl ?_)
          refine q0 I_198_146 (wi_goto ?_)
          exact Wq_c I_198_38 rfl rfl H
        · replace H := H.2 h
          refine q1 (ls' := [(0, .ref 176), (2, .int x2), (3, .int x3), (4, .int x4), (5, .int x5), (6, .int (x6 + 0)), (7, .int (x7 + 0)), (9, .int x9)]) I_198_112 rfl (wi_iload _ rfl ?_)
          refine q0 I_198_114 (wi_iload _ rfl ?_)
          refine q0 I_198_116 (wi_statI (e := 4) [.int x5, .int x9] [] rfl (Or.inl rfl) rfl rfl rfl (okC_i rfl rfl rfl) C_137 (by decide) (Cl_of C_137 Z_137 [(0, .int x5), (1, .int x9)] rfl ?_))
          refine q0 I_137_0 (wi_iload_n _ rfl ?_)
          refine q0 I_137_1 (wi_iload_n _ rfl ?_)
          refine q0 I_137_2 (wi_ishr ?_)
          refine q0 I_137_3 (wi_iconst 1 rfl ?_)
          refine q0 I_137_4 (wi_iand ?_)
          refine q0 I_137_5 (wi_iconst 1 rfl ?_)
          refine q0 I_137_6 (wi_ic_ne (fun h => ?_) (fun h => ?_))
          · replace H := H.1 h
            refine q1 (ls' := []) I_137_13 rfl (wi_iconst 0 rfl ?_)
            refine q1 (ls' := []) I_137_14 rfl (wi_zret T_137 (Or.inl C_137) (Or.inl rfl) ⟨_, rfl, ?_⟩)
            refine q0 I_198_119 (wi_ifT rfl ?_)
            refine q1 (ls' := [(0, .ref 176), (2, .int x2), (3, .int x3), (4, .int x4), (5, .int x5), (6, .int (x6 + 0)), (7, .int (x7 + 0)), (9, .int x9)]) I_198_136 rfl (wi_iconst 1 rfl ?_)
            refine q0 I_198_137 (wi_goto ?_)
            refine q1 (ls' := [(0, .ref 176), (2, .int x2), (3, .int x3), (4, .int x4), (5, .int x5), (6, .int (x6 + 0)), (7, .int (x7 + 0)), (9, .int x9)]) I_198_141 rfl (wi_istore [(0, .ref 176), (2, .int x2), (3, .int x3), (4, .int x4), (5, .int x5), (6, .int (x6 + 0)), (7, .int (x7 + 0)), (8, .int 1), (9, .int x9)] (lt_e X_198 rfl) rfl ?_)
            refine q0 I_198_143 (wi_iinc 1 [(0, .ref 176), (2, .int x2), (3, .int x3), (4, .int x4), (5, .int x5), (6, .int (x6 + 0)), (7, .int (x7 + 0)), (8, .int 1), (9, .int (x9 + 1))] rfl (lt_e X_198 rfl) rfl rfl ?_)
            refine q0 I_198_146 (wi_goto ?_)
            exact Wq_c I_198_38 rfl rfl H
          · replace H := H.2 h
            refine q1 (ls' := []) I_137_9 rfl (wi_iconst 1 rfl ?_)
            refine q0 I_137_10 (wi_goto ?_)
            refine q1 (ls' := []) I_137_14 rfl (wi_zret T_137 (Or.inl C_137) (Or.inr rfl) ⟨_, rfl, ?_⟩)
            refine q0 I_198_119 (wi_ifF rfl ?_)
            refine q1 (ls' := [(0, .ref 176), (2, .int x2), (3, .int x3), (4, .int x4), (5, .int x5), (6, .int (x6 + 0)), (7, .int (x7 + 0)), (9, .int x9)]) I_198_122 rfl (wi_aload_n _ rfl ?_)
            refine q0 I_198_123 (wi_get (.ref 188) S_176 rfl (by decide) rfl ?_)
            refine q0 I_198_126 (wi_iconst 3 rfl ?_)
            refine q0 I_198_127 (wi_iload _ rfl ?_)
            refine q0 I_198_129 (wi_imul ?_)
            refine q0 I_198_130 (wi_iconst 2 rfl ?_)
            refine q0 I_198_131 (wi_iadd ?_)
            have hb23 := H.1
            replace H := H.2
            refine q0 I_198_132 (wi_iaload ((((3 : Int32) * x9) + 2).toNatClampNeg) S_188 hb23 rfl ?_)
            refine q0 I_198_133 (wi_if_le (fun h => ?_) (fun h => ?_))
            · replace H := H.1 h
              refine q1 (ls' := [(0, .ref 176), (2, .int x2), (3, .int x3), (4, .int x4), (5, .int x5), (6, .int (x6 + 0)), (7, .int (x7 + 0)), (9, .int x9)]) I_198_140 rfl (wi_iconst 0 rfl ?_)
              refine q1 (ls' := [(0, .ref 176), (2, .int x2), (3, .int x3), (4, .int x4), (5, .int x5), (6, .int (x6 + 0)), (7, .int (x7 + 0)), (9, .int x9)]) I_198_141 rfl (wi_istore [(0, .ref 176), (2, .int x2), (3, .int x3), (4, .int x4), (5, .int x5), (6, .int (x6 + 0)), (7, .int (x7 + 0)), (8, .int 0), (9, .int x9)] (lt_e X_198 rfl) rfl ?_)
              refine q0 I_198_143 (wi_iinc 1 [(0, .ref 176), (2, .int x2), (3, .int x3), (4, .int x4), (5, .int x5), (6, .int (x6 + 0)), (7, .int (x7 + 0)), (8, .int 0), (9, .int (x9 + 1))] rfl (lt_e X_198 rfl) rfl rfl ?_)
              refine q0 I_198_146 (wi_goto ?_)
              exact Wq_c I_198_38 rfl rfl H
            · replace H := H.2 h
              refine q1 (ls' := [(0, .ref 176), (2, .int x2), (3, .int x3), (4, .int x4), (5, .int x5), (6, .int (x6 + 0)), (7, .int (x7 + 0)), (9, .int x9)]) I_198_136 rfl (wi_iconst 1 rfl ?_)
              refine q0 I_198_137 (wi_goto ?_)
              refine q1 (ls' := [(0, .ref 176), (2, .int x2), (3, .int x3), (4, .int x4), (5, .int x5), (6, .int (x6 + 0)), (7, .int (x7 + 0)), (9, .int x9)]) I_198_141 rfl (wi_istore [(0, .ref 176), (2, .int x2), (3, .int x3), (4, .int x4), (5, .int x5), (6, .int (x6 + 0)), (7, .int (x7 + 0)), (8, .int 1), (9, .int x9)] (lt_e X_198 rfl) rfl ?_)
              refine q0 I_198_143 (wi_iinc 1 [(0, .ref 176), (2, .int x2), (3, .int x3), (4, .int x4), (5, .int x5), (6, .int (x6 + 0)), (7, .int (x7 + 0)), (8, .int 1), (9, .int (x9 + 1))] rfl (lt_e X_198 rfl) rfl rfl ?_)
              refine q0 I_198_146 (wi_goto ?_)
              exact Wq_c I_198_38 rfl rfl H
      · replace H := H.2 h
        refine q1 (ls' := []) I_137_9 rfl (wi_iconst 1 rfl ?_)
        refine q0 I_137_10 (wi_goto ?_)
        refine q1 (ls' := []) I_137_14 rfl (wi_zret T_137 (Or.inl C_137) (Or.inr rfl) ⟨_, rfl, ?_⟩)
        refine q0 I_198_86 (wi_ifF rfl ?_)
        refine q1 (ls' := [(0, .ref 176), (2, .int x2), (3, .int x3), (4, .int x4), (5, .int x5), (6, .int (x6 + 0)), (8, .int x8), (9, .int x9)]) I_198_89 rfl (wi_aload_n _ rfl ?_)
        refine q0 I_198_90 (wi_get (.ref 188) S_176 rfl (by decide) rfl ?_)
        refine q0 I_198_93 (wi_iconst 3 rfl ?_)
        refine q0 I_198_94 (wi_iload _ rfl ?_)
        refine q0 I_198_96 (wi_imul ?_)
        refine q0 I_198_97 (wi_iconst 2 rfl ?_)
        refine q0 I_198_98 (wi_iadd ?_)
        have hb24 := H.1
        replace H := H.2
        refine q0 I_198_99 (wi_iaload ((((3 : Int32) * x9) + 2).toNatClampNeg) S_188 hb24 rfl ?_)
        refine q0 I_198_100 (wi_goto ?_)
        refine q1 (ls' := [(0, .ref 176), (2, .int x2), (3, .int x3), (4, .int x4), (5, .int x5), (6, .int (x6 + 0)), (8, .int x8), (9, .int x9)]) I_198_104 rfl (wi_iadd ?_)
        refine q0 I_198_105 (wi_istore [(0, .ref 176), (2, .int x2), (3, .int x3), (4, .int x4), (5, .int x5), (6, .int (x6 + 0)), (7, .int (x7 + (di 188 ((((3 : Int32) * x9) + 2).toNatClampNeg)))), (8, .int x8), (9, .int x9)] (lt_e X_198 rfl) rfl ?_)
        refine q0 I_198_107 (wi_iload _ rfl ?_)
        refine q0 I_198_109 (wi_if_eq (fun h => ?_) (fun h => ?_))
        · replace H := H.1 h
          refine q1 (ls' := [(0, .ref 176), (2, .int x2), (3, .int x3), (4, .int x4), (5, .int x5), (6, .int (x6 + 0)), (7, .int (x7 + (di 188 ((((3 : Int32) * x9) + 2).toNatClampNeg)))), (9, .int x9)]) I_198_140 rfl (wi_iconst 0 rfl ?_)
          refine q1 (ls' := [(0, .ref 176), (2, .int x2), (3, .int x3), (4, .int x4), (5, .int x5), (6, .int (x6 + 0)), (7, .int (x7 + (di 188 ((((3 : Int32) * x9) + 2).toNatClampNeg)))), (9, .int x9)]) I_198_141 rfl (wi_istore [(0, .ref 176), (2, .int x2), (3, .int x3), (4, .int x4), (5, .int x5), (6, .int (x6 + 0)), (7, .int (x7 + (di 188 ((((3 : Int32) * x9) + 2).toNatClampNeg)))), (8, .int 0), (9, .int x9)] (lt_e X_198 rfl) rfl ?_)
          refine q0 I_198_143 (wi_iinc 1 [(0, .ref 176), (2, .int x2), (3, .int x3), (4, .int x4), (5, .int x5), (6, .int (x6 + 0)), (7, .int (x7 + (di 188 ((((3 : Int32) * x9) + 2).toNatClampNeg)))), (8, .int 0), (9, .int (x9 + 1))] rfl (lt_e X_198 rfl) rfl rfl ?_)
          refine q0 I_198_146 (wi_goto ?_)
          exact Wq_c I_198_38 rfl rfl H
        · replace H := H.2 h
          refine q1 (ls' := [(0, .ref 176), (2, .int x2), (3, .int x3), (4, .int x4), (5, .int x5), (6, .int (x6 + 0)), (7, .int (x7 + (di 188 ((((3 : Int32) * x9) + 2).toNatClampNeg)))), (9, .int x9)]) I_198_112 rfl (wi_iload _ rfl ?_)
          refine q0 I_198_114 (wi_iload _ rfl ?_)
          refine q0 I_198_116 (wi_statI (e := 4) [.int x5, .int x9] [] rfl (Or.inl rfl) rfl rfl rfl (okC_i rfl rfl rfl) C_137 (by decide) (Cl_of C_137 Z_137 [(0, .int x5), (1, .int x9)] rfl ?_))
          refine q0 I_137_0 (wi_iload_n _ rfl ?_)
          refine q0 I_137_1 (wi_iload_n _ rfl ?_)
          refine q0 I_137_2 (wi_ishr ?_)
          refine q0 I_137_3 (wi_iconst 1 rfl ?_)
          refine q0 I_137_4 (wi_iand ?_)
          refine q0 I_137_5 (wi_iconst 1 rfl ?_)
          refine q0 I_137_6 (wi_ic_ne (fun h => ?_) (fun h => ?_))
          · replace H := H.1 h
            refine q1 (ls' := []) I_137_13 rfl (wi_iconst 0 rfl ?_)
            refine q1 (ls' := []) I_137_14 rfl (wi_zret T_137 (Or.inl C_137) (Or.inl rfl) ⟨_, rfl, ?_⟩)
            refine q0 I_198_119 (wi_ifT rfl ?_)
            refine q1 (ls' := [(0, .ref 176), (2, .int x2), (3, .int x3), (4, .int x4), (5, .int x5), (6, .int (x6 + 0)), (7, .int (x7 + (di 188 ((((3 : Int32) * x9) + 2).toNatClampNeg)))), (9, .int x9)]) I_198_136 rfl (wi_iconst 1 rfl ?_)
            refine q0 I_198_137 (wi_goto ?_)
            refine q1 (ls' := [(0, .ref 176), (2, .int x2), (3, .int x3), (4, .int x4), (5, .int x5), (6, .int (x6 + 0)), (7, .int (x7 + (di 188 ((((3 : Int32) * x9) + 2).toNatClampNeg)))), (9, .int x9)]) I_198_141 rfl (wi_istore [(0, .ref 176), (2, .int x2), (3, .int x3), (4, .int x4), (5, .int x5), (6, .int (x6 + 0)), (7, .int (x7 + (di 188 ((((3 : Int32) * x9) + 2).toNatClampNeg)))), (8, .int 1), (9, .int x9)] (lt_e X_198 rfl) rfl ?_)
            refine q0 I_198_143 (wi_iinc 1 [(0, .ref 176), (2, .int x2), (3, .int x3), (4, .int x4), (5, .int x5), (6, .int (x6 + 0)), (7, .int (x7 + (di 188 ((((3 : Int32) * x9) + 2).toNatClampNeg)))), (8, .int 1), (9, .int (x9 + 1))] rfl (lt_e X_198 rfl) rfl rfl ?_)
            refine q0 I_198_146 (wi_goto ?_)
            exact Wq_c I_198_38 rfl rfl H
          · replace H := H.2 h
            refine q1 (ls' := []) I_137_9 rfl (wi_iconst 1 rfl ?_)
            refine q0 I_137_10 (wi_goto ?_)
            refine q1 (ls' := []) I_137_14 rfl (wi_zret T_137 (Or.inl C_137) (Or.inr rfl) ⟨_, rfl, ?_⟩)
            refine q0 I_198_119 (wi_ifF rfl ?_)
            refine q1 (ls' := [(0, .ref 176), (2, .int x2), (3, .int x3), (4, .int x4), (5, .int x5), (6, .int (x6 + 0)), (7, .int (x7 + (di 188 ((((3 : Int32) * x9) + 2).toNatClampNeg)))), (9, .int x9)]) I_198_122 rfl (wi_aload_n _ rfl ?_)
            refine q0 I_198_123 (wi_get (.ref 188) S_176 rfl (by decide) rfl ?_)
            refine q0 I_198_126 (wi_iconst 3 rfl ?_)
            refine q0 I_198_127 (wi_iload _ rfl ?_)
            refine q0 I_198_129 (wi_imul ?_)
            refine q0 I_198_130 (wi_iconst 2 rfl ?_)
            refine q0 I_198_131 (wi_iadd ?_)
            refine q0 I_198_132 (wi_iaload ((((3 : Int32) * x9) + 2).toNatClampNeg) S_188 hb24 rfl ?_)
            refine q0 I_198_133 (wi_if_le (fun h => ?_) (fun h => ?_))
            · replace H := H.1 h
              refine q1 (ls' := [(0, .ref 176), (2, .int x2), (3, .int x3), (4, .int x4), (5, .int x5), (6, .int (x6 + 0)), (7, .int (x7 + (di 188 ((((3 : Int32) * x9) + 2).toNatClampNeg)))), (9, .int x9)]) I_198_140 rfl (wi_iconst 0 rfl ?_)
              refine q1 (ls' := [(0, .ref 176), (2, .int x2), (3, .int x3), (4, .int x4), (5, .int x5), (6, .int (x6 + 0)), (7, .int (x7 + (di 188 ((((3 : Int32) * x9) + 2).toNatClampNeg)))), (9, .int x9)]) I_198_141 rfl (wi_istore [(0, .ref 176), (2, .int x2), (3, .int x3), (4, .int x4), (5, .int x5), (6, .int (x6 + 0)), (7, .int (x7 + (di 188 ((((3 : Int32) * x9) + 2).toNatClampNeg)))), (8, .int 0), (9, .int x9)] (lt_e X_198 rfl) rfl ?_)
              refine q0 I_198_143 (wi_iinc 1 [(0, .ref 176), (2, .int x2), (3, .int x3), (4, .int x4), (5, .int x5), (6, .int (x6 + 0)), (7, .int (x7 + (di 188 ((((3 : Int32) * x9) + 2).toNatClampNeg)))), (8, .int 0), (9, .int (x9 + 1))] rfl (lt_e X_198 rfl) rfl rfl ?_)
              refine q0 I_198_146 (wi_goto ?_)
              exact Wq_c I_198_38 rfl rfl H
            · replace H := H.2 h
              refine q1 (ls' := [(0, .ref 176), (2, .int x2), (3, .int x3), (4, .int x4), (5, .int x5), (6, .int (x6 + 0)), (7, .int (x7 + (di 188 ((((3 : Int32) * x9) + 2).toNatClampNeg)))), (9, .int x9)]) I_198_136 rfl (wi_iconst 1 rfl ?_)
              refine q0 I_198_137 (wi_goto ?_)
              refine q1 (ls' := [(0, .ref 176), (2, .int x2), (3, .int x3), (4, .int x4), (5, .int x5), (6, .int (x6 + 0)), (7, .int (x7 + (di 188 ((((3 : Int32) * x9) + 2).toNatClampNeg)))), (9, .int x9)]) I_198_141 rfl (wi_istore [(0, .ref 176), (2, .int x2), (3, .int x3), (4, .int x4), (5, .int x5), (6, .int (x6 + 0)), (7, .int (x7 + (di 188 ((((3 : Int32) * x9) + 2).toNatClampNeg)))), (8, .int 1), (9, .int x9)] (lt_e X_198 rfl) rfl ?_)
              refine q0 I_198_143 (wi_iinc 1 [(0, .ref 176), (2, .int x2), (3, .int x3), (4, .int x4), (5, .int x5), (6, .int (x6 + 0)), (7, .int (x7 + (di 188 ((((3 : Int32) * x9) + 2).toNatClampNeg)))), (8, .int 1), (9, .int (x9 + 1))] rfl (lt_e X_198 rfl) rfl rfl ?_)
              refine q0 I_198_146 (wi_goto ?_)
              exact Wq_c I_198_38 rfl rfl H
    · replace H := H.2 h
      refine q1 (ls' := []) I_137_9 rfl (wi_iconst 1 rfl ?_)
      refine q0 I_137_10 (wi_goto ?_)
      refine q1 (ls' := []) I_137_14 rfl (wi_zret T_137 (Or.inl C_137) (Or.inr rfl) ⟨_, rfl, ?_⟩)
      refine q0 I_198_58 (wi_ifF rfl ?_)
      refine q1 (ls' := [(0, .ref 176), (2, .int x2), (3, .int x3), (4, .int x4), (5, .int x5), (7, .int x7), (8, .int x8), (9, .int x9)]) I_198_61 rfl (wi_aload_n _ rfl ?_)
      refine q0 I_198_62 (wi_get (.ref 188) S_176 rfl (by decide) rfl ?_)
      refine q0 I_198_65 (wi_iconst 3 rfl ?_)
      refine q0 I_198_66 (wi_iload _ rfl ?_)
      refine q0 I_198_68 (wi_imul ?_)
      have hb25 := H.1
      replace H := H.2
      refine q0 I_198_69 (wi_iaload (((3 : Int32) * x9).toNatClampNeg) S_188 hb25 rfl ?_)
      refine q0 I_198_70 (wi_goto ?_)
      refine q1 (ls' := [(0, .ref 176), (2, .int x2), (3, .int x3), (4, .int x4), (5, .int x5), (7, .int x7), (8, .int x8), (9, .int x9)]) I_198_74 rfl (wi_iadd ?_)
      refine q0 I_198_75 (wi_istore [(0, .ref 176), (2, .int x2), (3, .int x3), (4, .int x4), (5, .int x5), (6, .int (x6 + (di 188 (((3 : Int32) * x9).toNatClampNeg)))), (7, .int x7), (8, .int x8), (9, .int x9)] (lt_e X_198 rfl) rfl ?_)
      refine q0 I_198_77 (wi_iload _ rfl ?_)
      refine q0 I_198_79 (wi_iload _ rfl ?_)
      refine q0 I_198_81 (wi_iload _ rfl ?_)
      refine q0 I_198_83 (wi_statI (e := 4) [.int x5, .int x9] [.int x7] rfl (Or.inl rfl) rfl rfl rfl (okC_i rfl rfl rfl) C_137 (by decide) (Cl_of C_137 Z_137 [(0, .int x5), (1, .int x9)] rfl ?_))
      refine q0 I_137_0 (wi_iload_n _ rfl ?_)
      refine q0 I_137_1 (wi_iload_n _ rfl ?_)
      refine q0 I_137_2 (wi_ishr ?_)
      refine q0 I_137_3 (wi_iconst 1 rfl ?_)
      refine q0 I_137_4 (wi_iand ?_)
      refine q0 I_137_5 (wi_iconst 1 rfl ?_)
      refine q0 I_137_6 (wi_ic_ne (fun h => ?_) (fun h => ?_))
      · replace H := H.1 h
        refine q1 (ls' := []) I_137_13 rfl (wi_iconst 0 rfl ?_)
        refine q1 (ls' := []) I_137_14 rfl (wi_zret T_137 (Or.inl C_137) (Or.inl rfl) ⟨_, rfl, ?_⟩)
        refine q0 I_198_86 (wi_ifT rfl ?_)
        refine q1 (ls' := [(0, .ref 176), (2, .int x2), (3, .int x3), (4, .int x4), (5, .int x5), (6, .int (x6 + (di 188 (((3 : Int32) * x9).toNatClampNeg)))), (8, .int x8), (9, .int x9)]) I_198_103 rfl (wi_iconst 0 rfl ?_)
        refine q1 (ls' := [(0, .ref 176), (2, .int x2), (3, .int x3), (4, .int x4), (5, .int x5), (6, .int (x6 + (di 188 (((3 : Int32) * x9).toNatClampNeg)))), (8, .int x8), (9, .int x9)]) I_198_104 rfl (wi_iadd ?_)
        refine q0 I_198_105 (wi_istore [(0, .ref 176), (2, .int x2), (3, .int x3), (4, .int x4), (5, .int x5), (6, .int (x6 + (di 188 (((3 : Int32) * x9).toNatClampNeg)))), (7, .int (x7 + 0)), (8, .int x8), (9, .int x9)] (lt_e X_198 rfl) rfl ?_)
        refine q0 I_198_107 (wi_iload _ rfl ?_)
        refine q0 I_198_109 (wi_if_eq (fun h => ?_) (fun h => ?_))
        · replace H := H.1 h
          refine q1 (ls' := [(0, .ref 176), (2, .int x2), (3, .int x3), (4, .int x4), (5, .int x5), (6, .int (x6 + (di 188 (((3 : Int32) * x9).toNatClampNeg)))), (7, .int (x7 + 0)), (9, .int x9)]) I_198_140 rfl (wi_iconst 0 rfl ?_)
          refine q1 (ls' := [(0, .ref 176), (2, .int x2), (3, .int x3), (4, .int x4), (5, .int x5), (6, .int (x6 + (di 188 (((3 : Int32) * x9).toNatClampNeg)))), (7, .int (x7 + 0)), (9, .int x9)]) I_198_141 rfl (wi_istore [(0, .ref 176), (2, .int x2), (3, .int x3), (4, .int x4), (5, .int x5), (6, .int (x6 + (di 188 (((3 : Int32) * x9).toNatClampNeg)))), (7, .int (x7 + 0)), (8, .int 0), (9, .int x9)] (lt_e X_198 rfl) rfl ?_)
          refine q0 I_198_143 (wi_iinc 1 [(0, .ref 176), (2, .int x2), (3, .int x3), (4, .int x4), (5, .int x5), (6, .int (x6 + (di 188 (((3 : Int32) * x9).toNatClampNeg)))), (7, .int (x7 + 0)), (8, .int 0), (9, .int (x9 + 1))] rfl (lt_e X_198 rfl) rfl rfl ?_)
          refine q0 I_198_146 (wi_goto ?_)
          exact Wq_c I_198_38 rfl rfl H
        · replace H := H.2 h
          refine q1 (ls' := [(0, .ref 176), (2, .int x2), (3, .int x3), (4, .int x4), (5, .int x5), (6, .int (x6 + (di 188 (((3 : Int32) * x9).toNatClampNeg)))), (7, .int (x7 + 0)), (9, .int x9)]) I_198_112 rfl (wi_iload _ rfl ?_)
          refine q0 I_198_114 (wi_iload _ rfl ?_)
          refine q0 I_198_116 (wi_statI (e := 4) [.int x5, .int x9] [] rfl (Or.inl rfl) rfl rfl rfl (okC_i rfl rfl rfl) C_137 (by decide) (Cl_of C_137 Z_137 [(0, .int x5), (1, .int x9)] rfl ?_))
          refine q0 I_137_0 (wi_iload_n _ rfl ?_)
          refine q0 I_137_1 (wi_iload_n _ rfl ?_)
          refine q0 I_137_2 (wi_ishr ?_)
          refine q0 I_137_3 (wi_iconst 1 rfl ?_)
          refine q0 I_137_4 (wi_iand ?_)
          refine q0 I_137_5 (wi_iconst 1 rfl ?_)
          refine q0 I_137_6 (wi_ic_ne (fun h => ?_) (fun h => ?_))
          · replace H := H.1 h
            refine q1 (ls' := []) I_137_13 rfl (wi_iconst 0 rfl ?_)
            refine q1 (ls' := []) I_137_14 rfl (wi_zret T_137 (Or.inl C_137) (Or.inl rfl) ⟨_, rfl, ?_⟩)
            refine q0 I_198_119 (wi_ifT rfl ?_)
            refine q1 (ls' := [(0, .ref 176), (2, .int x2), (3, .int x3), (4, .int x4), (5, .int x5), (6, .int (x6 + (di 188 (((3 : Int32) * x9).toNatClampNeg)))), (7, .int (x7 + 0)), (9, .int x9)]) I_198_136 rfl (wi_iconst 1 rfl ?_)
            refine q0 I_198_137 (wi_goto ?_)
            refine q1 (ls' := [(0, .ref 176), (2, .int x2), (3, .int x3), (4, .int x4), (5, .int x5), (6, .int (x6 + (di 188 (((3 : Int32) * x9).toNatClampNeg)))), (7, .int (x7 + 0)), (9, .int x9)]) I_198_141 rfl (wi_istore [(0, .ref 176), (2, .int x2), (3, .int x3), (4, .int x4), (5, .int x5), (6, .int (x6 + (di 188 (((3 : Int32) * x9).toNatClampNeg)))), (7, .int (x7 + 0)), (8, .int 1), (9, .int x9)] (lt_e X_198 rfl) rfl ?_)
            refine q0 I_198_143 (wi_iinc 1 [(0, .ref 176), (2, .int x2), (3, .int x3), (4, .int x4), (5, .int x5), (6, .int (x6 + (di 188 (((3 : Int32) * x9).toNatClampNeg)))), (7, .int (x7 + 0)), (8, .int 1), (9, .int (x9 + 1))] rfl (lt_e X_198 rfl) rfl rfl ?_)
            refine q0 I_198_146 (wi_goto ?_)
            exact Wq_c I_198_38 rfl rfl H
          · replace H := H.2 h
            refine q1 (ls' := []) I_137_9 rfl (wi_iconst 1 rfl ?_)
            refine q0 I_137_10 (wi_goto ?_)
            refine q1 (ls' := []) I_137_14 rfl (wi_zret T_137 (Or.inl C_137) (Or.inr rfl) ⟨_, rfl, ?_⟩)
            refine q0 I_198_119 (wi_ifF rfl ?_)
            refine q1 (ls' := [(0, .ref 176), (2, .int x2), (3, .int x3), (4, .int x4), (5, .int x5), (6, .int (x6 + (di 188 (((3 : Int32) * x9).toNatClampNeg)))), (7, .int (x7 + 0)), (9, .int x9)]) I_198_122 rfl (wi_aload_n _ rfl ?_)
            refine q0 I_198_123 (wi_get (.ref 188) S_176 rfl (by decide) rfl ?_)
            refine q0 I_198_126 (wi_iconst 3 rfl ?_)
            refine q0 I_198_127 (wi_iload _ rfl ?_)
            refine q0 I_198_129 (wi_imul ?_)
            refine q0 I_198_130 (wi_iconst 2 rfl ?_)
            refine q0 I_198_131 (wi_iadd ?_)
            have hb26 := H.1
            replace H := H.2
            refine q0 I_198_132 (wi_iaload ((((3 : Int32) * x9) + 2).toNatClampNeg) S_188 hb26 rfl ?_)
            refine q0 I_198_133 (wi_if_le (fun h => ?_) (fun h => ?_))
            · replace H := H.1 h
              refine q1 (ls' := [(0, .ref 176), (2, .int x2), (3, .int x3), (4, .int x4), (5, .int x5), (6, .int (x6 + (di 188 (((3 : Int32) * x9).toNatClampNeg)))), (7, .int (x7 + 0)), (9, .int x9)]) I_198_140 rfl (wi_iconst 0 rfl ?_)
              refine q1 (ls' := [(0, .ref 176), (2, .int x2), (3, .int x3), (4, .int x4), (5, .int x5), (6, .int (x6 + (di 188 (((3 : Int32) * x9).toNatClampNeg)))), (7, .int (x7 + 0)), (9, .int x9)]) I_198_141 rfl (wi_istore [(0, .ref 176), (2, .int x2), (3, .int x3), (4, .int x4), (5, .int x5), (6, .int (x6 + (di 188 (((3 : Int32) * x9).toNatClampNeg)))), (7, .int (x7 + 0)), (8, .int 0), (9, .int x9)] (lt_e X_198 rfl) rfl ?_)
              refine q0 I_198_143 (wi_iinc 1 [(0, .ref 176), (2, .int x2), (3, .int x3), (4, .int x4), (5, .int x5), (6, .int (x6 + (di 188 (((3 : Int32) * x9).toNatClampNeg)))), (7, .int (x7 + 0)), (8, .int 0), (9, .int (x9 + 1))] rfl (lt_e X_198 rfl) rfl rfl ?_)
              refine q0 I_198_146 (wi_goto ?_)
              exact Wq_c I_198_38 rfl rfl H
            · replace H := H.2 h
              refine q1 (ls' := [(0, .ref 176), (2, .int x2), (3, .int x3), (4, .int x4), (5, .int x5), (6, .int (x6 + (di 188 (((3 : Int32) * x9).toNatClampNeg)))), (7, .int (x7 + 0)), (9, .int x9)]) I_198_136 rfl (wi_iconst 1 rfl ?_)
              refine q0 I_198_137 (wi_goto ?_)
              refine q1 (ls' := [(0, .ref 176), (2, .int x2), (3, .int x3), (4, .int x4), (5, .int x5), (6, .int (x6 + (di 188 (((3 : Int32) * x9).toNatClampNeg)))), (7, .int (x7 + 0)), (9, .int x9)]) I_198_141 rfl (wi_istore [(0, .ref 176), (2, .int x2), (3, .int x3), (4, .int x4), (5, .int x5), (6, .int (x6 + (di 188 (((3 : Int32) * x9).toNatClampNeg)))), (7, .int (x7 + 0)), (8, .int 1), (9, .int x9)] (lt_e X_198 rfl) rfl ?_)
              refine q0 I_198_143 (wi_iinc 1 [(0, .ref 176), (2, .int x2), (3, .int x3), (4, .int x4), (5, .int x5), (6, .int (x6 + (di 188 (((3 : Int32) * x9).toNatClampNeg)))), (7, .int (x7 + 0)), (8, .int 1), (9, .int (x9 + 1))] rfl (lt_e X_198 rfl) rfl rfl ?_)
              refine q0 I_198_146 (wi_goto ?_)
              exact Wq_c I_198_38 rfl rfl H
      · replace H := H.2 h
        refine q1 (ls' := []) I_137_9 rfl (wi_iconst 1 rfl ?_)
        refine q0 I_137_10 (wi_goto ?_)
        refine q1 (ls' := []) I_137_14 rfl (wi_zret T_137 (Or.inl C_137) (Or.inr rfl) ⟨_, rfl, ?_⟩)
        refine q0 I_198_86 (wi_ifF rfl ?_)
        refine q1 (ls' := [(0, .ref 176), (2, .int x2), (3, .int x3), (4, .int x4), (5, .int x5), (6, .int (x6 + (di 188 (((3 : Int32) * x9).toNatClampNeg)))), (8, .int x8), (9, .int x9)]) I_198_89 rfl (wi_aload_n _ rfl ?_)
        refine q0 I_198_90 (wi_get (.ref 188) S_176 rfl (by decide) rfl ?_)
        refine q0 I_198_93 (wi_iconst 3 rfl ?_)
        refine q0 I_198_94 (wi_iload _ rfl ?_)
        refine q0 I_198_96 (wi_imul ?_)
        refine q0 I_198_97 (wi_iconst 2 rfl ?_)
        refine q0 I_198_98 (wi_iadd ?_)
        have hb27 := H.1
        replace H := H.2
        refine q0 I_198_99 (wi_iaload ((((3 : Int32) * x9) + 2).toNatClampNeg) S_188 hb27 rfl ?_)
        refine q0 I_198_100 (wi_goto ?_)
        refine q1 (ls' := [(0, .ref 176), (2, .int x2), (3, .int x3), (4, .int x4), (5, .int x5), (6, .int (x6 + (di 188 (((3 : Int32) * x9).toNatClampNeg)))), (8, .int x8), (9, .int x9)]) I_198_104 rfl (wi_iadd ?_)
        refine q0 I_198_105 (wi_istore [(0, .ref 176), (2, .int x2), (3, .int x3), (4, .int x4), (5, .int x5), (6, .int (x6 + (di 188 (((3 : Int32) * x9).toNatClampNeg)))), (7, .int (x7 + (di 188 ((((3 : Int32) * x9) + 2).toNatClampNeg)))), (8, .int x8), (9, .int x9)] (lt_e X_198 rfl) rfl ?_)
        refine q0 I_198_107 (wi_iload _ rfl ?_)
        refine q0 I_198_109 (wi_if_eq (fun h => ?_) (fun h => ?_))
        · replace H := H.1 h
          refine q1 (ls' := [(0, .ref 176), (2, .int x2), (3, .int x3), (4, .int x4), (5, .int x5), (6, .int (x6 + (di 188 (((3 : Int32) * x9).toNatClampNeg)))), (7, .int (x7 + (di 188 ((((3 : Int32) * x9) + 2).toNatClampNeg)))), (9, .int x9)]) I_198_140 rfl (wi_iconst 0 rfl ?_)
          refine q1 (ls' := [(0, .ref 176), (2, .int x2), (3, .int x3), (4, .int x4), (5, .int x5), (6, .int (x6 + (di 188 (((3 : Int32) * x9).toNatClampNeg)))), (7, .int (x7 + (di 188 ((((3 : Int32) * x9) + 2).toNatClampNeg)))), (9, .int x9)]) I_198_141 rfl (wi_istore [(0, .ref 176), (2, .int x2), (3, .int x3), (4, .int x4), (5, .int x5), (6, .int (x6 + (di 188 (((3 : Int32) * x9).toNatClampNeg)))), (7, .int (x7 + (di 188 ((((3 : Int32) * x9) + 2).toNatClampNeg)))), (8, .int 0), (9, .int x9)] (lt_e X_198 rfl) rfl ?_)
          refine q0 I_198_143 (wi_iinc 1 [(0, .ref 176), (2, .int x2), (3, .int x3), (4, .int x4), (5, .int x5), (6, .int (x6 + (di 188 (((3 : Int32) * x9).toNatClampNeg)))), (7, .int (x7 + (di 188 ((((3 : Int32) * x9) + 2).toNatClampNeg)))), (8, .int 0), (9, .int (x9 + 1))] rfl (lt_e X_198 rfl) rfl rfl ?_)
          refine q0 I_198_146 (wi_goto ?_)
          exact Wq_c I_198_38 rfl rfl H
        · replace H := H.2 h
          refine q1 (ls' := [(0, .ref 176), (2, .int x2), (3, .int x3), (4, .int x4), (5, .int x5), (6, .int (x6 + (di 188 (((3 : Int32) * x9).toNatClampNeg)))), (7, .int (x7 + (di 188 ((((3 : Int32) * x9) + 2).toNatClampNeg)))), (9, .int x9)]) I_198_112 rfl (wi_iload _ rfl ?_)
          refine q0 I_198_114 (wi_iload _ rfl ?_)
          refine q0 I_198_116 (wi_statI (e := 4) [.int x5, .int x9] [] rfl (Or.inl rfl) rfl rfl rfl (okC_i rfl rfl rfl) C_137 (by decide) (Cl_of C_137 Z_137 [(0, .int x5), (1, .int x9)] rfl ?_))
          refine q0 I_137_0 (wi_iload_n _ rfl ?_)
          refine q0 I_137_1 (wi_iload_n _ rfl ?_)
          refine q0 I_137_2 (wi_ishr ?_)
          refine q0 I_137_3 (wi_iconst 1 rfl ?_)
          refine q0 I_137_4 (wi_iand ?_)
          refine q0 I_137_5 (wi_iconst 1 rfl ?_)
          refine q0 I_137_6 (wi_ic_ne (fun h => ?_) (fun h => ?_))
          · replace H := H.1 h
            refine q1 (ls' := []) I_137_13 rfl (wi_iconst 0 rfl ?_)
            refine q1 (ls' := []) I_137_14 rfl (wi_zret T_137 (Or.inl C_137) (Or.inl rfl) ⟨_, rfl, ?_⟩)
            refine q0 I_198_119 (wi_ifT rfl ?_)
            refine q1 (ls' := [(0, .ref 176), (2, .int x2), (3, .int x3), (4, .int x4), (5, .int x5), (6, .int (x6 + (di 188 (((3 : Int32) * x9).toNatClampNeg)))), (7, .int (x7 + (di 188 ((((3 : Int32) * x9) + 2).toNatClampNeg)))), (9, .int x9)]) I_198_136 rfl (wi_iconst 1 rfl ?_)
            refine q0 I_198_137 (wi_goto ?_)
            refine q1 (ls' := [(0, .ref 176), (2, .int x2), (3, .int x3), (4, .int x4), (5, .int x5), (6, .int (x6 + (di 188 (((3 : Int32) * x9).toNatClampNeg)))), (7, .int (x7 + (di 188 ((((3 : Int32) * x9) + 2).toNatClampNeg)))), (9, .int x9)]) I_198_141 rfl (wi_istore [(0, .ref 176), (2, .int x2), (3, .int x3), (4, .int x4), (5, .int x5), (6, .int (x6 + (di 188 (((3 : Int32) * x9).toNatClampNeg)))), (7, .int (x7 + (di 188 ((((3 : Int32) * x9) + 2).toNatClampNeg)))), (8, .int 1), (9, .int x9)] (lt_e X_198 rfl) rfl ?_)
            refine q0 I_198_143 (wi_iinc 1 [(0, .ref 176), (2, .int x2), (3, .int x3), (4, .int x4), (5, .int x5), (6, .int (x6 + (di 188 (((3 : Int32) * x9).toNatClampNeg)))), (7, .int (x7 + (di 188 ((((3 : Int32) * x9) + 2).toNatClampNeg)))), (8, .int 1), (9, .int (x9 + 1))] rfl (lt_e X_198 rfl) rfl rfl ?_)
            refine q0 I_198_146 (wi_goto ?_)
            exact Wq_c I_198_38 rfl rfl H
          · replace H := H.2 h
            refine q1 (ls' := []) I_137_9 rfl (wi_iconst 1 rfl ?_)
            refine q0 I_137_10 (wi_goto ?_)
            refine q1 (ls' := []) I_137_14 rfl (wi_zret T_137 (Or.inl C_137) (Or.inr rfl) ⟨_, rfl, ?_⟩)
            refine q0 I_198_119 (wi_ifF rfl ?_)
            refine q1 (ls' := [(0, .ref 176), (2, .int x2), (3, .int x3), (4, .int x4), (5, .int x5), (6, .int (x6 + (di 188 (((3 : Int32) * x9).toNatClampNeg)))), (7, .int (x7 + (di 188 ((((3 : Int32) * x9) + 2).toNatClampNeg)))), (9, .int x9)]) I_198_122 rfl (wi_aload_n _ rfl ?_)
            refine q0 I_198_123 (wi_get (.ref 188) S_176 rfl (by decide) rfl ?_)
            refine q0 I_198_126 (wi_iconst 3 rfl ?_)
            refine q0 I_198_127 (wi_iload _ rfl ?_)
            refine q0 I_198_129 (wi_imul ?_)
            refine q0 I_198_130 (wi_iconst 2 rfl ?_)
            refine q0 I_198_131 (wi_iadd ?_)
            refine q0 I_198_132 (wi_iaload ((((3 : Int32) * x9) + 2).toNatClampNeg) S_188 hb27 rfl ?_)
            refine q0 I_198_133 (wi_if_le (fun h => ?_) (fun h => ?_))
            · replace H := H.1 h
              refine q1 (ls' := [(0, .ref 176), (2, .int x2), (3, .int x3), (4, .int x4), (5, .int x5), (6, .int (x6 + (di 188 (((3 : Int32) * x9).toNatClampNeg)))), (7, .int (x7 + (di 188 ((((3 : Int32) * x9) + 2).toNatClampNeg)))), (9, .int x9)]) I_198_140 rfl (wi_iconst 0 rfl ?_)
              refine q1 (ls' := [(0, .ref 176), (2, .int x2), (3, .int x3), (4, .int x4), (5, .int x5), (6, .int (x6 + (di 188 (((3 : Int32) * x9).toNatClampNeg)))), (7, .int (x7 + (di 188 ((((3 : Int32) * x9) + 2).toNatClampNeg)))), (9, .int x9)]) I_198_141 rfl (wi_istore [(0, .ref 176), (2, .int x2), (3, .int x3), (4, .int x4), (5, .int x5), (6, .int (x6 + (di 188 (((3 : Int32) * x9).toNatClampNeg)))), (7, .int (x7 + (di 188 ((((3 : Int32) * x9) + 2).toNatClampNeg)))), (8, .int 0), (9, .int x9)] (lt_e X_198 rfl) rfl ?_)
              refine q0 I_198_143 (wi_iinc 1 [(0, .ref 176), (2, .int x2), (3, .int x3), (4, .int x4), (5, .int x5), (6, .int (x6 + (di 188 (((3 : Int32) * x9).toNatClampNeg)))), (7, .int (x7 + (di 188 ((((3 : Int32) * x9) + 2).toNatClampNeg)))), (8, .int 0), (9, .int (x9 + 1))] rfl (lt_e X_198 rfl) rfl rfl ?_)
              refine q0 I_198_146 (wi_goto ?_)
              exact Wq_c I_198_38 rfl rfl H
            · replace H := H.2 h
              refine q1 (ls' := [(0, .ref 176), (2, .int x2), (3, .int x3), (4, .int x4), (5, .int x5), (6, .int (x6 + (di 188 (((3 : Int32) * x9).toNatClampNeg)))), (7, .int (x7 + (di 188 ((((3 : Int32) * x9) + 2).toNatClampNeg)))), (9, .int x9)]) I_198_136 rfl (wi_iconst 1 rfl ?_)
              refine q0 I_198_137 (wi_goto ?_)
              refine q1 (ls' := [(0, .ref 176), (2, .int x2), (3, .int x3), (4, .int x4), (5, .int x5), (6, .int (x6 + (di 188 (((3 : Int32) * x9).toNatClampNeg)))), (7, .int (x7 + (di 188 ((((3 : Int32) * x9) + 2).toNatClampNeg)))), (9, .int x9)]) I_198_141 rfl (wi_istore [(0, .ref 176), (2, .int x2), (3, .int x3), (4, .int x4), (5, .int x5), (6, .int (x6 + (di 188 (((3 : Int32) * x9).toNatClampNeg)))), (7, .int (x7 + (di 188 ((((3 : Int32) * x9) + 2).toNatClampNeg)))), (8, .int 1), (9, .int x9)] (lt_e X_198 rfl) rfl ?_)
              refine q0 I_198_143 (wi_iinc 1 [(0, .ref 176), (2, .int x2), (3, .int x3), (4, .int x4), (5, .int x5), (6, .int (x6 + (di 188 (((3 : Int32) * x9).toNatClampNeg)))), (7, .int (x7 + (di 188 ((((3 : Int32) * x9) + 2).toNatClampNeg)))), (8, .int 1), (9, .int (x9 + 1))] rfl (lt_e X_198 rfl) rfl rfl ?_)
              refine q0 I_198_146 (wi_goto ?_)
              exact Wq_c I_198_38 rfl rfl H
theorem r_199 {a1 : Int32} {a2 : Int32} {di : tDi} {dl : tDl} {K : Int32 → tDi → tDl → Prop} (H : (ClV 6 163 [.ref 176] di dl (fun di1 dl1 => (((lg_cmp (a1 : Int32).toInt64 0) < 0 → (K (-2) di1 dl1)) ∧ (0 ≤ (lg_cmp (a1 : Int32).toInt64 0) → ((0 < (lg_cmp (a1 : Int32).toInt64 ((di1 183 2) : Int32).toInt64) → (K (-2) di1 dl1)) ∧ ((lg_cmp (a1 : Int32).toInt64 ((di1 183 2) : Int32).toInt64) ≤ 0 → (((lg_cmp (a2 : Int32).toInt64 10) < 0 → (K (-2) di1 dl1)) ∧ (0 ≤ (lg_cmp (a2 : Int32).toInt64 10) → ((0 < (lg_cmp (a2 : Int32).toInt64 400) → (K (-2) di1 dl1)) ∧ ((lg_cmp (a2 : Int32).toInt64 400) ≤ 0 → (ClI 5 198 [.ref 176, .int a1, .int a2] di1 dl1 (fun r2 di2 dl2 => (K r2 di2 dl2)))))))))))))) : ClI 7 199 [.ref 176, .int a1, .int a2] di dl K := by
  refine Cl_of C_199 Z_199 [(0, .ref 176), (1, .int a1), (2, .int a2)] rfl ?_
  refine q0 I_199_0 (wi_aload_n _ rfl ?_)
  refine q0 I_199_1 (wi_virtV (e := 6) [] [] S_176 rfl (by decide) rfl rfl rfl (okC_i rfl rfl rfl) C_163 (by decide) (ClV_mono H ?_))
  intro di1 dl1 H
  refine q0 I_199_4 (wi_aload_n _ rfl ?_)
  refine q0 I_199_5 (wi_iload_n _ rfl ?_)
  refine q0 I_199_6 (wi_virtI (e := 6) [.int a1] [] S_176 rfl (by decide) rfl rfl rfl (okC_i rfl rfl rfl) C_167 (by decide) (Cl_of C_167 Z_167 [(0, .ref 176), (1, .int a1)] rfl ?_))
  refine q0 I_167_0 (wi_iload_n _ rfl ?_)
  refine q0 I_167_1 (wi_i2l ?_)
  refine q0 I_167_2 (wi_lconst 0 rfl ?_)
  refine q0 I_167_3 (wi_aload_n _ rfl ?_)
  refine q0 I_167_4 (wi_get (.ref 183) S_176 rfl (by decide) rfl ?_)
  refine q0 I_167_7 (wi_iconst 2 rfl ?_)
  refine q0 I_167_8 (wi_iaload 2 S_183 rfl rfl ?_)
  refine q0 I_167_9 (wi_i2l ?_)
  refine q0 I_167_10 (wi_statI (e := 5) [.long (a1 : Int32).toInt64, .long 0, .long ((di1 183 2) : Int32).toInt64] [] rfl (Or.inl rfl) rfl rfl rfl (okC_i rfl rfl rfl) C_134 (by decide) (Cl_of C_134 Z_134 [(0, .long (a1 : Int32).toInt64), (2, .long 0), (4, .long ((di1 183 2) : Int32).toInt64)] rfl ?_))
  refine q0 I_134_0 (wi_lload_n _ rfl ?_)
  refine q0 I_134_1 (wi_lload_n _ rfl ?_)
  refine q0 I_134_2 (wi_lcmp ?_)
  refine q0 I_134_3 (wi_if_lt (fun h => ?_) (fun h => ?_))
  · replace H := H.1 h
    refine q1 (ls' := []) I_134_17 rfl (wi_iconst 0 rfl ?_)
    refine q1 (ls' := []) I_134_18 rfl (wi_zret T_134 (Or.inl C_134) (Or.inl rfl) ⟨_, rfl, ?_⟩)
    refine q0 I_167_13 (wi_zret T_167 (Or.inl C_167) (Or.inl rfl) ⟨_, rfl, ?_⟩)
    refine q0 I_199_9 (wi_ifT rfl ?_)
    refine q1 (ls' := []) I_199_35 rfl (wi_bipush (-2) rfl ?_)
    exact q1 (ls' := []) I_199_37 rfl (wi_iret T_199 C_199 ⟨_, rfl, H⟩)
  · replace H := H.2 h
    refine q1 (ls' := [(0, .long (a1 : Int32).toInt64), (4, .long ((di1 183 2) : Int32).toInt64)]) I_134_6 rfl (wi_lload_n _ rfl ?_)
    refine q0 I_134_7 (wi_lload _ rfl ?_)
    refine q0 I_134_9 (wi_lcmp ?_)
    refine q0 I_134_10 (wi_if_gt (fun h => ?_) (fun h => ?_))
    · replace H := H.1 h
      refine q1 (ls' := []) I_134_17 rfl (wi_iconst 0 rfl ?_)
      refine q1 (ls' := []) I_134_18 rfl (wi_zret T_134 (Or.inl C_134) (Or.inl rfl) ⟨_, rfl, ?_⟩)
      refine q0 I_167_13 (wi_zret T_167 (Or.inl C_167) (Or.inl rfl) ⟨_, rfl, ?_⟩)
      refine q0 I_199_9 (wi_ifT rfl ?_)
      refine q1 (ls' := []) I_199_35 rfl (wi_bipush (-2) rfl ?_)
      exact q1 (ls' := []) I_199_37 rfl (wi_iret T_199 C_199 ⟨_, rfl, H⟩)
    · replace H := H.2 h
      refine q1 (ls' := []) I_134_13 rfl (wi_iconst 1 rfl ?_)
      refine q0 I_134_14 (wi_goto ?_)
      refine q1 (ls' := []) I_134_18 rfl (wi_zret T_134 (Or.inl C_134) (Or.inr rfl) ⟨_, rfl, ?_⟩)
      refine q0 I_167_13 (wi_zret T_167 (Or.inl C_167) (Or.inr rfl) ⟨_, rfl, ?_⟩)
      refine q0 I_199_9 (wi_ifF rfl ?_)
      refine q1 (ls' := [(0, .ref 176), (1, .int a1), (2, .int a2)]) I_199_12 rfl (wi_iload_n _ rfl ?_)
      refine q0 I_199_13 (wi_i2l ?_)
      refine q0 I_199_14 (wi_ldc2_w 10 rfl ?_)
      refine q0 I_199_17 (wi_ldc2_w 400 rfl ?_)
      refine q0 I_199_20 (wi_statI (e := 6) [.long (a2 : Int32).toInt64, .long 10, .long 400] [] rfl (Or.inl rfl) rfl rfl rfl (okC_i rfl rfl rfl) C_134 (by decide) (Cl_of C_134 Z_134 [(0, .long (a2 : Int32).toInt64), (2, .long 10), (4, .long 400)] rfl ?_))
      refine q0 I_134_0 (wi_lload_n _ rfl ?_)
      refine q0 I_134_1 (wi_lload_n _ rfl ?_)
      refine q0 I_134_2 (wi_lcmp ?_)
      refine q0 I_134_3 (wi_if_lt (fun h => ?_) (fun h => ?_))
      · replace H := H.1 h
        refine q1 (ls' := []) I_134_17 rfl (wi_iconst 0 rfl ?_)
        refine q1 (ls' := []) I_134_18 rfl (wi_zret T_134 (Or.inl C_134) (Or.inl rfl) ⟨_, rfl, ?_⟩)
        refine q0 I_199_23 (wi_ifT rfl ?_)
        refine q1 (ls' := []) I_199_35 rfl (wi_bipush (-2) rfl ?_)
        exact q1 (ls' := []) I_199_37 rfl (wi_iret T_199 C_199 ⟨_, rfl, H⟩)
      · replace H := H.2 h
        refine q1 (ls' := [(0, .long (a2 : Int32).toInt64), (4, .long 400)]) I_134_6 rfl (wi_lload_n _ rfl ?_)
        refine q0 I_134_7 (wi_lload _ rfl ?_)
        refine q0 I_134_9 (wi_lcmp ?_)
        refine q0 I_134_10 (wi_if_gt (fun h => ?_) (fun h => ?_))
        · replace H := H.1 h
          refine q1 (ls' := []) I_134_17 rfl (wi_iconst 0 rfl ?_)
          refine q1 (ls' := []) I_134_18 rfl (wi_zret T_134 (Or.inl C_134) (Or.inl rfl) ⟨_, rfl, ?_⟩)
          refine q0 I_199_23 (wi_ifT rfl ?_)
          refine q1 (ls' := []) I_199_35 rfl (wi_bipush (-2) rfl ?_)
          exact q1 (ls' := []) I_199_37 rfl (wi_iret T_199 C_199 ⟨_, rfl, H⟩)
        · replace H := H.2 h
          refine q1 (ls' := []) I_134_13 rfl (wi_iconst 1 rfl ?_)
          refine q0 I_134_14 (wi_goto ?_)
          refine q1 (ls' := []) I_134_18 rfl (wi_zret T_134 (Or.inl C_134) (Or.inr rfl) ⟨_, rfl, ?_⟩)
          refine q0 I_199_23 (wi_ifF rfl ?_)
          refine q1 (ls' := [(0, .ref 176), (1, .int a1), (2, .int a2)]) I_199_26 rfl (wi_aload_n _ rfl ?_)
          refine q0 I_199_27 (wi_iload_n _ rfl ?_)
          refine q0 I_199_28 (wi_iload_n _ rfl ?_)
          refine q0 I_199_29 (wi_virtI (e := 5) [.int a1, .int a2] [] S_176 rfl (by decide) rfl rfl rfl (okC_i rfl rfl rfl) C_198 (by decide) (ClI_mono H ?_))
          intro r2 di2 dl2 H
          refine q0 I_199_32 (wi_goto ?_)
          exact q1 (ls' := []) I_199_37 rfl (wi_iret T_199 C_199 ⟨_, rfl, H⟩)
theorem r_200 {a1 : Int32} {a2 : Int32} {a3 : Int32} {di : tDi} {dl : tDl} {K : Int32 → tDi → tDl → Prop} (H : (((lg_cmp (a1 : Int32).toInt64 0) < 0 → (K (-2) di dl)) ∧ (0 ≤ (lg_cmp (a1 : Int32).toInt64 0) → ((0 < (lg_cmp (a1 : Int32).toInt64 24) → (K (-2) di dl)) ∧ ((lg_cmp (a1 : Int32).toInt64 24) ≤ 0 → (((lg_cmp (a2 : Int32).toInt64 0) < 0 → (K (-2) di dl)) ∧ (0 ≤ (lg_cmp (a2 : Int32).toInt64 0) → ((0 < (lg_cmp (a2 : Int32).toInt64 7) → (K (-2) di dl)) ∧ ((lg_cmp (a2 : Int32).toInt64 7) ≤ 0 → (((lg_cmp (a3 : Int32).toInt64 (-1)) < 0 → (K (-2) di dl)) ∧ (0 ≤ (lg_cmp (a3 : Int32).toInt64 (-1)) → ((0 < (lg_cmp (a3 : Int32).toInt64 7) → (K (-2) di dl)) ∧ ((lg_cmp (a3 : Int32).toInt64 7) ≤ 0 → ((¬ (di 176 18) = 8 → (inB ((3 : Int32) * (di 176 18)) 24 = true ∧ (inB (((3 : Int32) * (di 176 18)) + 1) 24 = true ∧ (inB (((3 : Int32) * (di 176 18)) + 2) 24 = true ∧ (K ((di 176 18) + 1) (up2 (up2 (up2 (up2 di 193 (((3 : Int32) * (di 176 18)).toNatClampNeg) a1) 193 ((((3 : Int32) * (di 176 18)) + 1).toNatClampNeg) a2) 193 ((((3 : Int32) * (di 176 18)) + 2).toNatClampNeg) a3) 176 18 ((di 176 18) + 1)) dl))))) ∧ ((di 176 18) = 8 → (K (-4) di dl)))))))))))))))) : ClI 1 200 [.ref 176, .int a1, .int a2, .int a3] di dl K := by
  refine Cl_of C_200 Z_200 [(0, .ref 176), (1, .int a1), (2, .int a2), (3, .int a3)] rfl ?_
  refine q0 I_200_0 (wi_iload_n _ rfl ?_)
  refine q0 I_200_1 (wi_i2l ?_)
  refine q0 I_200_2 (wi_lconst 0 rfl ?_)
  refine q0 I_200_3 (wi_ldc2_w 24 rfl ?_)
  refine q0 I_200_6 (wi_statI (e := 0) [.long (a1 : Int32).toInt64, .long 0, .long 24] [] rfl (Or.inl rfl) rfl rfl rfl (okC_i rfl rfl rfl) C_134 (by decide) (Cl_of C_134 Z_134 [(0, .long (a1 : Int32).toInt64), (2, .long 0), (4, .long 24)] rfl ?_))
  refine q0 I_134_0 (wi_lload_n _ rfl ?_)
  refine q0 I_134_1 (wi_lload_n _ rfl ?_)
  refine q0 I_134_2 (wi_lcmp ?_)
  refine q0 I_134_3 (wi_if_lt (fun h => ?_) (fun h => ?_))
  · replace H := H.1 h
    refine q1 (ls' := []) I_134_17 rfl (wi_iconst 0 rfl ?_)
    refine q1 (ls' := []) I_134_18 rfl (wi_zret T_134 (Or.inl C_134) (Or.inl rfl) ⟨_, rfl, ?_⟩)
    refine q0 I_200_9 (wi_ifT rfl ?_)
    refine q1 (ls' := []) I_200_38 rfl (wi_bipush (-2) rfl ?_)
    exact q0 I_200_40 (wi_iret T_200 C_200 ⟨_, rfl, H⟩)
  · replace H := H.2 h
    refine q1 (ls' := [(0, .long (a1 : Int32).toInt64), (4, .long 24)]) I_134_6 rfl (wi_lload_n _ rfl ?_)
    refine q0 I_134_7 (wi_lload _ rfl ?_)
    refine q0 I_134_9 (wi_lcmp ?_)
    refine q0 I_134_10 (wi_if_gt (fun h => ?_) (fun h => ?_))
    · replace H := H.1 h
      refine q1 (ls' := []) I_134_17 rfl (wi_iconst 0 rfl ?_)
      refine q1 (ls' := []) I_134_18 rfl (wi_zret T_134 (Or.inl C_134) (Or.inl rfl) ⟨_, rfl, ?_⟩)
      refine q0 I_200_9 (wi_ifT rfl ?_)
      refine q1 (ls' := []) I_200_38 rfl (wi_bipush (-2) rfl ?_)
      exact q0 I_200_40 (wi_iret T_200 C_200 ⟨_, rfl, H⟩)
    · replace H := H.2 h
      refine q1 (ls' := []) I_134_13 rfl (wi_iconst 1 rfl ?_)
      refine q0 I_134_14 (wi_goto ?_)
      refine q1 (ls' := []) I_134_18 rfl (wi_zret T_134 (Or.inl C_134) (Or.inr rfl) ⟨_, rfl, ?_⟩)
      refine q0 I_200_9 (wi_ifF rfl ?_)
      refine q1 (ls' := [(0, .ref 176), (1, .int a1), (2, .int a2), (3, .int a3)]) I_200_12 rfl (wi_iload_n _ rfl ?_)
      refine q0 I_200_13 (wi_i2l ?_)
      refine q0 I_200_14 (wi_lconst 0 rfl ?_)
      refine q0 I_200_15 (wi_ldc2_w 7 rfl ?_)
      refine q0 I_200_18 (wi_statI (e := 0) [.long (a2 : Int32).toInt64, .long 0, .long 7] [] rfl (Or.inl rfl) rfl rfl rfl (okC_i rfl rfl rfl) C_134 (by decide) (Cl_of C_134 Z_134 [(0, .long (a2 : Int32).toInt64), (2, .long 0), (4, .long 7)] rfl ?_))
      refine q0 I_134_0 (wi_lload_n _ rfl ?_)
      refine q0 I_134_1 (wi_lload_n _ rfl ?_)
      refine q0 I_134_2 (wi_lcmp ?_)
      refine q0 I_134_3 (wi_if_lt (fun h => ?_) (fun h => ?_))
      · replace H := H.1 h
        refine q1 (ls' := []) I_134_17 rfl (wi_iconst 0 rfl ?_)
        refine q1 (ls' := []) I_134_18 rfl (wi_zret T_134 (Or.inl C_134) (Or.inl rfl) ⟨_, rfl, ?_⟩)
        refine q0 I_200_21 (wi_ifT rfl ?_)
        refine q1 (ls' := []) I_200_38 rfl (wi_bipush (-2) rfl ?_)
        exact q0 I_200_40 (wi_iret T_200 C_200 ⟨_, rfl, H⟩)
      · replace H := H.2 h
        refine q1 (ls' := [(0, .long (a2 : Int32).toInt64), (4, .long 7)]) I_134_6 rfl (wi_lload_n _ rfl ?_)
        refine q0 I_134_7 (wi_lload _ rfl ?_)
        refine q0 I_134_9 (wi_lcmp ?_)
        refine q0 I_134_10 (wi_if_gt (fun h => ?_) (fun h => ?_))
        · replace H := H.1 h
          refine q1 (ls' := []) I_134_17 rfl (wi_iconst 0 rfl ?_)
          refine q1 (ls' := []) I_134_18 rfl (wi_zret T_134 (Or.inl C_134) (Or.inl rfl) ⟨_, rfl, ?_⟩)
          refine q0 I_200_21 (wi_ifT rfl ?_)
          refine q1 (ls' := []) I_200_38 rfl (wi_bipush (-2) rfl ?_)
          exact q0 I_200_40 (wi_iret T_200 C_200 ⟨_, rfl, H⟩)
        · replace H := H.2 h
          refine q1 (ls' := []) I_134_13 rfl (wi_iconst 1 rfl ?_)
          refine q0 I_134_14 (wi_goto ?_)
          refine q1 (ls' := []) I_134_18 rfl (wi_zret T_134 (Or.inl C_134) (Or.inr rfl) ⟨_, rfl, ?_⟩)
          refine q0 I_200_21 (wi_ifF rfl ?_)
          refine q1 (ls' := [(0, .ref 176), (1, .int a1), (2, .int a2), (3, .int a3)]) I_200_24 rfl (wi_iload_n _ rfl ?_)
          refine q0 I_200_25 (wi_i2l ?_)
          refine q0 I_200_26 (wi_ldc2_w (-1) rfl ?_)
          refine q0 I_200_29 (wi_ldc2_w 7 rfl ?_)
          refine q0 I_200_32 (wi_statI (e := 0) [.long (a3 : Int32).toInt64, .long (-1), .long 7] [] rfl (Or.inl rfl) rfl rfl rfl (okC_i rfl rfl rfl) C_134 (by decide) (Cl_of C_134 Z_134 [(0, .long (a3 : Int32).toInt64), (2, .long (-1)), (4, .long 7)] rfl ?_))
          refine q0 I_134_0 (wi_lload_n _ rfl ?_)
          refine q0 I_134_1 (wi_lload_n _ rfl ?_)
          refine q0 I_134_2 (wi_lcmp ?_)
          refine q0 I_134_3 (wi_if_lt (fun h => ?_) (fun h => ?_))
          · replace H := H.1 h
            refine q1 (ls' := []) I_134_17 rfl (wi_iconst 0 rfl ?_)
            refine q1 (ls' := []) I_134_18 rfl (wi_zret T_134 (Or.inl C_134) (Or.inl rfl) ⟨_, rfl, ?_⟩)
            refine q0 I_200_35 (wi_ifF rfl ?_)
            refine q1 (ls' := []) I_200_38 rfl (wi_bipush (-2) rfl ?_)
            exact q0 I_200_40 (wi_iret T_200 C_200 ⟨_, rfl, H⟩)
          · replace H := H.2 h
            refine q1 (ls' := [(0, .long (a3 : Int32).toInt64), (4, .long 7)]) I_134_6 rfl (wi_lload_n _ rfl ?_)
            refine q0 I_134_7 (wi_lload _ rfl ?_)
            refine q0 I_134_9 (wi_lcmp ?_)
            refine q0 I_134_10 (wi_if_gt (fun h => ?_) (fun h => ?_))
            · replace H := H.1 h
              refine q1 (ls' := []) I_134_17 rfl (wi_iconst 0 rfl ?_)
              refine q1 (ls' := []) I_134_18 rfl (wi_zret T_134 (Or.inl C_134) (Or.inl rfl) ⟨_, rfl, ?_⟩)
              refine q0 I_200_35 (wi_ifF rfl ?_)
              refine q1 (ls' := []) I_200_38 rfl (wi_bipush (-2) rfl ?_)
              exact q0 I_200_40 (wi_iret T_200 C_200 ⟨_, rfl, H⟩)
            · replace H := H.2 h
              refine q1 (ls' := []) I_134_13 rfl (wi_iconst 1 rfl ?_)
              refine q0 I_134_14 (wi_goto ?_)
              refine q1 (ls' := []) I_134_18 rfl (wi_zret T_134 (Or.inl C_134) (Or.inr rfl) ⟨_, rfl, ?_⟩)
              refine q0 I_200_35 (wi_ifT rfl ?_)
              refine q1 (ls' := [(0, .ref 176), (1, .int a1), (2, .int a2), (3, .int a3)]) I_200_41 rfl (wi_aload_n _ rfl ?_)
              refine q0 I_200_42 (wi_getI S_176 rfl (by decide) rfl ?_)
              refine q0 I_200_45 (wi_bipush 8 rfl ?_)
              refine q0 I_200_47 (wi_ic_ne (fun h => ?_) (fun h => ?_))
              · replace H := H.1 h
                refine q1 (ls' := [(0, .ref 176), (1, .int a1), (2, .int a2), (3, .int a3)]) I_200_53 rfl (wi_aload_n _ rfl ?_)
                refine q0 I_200_54 (wi_get (.ref 193) S_176 rfl (by decide) rfl ?_)
                refine q0 I_200_57 (wi_iconst 3 rfl ?_)
                refine q0 I_200_58 (wi_aload_n _ rfl ?_)
                refine q0 I_200_59 (wi_getI S_176 rfl (by decide) rfl ?_)
                refine q0 I_200_62 (wi_imul ?_)
                refine q0 I_200_63 (wi_iload_n _ rfl ?_)
                have hb1 := H.1
                replace H := H.2
                refine q0 I_200_64 (wi_iastore (((3 : Int32) * (di 176 18)).toNatClampNeg) S_193 hb1 rfl ?_)
                refine q0 I_200_65 (wi_aload_n _ rfl ?_)
                refine q0 I_200_66 (wi_get (.ref 193) S_176 rfl (by decide) rfl ?_)
                refine q0 I_200_69 (wi_iconst 3 rfl ?_)
                refine q0 I_200_70 (wi_aload_n _ rfl ?_)
                refine q0 I_200_71 (wi_get (.int (di 176 18)) S_176 rfl (by decide) rfl ?_)
                refine q0 I_200_74 (wi_imul ?_)
                refine q0 I_200_75 (wi_iconst 1 rfl ?_)
                refine q0 I_200_76 (wi_iadd ?_)
                refine q0 I_200_77 (wi_iload_n _ rfl ?_)
                have hb2 := H.1
                replace H := H.2
                refine q0 I_200_78 (wi_iastore ((((3 : Int32) * (di 176 18)) + 1).toNatClampNeg) S_193 hb2 rfl ?_)
                refine q0 I_200_79 (wi_aload_n _ rfl ?_)
                refine q0 I_200_80 (wi_get (.ref 193) S_176 rfl (by decide) rfl ?_)
                refine q0 I_200_83 (wi_iconst 3 rfl ?_)
                refine q0 I_200_84 (wi_aload_n _ rfl ?_)
                refine q0 I_200_85 (wi_get (.int (di 176 18)) S_176 rfl (by decide) rfl ?_)
                refine q0 I_200_88 (wi_imul ?_)
                refine q0 I_200_89 (wi_iconst 2 rfl ?_)
                refine q0 I_200_90 (wi_iadd ?_)
                refine q0 I_200_91 (wi_iload_n _ rfl ?_)
                have hb3 := H.1
                replace H := H.2
                refine q0 I_200_92 (wi_iastore ((((3 : Int32) * (di 176 18)) + 2).toNatClampNeg) S_193 hb3 rfl ?_)
                refine q0 I_200_93 (wi_aload_n _ rfl ?_)
                refine q0 I_200_94 (wi_dup rfl ?_)
                refine q0 I_200_95 (wi_get (.int (di 176 18)) S_176 rfl (by decide) rfl ?_)
                refine q0 I_200_98 (wi_iconst 1 rfl ?_)
                refine q0 I_200_99 (wi_iadd ?_)
                refine q0 I_200_100 (wi_putI S_176 rfl (by decide) rfl rfl rfl ?_)
                refine q0 I_200_103 (wi_aload_n _ rfl ?_)
                refine q0 I_200_104 (wi_get (.int ((di 176 18) + 1)) S_176 rfl (by decide) rfl ?_)
                exact q0 I_200_107 (wi_iret T_200 C_200 ⟨_, rfl, H⟩)
              · replace H := H.2 h
                refine q1 (ls' := []) I_200_50 rfl (wi_bipush (-4) rfl ?_)
                exact q0 I_200_52 (wi_iret T_200 C_200 ⟨_, rfl, H⟩)
theorem r_201  {di : tDi} {dl : tDl} {K : Int32 → tDi → tDl → Prop} (H : (K (di 176 18) (up2 di 176 18 0) dl)) : ClI 0 201 [.ref 176] di dl K := by
  refine Cl_of C_201 Z_201 [(0, .ref 176)] rfl ?_
  refine q0 I_201_0 (wi_aload_n _ rfl ?_)
  refine q0 I_201_1 (wi_getI S_176 rfl (by decide) rfl ?_)
  refine q0 I_201_4 (wi_istore_n [(0, .ref 176), (1, .int (di 176 18))] (lt_e X_201 rfl) rfl ?_)
  refine q0 I_201_5 (wi_aload_n _ rfl ?_)
  refine q0 I_201_6 (wi_iconst 0 rfl ?_)
  refine q0 I_201_7 (wi_putI S_176 rfl (by decide) rfl rfl rfl ?_)
  refine q0 I_201_10 (wi_iload_n _ rfl ?_)
  exact q0 I_201_11 (wi_iret T_201 C_201 ⟨_, rfl, H⟩)
