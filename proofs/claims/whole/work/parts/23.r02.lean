/-! regions, written by program (gen23.py) -/
theorem r_85 {a1 : Int32} {a2 : Int32} {di : tDi} {dl : tDl} {K : Int32 → tDi → tDl → Prop} (H : ((a1 = 0 → (K (a2 / 10) di dl)) ∧ (¬ a1 = 0 → ((a1 = 2 → (K (a2 / 20) di dl)) ∧ (¬ a1 = 2 → (K 0 di dl)))))) : ClI 0 85 [.int a1, .int a2] di dl K := by
  refine Cl_of C_85 Z_85 [(0, .int a1), (1, .int a2)] rfl ?_
  refine q0 I_85_0 (wi_iload_n _ rfl ?_)
  refine q0 I_85_1 (wi_lsw ?_)
  refine sw_cons 0 rfl ⟨fun h => ?_, fun h => ?_⟩
  · replace H := H.1 h
    refine q1 (ls' := [(1, .int a2)]) I_85_28 rfl (wi_iload_n _ rfl ?_)
    refine q0 I_85_29 (wi_bipush 10 rfl ?_)
    refine q0 I_85_31 (wi_idiv (by decide) ?_)
    exact q0 I_85_32 (wi_iret T_85 C_85 ⟨_, rfl, H⟩)
  · replace H := H.2 h
    refine sw_cons 2 rfl ⟨fun h => ?_, fun h => ?_⟩
    · replace H := H.1 h
      refine q1 (ls' := [(1, .int a2)]) I_85_33 rfl (wi_iload_n _ rfl ?_)
      refine q0 I_85_34 (wi_bipush 20 rfl ?_)
      refine q0 I_85_36 (wi_idiv (by decide) ?_)
      exact q0 I_85_37 (wi_iret T_85 C_85 ⟨_, rfl, H⟩)
    · replace H := H.2 h
      refine sw_nil ?_
      refine q1 (ls' := []) I_85_38 rfl (wi_iconst 0 rfl ?_)
      exact q0 I_85_39 (wi_iret T_85 C_85 ⟨_, rfl, H⟩)
theorem r_86 {a1 : Int32} {di : tDi} {dl : tDl} {K : Int32 → tDi → tDl → Prop} (H : ((a1 = 0 → (K 2 di dl)) ∧ (¬ a1 = 0 → ((a1 = 2 → (K 1 di dl)) ∧ (¬ a1 = 2 → (K 0 di dl)))))) : ClI 0 86 [.int a1] di dl K := by
  refine Cl_of C_86 Z_86 [(0, .int a1)] rfl ?_
  refine q0 I_86_0 (wi_iload_n _ rfl ?_)
  refine q0 I_86_1 (wi_lsw ?_)
  refine sw_cons 0 rfl ⟨fun h => ?_, fun h => ?_⟩
  · replace H := H.1 h
    refine q1 (ls' := []) I_86_28 rfl (wi_iconst 2 rfl ?_)
    exact q0 I_86_29 (wi_iret T_86 C_86 ⟨_, rfl, H⟩)
  · replace H := H.2 h
    refine sw_cons 2 rfl ⟨fun h => ?_, fun h => ?_⟩
    · replace H := H.1 h
      refine q1 (ls' := []) I_86_30 rfl (wi_iconst 1 rfl ?_)
      exact q0 I_86_31 (wi_iret T_86 C_86 ⟨_, rfl, H⟩)
    · replace H := H.2 h
      refine sw_nil ?_
      refine q1 (ls' := []) I_86_32 rfl (wi_iconst 0 rfl ?_)
      exact q0 I_86_33 (wi_iret T_86 C_86 ⟨_, rfl, H⟩)
theorem r_87 {a1 : Int32} {di : tDi} {dl : tDl} {K : tDi → tDl → Prop} (H : (Wq none 2 87 2 [(0, .ref 8), (1, .int a1), (2, .int 0)] [] di dl (RV K))) : ClV 2 87 [.ref 8, .int a1] di dl K := by
  refine Cl_of C_87 Z_87 [(0, .ref 8), (1, .int a1)] rfl ?_
  refine q0 I_87_0 (wi_iconst 0 rfl ?_)
  refine q0 I_87_1 (wi_istore_n [(0, .ref 8), (1, .int a1), (2, .int 0)] (lt_e X_87 rfl) rfl ?_)
  exact Wq_c I_87_2 rfl rfl H
theorem r_87_2 {x1 : Int32} {x2 : Int32} {di : tDi} {dl : tDl} {K : tDi → tDl → Prop} (H : (((di 1 4) ≤ x2 → (K di dl)) ∧ (x2 < (di 1 4) → ((x1 < 0 → (Wq none 2 87 2 [(0, .ref 8), (1, .int x1), (2, .int (x2 + 1))] [] di dl (RV K))) ∧ (0 ≤ x1 → ((26 ≤ x1 → (Wq none 2 87 2 [(0, .ref 8), (1, .int x1), (2, .int (x2 + 1))] [] di dl (RV K))) ∧ (x1 < 26 → ((x2 < 0 → (Wq none 2 87 2 [(0, .ref 8), (1, .int x1), (2, .int (x2 + 1))] [] di dl (RV K))) ∧ (0 ≤ x2 → ((8 ≤ x2 → (Wq none 2 87 2 [(0, .ref 8), (1, .int x1), (2, .int (x2 + 1))] [] di dl (RV K))) ∧ (x2 < 8 → (ClI 1 47 [.ref 1, .int x2] di dl (fun r21 di21 dl21 => (ClI 1 49 [.ref 1, .int x2] di21 dl21 (fun r22 di22 dl22 => (Wq none 2 87 52 [(0, .ref 8), (1, .int x1), (2, .int x2), (3, .int ((10 : Int32) * r21)), (4, .int r22), (5, .int 0), (6, .int 0)] [] di22 dl22 (RV K))))))))))))))))) : Wq none 2 87 2 [(0, .ref 8), (1, .int x1), (2, .int x2)] [] di dl (RV K) := by
  refine q1 (ls' := [(0, .ref 8), (1, .int x1), (2, .int x2)]) I_87_2 rfl (wi_iload_n _ rfl ?_)
  refine q0 I_87_3 (wi_aload_n _ rfl ?_)
  refine q0 I_87_4 (wi_get (.ref 1) S_8 rfl (by decide) rfl ?_)
  refine q0 I_87_7 (wi_getI S_1 rfl (by decide) rfl ?_)
  refine q0 I_87_10 (wi_ic_ge (fun h => ?_) (fun h => ?_))
  · replace H := H.1 h
    exact q1 (ls' := []) I_87_171 rfl (wi_ret T_87 C_87 ⟨rfl, H⟩)
  · replace H := H.2 h
    refine q1 (ls' := [(0, .ref 8), (1, .int x1), (2, .int x2)]) I_87_13 rfl (wi_iload_n _ rfl ?_)
    refine q0 I_87_14 (wi_iload_n _ rfl ?_)
    refine q0 I_87_15 (wi_statI (e := 1) [.int x1, .int x2] [] rfl (Or.inl rfl) rfl rfl rfl (okC_i rfl rfl rfl) C_80 (by decide) (Cl_of C_80 Z_80 [(0, .int x1), (1, .int x2)] rfl ?_))
    refine q0 I_80_0 (wi_iload_n _ rfl ?_)
    refine q0 I_80_1 (wi_if_lt (fun h => ?_) (fun h => ?_))
    · replace H := H.1 h
      refine q1 (ls' := []) I_80_24 rfl (wi_iconst 0 rfl ?_)
      refine q1 (ls' := []) I_80_25 rfl (wi_zret T_80 (Or.inl C_80) (Or.inl rfl) ⟨_, rfl, ?_⟩)
      refine q0 I_87_18 (wi_ifF rfl ?_)
      refine q1 (ls' := [(0, .ref 8), (1, .int x1), (2, .int x2)]) I_87_21 rfl (wi_goto ?_)
      refine q1 (ls' := [(0, .ref 8), (1, .int x1), (2, .int x2)]) I_87_165 rfl (wi_iinc 1 [(0, .ref 8), (1, .int x1), (2, .int (x2 + 1))] rfl (lt_e X_87 rfl) rfl rfl ?_)
      refine q0 I_87_168 (wi_goto ?_)
      exact Wq_c I_87_2 rfl rfl H
    · replace H := H.2 h
      refine q1 (ls' := [(0, .int x1), (1, .int x2)]) I_80_4 rfl (wi_iload_n _ rfl ?_)
      refine q0 I_80_5 (wi_bipush 26 rfl ?_)
      refine q0 I_80_7 (wi_ic_ge (fun h => ?_) (fun h => ?_))
      · replace H := H.1 h
        refine q1 (ls' := []) I_80_24 rfl (wi_iconst 0 rfl ?_)
        refine q1 (ls' := []) I_80_25 rfl (wi_zret T_80 (Or.inl C_80) (Or.inl rfl) ⟨_, rfl, ?_⟩)
        refine q0 I_87_18 (wi_ifF rfl ?_)
        refine q1 (ls' := [(0, .ref 8), (1, .int x1), (2, .int x2)]) I_87_21 rfl (wi_goto ?_)
        refine q1 (ls' := [(0, .ref 8), (1, .int x1), (2, .int x2)]) I_87_165 rfl (wi_iinc 1 [(0, .ref 8), (1, .int x1), (2, .int (x2 + 1))] rfl (lt_e X_87 rfl) rfl rfl ?_)
        refine q0 I_87_168 (wi_goto ?_)
        exact Wq_c I_87_2 rfl rfl H
      · replace H := H.2 h
        refine q1 (ls' := [(1, .int x2)]) I_80_10 rfl (wi_iload_n _ rfl ?_)
        refine q0 I_80_11 (wi_if_lt (fun h => ?_) (fun h => ?_))
        · replace H := H.1 h
          refine q1 (ls' := []) I_80_24 rfl (wi_iconst 0 rfl ?_)
          refine q1 (ls' := []) I_80_25 rfl (wi_zret T_80 (Or.inl C_80) (Or.inl rfl) ⟨_, rfl, ?_⟩)
          refine q0 I_87_18 (wi_ifF rfl ?_)
          refine q1 (ls' := [(0, .ref 8), (1, .int x1), (2, .int x2)]) I_87_21 rfl (wi_goto ?_)
          refine q1 (ls' := [(0, .ref 8), (1, .int x1), (2, .int x2)]) I_87_165 rfl (wi_iinc 1 [(0, .ref 8), (1, .int x1), (2, .int (x2 + 1))] rfl (lt_e X_87 rfl) rfl rfl ?_)
          refine q0 I_87_168 (wi_goto ?_)
          exact Wq_c I_87_2 rfl rfl H
        · replace H := H.2 h
          refine q1 (ls' := [(1, .int x2)]) I_80_14 rfl (wi_iload_n _ rfl ?_)
          refine q0 I_80_15 (wi_bipush 8 rfl ?_)
          refine q0 I_80_17 (wi_ic_ge (fun h => ?_) (fun h => ?_))
          · replace H := H.1 h
            refine q1 (ls' := []) I_80_24 rfl (wi_iconst 0 rfl ?_)
            refine q1 (ls' := []) I_80_25 rfl (wi_zret T_80 (Or.inl C_80) (Or.inl rfl) ⟨_, rfl, ?_⟩)
            refine q0 I_87_18 (wi_ifF rfl ?_)
            refine q1 (ls' := [(0, .ref 8), (1, .int x1), (2, .int x2)]) I_87_21 rfl (wi_goto ?_)
            refine q1 (ls' := [(0, .ref 8), (1, .int x1), (2, .int x2)]) I_87_165 rfl (wi_iinc 1 [(0, .ref 8), (1, .int x1), (2, .int (x2 + 1))] rfl (lt_e X_87 rfl) rfl rfl ?_)
            refine q0 I_87_168 (wi_goto ?_)
            exact Wq_c I_87_2 rfl rfl H
          · replace H := H.2 h
            refine q1 (ls' := []) I_80_20 rfl (wi_iconst 1 rfl ?_)
            refine q0 I_80_21 (wi_goto ?_)
            refine q1 (ls' := []) I_80_25 rfl (wi_zret T_80 (Or.inl C_80) (Or.inr rfl) ⟨_, rfl, ?_⟩)
            refine q0 I_87_18 (wi_ifT rfl ?_)
            refine q1 (ls' := [(0, .ref 8), (1, .int x1), (2, .int x2)]) I_87_24 rfl (wi_bipush 10 rfl ?_)
            refine q0 I_87_26 (wi_aload_n _ rfl ?_)
            refine q0 I_87_27 (wi_get (.ref 1) S_8 rfl (by decide) rfl ?_)
            refine q0 I_87_30 (wi_iload_n _ rfl ?_)
            refine q0 I_87_31 (wi_virtI (e := 1) [.int x2] [.int 10] S_1 rfl (by decide) rfl rfl rfl (okC_i rfl rfl rfl) C_47 (by decide) (ClI_mono H ?_))
            intro r21 di21 dl21 H
            refine q0 I_87_34 (wi_imul ?_)
            refine q0 I_87_35 (wi_istore_n [(0, .ref 8), (1, .int x1), (2, .int x2), (3, .int ((10 : Int32) * r21))] (lt_e X_87 rfl) rfl ?_)
            refine q0 I_87_36 (wi_aload_n _ rfl ?_)
            refine q0 I_87_37 (wi_get (.ref 1) S_8 rfl (by decide) rfl ?_)
            refine q0 I_87_40 (wi_iload_n _ rfl ?_)
            refine q0 I_87_41 (wi_virtI (e := 1) [.int x2] [] S_1 rfl (by decide) rfl rfl rfl (okC_i rfl rfl rfl) C_49 (by decide) (ClI_mono H ?_))
            intro r22 di22 dl22 H
            refine q0 I_87_44 (wi_istore [(0, .ref 8), (1, .int x1), (2, .int x2), (3, .int ((10 : Int32) * r21)), (4, .int r22)] (lt_e X_87 rfl) rfl ?_)
            refine q0 I_87_46 (wi_iconst 0 rfl ?_)
            refine q0 I_87_47 (wi_istore [(0, .ref 8), (1, .int x1), (2, .int x2), (3, .int ((10 : Int32) * r21)), (4, .int r22), (5, .int 0)] (lt_e X_87 rfl) rfl ?_)
            refine q0 I_87_49 (wi_iconst 0 rfl ?_)
            refine q0 I_87_50 (wi_istore [(0, .ref 8), (1, .int x1), (2, .int x2), (3, .int ((10 : Int32) * r21)), (4, .int r22), (5, .int 0), (6, .int 0)] (lt_e X_87 rfl) rfl ?_)
            exact Wq_c I_87_52 rfl rfl H
theorem r_87_52 {x1 : Int32} {x2 : Int32} {x3 : Int32} {x4 : Int32} {x5 : Int32} {x6 : Int32} {di : tDi} {dl : tDl} {K : tDi → tDl → Prop} (H : (((di 3 4) ≤ x6 → (inB x1 26 = true ∧ (inB x2 8 = true ∧ (Wq none 2 87 2 [(0, .ref 8), (1, .int x1), (2, .int (x2 + 1))] [] (up2 di (91 + x1.toNatClampNeg) (x2.toNatClampNeg) x5) dl (RV K))))) ∧ (x6 < (di 3 4) → ((8 ≤ x6 → (inB x1 26 = true ∧ (inB x2 8 = true ∧ (Wq none 2 87 2 [(0, .ref 8), (1, .int x1), (2, .int (x2 + 1))] [] (up2 di (91 + x1.toNatClampNeg) (x2.toNatClampNeg) x5) dl (RV K))))) ∧ (x6 < 8 → (inB x1 26 = true ∧ (inB x6 8 = true ∧ (((di (10 + x1.toNatClampNeg) (x6.toNatClampNeg)) < x3 → (((di (64 + x1.toNatClampNeg) (x6.toNatClampNeg)) ≤ 0 → (Wq none 2 87 52 [(0, .ref 8), (1, .int x1), (2, .int x2), (3, .int x3), (4, .int x4), (5, .int x5), (6, .int (x6 + 1))] [] di dl (RV K))) ∧ (0 < (di (64 + x1.toNatClampNeg) (x6.toNatClampNeg)) → (Wq none 2 87 52 [(0, .ref 8), (1, .int x1), (2, .int x2), (3, .int x3), (4, .int x4), (5, .int x5), (6, .int (x6 + 1))] [] di dl (RV K))))) ∧ (x3 ≤ (di (10 + x1.toNatClampNeg) (x6.toNatClampNeg)) → (((x3 + (di 8 8)) < (di (10 + x1.toNatClampNeg) (x6.toNatClampNeg)) → (((di (64 + x1.toNatClampNeg) (x6.toNatClampNeg)) ≤ 0 → (Wq none 2 87 52 [(0, .ref 8), (1, .int x1), (2, .int x2), (3, .int x3), (4, .int x4), (5, .int x5), (6, .int (x6 + 1))] [] di dl (RV K))) ∧ (0 < (di (64 + x1.toNatClampNeg) (x6.toNatClampNeg)) → (Wq none 2 87 52 [(0, .ref 8), (1, .int x1), (2, .int x2), (3, .int x3), (4, .int x4), (5, .int x5), (6, .int (x6 + 1))] [] di dl (RV K))))) ∧ ((di (10 + x1.toNatClampNeg) (x6.toNatClampNeg)) ≤ (x3 + (di 8 8)) → (((di (64 + x1.toNatClampNeg) (x6.toNatClampNeg)) ≤ 0 → (Wq none 2 87 52 [(0, .ref 8), (1, .int x1), (2, .int x2), (3, .int x3), (4, .int x4), (5, .int x5), (6, .int (x6 + 1))] [] di dl (RV K))) ∧ (0 < (di (64 + x1.toNatClampNeg) (x6.toNatClampNeg)) → (((di (37 + x1.toNatClampNeg) (x6.toNatClampNeg)) < x4 → (Wq none 2 87 52 [(0, .ref 8), (1, .int x1), (2, .int x2), (3, .int x3), (4, .int x4), (5, .int x5), (6, .int (x6 + 1))] [] di dl (RV K))) ∧ (x4 ≤ (di (37 + x1.toNatClampNeg) (x6.toNatClampNeg)) → (Wq none 2 87 52 [(0, .ref 8), (1, .int x1), (2, .int x2), (3, .int x3), (4, .int x4), (5, .int (x5 ||| ((1 : Int32) <<< (x6 &&& 31)))), (6, .int (x6 + 1))] [] di dl (RV K))))))))))))))))) : Wq none 2 87 52 [(0, .ref 8), (1, .int x1), (2, .int x2), (3, .int x3), (4, .int x4), (5, .int x5), (6, .int x6)] [] di dl (RV K) := by
  refine q1 (ls' := [(0, .ref 8), (1, .int x1), (2, .int x2), (3, .int x3), (4, .int x4), (5, .int x5), (6, .int x6)]) I_87_52 rfl (wi_iload _ rfl ?_)
  refine q0 I_87_54 (wi_aload_n _ rfl ?_)
  refine q0 I_87_55 (wi_get (.ref 3) S_8 rfl (by decide) rfl ?_)
  refine q0 I_87_58 (wi_getI S_3 rfl (by decide) rfl ?_)
  refine q0 I_87_61 (wi_ic_ge (fun h => ?_) (fun h => ?_))
  · replace H := H.1 h
    refine q1 (ls' := [(0, .ref 8), (1, .int x1), (2, .int x2), (5, .int x5)]) I_87_155 rfl (wi_aload_n _ rfl ?_)
    refine q0 I_87_156 (wi_get (.ref 90) S_8 rfl (by decide) rfl ?_)
    refine q0 I_87_159 (wi_iload_n _ rfl ?_)
    have hb21 := H.1
    replace H := H.2
    refine q0 I_87_160 (wi_aaload (e := 2) (91 + x1.toNatClampNeg) S_90 hb21 (by decide) (K_90 hb21) ?_)
    refine q0 I_87_161 (wi_iload_n _ rfl ?_)
    refine q0 I_87_162 (wi_iload _ rfl ?_)
    have hb22 := H.1
    replace H := H.2
    refine q0 I_87_164 (wi_iastore (x2.toNatClampNeg) (G_90 hb21) hb22 rfl ?_)
    refine q1 (ls' := [(0, .ref 8), (1, .int x1), (2, .int x2)]) I_87_165 rfl (wi_iinc 1 [(0, .ref 8), (1, .int x1), (2, .int (x2 + 1))] rfl (lt_e X_87 rfl) rfl rfl ?_)
    refine q0 I_87_168 (wi_goto ?_)
    exact Wq_c I_87_2 rfl rfl H
  · replace H := H.2 h
    refine q1 (ls' := [(0, .ref 8), (1, .int x1), (2, .int x2), (3, .int x3), (4, .int x4), (5, .int x5), (6, .int x6)]) I_87_64 rfl (wi_iload _ rfl ?_)
    refine q0 I_87_66 (wi_bipush 8 rfl ?_)
    refine q0 I_87_68 (wi_ic_ge (fun h => ?_) (fun h => ?_))
    · replace H := H.1 h
      refine q1 (ls' := [(0, .ref 8), (1, .int x1), (2, .int x2), (5, .int x5)]) I_87_155 rfl (wi_aload_n _ rfl ?_)
      refine q0 I_87_156 (wi_get (.ref 90) S_8 rfl (by decide) rfl ?_)
      refine q0 I_87_159 (wi_iload_n _ rfl ?_)
      have hb23 := H.1
      replace H := H.2
      refine q0 I_87_160 (wi_aaload (e := 2) (91 + x1.toNatClampNeg) S_90 hb23 (by decide) (K_90 hb23) ?_)
      refine q0 I_87_161 (wi_iload_n _ rfl ?_)
      refine q0 I_87_162 (wi_iload _ rfl ?_)
      have hb24 := H.1
      replace H := H.2
      refine q0 I_87_164 (wi_iastore (x2.toNatClampNeg) (G_90 hb23) hb24 rfl ?_)
      refine q1 (ls' := [(0, .ref 8), (1, .int x1), (2, .int x2)]) I_87_165 rfl (wi_iinc 1 [(0, .ref 8), (1, .int x1), (2, .int (x2 + 1))] rfl (lt_e X_87 rfl) rfl rfl ?_)
      refine q0 I_87_168 (wi_goto ?_)
      exact Wq_c I_87_2 rfl rfl H
    · replace H := H.2 h
      refine q1 (ls' := [(0, .ref 8), (1, .int x1), (2, .int x2), (3, .int x3), (4, .int x4), (5, .int x5), (6, .int x6)]) I_87_71 rfl (wi_aload_n _ rfl ?_)
      refine q0 I_87_72 (wi_get (.ref 9) S_8 rfl (by decide) rfl ?_)
      refine q0 I_87_75 (wi_iload_n _ rfl ?_)
      have hb25 := H.1
      replace H := H.2
      refine q0 I_87_76 (wi_aaload (e := 2) (10 + x1.toNatClampNeg) S_9 hb25 (by decide) (K_9 hb25) ?_)
      refine q0 I_87_77 (wi_iload _ rfl ?_)
      have hb26 := H.1
      replace H := H.2
      refine q0 I_87_79 (wi_iaload (x6.toNatClampNeg) (G_9 hb25) hb26 rfl ?_)
      refine q0 I_87_80 (wi_iload_n _ rfl ?_)
      refine q0 I_87_81 (wi_ic_lt (fun h => ?_) (fun h => ?_))
      · replace H := H.1 h
        refine q1 (ls' := [(0, .ref 8), (1, .int x1), (2, .int x2), (3, .int x3), (4, .int x4), (5, .int x5), (6, .int x6)]) I_87_106 rfl (wi_iconst 0 rfl ?_)
        refine q1 (ls' := [(0, .ref 8), (1, .int x1), (2, .int x2), (3, .int x3), (4, .int x4), (5, .int x5), (6, .int x6)]) I_87_107 rfl (wi_istore [(0, .ref 8), (1, .int x1), (2, .int x2), (3, .int x3), (4, .int x4), (5, .int x5), (6, .int x6), (7, .int 0)] (lt_e X_87 rfl) rfl ?_)
        refine q0 I_87_109 (wi_aload_n _ rfl ?_)
        refine q0 I_87_110 (wi_get (.ref 63) S_8 rfl (by decide) rfl ?_)
        refine q0 I_87_113 (wi_iload_n _ rfl ?_)
        refine q0 I_87_114 (wi_aaload (e := 2) (64 + x1.toNatClampNeg) S_63 hb25 (by decide) (K_63 hb25) ?_)
        refine q0 I_87_115 (wi_iload _ rfl ?_)
        refine q0 I_87_117 (wi_iaload (x6.toNatClampNeg) (G_63 hb25) hb26 rfl ?_)
        refine q0 I_87_118 (wi_if_le (fun h => ?_) (fun h => ?_))
        · replace H := H.1 h
          refine q1 (ls' := [(0, .ref 8), (1, .int x1), (2, .int x2), (3, .int x3), (4, .int x4), (5, .int x5), (6, .int x6)]) I_87_149 rfl (wi_iinc 1 [(0, .ref 8), (1, .int x1), (2, .int x2), (3, .int x3), (4, .int x4), (5, .int x5), (6, .int (x6 + 1))] rfl (lt_e X_87 rfl) rfl rfl ?_)
          refine q0 I_87_152 (wi_goto ?_)
          exact Wq_c I_87_52 rfl rfl H
        · replace H := H.2 h
          refine q1 (ls' := [(0, .ref 8), (1, .int x1), (2, .int x2), (3, .int x3), (4, .int x4), (5, .int x5), (6, .int x6), (7, .int 0)]) I_87_121 rfl (wi_iload _ rfl ?_)
          refine q0 I_87_123 (wi_ifT rfl ?_)
          refine q1 (ls' := [(0, .ref 8), (1, .int x1), (2, .int x2), (3, .int x3), (4, .int x4), (5, .int x5), (6, .int x6)]) I_87_149 rfl (wi_iinc 1 [(0, .ref 8), (1, .int x1), (2, .int x2), (3, .int x3), (4, .int x4), (5, .int x5), (6, .int (x6 + 1))] rfl (lt_e X_87 rfl) rfl rfl ?_)
          refine q0 I_87_152 (wi_goto ?_)
          exact Wq_c I_87_52 rfl rfl H
      · replace H := H.2 h
        refine q1 (ls' := [(0, .ref 8), (1, .int x1), (2, .int x2), (3, .int x3), (4, .int x4), (5, .int x5), (6, .int x6)]) I_87_84 rfl (wi_aload_n _ rfl ?_)
        refine q0 I_87_85 (wi_get (.ref 9) S_8 rfl (by decide) rfl ?_)
        refine q0 I_87_88 (wi_iload_n _ rfl ?_)
        refine q0 I_87_89 (wi_aaload (e := 2) (10 + x1.toNatClampNeg) S_9 hb25 (by decide) (K_9 hb25) ?_)
        refine q0 I_87_90 (wi_iload _ rfl ?_)
        refine q0 I_87_92 (wi_iaload (x6.toNatClampNeg) (G_9 hb25) hb26 rfl ?_)
        refine q0 I_87_93 (wi_iload_n _ rfl ?_)
        refine q0 I_87_94 (wi_aload_n _ rfl ?_)
        refine q0 I_87_95 (wi_getI S_8 rfl (by decide) rfl ?_)
        refine q0 I_87_98 (wi_iadd ?_)
        refine q0 I_87_99 (wi_ic_gt (fun h => ?_) (fun h => ?_))
        · replace H := H.1 h
          refine q1 (ls' := [(0, .ref 8), (1, .int x1), (2, .int x2), (3, .int x3), (4, .int x4), (5, .int x5), (6, .int x6)]) I_87_106 rfl (wi_iconst 0 rfl ?_)
          refine q1 (ls' := [(0, .ref 8), (1, .int x1), (2, .int x2), (3, .int x3), (4, .int x4), (5, .int x5), (6, .int x6)]) I_87_107 rfl (wi_istore [(0, .ref 8), (1, .int x1), (2, .int x2), (3, .int x3), (4, .int x4), (5, .int x5), (6, .int x6), (7, .int 0)] (lt_e X_87 rfl) rfl ?_)
          refine q0 I_87_109 (wi_aload_n _ rfl ?_)
          refine q0 I_87_110 (wi_get (.ref 63) S_8 rfl (by decide) rfl ?_)
          refine q0 I_87_113 (wi_iload_n _ rfl ?_)
          refine q0 I_87_114 (wi_aaload (e := 2) (64 + x1.toNatClampNeg) S_63 hb25 (by decide) (K_63 hb25) ?_)
          refine q0 I_87_115 (wi_iload _ rfl ?_)
          refine q0 I_87_117 (wi_iaload (x6.toNatClampNeg) (G_63 hb25) hb26 rfl ?_)
          refine q0 I_87_118 (wi_if_le (fun h => ?_) (fun h => ?_))
          · replace H := H.1 h
            refine q1 (ls' := [(0, .ref 8), (1, .int x1), (2, .int x2), (3, .int x3), (4, .int x4), (5, .int x5), (6, .int x6)]) I_87_149 rfl (wi_iinc 1 [(0, .ref 8), (1, .int x1), (2, .int x2), (3, .int x3), (4, .int x4), (5, .int x5), (6, .int (x6 + 1))] rfl (lt_e X_87 rfl) rfl rfl ?_)
            refine q0 I_87_152 (wi_goto ?_)
            exact Wq_c I_87_52 rfl rfl H
          · replace H := H.2 h
            refine q1 (ls' := [(0, .ref 8), (1, .int x1), (2, .int x2), (3, .int x3), (4, .int x4), (5, .int x5), (6, .int x6), (7, .int 0)]) I_87_121 rfl (wi_iload _ rfl ?_)
            refine q0 I_87_123 (wi_ifT rfl ?_)
            refine q1 (ls' := [(0, .ref 8), (1, .int x1), (2, .int x2), (3, .int x3), (4, .int x4), (5, .int x5), (6, .int x6)]) I_87_149 rfl (wi_iinc 1 [(0, .ref 8), (1, .int x1), (2, .int x2), (3, .int x3), (4, .int x4), (5, .int x5), (6, .int (x6 + 1))] rfl (lt_e X_87 rfl) rfl rfl ?_)
            refine q0 I_87_152 (wi_goto ?_)
            exact Wq_c I_87_52 rfl rfl H
        · replace H := H.2 h
          refine q1 (ls' := [(0, .ref 8), (1, .int x1), (2, .int x2), (3, .int x3), (4, .int x4), (5, .int x5), (6, .int x6)]) I_87_102 rfl (wi_iconst 1 rfl ?_)
          refine q0 I_87_103 (wi_goto ?_)
          refine q1 (ls' := [(0, .ref 8), (1, .int x1), (2, .int x2), (3, .int x3), (4, .int x4), (5, .int x5), (6, .int x6)]) I_87_107 rfl (wi_istore [(0, .ref 8), (1, .int x1), (2, .int x2), (3, .int x3), (4, .int x4), (5, .int x5), (6, .int x6), (7, .int 1)] (lt_e X_87 rfl) rfl ?_)
          refine q0 I_87_109 (wi_aload_n _ rfl ?_)
          refine q0 I_87_110 (wi_get (.ref 63) S_8 rfl (by decide) rfl ?_)
          refine q0 I_87_113 (wi_iload_n _ rfl ?_)
          refine q0 I_87_114 (wi_aaload (e := 2) (64 + x1.toNatClampNeg) S_63 hb25 (by decide) (K_63 hb25) ?_)
          refine q0 I_87_115 (wi_iload _ rfl ?_)
          refine q0 I_87_117 (wi_iaload (x6.toNatClampNeg) (G_63 hb25) hb26 rfl ?_)
          refine q0 I_87_118 (wi_if_le (fun h => ?_) (fun h => ?_))
          · replace H := H.1 h
            refine q1 (ls' := [(0, .ref 8), (1, .int x1), (2, .int x2), (3, .int x3), (4, .int x4), (5, .int x5), (6, .int x6)]) I_87_149 rfl (wi_iinc 1 [(0, .ref 8), (1, .int x1), (2, .int x2), (3, .int x3), (4, .int x4), (5, .int x5), (6, .int (x6 + 1))] rfl (lt_e X_87 rfl) rfl rfl ?_)
            refine q0 I_87_152 (wi_goto ?_)
            exact Wq_c I_87_52 rfl rfl H
          · replace H := H.2 h
            refine q1 (ls' := [(0, .ref 8), (1, .int x1), (2, .int x2), (3, .int x3), (4, .int x4), (5, .int x5), (6, .int x6), (7, .int 1)]) I_87_121 rfl (wi_iload _ rfl ?_)
            refine q0 I_87_123 (wi_ifF rfl ?_)
            refine q1 (ls' := [(0, .ref 8), (1, .int x1), (2, .int x2), (3, .int x3), (4, .int x4), (5, .int x5), (6, .int x6)]) I_87_126 rfl (wi_aload_n _ rfl ?_)
            refine q0 I_87_127 (wi_get (.ref 36) S_8 rfl (by decide) rfl ?_)
            refine q0 I_87_130 (wi_iload_n _ rfl ?_)
            refine q0 I_87_131 (wi_aaload (e := 2) (37 + x1.toNatClampNeg) S_36 hb25 (by decide) (K_36 hb25) ?_)
            refine q0 I_87_132 (wi_iload _ rfl ?_)
            refine q0 I_87_134 (wi_iaload (x6.toNatClampNeg) (G_36 hb25) hb26 rfl ?_)
            refine q0 I_87_135 (wi_iload _ rfl ?_)
            refine q0 I_87_137 (wi_ic_lt (fun h => ?_) (fun h => ?_))
            · replace H := H.1 h
              refine q1 (ls' := [(0, .ref 8), (1, .int x1), (2, .int x2), (3, .int x3), (4, .int x4), (5, .int x5), (6, .int x6)]) I_87_149 rfl (wi_iinc 1 [(0, .ref 8), (1, .int x1), (2, .int x2), (3, .int x3), (4, .int x4), (5, .int x5), (6, .int (x6 + 1))] rfl (lt_e X_87 rfl) rfl rfl ?_)
              refine q0 I_87_152 (wi_goto ?_)
              exact Wq_c I_87_52 rfl rfl H
            · replace H := H.2 h
              refine q1 (ls' := [(0, .ref 8), (1, .int x1), (2, .int x2), (3, .int x3), (4, .int x4), (5, .int x5), (6, .int x6)]) I_87_140 rfl (wi_iload _ rfl ?_)
              refine q0 I_87_142 (wi_iconst 1 rfl ?_)
              refine q0 I_87_143 (wi_iload _ rfl ?_)
              refine q0 I_87_145 (wi_ishl ?_)
              refine q0 I_87_146 (wi_ior ?_)
              refine q0 I_87_147 (wi_istore [(0, .ref 8), (1, .int x1), (2, .int x2), (3, .int x3), (4, .int x4), (5, .int (x5 ||| ((1 : Int32) <<< (x6 &&& 31)))), (6, .int x6)] (lt_e X_87 rfl) rfl ?_)
              refine q1 (ls' := [(0, .ref 8), (1, .int x1), (2, .int x2), (3, .int x3), (4, .int x4), (5, .int (x5 ||| ((1 : Int32) <<< (x6 &&& 31)))), (6, .int x6)]) I_87_149 rfl (wi_iinc 1 [(0, .ref 8), (1, .int x1), (2, .int x2), (3, .int x3), (4, .int x4), (5, .int (x5 ||| ((1 : Int32) <<< (x6 &&& 31)))), (6, .int (x6 + 1))] rfl (lt_e X_87 rfl) rfl rfl ?_)
              refine q0 I_87_152 (wi_goto ?_)
              exact Wq_c I_87_52 rfl rfl H
theorem r_88 {a1 : Int32} {di : tDi} {dl : tDl} {K : Int32 → tDi → tDl → Prop} (H : ((¬ (di 8 9) = 0 → (Wq none 2 88 46 [(0, .ref 8), (1, .int a1), (2, .int 0), (3, .int 9)] [] di dl (RI K))) ∧ ((di 8 9) = 0 → (Wq none 2 88 11 [(0, .ref 8), (1, .int a1), (2, .int 0), (3, .int 0)] [] di dl (RI K))))) : ClI 2 88 [.ref 8, .int a1] di dl K := by
  refine Cl_of C_88 Z_88 [(0, .ref 8), (1, .int a1)] rfl ?_
  refine q0 I_88_0 (wi_iconst 0 rfl ?_)
  refine q0 I_88_1 (wi_istore_n [(0, .ref 8), (1, .int a1), (2, .int 0)] (lt_e X_88 rfl) rfl ?_)
  refine q0 I_88_2 (wi_aload_n _ rfl ?_)
  refine q0 I_88_3 (wi_getI S_8 rfl (by decide) rfl ?_)
  refine q0 I_88_6 (wi_if_ne (fun h => ?_) (fun h => ?_))
  · replace H := H.1 h
    refine q1 (ls' := [(0, .ref 8), (1, .int a1), (2, .int 0)]) I_88_43 rfl (wi_bipush 9 rfl ?_)
    refine q0 I_88_45 (wi_istore_n [(0, .ref 8), (1, .int a1), (2, .int 0), (3, .int 9)] (lt_e X_88 rfl) rfl ?_)
    exact Wq_c I_88_46 rfl rfl H
  · replace H := H.2 h
    refine q1 (ls' := [(0, .ref 8), (1, .int a1), (2, .int 0)]) I_88_9 rfl (wi_iconst 0 rfl ?_)
    refine q0 I_88_10 (wi_istore_n [(0, .ref 8), (1, .int a1), (2, .int 0), (3, .int 0)] (lt_e X_88 rfl) rfl ?_)
    exact Wq_c I_88_11 rfl rfl H
theorem r_88_46 {x1 : Int32} {x2 : Int32} {x3 : Int32} {di : tDi} {dl : tDl} {K : Int32 → tDi → tDl → Prop} (H : ((x3 < 1 → (ClI 0 219 [.int x2] di dl (fun r21 di21 dl21 => (K r21 di21 dl21)))) ∧ (1 ≤ x3 → (Wq none 2 88 54 [(0, .ref 8), (1, .int x1), (2, .int x2), (3, .int x3), (4, .int 0)] [] di dl (RI K))))) : Wq none 2 88 46 [(0, .ref 8), (1, .int x1), (2, .int x2), (3, .int x3)] [] di dl (RI K) := by
  refine q1 (ls' := [(0, .ref 8), (1, .int x1), (2, .int x2), (3, .int x3)]) I_88_46 rfl (wi_iload_n _ rfl ?_)
  refine q0 I_88_47 (wi_iconst 1 rfl ?_)
  refine q0 I_88_48 (wi_ic_lt (fun h => ?_) (fun h => ?_))
  · replace H := H.1 h
    refine q1 (ls' := [(2, .int x2)]) I_88_102 rfl (wi_iload_n _ rfl ?_)
    refine q0 I_88_103 (wi_statI (e := 0) [.int x2] [] rfl (Or.inl rfl) rfl rfl rfl (okC_i rfl rfl rfl) C_219 (by decide) (ClI_mono H ?_))
    intro r21 di21 dl21 H
    exact q0 I_88_106 (wi_iret T_88 C_88 ⟨_, rfl, H⟩)
  · replace H := H.2 h
    refine q1 (ls' := [(0, .ref 8), (1, .int x1), (2, .int x2), (3, .int x3)]) I_88_51 rfl (wi_iconst 0 rfl ?_)
    refine q0 I_88_52 (wi_istore [(0, .ref 8), (1, .int x1), (2, .int x2), (3, .int x3), (4, .int 0)] (lt_e X_88 rfl) rfl ?_)
    exact Wq_c I_88_54 rfl rfl H
theorem r_88_11 {x1 : Int32} {x2 : Int32} {x3 : Int32} {di : tDi} {dl : tDl} {K : Int32 → tDi → tDl → Prop} (H : (((di 1 4) ≤ x3 → (ClI 0 219 [.int x2] di dl (fun r21 di21 dl21 => (K r21 di21 dl21)))) ∧ (x3 < (di 1 4) → (ClI 1 89 [.ref 8, .int x1, .int x3, .int x2] di dl (fun r22 di22 dl22 => (Wq none 2 88 11 [(0, .ref 8), (1, .int x1), (2, .int (x2 ||| r22)), (3, .int (x3 + 1))] [] di22 dl22 (RI K))))))) : Wq none 2 88 11 [(0, .ref 8), (1, .int x1), (2, .int x2), (3, .int x3)] [] di dl (RI K) := by
  refine q1 (ls' := [(0, .ref 8), (1, .int x1), (2, .int x2), (3, .int x3)]) I_88_11 rfl (wi_iload_n _ rfl ?_)
  refine q0 I_88_12 (wi_aload_n _ rfl ?_)
  refine q0 I_88_13 (wi_get (.ref 1) S_8 rfl (by decide) rfl ?_)
  refine q0 I_88_16 (wi_getI S_1 rfl (by decide) rfl ?_)
  refine q0 I_88_19 (wi_ic_ge (fun h => ?_) (fun h => ?_))
  · replace H := H.1 h
    refine q1 (ls' := [(2, .int x2)]) I_88_38 rfl (wi_iload_n _ rfl ?_)
    refine q0 I_88_39 (wi_statI (e := 0) [.int x2] [] rfl (Or.inl rfl) rfl rfl rfl (okC_i rfl rfl rfl) C_219 (by decide) (ClI_mono H ?_))
    intro r21 di21 dl21 H
    exact q0 I_88_42 (wi_iret T_88 C_88 ⟨_, rfl, H⟩)
  · replace H := H.2 h
    refine q1 (ls' := [(0, .ref 8), (1, .int x1), (2, .int x2), (3, .int x3)]) I_88_22 rfl (wi_iload_n _ rfl ?_)
    refine q0 I_88_23 (wi_aload_n _ rfl ?_)
    refine q0 I_88_24 (wi_iload_n _ rfl ?_)
    refine q0 I_88_25 (wi_iload_n _ rfl ?_)
    refine q0 I_88_26 (wi_iload_n _ rfl ?_)
    refine q0 I_88_27 (wi_virtI (e := 1) [.int x1, .int x3, .int x2] [.int x2] S_8 rfl (by decide) rfl rfl rfl (okC_i rfl rfl rfl) C_89 (by decide) (ClI_mono H ?_))
    intro r22 di22 dl22 H
    refine q0 I_88_30 (wi_ior ?_)
    refine q0 I_88_31 (wi_istore_n [(0, .ref 8), (1, .int x1), (2, .int (x2 ||| r22)), (3, .int x3)] (lt_e X_88 rfl) rfl ?_)
    refine q0 I_88_32 (wi_iinc 1 [(0, .ref 8), (1, .int x1), (2, .int (x2 ||| r22)), (3, .int (x3 + 1))] rfl (lt_e X_88 rfl) rfl rfl ?_)
    refine q0 I_88_35 (wi_goto ?_)
    exact Wq_c I_88_11 rfl rfl H
theorem r_88_54 {x1 : Int32} {x2 : Int32} {x3 : Int32} {x4 : Int32} {di : tDi} {dl : tDl} {K : Int32 → tDi → tDl → Prop} (H : (((di 1 4) ≤ x4 → (Wq none 2 88 46 [(0, .ref 8), (1, .int x1), (2, .int x2), (3, .int (x3 + (-1)))] [] di dl (RI K))) ∧ (x4 < (di 1 4) → (ClI 1 47 [.ref 1, .int x4] di dl (fun r21 di21 dl21 => ((¬ r21 = x3 → (Wq none 2 88 54 [(0, .ref 8), (1, .int x1), (2, .int x2), (3, .int x3), (4, .int (x4 + 1))] [] di21 dl21 (RI K))) ∧ (r21 = x3 → (ClI 1 89 [.ref 8, .int x1, .int x4, .int x2] di21 dl21 (fun r22 di22 dl22 => (Wq none 2 88 54 [(0, .ref 8), (1, .int x1), (2, .int (x2 ||| r22)), (3, .int x3), (4, .int (x4 + 1))] [] di22 dl22 (RI K))))))))))) : Wq none 2 88 54 [(0, .ref 8), (1, .int x1), (2, .int x2), (3, .int x3), (4, .int x4)] [] di dl (RI K) := by
  refine q1 (ls' := [(0, .ref 8), (1, .int x1), (2, .int x2), (3, .int x3), (4, .int x4)]) I_88_54 rfl (wi_iload _ rfl ?_)
  refine q0 I_88_56 (wi_aload_n _ rfl ?_)
  refine q0 I_88_57 (wi_get (.ref 1) S_8 rfl (by decide) rfl ?_)
  refine q0 I_88_60 (wi_getI S_1 rfl (by decide) rfl ?_)
  refine q0 I_88_63 (wi_ic_ge (fun h => ?_) (fun h => ?_))
  · replace H := H.1 h
    refine q1 (ls' := [(0, .ref 8), (1, .int x1), (2, .int x2), (3, .int x3)]) I_88_96 rfl (wi_iinc (-1) [(0, .ref 8), (1, .int x1), (2, .int x2), (3, .int (x3 + (-1)))] rfl (lt_e X_88 rfl) rfl rfl ?_)
    refine q0 I_88_99 (wi_goto ?_)
    exact Wq_c I_88_46 rfl rfl H
  · replace H := H.2 h
    refine q1 (ls' := [(0, .ref 8), (1, .int x1), (2, .int x2), (3, .int x3), (4, .int x4)]) I_88_66 rfl (wi_aload_n _ rfl ?_)
    refine q0 I_88_67 (wi_get (.ref 1) S_8 rfl (by decide) rfl ?_)
    refine q0 I_88_70 (wi_iload _ rfl ?_)
    refine q0 I_88_72 (wi_virtI (e := 1) [.int x4] [] S_1 rfl (by decide) rfl rfl rfl (okC_i rfl rfl rfl) C_47 (by decide) (ClI_mono H ?_))
    intro r21 di21 dl21 H
    refine q0 I_88_75 (wi_iload_n _ rfl ?_)
    refine q0 I_88_76 (wi_ic_ne (fun h => ?_) (fun h => ?_))
    · replace H := H.1 h
      refine q1 (ls' := [(0, .ref 8), (1, .int x1), (2, .int x2), (3, .int x3), (4, .int x4)]) I_88_90 rfl (wi_iinc 1 [(0, .ref 8), (1, .int x1), (2, .int x2), (3, .int x3), (4, .int (x4 + 1))] rfl (lt_e X_88 rfl) rfl rfl ?_)
      refine q0 I_88_93 (wi_goto ?_)
      exact Wq_c I_88_54 rfl rfl H
    · replace H := H.2 h
      refine q1 (ls' := [(0, .ref 8), (1, .int x1), (2, .int x2), (3, .int x3), (4, .int x4)]) I_88_79 rfl (wi_iload_n _ rfl ?_)
      refine q0 I_88_80 (wi_aload_n _ rfl ?_)
      refine q0 I_88_81 (wi_iload_n _ rfl ?_)
      refine q0 I_88_82 (wi_iload _ rfl ?_)
      refine q0 I_88_84 (wi_iload_n _ rfl ?_)
      refine q0 I_88_85 (wi_virtI (e := 1) [.int x1, .int x4, .int x2] [.int x2] S_8 rfl (by decide) rfl rfl rfl (okC_i rfl rfl rfl) C_89 (by decide) (ClI_mono H ?_))
      intro r22 di22 dl22 H
      refine q0 I_88_88 (wi_ior ?_)
      refine q0 I_88_89 (wi_istore_n [(0, .ref 8), (1, .int x1), (2, .int (x2 ||| r22)), (3, .int x3), (4, .int x4)] (lt_e X_88 rfl) rfl ?_)
      refine q1 (ls' := [(0, .ref 8), (1, .int x1), (2, .int (x2 ||| r22)), (3, .int x3), (4, .int x4)]) I_88_90 rfl (wi_iinc 1 [(0, .ref 8), (1, .int x1), (2, .int (x2 ||| r22)), (3, .int x3), (4, .int (x4 + 1))] rfl (lt_e X_88 rfl) rfl rfl ?_)
      refine q0 I_88_93 (wi_goto ?_)
      exact Wq_c I_88_54 rfl rfl H
theorem r_89 {a1 : Int32} {a2 : Int32} {a3 : Int32} {di : tDi} {dl : tDl} {K : Int32 → tDi → tDl → Prop} (H : ((a1 < 0 → (K 0 di dl)) ∧ (0 ≤ a1 → ((26 ≤ a1 → (K 0 di dl)) ∧ (a1 < 26 → ((a2 < 0 → (K 0 di dl)) ∧ (0 ≤ a2 → ((8 ≤ a2 → (K 0 di dl)) ∧ (a2 < 8 → (inB a1 26 = true ∧ (inB a2 8 = true ∧ (Wq none 1 89 33 [(0, .ref 8), (1, .int a1), (2, .int a2), (4, .int (-1)), (5, .int 0), (6, .int ((di (91 + a1.toNatClampNeg) (a2.toNatClampNeg)) &&& (a3 ^^^ (-1)))), (7, .int 0)] [] di dl (RI K))))))))))))) : ClI 1 89 [.ref 8, .int a1, .int a2, .int a3] di dl K := by
  refine Cl_of C_89 Z_89 [(0, .ref 8), (1, .int a1), (2, .int a2), (3, .int a3)] rfl ?_
  refine q0 I_89_0 (wi_iload_n _ rfl ?_)
  refine q0 I_89_1 (wi_iload_n _ rfl ?_)
  refine q0 I_89_2 (wi_statI (e := 0) [.int a1, .int a2] [] rfl (Or.inl rfl) rfl rfl rfl (okC_i rfl rfl rfl) C_80 (by decide) (Cl_of C_80 Z_80 [(0, .int a1), (1, .int a2)] rfl ?_))
  refine q0 I_80_0 (wi_iload_n _ rfl ?_)
  refine q0 I_80_1 (wi_if_lt (fun h => ?_) (fun h => ?_))
  · replace H := H.1 h
    refine q1 (ls' := []) I_80_24 rfl (wi_iconst 0 rfl ?_)
    refine q1 (ls' := []) I_80_25 rfl (wi_zret T_80 (Or.inl C_80) (Or.inl rfl) ⟨_, rfl, ?_⟩)
    refine q0 I_89_5 (wi_ifF rfl ?_)
    refine q1 (ls' := []) I_89_8 rfl (wi_iconst 0 rfl ?_)
    exact q0 I_89_9 (wi_iret T_89 C_89 ⟨_, rfl, H⟩)
  · replace H := H.2 h
    refine q1 (ls' := [(0, .int a1), (1, .int a2)]) I_80_4 rfl (wi_iload_n _ rfl ?_)
    refine q0 I_80_5 (wi_bipush 26 rfl ?_)
    refine q0 I_80_7 (wi_ic_ge (fun h => ?_) (fun h => ?_))
    · replace H := H.1 h
      refine q1 (ls' := []) I_80_24 rfl (wi_iconst 0 rfl ?_)
      refine q1 (ls' := []) I_80_25 rfl (wi_zret T_80 (Or.inl C_80) (Or.inl rfl) ⟨_, rfl, ?_⟩)
      refine q0 I_89_5 (wi_ifF rfl ?_)
      refine q1 (ls' := []) I_89_8 rfl (wi_iconst 0 rfl ?_)
      exact q0 I_89_9 (wi_iret T_89 C_89 ⟨_, rfl, H⟩)
    · replace H := H.2 h
      refine q1 (ls' := [(1, .int a2)]) I_80_10 rfl (wi_iload_n _ rfl ?_)
      refine q0 I_80_11 (wi_if_lt (fun h => ?_) (fun h => ?_))
      · replace H := H.1 h
        refine q1 (ls' := []) I_80_24 rfl (wi_iconst 0 rfl ?_)
        refine q1 (ls' := []) I_80_25 rfl (wi_zret T_80 (Or.inl C_80) (Or.inl rfl) ⟨_, rfl, ?_⟩)
        refine q0 I_89_5 (wi_ifF rfl ?_)
        refine q1 (ls' := []) I_89_8 rfl (wi_iconst 0 rfl ?_)
        exact q0 I_89_9 (wi_iret T_89 C_89 ⟨_, rfl, H⟩)
      · replace H := H.2 h
        refine q1 (ls' := [(1, .int a2)]) I_80_14 rfl (wi_iload_n _ rfl ?_)
        refine q0 I_80_15 (wi_bipush 8 rfl ?_)
        refine q0 I_80_17 (wi_ic_ge (fun h => ?_) (fun h => ?_))
        · replace H := H.1 h
          refine q1 (ls' := []) I_80_24 rfl (wi_iconst 0 rfl ?_)
          refine q1 (ls' := []) I_80_25 rfl (wi_zret T_80 (Or.inl C_80) (Or.inl rfl) ⟨_, rfl, ?_⟩)
          refine q0 I_89_5 (wi_ifF rfl ?_)
          refine q1 (ls' := []) I_89_8 rfl (wi_iconst 0 rfl ?_)
          exact q0 I_89_9 (wi_iret T_89 C_89 ⟨_, rfl, H⟩)
        · replace H := H.2 h
          refine q1 (ls' := []) I_80_20 rfl (wi_iconst 1 rfl ?_)
          refine q0 I_80_21 (wi_goto ?_)
          refine q1 (ls' := []) I_80_25 rfl (wi_zret T_80 (Or.inl C_80) (Or.inr rfl) ⟨_, rfl, ?_⟩)
          refine q0 I_89_5 (wi_ifT rfl ?_)
          refine q1 (ls' := [(0, .ref 8), (1, .int a1), (2, .int a2), (3, .int a3)]) I_89_10 rfl (wi_iconst (-1) rfl ?_)
          refine q0 I_89_11 (wi_istore [(0, .ref 8), (1, .int a1), (2, .int a2), (3, .int a3), (4, .int (-1))] (lt_e X_89 rfl) rfl ?_)
          refine q0 I_89_13 (wi_iconst 0 rfl ?_)
          refine q0 I_89_14 (wi_istore [(0, .ref 8), (1, .int a1), (2, .int a2), (3, .int a3), (4, .int (-1)), (5, .int 0)] (lt_e X_89 rfl) rfl ?_)
          refine q0 I_89_16 (wi_aload_n _ rfl ?_)
          refine q0 I_89_17 (wi_get (.ref 90) S_8 rfl (by decide) rfl ?_)
          refine q0 I_89_20 (wi_iload_n _ rfl ?_)
          have hb1 := H.1
          replace H := H.2
          refine q0 I_89_21 (wi_aaload (e := 2) (91 + a1.toNatClampNeg) S_90 hb1 (by decide) (K_90 hb1) ?_)
          refine q0 I_89_22 (wi_iload_n _ rfl ?_)
          have hb2 := H.1
          replace H := H.2
          refine q0 I_89_23 (wi_iaload (a2.toNatClampNeg) (G_90 hb1) hb2 rfl ?_)
          refine q0 I_89_24 (wi_iload_n _ rfl ?_)
          refine q0 I_89_25 (wi_iconst (-1) rfl ?_)
          refine q0 I_89_26 (wi_ixor ?_)
          refine q0 I_89_27 (wi_iand ?_)
          refine q0 I_89_28 (wi_istore [(0, .ref 8), (1, .int a1), (2, .int a2), (3, .int a3), (4, .int (-1)), (5, .int 0), (6, .int ((di (91 + a1.toNatClampNeg) (a2.toNatClampNeg)) &&& (a3 ^^^ (-1))))] (lt_e X_89 rfl) rfl ?_)
          refine q0 I_89_30 (wi_iconst 0 rfl ?_)
          refine q0 I_89_31 (wi_istore [(0, .ref 8), (1, .int a1), (2, .int a2), (3, .int a3), (4, .int (-1)), (5, .int 0), (6, .int ((di (91 + a1.toNatClampNeg) (a2.toNatClampNeg)) &&& (a3 ^^^ (-1)))), (7, .int 0)] (lt_e X_89 rfl) rfl ?_)
          exact Wq_c I_89_33 rfl rfl H
theorem r_89_33 {x1 : Int32} {x2 : Int32} {x4 : Int32} {x5 : Int32} {x6 : Int32} {x7 : Int32} {di : tDi} {dl : tDl} {K : Int32 → tDi → tDl → Prop} (H : ((8 ≤ x7 → (inB x1 26 = true ∧ (inB x2 8 = true ∧ ((¬ x4 = (-1) → (K ((1 : Int32) <<< (x4 &&& 31)) (up2 di (118 + x1.toNatClampNeg) (x2.toNatClampNeg) x4) dl)) ∧ (x4 = (-1) → (K 0 (up2 di (118 + x1.toNatClampNeg) (x2.toNatClampNeg) x4) dl)))))) ∧ (x7 < 8 → ((((x6 >>> (x7 &&& 31)) &&& 1) = 0 → (Wq none 1 89 33 [(0, .ref 8), (1, .int x1), (2, .int x2), (4, .int x4), (5, .int x5), (6, .int x6), (7, .int (x7 + 1))] [] di dl (RI K))) ∧ (¬ ((x6 >>> (x7 &&& 31)) &&& 1) = 0 → ((x4 = (-1) → (inB x1 26 = true ∧ (inB x7 8 = true ∧ (Wq none 1 89 33 [(0, .ref 8), (1, .int x1), (2, .int x2), (4, .int x7), (5, .int (di (10 + x1.toNatClampNeg) (x7.toNatClampNeg))), (6, .int x6), (7, .int (x7 + 1))] [] di dl (RI K))))) ∧ (¬ x4 = (-1) → (inB x1 26 = true ∧ (inB x7 8 = true ∧ ((x5 ≤ (di (10 + x1.toNatClampNeg) (x7.toNatClampNeg)) → (Wq none 1 89 33 [(0, .ref 8), (1, .int x1), (2, .int x2), (4, .int x4), (5, .int x5), (6, .int x6), (7, .int (x7 + 1))] [] di dl (RI K))) ∧ ((di (10 + x1.toNatClampNeg) (x7.toNatClampNeg)) < x5 → (Wq none 1 89 33 [(0, .ref 8), (1, .int x1), (2, .int x2), (4, .int x7), (5, .int (di (10 + x1.toNatClampNeg) (x7.toNatClampNeg))), (6, .int x6), (7, .int (x7 + 1))] [] di dl (RI K))))))))))))) : Wq none 1 89 33 [(0, .ref 8), (1, .int x1), (2, .int x2), (4, .int x4), (5, .int x5), (6, .int x6), (7, .int x7)] [] di dl (RI K) := by
  refine q1 (ls' := [(0, .ref 8), (1, .int x1), (2, .int x2), (4, .int x4), (5, .int x5), (6, .int x6), (7, .int x7)]) I_89_33 rfl (wi_iload _ rfl ?_)
  refine q0 I_89_35 (wi_bipush 8 rfl ?_)
  refine q0 I_89_37 (wi_ic_ge (fun h => ?_) (fun h => ?_))
  · replace H := H.1 h
    refine q1 (ls' := [(0, .ref 8), (1, .int x1), (2, .int x2), (4, .int x4)]) I_89_91 rfl (wi_aload_n _ rfl ?_)
    refine q0 I_89_92 (wi_get (.ref 117) S_8 rfl (by decide) rfl ?_)
    refine q0 I_89_95 (wi_iload_n _ rfl ?_)
    have hb21 := H.1
    replace H := H.2
    refine q0 I_89_96 (wi_aaload (e := 2) (118 + x1.toNatClampNeg) S_117 hb21 (by decide) (K_117 hb21) ?_)
    refine q0 I_89_97 (wi_iload_n _ rfl ?_)
    refine q0 I_89_98 (wi_iload _ rfl ?_)
    have hb22 := H.1
    replace H := H.2
    refine q0 I_89_100 (wi_iastore (x2.toNatClampNeg) (G_117 hb21) hb22 rfl ?_)
    refine q0 I_89_101 (wi_iload _ rfl ?_)
    refine q0 I_89_103 (wi_iconst (-1) rfl ?_)
    refine q0 I_89_104 (wi_ic_ne (fun h => ?_) (fun h => ?_))
    · replace H := H.1 h
      refine q1 (ls' := [(4, .int x4)]) I_89_111 rfl (wi_iconst 1 rfl ?_)
      refine q0 I_89_112 (wi_iload _ rfl ?_)
      refine q0 I_89_114 (wi_ishl ?_)
      exact q1 (ls' := []) I_89_115 rfl (wi_iret T_89 C_89 ⟨_, rfl, H⟩)
    · replace H := H.2 h
      refine q1 (ls' := []) I_89_107 rfl (wi_iconst 0 rfl ?_)
      refine q0 I_89_108 (wi_goto ?_)
      exact q1 (ls' := []) I_89_115 rfl (wi_iret T_89 C_89 ⟨_, rfl, H⟩)
  · replace H := H.2 h
    refine q1 (ls' := [(0, .ref 8), (1, .int x1), (2, .int x2), (4, .int x4), (5, .int x5), (6, .int x6), (7, .int x7)]) I_89_40 rfl (wi_iload _ rfl ?_)
    refine q0 I_89_42 (wi_iload _ rfl ?_)
    refine q0 I_89_44 (wi_ishr ?_)
    refine q0 I_89_45 (wi_iconst 1 rfl ?_)
    refine q0 I_89_46 (wi_iand ?_)
    refine q0 I_89_47 (wi_if_eq (fun h => ?_) (fun h => ?_))
    · replace H := H.1 h
      refine q1 (ls' := [(0, .ref 8), (1, .int x1), (2, .int x2), (4, .int x4), (5, .int x5), (6, .int x6), (7, .int x7)]) I_89_85 rfl (wi_iinc 1 [(0, .ref 8), (1, .int x1), (2, .int x2), (4, .int x4), (5, .int x5), (6, .int x6), (7, .int (x7 + 1))] rfl (lt_e X_89 rfl) rfl rfl ?_)
      refine q0 I_89_88 (wi_goto ?_)
      exact Wq_c I_89_33 rfl rfl H
    · replace H := H.2 h
      refine q1 (ls' := [(0, .ref 8), (1, .int x1), (2, .int x2), (4, .int x4), (5, .int x5), (6, .int x6), (7, .int x7)]) I_89_50 rfl (wi_iload _ rfl ?_)
      refine q0 I_89_52 (wi_iconst (-1) rfl ?_)
      refine q0 I_89_53 (wi_ic_eq (fun h => ?_) (fun h => ?_))
      · replace H := H.1 h
        refine q1 (ls' := [(0, .ref 8), (1, .int x1), (2, .int x2), (6, .int x6), (7, .int x7)]) I_89_70 rfl (wi_iload _ rfl ?_)
        refine q0 I_89_72 (wi_istore [(0, .ref 8), (1, .int x1), (2, .int x2), (4, .int x7), (6, .int x6), (7, .int x7)] (lt_e X_89 rfl) rfl ?_)
        refine q0 I_89_74 (wi_aload_n _ rfl ?_)
        refine q0 I_89_75 (wi_get (.ref 9) S_8 rfl (by decide) rfl ?_)
        refine q0 I_89_78 (wi_iload_n _ rfl ?_)
        have hb23 := H.1
        replace H := H.2
        refine q0 I_89_79 (wi_aaload (e := 2) (10 + x1.toNatClampNeg) S_9 hb23 (by decide) (K_9 hb23) ?_)
        refine q0 I_89_80 (wi_iload _ rfl ?_)
        have hb24 := H.1
        replace H := H.2
        refine q0 I_89_82 (wi_iaload (x7.toNatClampNeg) (G_9 hb23) hb24 rfl ?_)
        refine q0 I_89_83 (wi_istore [(0, .ref 8), (1, .int x1), (2, .int x2), (4, .int x7), (5, .int (di (10 + x1.toNatClampNeg) (x7.toNatClampNeg))), (6, .int x6), (7, .int x7)] (lt_e X_89 rfl) rfl ?_)
        refine q1 (ls' := [(0, .ref 8), (1, .int x1), (2, .int x2), (4, .int x7), (5, .int (di (10 + x1.toNatClampNeg) (x7.toNatClampNeg))), (6, .int x6), (7, .int x7)]) I_89_85 rfl (wi_iinc 1 [(0, .ref 8), (1, .int x1), (2, .int x2), (4, .int x7), (5, .int (di (10 + x1.toNatClampNeg) (x7.toNatClampNeg))), (6, .int x6), (7, .int (x7 + 1))] rfl (lt_e X_89 rfl) rfl rfl ?_)
        refine q0 I_89_88 (wi_goto ?_)
        exact Wq_c I_89_33 rfl rfl H
      · replace H := H.2 h
        refine q1 (ls' := [(0, .ref 8), (1, .int x1), (2, .int x2), (4, .int x4), (5, .int x5), (6, .int x6), (7, .int x7)]) I_89_56 rfl (wi_aload_n _ rfl ?_)
        refine q0 I_89_57 (wi_get (.ref 9) S_8 rfl (by decide) rfl ?_)
        refine q0 I_89_60 (wi_iload_n _ rfl ?_)
        have hb25 := H.1
        replace H := H.2
        refine q0 I_89_61 (wi_aaload (e := 2) (10 + x1.toNatClampNeg) S_9 hb25 (by decide) (K_9 hb25) ?_)
        refine q0 I_89_62 (wi_iload _ rfl ?_)
        have hb26 := H.1
        replace H := H.2
        refine q0 I_89_64 (wi_iaload (x7.toNatClampNeg) (G_9 hb25) hb26 rfl ?_)
        refine q0 I_89_65 (wi_iload _ rfl ?_)
        refine q0 I_89_67 (wi_ic_ge (fun h => ?_) (fun h => ?_))
        · replace H := H.1 h
          refine q1 (ls' := [(0, .ref 8), (1, .int x1), (2, .int x2), (4, .int x4), (5, .int x5), (6, .int x6), (7, .int x7)]) I_89_85 rfl (wi_iinc 1 [(0, .ref 8), (1, .int x1), (2, .int x2), (4, .int x4), (5, .int x5), (6, .int x6), (7, .int (x7 + 1))] rfl (lt_e X_89 rfl) rfl rfl ?_)
          refine q0 I_89_88 (wi_goto ?_)
          exact Wq_c I_89_33 rfl rfl H
        · replace H := H.2 h
          refine q1 (ls' := [(0, .ref 8), (1, .int x1), (2, .int x2), (6, .int x6), (7, .int x7)]) I_89_70 rfl (wi_iload _ rfl ?_)
          refine q0 I_89_72 (wi_istore [(0, .ref 8), (1, .int x1), (2, .int x2), (4, .int x7), (6, .int x6), (7, .int x7)] (lt_e X_89 rfl) rfl ?_)
          refine q0 I_89_74 (wi_aload_n _ rfl ?_)
          refine q0 I_89_75 (wi_get (.ref 9) S_8 rfl (by decide) rfl ?_)
          refine q0 I_89_78 (wi_iload_n _ rfl ?_)
          refine q0 I_89_79 (wi_aaload (e := 2) (10 + x1.toNatClampNeg) S_9 hb25 (by decide) (K_9 hb25) ?_)
          refine q0 I_89_80 (wi_iload _ rfl ?_)
          refine q0 I_89_82 (wi_iaload (x7.toNatClampNeg) (G_9 hb25) hb26 rfl ?_)
          refine q0 I_89_83 (wi_istore [(0, .ref 8), (1, .int x1), (2, .int x2), (4, .int x7), (5, .int (di (10 + x1.toNatClampNeg) (x7.toNatClampNeg))), (6, .int x6), (7, .int x7)] (lt_e X_89 rfl) rfl ?_)
          refine q1 (ls' := [(0, .ref 8), (1, .int x1), (2, .int x2), (4, .int x7), (5, .int (di (10 + x1.toNatClampNeg) (x7.toNatClampNeg))), (6, .int x6), (7, .int x7)]) I_89_85 rfl (wi_iinc 1 [(0, .ref 8), (1, .int x1), (2, .int x2), (4, .int x7), (5, .int (di (10 + x1.toNatClampNeg) (x7.toNatClampNeg))), (6, .int x6), (7, .int (x7 + 1))] rfl (lt_e X_89 rfl) rfl rfl ?_)
          refine q0 I_89_88 (wi_goto ?_)
          exact Wq_c I_89_33 rfl rfl H
theorem r_91 {a1 : Int32} {a2 : Int32} {di : tDi} {dl : tDl} {K : Int32 → tDi → tDl → Prop} (H : ((a1 < 0 → (K (-2) di dl)) ∧ (0 ≤ a1 → ((3 ≤ a1 → (K (-2) di dl)) ∧ (a1 < 3 → (inB a1 3 = true ∧ ((a1 = 0 → ((a2 < 0 → (K (-2) di dl)) ∧ (0 ≤ a2 → ((a2 ≤ 255 → (((di 1 1) ≤ (di 1 2) → (K (-4) di dl)) ∧ ((di 1 2) < (di 1 1) → (((di 1 2) < 47 → (ClV 4 54 [.ref 1, .int a2] di dl (fun di2 dl2 => (K (di2 1 2) (up2 di2 8 10 1) dl2)))) ∧ (47 ≤ (di 1 2) → (K (-4) di dl)))))) ∧ (255 < a2 → (K (-2) di dl)))))) ∧ (a1 = 1 → ((a2 < 0 → (K (-2) di dl)) ∧ (0 ≤ a2 → ((a2 ≤ 255 → (((di 3 1) ≤ (di 3 2) → (K (-4) di dl)) ∧ ((di 3 2) < (di 3 1) → (((di 3 2) < 47 → (ClV 4 54 [.ref 3, .int a2] di dl (fun di3 dl3 => (K (di3 3 2) (up2 di3 8 10 1) dl3)))) ∧ (47 ≤ (di 3 2) → (K (-4) di dl)))))) ∧ (255 < a2 → (K (-2) di dl)))))) ∧ (a1 = 2 → ((a2 < 0 → (K (-2) di dl)) ∧ (0 ≤ a2 → ((a2 ≤ 255 → (((di 5 1) ≤ (di 5 2) → (K (-4) di dl)) ∧ ((di 5 2) < (di 5 1) → (((di 5 2) < 47 → (ClV 4 54 [.ref 5, .int a2] di dl (fun di4 dl4 => (K (di4 5 2) (up2 di4 8 10 1) dl4)))) ∧ (47 ≤ (di 5 2) → (K (-4) di dl)))))) ∧ (255 < a2 → (K (-2) di dl))))))))))))) : ClI 5 91 [.ref 0, .int a1, .int a2] di dl K := by
  refine Cl_of C_91 Z_91 [(0, .ref 0), (1, .int a1), (2, .int a2)] rfl ?_
  refine q0 I_91_0 (wi_aload_n _ rfl ?_)
  refine q0 I_91_1 (wi_iload_n _ rfl ?_)
  refine q0 I_91_2 (wi_virtR (e := 4) [.int a1] [] S_0 rfl (by decide) rfl rfl rfl (okC_i rfl rfl rfl) C_126 (by decide) (Cl_of C_126 Z_126 [(0, .ref 0), (1, .int a1)] rfl ?_))
  refine q0 I_126_0 (wi_iload_n _ rfl ?_)
  refine q0 I_126_1 (wi_if_lt (fun h => ?_) (fun h => ?_))
  · replace H := H.1 h
    refine q1 (ls' := []) I_126_22 rfl (wi_null ?_)
    refine q1 (ls' := []) I_126_23 rfl (wi_nret T_126 C_126 ⟨_, rfl, ?_⟩)
    refine q0 I_91_5 (wi_astore_nN [(0, .ref 0), (1, .int a1), (2, .int a2), (3, .null)] (lt_e X_91 rfl) rfl ?_)
    refine q0 I_91_6 (wi_aload_nN rfl ?_)
    refine q0 I_91_7 (wi_ifnullN ?_)
    refine q1 (ls' := []) I_91_21 rfl (wi_bipush (-2) rfl ?_)
    exact q0 I_91_23 (wi_iret T_91 C_91 ⟨_, rfl, H⟩)
  · replace H := H.2 h
    refine q1 (ls' := [(0, .ref 0), (1, .int a1)]) I_126_4 rfl (wi_iload_n _ rfl ?_)
    refine q0 I_126_5 (wi_aload_n _ rfl ?_)
    refine q0 I_126_6 (wi_get (.ref 7) S_0 rfl (by decide) rfl ?_)
    refine q0 I_126_9 (wi_alen 3 S_7 (by decide) rfl ?_)
    refine q0 I_126_10 (wi_ic_ge (fun h => ?_) (fun h => ?_))
    · replace H := H.1 h
      refine q1 (ls' := []) I_126_22 rfl (wi_null ?_)
      refine q1 (ls' := []) I_126_23 rfl (wi_nret T_126 C_126 ⟨_, rfl, ?_⟩)
      refine q0 I_91_5 (wi_astore_nN [(0, .ref 0), (1, .int a1), (2, .int a2), (3, .null)] (lt_e X_91 rfl) rfl ?_)
      refine q0 I_91_6 (wi_aload_nN rfl ?_)
      refine q0 I_91_7 (wi_ifnullN ?_)
      refine q1 (ls' := []) I_91_21 rfl (wi_bipush (-2) rfl ?_)
      exact q0 I_91_23 (wi_iret T_91 C_91 ⟨_, rfl, H⟩)
    · replace H := H.2 h
      refine q1 (ls' := [(0, .ref 0), (1, .int a1)]) I_126_13 rfl (wi_aload_n _ rfl ?_)
      refine q0 I_126_14 (wi_get (.ref 7) S_0 rfl (by decide) rfl ?_)
      refine q0 I_126_17 (wi_iload_n _ rfl ?_)
      have hb1 := H.1
      replace H := H.2
      refine q0 I_126_18 (wi_aatext hb1 (fun h => ?_) (fun h => ?_) (fun h => ?_))
      · replace H := H.1 h
        refine q0 I_126_19 (wi_goto ?_)
        refine q1 (ls' := []) I_126_23 rfl (wi_aret T_126 C_126 ⟨_, rfl, ?_⟩)
        refine q0 I_91_5 (wi_astore_n [(0, .ref 0), (1, .int a1), (2, .int a2), (3, .ref 1)] (lt_e X_91 rfl) rfl ?_)
        refine q0 I_91_6 (wi_aload_n _ rfl ?_)
        refine q0 I_91_7 (wi_ifnullR ?_)
        refine q1 (ls' := [(0, .ref 0), (2, .int a2), (3, .ref 1)]) I_91_10 rfl (wi_iload_n _ rfl ?_)
        refine q0 I_91_11 (wi_if_lt (fun h => ?_) (fun h => ?_))
        · replace H := H.1 h
          refine q1 (ls' := []) I_91_21 rfl (wi_bipush (-2) rfl ?_)
          exact q0 I_91_23 (wi_iret T_91 C_91 ⟨_, rfl, H⟩)
        · replace H := H.2 h
          refine q1 (ls' := [(0, .ref 0), (2, .int a2), (3, .ref 1)]) I_91_14 rfl (wi_iload_n _ rfl ?_)
          refine q0 I_91_15 (wi_sipush 255 rfl ?_)
          refine q0 I_91_18 (wi_ic_le (fun h => ?_) (fun h => ?_))
          · replace H := H.1 h
            refine q1 (ls' := [(0, .ref 0), (2, .int a2), (3, .ref 1)]) I_91_24 rfl (wi_aload_n _ rfl ?_)
            refine q0 I_91_25 (wi_virtI (e := 4) [] [] S_1 rfl (by decide) rfl rfl rfl (okC_i rfl rfl rfl) C_52 (by decide) (Cl_of C_52 Z_52 [(0, .ref 1)] rfl ?_))
            refine q0 I_52_0 (wi_aload_n _ rfl ?_)
            refine q0 I_52_1 (wi_getI S_1 rfl (by decide) rfl ?_)
            refine q0 I_52_4 (wi_aload_n _ rfl ?_)
            refine q0 I_52_5 (wi_getI S_1 rfl (by decide) rfl ?_)
            refine q0 I_52_8 (wi_ic_ge (fun h => ?_) (fun h => ?_))
            · replace H := H.1 h
              refine q1 (ls' := []) I_52_23 rfl (wi_iconst 1 rfl ?_)
              refine q0 I_52_24 (wi_goto ?_)
              refine q1 (ls' := []) I_52_28 rfl (wi_zret T_52 (Or.inl C_52) (Or.inr rfl) ⟨_, rfl, ?_⟩)
              refine q0 I_91_28 (wi_ifF rfl ?_)
              refine q1 (ls' := []) I_91_31 rfl (wi_bipush (-4) rfl ?_)
              exact q0 I_91_33 (wi_iret T_91 C_91 ⟨_, rfl, H⟩)
            · replace H := H.2 h
              refine q1 (ls' := [(0, .ref 1)]) I_52_11 rfl (wi_aload_n _ rfl ?_)
              refine q0 I_52_12 (wi_getI S_1 rfl (by decide) rfl ?_)
              refine q0 I_52_15 (wi_aload_n _ rfl ?_)
              refine q0 I_52_16 (wi_get (.ref 2) S_1 rfl (by decide) rfl ?_)
              refine q0 I_52_19 (wi_alen 47 S_2 (by decide) rfl ?_)
              refine q0 I_52_20 (wi_ic_lt (fun h => ?_) (fun h => ?_))
              · replace H := H.1 h
                refine q1 (ls' := []) I_52_27 rfl (wi_iconst 0 rfl ?_)
                refine q1 (ls' := []) I_52_28 rfl (wi_zret T_52 (Or.inl C_52) (Or.inl rfl) ⟨_, rfl, ?_⟩)
                refine q0 I_91_28 (wi_ifT rfl ?_)
                refine q1 (ls' := [(0, .ref 0), (2, .int a2), (3, .ref 1)]) I_91_34 rfl (wi_aload_n _ rfl ?_)
                refine q0 I_91_35 (wi_iload_n _ rfl ?_)
                refine q0 I_91_36 (wi_virtV (e := 4) [.int a2] [] S_1 rfl (by decide) rfl rfl rfl (okC_i rfl rfl rfl) C_54 (by decide) (ClV_mono H ?_))
                intro di2 dl2 H
                refine q0 I_91_39 (wi_aload_n _ rfl ?_)
                refine q0 I_91_40 (wi_get (.ref 8) S_0 rfl (by decide) rfl ?_)
                refine q0 I_91_43 (wi_virtV (e := 4) [] [] S_8 rfl (by decide) rfl rfl rfl (okC_i rfl rfl rfl) C_61 (by decide) (Cl_of C_61 Z_61 [(0, .ref 8)] rfl ?_))
                refine q0 I_61_0 (wi_aload_n _ rfl ?_)
                refine q0 I_61_1 (wi_iconst 1 rfl ?_)
                refine q0 I_61_2 (wi_putZ S_8 rfl (by decide) rfl rfl rfl (Or.inr rfl) ?_)
                refine q0 I_61_5 (wi_ret T_61 C_61 ⟨rfl, ?_⟩)
                refine q0 I_91_46 (wi_aload_n _ rfl ?_)
                refine q0 I_91_47 (wi_get (.int (di2 1 2)) S_1 rfl (by decide) rfl ?_)
                exact q0 I_91_50 (wi_iret T_91 C_91 ⟨_, rfl, H⟩)
              · replace H := H.2 h
                refine q1 (ls' := []) I_52_23 rfl (wi_iconst 1 rfl ?_)
                refine q0 I_52_24 (wi_goto ?_)
                refine q1 (ls' := []) I_52_28 rfl (wi_zret T_52 (Or.inl C_52) (Or.inr rfl) ⟨_, rfl, ?_⟩)
                refine q0 I_91_28 (wi_ifF rfl ?_)
                refine q1 (ls' := []) I_91_31 rfl (wi_bipush (-4) rfl ?_)
                exact q0 I_91_33 (wi_iret T_91 C_91 ⟨_, rfl, H⟩)
          · replace H := H.2 h
            refine q1 (ls' := []) I_91_21 rfl (wi_bipush (-2) rfl ?_)
            exact q0 I_91_23 (wi_iret T_91 C_91 ⟨_, rfl, H⟩)
      · replace H := H.2.1 h
        refine q0 I_126_19 (wi_goto ?_)
        refine q1 (ls' := []) I_126_23 rfl (wi_aret T_126 C_126 ⟨_, rfl, ?_⟩)
        refine q0 I_91_5 (wi_astore_n [(0, .ref 0), (1, .int a1), (2, .int a2), (3, .ref 3)] (lt_e X_91 rfl) rfl ?_)
        refine q0 I_91_6 (wi_aload_n _ rfl ?_)
        refine q0 I_91_7 (wi_ifnullR ?_)
        refine q1 (ls' := [(0, .ref 0), (2, .int a2), (3, .ref 3)]) I_91_10 rfl (wi_iload_n _ rfl ?_)
        refine q0 I_91_11 (wi_if_lt (fun h => ?_) (fun h => ?_))
        · replace H := H.1 h
          refine q1 (ls' := []) I_91_21 rfl (wi_bipush (-2) rfl ?_)
          exact q0 I_91_23 (wi_iret T_91 C_91 ⟨_, rfl, H⟩)
        · replace H := H.2 h
          refine q1 (ls' := [(0, .ref 0), (2, .int a2), (3, .ref 3)]) I_91_14 rfl (wi_iload_n _ rfl ?_)
          refine q0 I_91_15 (wi_sipush 255 rfl ?_)
          refine q0 I_91_18 (wi_ic_le (fun h => ?_) (fun h => ?_))
          · replace H := H.1 h
            refine q1 (ls' := [(0, .ref 0), (2, .int a2), (3, .ref 3)]) I_91_24 rfl (wi_aload_n _ rfl ?_)
            refine q0 I_91_25 (wi_virtI (e := 4) [] [] S_3 rfl (by decide) rfl rfl rfl (okC_i rfl rfl rfl) C_52 (by decide) (Cl_of C_52 Z_52 [(0, .ref 3)] rfl ?_))
            refine q0 I_52_0 (wi_aload_n _ rfl ?_)
            refine q0 I_52_1 (wi_getI S_3 rfl (by decide) rfl ?_)
            refine q0 I_52_4 (wi_aload_n _ rfl ?_)
            refine q0 I_52_5 (wi_getI S_3 rfl (by decide) rfl ?_)
            refine q0 I_52_8 (wi_ic_ge (fun h => ?_) (fun h => ?_))
            · replace H := H.1 h
              refine q1 (ls' := []) I_52_23 rfl (wi_iconst 1 rfl ?_)
              refine q0 I_52_24 (wi_goto ?_)
              refine q1 (ls' := []) I_52_28 rfl (wi_zret T_52 (Or.inl C_52) (Or.inr rfl) ⟨_, rfl, ?_⟩)
              refine q0 I_91_28 (wi_ifF rfl ?_)
              refine q1 (ls' := []) I_91_31 rfl (wi_bipush (-4) rfl ?_)
              exact q0 I_91_33 (wi_iret T_91 C_91 ⟨_, rfl, H⟩)
            · replace H := H.2 h
              refine q1 (ls' := [(0, .ref 3)]) I_52_11 rfl (wi_aload_n _ rfl ?_)
              refine q0 I_52_12 (wi_getI S_3 rfl (by decide) rfl ?_)
              refine q0 I_52_15 (wi_aload_n _ rfl ?_)
              refine q0 I_52_16 (wi_get (.ref 4) S_3 rfl (by decide) rfl ?_)
              refine q0 I_52_19 (wi_alen 47 S_4 (by decide) rfl ?_)
              refine q0 I_52_20 (wi_ic_lt (fun h => ?_) (fun h => ?_))
              · replace H := H.1 h
                refine q1 (ls' := []) I_52_27 rfl (wi_iconst 0 rfl ?_)
                refine q1 (ls' := []) I_52_28 rfl (wi_zret T_52 (Or.inl C_52) (Or.inl rfl) ⟨_, rfl, ?_⟩)
                refine q0 I_91_28 (wi_ifT rfl ?_)
                refine q1 (ls' := [(0, .ref 0), (2, .int a2), (3, .ref 3)]) I_91_34 rfl (wi_aload_n _ rfl ?_)
                refine q0 I_91_35 (wi_iload_n _ rfl ?_)
                refine q0 I_91_36 (wi_virtV (e := 4) [.int a2] [] S_3 rfl (by decide) rfl rfl rfl (okC_i rfl rfl rfl) C_54 (by decide) (ClV_mono H ?_))
                intro di3 dl3 H
                refine q0 I_91_39 (wi_aload_n _ rfl ?_)
                refine q0 I_91_40 (wi_get (.ref 8) S_0 rfl (by decide) rfl ?_)
                refine q0 I_91_43 (wi_virtV (e := 4) [] [] S_8 rfl (by decide) rfl rfl rfl (okC_i rfl rfl rfl) C_61 (by decide) (Cl_of C_61 Z_61 [(0, .ref 8)] rfl ?_))
                refine q0 I_61_0 (wi_aload_n _ rfl ?_)
                refine q0 I_61_1 (wi_iconst 1 rfl ?_)
                refine q0 I_61_2 (wi_putZ S_8 rfl (by decide) rfl rfl rfl (Or.inr rfl) ?_)
                refine q0 I_61_5 (wi_ret T_61 C_61 ⟨rfl, ?_⟩)
                refine q0 I_91_46 (wi_aload_n _ rfl ?_)
                refine q0 I_91_47 (wi_get (.int (di3 3 2)) S_3 rfl (by decide) rfl ?_)
                exact q0 I_91_50 (wi_iret T_91 C_91 ⟨_, rfl, H⟩)
              · replace H := H.2 h
                refine q1 (ls' := []) I_52_23 rfl (wi_iconst 1 rfl ?_)
                refine q0 I_52_24 (wi_goto ?_)
                refine q1 (ls' := []) I_52_28 rfl (wi_zret T_52 (Or.inl C_52) (Or.inr rfl) ⟨_, rfl, ?_⟩)
                refine q0 I_91_28 (wi_ifF rfl ?_)
                refine q1 (ls' := []) I_91_31 rfl (wi_bipush (-4) rfl ?_)
                exact q0 I_91_33 (wi_iret T_91 C_91 ⟨_, rfl, H⟩)
          · replace H := H.2 h
            refine q1 (ls' := []) I_91_21 rfl (wi_bipush (-2) rfl ?_)
            exact q0 I_91_23 (wi_iret T_91 C_91 ⟨_, rfl, H⟩)
      · replace H := H.2.2 h
        refine q0 I_126_19 (wi_goto ?_)
        refine q1 (ls' := []) I_126_23 rfl (wi_aret T_126 C_126 ⟨_, rfl, ?_⟩)
        refine q0 I_91_5 (wi_astore_n [(0, .ref 0), (1, .int a1), (2, .int a2), (3, .ref 5)] (lt_e X_91 rfl) rfl ?_)
        refine q0 I_91_6 (wi_aload_n _ rfl ?_)
        refine q0 I_91_7 (wi_ifnullR ?_)
        refine q1 (ls' := [(0, .ref 0), (2, .int a2), (3, .ref 5)]) I_91_10 rfl (wi_iload_n _ rfl ?_)
        refine q0 I_91_11 (wi_if_lt (fun h => ?_) (fun h => ?_))
        · replace H := H.1 h
          refine q1 (ls' := []) I_91_21 rfl (wi_bipush (-2) rfl ?_)
          exact q0 I_91_23 (wi_iret T_91 C_91 ⟨_, rfl, H⟩)
        · replace H := H.2 h
          refine q1 (ls' := [(0, .ref 0), (2, .int a2), (3, .ref 5)]) I_91_14 rfl (wi_iload_n _ rfl ?_)
          refine q0 I_91_15 (wi_sipush 255 rfl ?_)
          refine q0 I_91_18 (wi_ic_le (fun h => ?_) (fun h => ?_))
          · replace H := H.1 h
            refine q1 (ls' := [(0, .ref 0), (2, .int a2), (3, .ref 5)]) I_91_24 rfl (wi_aload_n _ rfl ?_)
            refine q0 I_91_25 (wi_virtI (e := 4) [] [] S_5 rfl (by decide) rfl rfl rfl (okC_i rfl rfl rfl) C_52 (by decide) (Cl_of C_52 Z_52 [(0, .ref 5)] rfl ?_))
            refine q0 I_52_0 (wi_aload_n _ rfl ?_)
            refine q0 I_52_1 (wi_getI S_5 rfl (by decide) rfl ?_)
            refine q0 I_52_4 (wi_aload_n _ rfl ?_)
            refine q0 I_52_5 (wi_getI S_5 rfl (by decide) rfl ?_)
            refine q0 I_52_8 (wi_ic_ge (fun h => ?_) (fun h => ?_))
            · replace H := H.1 h
              refine q1 (ls' := []) I_52_23 rfl (wi_iconst 1 rfl ?_)
              refine q0 I_52_24 (wi_goto ?_)
              refine q1 (ls' := []) I_52_28 rfl (wi_zret T_52 (Or.inl C_52) (Or.inr rfl) ⟨_, rfl, ?_⟩)
              refine q0 I_91_28 (wi_ifF rfl ?_)
              refine q1 (ls' := []) I_91_31 rfl (wi_bipush (-4) rfl ?_)
              exact q0 I_91_33 (wi_iret T_91 C_91 ⟨_, rfl, H⟩)
            · replace H := H.2 h
              refine q1 (ls' := [(0, .ref 5)]) I_52_11 rfl (wi_aload_n _ rfl ?_)
              refine q0 I_52_12 (wi_getI S_5 rfl (by decide) rfl ?_)
              refine q0 I_52_15 (wi_aload_n _ rfl ?_)
              refine q0 I_52_16 (wi_get (.ref 6) S_5 rfl (by decide) rfl ?_)
              refine q0 I_52_19 (wi_alen 47 S_6 (by decide) rfl ?_)
              refine q0 I_52_20 (wi_ic_lt (fun h => ?_) (fun h => ?_))
              · replace H := H.1 h
                refine q1 (ls' := []) I_52_27 rfl (wi_iconst 0 rfl ?_)
                refine q1 (ls' := []) I_52_28 rfl (wi_zret T_52 (Or.inl C_52) (Or.inl rfl) ⟨_, rfl, ?_⟩)
                refine q0 I_91_28 (wi_ifT rfl ?_)
                refine q1 (ls' := [(0, .ref 0), (2, .int a2), (3, .ref 5)]) I_91_34 rfl (wi_aload_n _ rfl ?_)
                refine q0 I_91_35 (wi_iload_n _ rfl ?_)
                refine q0 I_91_36 (wi_virtV (e := 4) [.int a2] [] S_5 rfl (by decide) rfl rfl rfl (okC_i rfl rfl rfl) C_54 (by decide) (ClV_mono H ?_))
                intro di4 dl4 H
                refine q0 I_91_39 (wi_aload_n _ rfl ?_)
                refine q0 I_91_40 (wi_get (.ref 8) S_0 rfl (by decide) rfl ?_)
                refine q0 I_91_43 (wi_virtV (e := 4) [] [] S_8 rfl (by decide) rfl rfl rfl (okC_i rfl rfl rfl) C_61 (by decide) (Cl_of C_61 Z_61 [(0, .ref 8)] rfl ?_))
                refine q0 I_61_0 (wi_aload_n _ rfl ?_)
                refine q0 I_61_1 (wi_iconst 1 rfl ?_)
                refine q0 I_61_2 (wi_putZ S_8 rfl (by decide) rfl rfl rfl (Or.inr rfl) ?_)
                refine q0 I_61_5 (wi_ret T_61 C_61 ⟨rfl, ?_⟩)
                refine q0 I_91_46 (wi_aload_n _ rfl ?_)
                refine q0 I_91_47 (wi_get (.int (di4 5 2)) S_5 rfl (by decide) rfl ?_)
                exact q0 I_91_50 (wi_iret T_91 C_91 ⟨_, rfl, H⟩)
              · replace H := H.2 h
                refine q1 (ls' := []) I_52_23 rfl (wi_iconst 1 rfl ?_)
                refine q0 I_52_24 (wi_goto ?_)
                refine q1 (ls' := []) I_52_28 rfl (wi_zret T_52 (Or.inl C_52) (Or.inr rfl) ⟨_, rfl, ?_⟩)
                refine q0 I_91_28 (wi_ifF rfl ?_)
                refine q1 (ls' := []) I_91_31 rfl (wi_bipush (-4) rfl ?_)
                exact q0 I_91_33 (wi_iret T_91 C_91 ⟨_, rfl, H⟩)
          · replace H := H.2 h
            refine q1 (ls' := []) I_91_21 rfl (wi_bipush (-2) rfl ?_)
            exact q0 I_91_23 (wi_iret T_91 C_91 ⟨_, rfl, H⟩)
theorem r_92 {a1 : Int32} {di : tDi} {dl : tDl} {K : Int32 → tDi → tDl → Prop} (H : ((a1 < 0 → (K (-2) di dl)) ∧ (0 ≤ a1 → ((3 ≤ a1 → (K (-2) di dl)) ∧ (a1 < 3 → (inB a1 3 = true ∧ ((a1 = 0 → (ClV 4 55 [.ref 1, .int 0] di dl (fun di2 dl2 => (K (di 1 2) (up2 di2 8 10 1) dl2)))) ∧ (a1 = 1 → (ClV 4 55 [.ref 3, .int 0] di dl (fun di3 dl3 => (K (di 3 2) (up2 di3 8 10 1) dl3)))) ∧ (a1 = 2 → (ClV 4 55 [.ref 5, .int 0] di dl (fun di4 dl4 => (K (di 5 2) (up2 di4 8 10 1) dl4))))))))))) : ClI 5 92 [.ref 0, .int a1] di dl K := by
  refine Cl_of C_92 Z_92 [(0, .ref 0), (1, .int a1)] rfl ?_
  refine q0 I_92_0 (wi_aload_n _ rfl ?_)
  refine q0 I_92_1 (wi_iload_n _ rfl ?_)
  refine q0 I_92_2 (wi_virtR (e := 4) [.int a1] [] S_0 rfl (by decide) rfl rfl rfl (okC_i rfl rfl rfl) C_126 (by decide) (Cl_of C_126 Z_126 [(0, .ref 0), (1, .int a1)] rfl ?_))
  refine q0 I_126_0 (wi_iload_n _ rfl ?_)
  refine q0 I_126_1 (wi_if_lt (fun h => ?_) (fun h => ?_))
  · replace H := H.1 h
    refine q1 (ls' := []) I_126_22 rfl (wi_null ?_)
    refine q1 (ls' := []) I_126_23 rfl (wi_nret T_126 C_126 ⟨_, rfl, ?_⟩)
    refine q0 I_92_5 (wi_astore_nN [(0, .ref 0), (1, .int a1), (2, .null)] (lt_e X_92 rfl) rfl ?_)
    refine q0 I_92_6 (wi_aload_nN rfl ?_)
    refine q0 I_92_7 (wi_ifnonnullN ?_)
    refine q1 (ls' := []) I_92_10 rfl (wi_bipush (-2) rfl ?_)
    exact q0 I_92_12 (wi_iret T_92 C_92 ⟨_, rfl, H⟩)
  · replace H := H.2 h
    refine q1 (ls' := [(0, .ref 0), (1, .int a1)]) I_126_4 rfl (wi_iload_n _ rfl ?_)
    refine q0 I_126_5 (wi_aload_n _ rfl ?_)
    refine q0 I_126_6 (wi_get (.ref 7) S_0 rfl (by decide) rfl ?_)
    refine q0 I_126_9 (wi_alen 3 S_7 (by decide) rfl ?_)
    refine q0 I_126_10 (wi_ic_ge (fun h => ?_) (fun h => ?_))
    · replace H := H.1 h
      refine q1 (ls' := []) I_126_22 rfl (wi_null ?_)
      refine q1 (ls' := []) I_126_23 rfl (wi_nret T_126 C_126 ⟨_, rfl, ?_⟩)
      refine q0 I_92_5 (wi_astore_nN [(0, .ref 0), (1, .int a1), (2, .null)] (lt_e X_92 rfl) rfl ?_)
      refine q0 I_92_6 (wi_aload_nN rfl ?_)
      refine q0 I_92_7 (wi_ifnonnullN ?_)
      refine q1 (ls' := []) I_92_10 rfl (wi_bipush (-2) rfl ?_)
      exact q0 I_92_12 (wi_iret T_92 C_92 ⟨_, rfl, H⟩)
    · replace H := H.2 h
      refine q1 (ls' := [(0, .ref 0), (1, .int a1)]) I_126_13 rfl (wi_aload_n _ rfl ?_)
      refine q0 I_126_14 (wi_get (.ref 7) S_0 rfl (by decide) rfl ?_)
      refine q0 I_126_17 (wi_iload_n _ rfl ?_)
      have hb1 := H.1
      replace H := H.2
      refine q0 I_126_18 (wi_aatext hb1 (fun h => ?_) (fun h => ?_) (fun h => ?_))
      · replace H := H.1 h
        refine q0 I_126_19 (wi_goto ?_)
        refine q1 (ls' := []) I_126_23 rfl (wi_aret T_126 C_126 ⟨_, rfl, ?_⟩)
        refine q0 I_92_5 (wi_astore_n [(0, .ref 0), (1, .int a1), (2, .ref 1)] (lt_e X_92 rfl) rfl ?_)
        refine q0 I_92_6 (wi_aload_n _ rfl ?_)
        refine q0 I_92_7 (wi_ifnonnullR ?_)
        refine q1 (ls' := [(0, .ref 0), (2, .ref 1)]) I_92_13 rfl (wi_aload_n _ rfl ?_)
        refine q0 I_92_14 (wi_getI S_1 rfl (by decide) rfl ?_)
        refine q0 I_92_17 (wi_istore_n [(0, .ref 0), (2, .ref 1), (3, .int (di 1 2))] (lt_e X_92 rfl) rfl ?_)
        refine q0 I_92_18 (wi_aload_n _ rfl ?_)
        refine q0 I_92_19 (wi_iconst 0 rfl ?_)
        refine q0 I_92_20 (wi_virtV (e := 4) [.int 0] [] S_1 rfl (by decide) rfl rfl rfl (okC_i rfl rfl rfl) C_55 (by decide) (ClV_mono H ?_))
        intro di2 dl2 H
        refine q0 I_92_23 (wi_aload_n _ rfl ?_)
        refine q0 I_92_24 (wi_get (.ref 8) S_0 rfl (by decide) rfl ?_)
        refine q0 I_92_27 (wi_virtV (e := 4) [] [] S_8 rfl (by decide) rfl rfl rfl (okC_i rfl rfl rfl) C_61 (by decide) (Cl_of C_61 Z_61 [(0, .ref 8)] rfl ?_))
        refine q0 I_61_0 (wi_aload_n _ rfl ?_)
        refine q0 I_61_1 (wi_iconst 1 rfl ?_)
        refine q0 I_61_2 (wi_putZ S_8 rfl (by decide) rfl rfl rfl (Or.inr rfl) ?_)
        refine q0 I_61_5 (wi_ret T_61 C_61 ⟨rfl, ?_⟩)
        refine q0 I_92_30 (wi_iload_n _ rfl ?_)
        exact q0 I_92_31 (wi_iret T_92 C_92 ⟨_, rfl, H⟩)
      · replace H := H.2.1 h
        refine q0 I_126_19 (wi_goto ?_)
        refine q1 (ls' := []) I_126_23 rfl (wi_aret T_126 C_126 ⟨_, rfl, ?_⟩)
        refine q0 I_92_5 (wi_astore_n [(0, .ref 0), (1, .int a1), (2, .ref 3)] (lt_e X_92 rfl) rfl ?_)
        refine q0 I_92_6 (wi_aload_n _ rfl ?_)
        refine q0 I_92_7 (wi_ifnonnullR ?_)
        refine q1 (ls' := [(0, .ref 0), (2, .ref 3)]) I_92_13 rfl (wi_aload_n _ rfl ?_)
        refine q0 I_92_14 (wi_getI S_3 rfl (by decide) rfl ?_)
        refine q0 I_92_17 (wi_istore_n [(0, .ref 0), (2, .ref 3), (3, .int (di 3 2))] (lt_e X_92 rfl) rfl ?_)
        refine q0 I_92_18 (wi_aload_n _ rfl ?_)
        refine q0 I_92_19 (wi_iconst 0 rfl ?_)
        refine q0 I_92_20 (wi_virtV (e := 4) [.int 0] [] S_3 rfl (by decide) rfl rfl rfl (okC_i rfl rfl rfl) C_55 (by decide) (ClV_mono H ?_))
        intro di3 dl3 H
        refine q0 I_92_23 (wi_aload_n _ rfl ?_)
        refine q0 I_92_24 (wi_get (.ref 8) S_0 rfl (by decide) rfl ?_)
        refine q0 I_92_27 (wi_virtV (e := 4) [] [] S_8 rfl (by decide) rfl rfl rfl (okC_i rfl rfl rfl) C_61 (by decide) (Cl_of C_61 Z_61 [(0, .ref 8)] rfl ?_))
        refine q0 I_61_0 (wi_aload_n _ rfl ?_)
        refine q0 I_61_1 (wi_iconst 1 rfl ?_)
        refine q0 I_61_2 (wi_putZ S_8 rfl (by decide) rfl rfl rfl (Or.inr rfl) ?_)
        refine q0 I_61_5 (wi_ret T_61 C_61 ⟨rfl, ?_⟩)
        refine q0 I_92_30 (wi_iload_n _ rfl ?_)
        exact q0 I_92_31 (wi_iret T_92 C_92 ⟨_, rfl, H⟩)
      · replace H := H.2.2 h
        refine q0 I_126_19 (wi_goto ?_)
        refine q1 (ls' := []) I_126_23 rfl (wi_aret T_126 C_126 ⟨_, rfl, ?_⟩)
        refine q0 I_92_5 (wi_astore_n [(0, .ref 0), (1, .int a1), (2, .ref 5)] (lt_e X_92 rfl) rfl ?_)
        refine q0 I_92_6 (wi_aload_n _ rfl ?_)
        refine q0 I_92_7 (wi_ifnonnullR ?_)
        refine q1 (ls' := [(0, .ref 0), (2, .ref 5)]) I_92_13 rfl (wi_aload_n _ rfl ?_)
        refine q0 I_92_14 (wi_getI S_5 rfl (by decide) rfl ?_)
        refine q0 I_92_17 (wi_istore_n [(0, .ref 0), (2, .ref 5), (3, .int (di 5 2))] (lt_e X_92 rfl) rfl ?_)
        refine q0 I_92_18 (wi_aload_n _ rfl ?_)
        refine q0 I_92_19 (wi_iconst 0 rfl ?_)
        refine q0 I_92_20 (wi_virtV (e := 4) [.int 0] [] S_5 rfl (by decide) rfl rfl rfl (okC_i rfl rfl rfl) C_55 (by decide) (ClV_mono H ?_))
        intro di4 dl4 H
        refine q0 I_92_23 (wi_aload_n _ rfl ?_)
        refine q0 I_92_24 (wi_get (.ref 8) S_0 rfl (by decide) rfl ?_)
        refine q0 I_92_27 (wi_virtV (e := 4) [] [] S_8 rfl (by decide) rfl rfl rfl (okC_i rfl rfl rfl) C_61 (by decide) (Cl_of C_61 Z_61 [(0, .ref 8)] rfl ?_))
        refine q0 I_61_0 (wi_aload_n _ rfl ?_)
        refine q0 I_61_1 (wi_iconst 1 rfl ?_)
        refine q0 I_61_2 (wi_putZ S_8 rfl (by decide) rfl rfl rfl (Or.inr rfl) ?_)
        refine q0 I_61_5 (wi_ret T_61 C_61 ⟨rfl, ?_⟩)
        refine q0 I_92_30 (wi_iload_n _ rfl ?_)
        exact q0 I_92_31 (wi_iret T_92 C_92 ⟨_, rfl, H⟩)
theorem r_93 {a1 : Int32} {di : tDi} {dl : tDl} {K : Int32 → tDi → tDl → Prop} (H : ((a1 < 0 → (K (-2) di dl)) ∧ (0 ≤ a1 → ((3 ≤ a1 → (K (-2) di dl)) ∧ (a1 < 3 → (inB a1 3 = true ∧ ((a1 = 0 → ((¬ (di 1 2) = 0 → (ClV 4 55 [.ref 1, .int ((di 1 2) - 1)] di dl (fun di2 dl2 => (K (di2 1 2) (up2 di2 8 10 1) dl2)))) ∧ ((di 1 2) = 0 → (K (-3) di dl)))) ∧ (a1 = 1 → ((¬ (di 3 2) = 0 → (ClV 4 55 [.ref 3, .int ((di 3 2) - 1)] di dl (fun di3 dl3 => (K (di3 3 2) (up2 di3 8 10 1) dl3)))) ∧ ((di 3 2) = 0 → (K (-3) di dl)))) ∧ (a1 = 2 → ((¬ (di 5 2) = 0 → (ClV 4 55 [.ref 5, .int ((di 5 2) - 1)] di dl (fun di4 dl4 => (K (di4 5 2) (up2 di4 8 10 1) dl4)))) ∧ ((di 5 2) = 0 → (K (-3) di dl))))))))))) : ClI 5 93 [.ref 0, .int a1] di dl K := by
  refine Cl_of C_93 Z_93 [(0, .ref 0), (1, .int a1)] rfl ?_
  refine q0 I_93_0 (wi_aload_n _ rfl ?_)
  refine q0 I_93_1 (wi_iload_n _ rfl ?_)
  refine q0 I_93_2 (wi_virtR (e := 4) [.int a1] [] S_0 rfl (by decide) rfl rfl rfl (okC_i rfl rfl rfl) C_126 (by decide) (Cl_of C_126 Z_126 [(0, .ref 0), (1, .int a1)] rfl ?_))
  refine q0 I_126_0 (wi_iload_n _ rfl ?_)
  refine q0 I_126_1 (wi_if_lt (fun h => ?_) (fun h => ?_))
  · replace H := H.1 h
    refine q1 (ls' := []) I_126_22 rfl (wi_null ?_)
    refine q1 (ls' := []) I_126_23 rfl (wi_nret T_126 C_126 ⟨_, rfl, ?_⟩)
    refine q0 I_93_5 (wi_astore_nN [(0, .ref 0), (1, .int a1), (2, .null)] (lt_e X_93 rfl) rfl ?_)
    refine q0 I_93_6 (wi_aload_nN rfl ?_)
    refine q0 I_93_7 (wi_ifnonnullN ?_)
    refine q1 (ls' := []) I_93_10 rfl (wi_bipush (-2) rfl ?_)
    exact q0 I_93_12 (wi_iret T_93 C_93 ⟨_, rfl, H⟩)
  · replace H := H.2 h
    refine q1 (ls' := [(0, .ref 0), (1, .int a1)]) I_126_4 rfl (wi_iload_n _ rfl ?_)
    refine q0 I_126_5 (wi_aload_n _ rfl ?_)
    refine q0 I_126_6 (wi_get (.ref 7) S_0 rfl (by decide) rfl ?_)
    refine q0 I_126_9 (wi_alen 3 S_7 (by decide) rfl ?_)
    refine q0 I_126_10 (wi_ic_ge (fun h => ?_) (fun h => ?_))
    · replace H := H.1 h
      refine q1 (ls' := []) I_126_22 rfl (wi_null ?_)
      refine q1 (ls' := []) I_126_23 rfl (wi_nret T_126 C_126 ⟨_, rfl, ?_⟩)
      refine q0 I_93_5 (wi_astore_nN [(0, .ref 0), (1, .int a1), (2, .null)] (lt_e X_93 rfl) rfl ?_)
      refine q0 I_93_6 (wi_aload_nN rfl ?_)
      refine q0 I_93_7 (wi_ifnonnullN ?_)
      refine q1 (ls' := []) I_93_10 rfl (wi_bipush (-2) rfl ?_)
      exact q0 I_93_12 (wi_iret T_93 C_93 ⟨_, rfl, H⟩)
    · replace H := H.2 h
      refine q1 (ls' := [(0, .ref 0), (1, .int a1)]) I_126_13 rfl (wi_aload_n _ rfl ?_)
      refine q0 I_126_14 (wi_get (.ref 7) S_0 rfl (by decide) rfl ?_)
      refine q0 I_126_17 (wi_iload_n _ rfl ?_)
      have hb1 := H.1
      replace H := H.2
      refine q0 I_126_18 (wi_aatext hb1 (fun h => ?_) (fun h => ?_) (fun h => ?_))
      · replace H := H.1 h
        refine q0 I_126_19 (wi_goto ?_)
        refine q1 (ls' := []) I_126_23 rfl (wi_aret T_126 C_126 ⟨_, rfl, ?_⟩)
        refine q0 I_93_5 (wi_astore_n [(0, .ref 0), (1, .int a1), (2, .ref 1)] (lt_e X_93 rfl) rfl ?_)
        refine q0 I_93_6 (wi_aload_n _ rfl ?_)
        refine q0 I_93_7 (wi_ifnonnullR ?_)
        refine q1 (ls' := [(0, .ref 0), (2, .ref 1)]) I_93_13 rfl (wi_aload_n _ rfl ?_)
        refine q0 I_93_14 (wi_getI S_1 rfl (by decide) rfl ?_)
        refine q0 I_93_17 (wi_if_ne (fun h => ?_) (fun h => ?_))
        · replace H := H.1 h
          refine q1 (ls' := [(0, .ref 0), (2, .ref 1)]) I_93_23 rfl (wi_aload_n _ rfl ?_)
          refine q0 I_93_24 (wi_aload_n _ rfl ?_)
          refine q0 I_93_25 (wi_getI S_1 rfl (by decide) rfl ?_)
          refine q0 I_93_28 (wi_iconst 1 rfl ?_)
          refine q0 I_93_29 (wi_isub ?_)
          refine q0 I_93_30 (wi_virtV (e := 4) [.int ((di 1 2) - 1)] [] S_1 rfl (by decide) rfl rfl rfl (okC_i rfl rfl rfl) C_55 (by decide) (ClV_mono H ?_))
          intro di2 dl2 H
          refine q0 I_93_33 (wi_aload_n _ rfl ?_)
          refine q0 I_93_34 (wi_get (.ref 8) S_0 rfl (by decide) rfl ?_)
          refine q0 I_93_37 (wi_virtV (e := 4) [] [] S_8 rfl (by decide) rfl rfl rfl (okC_i rfl rfl rfl) C_61 (by decide) (Cl_of C_61 Z_61 [(0, .ref 8)] rfl ?_))
          refine q0 I_61_0 (wi_aload_n _ rfl ?_)
          refine q0 I_61_1 (wi_iconst 1 rfl ?_)
          refine q0 I_61_2 (wi_putZ S_8 rfl (by decide) rfl rfl rfl (Or.inr rfl) ?_)
          refine q0 I_61_5 (wi_ret T_61 C_61 ⟨rfl, ?_⟩)
          refine q0 I_93_40 (wi_aload_n _ rfl ?_)
          refine q0 I_93_41 (wi_get (.int (di2 1 2)) S_1 rfl (by decide) rfl ?_)
          exact q0 I_93_44 (wi_iret T_93 C_93 ⟨_, rfl, H⟩)
        · replace H := H.2 h
          refine q1 (ls' := []) I_93_20 rfl (wi_bipush (-3) rfl ?_)
          exact q0 I_93_22 (wi_iret T_93 C_93 ⟨_, rfl, H⟩)
      · replace H := H.2.1 h
        refine q0 I_126_19 (wi_goto ?_)
        refine q1 (ls' := []) I_126_23 rfl (wi_aret T_126 C_126 ⟨_, rfl, ?_⟩)
        refine q0 I_93_5 (wi_astore_n [(0, .ref 0), (1, .int a1), (2, .ref 3)] (lt_e X_93 rfl) rfl ?_)
        refine q0 I_93_6 (wi_aload_n _ rfl ?_)
        refine q0 I_93_7 (wi_ifnonnullR ?_)
        refine q1 (ls' := [(0, .ref 0), (2, .ref 3)]) I_93_13 rfl (wi_aload_n _ rfl ?_)
        refine q0 I_93_14 (wi_getI S_3 rfl (by decide) rfl ?_)
        refine q0 I_93_17 (wi_if_ne (fun h => ?_) (fun h => ?_))
        · replace H := H.1 h
          refine q1 (ls' := [(0, .ref 0), (2, .ref 3)]) I_93_23 rfl (wi_aload_n _ rfl ?_)
          refine q0 I_93_24 (wi_aload_n _ rfl ?_)
          refine q0 I_93_25 (wi_getI S_3 rfl (by decide) rfl ?_)
          refine q0 I_93_28 (wi_iconst 1 rfl ?_)
          refine q0 I_93_29 (wi_isub ?_)
          refine q0 I_93_30 (wi_virtV (e := 4) [.int ((di 3 2) - 1)] [] S_3 rfl (by decide) rfl rfl rfl (okC_i rfl rfl rfl) C_55 (by decide) (ClV_mono H ?_))
          intro di3 dl3 H
          refine q0 I_93_33 (wi_aload_n _ rfl ?_)
          refine q0 I_93_34 (wi_get (.ref 8) S_0 rfl (by decide) rfl ?_)
          refine q0 I_93_37 (wi_virtV (e := 4) [] [] S_8 rfl (by decide) rfl rfl rfl (okC_i rfl rfl rfl) C_61 (by decide) (Cl_of C_61 Z_61 [(0, .ref 8)] rfl ?_))
          refine q0 I_61_0 (wi_aload_n _ rfl ?_)
          refine q0 I_61_1 (wi_iconst 1 rfl ?_)
          refine q0 I_61_2 (wi_putZ S_8 rfl (by decide) rfl rfl rfl (Or.inr rfl) ?_)
          refine q0 I_61_5 (wi_ret T_61 C_61 ⟨rfl, ?_⟩)
          refine q0 I_93_40 (wi_aload_n _ rfl ?_)
          refine q0 I_93_41 (wi_get (.int (di3 3 2)) S_3 rfl (by decide) rfl ?_)
          exact q0 I_93_44 (wi_iret T_93 C_93 ⟨_, rfl, H⟩)
        · replace H := H.2 h
          refine q1 (ls' := []) I_93_20 rfl (wi_bipush (-3) rfl ?_)
          exact q0 I_93_22 (wi_iret T_93 C_93 ⟨_, rfl, H⟩)
      · replace H := H.2.2 h
        refine q0 I_126_19 (wi_goto ?_)
        refine q1 (ls' := []) I_126_23 rfl (wi_aret T_126 C_126 ⟨_, rfl, ?_⟩)
        refine q0 I_93_5 (wi_astore_n [(0, .ref 0), (1, .int a1), (2, .ref 5)] (lt_e X_93 rfl) rfl ?_)
        refine q0 I_93_6 (wi_aload_n _ rfl ?_)
        refine q0 I_93_7 (wi_ifnonnullR ?_)
        refine q1 (ls' := [(0, .ref 0), (2, .ref 5)]) I_93_13 rfl (wi_aload_n _ rfl ?_)
        refine q0 I_93_14 (wi_getI S_5 rfl (by decide) rfl ?_)
        refine q0 I_93_17 (wi_if_ne (fun h => ?_) (fun h => ?_))
        · replace H := H.1 h
          refine q1 (ls' := [(0, .ref 0), (2, .ref 5)]) I_93_23 rfl (wi_aload_n _ rfl ?_)
          refine q0 I_93_24 (wi_aload_n _ rfl ?_)
          refine q0 I_93_25 (wi_getI S_5 rfl (by decide) rfl ?_)
          refine q0 I_93_28 (wi_iconst 1 rfl ?_)
          refine q0 I_93_29 (wi_isub ?_)
          refine q0 I_93_30 (wi_virtV (e := 4) [.int ((di 5 2) - 1)] [] S_5 rfl (by decide) rfl rfl rfl (okC_i rfl rfl rfl) C_55 (by decide) (ClV_mono H ?_))
          intro di4 dl4 H
          refine q0 I_93_33 (wi_aload_n _ rfl ?_)
          refine q0 I_93_34 (wi_get (.ref 8) S_0 rfl (by decide) rfl ?_)
          refine q0 I_93_37 (wi_virtV (e := 4) [] [] S_8 rfl (by decide) rfl rfl rfl (okC_i rfl rfl rfl) C_61 (by decide) (Cl_of C_61 Z_61 [(0, .ref 8)] rfl ?_))
          refine q0 I_61_0 (wi_aload_n _ rfl ?_)
          refine q0 I_61_1 (wi_iconst 1 rfl ?_)
          refine q0 I_61_2 (wi_putZ S_8 rfl (by decide) rfl rfl rfl (Or.inr rfl) ?_)
          refine q0 I_61_5 (wi_ret T_61 C_61 ⟨rfl, ?_⟩)
          refine q0 I_93_40 (wi_aload_n _ rfl ?_)
          refine q0 I_93_41 (wi_get (.int (di4 5 2)) S_5 rfl (by decide) rfl ?_)
          exact q0 I_93_44 (wi_iret T_93 C_93 ⟨_, rfl, H⟩)
        · replace H := H.2 h
          refine q1 (ls' := []) I_93_20 rfl (wi_bipush (-3) rfl ?_)
          exact q0 I_93_22 (wi_iret T_93 C_93 ⟨_, rfl, H⟩)
theorem r_94 {a1 : Int32} {di : tDi} {dl : tDl} {K : Int32 → tDi → tDl → Prop} (H : ((a1 < 0 → (K (-2) di dl)) ∧ (0 ≤ a1 → ((3 ≤ a1 → (K (-2) di dl)) ∧ (a1 < 3 → (inB a1 3 = true ∧ ((a1 = 0 → (K (di 1 3) di dl)) ∧ (a1 = 1 → (K (di 3 3) di dl)) ∧ (a1 = 2 → (K (di 5 3) di dl))))))))) : ClI 1 94 [.ref 0, .int a1] di dl K := by
  refine Cl_of C_94 Z_94 [(0, .ref 0), (1, .int a1)] rfl ?_
  refine q0 I_94_0 (wi_aload_n _ rfl ?_)
  refine q0 I_94_1 (wi_iload_n _ rfl ?_)
  refine q0 I_94_2 (wi_virtR (e := 0) [.int a1] [] S_0 rfl (by decide) rfl rfl rfl (okC_i rfl rfl rfl) C_126 (by decide) (Cl_of C_126 Z_126 [(0, .ref 0), (1, .int a1)] rfl ?_))
  refine q0 I_126_0 (wi_iload_n _ rfl ?_)
  refine q0 I_126_1 (wi_if_lt (fun h => ?_) (fun h => ?_))
  · replace H := H.1 h
    refine q1 (ls' := []) I_126_22 rfl (wi_null ?_)
    refine q1 (ls' := []) I_126_23 rfl (wi_nret T_126 C_126 ⟨_, rfl, ?_⟩)
    refine q0 I_94_5 (wi_astore_nN [(0, .ref 0), (1, .int a1), (2, .null)] (lt_e X_94 rfl) rfl ?_)
    refine q0 I_94_6 (wi_aload_nN rfl ?_)
    refine q0 I_94_7 (wi_ifnonnullN ?_)
    refine q1 (ls' := []) I_94_10 rfl (wi_bipush (-2) rfl ?_)
    refine q0 I_94_12 (wi_goto ?_)
    exact q1 (ls' := []) I_94_19 rfl (wi_iret T_94 C_94 ⟨_, rfl, H⟩)
  · replace H := H.2 h
    refine q1 (ls' := [(0, .ref 0), (1, .int a1)]) I_126_4 rfl (wi_iload_n _ rfl ?_)
    refine q0 I_126_5 (wi_aload_n _ rfl ?_)
    refine q0 I_126_6 (wi_get (.ref 7) S_0 rfl (by decide) rfl ?_)
    refine q0 I_126_9 (wi_alen 3 S_7 (by decide) rfl ?_)
    refine q0 I_126_10 (wi_ic_ge (fun h => ?_) (fun h => ?_))
    · replace H := H.1 h
      refine q1 (ls' := []) I_126_22 rfl (wi_null ?_)
      refine q1 (ls' := []) I_126_23 rfl (wi_nret T_126 C_126 ⟨_, rfl, ?_⟩)
      refine q0 I_94_5 (wi_astore_nN [(0, .ref 0), (1, .int a1), (2, .null)] (lt_e X_94 rfl) rfl ?_)
      refine q0 I_94_6 (wi_aload_nN rfl ?_)
      refine q0 I_94_7 (wi_ifnonnullN ?_)
      refine q1 (ls' := []) I_94_10 rfl (wi_bipush (-2) rfl ?_)
      refine q0 I_94_12 (wi_goto ?_)
      exact q1 (ls' := []) I_94_19 rfl (wi_iret T_94 C_94 ⟨_, rfl, H⟩)
    · replace H := H.2 h
      refine q1 (ls' := [(0, .ref 0), (1, .int a1)]) I_126_13 rfl (wi_aload_n _ rfl ?_)
      refine q0 I_126_14 (wi_get (.ref 7) S_0 rfl (by decide) rfl ?_)
      refine q0 I_126_17 (wi_iload_n _ rfl ?_)
      have hb1 := H.1
      replace H := H.2
      refine q0 I_126_18 (wi_aatext hb1 (fun h => ?_) (fun h => ?_) (fun h => ?_))
      · replace H := H.1 h
        refine q0 I_126_19 (wi_goto ?_)
        refine q1 (ls' := []) I_126_23 rfl (wi_aret T_126 C_126 ⟨_, rfl, ?_⟩)
        refine q0 I_94_5 (wi_astore_n [(0, .ref 0), (1, .int a1), (2, .ref 1)] (lt_e X_94 rfl) rfl ?_)
        refine q0 I_94_6 (wi_aload_n _ rfl ?_)
        refine q0 I_94_7 (wi_ifnonnullR ?_)
        refine q1 (ls' := [(2, .ref 1)]) I_94_15 rfl (wi_aload_n _ rfl ?_)
        refine q0 I_94_16 (wi_getI S_1 rfl (by decide) rfl ?_)
        exact q1 (ls' := []) I_94_19 rfl (wi_iret T_94 C_94 ⟨_, rfl, H⟩)
      · replace H := H.2.1 h
        refine q0 I_126_19 (wi_goto ?_)
        refine q1 (ls' := []) I_126_23 rfl (wi_aret T_126 C_126 ⟨_, rfl, ?_⟩)
        refine q0 I_94_5 (wi_astore_n [(0, .ref 0), (1, .int a1), (2, .ref 3)] (lt_e X_94 rfl) rfl ?_)
        refine q0 I_94_6 (wi_aload_n _ rfl ?_)
        refine q0 I_94_7 (wi_ifnonnullR ?_)
        refine q1 (ls' := [(2, .ref 3)]) I_94_15 rfl (wi_aload_n _ rfl ?_)
        refine q0 I_94_16 (wi_getI S_3 rfl (by decide) rfl ?_)
        exact q1 (ls' := []) I_94_19 rfl (wi_iret T_94 C_94 ⟨_, rfl, H⟩)
      · replace H := H.2.2 h
        refine q0 I_126_19 (wi_goto ?_)
        refine q1 (ls' := []) I_126_23 rfl (wi_aret T_126 C_126 ⟨_, rfl, ?_⟩)
        refine q0 I_94_5 (wi_astore_n [(0, .ref 0), (1, .int a1), (2, .ref 5)] (lt_e X_94 rfl) rfl ?_)
        refine q0 I_94_6 (wi_aload_n _ rfl ?_)
        refine q0 I_94_7 (wi_ifnonnullR ?_)
        refine q1 (ls' := [(2, .ref 5)]) I_94_15 rfl (wi_aload_n _ rfl ?_)
        refine q0 I_94_16 (wi_getI S_5 rfl (by decide) rfl ?_)
        exact q1 (ls' := []) I_94_19 rfl (wi_iret T_94 C_94 ⟨_, rfl, H⟩)
theorem r_95 {a1 : Int32} {a2 : Int32} {di : tDi} {dl : tDl} {K : Int32 → tDi → tDl → Prop} (H : ((a1 < 0 → (K (-2) di dl)) ∧ (0 ≤ a1 → (((di 1 4) ≤ a1 → (K (-2) di dl)) ∧ (a1 < (di 1 4) → ((a2 = 0 → (ClI 1 47 [.ref 1, .int a1] di dl (fun r1 di1 dl1 => (K r1 di1 dl1)))) ∧ (¬ a2 = 0 → ((a2 = 1 → (ClI 1 48 [.ref 1, .int a1] di dl (fun r2 di2 dl2 => (K r2 di2 dl2)))) ∧ (¬ a2 = 1 → ((a2 = 2 → (ClI 1 49 [.ref 1, .int a1] di dl (fun r3 di3 dl3 => (K r3 di3 dl3)))) ∧ (¬ a2 = 2 → ((a2 = 3 → (ClI 1 50 [.ref 1, .int a1] di dl (fun r4 di4 dl4 => ((r4 = 0 → (K 0 di4 dl4)) ∧ (¬ r4 = 0 → (K 1 di4 dl4)))))) ∧ (¬ a2 = 3 → (K (-2) di dl)))))))))))))) : ClI 2 95 [.ref 0, .int a1, .int a2] di dl K := by
  refine Cl_of C_95 Z_95 [(0, .ref 0), (1, .int a1), (2, .int a2)] rfl ?_
  refine q0 I_95_0 (wi_aload_n _ rfl ?_)
  refine q0 I_95_1 (wi_get (.ref 1) S_0 rfl (by decide) rfl ?_)
  refine q0 I_95_4 (wi_iload_n _ rfl ?_)
  refine q0 I_95_5 (wi_virtI (e := 1) [.int a1] [] S_1 rfl (by decide) rfl rfl rfl (okC_i rfl rfl rfl) C_53 (by decide) (Cl_of C_53 Z_53 [(0, .ref 1), (1, .int a1)] rfl ?_))
  refine q0 I_53_0 (wi_iload_n _ rfl ?_)
  refine q0 I_53_1 (wi_if_lt (fun h => ?_) (fun h => ?_))
  · replace H := H.1 h
    refine q1 (ls' := []) I_53_16 rfl (wi_iconst 0 rfl ?_)
    refine q1 (ls' := []) I_53_17 rfl (wi_zret T_53 (Or.inl C_53) (Or.inl rfl) ⟨_, rfl, ?_⟩)
    refine q0 I_95_8 (wi_ifF rfl ?_)
    refine q1 (ls' := []) I_95_11 rfl (wi_bipush (-2) rfl ?_)
    exact q0 I_95_13 (wi_iret T_95 C_95 ⟨_, rfl, H⟩)
  · replace H := H.2 h
    refine q1 (ls' := [(0, .ref 1), (1, .int a1)]) I_53_4 rfl (wi_iload_n _ rfl ?_)
    refine q0 I_53_5 (wi_aload_n _ rfl ?_)
    refine q0 I_53_6 (wi_getI S_1 rfl (by decide) rfl ?_)
    refine q0 I_53_9 (wi_ic_ge (fun h => ?_) (fun h => ?_))
    · replace H := H.1 h
      refine q1 (ls' := []) I_53_16 rfl (wi_iconst 0 rfl ?_)
      refine q1 (ls' := []) I_53_17 rfl (wi_zret T_53 (Or.inl C_53) (Or.inl rfl) ⟨_, rfl, ?_⟩)
      refine q0 I_95_8 (wi_ifF rfl ?_)
      refine q1 (ls' := []) I_95_11 rfl (wi_bipush (-2) rfl ?_)
      exact q0 I_95_13 (wi_iret T_95 C_95 ⟨_, rfl, H⟩)
    · replace H := H.2 h
      refine q1 (ls' := []) I_53_12 rfl (wi_iconst 1 rfl ?_)
      refine q0 I_53_13 (wi_goto ?_)
      refine q1 (ls' := []) I_53_17 rfl (wi_zret T_53 (Or.inl C_53) (Or.inr rfl) ⟨_, rfl, ?_⟩)
      refine q0 I_95_8 (wi_ifT rfl ?_)
      refine q1 (ls' := [(0, .ref 0), (1, .int a1), (2, .int a2)]) I_95_14 rfl (wi_iload_n _ rfl ?_)
      refine q0 I_95_15 (wi_tsw ?_)
      refine sw_cons 0 rfl ⟨fun h => ?_, fun h => ?_⟩
      · replace H := H.1 h
        refine q1 (ls' := [(0, .ref 0), (1, .int a1)]) I_95_44 rfl (wi_aload_n _ rfl ?_)
        refine q0 I_95_45 (wi_get (.ref 1) S_0 rfl (by decide) rfl ?_)
        refine q0 I_95_48 (wi_iload_n _ rfl ?_)
        refine q0 I_95_49 (wi_virtI (e := 1) [.int a1] [] S_1 rfl (by decide) rfl rfl rfl (okC_i rfl rfl rfl) C_47 (by decide) (ClI_mono H ?_))
        intro r1 di1 dl1 H
        exact q0 I_95_52 (wi_iret T_95 C_95 ⟨_, rfl, H⟩)
      · replace H := H.2 h
        refine sw_cons 1 rfl ⟨fun h => ?_, fun h => ?_⟩
        · replace H := H.1 h
          refine q1 (ls' := [(0, .ref 0), (1, .int a1)]) I_95_53 rfl (wi_aload_n _ rfl ?_)
          refine q0 I_95_54 (wi_get (.ref 1) S_0 rfl (by decide) rfl ?_)
          refine q0 I_95_57 (wi_iload_n _ rfl ?_)
          refine q0 I_95_58 (wi_virtI (e := 1) [.int a1] [] S_1 rfl (by decide) rfl rfl rfl (okC_i rfl rfl rfl) C_48 (by decide) (ClI_mono H ?_))
          intro r2 di2 dl2 H
          exact q0 I_95_61 (wi_iret T_95 C_95 ⟨_, rfl, H⟩)
        · replace H := H.2 h
          refine sw_cons 2 rfl ⟨fun h => ?_, fun h => ?_⟩
          · replace H := H.1 h
            refine q1 (ls' := [(0, .ref 0), (1, .int a1)]) I_95_62 rfl (wi_aload_n _ rfl ?_)
            refine q0 I_95_63 (wi_get (.ref 1) S_0 rfl (by decide) rfl ?_)
            refine q0 I_95_66 (wi_iload_n _ rfl ?_)
            refine q0 I_95_67 (wi_virtI (e := 1) [.int a1] [] S_1 rfl (by decide) rfl rfl rfl (okC_i rfl rfl rfl) C_49 (by decide) (ClI_mono H ?_))
            intro r3 di3 dl3 H
            exact q0 I_95_70 (wi_iret T_95 C_95 ⟨_, rfl, H⟩)
          · replace H := H.2 h
            refine sw_cons 3 rfl ⟨fun h => ?_, fun h => ?_⟩
            · replace H := H.1 h
              refine q1 (ls' := [(0, .ref 0), (1, .int a1)]) I_95_71 rfl (wi_aload_n _ rfl ?_)
              refine q0 I_95_72 (wi_get (.ref 1) S_0 rfl (by decide) rfl ?_)
              refine q0 I_95_75 (wi_iload_n _ rfl ?_)
              refine q0 I_95_76 (wi_virtI (e := 1) [.int a1] [] S_1 rfl (by decide) rfl rfl rfl (okC_i rfl rfl rfl) C_50 (by decide) (ClI_mono H ?_))
              intro r4 di4 dl4 H
              refine q0 I_95_79 (wi_if_eq (fun h => ?_) (fun h => ?_))
              · replace H := H.1 h
                refine q1 (ls' := []) I_95_86 rfl (wi_iconst 0 rfl ?_)
                exact q1 (ls' := []) I_95_87 rfl (wi_iret T_95 C_95 ⟨_, rfl, H⟩)
              · replace H := H.2 h
                refine q1 (ls' := []) I_95_82 rfl (wi_iconst 1 rfl ?_)
                refine q0 I_95_83 (wi_goto ?_)
                exact q1 (ls' := []) I_95_87 rfl (wi_iret T_95 C_95 ⟨_, rfl, H⟩)
            · replace H := H.2 h
              refine sw_nil ?_
              refine q1 (ls' := []) I_95_88 rfl (wi_bipush (-2) rfl ?_)
              exact q0 I_95_90 (wi_iret T_95 C_95 ⟨_, rfl, H⟩)
theorem r_96 {a1 : Int32} {a2 : Int32} {di : tDi} {dl : tDl} {K : Int32 → tDi → tDl → Prop} (H : ((a1 < 0 → (K (-2) di dl)) ∧ (0 ≤ a1 → (((di 3 4) ≤ a1 → (K (-2) di dl)) ∧ (a1 < (di 3 4) → ((a2 = 0 → (ClI 1 8 [.ref 3, .int a1] di dl (fun r1 di1 dl1 => (K r1 di1 dl1)))) ∧ (¬ a2 = 0 → ((a2 = 1 → (ClI 1 9 [.ref 3, .int a1] di dl (fun r2 di2 dl2 => (K r2 di2 dl2)))) ∧ (¬ a2 = 1 → ((a2 = 2 → (ClI 1 10 [.ref 3, .int a1] di dl (fun r3 di3 dl3 => (K r3 di3 dl3)))) ∧ (¬ a2 = 2 → ((a2 = 3 → (ClI 1 11 [.ref 3, .int a1] di dl (fun r4 di4 dl4 => (K r4 di4 dl4)))) ∧ (¬ a2 = 3 → (K (-2) di dl)))))))))))))) : ClI 2 96 [.ref 0, .int a1, .int a2] di dl K := by
  refine Cl_of C_96 Z_96 [(0, .ref 0), (1, .int a1), (2, .int a2)] rfl ?_
  refine q0 I_96_0 (wi_aload_n _ rfl ?_)
  refine q0 I_96_1 (wi_get (.ref 3) S_0 rfl (by decide) rfl ?_)
  refine q0 I_96_4 (wi_iload_n _ rfl ?_)
  refine q0 I_96_5 (wi_virtI (e := 1) [.int a1] [] S_3 rfl (by decide) rfl rfl rfl (okC_i rfl rfl rfl) C_53 (by decide) (Cl_of C_53 Z_53 [(0, .ref 3), (1, .int a1)] rfl ?_))
  refine q0 I_53_0 (wi_iload_n _ rfl ?_)
  refine q0 I_53_1 (wi_if_lt (fun h => ?_) (fun h => ?_))
  · replace H := H.1 h
    refine q1 (ls' := []) I_53_16 rfl (wi_iconst 0 rfl ?_)
    refine q1 (ls' := []) I_53_17 rfl (wi_zret T_53 (Or.inl C_53) (Or.inl rfl) ⟨_, rfl, ?_⟩)
    refine q0 I_96_8 (wi_ifF rfl ?_)
    refine q1 (ls' := []) I_96_11 rfl (wi_bipush (-2) rfl ?_)
    exact q0 I_96_13 (wi_iret T_96 C_96 ⟨_, rfl, H⟩)
  · replace H := H.2 h
    refine q1 (ls' := [(0, .ref 3), (1, .int a1)]) I_53_4 rfl (wi_iload_n _ rfl ?_)
    refine q0 I_53_5 (wi_aload_n _ rfl ?_)
    refine q0 I_53_6 (wi_getI S_3 rfl (by decide) rfl ?_)
    refine q0 I_53_9 (wi_ic_ge (fun h => ?_) (fun h => ?_))
    · replace H := H.1 h
      refine q1 (ls' := []) I_53_16 rfl (wi_iconst 0 rfl ?_)
      refine q1 (ls' := []) I_53_17 rfl (wi_zret T_53 (Or.inl C_53) (Or.inl rfl) ⟨_, rfl, ?_⟩)
      refine q0 I_96_8 (wi_ifF rfl ?_)
      refine q1 (ls' := []) I_96_11 rfl (wi_bipush (-2) rfl ?_)
      exact q0 I_96_13 (wi_iret T_96 C_96 ⟨_, rfl, H⟩)
    · replace H := H.2 h
      refine q1 (ls' := []) I_53_12 rfl (wi_iconst 1 rfl ?_)
      refine q0 I_53_13 (wi_goto ?_)
      refine q1 (ls' := []) I_53_17 rfl (wi_zret T_53 (Or.inl C_53) (Or.inr rfl) ⟨_, rfl, ?_⟩)
      refine q0 I_96_8 (wi_ifT rfl ?_)
      refine q1 (ls' := [(0, .ref 0), (1, .int a1), (2, .int a2)]) I_96_14 rfl (wi_iload_n _ rfl ?_)
      refine q0 I_96_15 (wi_tsw ?_)
      refine sw_cons 0 rfl ⟨fun h => ?_, fun h => ?_⟩
      · replace H := H.1 h
        refine q1 (ls' := [(0, .ref 0), (1, .int a1)]) I_96_44 rfl (wi_aload_n _ rfl ?_)
        refine q0 I_96_45 (wi_get (.ref 3) S_0 rfl (by decide) rfl ?_)
        refine q0 I_96_48 (wi_iload_n _ rfl ?_)
        refine q0 I_96_49 (wi_virtI (e := 1) [.int a1] [] S_3 rfl (by decide) rfl rfl rfl (okC_i rfl rfl rfl) C_8 (by decide) (ClI_mono H ?_))
        intro r1 di1 dl1 H
        exact q0 I_96_52 (wi_iret T_96 C_96 ⟨_, rfl, H⟩)
      · replace H := H.2 h
        refine sw_cons 1 rfl ⟨fun h => ?_, fun h => ?_⟩
        · replace H := H.1 h
          refine q1 (ls' := [(0, .ref 0), (1, .int a1)]) I_96_53 rfl (wi_aload_n _ rfl ?_)
          refine q0 I_96_54 (wi_get (.ref 3) S_0 rfl (by decide) rfl ?_)
          refine q0 I_96_57 (wi_iload_n _ rfl ?_)
          refine q0 I_96_58 (wi_virtI (e := 1) [.int a1] [] S_3 rfl (by decide) rfl rfl rfl (okC_i rfl rfl rfl) C_9 (by decide) (ClI_mono H ?_))
          intro r2 di2 dl2 H
          exact q0 I_96_61 (wi_iret T_96 C_96 ⟨_, rfl, H⟩)
        · replace H := H.2 h
          refine sw_cons 2 rfl ⟨fun h => ?_, fun h => ?_⟩
          · replace H := H.1 h
            refine q1 (ls' := [(0, .ref 0), (1, .int a1)]) I_96_62 rfl (wi_aload_n _ rfl ?_)
            refine q0 I_96_63 (wi_get (.ref 3) S_0 rfl (by decide) rfl ?_)
            refine q0 I_96_66 (wi_iload_n _ rfl ?_)
            refine q0 I_96_67 (wi_virtI (e := 1) [.int a1] [] S_3 rfl (by decide) rfl rfl rfl (okC_i rfl rfl rfl) C_10 (by decide) (ClI_mono H ?_))
            intro r3 di3 dl3 H
            exact q0 I_96_70 (wi_iret T_96 C_96 ⟨_, rfl, H⟩)
          · replace H := H.2 h
            refine sw_cons 3 rfl ⟨fun h => ?_, fun h => ?_⟩
            · replace H := H.1 h
              refine q1 (ls' := [(0, .ref 0), (1, .int a1)]) I_96_71 rfl (wi_aload_n _ rfl ?_)
              refine q0 I_96_72 (wi_get (.ref 3) S_0 rfl (by decide) rfl ?_)
              refine q0 I_96_75 (wi_iload_n _ rfl ?_)
              refine q0 I_96_76 (wi_virtI (e := 1) [.int a1] [] S_3 rfl (by decide) rfl rfl rfl (okC_i rfl rfl rfl) C_11 (by decide) (ClI_mono H ?_))
              intro r4 di4 dl4 H
              exact q0 I_96_79 (wi_iret T_96 C_96 ⟨_, rfl, H⟩)
            · replace H := H.2 h
              refine sw_nil ?_
              refine q1 (ls' := []) I_96_80 rfl (wi_bipush (-2) rfl ?_)
              exact q0 I_96_82 (wi_iret T_96 C_96 ⟨_, rfl, H⟩)
theorem r_97 {a1 : Int32} {di : tDi} {dl : tDl} {K : Int32 → tDi → tDl → Prop} (H : ((a1 < 0 → (K (-2) di dl)) ∧ (0 ≤ a1 → ((a1 < 24 → ((a1 < 0 → (K (-1) di dl)) ∧ (0 ≤ a1 → (((di 5 4) ≤ a1 → (K (-1) di dl)) ∧ (a1 < (di 5 4) → (ClI 1 35 [.ref 5, .int a1] di dl (fun r1 di1 dl1 => (K r1 di1 dl1)))))))) ∧ (24 ≤ a1 → (K (-2) di dl)))))) : ClI 2 97 [.ref 0, .int a1] di dl K := by
  refine Cl_of C_97 Z_97 [(0, .ref 0), (1, .int a1)] rfl ?_
  refine q0 I_97_0 (wi_iload_n _ rfl ?_)
  refine q0 I_97_1 (wi_if_lt (fun h => ?_) (fun h => ?_))
  · replace H := H.1 h
    refine q1 (ls' := []) I_97_10 rfl (wi_bipush (-2) rfl ?_)
    exact q0 I_97_12 (wi_iret T_97 C_97 ⟨_, rfl, H⟩)
  · replace H := H.2 h
    refine q1 (ls' := [(0, .ref 0), (1, .int a1)]) I_97_4 rfl (wi_iload_n _ rfl ?_)
    refine q0 I_97_5 (wi_bipush 24 rfl ?_)
    refine q0 I_97_7 (wi_ic_lt (fun h => ?_) (fun h => ?_))
    · replace H := H.1 h
      refine q1 (ls' := [(0, .ref 0), (1, .int a1)]) I_97_13 rfl (wi_aload_n _ rfl ?_)
      refine q0 I_97_14 (wi_get (.ref 5) S_0 rfl (by decide) rfl ?_)
      refine q0 I_97_17 (wi_iload_n _ rfl ?_)
      refine q0 I_97_18 (wi_virtI (e := 1) [.int a1] [] S_5 rfl (by decide) rfl rfl rfl (okC_i rfl rfl rfl) C_53 (by decide) (Cl_of C_53 Z_53 [(0, .ref 5), (1, .int a1)] rfl ?_))
      refine q0 I_53_0 (wi_iload_n _ rfl ?_)
      refine q0 I_53_1 (wi_if_lt (fun h => ?_) (fun h => ?_))
      · replace H := H.1 h
        refine q1 (ls' := []) I_53_16 rfl (wi_iconst 0 rfl ?_)
        refine q1 (ls' := []) I_53_17 rfl (wi_zret T_53 (Or.inl C_53) (Or.inl rfl) ⟨_, rfl, ?_⟩)
        refine q0 I_97_21 (wi_ifT rfl ?_)
        refine q1 (ls' := []) I_97_35 rfl (wi_iconst (-1) rfl ?_)
        exact q1 (ls' := []) I_97_36 rfl (wi_iret T_97 C_97 ⟨_, rfl, H⟩)
      · replace H := H.2 h
        refine q1 (ls' := [(0, .ref 5), (1, .int a1)]) I_53_4 rfl (wi_iload_n _ rfl ?_)
        refine q0 I_53_5 (wi_aload_n _ rfl ?_)
        refine q0 I_53_6 (wi_getI S_5 rfl (by decide) rfl ?_)
        refine q0 I_53_9 (wi_ic_ge (fun h => ?_) (fun h => ?_))
        · replace H := H.1 h
          refine q1 (ls' := []) I_53_16 rfl (wi_iconst 0 rfl ?_)
          refine q1 (ls' := []) I_53_17 rfl (wi_zret T_53 (Or.inl C_53) (Or.inl rfl) ⟨_, rfl, ?_⟩)
          refine q0 I_97_21 (wi_ifT rfl ?_)
          refine q1 (ls' := []) I_97_35 rfl (wi_iconst (-1) rfl ?_)
          exact q1 (ls' := []) I_97_36 rfl (wi_iret T_97 C_97 ⟨_, rfl, H⟩)
        · replace H := H.2 h
          refine q1 (ls' := []) I_53_12 rfl (wi_iconst 1 rfl ?_)
          refine q0 I_53_13 (wi_goto ?_)
          refine q1 (ls' := []) I_53_17 rfl (wi_zret T_53 (Or.inl C_53) (Or.inr rfl) ⟨_, rfl, ?_⟩)
          refine q0 I_97_21 (wi_ifF rfl ?_)
          refine q1 (ls' := [(0, .ref 0), (1, .int a1)]) I_97_24 rfl (wi_aload_n _ rfl ?_)
          refine q0 I_97_25 (wi_get (.ref 5) S_0 rfl (by decide) rfl ?_)
          refine q0 I_97_28 (wi_iload_n _ rfl ?_)
          refine q0 I_97_29 (wi_virtI (e := 1) [.int a1] [] S_5 rfl (by decide) rfl rfl rfl (okC_i rfl rfl rfl) C_35 (by decide) (ClI_mono H ?_))
          intro r1 di1 dl1 H
          refine q0 I_97_32 (wi_goto ?_)
          exact q1 (ls' := []) I_97_36 rfl (wi_iret T_97 C_97 ⟨_, rfl, H⟩)
    · replace H := H.2 h
      refine q1 (ls' := []) I_97_10 rfl (wi_bipush (-2) rfl ?_)
      exact q0 I_97_12 (wi_iret T_97 C_97 ⟨_, rfl, H⟩)
theorem r_98 {a1 : Int32} {a2 : Int32} {di : tDi} {dl : tDl} {K : Int32 → tDi → tDl → Prop} (H : ((¬ a1 = 0 → ((¬ a1 = 1 → (K (-2) di dl)) ∧ (a1 = 1 → ((a2 < 0 → (K (-2) di dl)) ∧ (0 ≤ a2 → ((1 < a2 → (K (-2) di dl)) ∧ (a2 ≤ 1 → (K (di 8 9) (up2 (up2 di 8 9 a2) 8 10 1) dl)))))))) ∧ (a1 = 0 → ((a2 < 0 → ((¬ a1 = 1 → (K (-2) di dl)) ∧ (a1 = 1 → ((a2 < 0 → (K (-2) di dl)) ∧ (0 ≤ a2 → ((1 < a2 → (K (-2) di dl)) ∧ (a2 ≤ 1 → (K (di 8 9) (up2 (up2 di 8 9 a2) 8 10 1) dl)))))))) ∧ (0 ≤ a2 → ((40 < a2 → ((¬ a1 = 1 → (K (-2) di dl)) ∧ (a1 = 1 → ((a2 < 0 → (K (-2) di dl)) ∧ (0 ≤ a2 → ((1 < a2 → (K (-2) di dl)) ∧ (a2 ≤ 1 → (K (di 8 9) (up2 (up2 di 8 9 a2) 8 10 1) dl)))))))) ∧ (a2 ≤ 40 → (K (di 8 8) (up2 (up2 di 8 8 a2) 8 10 1) dl)))))))) : ClI 1 98 [.ref 0, .int a1, .int a2] di dl K := by
  refine Cl_of C_98 Z_98 [(0, .ref 0), (1, .int a1), (2, .int a2)] rfl ?_
  refine q0 I_98_0 (wi_iload_n _ rfl ?_)
  refine q0 I_98_1 (wi_if_ne (fun h => ?_) (fun h => ?_))
  · replace H := H.1 h
    refine q1 (ls' := [(0, .ref 0), (1, .int a1), (2, .int a2)]) I_98_23 rfl (wi_iload_n _ rfl ?_)
    refine q0 I_98_24 (wi_iconst 1 rfl ?_)
    refine q0 I_98_25 (wi_ic_ne (fun h => ?_) (fun h => ?_))
    · replace H := H.1 h
      refine q1 (ls' := []) I_98_46 rfl (wi_bipush (-2) rfl ?_)
      exact q0 I_98_48 (wi_iret T_98 C_98 ⟨_, rfl, H⟩)
    · replace H := H.2 h
      refine q1 (ls' := [(0, .ref 0), (2, .int a2)]) I_98_28 rfl (wi_iload_n _ rfl ?_)
      refine q0 I_98_29 (wi_if_lt (fun h => ?_) (fun h => ?_))
      · replace H := H.1 h
        refine q1 (ls' := []) I_98_46 rfl (wi_bipush (-2) rfl ?_)
        exact q0 I_98_48 (wi_iret T_98 C_98 ⟨_, rfl, H⟩)
      · replace H := H.2 h
        refine q1 (ls' := [(0, .ref 0), (2, .int a2)]) I_98_32 rfl (wi_iload_n _ rfl ?_)
        refine q0 I_98_33 (wi_iconst 1 rfl ?_)
        refine q0 I_98_34 (wi_ic_gt (fun h => ?_) (fun h => ?_))
        · replace H := H.1 h
          refine q1 (ls' := []) I_98_46 rfl (wi_bipush (-2) rfl ?_)
          exact q0 I_98_48 (wi_iret T_98 C_98 ⟨_, rfl, H⟩)
        · replace H := H.2 h
          refine q1 (ls' := [(0, .ref 0), (2, .int a2)]) I_98_37 rfl (wi_aload_n _ rfl ?_)
          refine q0 I_98_38 (wi_get (.ref 8) S_0 rfl (by decide) rfl ?_)
          refine q0 I_98_41 (wi_iload_n _ rfl ?_)
          refine q0 I_98_42 (wi_virtI (e := 0) [.int a2] [] S_8 rfl (by decide) rfl rfl rfl (okC_i rfl rfl rfl) C_63 (by decide) (Cl_of C_63 Z_63 [(0, .ref 8), (1, .int a2)] rfl ?_))
          refine q0 I_63_0 (wi_aload_n _ rfl ?_)
          refine q0 I_63_1 (wi_getI S_8 rfl (by decide) rfl ?_)
          refine q0 I_63_4 (wi_istore_n [(0, .ref 8), (1, .int a2), (2, .int (di 8 9))] (lt_e X_63 rfl) rfl ?_)
          refine q0 I_63_5 (wi_aload_n _ rfl ?_)
          refine q0 I_63_6 (wi_iload_n _ rfl ?_)
          refine q0 I_63_7 (wi_putI S_8 rfl (by decide) rfl rfl rfl ?_)
          refine q0 I_63_10 (wi_aload_n _ rfl ?_)
          refine q0 I_63_11 (wi_iconst 1 rfl ?_)
          refine q0 I_63_12 (wi_putZ S_8 rfl (by decide) rfl rfl rfl (Or.inr rfl) ?_)
          refine q0 I_63_15 (wi_iload_n _ rfl ?_)
          refine q0 I_63_16 (wi_iret T_63 C_63 ⟨_, rfl, ?_⟩)
          exact q0 I_98_45 (wi_iret T_98 C_98 ⟨_, rfl, H⟩)
  · replace H := H.2 h
    refine q1 (ls' := [(0, .ref 0), (1, .int a1), (2, .int a2)]) I_98_4 rfl (wi_iload_n _ rfl ?_)
    refine q0 I_98_5 (wi_if_lt (fun h => ?_) (fun h => ?_))
    · replace H := H.1 h
      refine q1 (ls' := [(0, .ref 0), (1, .int a1), (2, .int a2)]) I_98_23 rfl (wi_iload_n _ rfl ?_)
      refine q0 I_98_24 (wi_iconst 1 rfl ?_)
      refine q0 I_98_25 (wi_ic_ne (fun h => ?_) (fun h => ?_))
      · replace H := H.1 h
        refine q1 (ls' := []) I_98_46 rfl (wi_bipush (-2) rfl ?_)
        exact q0 I_98_48 (wi_iret T_98 C_98 ⟨_, rfl, H⟩)
      · replace H := H.2 h
        refine q1 (ls' := [(0, .ref 0), (2, .int a2)]) I_98_28 rfl (wi_iload_n _ rfl ?_)
        refine q0 I_98_29 (wi_if_lt (fun h => ?_) (fun h => ?_))
        · replace H := H.1 h
          refine q1 (ls' := []) I_98_46 rfl (wi_bipush (-2) rfl ?_)
          exact q0 I_98_48 (wi_iret T_98 C_98 ⟨_, rfl, H⟩)
        · replace H := H.2 h
          refine q1 (ls' := [(0, .ref 0), (2, .int a2)]) I_98_32 rfl (wi_iload_n _ rfl ?_)
          refine q0 I_98_33 (wi_iconst 1 rfl ?_)
          refine q0 I_98_34 (wi_ic_gt (fun h => ?_) (fun h => ?_))
          · replace H := H.1 h
            refine q1 (ls' := []) I_98_46 rfl (wi_bipush (-2) rfl ?_)
            exact q0 I_98_48 (wi_iret T_98 C_98 ⟨_, rfl, H⟩)
          · replace H := H.2 h
            refine q1 (ls' := [(0, .ref 0), (2, .int a2)]) I_98_37 rfl (wi_aload_n _ rfl ?_)
            refine q0 I_98_38 (wi_get (.ref 8) S_0 rfl (by decide) rfl ?_)
            refine q0 I_98_41 (wi_iload_n _ rfl ?_)
            refine q0 I_98_42 (wi_virtI (e := 0) [.int a2] [] S_8 rfl (by decide) rfl rfl rfl (okC_i rfl rfl rfl) C_63 (by decide) (Cl_of C_63 Z_63 [(0, .ref 8), (1, .int a2)] rfl ?_))
            refine q0 I_63_0 (wi_aload_n _ rfl ?_)
            refine q0 I_63_1 (wi_getI S_8 rfl (by decide) rfl ?_)
            refine q0 I_63_4 (wi_istore_n [(0, .ref 8), (1, .int a2), (2, .int (di 8 9))] (lt_e X_63 rfl) rfl ?_)
            refine q0 I_63_5 (wi_aload_n _ rfl ?_)
            refine q0 I_63_6 (wi_iload_n _ rfl ?_)
            refine q0 I_63_7 (wi_putI S_8 rfl (by decide) rfl rfl rfl ?_)
            refine q0 I_63_10 (wi_aload_n _ rfl ?_)
            refine q0 I_63_11 (wi_iconst 1 rfl ?_)
            refine q0 I_63_12 (wi_putZ S_8 rfl (by decide) rfl rfl rfl (Or.inr rfl) ?_)
            refine q0 I_63_15 (wi_iload_n _ rfl ?_)
            refine q0 I_63_16 (wi_iret T_63 C_63 ⟨_, rfl, ?_⟩)
            exact q0 I_98_45 (wi_iret T_98 C_98 ⟨_, rfl, H⟩)
    · replace H := H.2 h
      refine q1 (ls' := [(0, .ref 0), (1, .int a1), (2, .int a2)]) I_98_8 rfl (wi_iload_n _ rfl ?_)
      refine q0 I_98_9 (wi_bipush 40 rfl ?_)
      refine q0 I_98_11 (wi_ic_gt (fun h => ?_) (fun h => ?_))
      · replace H := H.1 h
        refine q1 (ls' := [(0, .ref 0), (1, .int a1), (2, .int a2)]) I_98_23 rfl (wi_iload_n _ rfl ?_)
        refine q0 I_98_24 (wi_iconst 1 rfl ?_)
        refine q0 I_98_25 (wi_ic_ne (fun h => ?_) (fun h => ?_))
        · replace H := H.1 h
          refine q1 (ls' := []) I_98_46 rfl (wi_bipush (-2) rfl ?_)
          exact q0 I_98_48 (wi_iret T_98 C_98 ⟨_, rfl, H⟩)
        · replace H := H.2 h
          refine q1 (ls' := [(0, .ref 0), (2, .int a2)]) I_98_28 rfl (wi_iload_n _ rfl ?_)
          refine q0 I_98_29 (wi_if_lt (fun h => ?_) (fun h => ?_))
          · replace H := H.1 h
            refine q1 (ls' := []) I_98_46 rfl (wi_bipush (-2) rfl ?_)
            exact q0 I_98_48 (wi_iret T_98 C_98 ⟨_, rfl, H⟩)
          · replace H := H.2 h
            refine q1 (ls' := [(0, .ref 0), (2, .int a2)]) I_98_32 rfl (wi_iload_n _ rfl ?_)
            refine q0 I_98_33 (wi_iconst 1 rfl ?_)
            refine q0 I_98_34 (wi_ic_gt (fun h => ?_) (fun h => ?_))
            · replace H := H.1 h
              refine q1 (ls' := []) I_98_46 rfl (wi_bipush (-2) rfl ?_)
              exact q0 I_98_48 (wi_iret T_98 C_98 ⟨_, rfl, H⟩)
            · replace H := H.2 h
              refine q1 (ls' := [(0, .ref 0), (2, .int a2)]) I_98_37 rfl (wi_aload_n _ rfl ?_)
              refine q0 I_98_38 (wi_get (.ref 8) S_0 rfl (by decide) rfl ?_)
              refine q0 I_98_41 (wi_iload_n _ rfl ?_)
              refine q0 I_98_42 (wi_virtI (e := 0) [.int a2] [] S_8 rfl (by decide) rfl rfl rfl (okC_i rfl rfl rfl) C_63 (by decide) (Cl_of C_63 Z_63 [(0, .ref 8), (1, .int a2)] rfl ?_))
              refine q0 I_63_0 (wi_aload_n _ rfl ?_)
              refine q0 I_63_1 (wi_getI S_8 rfl (by decide) rfl ?_)
              refine q0 I_63_4 (wi_istore_n [(0, .ref 8), (1, .int a2), (2, .int (di 8 9))] (lt_e X_63 rfl) rfl ?_)
              refine q0 I_63_5 (wi_aload_n _ rfl ?_)
              refine q0 I_63_6 (wi_iload_n _ rfl ?_)
              refine q0 I_63_7 (wi_putI S_8 rfl (by decide) rfl rfl rfl ?_)
              refine q0 I_63_10 (wi_aload_n _ rfl ?_)
              refine q0 I_63_11 (wi_iconst 1 rfl ?_)
              refine q0 I_63_12 (wi_putZ S_8 rfl (by decide) rfl rfl rfl (Or.inr rfl) ?_)
              refine q0 I_63_15 (wi_iload_n _ rfl ?_)
              refine q0 I_63_16 (wi_iret T_63 C_63 ⟨_, rfl, ?_⟩)
              exact q0 I_98_45 (wi_iret T_98 C_98 ⟨_, rfl, H⟩)
      · replace H := H.2 h
        refine q1 (ls' := [(0, .ref 0), (2, .int a2)]) I_98_14 rfl (wi_aload_n _ rfl ?_)
        refine q0 I_98_15 (wi_get (.ref 8) S_0 rfl (by decide) rfl ?_)
        refine q0 I_98_18 (wi_iload_n _ rfl ?_)
        refine q0 I_98_19 (wi_virtI (e := 0) [.int a2] [] S_8 rfl (by decide) rfl rfl rfl (okC_i rfl rfl rfl) C_62 (by decide) (Cl_of C_62 Z_62 [(0, .ref 8), (1, .int a2)] rfl ?_))
        refine q0 I_62_0 (wi_aload_n _ rfl ?_)
        refine q0 I_62_1 (wi_getI S_8 rfl (by decide) rfl ?_)
        refine q0 I_62_4 (wi_istore_n [(0, .ref 8), (1, .int a2), (2, .int (di 8 8))] (lt_e X_62 rfl) rfl ?_)
        refine q0 I_62_5 (wi_aload_n _ rfl ?_)
        refine q0 I_62_6 (wi_iload_n _ rfl ?_)
        refine q0 I_62_7 (wi_putI S_8 rfl (by decide) rfl rfl rfl ?_)
        refine q0 I_62_10 (wi_aload_n _ rfl ?_)
        refine q0 I_62_11 (wi_iconst 1 rfl ?_)
        refine q0 I_62_12 (wi_putZ S_8 rfl (by decide) rfl rfl rfl (Or.inr rfl) ?_)
        refine q0 I_62_15 (wi_iload_n _ rfl ?_)
        refine q0 I_62_16 (wi_iret T_62 C_62 ⟨_, rfl, ?_⟩)
        exact q0 I_98_22 (wi_iret T_98 C_98 ⟨_, rfl, H⟩)
theorem r_99 {a1 : Int32} {a2 : Int32} {a3 : Int32} {di : tDi} {dl : tDl} {K : Int32 → tDi → tDl → Prop} (H : ((a1 < 0 → (K (-2) di dl)) ∧ (0 ≤ a1 → (((di 5 4) < a1 → (K (-2) di dl)) ∧ (a1 ≤ (di 5 4) → ((a2 < 0 → (K (-2) di dl)) ∧ (0 ≤ a2 → (((di 3 4) ≤ a2 → (K (-2) di dl)) ∧ (a2 < (di 3 4) → (ClV 3 64 [.ref 8] di dl (fun di1 dl1 => ((a3 = 0 → (ClI 1 65 [.ref 8, .int a1, .int a2] di1 dl1 (fun r2 di2 dl2 => (K r2 di2 dl2)))) ∧ (¬ a3 = 0 → ((a3 = 1 → (ClI 1 66 [.ref 8, .int a1, .int a2] di1 dl1 (fun r3 di3 dl3 => (K r3 di3 dl3)))) ∧ (¬ a3 = 1 → ((a3 = 2 → (ClI 1 67 [.ref 8, .int a1, .int a2] di1 dl1 (fun r4 di4 dl4 => (K r4 di4 dl4)))) ∧ (¬ a3 = 2 → (K (-2) di1 dl1)))))))))))))))))) : ClI 4 99 [.ref 0, .int a1, .int a2, .int a3] di dl K := by
  refine Cl_of C_99 Z_99 [(0, .ref 0), (1, .int a1), (2, .int a2), (3, .int a3)] rfl ?_
  refine q0 I_99_0 (wi_aload_n _ rfl ?_)
  refine q0 I_99_1 (wi_iload_n _ rfl ?_)
  refine q0 I_99_2 (wi_virtI (e := 3) [.int a1] [] S_0 rfl (by decide) rfl rfl rfl (okC_i rfl rfl rfl) C_128 (by decide) (Cl_of C_128 Z_128 [(0, .ref 0), (1, .int a1)] rfl ?_))
  refine q0 I_128_0 (wi_iload_n _ rfl ?_)
  refine q0 I_128_1 (wi_if_lt (fun h => ?_) (fun h => ?_))
  · replace H := H.1 h
    refine q1 (ls' := []) I_128_19 rfl (wi_iconst 0 rfl ?_)
    refine q1 (ls' := []) I_128_20 rfl (wi_zret T_128 (Or.inl C_128) (Or.inl rfl) ⟨_, rfl, ?_⟩)
    refine q0 I_99_5 (wi_ifT rfl ?_)
    refine q1 (ls' := []) I_99_19 rfl (wi_bipush (-2) rfl ?_)
    exact q0 I_99_21 (wi_iret T_99 C_99 ⟨_, rfl, H⟩)
  · replace H := H.2 h
    refine q1 (ls' := [(0, .ref 0), (1, .int a1)]) I_128_4 rfl (wi_iload_n _ rfl ?_)
    refine q0 I_128_5 (wi_aload_n _ rfl ?_)
    refine q0 I_128_6 (wi_get (.ref 5) S_0 rfl (by decide) rfl ?_)
    refine q0 I_128_9 (wi_getI S_5 rfl (by decide) rfl ?_)
    refine q0 I_128_12 (wi_ic_gt (fun h => ?_) (fun h => ?_))
    · replace H := H.1 h
      refine q1 (ls' := []) I_128_19 rfl (wi_iconst 0 rfl ?_)
      refine q1 (ls' := []) I_128_20 rfl (wi_zret T_128 (Or.inl C_128) (Or.inl rfl) ⟨_, rfl, ?_⟩)
      refine q0 I_99_5 (wi_ifT rfl ?_)
      refine q1 (ls' := []) I_99_19 rfl (wi_bipush (-2) rfl ?_)
      exact q0 I_99_21 (wi_iret T_99 C_99 ⟨_, rfl, H⟩)
    · replace H := H.2 h
      refine q1 (ls' := []) I_128_15 rfl (wi_iconst 1 rfl ?_)
      refine q0 I_128_16 (wi_goto ?_)
      refine q1 (ls' := []) I_128_20 rfl (wi_zret T_128 (Or.inl C_128) (Or.inr rfl) ⟨_, rfl, ?_⟩)
      refine q0 I_99_5 (wi_ifF rfl ?_)
      refine q1 (ls' := [(0, .ref 0), (1, .int a1), (2, .int a2), (3, .int a3)]) I_99_8 rfl (wi_aload_n _ rfl ?_)
      refine q0 I_99_9 (wi_get (.ref 3) S_0 rfl (by decide) rfl ?_)
      refine q0 I_99_12 (wi_iload_n _ rfl ?_)
      refine q0 I_99_13 (wi_virtI (e := 3) [.int a2] [] S_3 rfl (by decide) rfl rfl rfl (okC_i rfl rfl rfl) C_53 (by decide) (Cl_of C_53 Z_53 [(0, .ref 3), (1, .int a2)] rfl ?_))
      refine q0 I_53_0 (wi_iload_n _ rfl ?_)
      refine q0 I_53_1 (wi_if_lt (fun h => ?_) (fun h => ?_))
      · replace H := H.1 h
        refine q1 (ls' := []) I_53_16 rfl (wi_iconst 0 rfl ?_)
        refine q1 (ls' := []) I_53_17 rfl (wi_zret T_53 (Or.inl C_53) (Or.inl rfl) ⟨_, rfl, ?_⟩)
        refine q0 I_99_16 (wi_ifF rfl ?_)
        refine q1 (ls' := []) I_99_19 rfl (wi_bipush (-2) rfl ?_)
        exact q0 I_99_21 (wi_iret T_99 C_99 ⟨_, rfl, H⟩)
      · replace H := H.2 h
        refine q1 (ls' := [(0, .ref 3), (1, .int a2)]) I_53_4 rfl (wi_iload_n _ rfl ?_)
        refine q0 I_53_5 (wi_aload_n _ rfl ?_)
        refine q0 I_53_6 (wi_getI S_3 rfl (by decide) rfl ?_)
        refine q0 I_53_9 (wi_ic_ge (fun h => ?_) (fun h => ?_))
        · replace H := H.1 h
          refine q1 (ls' := []) I_53_16 rfl (wi_iconst 0 rfl ?_)
          refine q1 (ls' := []) I_53_17 rfl (wi_zret T_53 (Or.inl C_53) (Or.inl rfl) ⟨_, rfl, ?_⟩)
          refine q0 I_99_16 (wi_ifF rfl ?_)
          refine q1 (ls' := []) I_99_19 rfl (wi_bipush (-2) rfl ?_)
          exact q0 I_99_21 (wi_iret T_99 C_99 ⟨_, rfl, H⟩)
        · replace H := H.2 h
          refine q1 (ls' := []) I_53_12 rfl (wi_iconst 1 rfl ?_)
          refine q0 I_53_13 (wi_goto ?_)
          refine q1 (ls' := []) I_53_17 rfl (wi_zret T_53 (Or.inl C_53) (Or.inr rfl) ⟨_, rfl, ?_⟩)
          refine q0 I_99_16 (wi_ifT rfl ?_)
          refine q1 (ls' := [(0, .ref 0), (1, .int a1), (2, .int a2), (3, .int a3)]) I_99_22 rfl (wi_aload_n _ rfl ?_)
          refine q0 I_99_23 (wi_get (.ref 8) S_0 rfl (by decide) rfl ?_)
          refine q0 I_99_26 (wi_virtV (e := 3) [] [] S_8 rfl (by decide) rfl rfl rfl (okC_i rfl rfl rfl) C_64 (by decide) (ClV_mono H ?_))
          intro di1 dl1 H
          refine q0 I_99_29 (wi_iload_n _ rfl ?_)
          refine q0 I_99_30 (wi_tsw ?_)
          refine sw_cons 0 rfl ⟨fun h => ?_, fun h => ?_⟩
          · replace H := H.1 h
            refine q1 (ls' := [(0, .ref 0), (1, .int a1), (2, .int a2)]) I_99_56 rfl (wi_aload_n _ rfl ?_)
            refine q0 I_99_57 (wi_get (.ref 8) S_0 rfl (by decide) rfl ?_)
            refine q0 I_99_60 (wi_iload_n _ rfl ?_)
            refine q0 I_99_61 (wi_iload_n _ rfl ?_)
            refine q0 I_99_62 (wi_virtI (e := 1) [.int a1, .int a2] [] S_8 rfl (by decide) rfl rfl rfl (okC_i rfl rfl rfl) C_65 (by decide) (ClI_mono H ?_))
            intro r2 di2 dl2 H
            exact q0 I_99_65 (wi_iret T_99 C_99 ⟨_, rfl, H⟩)
          · replace H := H.2 h
            refine sw_cons 1 rfl ⟨fun h => ?_, fun h => ?_⟩
            · replace H := H.1 h
              refine q1 (ls' := [(0, .ref 0), (1, .int a1), (2, .int a2)]) I_99_66 rfl (wi_aload_n _ rfl ?_)
              refine q0 I_99_67 (wi_get (.ref 8) S_0 rfl (by decide) rfl ?_)
              refine q0 I_99_70 (wi_iload_n _ rfl ?_)
              refine q0 I_99_71 (wi_iload_n _ rfl ?_)
              refine q0 I_99_72 (wi_virtI (e := 1) [.int a1, .int a2] [] S_8 rfl (by decide) rfl rfl rfl (okC_i rfl rfl rfl) C_66 (by decide) (ClI_mono H ?_))
              intro r3 di3 dl3 H
              exact q0 I_99_75 (wi_iret T_99 C_99 ⟨_, rfl, H⟩)
            · replace H := H.2 h
              refine sw_cons 2 rfl ⟨fun h => ?_, fun h => ?_⟩
              · replace H := H.1 h
                refine q1 (ls' := [(0, .ref 0), (1, .int a1), (2, .int a2)]) I_99_76 rfl (wi_aload_n _ rfl ?_)
                refine q0 I_99_77 (wi_get (.ref 8) S_0 rfl (by decide) rfl ?_)
                refine q0 I_99_80 (wi_iload_n _ rfl ?_)
                refine q0 I_99_81 (wi_iload_n _ rfl ?_)
                refine q0 I_99_82 (wi_virtI (e := 1) [.int a1, .int a2] [] S_8 rfl (by decide) rfl rfl rfl (okC_i rfl rfl rfl) C_67 (by decide) (ClI_mono H ?_))
                intro r4 di4 dl4 H
                exact q0 I_99_85 (wi_iret T_99 C_99 ⟨_, rfl, H⟩)
              · replace H := H.2 h
                refine sw_nil ?_
                refine q1 (ls' := []) I_99_86 rfl (wi_bipush (-2) rfl ?_)
                exact q0 I_99_88 (wi_iret T_99 C_99 ⟨_, rfl, H⟩)
theorem r_100 {a1 : Int32} {a2 : Int32} {di : tDi} {dl : tDl} {K : Int32 → tDi → tDl → Prop} (H : ((a1 < 0 → (K (-2) di dl)) ∧ (0 ≤ a1 → (((di 5 4) < a1 → (K (-2) di dl)) ∧ (a1 ≤ (di 5 4) → ((a2 < 0 → (K (-2) di dl)) ∧ (0 ≤ a2 → (((di 3 4) ≤ a2 → (K (-2) di dl)) ∧ (a2 < (di 3 4) → (ClV 3 64 [.ref 8] di dl (fun di1 dl1 => (ClI 2 70 [.ref 8, .int a1, .int a2] di1 dl1 (fun r2 di2 dl2 => (K r2 di2 dl2)))))))))))))) : ClI 4 100 [.ref 0, .int a1, .int a2] di dl K := by
  refine Cl_of C_100 Z_100 [(0, .ref 0), (1, .int a1), (2, .int a2)] rfl ?_
  refine q0 I_100_0 (wi_aload_n _ rfl ?_)
  refine q0 I_100_1 (wi_iload_n _ rfl ?_)
  refine q0 I_100_2 (wi_virtI (e := 3) [.int a1] [] S_0 rfl (by decide) rfl rfl rfl (okC_i rfl rfl rfl) C_128 (by decide) (Cl_of C_128 Z_128 [(0, .ref 0), (1, .int a1)] rfl ?_))
  refine q0 I_128_0 (wi_iload_n _ rfl ?_)
  refine q0 I_128_1 (wi_if_lt (fun h => ?_) (fun h => ?_))
  · replace H := H.1 h
    refine q1 (ls' := []) I_128_19 rfl (wi_iconst 0 rfl ?_)
    refine q1 (ls' := []) I_128_20 rfl (wi_zret T_128 (Or.inl C_128) (Or.inl rfl) ⟨_, rfl, ?_⟩)
    refine q0 I_100_5 (wi_ifT rfl ?_)
    refine q1 (ls' := []) I_100_19 rfl (wi_bipush (-2) rfl ?_)
    exact q0 I_100_21 (wi_iret T_100 C_100 ⟨_, rfl, H⟩)
  · replace H := H.2 h
    refine q1 (ls' := [(0, .ref 0), (1, .int a1)]) I_128_4 rfl (wi_iload_n _ rfl ?_)
    refine q0 I_128_5 (wi_aload_n _ rfl ?_)
    refine q0 I_128_6 (wi_get (.ref 5) S_0 rfl (by decide) rfl ?_)
    refine q0 I_128_9 (wi_getI S_5 rfl (by decide) rfl ?_)
    refine q0 I_128_12 (wi_ic_gt (fun h => ?_) (fun h => ?_))
    · replace H := H.1 h
      refine q1 (ls' := []) I_128_19 rfl (wi_iconst 0 rfl ?_)
      refine q1 (ls' := []) I_128_20 rfl (wi_zret T_128 (Or.inl C_128) (Or.inl rfl) ⟨_, rfl, ?_⟩)
      refine q0 I_100_5 (wi_ifT rfl ?_)
      refine q1 (ls' := []) I_100_19 rfl (wi_bipush (-2) rfl ?_)
      exact q0 I_100_21 (wi_iret T_100 C_100 ⟨_, rfl, H⟩)
    · replace H := H.2 h
      refine q1 (ls' := []) I_128_15 rfl (wi_iconst 1 rfl ?_)
      refine q0 I_128_16 (wi_goto ?_)
      refine q1 (ls' := []) I_128_20 rfl (wi_zret T_128 (Or.inl C_128) (Or.inr rfl) ⟨_, rfl, ?_⟩)
      refine q0 I_100_5 (wi_ifF rfl ?_)
      refine q1 (ls' := [(0, .ref 0), (1, .int a1), (2, .int a2)]) I_100_8 rfl (wi_aload_n _ rfl ?_)
      refine q0 I_100_9 (wi_get (.ref 3) S_0 rfl (by decide) rfl ?_)
      refine q0 I_100_12 (wi_iload_n _ rfl ?_)
      refine q0 I_100_13 (wi_virtI (e := 3) [.int a2] [] S_3 rfl (by decide) rfl rfl rfl (okC_i rfl rfl rfl) C_53 (by decide) (Cl_of C_53 Z_53 [(0, .ref 3), (1, .int a2)] rfl ?_))
      refine q0 I_53_0 (wi_iload_n _ rfl ?_)
      refine q0 I_53_1 (wi_if_lt (fun h => ?_) (fun h => ?_))
      · replace H := H.1 h
        refine q1 (ls' := []) I_53_16 rfl (wi_iconst 0 rfl ?_)
        refine q1 (ls' := []) I_53_17 rfl (wi_zret T_53 (Or.inl C_53) (Or.inl rfl) ⟨_, rfl, ?_⟩)
        refine q0 I_100_16 (wi_ifF rfl ?_)
        refine q1 (ls' := []) I_100_19 rfl (wi_bipush (-2) rfl ?_)
        exact q0 I_100_21 (wi_iret T_100 C_100 ⟨_, rfl, H⟩)
      · replace H := H.2 h
        refine q1 (ls' := [(0, .ref 3), (1, .int a2)]) I_53_4 rfl (wi_iload_n _ rfl ?_)
        refine q0 I_53_5 (wi_aload_n _ rfl ?_)
        refine q0 I_53_6 (wi_getI S_3 rfl (by decide) rfl ?_)
        refine q0 I_53_9 (wi_ic_ge (fun h => ?_) (fun h => ?_))
        · replace H := H.1 h
          refine q1 (ls' := []) I_53_16 rfl (wi_iconst 0 rfl ?_)
          refine q1 (ls' := []) I_53_17 rfl (wi_zret T_53 (Or.inl C_53) (Or.inl rfl) ⟨_, rfl, ?_⟩)
          refine q0 I_100_16 (wi_ifF rfl ?_)
          refine q1 (ls' := []) I_100_19 rfl (wi_bipush (-2) rfl ?_)
          exact q0 I_100_21 (wi_iret T_100 C_100 ⟨_, rfl, H⟩)
        · replace H := H.2 h
          refine q1 (ls' := []) I_53_12 rfl (wi_iconst 1 rfl ?_)
          refine q0 I_53_13 (wi_goto ?_)
          refine q1 (ls' := []) I_53_17 rfl (wi_zret T_53 (Or.inl C_53) (Or.inr rfl) ⟨_, rfl, ?_⟩)
          refine q0 I_100_16 (wi_ifT rfl ?_)
          refine q1 (ls' := [(0, .ref 0), (1, .int a1), (2, .int a2)]) I_100_22 rfl (wi_aload_n _ rfl ?_)
          refine q0 I_100_23 (wi_get (.ref 8) S_0 rfl (by decide) rfl ?_)
          refine q0 I_100_26 (wi_virtV (e := 3) [] [] S_8 rfl (by decide) rfl rfl rfl (okC_i rfl rfl rfl) C_64 (by decide) (ClV_mono H ?_))
          intro di1 dl1 H
          refine q0 I_100_29 (wi_aload_n _ rfl ?_)
          refine q0 I_100_30 (wi_get (.ref 8) S_0 rfl (by decide) rfl ?_)
          refine q0 I_100_33 (wi_iload_n _ rfl ?_)
          refine q0 I_100_34 (wi_iload_n _ rfl ?_)
          refine q0 I_100_35 (wi_virtI (e := 2) [.int a1, .int a2] [] S_8 rfl (by decide) rfl rfl rfl (okC_i rfl rfl rfl) C_70 (by decide) (ClI_mono H ?_))
          intro r2 di2 dl2 H
          exact q0 I_100_38 (wi_iret T_100 C_100 ⟨_, rfl, H⟩)
theorem r_101 {a1 : Int32} {a2 : Int32} {di : tDi} {dl : tDl} {K : Int32 → tDi → tDl → Prop} (H : ((a1 < 0 → (K (-2) di dl)) ∧ (0 ≤ a1 → (((di 5 4) < a1 → (K (-2) di dl)) ∧ (a1 ≤ (di 5 4) → ((a2 < 0 → (K (-2) di dl)) ∧ (0 ≤ a2 → (((di 1 4) ≤ a2 → (K (-2) di dl)) ∧ (a2 < (di 1 4) → (ClV 3 64 [.ref 8] di dl (fun di1 dl1 => (ClI 0 68 [.ref 8, .int a1, .int a2] di1 dl1 (fun r2 di2 dl2 => (K r2 di2 dl2)))))))))))))) : ClI 4 101 [.ref 0, .int a1, .int a2] di dl K := by
  refine Cl_of C_101 Z_101 [(0, .ref 0), (1, .int a1), (2, .int a2)] rfl ?_
  refine q0 I_101_0 (wi_aload_n _ rfl ?_)
  refine q0 I_101_1 (wi_iload_n _ rfl ?_)
  refine q0 I_101_2 (wi_virtI (e := 3) [.int a1] [] S_0 rfl (by decide) rfl rfl rfl (okC_i rfl rfl rfl) C_128 (by decide) (Cl_of C_128 Z_128 [(0, .ref 0), (1, .int a1)] rfl ?_))
  refine q0 I_128_0 (wi_iload_n _ rfl ?_)
  refine q0 I_128_1 (wi_if_lt (fun h => ?_) (fun h => ?_))
  · replace H := H.1 h
    refine q1 (ls' := []) I_128_19 rfl (wi_iconst 0 rfl ?_)
    refine q1 (ls' := []) I_128_20 rfl (wi_zret T_128 (Or.inl C_128) (Or.inl rfl) ⟨_, rfl, ?_⟩)
    refine q0 I_101_5 (wi_ifT rfl ?_)
    refine q1 (ls' := []) I_101_19 rfl (wi_bipush (-2) rfl ?_)
    exact q0 I_101_21 (wi_iret T_101 C_101 ⟨_, rfl, H⟩)
  · replace H := H.2 h
    refine q1 (ls' := [(0, .ref 0), (1, .int a1)]) I_128_4 rfl (wi_iload_n _ rfl ?_)
    refine q0 I_128_5 (wi_aload_n _ rfl ?_)
    refine q0 I_128_6 (wi_get (.ref 5) S_0 rfl (by decide) rfl ?_)
    refine q0 I_128_9 (wi_getI S_5 rfl (by decide) rfl ?_)
    refine q0 I_128_12 (wi_ic_gt (fun h => ?_) (fun h => ?_))
    · replace H := H.1 h
      refine q1 (ls' := []) I_128_19 rfl (wi_iconst 0 rfl ?_)
      refine q1 (ls' := []) I_128_20 rfl (wi_zret T_128 (Or.inl C_128) (Or.inl rfl) ⟨_, rfl, ?_⟩)
      refine q0 I_101_5 (wi_ifT rfl ?_)
      refine q1 (ls' := []) I_101_19 rfl (wi_bipush (-2) rfl ?_)
      exact q0 I_101_21 (wi_iret T_101 C_101 ⟨_, rfl, H⟩)
    · replace H := H.2 h
      refine q1 (ls' := []) I_128_15 rfl (wi_iconst 1 rfl ?_)
      refine q0 I_128_16 (wi_goto ?_)
      refine q1 (ls' := []) I_128_20 rfl (wi_zret T_128 (Or.inl C_128) (Or.inr rfl) ⟨_, rfl, ?_⟩)
      refine q0 I_101_5 (wi_ifF rfl ?_)
      refine q1 (ls' := [(0, .ref 0), (1, .int a1), (2, .int a2)]) I_101_8 rfl (wi_aload_n _ rfl ?_)
      refine q0 I_101_9 (wi_get (.ref 1) S_0 rfl (by decide) rfl ?_)
      refine q0 I_101_12 (wi_iload_n _ rfl ?_)
      refine q0 I_101_13 (wi_virtI (e := 3) [.int a2] [] S_1 rfl (by decide) rfl rfl rfl (okC_i rfl rfl rfl) C_53 (by decide) (Cl_of C_53 Z_53 [(0, .ref 1), (1, .int a2)] rfl ?_))
      refine q0 I_53_0 (wi_iload_n _ rfl ?_)
      refine q0 I_53_1 (wi_if_lt (fun h => ?_) (fun h => ?_))
      · replace H := H.1 h
        refine q1 (ls' := []) I_53_16 rfl (wi_iconst 0 rfl ?_)
        refine q1 (ls' := []) I_53_17 rfl (wi_zret T_53 (Or.inl C_53) (Or.inl rfl) ⟨_, rfl, ?_⟩)
        refine q0 I_101_16 (wi_ifF rfl ?_)
        refine q1 (ls' := []) I_101_19 rfl (wi_bipush (-2) rfl ?_)
        exact q0 I_101_21 (wi_iret T_101 C_101 ⟨_, rfl, H⟩)
      · replace H := H.2 h
        refine q1 (ls' := [(0, .ref 1), (1, .int a2)]) I_53_4 rfl (wi_iload_n _ rfl ?_)
        refine q0 I_53_5 (wi_aload_n _ rfl ?_)
        refine q0 I_53_6 (wi_getI S_1 rfl (by decide) rfl ?_)
        refine q0 I_53_9 (wi_ic_ge (fun h => ?_) (fun h => ?_))
        · replace H := H.1 h
          refine q1 (ls' := []) I_53_16 rfl (wi_iconst 0 rfl ?_)
          refine q1 (ls' := []) I_53_17 rfl (wi_zret T_53 (Or.inl C_53) (Or.inl rfl) ⟨_, rfl, ?_⟩)
          refine q0 I_101_16 (wi_ifF rfl ?_)
          refine q1 (ls' := []) I_101_19 rfl (wi_bipush (-2) rfl ?_)
          exact q0 I_101_21 (wi_iret T_101 C_101 ⟨_, rfl, H⟩)
        · replace H := H.2 h
          refine q1 (ls' := []) I_53_12 rfl (wi_iconst 1 rfl ?_)
          refine q0 I_53_13 (wi_goto ?_)
          refine q1 (ls' := []) I_53_17 rfl (wi_zret T_53 (Or.inl C_53) (Or.inr rfl) ⟨_, rfl, ?_⟩)
          refine q0 I_101_16 (wi_ifT rfl ?_)
          refine q1 (ls' := [(0, .ref 0), (1, .int a1), (2, .int a2)]) I_101_22 rfl (wi_aload_n _ rfl ?_)
          refine q0 I_101_23 (wi_get (.ref 8) S_0 rfl (by decide) rfl ?_)
          refine q0 I_101_26 (wi_virtV (e := 3) [] [] S_8 rfl (by decide) rfl rfl rfl (okC_i rfl rfl rfl) C_64 (by decide) (ClV_mono H ?_))
          intro di1 dl1 H
          refine q0 I_101_29 (wi_aload_n _ rfl ?_)
          refine q0 I_101_30 (wi_get (.ref 8) S_0 rfl (by decide) rfl ?_)
          refine q0 I_101_33 (wi_iload_n _ rfl ?_)
          refine q0 I_101_34 (wi_iload_n _ rfl ?_)
          refine q0 I_101_35 (wi_virtI (e := 0) [.int a1, .int a2] [] S_8 rfl (by decide) rfl rfl rfl (okC_i rfl rfl rfl) C_68 (by decide) (ClI_mono H ?_))
          intro r2 di2 dl2 H
          exact q0 I_101_38 (wi_iret T_101 C_101 ⟨_, rfl, H⟩)
theorem r_102 {a1 : Int32} {a2 : Int32} {di : tDi} {dl : tDl} {K : Int32 → tDi → tDl → Prop} (H : ((a1 < 0 → (K (-2) di dl)) ∧ (0 ≤ a1 → (((di 5 4) < a1 → (K (-2) di dl)) ∧ (a1 ≤ (di 5 4) → ((a2 < 0 → (K (-2) di dl)) ∧ (0 ≤ a2 → ((a2 ≤ 1 → (ClV 3 64 [.ref 8] di dl (fun di1 dl1 => ((¬ a2 = 0 → (ClI 2 72 [.ref 8, .int a1] di1 dl1 (fun r2 di2 dl2 => (K r2 di2 dl2)))) ∧ (a2 = 0 → (ClI 1 71 [.ref 8, .int a1] di1 dl1 (fun r3 di3 dl3 => (K r3 di3 dl3)))))))) ∧ (1 < a2 → (K (-2) di dl)))))))))) : ClI 4 102 [.ref 0, .int a1, .int a2] di dl K := by
  refine Cl_of C_102 Z_102 [(0, .ref 0), (1, .int a1), (2, .int a2)] rfl ?_
  refine q0 I_102_0 (wi_aload_n _ rfl ?_)
  refine q0 I_102_1 (wi_iload_n _ rfl ?_)
  refine q0 I_102_2 (wi_virtI (e := 3) [.int a1] [] S_0 rfl (by decide) rfl rfl rfl (okC_i rfl rfl rfl) C_128 (by decide) (Cl_of C_128 Z_128 [(0, .ref 0), (1, .int a1)] rfl ?_))
  refine q0 I_128_0 (wi_iload_n _ rfl ?_)
  refine q0 I_128_1 (wi_if_lt (fun h => ?_) (fun h => ?_))
  · replace H := H.1 h
    refine q1 (ls' := []) I_128_19 rfl (wi_iconst 0 rfl ?_)
    refine q1 (ls' := []) I_128_20 rfl (wi_zret T_128 (Or.inl C_128) (Or.inl rfl) ⟨_, rfl, ?_⟩)
    refine q0 I_102_5 (wi_ifT rfl ?_)
    refine q1 (ls' := []) I_102_17 rfl (wi_bipush (-2) rfl ?_)
    exact q0 I_102_19 (wi_iret T_102 C_102 ⟨_, rfl, H⟩)
  · replace H := H.2 h
    refine q1 (ls' := [(0, .ref 0), (1, .int a1)]) I_128_4 rfl (wi_iload_n _ rfl ?_)
    refine q0 I_128_5 (wi_aload_n _ rfl ?_)
    refine q0 I_128_6 (wi_get (.ref 5) S_0 rfl (by decide) rfl ?_)
    refine q0 I_128_9 (wi_getI S_5 rfl (by decide) rfl ?_)
    refine q0 I_128_12 (wi_ic_gt (fun h => ?_) (fun h => ?_))
    · replace H := H.1 h
      refine q1 (ls' := []) I_128_19 rfl (wi_iconst 0 rfl ?_)
      refine q1 (ls' := []) I_128_20 rfl (wi_zret T_128 (Or.inl C_128) (Or.inl rfl) ⟨_, rfl, ?_⟩)
      refine q0 I_102_5 (wi_ifT rfl ?_)
      refine q1 (ls' := []) I_102_17 rfl (wi_bipush (-2) rfl ?_)
      exact q0 I_102_19 (wi_iret T_102 C_102 ⟨_, rfl, H⟩)
    · replace H := H.2 h
      refine q1 (ls' := []) I_128_15 rfl (wi_iconst 1 rfl ?_)
      refine q0 I_128_16 (wi_goto ?_)
      refine q1 (ls' := []) I_128_20 rfl (wi_zret T_128 (Or.inl C_128) (Or.inr rfl) ⟨_, rfl, ?_⟩)
      refine q0 I_102_5 (wi_ifF rfl ?_)
      refine q1 (ls' := [(0, .ref 0), (1, .int a1), (2, .int a2)]) I_102_8 rfl (wi_iload_n _ rfl ?_)
      refine q0 I_102_9 (wi_if_lt (fun h => ?_) (fun h => ?_))
      · replace H := H.1 h
        refine q1 (ls' := []) I_102_17 rfl (wi_bipush (-2) rfl ?_)
        exact q0 I_102_19 (wi_iret T_102 C_102 ⟨_, rfl, H⟩)
      · replace H := H.2 h
        refine q1 (ls' := [(0, .ref 0), (1, .int a1), (2, .int a2)]) I_102_12 rfl (wi_iload_n _ rfl ?_)
        refine q0 I_102_13 (wi_iconst 1 rfl ?_)
        refine q0 I_102_14 (wi_ic_le (fun h => ?_) (fun h => ?_))
        · replace H := H.1 h
          refine q1 (ls' := [(0, .ref 0), (1, .int a1), (2, .int a2)]) I_102_20 rfl (wi_aload_n _ rfl ?_)
          refine q0 I_102_21 (wi_get (.ref 8) S_0 rfl (by decide) rfl ?_)
          refine q0 I_102_24 (wi_virtV (e := 3) [] [] S_8 rfl (by decide) rfl rfl rfl (okC_i rfl rfl rfl) C_64 (by decide) (ClV_mono H ?_))
          intro di1 dl1 H
          refine q0 I_102_27 (wi_iload_n _ rfl ?_)
          refine q0 I_102_28 (wi_if_ne (fun h => ?_) (fun h => ?_))
          · replace H := H.1 h
            refine q1 (ls' := [(0, .ref 0), (1, .int a1)]) I_102_42 rfl (wi_aload_n _ rfl ?_)
            refine q0 I_102_43 (wi_get (.ref 8) S_0 rfl (by decide) rfl ?_)
            refine q0 I_102_46 (wi_iload_n _ rfl ?_)
            refine q0 I_102_47 (wi_virtI (e := 2) [.int a1] [] S_8 rfl (by decide) rfl rfl rfl (okC_i rfl rfl rfl) C_72 (by decide) (ClI_mono H ?_))
            intro r2 di2 dl2 H
            exact q1 (ls' := []) I_102_50 rfl (wi_iret T_102 C_102 ⟨_, rfl, H⟩)
          · replace H := H.2 h
            refine q1 (ls' := [(0, .ref 0), (1, .int a1)]) I_102_31 rfl (wi_aload_n _ rfl ?_)
            refine q0 I_102_32 (wi_get (.ref 8) S_0 rfl (by decide) rfl ?_)
            refine q0 I_102_35 (wi_iload_n _ rfl ?_)
            refine q0 I_102_36 (wi_virtI (e := 1) [.int a1] [] S_8 rfl (by decide) rfl rfl rfl (okC_i rfl rfl rfl) C_71 (by decide) (ClI_mono H ?_))
            intro r3 di3 dl3 H
            refine q0 I_102_39 (wi_goto ?_)
            exact q1 (ls' := []) I_102_50 rfl (wi_iret T_102 C_102 ⟨_, rfl, H⟩)
        · replace H := H.2 h
          refine q1 (ls' := []) I_102_17 rfl (wi_bipush (-2) rfl ?_)
          exact q0 I_102_19 (wi_iret T_102 C_102 ⟨_, rfl, H⟩)
theorem r_103 {a1 : Int32} {di : tDi} {dl : tDl} {K : Int32 → tDi → tDl → Prop} (H : ((a1 < 0 → (K (-2) di dl)) ∧ (0 ≤ a1 → ((a1 ≤ 1 → (ClV 3 64 [.ref 8] di dl (fun di1 dl1 => (ClI 3 74 [.ref 8] di1 dl1 (fun r2 di2 dl2 => ((a1 = 0 → (K r2 di2 dl2)) ∧ (¬ a1 = 0 → ((¬ r2 = (-1) → (ClI 2 73 [.ref 8, .int r2] di2 dl2 (fun r3 di3 dl3 => (ClI 0 130 [.int r3] di3 dl3 (fun r4 di4 dl4 => (K r4 di4 dl4)))))) ∧ (r2 = (-1) → (K r2 di2 dl2)))))))))) ∧ (1 < a1 → (K (-2) di dl)))))) : ClI 4 103 [.ref 0, .int a1] di dl K := by
  refine Cl_of C_103 Z_103 [(0, .ref 0), (1, .int a1)] rfl ?_
  refine q0 I_103_0 (wi_iload_n _ rfl ?_)
  refine q0 I_103_1 (wi_if_lt (fun h => ?_) (fun h => ?_))
  · replace H := H.1 h
    refine q1 (ls' := []) I_103_9 rfl (wi_bipush (-2) rfl ?_)
    exact q0 I_103_11 (wi_iret T_103 C_103 ⟨_, rfl, H⟩)
  · replace H := H.2 h
    refine q1 (ls' := [(0, .ref 0), (1, .int a1)]) I_103_4 rfl (wi_iload_n _ rfl ?_)
    refine q0 I_103_5 (wi_iconst 1 rfl ?_)
    refine q0 I_103_6 (wi_ic_le (fun h => ?_) (fun h => ?_))
    · replace H := H.1 h
      refine q1 (ls' := [(0, .ref 0), (1, .int a1)]) I_103_12 rfl (wi_aload_n _ rfl ?_)
      refine q0 I_103_13 (wi_get (.ref 8) S_0 rfl (by decide) rfl ?_)
      refine q0 I_103_16 (wi_virtV (e := 3) [] [] S_8 rfl (by decide) rfl rfl rfl (okC_i rfl rfl rfl) C_64 (by decide) (ClV_mono H ?_))
      intro di1 dl1 H
      refine q0 I_103_19 (wi_aload_n _ rfl ?_)
      refine q0 I_103_20 (wi_get (.ref 8) S_0 rfl (by decide) rfl ?_)
      refine q0 I_103_23 (wi_virtI (e := 3) [] [] S_8 rfl (by decide) rfl rfl rfl (okC_i rfl rfl rfl) C_74 (by decide) (ClI_mono H ?_))
      intro r2 di2 dl2 H
      refine q0 I_103_26 (wi_istore_n [(0, .ref 0), (1, .int a1), (2, .int r2)] (lt_e X_103 rfl) rfl ?_)
      refine q0 I_103_27 (wi_iload_n _ rfl ?_)
      refine q0 I_103_28 (wi_if_eq (fun h => ?_) (fun h => ?_))
      · replace H := H.1 h
        refine q1 (ls' := [(2, .int r2)]) I_103_36 rfl (wi_iload_n _ rfl ?_)
        refine q0 I_103_37 (wi_goto ?_)
        exact q1 (ls' := []) I_103_51 rfl (wi_iret T_103 C_103 ⟨_, rfl, H⟩)
      · replace H := H.2 h
        refine q1 (ls' := [(0, .ref 0), (2, .int r2)]) I_103_31 rfl (wi_iload_n _ rfl ?_)
        refine q0 I_103_32 (wi_iconst (-1) rfl ?_)
        refine q0 I_103_33 (wi_ic_ne (fun h => ?_) (fun h => ?_))
        · replace H := H.1 h
          refine q1 (ls' := [(0, .ref 0), (2, .int r2)]) I_103_40 rfl (wi_aload_n _ rfl ?_)
          refine q0 I_103_41 (wi_get (.ref 8) S_0 rfl (by decide) rfl ?_)
          refine q0 I_103_44 (wi_iload_n _ rfl ?_)
          refine q0 I_103_45 (wi_virtI (e := 2) [.int r2] [] S_8 rfl (by decide) rfl rfl rfl (okC_i rfl rfl rfl) C_73 (by decide) (ClI_mono H ?_))
          intro r3 di3 dl3 H
          refine q0 I_103_48 (wi_statI (e := 0) [.int r3] [] rfl (Or.inl rfl) rfl rfl rfl (okC_i rfl rfl rfl) C_130 (by decide) (ClI_mono H ?_))
          intro r4 di4 dl4 H
          exact q1 (ls' := []) I_103_51 rfl (wi_iret T_103 C_103 ⟨_, rfl, H⟩)
        · replace H := H.2 h
          refine q1 (ls' := [(2, .int r2)]) I_103_36 rfl (wi_iload_n _ rfl ?_)
          refine q0 I_103_37 (wi_goto ?_)
          exact q1 (ls' := []) I_103_51 rfl (wi_iret T_103 C_103 ⟨_, rfl, H⟩)
    · replace H := H.2 h
      refine q1 (ls' := []) I_103_9 rfl (wi_bipush (-2) rfl ?_)
      exact q0 I_103_11 (wi_iret T_103 C_103 ⟨_, rfl, H⟩)
theorem r_104 {a1 : Int32} {di : tDi} {dl : tDl} {K : Int32 → tDi → tDl → Prop} (H : ((a1 < 0 → (K (-2) di dl)) ∧ (0 ≤ a1 → (((di 1 4) ≤ a1 → (K (-2) di dl)) ∧ (a1 < (di 1 4) → (ClV 3 64 [.ref 8] di dl (fun di1 dl1 => (ClI 1 75 [.ref 8, .int a1] di1 dl1 (fun r2 di2 dl2 => (K r2 di2 dl2)))))))))) : ClI 4 104 [.ref 0, .int a1] di dl K := by
  refine Cl_of C_104 Z_104 [(0, .ref 0), (1, .int a1)] rfl ?_
  refine q0 I_104_0 (wi_aload_n _ rfl ?_)
  refine q0 I_104_1 (wi_get (.ref 1) S_0 rfl (by decide) rfl ?_)
  refine q0 I_104_4 (wi_iload_n _ rfl ?_)
  refine q0 I_104_5 (wi_virtI (e := 3) [.int a1] [] S_1 rfl (by decide) rfl rfl rfl (okC_i rfl rfl rfl) C_53 (by decide) (Cl_of C_53 Z_53 [(0, .ref 1), (1, .int a1)] rfl ?_))
  refine q0 I_53_0 (wi_iload_n _ rfl ?_)
  refine q0 I_53_1 (wi_if_lt (fun h => ?_) (fun h => ?_))
  · replace H := H.1 h
    refine q1 (ls' := []) I_53_16 rfl (wi_iconst 0 rfl ?_)
    refine q1 (ls' := []) I_53_17 rfl (wi_zret T_53 (Or.inl C_53) (Or.inl rfl) ⟨_, rfl, ?_⟩)
    refine q0 I_104_8 (wi_ifF rfl ?_)
    refine q1 (ls' := []) I_104_11 rfl (wi_bipush (-2) rfl ?_)
    exact q0 I_104_13 (wi_iret T_104 C_104 ⟨_, rfl, H⟩)
  · replace H := H.2 h
    refine q1 (ls' := [(0, .ref 1), (1, .int a1)]) I_53_4 rfl (wi_iload_n _ rfl ?_)
    refine q0 I_53_5 (wi_aload_n _ rfl ?_)
    refine q0 I_53_6 (wi_getI S_1 rfl (by decide) rfl ?_)
    refine q0 I_53_9 (wi_ic_ge (fun h => ?_) (fun h => ?_))
    · replace H := H.1 h
      refine q1 (ls' := []) I_53_16 rfl (wi_iconst 0 rfl ?_)
      refine q1 (ls' := []) I_53_17 rfl (wi_zret T_53 (Or.inl C_53) (Or.inl rfl) ⟨_, rfl, ?_⟩)
      refine q0 I_104_8 (wi_ifF rfl ?_)
      refine q1 (ls' := []) I_104_11 rfl (wi_bipush (-2) rfl ?_)
      exact q0 I_104_13 (wi_iret T_104 C_104 ⟨_, rfl, H⟩)
    · replace H := H.2 h
      refine q1 (ls' := []) I_53_12 rfl (wi_iconst 1 rfl ?_)
      refine q0 I_53_13 (wi_goto ?_)
      refine q1 (ls' := []) I_53_17 rfl (wi_zret T_53 (Or.inl C_53) (Or.inr rfl) ⟨_, rfl, ?_⟩)
      refine q0 I_104_8 (wi_ifT rfl ?_)
      refine q1 (ls' := [(0, .ref 0), (1, .int a1)]) I_104_14 rfl (wi_aload_n _ rfl ?_)
      refine q0 I_104_15 (wi_get (.ref 8) S_0 rfl (by decide) rfl ?_)
      refine q0 I_104_18 (wi_virtV (e := 3) [] [] S_8 rfl (by decide) rfl rfl rfl (okC_i rfl rfl rfl) C_64 (by decide) (ClV_mono H ?_))
      intro di1 dl1 H
      refine q0 I_104_21 (wi_aload_n _ rfl ?_)
      refine q0 I_104_22 (wi_get (.ref 8) S_0 rfl (by decide) rfl ?_)
      refine q0 I_104_25 (wi_iload_n _ rfl ?_)
      refine q0 I_104_26 (wi_virtI (e := 1) [.int a1] [] S_8 rfl (by decide) rfl rfl rfl (okC_i rfl rfl rfl) C_75 (by decide) (ClI_mono H ?_))
      intro r2 di2 dl2 H
      exact q0 I_104_29 (wi_iret T_104 C_104 ⟨_, rfl, H⟩)
theorem r_105 {a1 : Int32} {a2 : Int32} {di : tDi} {dl : tDl} {K : Int32 → tDi → tDl → Prop} (H : ((a1 < 0 → (K (-2) di dl)) ∧ (0 ≤ a1 → (((di 5 4) < a1 → (K (-2) di dl)) ∧ (a1 ≤ (di 5 4) → ((a2 < (-1) → (K (-2) di dl)) ∧ ((-1) ≤ a2 → ((a2 < 8 → (ClV 3 64 [.ref 8] di dl (fun di1 dl1 => (ClV 2 15 [.ref 144, .int a1] di1 dl1 (fun di2 dl2 => ((¬ a2 = (-1) → ((a2 < 0 → (K (-1) di2 dl2)) ∧ (0 ≤ a2 → ((8 ≤ a2 → (K (-1) di2 dl2)) ∧ (a2 < 8 → (inB a2 8 = true ∧ (K (di2 155 (a2.toNatClampNeg)) di2 dl2))))))) ∧ (a2 = (-1) → (K (di2 146 0) di2 dl2)))))))) ∧ (8 ≤ a2 → (K (-2) di dl)))))))))) : ClI 4 105 [.ref 0, .int a1, .int a2] di dl K := by
  refine Cl_of C_105 Z_105 [(0, .ref 0), (1, .int a1), (2, .int a2)] rfl ?_
  refine q0 I_105_0 (wi_aload_n _ rfl ?_)
  refine q0 I_105_1 (wi_iload_n _ rfl ?_)
  refine q0 I_105_2 (wi_virtI (e := 3) [.int a1] [] S_0 rfl (by decide) rfl rfl rfl (okC_i rfl rfl rfl) C_128 (by decide) (Cl_of C_128 Z_128 [(0, .ref 0), (1, .int a1)] rfl ?_))
  refine q0 I_128_0 (wi_iload_n _ rfl ?_)
  refine q0 I_128_1 (wi_if_lt (fun h => ?_) (fun h => ?_))
  · replace H := H.1 h
    refine q1 (ls' := []) I_128_19 rfl (wi_iconst 0 rfl ?_)
    refine q1 (ls' := []) I_128_20 rfl (wi_zret T_128 (Or.inl C_128) (Or.inl rfl) ⟨_, rfl, ?_⟩)
    refine q0 I_105_5 (wi_ifT rfl ?_)
    refine q1 (ls' := []) I_105_19 rfl (wi_bipush (-2) rfl ?_)
    exact q0 I_105_21 (wi_iret T_105 C_105 ⟨_, rfl, H⟩)
  · replace H := H.2 h
    refine q1 (ls' := [(0, .ref 0), (1, .int a1)]) I_128_4 rfl (wi_iload_n _ rfl ?_)
    refine q0 I_128_5 (wi_aload_n _ rfl ?_)
    refine q0 I_128_6 (wi_get (.ref 5) S_0 rfl (by decide) rfl ?_)
    refine q0 I_128_9 (wi_getI S_5 rfl (by decide) rfl ?_)
    refine q0 I_128_12 (wi_ic_gt (fun h => ?_) (fun h => ?_))
    · replace H := H.1 h
      refine q1 (ls' := []) I_128_19 rfl (wi_iconst 0 rfl ?_)
      refine q1 (ls' := []) I_128_20 rfl (wi_zret T_128 (Or.inl C_128) (Or.inl rfl) ⟨_, rfl, ?_⟩)
      refine q0 I_105_5 (wi_ifT rfl ?_)
      refine q1 (ls' := []) I_105_19 rfl (wi_bipush (-2) rfl ?_)
      exact q0 I_105_21 (wi_iret T_105 C_105 ⟨_, rfl, H⟩)
    · replace H := H.2 h
      refine q1 (ls' := []) I_128_15 rfl (wi_iconst 1 rfl ?_)
      refine q0 I_128_16 (wi_goto ?_)
      refine q1 (ls' := []) I_128_20 rfl (wi_zret T_128 (Or.inl C_128) (Or.inr rfl) ⟨_, rfl, ?_⟩)
      refine q0 I_105_5 (wi_ifF rfl ?_)
      refine q1 (ls' := [(0, .ref 0), (1, .int a1), (2, .int a2)]) I_105_8 rfl (wi_iload_n _ rfl ?_)
      refine q0 I_105_9 (wi_iconst (-1) rfl ?_)
      refine q0 I_105_10 (wi_ic_lt (fun h => ?_) (fun h => ?_))
      · replace H := H.1 h
        refine q1 (ls' := []) I_105_19 rfl (wi_bipush (-2) rfl ?_)
        exact q0 I_105_21 (wi_iret T_105 C_105 ⟨_, rfl, H⟩)
      · replace H := H.2 h
        refine q1 (ls' := [(0, .ref 0), (1, .int a1), (2, .int a2)]) I_105_13 rfl (wi_iload_n _ rfl ?_)
        refine q0 I_105_14 (wi_bipush 8 rfl ?_)
        refine q0 I_105_16 (wi_ic_lt (fun h => ?_) (fun h => ?_))
        · replace H := H.1 h
          refine q1 (ls' := [(0, .ref 0), (1, .int a1), (2, .int a2)]) I_105_22 rfl (wi_aload_n _ rfl ?_)
          refine q0 I_105_23 (wi_get (.ref 8) S_0 rfl (by decide) rfl ?_)
          refine q0 I_105_26 (wi_virtV (e := 3) [] [] S_8 rfl (by decide) rfl rfl rfl (okC_i rfl rfl rfl) C_64 (by decide) (ClV_mono H ?_))
          intro di1 dl1 H
          refine q0 I_105_29 (wi_aload_n _ rfl ?_)
          refine q0 I_105_30 (wi_get (.ref 144) S_0 rfl (by decide) rfl ?_)
          refine q0 I_105_33 (wi_iload_n _ rfl ?_)
          refine q0 I_105_34 (wi_virtV (e := 2) [.int a1] [] S_144 rfl (by decide) rfl rfl rfl (okC_i rfl rfl rfl) C_15 (by decide) (ClV_mono H ?_))
          intro di2 dl2 H
          refine q0 I_105_37 (wi_iload_n _ rfl ?_)
          refine q0 I_105_38 (wi_iconst (-1) rfl ?_)
          refine q0 I_105_39 (wi_ic_ne (fun h => ?_) (fun h => ?_))
          · replace H := H.1 h
            refine q1 (ls' := [(0, .ref 0), (2, .int a2)]) I_105_52 rfl (wi_aload_n _ rfl ?_)
            refine q0 I_105_53 (wi_get (.ref 144) S_0 rfl (by decide) rfl ?_)
            refine q0 I_105_56 (wi_iload_n _ rfl ?_)
            refine q0 I_105_57 (wi_virtI (e := 3) [.int a2] [] S_144 rfl (by decide) rfl rfl rfl (okC_i rfl rfl rfl) C_14 (by decide) (Cl_of C_14 Z_14 [(0, .ref 144), (1, .int a2)] rfl ?_))
            refine q0 I_14_0 (wi_iload_n _ rfl ?_)
            refine q0 I_14_1 (wi_if_lt (fun h => ?_) (fun h => ?_))
            · replace H := H.1 h
              refine q1 (ls' := []) I_14_19 rfl (wi_iconst (-1) rfl ?_)
              refine q1 (ls' := []) I_14_20 rfl (wi_iret T_14 C_14 ⟨_, rfl, ?_⟩)
              exact q1 (ls' := []) I_105_60 rfl (wi_iret T_105 C_105 ⟨_, rfl, H⟩)
            · replace H := H.2 h
              refine q1 (ls' := [(0, .ref 144), (1, .int a2)]) I_14_4 rfl (wi_iload_n _ rfl ?_)
              refine q0 I_14_5 (wi_bipush 8 rfl ?_)
              refine q0 I_14_7 (wi_ic_ge (fun h => ?_) (fun h => ?_))
              · replace H := H.1 h
                refine q1 (ls' := []) I_14_19 rfl (wi_iconst (-1) rfl ?_)
                refine q1 (ls' := []) I_14_20 rfl (wi_iret T_14 C_14 ⟨_, rfl, ?_⟩)
                exact q1 (ls' := []) I_105_60 rfl (wi_iret T_105 C_105 ⟨_, rfl, H⟩)
              · replace H := H.2 h
                refine q1 (ls' := [(0, .ref 144), (1, .int a2)]) I_14_10 rfl (wi_aload_n _ rfl ?_)
                refine q0 I_14_11 (wi_get (.ref 155) S_144 rfl (by decide) rfl ?_)
                refine q0 I_14_14 (wi_iload_n _ rfl ?_)
                have hb3 := H.1
                replace H := H.2
                refine q0 I_14_15 (wi_iaload (a2.toNatClampNeg) S_155 hb3 rfl ?_)
                refine q0 I_14_16 (wi_goto ?_)
                refine q1 (ls' := []) I_14_20 rfl (wi_iret T_14 C_14 ⟨_, rfl, ?_⟩)
                exact q1 (ls' := []) I_105_60 rfl (wi_iret T_105 C_105 ⟨_, rfl, H⟩)
          · replace H := H.2 h
            refine q1 (ls' := [(0, .ref 0)]) I_105_42 rfl (wi_aload_n _ rfl ?_)
            refine q0 I_105_43 (wi_get (.ref 144) S_0 rfl (by decide) rfl ?_)
            refine q0 I_105_46 (wi_virtI (e := 3) [] [] S_144 rfl (by decide) rfl rfl rfl (okC_i rfl rfl rfl) C_13 (by decide) (Cl_of C_13 Z_13 [(0, .ref 144)] rfl ?_))
            refine q0 I_13_0 (wi_aload_n _ rfl ?_)
            refine q0 I_13_1 (wi_get (.ref 145) S_144 rfl (by decide) rfl ?_)
            refine q0 I_13_4 (wi_iconst 0 rfl ?_)
            refine q0 I_13_5 (wi_aaload (e := 2) 146 S_145 rfl (by decide) rfl ?_)
            refine q0 I_13_6 (wi_iconst 0 rfl ?_)
            refine q0 I_13_7 (wi_iaload 0 (rfl : S0[146]? = some (.inr (0, 256, []))) rfl rfl ?_)
            refine q0 I_13_8 (wi_iret T_13 C_13 ⟨_, rfl, ?_⟩)
            refine q0 I_105_49 (wi_goto ?_)
            exact q1 (ls' := []) I_105_60 rfl (wi_iret T_105 C_105 ⟨_, rfl, H⟩)
        · replace H := H.2 h
          refine q1 (ls' := []) I_105_19 rfl (wi_bipush (-2) rfl ?_)
          exact q0 I_105_21 (wi_iret T_105 C_105 ⟨_, rfl, H⟩)
theorem r_106 {a1 : Int32} {a2 : Int32} {a3 : Int32} {di : tDi} {dl : tDl} {K : Int32 → tDi → tDl → Prop} (H : ((6 ≤ a1 → (K (-2) di dl)) ∧ (a1 < 6 → ((a1 < 0 → (K (-2) di dl)) ∧ (0 ≤ a1 → (((di 1 4) ≤ a1 → (K (-2) di dl)) ∧ (a1 < (di 1 4) → ((a2 < 0 → (K (-2) di dl)) ∧ (0 ≤ a2 → ((99 < a2 → (K (-2) di dl)) ∧ (a2 ≤ 99 → ((a3 < (-1) → (K (-2) di dl)) ∧ ((-1) ≤ a3 → ((a3 < 6 → (ClI 13 19 [.ref 156, .int a1, .int a2] di dl (fun r1 di1 dl1 => ((a3 = (-1) → (K r1 di1 dl1)) ∧ (¬ a3 = (-1) → ((¬ r1 = (-1) → ((a3 < 0 → (K (-1) di1 dl1)) ∧ (0 ≤ a3 → (((di1 156 3) ≤ a3 → (K (-1) di1 dl1)) ∧ (a3 < (di1 156 3) → ((6 ≤ a3 → (K (-1) di1 dl1)) ∧ (a3 < 6 → (inB a3 6 = true ∧ (K (di1 158 (a3.toNatClampNeg)) di1 dl1))))))))) ∧ (r1 = (-1) → (K r1 di1 dl1)))))))) ∧ (6 ≤ a3 → (K (-2) di dl)))))))))))))))) : ClI 14 106 [.ref 0, .int a1, .int a2, .int a3] di dl K := by
  refine Cl_of C_106 Z_106 [(0, .ref 0), (1, .int a1), (2, .int a2), (3, .int a3)] rfl ?_
  refine q0 I_106_0 (wi_iload_n _ rfl ?_)
  refine q0 I_106_1 (wi_bipush 6 rfl ?_)
  refine q0 I_106_3 (wi_ic_ge (fun h => ?_) (fun h => ?_))
  · replace H := H.1 h
    refine q1 (ls' := [(0, .ref 0), (1, .int a1), (2, .int a2), (3, .int a3)]) I_106_21 rfl (wi_iconst 0 rfl ?_)
    refine q1 (ls' := [(0, .ref 0), (1, .int a1), (2, .int a2), (3, .int a3)]) I_106_22 rfl (wi_istore [(0, .ref 0), (1, .int a1), (2, .int a2), (3, .int a3), (4, .int 0)] (lt_e X_106 rfl) rfl ?_)
    refine q0 I_106_24 (wi_iload _ rfl ?_)
    refine q0 I_106_26 (wi_ifT rfl ?_)
    refine q1 (ls' := []) I_106_50 rfl (wi_bipush (-2) rfl ?_)
    exact q0 I_106_52 (wi_iret T_106 C_106 ⟨_, rfl, H⟩)
  · replace H := H.2 h
    refine q1 (ls' := [(0, .ref 0), (1, .int a1), (2, .int a2), (3, .int a3)]) I_106_6 rfl (wi_aload_n _ rfl ?_)
    refine q0 I_106_7 (wi_get (.ref 1) S_0 rfl (by decide) rfl ?_)
    refine q0 I_106_10 (wi_iload_n _ rfl ?_)
    refine q0 I_106_11 (wi_virtI (e := 13) [.int a1] [] S_1 rfl (by decide) rfl rfl rfl (okC_i rfl rfl rfl) C_53 (by decide) (Cl_of C_53 Z_53 [(0, .ref 1), (1, .int a1)] rfl ?_))
    refine q0 I_53_0 (wi_iload_n _ rfl ?_)
    refine q0 I_53_1 (wi_if_lt (fun h => ?_) (fun h => ?_))
    · replace H := H.1 h
      refine q1 (ls' := []) I_53_16 rfl (wi_iconst 0 rfl ?_)
      refine q1 (ls' := []) I_53_17 rfl (wi_zret T_53 (Or.inl C_53) (Or.inl rfl) ⟨_, rfl, ?_⟩)
      refine q0 I_106_14 (wi_ifT rfl ?_)
      refine q1 (ls' := [(0, .ref 0), (1, .int a1), (2, .int a2), (3, .int a3)]) I_106_21 rfl (wi_iconst 0 rfl ?_)
      refine q1 (ls' := [(0, .ref 0), (1, .int a1), (2, .int a2), (3, .int a3)]) I_106_22 rfl (wi_istore [(0, .ref 0), (1, .int a1), (2, .int a2), (3, .int a3), (4, .int 0)] (lt_e X_106 rfl) rfl ?_)
      refine q0 I_106_24 (wi_iload _ rfl ?_)
      refine q0 I_106_26 (wi_ifT rfl ?_)
      refine q1 (ls' := []) I_106_50 rfl (wi_bipush (-2) rfl ?_)
      exact q0 I_106_52 (wi_iret T_106 C_106 ⟨_, rfl, H⟩)
    · replace H := H.2 h
      refine q1 (ls' := [(0, .ref 1), (1, .int a1)]) I_53_4 rfl (wi_iload_n _ rfl ?_)
      refine q0 I_53_5 (wi_aload_n _ rfl ?_)
      refine q0 I_53_6 (wi_getI S_1 rfl (by decide) rfl ?_)
      refine q0 I_53_9 (wi_ic_ge (fun h => ?_) (fun h => ?_))
      · replace H := H.1 h
        refine q1 (ls' := []) I_53_16 rfl (wi_iconst 0 rfl ?_)
        refine q1 (ls' := []) I_53_17 rfl (wi_zret T_53 (Or.inl C_53) (Or.inl rfl) ⟨_, rfl, ?_⟩)
        refine q0 I_106_14 (wi_ifT rfl ?_)
        refine q1 (ls' := [(0, .ref 0), (1, .int a1), (2, .int a2), (3, .int a3)]) I_106_21 rfl (wi_iconst 0 rfl ?_)
        refine q1 (ls' := [(0, .ref 0), (1, .int a1), (2, .int a2), (3, .int a3)]) I_106_22 rfl (wi_istore [(0, .ref 0), (1, .int a1), (2, .int a2), (3, .int a3), (4, .int 0)] (lt_e X_106 rfl) rfl ?_)
        refine q0 I_106_24 (wi_iload _ rfl ?_)
        refine q0 I_106_26 (wi_ifT rfl ?_)
        refine q1 (ls' := []) I_106_50 rfl (wi_bipush (-2) rfl ?_)
        exact q0 I_106_52 (wi_iret T_106 C_106 ⟨_, rfl, H⟩)
      · replace H := H.2 h
        refine q1 (ls' := []) I_53_12 rfl (wi_iconst 1 rfl ?_)
        refine q0 I_53_13 (wi_goto ?_)
        refine q1 (ls' := []) I_53_17 rfl (wi_zret T_53 (Or.inl C_53) (Or.inr rfl) ⟨_, rfl, ?_⟩)
        refine q0 I_106_14 (wi_ifF rfl ?_)
        refine q1 (ls' := [(0, .ref 0), (1, .int a1), (2, .int a2), (3, .int a3)]) I_106_17 rfl (wi_iconst 1 rfl ?_)
        refine q0 I_106_18 (wi_goto ?_)
        refine q1 (ls' := [(0, .ref 0), (1, .int a1), (2, .int a2), (3, .int a3)]) I_106_22 rfl (wi_istore [(0, .ref 0), (1, .int a1), (2, .int a2), (3, .int a3), (4, .int 1)] (lt_e X_106 rfl) rfl ?_)
        refine q0 I_106_24 (wi_iload _ rfl ?_)
        refine q0 I_106_26 (wi_ifF rfl ?_)
        refine q1 (ls' := [(0, .ref 0), (1, .int a1), (2, .int a2), (3, .int a3)]) I_106_29 rfl (wi_iload_n _ rfl ?_)
        refine q0 I_106_30 (wi_if_lt (fun h => ?_) (fun h => ?_))
        · replace H := H.1 h
          refine q1 (ls' := []) I_106_50 rfl (wi_bipush (-2) rfl ?_)
          exact q0 I_106_52 (wi_iret T_106 C_106 ⟨_, rfl, H⟩)
        · replace H := H.2 h
          refine q1 (ls' := [(0, .ref 0), (1, .int a1), (2, .int a2), (3, .int a3)]) I_106_33 rfl (wi_iload_n _ rfl ?_)
          refine q0 I_106_34 (wi_bipush 99 rfl ?_)
          refine q0 I_106_36 (wi_ic_gt (fun h => ?_) (fun h => ?_))
          · replace H := H.1 h
            refine q1 (ls' := []) I_106_50 rfl (wi_bipush (-2) rfl ?_)
            exact q0 I_106_52 (wi_iret T_106 C_106 ⟨_, rfl, H⟩)
          · replace H := H.2 h
            refine q1 (ls' := [(0, .ref 0), (1, .int a1), (2, .int a2), (3, .int a3)]) I_106_39 rfl (wi_iload_n _ rfl ?_)
            refine q0 I_106_40 (wi_iconst (-1) rfl ?_)
            refine q0 I_106_41 (wi_ic_lt (fun h => ?_) (fun h => ?_))
            · replace H := H.1 h
              refine q1 (ls' := []) I_106_50 rfl (wi_bipush (-2) rfl ?_)
              exact q0 I_106_52 (wi_iret T_106 C_106 ⟨_, rfl, H⟩)
            · replace H := H.2 h
              refine q1 (ls' := [(0, .ref 0), (1, .int a1), (2, .int a2), (3, .int a3)]) I_106_44 rfl (wi_iload_n _ rfl ?_)
              refine q0 I_106_45 (wi_bipush 6 rfl ?_)
              refine q0 I_106_47 (wi_ic_lt (fun h => ?_) (fun h => ?_))
              · replace H := H.1 h
                refine q1 (ls' := [(0, .ref 0), (1, .int a1), (2, .int a2), (3, .int a3)]) I_106_53 rfl (wi_aload_n _ rfl ?_)
                refine q0 I_106_54 (wi_get (.ref 156) S_0 rfl (by decide) rfl ?_)
                refine q0 I_106_57 (wi_iload_n _ rfl ?_)
                refine q0 I_106_58 (wi_iload_n _ rfl ?_)
                refine q0 I_106_59 (wi_virtI (e := 13) [.int a1, .int a2] [] S_156 rfl (by decide) rfl rfl rfl (okC_i rfl rfl rfl) C_19 (by decide) (ClI_mono H ?_))
                intro r1 di1 dl1 H
                refine q0 I_106_62 (wi_istore [(0, .ref 0), (1, .int a1), (2, .int a2), (3, .int a3), (5, .int r1)] (lt_e X_106 rfl) rfl ?_)
                refine q0 I_106_64 (wi_iload_n _ rfl ?_)
                refine q0 I_106_65 (wi_iconst (-1) rfl ?_)
                refine q0 I_106_66 (wi_ic_eq (fun h => ?_) (fun h => ?_))
                · replace H := H.1 h
                  refine q1 (ls' := [(5, .int r1)]) I_106_75 rfl (wi_iload _ rfl ?_)
                  refine q0 I_106_77 (wi_goto ?_)
                  exact q1 (ls' := []) I_106_88 rfl (wi_iret T_106 C_106 ⟨_, rfl, H⟩)
                · replace H := H.2 h
                  refine q1 (ls' := [(0, .ref 0), (3, .int a3), (5, .int r1)]) I_106_69 rfl (wi_iload _ rfl ?_)
                  refine q0 I_106_71 (wi_iconst (-1) rfl ?_)
                  refine q0 I_106_72 (wi_ic_ne (fun h => ?_) (fun h => ?_))
                  · replace H := H.1 h
                    refine q1 (ls' := [(0, .ref 0), (3, .int a3)]) I_106_80 rfl (wi_aload_n _ rfl ?_)
                    refine q0 I_106_81 (wi_get (.ref 156) S_0 rfl (by decide) rfl ?_)
                    refine q0 I_106_84 (wi_iload_n _ rfl ?_)
                    refine q0 I_106_85 (wi_virtI (e := 13) [.int a3] [] S_156 rfl (by decide) rfl rfl rfl (okC_i rfl rfl rfl) C_20 (by decide) (Cl_of C_20 Z_20 [(0, .ref 156), (1, .int a3)] rfl ?_))
                    refine q0 I_20_0 (wi_iload_n _ rfl ?_)
                    refine q0 I_20_1 (wi_if_lt (fun h => ?_) (fun h => ?_))
                    · replace H := H.1 h
                      refine q1 (ls' := []) I_20_27 rfl (wi_iconst (-1) rfl ?_)
                      refine q1 (ls' := []) I_20_28 rfl (wi_iret T_20 C_20 ⟨_, rfl, ?_⟩)
                      exact q1 (ls' := []) I_106_88 rfl (wi_iret T_106 C_106 ⟨_, rfl, H⟩)
                    · replace H := H.2 h
                      refine q1 (ls' := [(0, .ref 156), (1, .int a3)]) I_20_4 rfl (wi_iload_n _ rfl ?_)
                      refine q0 I_20_5 (wi_aload_n _ rfl ?_)
                      refine q0 I_20_6 (wi_getI S_156 rfl (by decide) rfl ?_)
                      refine q0 I_20_9 (wi_ic_ge (fun h => ?_) (fun h => ?_))
                      · replace H := H.1 h
                        refine q1 (ls' := []) I_20_27 rfl (wi_iconst (-1) rfl ?_)
                        refine q1 (ls' := []) I_20_28 rfl (wi_iret T_20 C_20 ⟨_, rfl, ?_⟩)
                        exact q1 (ls' := []) I_106_88 rfl (wi_iret T_106 C_106 ⟨_, rfl, H⟩)
                      · replace H := H.2 h
                        refine q1 (ls' := [(0, .ref 156), (1, .int a3)]) I_20_12 rfl (wi_iload_n _ rfl ?_)
                        refine q0 I_20_13 (wi_bipush 6 rfl ?_)
                        refine q0 I_20_15 (wi_ic_ge (fun h => ?_) (fun h => ?_))
                        · replace H := H.1 h
                          refine q1 (ls' := []) I_20_27 rfl (wi_iconst (-1) rfl ?_)
                          refine q1 (ls' := []) I_20_28 rfl (wi_iret T_20 C_20 ⟨_, rfl, ?_⟩)
                          exact q1 (ls' := []) I_106_88 rfl (wi_iret T_106 C_106 ⟨_, rfl, H⟩)
                        · replace H := H.2 h
                          refine q1 (ls' := [(0, .ref 156), (1, .int a3)]) I_20_18 rfl (wi_aload_n _ rfl ?_)
                          refine q0 I_20_19 (wi_get (.ref 158) S_156 rfl (by decide) rfl ?_)
                          refine q0 I_20_22 (wi_iload_n _ rfl ?_)
                          have hb2 := H.1
                          replace H := H.2
                          refine q0 I_20_23 (wi_iaload (a3.toNatClampNeg) S_158 hb2 rfl ?_)
                          refine q0 I_20_24 (wi_goto ?_)
                          refine q1 (ls' := []) I_20_28 rfl (wi_iret T_20 C_20 ⟨_, rfl, ?_⟩)
                          exact q1 (ls' := []) I_106_88 rfl (wi_iret T_106 C_106 ⟨_, rfl, H⟩)
                  · replace H := H.2 h
                    refine q1 (ls' := [(5, .int r1)]) I_106_75 rfl (wi_iload _ rfl ?_)
                    refine q0 I_106_77 (wi_goto ?_)
                    exact q1 (ls' := []) I_106_88 rfl (wi_iret T_106 C_106 ⟨_, rfl, H⟩)
              · replace H := H.2 h
                refine q1 (ls' := []) I_106_50 rfl (wi_bipush (-2) rfl ?_)
                exact q0 I_106_52 (wi_iret T_106 C_106 ⟨_, rfl, H⟩)
theorem r_107 {a1 : Int32} {a2 : Int32} {di : tDi} {dl : tDl} {K : Int32 → tDi → tDl → Prop} (H : ((a1 < 0 → (K (-2) di dl)) ∧ (0 ≤ a1 → (((di 5 4) < a1 → (K (-2) di dl)) ∧ (a1 ≤ (di 5 4) → ((a2 < 10 → (K (-2) di dl)) ∧ (10 ≤ a2 → ((a2 ≤ 400 → (ClV 3 64 [.ref 8] di dl (fun di1 dl1 => (ClI 3 76 [.ref 8, .int a1, .int a2] di1 dl1 (fun r2 di2 dl2 => (K r2 di2 dl2)))))) ∧ (400 < a2 → (K (-2) di dl)))))))))) : ClI 4 107 [.ref 0, .int a1, .int a2] di dl K := by
  refine Cl_of C_107 Z_107 [(0, .ref 0), (1, .int a1), (2, .int a2)] rfl ?_
  refine q0 I_107_0 (wi_aload_n _ rfl ?_)
  refine q0 I_107_1 (wi_iload_n _ rfl ?_)
  refine q0 I_107_2 (wi_virtI (e := 3) [.int a1] [] S_0 rfl (by decide) rfl rfl rfl (okC_i rfl rfl rfl) C_128 (by decide) (Cl_of C_128 Z_128 [(0, .ref 0), (1, .int a1)] rfl ?_))
  refine q0 I_128_0 (wi_iload_n _ rfl ?_)
  refine q0 I_128_1 (wi_if_lt (fun h => ?_) (fun h => ?_))
  · replace H := H.1 h
    refine q1 (ls' := []) I_128_19 rfl (wi_iconst 0 rfl ?_)
    refine q1 (ls' := []) I_128_20 rfl (wi_zret T_128 (Or.inl C_128) (Or.inl rfl) ⟨_, rfl, ?_⟩)
    refine q0 I_107_5 (wi_ifT rfl ?_)
    refine q1 (ls' := []) I_107_21 rfl (wi_bipush (-2) rfl ?_)
    exact q0 I_107_23 (wi_iret T_107 C_107 ⟨_, rfl, H⟩)
  · replace H := H.2 h
    refine q1 (ls' := [(0, .ref 0), (1, .int a1)]) I_128_4 rfl (wi_iload_n _ rfl ?_)
    refine q0 I_128_5 (wi_aload_n _ rfl ?_)
    refine q0 I_128_6 (wi_get (.ref 5) S_0 rfl (by decide) rfl ?_)
    refine q0 I_128_9 (wi_getI S_5 rfl (by decide) rfl ?_)
    refine q0 I_128_12 (wi_ic_gt (fun h => ?_) (fun h => ?_))
    · replace H := H.1 h
      refine q1 (ls' := []) I_128_19 rfl (wi_iconst 0 rfl ?_)
      refine q1 (ls' := []) I_128_20 rfl (wi_zret T_128 (Or.inl C_128) (Or.inl rfl) ⟨_, rfl, ?_⟩)
      refine q0 I_107_5 (wi_ifT rfl ?_)
      refine q1 (ls' := []) I_107_21 rfl (wi_bipush (-2) rfl ?_)
      exact q0 I_107_23 (wi_iret T_107 C_107 ⟨_, rfl, H⟩)
    · replace H := H.2 h
      refine q1 (ls' := []) I_128_15 rfl (wi_iconst 1 rfl ?_)
      refine q0 I_128_16 (wi_goto ?_)
      refine q1 (ls' := []) I_128_20 rfl (wi_zret T_128 (Or.inl C_128) (Or.inr rfl) ⟨_, rfl, ?_⟩)
      refine q0 I_107_5 (wi_ifF rfl ?_)
      refine q1 (ls' := [(0, .ref 0), (1, .int a1), (2, .int a2)]) I_107_8 rfl (wi_iload_n _ rfl ?_)
      refine q0 I_107_9 (wi_bipush 10 rfl ?_)
      refine q0 I_107_11 (wi_ic_lt (fun h => ?_) (fun h => ?_))
      · replace H := H.1 h
        refine q1 (ls' := []) I_107_21 rfl (wi_bipush (-2) rfl ?_)
        exact q0 I_107_23 (wi_iret T_107 C_107 ⟨_, rfl, H⟩)
      · replace H := H.2 h
        refine q1 (ls' := [(0, .ref 0), (1, .int a1), (2, .int a2)]) I_107_14 rfl (wi_iload_n _ rfl ?_)
        refine q0 I_107_15 (wi_sipush 400 rfl ?_)
        refine q0 I_107_18 (wi_ic_le (fun h => ?_) (fun h => ?_))
        · replace H := H.1 h
          refine q1 (ls' := [(0, .ref 0), (1, .int a1), (2, .int a2)]) I_107_24 rfl (wi_aload_n _ rfl ?_)
          refine q0 I_107_25 (wi_get (.ref 8) S_0 rfl (by decide) rfl ?_)
          refine q0 I_107_28 (wi_virtV (e := 3) [] [] S_8 rfl (by decide) rfl rfl rfl (okC_i rfl rfl rfl) C_64 (by decide) (ClV_mono H ?_))
          intro di1 dl1 H
          refine q0 I_107_31 (wi_aload_n _ rfl ?_)
          refine q0 I_107_32 (wi_get (.ref 8) S_0 rfl (by decide) rfl ?_)
          refine q0 I_107_35 (wi_iload_n _ rfl ?_)
          refine q0 I_107_36 (wi_iload_n _ rfl ?_)
          refine q0 I_107_37 (wi_virtI (e := 3) [.int a1, .int a2] [] S_8 rfl (by decide) rfl rfl rfl (okC_i rfl rfl rfl) C_76 (by decide) (ClI_mono H ?_))
          intro r2 di2 dl2 H
          exact q0 I_107_40 (wi_iret T_107 C_107 ⟨_, rfl, H⟩)
        · replace H := H.2 h
          refine q1 (ls' := []) I_107_21 rfl (wi_bipush (-2) rfl ?_)
          exact q0 I_107_23 (wi_iret T_107 C_107 ⟨_, rfl, H⟩)
theorem r_108 {a1 : Int32} {a2 : Int32} {a3 : Int32} {di : tDi} {dl : tDl} {K : Int32 → tDi → tDl → Prop} (H : ((a1 < 0 → (K (-2) di dl)) ∧ (0 ≤ a1 → ((24 < a1 → (K (-2) di dl)) ∧ (a1 ≤ 24 → ((a2 < 0 → (K (-2) di dl)) ∧ (0 ≤ a2 → ((8 ≤ a2 → (K (-2) di dl)) ∧ (a2 < 8 → ((a3 < (-1) → (K (-2) di dl)) ∧ ((-1) ≤ a3 → ((8 ≤ a3 → (K (-2) di dl)) ∧ (a3 < 8 → (((di 159 8) < 8 → (ClV 0 25 [.ref 159, .int a1, .int a2, .int a3] di dl (fun di1 dl1 => (K (di1 159 8) di1 dl1)))) ∧ (8 ≤ (di 159 8) → (K (-4) di dl)))))))))))))))) : ClI 1 108 [.ref 0, .int a1, .int a2, .int a3] di dl K := by
  refine Cl_of C_108 Z_108 [(0, .ref 0), (1, .int a1), (2, .int a2), (3, .int a3)] rfl ?_
  refine q0 I_108_0 (wi_aload_n _ rfl ?_)
  refine q0 I_108_1 (wi_get (.ref 159) S_0 rfl (by decide) rfl ?_)
  refine q0 I_108_4 (wi_iload_n _ rfl ?_)
  refine q0 I_108_5 (wi_iload_n _ rfl ?_)
  refine q0 I_108_6 (wi_iload_n _ rfl ?_)
  refine q0 I_108_7 (wi_virtI (e := 0) [.int a1, .int a2, .int a3] [] S_159 rfl (by decide) rfl rfl rfl (okC_i rfl rfl rfl) C_23 (by decide) (Cl_of C_23 Z_23 [(0, .ref 159), (1, .int a1), (2, .int a2), (3, .int a3)] rfl ?_))
  refine q0 I_23_0 (wi_iload_n _ rfl ?_)
  refine q0 I_23_1 (wi_if_lt (fun h => ?_) (fun h => ?_))
  · replace H := H.1 h
    refine q1 (ls' := [(2, .int a2), (3, .int a3)]) I_23_14 rfl (wi_iconst 0 rfl ?_)
    refine q1 (ls' := [(2, .int a2), (3, .int a3)]) I_23_15 rfl (wi_istore [(2, .int a2), (3, .int a3), (4, .int 0)] (lt_e X_23 rfl) rfl ?_)
    refine q0 I_23_17 (wi_iload _ rfl ?_)
    refine q0 I_23_19 (wi_ifT rfl ?_)
    refine q1 (ls' := []) I_23_47 rfl (wi_iconst 0 rfl ?_)
    refine q1 (ls' := []) I_23_48 rfl (wi_zret T_23 (Or.inl C_23) (Or.inl rfl) ⟨_, rfl, ?_⟩)
    refine q0 I_108_10 (wi_ifF rfl ?_)
    refine q1 (ls' := []) I_108_13 rfl (wi_bipush (-2) rfl ?_)
    exact q0 I_108_15 (wi_iret T_108 C_108 ⟨_, rfl, H⟩)
  · replace H := H.2 h
    refine q1 (ls' := [(1, .int a1), (2, .int a2), (3, .int a3)]) I_23_4 rfl (wi_iload_n _ rfl ?_)
    refine q0 I_23_5 (wi_bipush 24 rfl ?_)
    refine q0 I_23_7 (wi_ic_gt (fun h => ?_) (fun h => ?_))
    · replace H := H.1 h
      refine q1 (ls' := [(2, .int a2), (3, .int a3)]) I_23_14 rfl (wi_iconst 0 rfl ?_)
      refine q1 (ls' := [(2, .int a2), (3, .int a3)]) I_23_15 rfl (wi_istore [(2, .int a2), (3, .int a3), (4, .int 0)] (lt_e X_23 rfl) rfl ?_)
      refine q0 I_23_17 (wi_iload _ rfl ?_)
      refine q0 I_23_19 (wi_ifT rfl ?_)
      refine q1 (ls' := []) I_23_47 rfl (wi_iconst 0 rfl ?_)
      refine q1 (ls' := []) I_23_48 rfl (wi_zret T_23 (Or.inl C_23) (Or.inl rfl) ⟨_, rfl, ?_⟩)
      refine q0 I_108_10 (wi_ifF rfl ?_)
      refine q1 (ls' := []) I_108_13 rfl (wi_bipush (-2) rfl ?_)
      exact q0 I_108_15 (wi_iret T_108 C_108 ⟨_, rfl, H⟩)
    · replace H := H.2 h
      refine q1 (ls' := [(2, .int a2), (3, .int a3)]) I_23_10 rfl (wi_iconst 1 rfl ?_)
      refine q0 I_23_11 (wi_goto ?_)
      refine q1 (ls' := [(2, .int a2), (3, .int a3)]) I_23_15 rfl (wi_istore [(2, .int a2), (3, .int a3), (4, .int 1)] (lt_e X_23 rfl) rfl ?_)
      refine q0 I_23_17 (wi_iload _ rfl ?_)
      refine q0 I_23_19 (wi_ifF rfl ?_)
      refine q1 (ls' := [(2, .int a2), (3, .int a3)]) I_23_22 rfl (wi_iload_n _ rfl ?_)
      refine q0 I_23_23 (wi_if_lt (fun h => ?_) (fun h => ?_))
      · replace H := H.1 h
        refine q1 (ls' := []) I_23_47 rfl (wi_iconst 0 rfl ?_)
        refine q1 (ls' := []) I_23_48 rfl (wi_zret T_23 (Or.inl C_23) (Or.inl rfl) ⟨_, rfl, ?_⟩)
        refine q0 I_108_10 (wi_ifF rfl ?_)
        refine q1 (ls' := []) I_108_13 rfl (wi_bipush (-2) rfl ?_)
        exact q0 I_108_15 (wi_iret T_108 C_108 ⟨_, rfl, H⟩)
      · replace H := H.2 h
        refine q1 (ls' := [(2, .int a2), (3, .int a3)]) I_23_26 rfl (wi_iload_n _ rfl ?_)
        refine q0 I_23_27 (wi_bipush 8 rfl ?_)
        refine q0 I_23_29 (wi_ic_ge (fun h => ?_) (fun h => ?_))
        · replace H := H.1 h
          refine q1 (ls' := []) I_23_47 rfl (wi_iconst 0 rfl ?_)
          refine q1 (ls' := []) I_23_48 rfl (wi_zret T_23 (Or.inl C_23) (Or.inl rfl) ⟨_, rfl, ?_⟩)
          refine q0 I_108_10 (wi_ifF rfl ?_)
          refine q1 (ls' := []) I_108_13 rfl (wi_bipush (-2) rfl ?_)
          exact q0 I_108_15 (wi_iret T_108 C_108 ⟨_, rfl, H⟩)
        · replace H := H.2 h
          refine q1 (ls' := [(3, .int a3)]) I_23_32 rfl (wi_iload_n _ rfl ?_)
          refine q0 I_23_33 (wi_iconst (-1) rfl ?_)
          refine q0 I_23_34 (wi_ic_lt (fun h => ?_) (fun h => ?_))
          · replace H := H.1 h
            refine q1 (ls' := []) I_23_47 rfl (wi_iconst 0 rfl ?_)
            refine q1 (ls' := []) I_23_48 rfl (wi_zret T_23 (Or.inl C_23) (Or.inl rfl) ⟨_, rfl, ?_⟩)
            refine q0 I_108_10 (wi_ifF rfl ?_)
            refine q1 (ls' := []) I_108_13 rfl (wi_bipush (-2) rfl ?_)
            exact q0 I_108_15 (wi_iret T_108 C_108 ⟨_, rfl, H⟩)
          · replace H := H.2 h
            refine q1 (ls' := [(3, .int a3)]) I_23_37 rfl (wi_iload_n _ rfl ?_)
            refine q0 I_23_38 (wi_bipush 8 rfl ?_)
            refine q0 I_23_40 (wi_ic_ge (fun h => ?_) (fun h => ?_))
            · replace H := H.1 h
              refine q1 (ls' := []) I_23_47 rfl (wi_iconst 0 rfl ?_)
              refine q1 (ls' := []) I_23_48 rfl (wi_zret T_23 (Or.inl C_23) (Or.inl rfl) ⟨_, rfl, ?_⟩)
              refine q0 I_108_10 (wi_ifF rfl ?_)
              refine q1 (ls' := []) I_108_13 rfl (wi_bipush (-2) rfl ?_)
              exact q0 I_108_15 (wi_iret T_108 C_108 ⟨_, rfl, H⟩)
            · replace H := H.2 h
              refine q1 (ls' := []) I_23_43 rfl (wi_iconst 1 rfl ?_)
              refine q0 I_23_44 (wi_goto ?_)
              refine q1 (ls' := []) I_23_48 rfl (wi_zret T_23 (Or.inl C_23) (Or.inr rfl) ⟨_, rfl, ?_⟩)
              refine q0 I_108_10 (wi_ifT rfl ?_)
              refine q1 (ls' := [(0, .ref 0), (1, .int a1), (2, .int a2), (3, .int a3)]) I_108_16 rfl (wi_aload_n _ rfl ?_)
              refine q0 I_108_17 (wi_get (.ref 159) S_0 rfl (by decide) rfl ?_)
              refine q0 I_108_20 (wi_virtI (e := 0) [] [] S_159 rfl (by decide) rfl rfl rfl (okC_i rfl rfl rfl) C_24 (by decide) (Cl_of C_24 Z_24 [(0, .ref 159)] rfl ?_))
              refine q0 I_24_0 (wi_aload_n _ rfl ?_)
              refine q0 I_24_1 (wi_getI S_159 rfl (by decide) rfl ?_)
              refine q0 I_24_4 (wi_bipush 8 rfl ?_)
              refine q0 I_24_6 (wi_ic_lt (fun h => ?_) (fun h => ?_))
              · replace H := H.1 h
                refine q1 (ls' := []) I_24_13 rfl (wi_iconst 0 rfl ?_)
                refine q1 (ls' := []) I_24_14 rfl (wi_zret T_24 (Or.inl C_24) (Or.inl rfl) ⟨_, rfl, ?_⟩)
                refine q0 I_108_23 (wi_ifT rfl ?_)
                refine q1 (ls' := [(0, .ref 0), (1, .int a1), (2, .int a2), (3, .int a3)]) I_108_29 rfl (wi_aload_n _ rfl ?_)
                refine q0 I_108_30 (wi_get (.ref 159) S_0 rfl (by decide) rfl ?_)
                refine q0 I_108_33 (wi_iload_n _ rfl ?_)
                refine q0 I_108_34 (wi_iload_n _ rfl ?_)
                refine q0 I_108_35 (wi_iload_n _ rfl ?_)
                refine q0 I_108_36 (wi_virtV (e := 0) [.int a1, .int a2, .int a3] [] S_159 rfl (by decide) rfl rfl rfl (okC_i rfl rfl rfl) C_25 (by decide) (ClV_mono H ?_))
                intro di1 dl1 H
                refine q0 I_108_39 (wi_aload_n _ rfl ?_)
                refine q0 I_108_40 (wi_get (.ref 159) S_0 rfl (by decide) rfl ?_)
                refine q0 I_108_43 (wi_getI S_159 rfl (by decide) rfl ?_)
                exact q0 I_108_46 (wi_iret T_108 C_108 ⟨_, rfl, H⟩)
              · replace H := H.2 h
                refine q1 (ls' := []) I_24_9 rfl (wi_iconst 1 rfl ?_)
                refine q0 I_24_10 (wi_goto ?_)
                refine q1 (ls' := []) I_24_14 rfl (wi_zret T_24 (Or.inl C_24) (Or.inr rfl) ⟨_, rfl, ?_⟩)
                refine q0 I_108_23 (wi_ifF rfl ?_)
                refine q1 (ls' := []) I_108_26 rfl (wi_bipush (-4) rfl ?_)
                exact q0 I_108_28 (wi_iret T_108 C_108 ⟨_, rfl, H⟩)
theorem r_109  {di : tDi} {dl : tDl} {K : Int32 → tDi → tDl → Prop} (H : (K (di 159 8) (up2 di 159 8 0) dl)) : ClI 0 109 [.ref 0] di dl K := by
  refine Cl_of C_109 Z_109 [(0, .ref 0)] rfl ?_
  refine q0 I_109_0 (wi_aload_n _ rfl ?_)
  refine q0 I_109_1 (wi_get (.ref 159) S_0 rfl (by decide) rfl ?_)
  refine q0 I_109_4 (wi_getI S_159 rfl (by decide) rfl ?_)
  refine q0 I_109_7 (wi_istore_n [(0, .ref 0), (1, .int (di 159 8))] (lt_e X_109 rfl) rfl ?_)
  refine q0 I_109_8 (wi_aload_n _ rfl ?_)
  refine q0 I_109_9 (wi_get (.ref 159) S_0 rfl (by decide) rfl ?_)
  refine q0 I_109_12 (wi_iconst 0 rfl ?_)
  refine q0 I_109_13 (wi_putI S_159 rfl (by decide) rfl rfl rfl ?_)
  refine q0 I_109_16 (wi_iload_n _ rfl ?_)
  exact q0 I_109_17 (wi_iret T_109 C_109 ⟨_, rfl, H⟩)
