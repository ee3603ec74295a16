/-! regions, written by program (gen23.py) -/
theorem r_125 {a1 : Int64} {a2 : Int32} {di : tDi} {dl : tDl} {K : Int64 → tDi → tDl → Prop} (H : (Wq none 5 125 6 [(0, .ref 0), (3, .int a2), (4, .long a1), (6, .int 0)] [] di dl (RJ K))) : ClJ 5 125 [.ref 0, .long a1, .int a2] di dl K := by
  refine Cl_of C_125 Z_125 [(0, .ref 0), (1, .long a1), (3, .int a2)] rfl ?_
  refine q0 I_125_0 (wi_lload_n _ rfl ?_)
  refine q0 I_125_1 (wi_lstore [(0, .ref 0), (1, .long a1), (3, .int a2), (4, .long a1)] (lt_e X_125 rfl) rfl ?_)
  refine q0 I_125_3 (wi_iconst 0 rfl ?_)
  refine q0 I_125_4 (wi_istore [(0, .ref 0), (1, .long a1), (3, .int a2), (4, .long a1), (6, .int 0)] (lt_e X_125 rfl) rfl ?_)
  exact Wq_c I_125_6 rfl rfl H
theorem r_125_6 {x3 : Int32} {x4 : Int64} {x6 : Int32} {di : tDi} {dl : tDl} {K : Int64 → tDi → tDl → Prop} (H : (((di 1 4) ≤ x6 → (Wq none 5 125 44 [(0, .ref 0), (3, .int x3), (4, .long x4), (6, .int 0)] [] di dl (RJ K))) ∧ (x6 < (di 1 4) → (ClI 4 101 [.ref 0, .int x3, .int x6] di dl (fun r21 di21 dl21 => (Wq none 5 125 6 [(0, .ref 0), (3, .int x3), (4, .long (((31 : Int64) * x4) + (r21 : Int32).toInt64)), (6, .int (x6 + 1))] [] di21 dl21 (RJ K))))))) : Wq none 5 125 6 [(0, .ref 0), (3, .int x3), (4, .long x4), (6, .int x6)] [] di dl (RJ K) := by
  refine q1 (ls' := [(0, .ref 0), (3, .int x3), (4, .long x4), (6, .int x6)]) I_125_6 rfl (wi_iload _ rfl ?_)
  refine q0 I_125_8 (wi_aload_n _ rfl ?_)
  refine q0 I_125_9 (wi_get (.ref 1) S_0 rfl (by decide) rfl ?_)
  refine q0 I_125_12 (wi_getI S_1 rfl (by decide) rfl ?_)
  refine q0 I_125_15 (wi_ic_ge (fun h => ?_) (fun h => ?_))
  · replace H := H.1 h
    refine q1 (ls' := [(0, .ref 0), (3, .int x3), (4, .long x4)]) I_125_41 rfl (wi_iconst 0 rfl ?_)
    refine q0 I_125_42 (wi_istore [(0, .ref 0), (3, .int x3), (4, .long x4), (6, .int 0)] (lt_e X_125 rfl) rfl ?_)
    exact Wq_c I_125_44 rfl rfl H
  · replace H := H.2 h
    refine q1 (ls' := [(0, .ref 0), (3, .int x3), (4, .long x4), (6, .int x6)]) I_125_18 rfl (wi_ldc2_w 31 rfl ?_)
    refine q0 I_125_21 (wi_lload _ rfl ?_)
    refine q0 I_125_23 (wi_lmul ?_)
    refine q0 I_125_24 (wi_aload_n _ rfl ?_)
    refine q0 I_125_25 (wi_iload_n _ rfl ?_)
    refine q0 I_125_26 (wi_iload _ rfl ?_)
    refine q0 I_125_28 (wi_virtI (e := 4) [.int x3, .int x6] [.long ((31 : Int64) * x4)] S_0 rfl (by decide) rfl rfl rfl (okC_i rfl rfl rfl) C_101 (by decide) (ClI_mono H ?_))
    intro r21 di21 dl21 H
    refine q0 I_125_31 (wi_i2l ?_)
    refine q0 I_125_32 (wi_ladd ?_)
    refine q0 I_125_33 (wi_lstore [(0, .ref 0), (3, .int x3), (4, .long (((31 : Int64) * x4) + (r21 : Int32).toInt64)), (6, .int x6)] (lt_e X_125 rfl) rfl ?_)
    refine q0 I_125_35 (wi_iinc 1 [(0, .ref 0), (3, .int x3), (4, .long (((31 : Int64) * x4) + (r21 : Int32).toInt64)), (6, .int (x6 + 1))] rfl (lt_e X_125 rfl) rfl rfl ?_)
    refine q0 I_125_38 (wi_goto ?_)
    exact Wq_c I_125_6 rfl rfl H
theorem r_125_44 {x3 : Int32} {x4 : Int64} {x6 : Int32} {di : tDi} {dl : tDl} {K : Int64 → tDi → tDl → Prop} (H : (((di 3 4) ≤ x6 → (ClI 4 102 [.ref 0, .int x3, .int 0] di dl (fun r21 di21 dl21 => (ClI 4 102 [.ref 0, .int x3, .int 1] di21 dl21 (fun r22 di22 dl22 => (ClI 4 105 [.ref 0, .int x3, .int (-1)] di22 dl22 (fun r23 di23 dl23 => (ClI 4 105 [.ref 0, .int x3, .int 0] di23 dl23 (fun r24 di24 dl24 => (ClI 4 107 [.ref 0, .int x3, .int 60] di24 dl24 (fun r25 di25 dl25 => (K (((31 : Int64) * (((31 : Int64) * (((31 : Int64) * (((31 : Int64) * (((31 : Int64) * x4) + (r21 : Int32).toInt64)) + (r22 : Int32).toInt64)) + (r23 : Int32).toInt64)) + (r24 : Int32).toInt64)) + (r25 : Int32).toInt64) di25 dl25)))))))))))) ∧ (x6 < (di 3 4) → (Wq none 5 125 59 [(0, .ref 0), (3, .int x3), (4, .long x4), (6, .int x6), (7, .int 0)] [] di dl (RJ K))))) : Wq none 5 125 44 [(0, .ref 0), (3, .int x3), (4, .long x4), (6, .int x6)] [] di dl (RJ K) := by
  refine q1 (ls' := [(0, .ref 0), (3, .int x3), (4, .long x4), (6, .int x6)]) I_125_44 rfl (wi_iload _ rfl ?_)
  refine q0 I_125_46 (wi_aload_n _ rfl ?_)
  refine q0 I_125_47 (wi_get (.ref 3) S_0 rfl (by decide) rfl ?_)
  refine q0 I_125_50 (wi_getI S_3 rfl (by decide) rfl ?_)
  refine q0 I_125_53 (wi_ic_ge (fun h => ?_) (fun h => ?_))
  · replace H := H.1 h
    refine q1 (ls' := [(0, .ref 0), (3, .int x3), (4, .long x4)]) I_125_113 rfl (wi_ldc2_w 31 rfl ?_)
    refine q0 I_125_116 (wi_lload _ rfl ?_)
    refine q0 I_125_118 (wi_lmul ?_)
    refine q0 I_125_119 (wi_aload_n _ rfl ?_)
    refine q0 I_125_120 (wi_iload_n _ rfl ?_)
    refine q0 I_125_121 (wi_iconst 0 rfl ?_)
    refine q0 I_125_122 (wi_virtI (e := 4) [.int x3, .int 0] [.long ((31 : Int64) * x4)] S_0 rfl (by decide) rfl rfl rfl (okC_i rfl rfl rfl) C_102 (by decide) (ClI_mono H ?_))
    intro r21 di21 dl21 H
    refine q0 I_125_125 (wi_i2l ?_)
    refine q0 I_125_126 (wi_ladd ?_)
    refine q0 I_125_127 (wi_lstore [(0, .ref 0), (3, .int x3), (4, .long (((31 : Int64) * x4) + (r21 : Int32).toInt64))] (lt_e X_125 rfl) rfl ?_)
    refine q0 I_125_129 (wi_ldc2_w 31 rfl ?_)
    refine q0 I_125_132 (wi_lload _ rfl ?_)
    refine q0 I_125_134 (wi_lmul ?_)
    refine q0 I_125_135 (wi_aload_n _ rfl ?_)
    refine q0 I_125_136 (wi_iload_n _ rfl ?_)
    refine q0 I_125_137 (wi_iconst 1 rfl ?_)
    refine q0 I_125_138 (wi_virtI (e := 4) [.int x3, .int 1] [.long ((31 : Int64) * (((31 : Int64) * x4) + (r21 : Int32).toInt64))] S_0 rfl (by decide) rfl rfl rfl (okC_i rfl rfl rfl) C_102 (by decide) (ClI_mono H ?_))
    intro r22 di22 dl22 H
    refine q0 I_125_141 (wi_i2l ?_)
    refine q0 I_125_142 (wi_ladd ?_)
    refine q0 I_125_143 (wi_lstore [(0, .ref 0), (3, .int x3), (4, .long (((31 : Int64) * (((31 : Int64) * x4) + (r21 : Int32).toInt64)) + (r22 : Int32).toInt64))] (lt_e X_125 rfl) rfl ?_)
    refine q0 I_125_145 (wi_ldc2_w 31 rfl ?_)
    refine q0 I_125_148 (wi_lload _ rfl ?_)
    refine q0 I_125_150 (wi_lmul ?_)
    refine q0 I_125_151 (wi_aload_n _ rfl ?_)
    refine q0 I_125_152 (wi_iload_n _ rfl ?_)
    refine q0 I_125_153 (wi_iconst (-1) rfl ?_)
    refine q0 I_125_154 (wi_virtI (e := 4) [.int x3, .int (-1)] [.long ((31 : Int64) * (((31 : Int64) * (((31 : Int64) * x4) + (r21 : Int32).toInt64)) + (r22 : Int32).toInt64))] S_0 rfl (by decide) rfl rfl rfl (okC_i rfl rfl rfl) C_105 (by decide) (ClI_mono H ?_))
    intro r23 di23 dl23 H
    refine q0 I_125_157 (wi_i2l ?_)
    refine q0 I_125_158 (wi_ladd ?_)
    refine q0 I_125_159 (wi_lstore [(0, .ref 0), (3, .int x3), (4, .long (((31 : Int64) * (((31 : Int64) * (((31 : Int64) * x4) + (r21 : Int32).toInt64)) + (r22 : Int32).toInt64)) + (r23 : Int32).toInt64))] (lt_e X_125 rfl) rfl ?_)
    refine q0 I_125_161 (wi_ldc2_w 31 rfl ?_)
    refine q0 I_125_164 (wi_lload _ rfl ?_)
    refine q0 I_125_166 (wi_lmul ?_)
    refine q0 I_125_167 (wi_aload_n _ rfl ?_)
    refine q0 I_125_168 (wi_iload_n _ rfl ?_)
    refine q0 I_125_169 (wi_iconst 0 rfl ?_)
    refine q0 I_125_170 (wi_virtI (e := 4) [.int x3, .int 0] [.long ((31 : Int64) * (((31 : Int64) * (((31 : Int64) * (((31 : Int64) * x4) + (r21 : Int32).toInt64)) + (r22 : Int32).toInt64)) + (r23 : Int32).toInt64))] S_0 rfl (by decide) rfl rfl rfl (okC_i rfl rfl rfl) C_105 (by decide) (ClI_mono H ?_))
    intro r24 di24 dl24 H
    refine q0 I_125_173 (wi_i2l ?_)
    refine q0 I_125_174 (wi_ladd ?_)
    refine q0 I_125_175 (wi_lstore [(0, .ref 0), (3, .int x3), (4, .long (((31 : Int64) * (((31 : Int64) * (((31 : Int64) * (((31 : Int64) * x4) + (r21 : Int32).toInt64)) + (r22 : Int32).toInt64)) + (r23 : Int32).toInt64)) + (r24 : Int32).toInt64))] (lt_e X_125 rfl) rfl ?_)
    refine q0 I_125_177 (wi_ldc2_w 31 rfl ?_)
    refine q0 I_125_180 (wi_lload _ rfl ?_)
    refine q0 I_125_182 (wi_lmul ?_)
    refine q0 I_125_183 (wi_aload_n _ rfl ?_)
    refine q0 I_125_184 (wi_iload_n _ rfl ?_)
    refine q0 I_125_185 (wi_bipush 60 rfl ?_)
    refine q0 I_125_187 (wi_virtI (e := 4) [.int x3, .int 60] [.long ((31 : Int64) * (((31 : Int64) * (((31 : Int64) * (((31 : Int64) * (((31 : Int64) * x4) + (r21 : Int32).toInt64)) + (r22 : Int32).toInt64)) + (r23 : Int32).toInt64)) + (r24 : Int32).toInt64))] S_0 rfl (by decide) rfl rfl rfl (okC_i rfl rfl rfl) C_107 (by decide) (ClI_mono H ?_))
    intro r25 di25 dl25 H
    refine q0 I_125_190 (wi_i2l ?_)
    refine q0 I_125_191 (wi_ladd ?_)
    exact q0 I_125_192 (wi_jret T_125 C_125 ⟨_, rfl, H⟩)
  · replace H := H.2 h
    refine q1 (ls' := [(0, .ref 0), (3, .int x3), (4, .long x4), (6, .int x6)]) I_125_56 rfl (wi_iconst 0 rfl ?_)
    refine q0 I_125_57 (wi_istore [(0, .ref 0), (3, .int x3), (4, .long x4), (6, .int x6), (7, .int 0)] (lt_e X_125 rfl) rfl ?_)
    exact Wq_c I_125_59 rfl rfl H
theorem r_125_59 {x3 : Int32} {x4 : Int64} {x6 : Int32} {x7 : Int32} {di : tDi} {dl : tDl} {K : Int64 → tDi → tDl → Prop} (H : ((2 < x7 → (ClI 4 100 [.ref 0, .int x3, .int x6] di dl (fun r21 di21 dl21 => (Wq none 5 125 44 [(0, .ref 0), (3, .int x3), (4, .long (((31 : Int64) * x4) + (r21 : Int32).toInt64)), (6, .int (x6 + 1))] [] di21 dl21 (RJ K))))) ∧ (x7 ≤ 2 → (ClI 4 99 [.ref 0, .int x3, .int x6, .int x7] di dl (fun r22 di22 dl22 => (Wq none 5 125 59 [(0, .ref 0), (3, .int x3), (4, .long (((31 : Int64) * x4) + (r22 : Int32).toInt64)), (6, .int x6), (7, .int (x7 + 1))] [] di22 dl22 (RJ K))))))) : Wq none 5 125 59 [(0, .ref 0), (3, .int x3), (4, .long x4), (6, .int x6), (7, .int x7)] [] di dl (RJ K) := by
  refine q1 (ls' := [(0, .ref 0), (3, .int x3), (4, .long x4), (6, .int x6), (7, .int x7)]) I_125_59 rfl (wi_iload _ rfl ?_)
  refine q0 I_125_61 (wi_iconst 2 rfl ?_)
  refine q0 I_125_62 (wi_ic_gt (fun h => ?_) (fun h => ?_))
  · replace H := H.1 h
    refine q1 (ls' := [(0, .ref 0), (3, .int x3), (4, .long x4), (6, .int x6)]) I_125_90 rfl (wi_ldc2_w 31 rfl ?_)
    refine q0 I_125_93 (wi_lload _ rfl ?_)
    refine q0 I_125_95 (wi_lmul ?_)
    refine q0 I_125_96 (wi_aload_n _ rfl ?_)
    refine q0 I_125_97 (wi_iload_n _ rfl ?_)
    refine q0 I_125_98 (wi_iload _ rfl ?_)
    refine q0 I_125_100 (wi_virtI (e := 4) [.int x3, .int x6] [.long ((31 : Int64) * x4)] S_0 rfl (by decide) rfl rfl rfl (okC_i rfl rfl rfl) C_100 (by decide) (ClI_mono H ?_))
    intro r21 di21 dl21 H
    refine q0 I_125_103 (wi_i2l ?_)
    refine q0 I_125_104 (wi_ladd ?_)
    refine q0 I_125_105 (wi_lstore [(0, .ref 0), (3, .int x3), (4, .long (((31 : Int64) * x4) + (r21 : Int32).toInt64)), (6, .int x6)] (lt_e X_125 rfl) rfl ?_)
    refine q0 I_125_107 (wi_iinc 1 [(0, .ref 0), (3, .int x3), (4, .long (((31 : Int64) * x4) + (r21 : Int32).toInt64)), (6, .int (x6 + 1))] rfl (lt_e X_125 rfl) rfl rfl ?_)
    refine q0 I_125_110 (wi_goto ?_)
    exact Wq_c I_125_44 rfl rfl H
  · replace H := H.2 h
    refine q1 (ls' := [(0, .ref 0), (3, .int x3), (4, .long x4), (6, .int x6), (7, .int x7)]) I_125_65 rfl (wi_ldc2_w 31 rfl ?_)
    refine q0 I_125_68 (wi_lload _ rfl ?_)
    refine q0 I_125_70 (wi_lmul ?_)
    refine q0 I_125_71 (wi_aload_n _ rfl ?_)
    refine q0 I_125_72 (wi_iload_n _ rfl ?_)
    refine q0 I_125_73 (wi_iload _ rfl ?_)
    refine q0 I_125_75 (wi_iload _ rfl ?_)
    refine q0 I_125_77 (wi_virtI (e := 4) [.int x3, .int x6, .int x7] [.long ((31 : Int64) * x4)] S_0 rfl (by decide) rfl rfl rfl (okC_i rfl rfl rfl) C_99 (by decide) (ClI_mono H ?_))
    intro r22 di22 dl22 H
    refine q0 I_125_80 (wi_i2l ?_)
    refine q0 I_125_81 (wi_ladd ?_)
    refine q0 I_125_82 (wi_lstore [(0, .ref 0), (3, .int x3), (4, .long (((31 : Int64) * x4) + (r22 : Int32).toInt64)), (6, .int x6), (7, .int x7)] (lt_e X_125 rfl) rfl ?_)
    refine q0 I_125_84 (wi_iinc 1 [(0, .ref 0), (3, .int x3), (4, .long (((31 : Int64) * x4) + (r22 : Int32).toInt64)), (6, .int x6), (7, .int (x7 + 1))] rfl (lt_e X_125 rfl) rfl rfl ?_)
    refine q0 I_125_87 (wi_goto ?_)
    exact Wq_c I_125_59 rfl rfl H
theorem r_126 {a1 : Int32} {di : tDi} {dl : tDl} {K : Value → tDi → tDl → Prop} (H : ((a1 < 0 → (K (.null) di dl)) ∧ (0 ≤ a1 → ((3 ≤ a1 → (K (.null) di dl)) ∧ (a1 < 3 → (inB a1 3 = true ∧ ((a1 = 0 → (K (.ref 1) di dl)) ∧ (a1 = 1 → (K (.ref 3) di dl)) ∧ (a1 = 2 → (K (.ref 5) di dl))))))))) : ClR 0 126 [.ref 0, .int a1] di dl K := by
  refine Cl_of C_126 Z_126 [(0, .ref 0), (1, .int a1)] rfl ?_
  refine q0 I_126_0 (wi_iload_n _ rfl ?_)
  refine q0 I_126_1 (wi_if_lt (fun h => ?_) (fun h => ?_))
  · replace H := H.1 h
    refine q1 (ls' := []) I_126_22 rfl (wi_null ?_)
    exact q1 (ls' := []) I_126_23 rfl (wi_nret T_126 C_126 ⟨_, rfl, H⟩)
  · replace H := H.2 h
    refine q1 (ls' := [(0, .ref 0), (1, .int a1)]) I_126_4 rfl (wi_iload_n _ rfl ?_)
    refine q0 I_126_5 (wi_aload_n _ rfl ?_)
    refine q0 I_126_6 (wi_get (.ref 7) S_0 rfl (by decide) rfl ?_)
    refine q0 I_126_9 (wi_alen 3 S_7 (by decide) rfl ?_)
    refine q0 I_126_10 (wi_ic_ge (fun h => ?_) (fun h => ?_))
    · replace H := H.1 h
      refine q1 (ls' := []) I_126_22 rfl (wi_null ?_)
      exact q1 (ls' := []) I_126_23 rfl (wi_nret T_126 C_126 ⟨_, rfl, H⟩)
    · replace H := H.2 h
      refine q1 (ls' := [(0, .ref 0), (1, .int a1)]) I_126_13 rfl (wi_aload_n _ rfl ?_)
      refine q0 I_126_14 (wi_get (.ref 7) S_0 rfl (by decide) rfl ?_)
      refine q0 I_126_17 (wi_iload_n _ rfl ?_)
      have hb1 := H.1
      replace H := H.2
      refine q0 I_126_18 (wi_aatext hb1 (fun h => ?_) (fun h => ?_) (fun h => ?_))
      · replace H := H.1 h
        refine q0 I_126_19 (wi_goto ?_)
        exact q1 (ls' := []) I_126_23 rfl (wi_aret T_126 C_126 ⟨_, rfl, H⟩)
      · replace H := H.2.1 h
        refine q0 I_126_19 (wi_goto ?_)
        exact q1 (ls' := []) I_126_23 rfl (wi_aret T_126 C_126 ⟨_, rfl, H⟩)
      · replace H := H.2.2 h
        refine q0 I_126_19 (wi_goto ?_)
        exact q1 (ls' := []) I_126_23 rfl (wi_aret T_126 C_126 ⟨_, rfl, H⟩)
theorem r_127 {a1 : Int32} {di : tDi} {dl : tDl} {K : Value → tDi → tDl → Prop} (H : ((a1 < 0 → (K (.null) di dl)) ∧ (0 ≤ a1 → ((4 ≤ a1 → (K (.null) di dl)) ∧ (a1 < 4 → (inB a1 4 = true ∧ (K (.ref (168 + 2 * a1.toNatClampNeg)) di dl))))))) : ClR 0 127 [.ref 0, .int a1] di dl K := by
  refine Cl_of C_127 Z_127 [(0, .ref 0), (1, .int a1)] rfl ?_
  refine q0 I_127_0 (wi_iload_n _ rfl ?_)
  refine q0 I_127_1 (wi_if_lt (fun h => ?_) (fun h => ?_))
  · replace H := H.1 h
    refine q1 (ls' := []) I_127_22 rfl (wi_null ?_)
    exact q1 (ls' := []) I_127_23 rfl (wi_nret T_127 C_127 ⟨_, rfl, H⟩)
  · replace H := H.2 h
    refine q1 (ls' := [(0, .ref 0), (1, .int a1)]) I_127_4 rfl (wi_iload_n _ rfl ?_)
    refine q0 I_127_5 (wi_aload_n _ rfl ?_)
    refine q0 I_127_6 (wi_get (.ref 167) S_0 rfl (by decide) rfl ?_)
    refine q0 I_127_9 (wi_alen 4 S_167 (by decide) rfl ?_)
    refine q0 I_127_10 (wi_ic_ge (fun h => ?_) (fun h => ?_))
    · replace H := H.1 h
      refine q1 (ls' := []) I_127_22 rfl (wi_null ?_)
      exact q1 (ls' := []) I_127_23 rfl (wi_nret T_127 C_127 ⟨_, rfl, H⟩)
    · replace H := H.2 h
      refine q1 (ls' := [(0, .ref 0), (1, .int a1)]) I_127_13 rfl (wi_aload_n _ rfl ?_)
      refine q0 I_127_14 (wi_get (.ref 167) S_0 rfl (by decide) rfl ?_)
      refine q0 I_127_17 (wi_iload_n _ rfl ?_)
      have hb1 := H.1
      replace H := H.2
      refine q0 I_127_18 (wi_aaload (e := 1) (168 + 2 * a1.toNatClampNeg) S_167 hb1 (by decide) (K_167 hb1) ?_)
      refine q0 I_127_19 (wi_goto ?_)
      exact q1 (ls' := []) I_127_23 rfl (wi_aret T_127 C_127 ⟨_, rfl, H⟩)
theorem r_128 {a1 : Int32} {di : tDi} {dl : tDl} {K : Int32 → tDi → tDl → Prop} (H : ((a1 < 0 → (K 0 di dl)) ∧ (0 ≤ a1 → (((di 5 4) < a1 → (K 0 di dl)) ∧ (a1 ≤ (di 5 4) → (K 1 di dl)))))) : ClI 0 128 [.ref 0, .int a1] di dl K := by
  refine Cl_of C_128 Z_128 [(0, .ref 0), (1, .int a1)] rfl ?_
  refine q0 I_128_0 (wi_iload_n _ rfl ?_)
  refine q0 I_128_1 (wi_if_lt (fun h => ?_) (fun h => ?_))
  · replace H := H.1 h
    refine q1 (ls' := []) I_128_19 rfl (wi_iconst 0 rfl ?_)
    exact q1 (ls' := []) I_128_20 rfl (wi_zret T_128 (Or.inl C_128) (Or.inl rfl) ⟨_, rfl, H⟩)
  · replace H := H.2 h
    refine q1 (ls' := [(0, .ref 0), (1, .int a1)]) I_128_4 rfl (wi_iload_n _ rfl ?_)
    refine q0 I_128_5 (wi_aload_n _ rfl ?_)
    refine q0 I_128_6 (wi_get (.ref 5) S_0 rfl (by decide) rfl ?_)
    refine q0 I_128_9 (wi_getI S_5 rfl (by decide) rfl ?_)
    refine q0 I_128_12 (wi_ic_gt (fun h => ?_) (fun h => ?_))
    · replace H := H.1 h
      refine q1 (ls' := []) I_128_19 rfl (wi_iconst 0 rfl ?_)
      exact q1 (ls' := []) I_128_20 rfl (wi_zret T_128 (Or.inl C_128) (Or.inl rfl) ⟨_, rfl, H⟩)
    · replace H := H.2 h
      refine q1 (ls' := []) I_128_15 rfl (wi_iconst 1 rfl ?_)
      refine q0 I_128_16 (wi_goto ?_)
      exact q1 (ls' := []) I_128_20 rfl (wi_zret T_128 (Or.inl C_128) (Or.inr rfl) ⟨_, rfl, H⟩)
theorem r_129 {a1 : Int32} {di : tDi} {dl : tDl} {K : Int32 → tDi → tDl → Prop} (H : ((a1 < 0 → (K 0 di dl)) ∧ (0 ≤ a1 → ((3 ≤ a1 → (K 0 di dl)) ∧ (a1 < 3 → (K 1 di dl)))))) : ClI 0 129 [.int a1] di dl K := by
  refine Cl_of C_129 Z_129 [(0, .int a1)] rfl ?_
  refine q0 I_129_0 (wi_iload_n _ rfl ?_)
  refine q0 I_129_1 (wi_if_lt (fun h => ?_) (fun h => ?_))
  · replace H := H.1 h
    refine q1 (ls' := []) I_129_13 rfl (wi_iconst 0 rfl ?_)
    exact q1 (ls' := []) I_129_14 rfl (wi_zret T_129 (Or.inl C_129) (Or.inl rfl) ⟨_, rfl, H⟩)
  · replace H := H.2 h
    refine q1 (ls' := [(0, .int a1)]) I_129_4 rfl (wi_iload_n _ rfl ?_)
    refine q0 I_129_5 (wi_iconst 3 rfl ?_)
    refine q0 I_129_6 (wi_ic_ge (fun h => ?_) (fun h => ?_))
    · replace H := H.1 h
      refine q1 (ls' := []) I_129_13 rfl (wi_iconst 0 rfl ?_)
      exact q1 (ls' := []) I_129_14 rfl (wi_zret T_129 (Or.inl C_129) (Or.inl rfl) ⟨_, rfl, H⟩)
    · replace H := H.2 h
      refine q1 (ls' := []) I_129_9 rfl (wi_iconst 1 rfl ?_)
      refine q0 I_129_10 (wi_goto ?_)
      exact q1 (ls' := []) I_129_14 rfl (wi_zret T_129 (Or.inl C_129) (Or.inr rfl) ⟨_, rfl, H⟩)
theorem r_130 {a1 : Int32} {di : tDi} {dl : tDl} {K : Int32 → tDi → tDl → Prop} (H : (Wq none 0 130 2 [(0, .int a1), (1, .int 0)] [] di dl (RI K))) : ClI 0 130 [.int a1] di dl K := by
  refine Cl_of C_130 Z_130 [(0, .int a1)] rfl ?_
  refine q0 I_130_0 (wi_iconst 0 rfl ?_)
  refine q0 I_130_1 (wi_istore_n [(0, .int a1), (1, .int 0)] (lt_e X_130 rfl) rfl ?_)
  exact Wq_c I_130_2 rfl rfl H
theorem r_130_2 {x0 : Int32} {x1 : Int32} {di : tDi} {dl : tDl} {K : Int32 → tDi → tDl → Prop} (H : ((8 ≤ x1 → (K (-1) di dl)) ∧ (x1 < 8 → ((((x0 >>> (x1 &&& 31)) &&& 1) = 0 → (Wq none 0 130 2 [(0, .int x0), (1, .int (x1 + 1))] [] di dl (RI K))) ∧ (¬ ((x0 >>> (x1 &&& 31)) &&& 1) = 0 → (K x1 di dl)))))) : Wq none 0 130 2 [(0, .int x0), (1, .int x1)] [] di dl (RI K) := by
  refine q1 (ls' := [(0, .int x0), (1, .int x1)]) I_130_2 rfl (wi_iload_n _ rfl ?_)
  refine q0 I_130_3 (wi_bipush 8 rfl ?_)
  refine q0 I_130_5 (wi_ic_ge (fun h => ?_) (fun h => ?_))
  · replace H := H.1 h
    refine q1 (ls' := []) I_130_24 rfl (wi_iconst (-1) rfl ?_)
    exact q0 I_130_25 (wi_iret T_130 C_130 ⟨_, rfl, H⟩)
  · replace H := H.2 h
    refine q1 (ls' := [(0, .int x0), (1, .int x1)]) I_130_8 rfl (wi_iload_n _ rfl ?_)
    refine q0 I_130_9 (wi_iload_n _ rfl ?_)
    refine q0 I_130_10 (wi_ishr ?_)
    refine q0 I_130_11 (wi_iconst 1 rfl ?_)
    refine q0 I_130_12 (wi_iand ?_)
    refine q0 I_130_13 (wi_if_eq (fun h => ?_) (fun h => ?_))
    · replace H := H.1 h
      refine q1 (ls' := [(0, .int x0), (1, .int x1)]) I_130_18 rfl (wi_iinc 1 [(0, .int x0), (1, .int (x1 + 1))] rfl (lt_e X_130 rfl) rfl rfl ?_)
      refine q0 I_130_21 (wi_goto ?_)
      exact Wq_c I_130_2 rfl rfl H
    · replace H := H.2 h
      refine q1 (ls' := [(1, .int x1)]) I_130_16 rfl (wi_iload_n _ rfl ?_)
      exact q0 I_130_17 (wi_iret T_130 C_130 ⟨_, rfl, H⟩)
theorem r_131 {a1 : Int32} {di : tDi} {dl : tDl} {K : Int32 → tDi → tDl → Prop} (H : (K (((-10) : Int32) - a1) (up2 di 0 10 a1) dl)) : ClI 0 131 [.ref 0, .int a1] di dl K := by
  refine Cl_of C_131 Z_131 [(0, .ref 0), (1, .int a1)] rfl ?_
  refine q0 I_131_0 (wi_aload_n _ rfl ?_)
  refine q0 I_131_1 (wi_iload_n _ rfl ?_)
  refine q0 I_131_2 (wi_putI S_0 rfl (by decide) rfl rfl rfl ?_)
  refine q0 I_131_5 (wi_bipush (-10) rfl ?_)
  refine q0 I_131_7 (wi_iload_n _ rfl ?_)
  refine q0 I_131_8 (wi_isub ?_)
  exact q0 I_131_9 (wi_iret T_131 C_131 ⟨_, rfl, H⟩)
theorem r_134 {a1 : Int64} {a2 : Int64} {a3 : Int64} {di : tDi} {dl : tDl} {K : Int32 → tDi → tDl → Prop} (H : (((lg_cmp a1 a2) < 0 → (K 0 di dl)) ∧ (0 ≤ (lg_cmp a1 a2) → ((0 < (lg_cmp a1 a3) → (K 0 di dl)) ∧ ((lg_cmp a1 a3) ≤ 0 → (K 1 di dl)))))) : ClI 0 134 [.long a1, .long a2, .long a3] di dl K := by
  refine Cl_of C_134 Z_134 [(0, .long a1), (2, .long a2), (4, .long a3)] rfl ?_
  refine q0 I_134_0 (wi_lload_n _ rfl ?_)
  refine q0 I_134_1 (wi_lload_n _ rfl ?_)
  refine q0 I_134_2 (wi_lcmp ?_)
  refine q0 I_134_3 (wi_if_lt (fun h => ?_) (fun h => ?_))
  · replace H := H.1 h
    refine q1 (ls' := []) I_134_17 rfl (wi_iconst 0 rfl ?_)
    exact q1 (ls' := []) I_134_18 rfl (wi_zret T_134 (Or.inl C_134) (Or.inl rfl) ⟨_, rfl, H⟩)
  · replace H := H.2 h
    refine q1 (ls' := [(0, .long a1), (4, .long a3)]) I_134_6 rfl (wi_lload_n _ rfl ?_)
    refine q0 I_134_7 (wi_lload _ rfl ?_)
    refine q0 I_134_9 (wi_lcmp ?_)
    refine q0 I_134_10 (wi_if_gt (fun h => ?_) (fun h => ?_))
    · replace H := H.1 h
      refine q1 (ls' := []) I_134_17 rfl (wi_iconst 0 rfl ?_)
      exact q1 (ls' := []) I_134_18 rfl (wi_zret T_134 (Or.inl C_134) (Or.inl rfl) ⟨_, rfl, H⟩)
    · replace H := H.2 h
      refine q1 (ls' := []) I_134_13 rfl (wi_iconst 1 rfl ?_)
      refine q0 I_134_14 (wi_goto ?_)
      exact q1 (ls' := []) I_134_18 rfl (wi_zret T_134 (Or.inl C_134) (Or.inr rfl) ⟨_, rfl, H⟩)
theorem r_135 {a1 : Int32} {di : tDi} {dl : tDl} {K : Int64 → tDi → tDl → Prop} (H : (K (((-9223372036854775808) : Int64) - (a1 : Int32).toInt64) di dl)) : ClJ 0 135 [.int a1] di dl K := by
  refine Cl_of C_135 Z_135 [(0, .int a1)] rfl ?_
  refine q0 I_135_0 (wi_ldc2_w (-9223372036854775808) rfl ?_)
  refine q0 I_135_3 (wi_iload_n _ rfl ?_)
  refine q0 I_135_4 (wi_i2l ?_)
  refine q0 I_135_5 (wi_lsub ?_)
  exact q0 I_135_6 (wi_jret T_135 C_135 ⟨_, rfl, H⟩)
theorem r_136 {a1 : Int32} {di : tDi} {dl : tDl} {K : Int32 → tDi → tDl → Prop} (H : (((lg_cmp (a1 : Int32).toInt64 0) < 0 → (K 0 di dl)) ∧ (0 ≤ (lg_cmp (a1 : Int32).toInt64 0) → ((0 < (lg_cmp (a1 : Int32).toInt64 1) → (K 0 di dl)) ∧ ((lg_cmp (a1 : Int32).toInt64 1) ≤ 0 → (K 1 di dl)))))) : ClI 1 136 [.int a1] di dl K := by
  refine Cl_of C_136 Z_136 [(0, .int a1)] rfl ?_
  refine q0 I_136_0 (wi_iload_n _ rfl ?_)
  refine q0 I_136_1 (wi_i2l ?_)
  refine q0 I_136_2 (wi_lconst 0 rfl ?_)
  refine q0 I_136_3 (wi_lconst 1 rfl ?_)
  refine q0 I_136_4 (wi_statI (e := 0) [.long (a1 : Int32).toInt64, .long 0, .long 1] [] rfl (Or.inl rfl) rfl rfl rfl (okC_i rfl rfl rfl) C_134 (by decide) (Cl_of C_134 Z_134 [(0, .long (a1 : Int32).toInt64), (2, .long 0), (4, .long 1)] rfl ?_))
  refine q0 I_134_0 (wi_lload_n _ rfl ?_)
  refine q0 I_134_1 (wi_lload_n _ rfl ?_)
  refine q0 I_134_2 (wi_lcmp ?_)
  refine q0 I_134_3 (wi_if_lt (fun h => ?_) (fun h => ?_))
  · replace H := H.1 h
    refine q1 (ls' := []) I_134_17 rfl (wi_iconst 0 rfl ?_)
    refine q1 (ls' := []) I_134_18 rfl (wi_zret T_134 (Or.inl C_134) (Or.inl rfl) ⟨_, rfl, ?_⟩)
    exact q0 I_136_7 (wi_zret T_136 (Or.inl C_136) (Or.inl rfl) ⟨_, rfl, H⟩)
  · replace H := H.2 h
    refine q1 (ls' := [(0, .long (a1 : Int32).toInt64), (4, .long 1)]) I_134_6 rfl (wi_lload_n _ rfl ?_)
    refine q0 I_134_7 (wi_lload _ rfl ?_)
    refine q0 I_134_9 (wi_lcmp ?_)
    refine q0 I_134_10 (wi_if_gt (fun h => ?_) (fun h => ?_))
    · replace H := H.1 h
      refine q1 (ls' := []) I_134_17 rfl (wi_iconst 0 rfl ?_)
      refine q1 (ls' := []) I_134_18 rfl (wi_zret T_134 (Or.inl C_134) (Or.inl rfl) ⟨_, rfl, ?_⟩)
      exact q0 I_136_7 (wi_zret T_136 (Or.inl C_136) (Or.inl rfl) ⟨_, rfl, H⟩)
    · replace H := H.2 h
      refine q1 (ls' := []) I_134_13 rfl (wi_iconst 1 rfl ?_)
      refine q0 I_134_14 (wi_goto ?_)
      refine q1 (ls' := []) I_134_18 rfl (wi_zret T_134 (Or.inl C_134) (Or.inr rfl) ⟨_, rfl, ?_⟩)
      exact q0 I_136_7 (wi_zret T_136 (Or.inl C_136) (Or.inr rfl) ⟨_, rfl, H⟩)
theorem r_137 {a1 : Int32} {a2 : Int32} {di : tDi} {dl : tDl} {K : Int32 → tDi → tDl → Prop} (H : ((¬ ((a1 >>> (a2 &&& 31)) &&& 1) = 1 → (K 0 di dl)) ∧ (((a1 >>> (a2 &&& 31)) &&& 1) = 1 → (K 1 di dl)))) : ClI 0 137 [.int a1, .int a2] di dl K := by
  refine Cl_of C_137 Z_137 [(0, .int a1), (1, .int a2)] rfl ?_
  refine q0 I_137_0 (wi_iload_n _ rfl ?_)
  refine q0 I_137_1 (wi_iload_n _ rfl ?_)
  refine q0 I_137_2 (wi_ishr ?_)
  refine q0 I_137_3 (wi_iconst 1 rfl ?_)
  refine q0 I_137_4 (wi_iand ?_)
  refine q0 I_137_5 (wi_iconst 1 rfl ?_)
  refine q0 I_137_6 (wi_ic_ne (fun h => ?_) (fun h => ?_))
  · replace H := H.1 h
    refine q1 (ls' := []) I_137_13 rfl (wi_iconst 0 rfl ?_)
    exact q1 (ls' := []) I_137_14 rfl (wi_zret T_137 (Or.inl C_137) (Or.inl rfl) ⟨_, rfl, H⟩)
  · replace H := H.2 h
    refine q1 (ls' := []) I_137_9 rfl (wi_iconst 1 rfl ?_)
    refine q0 I_137_10 (wi_goto ?_)
    exact q1 (ls' := []) I_137_14 rfl (wi_zret T_137 (Or.inl C_137) (Or.inr rfl) ⟨_, rfl, H⟩)
theorem r_138 {a1 : Int32} {di : tDi} {dl : tDl} {K : Int32 → tDi → tDl → Prop} (H : (Wq none 0 138 4 [(1, .int 0), (2, .int a1)] [] di dl (RI K))) : ClI 0 138 [.int a1] di dl K := by
  refine Cl_of C_138 Z_138 [(0, .int a1)] rfl ?_
  refine q0 I_138_0 (wi_iconst 0 rfl ?_)
  refine q0 I_138_1 (wi_istore_n [(0, .int a1), (1, .int 0)] (lt_e X_138 rfl) rfl ?_)
  refine q0 I_138_2 (wi_iload_n _ rfl ?_)
  refine q0 I_138_3 (wi_istore_n [(0, .int a1), (1, .int 0), (2, .int a1)] (lt_e X_138 rfl) rfl ?_)
  exact Wq_c I_138_4 rfl rfl H
theorem r_138_4 {x1 : Int32} {x2 : Int32} {di : tDi} {dl : tDl} {K : Int32 → tDi → tDl → Prop} (H : ((x2 = 0 → (K x1 di dl)) ∧ (¬ x2 = 0 → (Wq none 0 138 4 [(1, .int (x1 + 1)), (2, .int (x2 &&& (x2 - 1)))] [] di dl (RI K))))) : Wq none 0 138 4 [(1, .int x1), (2, .int x2)] [] di dl (RI K) := by
  refine q1 (ls' := [(1, .int x1), (2, .int x2)]) I_138_4 rfl (wi_iload_n _ rfl ?_)
  refine q0 I_138_5 (wi_if_eq (fun h => ?_) (fun h => ?_))
  · replace H := H.1 h
    refine q1 (ls' := [(1, .int x1)]) I_138_20 rfl (wi_iload_n _ rfl ?_)
    exact q0 I_138_21 (wi_iret T_138 C_138 ⟨_, rfl, H⟩)
  · replace H := H.2 h
    refine q1 (ls' := [(1, .int x1), (2, .int x2)]) I_138_8 rfl (wi_iinc 1 [(1, .int (x1 + 1)), (2, .int x2)] rfl (lt_e X_138 rfl) rfl rfl ?_)
    refine q0 I_138_11 (wi_iload_n _ rfl ?_)
    refine q0 I_138_12 (wi_iload_n _ rfl ?_)
    refine q0 I_138_13 (wi_iconst 1 rfl ?_)
    refine q0 I_138_14 (wi_isub ?_)
    refine q0 I_138_15 (wi_iand ?_)
    refine q0 I_138_16 (wi_istore_n [(1, .int (x1 + 1)), (2, .int (x2 &&& (x2 - 1)))] (lt_e X_138 rfl) rfl ?_)
    refine q0 I_138_17 (wi_goto ?_)
    exact Wq_c I_138_4 rfl rfl H
theorem r_139 {a1 : Int32} {a2 : Int32} {di : tDi} {dl : tDl} {K : Int32 → tDi → tDl → Prop} (H : ((a2 ≤ a1 → (K a2 di dl)) ∧ (a1 < a2 → (K a1 di dl)))) : ClI 0 139 [.int a1, .int a2] di dl K := by
  refine Cl_of C_139 Z_139 [(0, .int a1), (1, .int a2)] rfl ?_
  refine q0 I_139_0 (wi_iload_n _ rfl ?_)
  refine q0 I_139_1 (wi_iload_n _ rfl ?_)
  refine q0 I_139_2 (wi_ic_ge (fun h => ?_) (fun h => ?_))
  · replace H := H.1 h
    refine q1 (ls' := [(1, .int a2)]) I_139_9 rfl (wi_iload_n _ rfl ?_)
    exact q1 (ls' := []) I_139_10 rfl (wi_iret T_139 C_139 ⟨_, rfl, H⟩)
  · replace H := H.2 h
    refine q1 (ls' := [(0, .int a1)]) I_139_5 rfl (wi_iload_n _ rfl ?_)
    refine q0 I_139_6 (wi_goto ?_)
    exact q1 (ls' := []) I_139_10 rfl (wi_iret T_139 C_139 ⟨_, rfl, H⟩)
theorem r_140 {a1 : Int32} {di : tDi} {dl : tDl} {K : Int32 → tDi → tDl → Prop} (H : ((0 ≤ a1 → (K a1 di dl)) ∧ (a1 < 0 → (K (-a1) di dl)))) : ClI 0 140 [.int a1] di dl K := by
  refine Cl_of C_140 Z_140 [(0, .int a1)] rfl ?_
  refine q0 I_140_0 (wi_iload_n _ rfl ?_)
  refine q0 I_140_1 (wi_if_ge (fun h => ?_) (fun h => ?_))
  · replace H := H.1 h
    refine q1 (ls' := [(0, .int a1)]) I_140_9 rfl (wi_iload_n _ rfl ?_)
    exact q1 (ls' := []) I_140_10 rfl (wi_iret T_140 C_140 ⟨_, rfl, H⟩)
  · replace H := H.2 h
    refine q1 (ls' := [(0, .int a1)]) I_140_4 rfl (wi_iload_n _ rfl ?_)
    refine q0 I_140_5 (wi_ineg ?_)
    refine q0 I_140_6 (wi_goto ?_)
    exact q1 (ls' := []) I_140_10 rfl (wi_iret T_140 C_140 ⟨_, rfl, H⟩)
theorem r_141 {a1 : Int64} {a2 : Int64} {a3 : Int32} {di : tDi} {dl : tDl} {K : Int64 → tDi → tDl → Prop} (H : (Wq none 0 141 6 [(0, .long a1), (2, .long a2), (4, .int a3), (5, .long a1), (7, .long a2)] [] di dl (RJ K))) : ClJ 0 141 [.long a1, .long a2, .int a3] di dl K := by
  refine Cl_of C_141 Z_141 [(0, .long a1), (2, .long a2), (4, .int a3)] rfl ?_
  refine q0 I_141_0 (wi_lload_n _ rfl ?_)
  refine q0 I_141_1 (wi_lstore [(0, .long a1), (2, .long a2), (4, .int a3), (5, .long a1)] (lt_e X_141 rfl) rfl ?_)
  refine q0 I_141_3 (wi_lload_n _ rfl ?_)
  refine q0 I_141_4 (wi_lstore [(0, .long a1), (2, .long a2), (4, .int a3), (5, .long a1), (7, .long a2)] (lt_e X_141 rfl) rfl ?_)
  exact Wq_c I_141_6 rfl rfl H
theorem r_141_6 {x0 : Int64} {x2 : Int64} {x4 : Int32} {x5 : Int64} {x7 : Int64} {di : tDi} {dl : tDl} {K : Int64 → tDi → tDl → Prop} (H : (((lg_cmp x7 0) = 0 → ((¬ x4 = 0 → (¬ x5 = 0 ∧ (K (x2 / x5) di dl))) ∧ (x4 = 0 → (¬ x5 = 0 ∧ (K (x0 / x5) di dl))))) ∧ (¬ (lg_cmp x7 0) = 0 → (¬ x7 = 0 ∧ (Wq none 0 141 6 [(0, .long x0), (2, .long x2), (4, .int x4), (5, .long x7), (7, .long (x5 - x5 / x7 * x7))] [] di dl (RJ K)))))) : Wq none 0 141 6 [(0, .long x0), (2, .long x2), (4, .int x4), (5, .long x5), (7, .long x7)] [] di dl (RJ K) := by
  refine q1 (ls' := [(0, .long x0), (2, .long x2), (4, .int x4), (5, .long x5), (7, .long x7)]) I_141_6 rfl (wi_lload _ rfl ?_)
  refine q0 I_141_8 (wi_lconst 0 rfl ?_)
  refine q0 I_141_9 (wi_lcmp ?_)
  refine q0 I_141_10 (wi_if_eq (fun h => ?_) (fun h => ?_))
  · replace H := H.1 h
    refine q1 (ls' := [(0, .long x0), (2, .long x2), (4, .int x4), (5, .long x5)]) I_141_31 rfl (wi_iload _ rfl ?_)
    refine q0 I_141_33 (wi_if_ne (fun h => ?_) (fun h => ?_))
    · replace H := H.1 h
      refine q1 (ls' := [(2, .long x2), (5, .long x5)]) I_141_40 rfl (wi_lload_n _ rfl ?_)
      refine q1 (ls' := [(5, .long x5)]) I_141_41 rfl (wi_lload _ rfl ?_)
      refine q0 I_141_43 (wi_ldiv H.1 ?_)
      replace H := H.2
      exact q0 I_141_44 (wi_jret T_141 C_141 ⟨_, rfl, H⟩)
    · replace H := H.2 h
      refine q1 (ls' := [(0, .long x0), (5, .long x5)]) I_141_36 rfl (wi_lload_n _ rfl ?_)
      refine q0 I_141_37 (wi_goto ?_)
      refine q1 (ls' := [(5, .long x5)]) I_141_41 rfl (wi_lload _ rfl ?_)
      refine q0 I_141_43 (wi_ldiv H.1 ?_)
      replace H := H.2
      exact q0 I_141_44 (wi_jret T_141 C_141 ⟨_, rfl, H⟩)
  · replace H := H.2 h
    refine q1 (ls' := [(0, .long x0), (2, .long x2), (4, .int x4), (5, .long x5), (7, .long x7)]) I_141_13 rfl (wi_lload _ rfl ?_)
    refine q0 I_141_15 (wi_lload _ rfl ?_)
    refine q0 I_141_17 (wi_lrem H.1 ?_)
    replace H := H.2
    refine q0 I_141_18 (wi_lstore [(0, .long x0), (2, .long x2), (4, .int x4), (5, .long x5), (7, .long x7), (9, .long (x5 - x5 / x7 * x7))] (lt_e X_141 rfl) rfl ?_)
    refine q0 I_141_20 (wi_lload _ rfl ?_)
    refine q0 I_141_22 (wi_lstore [(0, .long x0), (2, .long x2), (4, .int x4), (5, .long x7), (7, .long x7), (9, .long (x5 - x5 / x7 * x7))] (lt_e X_141 rfl) rfl ?_)
    refine q0 I_141_24 (wi_lload _ rfl ?_)
    refine q0 I_141_26 (wi_lstore [(0, .long x0), (2, .long x2), (4, .int x4), (5, .long x7), (7, .long (x5 - x5 / x7 * x7)), (9, .long (x5 - x5 / x7 * x7))] (lt_e X_141 rfl) rfl ?_)
    refine q0 I_141_28 (wi_goto ?_)
    exact Wq_c I_141_6 rfl rfl H
theorem r_142 {a1 : Int32} {di : tDi} {dl : tDl} {K : Int32 → tDi → tDl → Prop} (H : (K (((-10) : Int32) - a1) (up2 di 176 4 a1) dl)) : ClI 0 142 [.ref 176, .int a1] di dl K := by
  refine Cl_of C_142 Z_142 [(0, .ref 176), (1, .int a1)] rfl ?_
  refine q0 I_142_0 (wi_aload_n _ rfl ?_)
  refine q0 I_142_1 (wi_iload_n _ rfl ?_)
  refine q0 I_142_2 (wi_putI S_176 rfl (by decide) rfl rfl rfl ?_)
  refine q0 I_142_5 (wi_bipush (-10) rfl ?_)
  refine q0 I_142_7 (wi_iload_n _ rfl ?_)
  refine q0 I_142_8 (wi_isub ?_)
  exact q0 I_142_9 (wi_iret T_142 C_142 ⟨_, rfl, H⟩)
theorem r_143 {a1 : Int32} {di : tDi} {dl : tDl} {K : Int32 → tDi → tDl → Prop} (H : (((lg_cmp (a1 : Int32).toInt64 0) < 0 → (K 0 di dl)) ∧ (0 ≤ (lg_cmp (a1 : Int32).toInt64 0) → ((0 < (lg_cmp (a1 : Int32).toInt64 3) → (K 0 di dl)) ∧ ((lg_cmp (a1 : Int32).toInt64 3) ≤ 0 → (K 1 di dl)))))) : ClI 1 143 [.int a1] di dl K := by
  refine Cl_of C_143 Z_143 [(0, .int a1)] rfl ?_
  refine q0 I_143_0 (wi_iload_n _ rfl ?_)
  refine q0 I_143_1 (wi_i2l ?_)
  refine q0 I_143_2 (wi_lconst 0 rfl ?_)
  refine q0 I_143_3 (wi_ldc2_w 3 rfl ?_)
  refine q0 I_143_6 (wi_statI (e := 0) [.long (a1 : Int32).toInt64, .long 0, .long 3] [] rfl (Or.inl rfl) rfl rfl rfl (okC_i rfl rfl rfl) C_134 (by decide) (Cl_of C_134 Z_134 [(0, .long (a1 : Int32).toInt64), (2, .long 0), (4, .long 3)] rfl ?_))
  refine q0 I_134_0 (wi_lload_n _ rfl ?_)
  refine q0 I_134_1 (wi_lload_n _ rfl ?_)
  refine q0 I_134_2 (wi_lcmp ?_)
  refine q0 I_134_3 (wi_if_lt (fun h => ?_) (fun h => ?_))
  · replace H := H.1 h
    refine q1 (ls' := []) I_134_17 rfl (wi_iconst 0 rfl ?_)
    refine q1 (ls' := []) I_134_18 rfl (wi_zret T_134 (Or.inl C_134) (Or.inl rfl) ⟨_, rfl, ?_⟩)
    exact q0 I_143_9 (wi_zret T_143 (Or.inl C_143) (Or.inl rfl) ⟨_, rfl, H⟩)
  · replace H := H.2 h
    refine q1 (ls' := [(0, .long (a1 : Int32).toInt64), (4, .long 3)]) I_134_6 rfl (wi_lload_n _ rfl ?_)
    refine q0 I_134_7 (wi_lload _ rfl ?_)
    refine q0 I_134_9 (wi_lcmp ?_)
    refine q0 I_134_10 (wi_if_gt (fun h => ?_) (fun h => ?_))
    · replace H := H.1 h
      refine q1 (ls' := []) I_134_17 rfl (wi_iconst 0 rfl ?_)
      refine q1 (ls' := []) I_134_18 rfl (wi_zret T_134 (Or.inl C_134) (Or.inl rfl) ⟨_, rfl, ?_⟩)
      exact q0 I_143_9 (wi_zret T_143 (Or.inl C_143) (Or.inl rfl) ⟨_, rfl, H⟩)
    · replace H := H.2 h
      refine q1 (ls' := []) I_134_13 rfl (wi_iconst 1 rfl ?_)
      refine q0 I_134_14 (wi_goto ?_)
      refine q1 (ls' := []) I_134_18 rfl (wi_zret T_134 (Or.inl C_134) (Or.inr rfl) ⟨_, rfl, ?_⟩)
      exact q0 I_143_9 (wi_zret T_143 (Or.inl C_143) (Or.inr rfl) ⟨_, rfl, H⟩)
theorem r_144 {a1 : Int32} {a2 : Int32} {a3 : Int32} {di : tDi} {dl : tDl} {K : Int32 → tDi → tDl → Prop} (H : (((lg_cmp (a1 : Int32).toInt64 0) < 0 → (K (-2) di dl)) ∧ (0 ≤ (lg_cmp (a1 : Int32).toInt64 0) → ((0 < (lg_cmp (a1 : Int32).toInt64 3) → (K (-2) di dl)) ∧ ((lg_cmp (a1 : Int32).toInt64 3) ≤ 0 → (((lg_cmp (a2 : Int32).toInt64 0) < 0 → (K (-2) di dl)) ∧ (0 ≤ (lg_cmp (a2 : Int32).toInt64 0) → ((0 < (lg_cmp (a2 : Int32).toInt64 2) → (K (-2) di dl)) ∧ ((lg_cmp (a2 : Int32).toInt64 2) ≤ 0 → ((a3 ≤ 60 → ((0 ≤ a3 → (inB a1 4 = true ∧ (Wq none 2 144 55 [(0, .ref 176), (1, .int a1), (3, .int a3), (4, .int 0)] [] (up2 (up2 di 177 (a1.toNatClampNeg) a2) 178 (a1.toNatClampNeg) a3) dl (RI K)))) ∧ (a3 < 0 → (K (((-10) : Int32) - 5) (up2 di 176 4 5) dl)))) ∧ (60 < a3 → (K (-2) di dl)))))))))))) : ClI 2 144 [.ref 176, .int a1, .int a2, .int a3] di dl K := by
  refine Cl_of C_144 Z_144 [(0, .ref 176), (1, .int a1), (2, .int a2), (3, .int a3)] rfl ?_
  refine q0 I_144_0 (wi_iload_n _ rfl ?_)
  refine q0 I_144_1 (wi_statI (e := 1) [.int a1] [] rfl (Or.inl rfl) rfl rfl rfl (okC_i rfl rfl rfl) C_143 (by decide) (Cl_of C_143 Z_143 [(0, .int a1)] rfl ?_))
  refine q0 I_143_0 (wi_iload_n _ rfl ?_)
  refine q0 I_143_1 (wi_i2l ?_)
  refine q0 I_143_2 (wi_lconst 0 rfl ?_)
  refine q0 I_143_3 (wi_ldc2_w 3 rfl ?_)
  refine q0 I_143_6 (wi_statI (e := 0) [.long (a1 : Int32).toInt64, .long 0, .long 3] [] rfl (Or.inl rfl) rfl rfl rfl (okC_i rfl rfl rfl) C_134 (by decide) (Cl_of C_134 Z_134 [(0, .long (a1 : Int32).toInt64), (2, .long 0), (4, .long 3)] rfl ?_))
  refine q0 I_134_0 (wi_lload_n _ rfl ?_)
  refine q0 I_134_1 (wi_lload_n _ rfl ?_)
  refine q0 I_134_2 (wi_lcmp ?_)
  refine q0 I_134_3 (wi_if_lt (fun h => ?_) (fun h => ?_))
  · replace H := H.1 h
    refine q1 (ls' := []) I_134_17 rfl (wi_iconst 0 rfl ?_)
    refine q1 (ls' := []) I_134_18 rfl (wi_zret T_134 (Or.inl C_134) (Or.inl rfl) ⟨_, rfl, ?_⟩)
    refine q0 I_143_9 (wi_zret T_143 (Or.inl C_143) (Or.inl rfl) ⟨_, rfl, ?_⟩)
    refine q0 I_144_4 (wi_ifT rfl ?_)
    refine q1 (ls' := []) I_144_25 rfl (wi_bipush (-2) rfl ?_)
    exact q0 I_144_27 (wi_iret T_144 C_144 ⟨_, rfl, H⟩)
  · replace H := H.2 h
    refine q1 (ls' := [(0, .long (a1 : Int32).toInt64), (4, .long 3)]) I_134_6 rfl (wi_lload_n _ rfl ?_)
    refine q0 I_134_7 (wi_lload _ rfl ?_)
    refine q0 I_134_9 (wi_lcmp ?_)
    refine q0 I_134_10 (wi_if_gt (fun h => ?_) (fun h => ?_))
    · replace H := H.1 h
      refine q1 (ls' := []) I_134_17 rfl (wi_iconst 0 rfl ?_)
      refine q1 (ls' := []) I_134_18 rfl (wi_zret T_134 (Or.inl C_134) (Or.inl rfl) ⟨_, rfl, ?_⟩)
      refine q0 I_143_9 (wi_zret T_143 (Or.inl C_143) (Or.inl rfl) ⟨_, rfl, ?_⟩)
      refine q0 I_144_4 (wi_ifT rfl ?_)
      refine q1 (ls' := []) I_144_25 rfl (wi_bipush (-2) rfl ?_)
      exact q0 I_144_27 (wi_iret T_144 C_144 ⟨_, rfl, H⟩)
    · replace H := H.2 h
      refine q1 (ls' := []) I_134_13 rfl (wi_iconst 1 rfl ?_)
      refine q0 I_134_14 (wi_goto ?_)
      refine q1 (ls' := []) I_134_18 rfl (wi_zret T_134 (Or.inl C_134) (Or.inr rfl) ⟨_, rfl, ?_⟩)
      refine q0 I_143_9 (wi_zret T_143 (Or.inl C_143) (Or.inr rfl) ⟨_, rfl, ?_⟩)
      refine q0 I_144_4 (wi_ifF rfl ?_)
      refine q1 (ls' := [(0, .ref 176), (1, .int a1), (2, .int a2), (3, .int a3)]) I_144_7 rfl (wi_iload_n _ rfl ?_)
      refine q0 I_144_8 (wi_i2l ?_)
      refine q0 I_144_9 (wi_lconst 0 rfl ?_)
      refine q0 I_144_10 (wi_ldc2_w 2 rfl ?_)
      refine q0 I_144_13 (wi_statI (e := 1) [.long (a2 : Int32).toInt64, .long 0, .long 2] [] rfl (Or.inl rfl) rfl rfl rfl (okC_i rfl rfl rfl) C_134 (by decide) (Cl_of C_134 Z_134 [(0, .long (a2 : Int32).toInt64), (2, .long 0), (4, .long 2)] rfl ?_))
      refine q0 I_134_0 (wi_lload_n _ rfl ?_)
      refine q0 I_134_1 (wi_lload_n _ rfl ?_)
      refine q0 I_134_2 (wi_lcmp ?_)
      refine q0 I_134_3 (wi_if_lt (fun h => ?_) (fun h => ?_))
      · replace H := H.1 h
        refine q1 (ls' := []) I_134_17 rfl (wi_iconst 0 rfl ?_)
        refine q1 (ls' := []) I_134_18 rfl (wi_zret T_134 (Or.inl C_134) (Or.inl rfl) ⟨_, rfl, ?_⟩)
        refine q0 I_144_16 (wi_ifT rfl ?_)
        refine q1 (ls' := []) I_144_25 rfl (wi_bipush (-2) rfl ?_)
        exact q0 I_144_27 (wi_iret T_144 C_144 ⟨_, rfl, H⟩)
      · replace H := H.2 h
        refine q1 (ls' := [(0, .long (a2 : Int32).toInt64), (4, .long 2)]) I_134_6 rfl (wi_lload_n _ rfl ?_)
        refine q0 I_134_7 (wi_lload _ rfl ?_)
        refine q0 I_134_9 (wi_lcmp ?_)
        refine q0 I_134_10 (wi_if_gt (fun h => ?_) (fun h => ?_))
        · replace H := H.1 h
          refine q1 (ls' := []) I_134_17 rfl (wi_iconst 0 rfl ?_)
          refine q1 (ls' := []) I_134_18 rfl (wi_zret T_134 (Or.inl C_134) (Or.inl rfl) ⟨_, rfl, ?_⟩)
          refine q0 I_144_16 (wi_ifT rfl ?_)
          refine q1 (ls' := []) I_144_25 rfl (wi_bipush (-2) rfl ?_)
          exact q0 I_144_27 (wi_iret T_144 C_144 ⟨_, rfl, H⟩)
        · replace H := H.2 h
          refine q1 (ls' := []) I_134_13 rfl (wi_iconst 1 rfl ?_)
          refine q0 I_134_14 (wi_goto ?_)
          refine q1 (ls' := []) I_134_18 rfl (wi_zret T_134 (Or.inl C_134) (Or.inr rfl) ⟨_, rfl, ?_⟩)
          refine q0 I_144_16 (wi_ifF rfl ?_)
          refine q1 (ls' := [(0, .ref 176), (1, .int a1), (2, .int a2), (3, .int a3)]) I_144_19 rfl (wi_iload_n _ rfl ?_)
          refine q0 I_144_20 (wi_bipush 60 rfl ?_)
          refine q0 I_144_22 (wi_ic_le (fun h => ?_) (fun h => ?_))
          · replace H := H.1 h
            refine q1 (ls' := [(0, .ref 176), (1, .int a1), (2, .int a2), (3, .int a3)]) I_144_28 rfl (wi_iload_n _ rfl ?_)
            refine q0 I_144_29 (wi_if_ge (fun h => ?_) (fun h => ?_))
            · replace H := H.1 h
              refine q1 (ls' := [(0, .ref 176), (1, .int a1), (2, .int a2), (3, .int a3)]) I_144_38 rfl (wi_aload_n _ rfl ?_)
              refine q0 I_144_39 (wi_get (.ref 177) S_176 rfl (by decide) rfl ?_)
              refine q0 I_144_42 (wi_iload_n _ rfl ?_)
              refine q0 I_144_43 (wi_iload_n _ rfl ?_)
              have hb1 := H.1
              replace H := H.2
              refine q0 I_144_44 (wi_iastore (a1.toNatClampNeg) S_177 hb1 rfl ?_)
              refine q0 I_144_45 (wi_aload_n _ rfl ?_)
              refine q0 I_144_46 (wi_get (.ref 178) S_176 rfl (by decide) rfl ?_)
              refine q0 I_144_49 (wi_iload_n _ rfl ?_)
              refine q0 I_144_50 (wi_iload_n _ rfl ?_)
              refine q0 I_144_51 (wi_iastore (a1.toNatClampNeg) S_178 hb1 rfl ?_)
              refine q0 I_144_52 (wi_iconst 0 rfl ?_)
              refine q0 I_144_53 (wi_istore [(0, .ref 176), (1, .int a1), (2, .int a2), (3, .int a3), (4, .int 0)] (lt_e X_144 rfl) rfl ?_)
              exact Wq_c I_144_55 rfl rfl H
            · replace H := H.2 h
              refine q1 (ls' := [(0, .ref 176)]) I_144_32 rfl (wi_aload_n _ rfl ?_)
              refine q0 I_144_33 (wi_iconst 5 rfl ?_)
              refine q0 I_144_34 (wi_virtI (e := 1) [.int 5] [] S_176 rfl (by decide) rfl rfl rfl (okC_i rfl rfl rfl) C_142 (by decide) (Cl_of C_142 Z_142 [(0, .ref 176), (1, .int 5)] rfl ?_))
              refine q0 I_142_0 (wi_aload_n _ rfl ?_)
              refine q0 I_142_1 (wi_iload_n _ rfl ?_)
              refine q0 I_142_2 (wi_putI S_176 rfl (by decide) rfl rfl rfl ?_)
              refine q0 I_142_5 (wi_bipush (-10) rfl ?_)
              refine q0 I_142_7 (wi_iload_n _ rfl ?_)
              refine q0 I_142_8 (wi_isub ?_)
              refine q0 I_142_9 (wi_iret T_142 C_142 ⟨_, rfl, ?_⟩)
              exact q0 I_144_37 (wi_iret T_144 C_144 ⟨_, rfl, H⟩)
          · replace H := H.2 h
            refine q1 (ls' := []) I_144_25 rfl (wi_bipush (-2) rfl ?_)
            exact q0 I_144_27 (wi_iret T_144 C_144 ⟨_, rfl, H⟩)
theorem r_144_55 {x1 : Int32} {x3 : Int32} {x4 : Int32} {di : tDi} {dl : tDl} {K : Int32 → tDi → tDl → Prop} (H : ((x3 ≤ x4 → (K x3 di dl)) ∧ (x4 < x3 → (inB (((60 : Int32) * x1) + x4) 240 = true ∧ (Wq none 2 144 55 [(0, .ref 176), (1, .int x1), (3, .int x3), (4, .int (x4 + 1))] [] (up2 di 179 ((((60 : Int32) * x1) + x4).toNatClampNeg) 0) dl (RI K)))))) : Wq none 2 144 55 [(0, .ref 176), (1, .int x1), (3, .int x3), (4, .int x4)] [] di dl (RI K) := by
  refine q1 (ls' := [(0, .ref 176), (1, .int x1), (3, .int x3), (4, .int x4)]) I_144_55 rfl (wi_iload _ rfl ?_)
  refine q0 I_144_57 (wi_iload_n _ rfl ?_)
  refine q0 I_144_58 (wi_ic_ge (fun h => ?_) (fun h => ?_))
  · replace H := H.1 h
    refine q1 (ls' := [(3, .int x3)]) I_144_80 rfl (wi_iload_n _ rfl ?_)
    exact q0 I_144_81 (wi_iret T_144 C_144 ⟨_, rfl, H⟩)
  · replace H := H.2 h
    refine q1 (ls' := [(0, .ref 176), (1, .int x1), (3, .int x3), (4, .int x4)]) I_144_61 rfl (wi_aload_n _ rfl ?_)
    refine q0 I_144_62 (wi_get (.ref 179) S_176 rfl (by decide) rfl ?_)
    refine q0 I_144_65 (wi_bipush 60 rfl ?_)
    refine q0 I_144_67 (wi_iload_n _ rfl ?_)
    refine q0 I_144_68 (wi_imul ?_)
    refine q0 I_144_69 (wi_iload _ rfl ?_)
    refine q0 I_144_71 (wi_iadd ?_)
    refine q0 I_144_72 (wi_iconst 0 rfl ?_)
    have hb21 := H.1
    replace H := H.2
    refine q0 I_144_73 (wi_iastore ((((60 : Int32) * x1) + x4).toNatClampNeg) S_179 hb21 rfl ?_)
    refine q0 I_144_74 (wi_iinc 1 [(0, .ref 176), (1, .int x1), (3, .int x3), (4, .int (x4 + 1))] rfl (lt_e X_144 rfl) rfl rfl ?_)
    refine q0 I_144_77 (wi_goto ?_)
    exact Wq_c I_144_55 rfl rfl H
theorem r_145 {a1 : Int32} {di : tDi} {dl : tDl} {K : Int32 → tDi → tDl → Prop} (H : (((lg_cmp (a1 : Int32).toInt64 0) < 0 → (K (-2) di dl)) ∧ (0 ≤ (lg_cmp (a1 : Int32).toInt64 0) → ((0 < (lg_cmp (a1 : Int32).toInt64 3) → (K (-2) di dl)) ∧ ((lg_cmp (a1 : Int32).toInt64 3) ≤ 0 → (inB a1 4 = true ∧ ((0 ≤ (di 177 (a1.toNatClampNeg)) → (K (di 178 (a1.toNatClampNeg)) (up2 di 177 (a1.toNatClampNeg) (-1)) dl)) ∧ ((di 177 (a1.toNatClampNeg)) < 0 → (K (((-10) : Int32) - 1) (up2 di 176 4 1) dl))))))))) : ClI 2 145 [.ref 176, .int a1] di dl K := by
  refine Cl_of C_145 Z_145 [(0, .ref 176), (1, .int a1)] rfl ?_
  refine q0 I_145_0 (wi_iload_n _ rfl ?_)
  refine q0 I_145_1 (wi_statI (e := 1) [.int a1] [] rfl (Or.inl rfl) rfl rfl rfl (okC_i rfl rfl rfl) C_143 (by decide) (Cl_of C_143 Z_143 [(0, .int a1)] rfl ?_))
  refine q0 I_143_0 (wi_iload_n _ rfl ?_)
  refine q0 I_143_1 (wi_i2l ?_)
  refine q0 I_143_2 (wi_lconst 0 rfl ?_)
  refine q0 I_143_3 (wi_ldc2_w 3 rfl ?_)
  refine q0 I_143_6 (wi_statI (e := 0) [.long (a1 : Int32).toInt64, .long 0, .long 3] [] rfl (Or.inl rfl) rfl rfl rfl (okC_i rfl rfl rfl) C_134 (by decide) (Cl_of C_134 Z_134 [(0, .long (a1 : Int32).toInt64), (2, .long 0), (4, .long 3)] rfl ?_))
  refine q0 I_134_0 (wi_lload_n _ rfl ?_)
  refine q0 I_134_1 (wi_lload_n _ rfl ?_)
  refine q0 I_134_2 (wi_lcmp ?_)
  refine q0 I_134_3 (wi_if_lt (fun h => ?_) (fun h => ?_))
  · replace H := H.1 h
    refine q1 (ls' := []) I_134_17 rfl (wi_iconst 0 rfl ?_)
    refine q1 (ls' := []) I_134_18 rfl (wi_zret T_134 (Or.inl C_134) (Or.inl rfl) ⟨_, rfl, ?_⟩)
    refine q0 I_143_9 (wi_zret T_143 (Or.inl C_143) (Or.inl rfl) ⟨_, rfl, ?_⟩)
    refine q0 I_145_4 (wi_ifF rfl ?_)
    refine q1 (ls' := []) I_145_7 rfl (wi_bipush (-2) rfl ?_)
    exact q0 I_145_9 (wi_iret T_145 C_145 ⟨_, rfl, H⟩)
  · replace H := H.2 h
    refine q1 (ls' := [(0, .long (a1 : Int32).toInt64), (4, .long 3)]) I_134_6 rfl (wi_lload_n _ rfl ?_)
    refine q0 I_134_7 (wi_lload _ rfl ?_)
    refine q0 I_134_9 (wi_lcmp ?_)
    refine q0 I_134_10 (wi_if_gt (fun h => ?_) (fun h => ?_))
    · replace H := H.1 h
      refine q1 (ls' := []) I_134_17 rfl (wi_iconst 0 rfl ?_)
      refine q1 (ls' := []) I_134_18 rfl (wi_zret T_134 (Or.inl C_134) (Or.inl rfl) ⟨_, rfl, ?_⟩)
      refine q0 I_143_9 (wi_zret T_143 (Or.inl C_143) (Or.inl rfl) ⟨_, rfl, ?_⟩)
      refine q0 I_145_4 (wi_ifF rfl ?_)
      refine q1 (ls' := []) I_145_7 rfl (wi_bipush (-2) rfl ?_)
      exact q0 I_145_9 (wi_iret T_145 C_145 ⟨_, rfl, H⟩)
    · replace H := H.2 h
      refine q1 (ls' := []) I_134_13 rfl (wi_iconst 1 rfl ?_)
      refine q0 I_134_14 (wi_goto ?_)
      refine q1 (ls' := []) I_134_18 rfl (wi_zret T_134 (Or.inl C_134) (Or.inr rfl) ⟨_, rfl, ?_⟩)
      refine q0 I_143_9 (wi_zret T_143 (Or.inl C_143) (Or.inr rfl) ⟨_, rfl, ?_⟩)
      refine q0 I_145_4 (wi_ifT rfl ?_)
      refine q1 (ls' := [(0, .ref 176), (1, .int a1)]) I_145_10 rfl (wi_aload_n _ rfl ?_)
      refine q0 I_145_11 (wi_get (.ref 177) S_176 rfl (by decide) rfl ?_)
      refine q0 I_145_14 (wi_iload_n _ rfl ?_)
      have hb1 := H.1
      replace H := H.2
      refine q0 I_145_15 (wi_iaload (a1.toNatClampNeg) S_177 hb1 rfl ?_)
      refine q0 I_145_16 (wi_if_ge (fun h => ?_) (fun h => ?_))
      · replace H := H.1 h
        refine q1 (ls' := [(0, .ref 176), (1, .int a1)]) I_145_25 rfl (wi_aload_n _ rfl ?_)
        refine q0 I_145_26 (wi_get (.ref 177) S_176 rfl (by decide) rfl ?_)
        refine q0 I_145_29 (wi_iload_n _ rfl ?_)
        refine q0 I_145_30 (wi_iconst (-1) rfl ?_)
        refine q0 I_145_31 (wi_iastore (a1.toNatClampNeg) S_177 hb1 rfl ?_)
        refine q0 I_145_32 (wi_aload_n _ rfl ?_)
        refine q0 I_145_33 (wi_get (.ref 178) S_176 rfl (by decide) rfl ?_)
        refine q0 I_145_36 (wi_iload_n _ rfl ?_)
        refine q0 I_145_37 (wi_ialoadV (di 178 (a1.toNatClampNeg)) (a1.toNatClampNeg) S_178 hb1 rfl rfl ?_)
        exact q0 I_145_38 (wi_iret T_145 C_145 ⟨_, rfl, H⟩)
      · replace H := H.2 h
        refine q1 (ls' := [(0, .ref 176)]) I_145_19 rfl (wi_aload_n _ rfl ?_)
        refine q0 I_145_20 (wi_iconst 1 rfl ?_)
        refine q0 I_145_21 (wi_virtI (e := 1) [.int 1] [] S_176 rfl (by decide) rfl rfl rfl (okC_i rfl rfl rfl) C_142 (by decide) (Cl_of C_142 Z_142 [(0, .ref 176), (1, .int 1)] rfl ?_))
        refine q0 I_142_0 (wi_aload_n _ rfl ?_)
        refine q0 I_142_1 (wi_iload_n _ rfl ?_)
        refine q0 I_142_2 (wi_putI S_176 rfl (by decide) rfl rfl rfl ?_)
        refine q0 I_142_5 (wi_bipush (-10) rfl ?_)
        refine q0 I_142_7 (wi_iload_n _ rfl ?_)
        refine q0 I_142_8 (wi_isub ?_)
        refine q0 I_142_9 (wi_iret T_142 C_142 ⟨_, rfl, ?_⟩)
        exact q0 I_145_24 (wi_iret T_145 C_145 ⟨_, rfl, H⟩)
theorem r_146 {a1 : Int32} {a2 : Int32} {a3 : Int32} {di : tDi} {dl : tDl} {K : Int32 → tDi → tDl → Prop} (H : (inB a1 4 = true ∧ ((0 ≤ (di 177 (a1.toNatClampNeg)) → (((di 177 (a1.toNatClampNeg)) = a2 → (((lg_cmp (a3 : Int32).toInt64 0) < 0 → (K (((-10) : Int32) - 2) (up2 di 176 4 2) dl)) ∧ (0 ≤ (lg_cmp (a3 : Int32).toInt64 0) → ((0 < (lg_cmp (a3 : Int32).toInt64 (((di 178 (a1.toNatClampNeg)) - 1) : Int32).toInt64) → (K (((-10) : Int32) - 2) (up2 di 176 4 2) dl)) ∧ ((lg_cmp (a3 : Int32).toInt64 (((di 178 (a1.toNatClampNeg)) - 1) : Int32).toInt64) ≤ 0 → (K 0 di dl)))))) ∧ (¬ (di 177 (a1.toNatClampNeg)) = a2 → (K (((-10) : Int32) - 3) (up2 di 176 4 3) dl)))) ∧ ((di 177 (a1.toNatClampNeg)) < 0 → (K (((-10) : Int32) - 1) (up2 di 176 4 1) dl))))) : ClI 1 146 [.ref 176, .int a1, .int a2, .int a3] di dl K := by
  refine Cl_of C_146 Z_146 [(0, .ref 176), (1, .int a1), (2, .int a2), (3, .int a3)] rfl ?_
  refine q0 I_146_0 (wi_aload_n _ rfl ?_)
  refine q0 I_146_1 (wi_get (.ref 177) S_176 rfl (by decide) rfl ?_)
  refine q0 I_146_4 (wi_iload_n _ rfl ?_)
  have hb1 := H.1
  replace H := H.2
  refine q0 I_146_5 (wi_iaload (a1.toNatClampNeg) S_177 hb1 rfl ?_)
  refine q0 I_146_6 (wi_if_ge (fun h => ?_) (fun h => ?_))
  · replace H := H.1 h
    refine q1 (ls' := [(0, .ref 176), (1, .int a1), (2, .int a2), (3, .int a3)]) I_146_15 rfl (wi_aload_n _ rfl ?_)
    refine q0 I_146_16 (wi_get (.ref 177) S_176 rfl (by decide) rfl ?_)
    refine q0 I_146_19 (wi_iload_n _ rfl ?_)
    refine q0 I_146_20 (wi_iaload (a1.toNatClampNeg) S_177 hb1 rfl ?_)
    refine q0 I_146_21 (wi_iload_n _ rfl ?_)
    refine q0 I_146_22 (wi_ic_eq (fun h => ?_) (fun h => ?_))
    · replace H := H.1 h
      refine q1 (ls' := [(0, .ref 176), (1, .int a1), (3, .int a3)]) I_146_31 rfl (wi_iload_n _ rfl ?_)
      refine q0 I_146_32 (wi_i2l ?_)
      refine q0 I_146_33 (wi_lconst 0 rfl ?_)
      refine q0 I_146_34 (wi_aload_n _ rfl ?_)
      refine q0 I_146_35 (wi_get (.ref 178) S_176 rfl (by decide) rfl ?_)
      refine q0 I_146_38 (wi_iload_n _ rfl ?_)
      refine q0 I_146_39 (wi_iaload (a1.toNatClampNeg) S_178 hb1 rfl ?_)
      refine q0 I_146_40 (wi_iconst 1 rfl ?_)
      refine q0 I_146_41 (wi_isub ?_)
      refine q0 I_146_42 (wi_i2l ?_)
      refine q0 I_146_43 (wi_statI (e := 0) [.long (a3 : Int32).toInt64, .long 0, .long (((di 178 (a1.toNatClampNeg)) - 1) : Int32).toInt64] [] rfl (Or.inl rfl) rfl rfl rfl (okC_i rfl rfl rfl) C_134 (by decide) (Cl_of C_134 Z_134 [(0, .long (a3 : Int32).toInt64), (2, .long 0), (4, .long (((di 178 (a1.toNatClampNeg)) - 1) : Int32).toInt64)] rfl ?_))
      refine q0 I_134_0 (wi_lload_n _ rfl ?_)
      refine q0 I_134_1 (wi_lload_n _ rfl ?_)
      refine q0 I_134_2 (wi_lcmp ?_)
      refine q0 I_134_3 (wi_if_lt (fun h => ?_) (fun h => ?_))
      · replace H := H.1 h
        refine q1 (ls' := []) I_134_17 rfl (wi_iconst 0 rfl ?_)
        refine q1 (ls' := []) I_134_18 rfl (wi_zret T_134 (Or.inl C_134) (Or.inl rfl) ⟨_, rfl, ?_⟩)
        refine q0 I_146_46 (wi_ifT rfl ?_)
        refine q1 (ls' := [(0, .ref 176)]) I_146_53 rfl (wi_aload_n _ rfl ?_)
        refine q0 I_146_54 (wi_iconst 2 rfl ?_)
        refine q0 I_146_55 (wi_virtI (e := 0) [.int 2] [] S_176 rfl (by decide) rfl rfl rfl (okC_i rfl rfl rfl) C_142 (by decide) (Cl_of C_142 Z_142 [(0, .ref 176), (1, .int 2)] rfl ?_))
        refine q0 I_142_0 (wi_aload_n _ rfl ?_)
        refine q0 I_142_1 (wi_iload_n _ rfl ?_)
        refine q0 I_142_2 (wi_putI S_176 rfl (by decide) rfl rfl rfl ?_)
        refine q0 I_142_5 (wi_bipush (-10) rfl ?_)
        refine q0 I_142_7 (wi_iload_n _ rfl ?_)
        refine q0 I_142_8 (wi_isub ?_)
        refine q0 I_142_9 (wi_iret T_142 C_142 ⟨_, rfl, ?_⟩)
        exact q1 (ls' := []) I_146_58 rfl (wi_iret T_146 C_146 ⟨_, rfl, H⟩)
      · replace H := H.2 h
        refine q1 (ls' := [(0, .long (a3 : Int32).toInt64), (4, .long (((di 178 (a1.toNatClampNeg)) - 1) : Int32).toInt64)]) I_134_6 rfl (wi_lload_n _ rfl ?_)
        refine q0 I_134_7 (wi_lload _ rfl ?_)
        refine q0 I_134_9 (wi_lcmp ?_)
        refine q0 I_134_10 (wi_if_gt (fun h => ?_) (fun h => ?_))
        · replace H := H.1 h
          refine q1 (ls' := []) I_134_17 rfl (wi_iconst 0 rfl ?_)
          refine q1 (ls' := []) I_134_18 rfl (wi_zret T_134 (Or.inl C_134) (Or.inl rfl) ⟨_, rfl, ?_⟩)
          refine q0 I_146_46 (wi_ifT rfl ?_)
          refine q1 (ls' := [(0, .ref 176)]) I_146_53 rfl (wi_aload_n _ rfl ?_)
          refine q0 I_146_54 (wi_iconst 2 rfl ?_)
          refine q0 I_146_55 (wi_virtI (e := 0) [.int 2] [] S_176 rfl (by decide) rfl rfl rfl (okC_i rfl rfl rfl) C_142 (by decide) (Cl_of C_142 Z_142 [(0, .ref 176), (1, .int 2)] rfl ?_))
          refine q0 I_142_0 (wi_aload_n _ rfl ?_)
          refine q0 I_142_1 (wi_iload_n _ rfl ?_)
          refine q0 I_142_2 (wi_putI S_176 rfl (by decide) rfl rfl rfl ?_)
          refine q0 I_142_5 (wi_bipush (-10) rfl ?_)
          refine q0 I_142_7 (wi_iload_n _ rfl ?_)
          refine q0 I_142_8 (wi_isub ?_)
          refine q0 I_142_9 (wi_iret T_142 C_142 ⟨_, rfl, ?_⟩)
          exact q1 (ls' := []) I_146_58 rfl (wi_iret T_146 C_146 ⟨_, rfl, H⟩)
        · replace H := H.2 h
          refine q1 (ls' := []) I_134_13 rfl (wi_iconst 1 rfl ?_)
          refine q0 I_134_14 (wi_goto ?_)
          refine q1 (ls' := []) I_134_18 rfl (wi_zret T_134 (Or.inl C_134) (Or.inr rfl) ⟨_, rfl, ?_⟩)
          refine q0 I_146_46 (wi_ifF rfl ?_)
          refine q1 (ls' := []) I_146_49 rfl (wi_iconst 0 rfl ?_)
          refine q0 I_146_50 (wi_goto ?_)
          exact q1 (ls' := []) I_146_58 rfl (wi_iret T_146 C_146 ⟨_, rfl, H⟩)
    · replace H := H.2 h
      refine q1 (ls' := [(0, .ref 176)]) I_146_25 rfl (wi_aload_n _ rfl ?_)
      refine q0 I_146_26 (wi_iconst 3 rfl ?_)
      refine q0 I_146_27 (wi_virtI (e := 0) [.int 3] [] S_176 rfl (by decide) rfl rfl rfl (okC_i rfl rfl rfl) C_142 (by decide) (Cl_of C_142 Z_142 [(0, .ref 176), (1, .int 3)] rfl ?_))
      refine q0 I_142_0 (wi_aload_n _ rfl ?_)
      refine q0 I_142_1 (wi_iload_n _ rfl ?_)
      refine q0 I_142_2 (wi_putI S_176 rfl (by decide) rfl rfl rfl ?_)
      refine q0 I_142_5 (wi_bipush (-10) rfl ?_)
      refine q0 I_142_7 (wi_iload_n _ rfl ?_)
      refine q0 I_142_8 (wi_isub ?_)
      refine q0 I_142_9 (wi_iret T_142 C_142 ⟨_, rfl, ?_⟩)
      exact q0 I_146_30 (wi_iret T_146 C_146 ⟨_, rfl, H⟩)
  · replace H := H.2 h
    refine q1 (ls' := [(0, .ref 176)]) I_146_9 rfl (wi_aload_n _ rfl ?_)
    refine q0 I_146_10 (wi_iconst 1 rfl ?_)
    refine q0 I_146_11 (wi_virtI (e := 0) [.int 1] [] S_176 rfl (by decide) rfl rfl rfl (okC_i rfl rfl rfl) C_142 (by decide) (Cl_of C_142 Z_142 [(0, .ref 176), (1, .int 1)] rfl ?_))
    refine q0 I_142_0 (wi_aload_n _ rfl ?_)
    refine q0 I_142_1 (wi_iload_n _ rfl ?_)
    refine q0 I_142_2 (wi_putI S_176 rfl (by decide) rfl rfl rfl ?_)
    refine q0 I_142_5 (wi_bipush (-10) rfl ?_)
    refine q0 I_142_7 (wi_iload_n _ rfl ?_)
    refine q0 I_142_8 (wi_isub ?_)
    refine q0 I_142_9 (wi_iret T_142 C_142 ⟨_, rfl, ?_⟩)
    exact q0 I_146_14 (wi_iret T_146 C_146 ⟨_, rfl, H⟩)
theorem r_147 {a1 : Int32} {a2 : Int32} {di : tDi} {dl : tDl} {K : Int32 → tDi → tDl → Prop} (H : ((¬ a1 = 0 → ((¬ a1 = 1 → (K a2 di dl)) ∧ (a1 = 1 → (K (a2).toInt16.toInt32 di dl)))) ∧ (a1 = 0 → (K (a2).toInt8.toInt32 di dl)))) : ClI 0 147 [.int a1, .int a2] di dl K := by
  refine Cl_of C_147 Z_147 [(0, .int a1), (1, .int a2)] rfl ?_
  refine q0 I_147_0 (wi_iload_n _ rfl ?_)
  refine q0 I_147_1 (wi_if_ne (fun h => ?_) (fun h => ?_))
  · replace H := H.1 h
    refine q1 (ls' := [(0, .int a1), (1, .int a2)]) I_147_9 rfl (wi_iload_n _ rfl ?_)
    refine q0 I_147_10 (wi_iconst 1 rfl ?_)
    refine q0 I_147_11 (wi_ic_ne (fun h => ?_) (fun h => ?_))
    · replace H := H.1 h
      refine q1 (ls' := [(1, .int a2)]) I_147_19 rfl (wi_iload_n _ rfl ?_)
      exact q1 (ls' := []) I_147_20 rfl (wi_iret T_147 C_147 ⟨_, rfl, H⟩)
    · replace H := H.2 h
      refine q1 (ls' := [(1, .int a2)]) I_147_14 rfl (wi_iload_n _ rfl ?_)
      refine q0 I_147_15 (wi_i2s ?_)
      refine q0 I_147_16 (wi_goto ?_)
      exact q1 (ls' := []) I_147_20 rfl (wi_iret T_147 C_147 ⟨_, rfl, H⟩)
  · replace H := H.2 h
    refine q1 (ls' := [(1, .int a2)]) I_147_4 rfl (wi_iload_n _ rfl ?_)
    refine q0 I_147_5 (wi_i2b ?_)
    refine q0 I_147_6 (wi_goto ?_)
    exact q1 (ls' := []) I_147_20 rfl (wi_iret T_147 C_147 ⟨_, rfl, H⟩)
theorem r_148 {a1 : Int32} {a2 : Int32} {a3 : Int32} {a4 : Int32} {di : tDi} {dl : tDl} {K : Int32 → tDi → tDl → Prop} (H : (((lg_cmp (a1 : Int32).toInt64 0) < 0 → (K (-2) di dl)) ∧ (0 ≤ (lg_cmp (a1 : Int32).toInt64 0) → ((0 < (lg_cmp (a1 : Int32).toInt64 3) → (K (-2) di dl)) ∧ ((lg_cmp (a1 : Int32).toInt64 3) ≤ 0 → (((lg_cmp (a2 : Int32).toInt64 0) < 0 → (K (-2) di dl)) ∧ (0 ≤ (lg_cmp (a2 : Int32).toInt64 0) → ((0 < (lg_cmp (a2 : Int32).toInt64 2) → (K (-2) di dl)) ∧ ((lg_cmp (a2 : Int32).toInt64 2) ≤ 0 → (ClI 1 146 [.ref 176, .int a1, .int a2, .int a3] di dl (fun r1 di1 dl1 => ((r1 = 0 → ((¬ a2 = 0 → ((¬ a2 = 1 → (inB (((60 : Int32) * a1) + a3) 240 = true ∧ (K 1 (up2 di1 179 ((((60 : Int32) * a1) + a3).toNatClampNeg) a4) dl1))) ∧ (a2 = 1 → (inB (((60 : Int32) * a1) + a3) 240 = true ∧ (K 1 (up2 di1 179 ((((60 : Int32) * a1) + a3).toNatClampNeg) (a4).toInt16.toInt32) dl1))))) ∧ (a2 = 0 → (inB (((60 : Int32) * a1) + a3) 240 = true ∧ (K 1 (up2 di1 179 ((((60 : Int32) * a1) + a3).toNatClampNeg) (a4).toInt8.toInt32) dl1))))) ∧ (¬ r1 = 0 → (K r1 di1 dl1)))))))))))))) : ClI 2 148 [.ref 176, .int a1, .int a2, .int a3, .int a4] di dl K := by
  refine Cl_of C_148 Z_148 [(0, .ref 176), (1, .int a1), (2, .int a2), (3, .int a3), (4, .int a4)] rfl ?_
  refine q0 I_148_0 (wi_iload_n _ rfl ?_)
  refine q0 I_148_1 (wi_statI (e := 1) [.int a1] [] rfl (Or.inl rfl) rfl rfl rfl (okC_i rfl rfl rfl) C_143 (by decide) (Cl_of C_143 Z_143 [(0, .int a1)] rfl ?_))
  refine q0 I_143_0 (wi_iload_n _ rfl ?_)
  refine q0 I_143_1 (wi_i2l ?_)
  refine q0 I_143_2 (wi_lconst 0 rfl ?_)
  refine q0 I_143_3 (wi_ldc2_w 3 rfl ?_)
  refine q0 I_143_6 (wi_statI (e := 0) [.long (a1 : Int32).toInt64, .long 0, .long 3] [] rfl (Or.inl rfl) rfl rfl rfl (okC_i rfl rfl rfl) C_134 (by decide) (Cl_of C_134 Z_134 [(0, .long (a1 : Int32).toInt64), (2, .long 0), (4, .long 3)] rfl ?_))
  refine q0 I_134_0 (wi_lload_n _ rfl ?_)
  refine q0 I_134_1 (wi_lload_n _ rfl ?_)
  refine q0 I_134_2 (wi_lcmp ?_)
  refine q0 I_134_3 (wi_if_lt (fun h => ?_) (fun h => ?_))
  · replace H := H.1 h
    refine q1 (ls' := []) I_134_17 rfl (wi_iconst 0 rfl ?_)
    refine q1 (ls' := []) I_134_18 rfl (wi_zret T_134 (Or.inl C_134) (Or.inl rfl) ⟨_, rfl, ?_⟩)
    refine q0 I_143_9 (wi_zret T_143 (Or.inl C_143) (Or.inl rfl) ⟨_, rfl, ?_⟩)
    refine q0 I_148_4 (wi_ifT rfl ?_)
    refine q1 (ls' := []) I_148_19 rfl (wi_bipush (-2) rfl ?_)
    exact q0 I_148_21 (wi_iret T_148 C_148 ⟨_, rfl, H⟩)
  · replace H := H.2 h
    refine q1 (ls' := [(0, .long (a1 : Int32).toInt64), (4, .long 3)]) I_134_6 rfl (wi_lload_n _ rfl ?_)
    refine q0 I_134_7 (wi_lload _ rfl ?_)
    refine q0 I_134_9 (wi_lcmp ?_)
    refine q0 I_134_10 (wi_if_gt (fun h => ?_) (fun h => ?_))
    · replace H := H.1 h
      refine q1 (ls' := []) I_134_17 rfl (wi_iconst 0 rfl ?_)
      refine q1 (ls' := []) I_134_18 rfl (wi_zret T_134 (Or.inl C_134) (Or.inl rfl) ⟨_, rfl, ?_⟩)
      refine q0 I_143_9 (wi_zret T_143 (Or.inl C_143) (Or.inl rfl) ⟨_, rfl, ?_⟩)
      refine q0 I_148_4 (wi_ifT rfl ?_)
      refine q1 (ls' := []) I_148_19 rfl (wi_bipush (-2) rfl ?_)
      exact q0 I_148_21 (wi_iret T_148 C_148 ⟨_, rfl, H⟩)
    · replace H := H.2 h
      refine q1 (ls' := []) I_134_13 rfl (wi_iconst 1 rfl ?_)
      refine q0 I_134_14 (wi_goto ?_)
      refine q1 (ls' := []) I_134_18 rfl (wi_zret T_134 (Or.inl C_134) (Or.inr rfl) ⟨_, rfl, ?_⟩)
      refine q0 I_143_9 (wi_zret T_143 (Or.inl C_143) (Or.inr rfl) ⟨_, rfl, ?_⟩)
      refine q0 I_148_4 (wi_ifF rfl ?_)
      refine q1 (ls' := [(0, .ref 176), (1, .int a1), (2, .int a2), (3, .int a3), (4, .int a4)]) I_148_7 rfl (wi_iload_n _ rfl ?_)
      refine q0 I_148_8 (wi_i2l ?_)
      refine q0 I_148_9 (wi_lconst 0 rfl ?_)
      refine q0 I_148_10 (wi_ldc2_w 2 rfl ?_)
      refine q0 I_148_13 (wi_statI (e := 1) [.long (a2 : Int32).toInt64, .long 0, .long 2] [] rfl (Or.inl rfl) rfl rfl rfl (okC_i rfl rfl rfl) C_134 (by decide) (Cl_of C_134 Z_134 [(0, .long (a2 : Int32).toInt64), (2, .long 0), (4, .long 2)] rfl ?_))
      refine q0 I_134_0 (wi_lload_n _ rfl ?_)
      refine q0 I_134_1 (wi_lload_n _ rfl ?_)
      refine q0 I_134_2 (wi_lcmp ?_)
      refine q0 I_134_3 (wi_if_lt (fun h => ?_) (fun h => ?_))
      · replace H := H.1 h
        refine q1 (ls' := []) I_134_17 rfl (wi_iconst 0 rfl ?_)
        refine q1 (ls' := []) I_134_18 rfl (wi_zret T_134 (Or.inl C_134) (Or.inl rfl) ⟨_, rfl, ?_⟩)
        refine q0 I_148_16 (wi_ifF rfl ?_)
        refine q1 (ls' := []) I_148_19 rfl (wi_bipush (-2) rfl ?_)
        exact q0 I_148_21 (wi_iret T_148 C_148 ⟨_, rfl, H⟩)
      · replace H := H.2 h
        refine q1 (ls' := [(0, .long (a2 : Int32).toInt64), (4, .long 2)]) I_134_6 rfl (wi_lload_n _ rfl ?_)
        refine q0 I_134_7 (wi_lload _ rfl ?_)
        refine q0 I_134_9 (wi_lcmp ?_)
        refine q0 I_134_10 (wi_if_gt (fun h => ?_) (fun h => ?_))
        · replace H := H.1 h
          refine q1 (ls' := []) I_134_17 rfl (wi_iconst 0 rfl ?_)
          refine q1 (ls' := []) I_134_18 rfl (wi_zret T_134 (Or.inl C_134) (Or.inl rfl) ⟨_, rfl, ?_⟩)
          refine q0 I_148_16 (wi_ifF rfl ?_)
          refine q1 (ls' := []) I_148_19 rfl (wi_bipush (-2) rfl ?_)
          exact q0 I_148_21 (wi_iret T_148 C_148 ⟨_, rfl, H⟩)
        · replace H := H.2 h
          refine q1 (ls' := []) I_134_13 rfl (wi_iconst 1 rfl ?_)
          refine q0 I_134_14 (wi_goto ?_)
          refine q1 (ls' := []) I_134_18 rfl (wi_zret T_134 (Or.inl C_134) (Or.inr rfl) ⟨_, rfl, ?_⟩)
          refine q0 I_148_16 (wi_ifT rfl ?_)
          refine q1 (ls' := [(0, .ref 176), (1, .int a1), (2, .int a2), (3, .int a3), (4, .int a4)]) I_148_22 rfl (wi_aload_n _ rfl ?_)
          refine q0 I_148_23 (wi_iload_n _ rfl ?_)
          refine q0 I_148_24 (wi_iload_n _ rfl ?_)
          refine q0 I_148_25 (wi_iload_n _ rfl ?_)
          refine q0 I_148_26 (wi_virtI (e := 1) [.int a1, .int a2, .int a3] [] S_176 rfl (by decide) rfl rfl rfl (okC_i rfl rfl rfl) C_146 (by decide) (ClI_mono H ?_))
          intro r1 di1 dl1 H
          refine q0 I_148_29 (wi_istore [(0, .ref 176), (1, .int a1), (2, .int a2), (3, .int a3), (4, .int a4), (5, .int r1)] (lt_e X_148 rfl) rfl ?_)
          refine q0 I_148_31 (wi_iload _ rfl ?_)
          refine q0 I_148_33 (wi_if_eq (fun h => ?_) (fun h => ?_))
          · replace H := H.1 h
            refine q1 (ls' := [(0, .ref 176), (1, .int a1), (2, .int a2), (3, .int a3), (4, .int a4)]) I_148_39 rfl (wi_aload_n _ rfl ?_)
            refine q0 I_148_40 (wi_get (.ref 179) S_176 rfl (by decide) rfl ?_)
            refine q0 I_148_43 (wi_bipush 60 rfl ?_)
            refine q0 I_148_45 (wi_iload_n _ rfl ?_)
            refine q0 I_148_46 (wi_imul ?_)
            refine q0 I_148_47 (wi_iload_n _ rfl ?_)
            refine q0 I_148_48 (wi_iadd ?_)
            refine q0 I_148_49 (wi_iload_n _ rfl ?_)
            refine q0 I_148_50 (wi_iload _ rfl ?_)
            refine q0 I_148_52 (wi_statI (e := 1) [.int a2, .int a4] [.int (((60 : Int32) * a1) + a3), .ref 179] rfl (Or.inl rfl) rfl rfl rfl (okC_i rfl rfl rfl) C_147 (by decide) (Cl_of C_147 Z_147 [(0, .int a2), (1, .int a4)] rfl ?_))
            refine q0 I_147_0 (wi_iload_n _ rfl ?_)
            refine q0 I_147_1 (wi_if_ne (fun h => ?_) (fun h => ?_))
            · replace H := H.1 h
              refine q1 (ls' := [(0, .int a2), (1, .int a4)]) I_147_9 rfl (wi_iload_n _ rfl ?_)
              refine q0 I_147_10 (wi_iconst 1 rfl ?_)
              refine q0 I_147_11 (wi_ic_ne (fun h => ?_) (fun h => ?_))
              · replace H := H.1 h
                refine q1 (ls' := [(1, .int a4)]) I_147_19 rfl (wi_iload_n _ rfl ?_)
                refine q1 (ls' := []) I_147_20 rfl (wi_iret T_147 C_147 ⟨_, rfl, ?_⟩)
                have hb2 := H.1
                replace H := H.2
                refine q0 I_148_55 (wi_iastore ((((60 : Int32) * a1) + a3).toNatClampNeg) S_179 hb2 rfl ?_)
                refine q0 I_148_56 (wi_iconst 1 rfl ?_)
                exact q0 I_148_57 (wi_iret T_148 C_148 ⟨_, rfl, H⟩)
              · replace H := H.2 h
                refine q1 (ls' := [(1, .int a4)]) I_147_14 rfl (wi_iload_n _ rfl ?_)
                refine q0 I_147_15 (wi_i2s ?_)
                refine q0 I_147_16 (wi_goto ?_)
                refine q1 (ls' := []) I_147_20 rfl (wi_iret T_147 C_147 ⟨_, rfl, ?_⟩)
                have hb3 := H.1
                replace H := H.2
                refine q0 I_148_55 (wi_iastore ((((60 : Int32) * a1) + a3).toNatClampNeg) S_179 hb3 rfl ?_)
                refine q0 I_148_56 (wi_iconst 1 rfl ?_)
                exact q0 I_148_57 (wi_iret T_148 C_148 ⟨_, rfl, H⟩)
            · replace H := H.2 h
              refine q1 (ls' := [(1, .int a4)]) I_147_4 rfl (wi_iload_n _ rfl ?_)
              refine q0 I_147_5 (wi_i2b ?_)
              refine q0 I_147_6 (wi_goto ?_)
              refine q1 (ls' := []) I_147_20 rfl (wi_iret T_147 C_147 ⟨_, rfl, ?_⟩)
              have hb4 := H.1
              replace H := H.2
              refine q0 I_148_55 (wi_iastore ((((60 : Int32) * a1) + a3).toNatClampNeg) S_179 hb4 rfl ?_)
              refine q0 I_148_56 (wi_iconst 1 rfl ?_)
              exact q0 I_148_57 (wi_iret T_148 C_148 ⟨_, rfl, H⟩)
          · replace H := H.2 h
            refine q1 (ls' := [(5, .int r1)]) I_148_36 rfl (wi_iload _ rfl ?_)
            exact q0 I_148_38 (wi_iret T_148 C_148 ⟨_, rfl, H⟩)
theorem r_149 {a1 : Int32} {a2 : Int32} {a3 : Int32} {di : tDi} {dl : tDl} {K : Int32 → tDi → tDl → Prop} (H : (((lg_cmp (a1 : Int32).toInt64 0) < 0 → (K (-2147483648) di dl)) ∧ (0 ≤ (lg_cmp (a1 : Int32).toInt64 0) → ((0 < (lg_cmp (a1 : Int32).toInt64 3) → (K (-2147483648) di dl)) ∧ ((lg_cmp (a1 : Int32).toInt64 3) ≤ 0 → (((lg_cmp (a2 : Int32).toInt64 0) < 0 → (K (-2147483648) di dl)) ∧ (0 ≤ (lg_cmp (a2 : Int32).toInt64 0) → ((0 < (lg_cmp (a2 : Int32).toInt64 2) → (K (-2147483648) di dl)) ∧ ((lg_cmp (a2 : Int32).toInt64 2) ≤ 0 → (ClI 1 146 [.ref 176, .int a1, .int a2, .int a3] di dl (fun r1 di1 dl1 => ((r1 = 0 → (inB (((60 : Int32) * a1) + a3) 240 = true ∧ (K (di1 179 ((((60 : Int32) * a1) + a3).toNatClampNeg)) di1 dl1))) ∧ (¬ r1 = 0 → (K (-2147483648) di1 dl1)))))))))))))) : ClI 2 149 [.ref 176, .int a1, .int a2, .int a3] di dl K := by
  refine Cl_of C_149 Z_149 [(0, .ref 176), (1, .int a1), (2, .int a2), (3, .int a3)] rfl ?_
  refine q0 I_149_0 (wi_iload_n _ rfl ?_)
  refine q0 I_149_1 (wi_statI (e := 1) [.int a1] [] rfl (Or.inl rfl) rfl rfl rfl (okC_i rfl rfl rfl) C_143 (by decide) (Cl_of C_143 Z_143 [(0, .int a1)] rfl ?_))
  refine q0 I_143_0 (wi_iload_n _ rfl ?_)
  refine q0 I_143_1 (wi_i2l ?_)
  refine q0 I_143_2 (wi_lconst 0 rfl ?_)
  refine q0 I_143_3 (wi_ldc2_w 3 rfl ?_)
  refine q0 I_143_6 (wi_statI (e := 0) [.long (a1 : Int32).toInt64, .long 0, .long 3] [] rfl (Or.inl rfl) rfl rfl rfl (okC_i rfl rfl rfl) C_134 (by decide) (Cl_of C_134 Z_134 [(0, .long (a1 : Int32).toInt64), (2, .long 0), (4, .long 3)] rfl ?_))
  refine q0 I_134_0 (wi_lload_n _ rfl ?_)
  refine q0 I_134_1 (wi_lload_n _ rfl ?_)
  refine q0 I_134_2 (wi_lcmp ?_)
  refine q0 I_134_3 (wi_if_lt (fun h => ?_) (fun h => ?_))
  · replace H := H.1 h
    refine q1 (ls' := []) I_134_17 rfl (wi_iconst 0 rfl ?_)
    refine q1 (ls' := []) I_134_18 rfl (wi_zret T_134 (Or.inl C_134) (Or.inl rfl) ⟨_, rfl, ?_⟩)
    refine q0 I_143_9 (wi_zret T_143 (Or.inl C_143) (Or.inl rfl) ⟨_, rfl, ?_⟩)
    refine q0 I_149_4 (wi_ifT rfl ?_)
    refine q1 (ls' := []) I_149_29 rfl (wi_ldc (-2147483648) rfl ?_)
    exact q0 I_149_31 (wi_iret T_149 C_149 ⟨_, rfl, H⟩)
  · replace H := H.2 h
    refine q1 (ls' := [(0, .long (a1 : Int32).toInt64), (4, .long 3)]) I_134_6 rfl (wi_lload_n _ rfl ?_)
    refine q0 I_134_7 (wi_lload _ rfl ?_)
    refine q0 I_134_9 (wi_lcmp ?_)
    refine q0 I_134_10 (wi_if_gt (fun h => ?_) (fun h => ?_))
    · replace H := H.1 h
      refine q1 (ls' := []) I_134_17 rfl (wi_iconst 0 rfl ?_)
      refine q1 (ls' := []) I_134_18 rfl (wi_zret T_134 (Or.inl C_134) (Or.inl rfl) ⟨_, rfl, ?_⟩)
      refine q0 I_143_9 (wi_zret T_143 (Or.inl C_143) (Or.inl rfl) ⟨_, rfl, ?_⟩)
      refine q0 I_149_4 (wi_ifT rfl ?_)
      refine q1 (ls' := []) I_149_29 rfl (wi_ldc (-2147483648) rfl ?_)
      exact q0 I_149_31 (wi_iret T_149 C_149 ⟨_, rfl, H⟩)
    · replace H := H.2 h
      refine q1 (ls' := []) I_134_13 rfl (wi_iconst 1 rfl ?_)
      refine q0 I_134_14 (wi_goto ?_)
      refine q1 (ls' := []) I_134_18 rfl (wi_zret T_134 (Or.inl C_134) (Or.inr rfl) ⟨_, rfl, ?_⟩)
      refine q0 I_143_9 (wi_zret T_143 (Or.inl C_143) (Or.inr rfl) ⟨_, rfl, ?_⟩)
      refine q0 I_149_4 (wi_ifF rfl ?_)
      refine q1 (ls' := [(0, .ref 176), (1, .int a1), (2, .int a2), (3, .int a3)]) I_149_7 rfl (wi_iload_n _ rfl ?_)
      refine q0 I_149_8 (wi_i2l ?_)
      refine q0 I_149_9 (wi_lconst 0 rfl ?_)
      refine q0 I_149_10 (wi_ldc2_w 2 rfl ?_)
      refine q0 I_149_13 (wi_statI (e := 1) [.long (a2 : Int32).toInt64, .long 0, .long 2] [] rfl (Or.inl rfl) rfl rfl rfl (okC_i rfl rfl rfl) C_134 (by decide) (Cl_of C_134 Z_134 [(0, .long (a2 : Int32).toInt64), (2, .long 0), (4, .long 2)] rfl ?_))
      refine q0 I_134_0 (wi_lload_n _ rfl ?_)
      refine q0 I_134_1 (wi_lload_n _ rfl ?_)
      refine q0 I_134_2 (wi_lcmp ?_)
      refine q0 I_134_3 (wi_if_lt (fun h => ?_) (fun h => ?_))
      · replace H := H.1 h
        refine q1 (ls' := []) I_134_17 rfl (wi_iconst 0 rfl ?_)
        refine q1 (ls' := []) I_134_18 rfl (wi_zret T_134 (Or.inl C_134) (Or.inl rfl) ⟨_, rfl, ?_⟩)
        refine q0 I_149_16 (wi_ifT rfl ?_)
        refine q1 (ls' := []) I_149_29 rfl (wi_ldc (-2147483648) rfl ?_)
        exact q0 I_149_31 (wi_iret T_149 C_149 ⟨_, rfl, H⟩)
      · replace H := H.2 h
        refine q1 (ls' := [(0, .long (a2 : Int32).toInt64), (4, .long 2)]) I_134_6 rfl (wi_lload_n _ rfl ?_)
        refine q0 I_134_7 (wi_lload _ rfl ?_)
        refine q0 I_134_9 (wi_lcmp ?_)
        refine q0 I_134_10 (wi_if_gt (fun h => ?_) (fun h => ?_))
        · replace H := H.1 h
          refine q1 (ls' := []) I_134_17 rfl (wi_iconst 0 rfl ?_)
          refine q1 (ls' := []) I_134_18 rfl (wi_zret T_134 (Or.inl C_134) (Or.inl rfl) ⟨_, rfl, ?_⟩)
          refine q0 I_149_16 (wi_ifT rfl ?_)
          refine q1 (ls' := []) I_149_29 rfl (wi_ldc (-2147483648) rfl ?_)
          exact q0 I_149_31 (wi_iret T_149 C_149 ⟨_, rfl, H⟩)
        · replace H := H.2 h
          refine q1 (ls' := []) I_134_13 rfl (wi_iconst 1 rfl ?_)
          refine q0 I_134_14 (wi_goto ?_)
          refine q1 (ls' := []) I_134_18 rfl (wi_zret T_134 (Or.inl C_134) (Or.inr rfl) ⟨_, rfl, ?_⟩)
          refine q0 I_149_16 (wi_ifF rfl ?_)
          refine q1 (ls' := [(0, .ref 176), (1, .int a1), (2, .int a2), (3, .int a3)]) I_149_19 rfl (wi_aload_n _ rfl ?_)
          refine q0 I_149_20 (wi_iload_n _ rfl ?_)
          refine q0 I_149_21 (wi_iload_n _ rfl ?_)
          refine q0 I_149_22 (wi_iload_n _ rfl ?_)
          refine q0 I_149_23 (wi_virtI (e := 1) [.int a1, .int a2, .int a3] [] S_176 rfl (by decide) rfl rfl rfl (okC_i rfl rfl rfl) C_146 (by decide) (ClI_mono H ?_))
          intro r1 di1 dl1 H
          refine q0 I_149_26 (wi_if_eq (fun h => ?_) (fun h => ?_))
          · replace H := H.1 h
            refine q1 (ls' := [(0, .ref 176), (1, .int a1), (3, .int a3)]) I_149_32 rfl (wi_aload_n _ rfl ?_)
            refine q0 I_149_33 (wi_get (.ref 179) S_176 rfl (by decide) rfl ?_)
            refine q0 I_149_36 (wi_bipush 60 rfl ?_)
            refine q0 I_149_38 (wi_iload_n _ rfl ?_)
            refine q0 I_149_39 (wi_imul ?_)
            refine q0 I_149_40 (wi_iload_n _ rfl ?_)
            refine q0 I_149_41 (wi_iadd ?_)
            have hb2 := H.1
            replace H := H.2
            refine q0 I_149_42 (wi_iaload ((((60 : Int32) * a1) + a3).toNatClampNeg) S_179 hb2 rfl ?_)
            exact q0 I_149_43 (wi_iret T_149 C_149 ⟨_, rfl, H⟩)
          · replace H := H.2 h
            refine q1 (ls' := []) I_149_29 rfl (wi_ldc (-2147483648) rfl ?_)
            exact q0 I_149_31 (wi_iret T_149 C_149 ⟨_, rfl, H⟩)
theorem r_150 {a1 : Int32} {a2 : Int32} {a3 : Int32} {a4 : Int32} {a5 : Int32} {di : tDi} {dl : tDl} {K : Int32 → tDi → tDl → Prop} (H : (((lg_cmp (a1 : Int32).toInt64 0) < 0 → (K (-2) di dl)) ∧ (0 ≤ (lg_cmp (a1 : Int32).toInt64 0) → ((0 < (lg_cmp (a1 : Int32).toInt64 3) → (K (-2) di dl)) ∧ ((lg_cmp (a1 : Int32).toInt64 3) ≤ 0 → (((lg_cmp (a3 : Int32).toInt64 0) < 0 → (K (-2) di dl)) ∧ (0 ≤ (lg_cmp (a3 : Int32).toInt64 0) → ((0 < (lg_cmp (a3 : Int32).toInt64 3) → (K (-2) di dl)) ∧ ((lg_cmp (a3 : Int32).toInt64 3) ≤ 0 → (inB a1 4 = true ∧ (((di 177 (a1.toNatClampNeg)) < 0 → (K (((-10) : Int32) - 1) (up2 di 176 4 1) dl)) ∧ (0 ≤ (di 177 (a1.toNatClampNeg)) → (inB a3 4 = true ∧ ((0 ≤ (di 177 (a3.toNatClampNeg)) → (((di 177 (a1.toNatClampNeg)) = (di 177 (a3.toNatClampNeg)) → ((a2 < 0 → (K (((-10) : Int32) - 2) (up2 di 176 4 2) dl)) ∧ (0 ≤ a2 → ((a4 < 0 → (K (((-10) : Int32) - 2) (up2 di 176 4 2) dl)) ∧ (0 ≤ a4 → ((a5 < 0 → (K (((-10) : Int32) - 2) (up2 di 176 4 2) dl)) ∧ (0 ≤ a5 → ((0 < (lg_cmp ((a2 : Int32).toInt64 + (a5 : Int32).toInt64) ((di 178 (a1.toNatClampNeg)) : Int32).toInt64) → (K (((-10) : Int32) - 2) (up2 di 176 4 2) dl)) ∧ ((lg_cmp ((a2 : Int32).toInt64 + (a5 : Int32).toInt64) ((di 178 (a1.toNatClampNeg)) : Int32).toInt64) ≤ 0 → (((lg_cmp ((a4 : Int32).toInt64 + (a5 : Int32).toInt64) ((di 178 (a3.toNatClampNeg)) : Int32).toInt64) ≤ 0 → (Wq none 2 150 120 [(0, .ref 176), (1, .int a1), (2, .int a2), (3, .int a3), (4, .int a4), (5, .int a5), (6, .int 0)] [] di dl (RI K))) ∧ (0 < (lg_cmp ((a4 : Int32).toInt64 + (a5 : Int32).toInt64) ((di 178 (a3.toNatClampNeg)) : Int32).toInt64) → (K (((-10) : Int32) - 2) (up2 di 176 4 2) dl)))))))))))) ∧ (¬ (di 177 (a1.toNatClampNeg)) = (di 177 (a3.toNatClampNeg)) → (K (((-10) : Int32) - 4) (up2 di 176 4 4) dl)))) ∧ ((di 177 (a3.toNatClampNeg)) < 0 → (K (((-10) : Int32) - 1) (up2 di 176 4 1) dl)))))))))))))))) : ClI 2 150 [.ref 176, .int a1, .int a2, .int a3, .int a4, .int a5] di dl K := by
  refine Cl_of C_150 Z_150 [(0, .ref 176), (1, .int a1), (2, .int a2), (3, .int a3), (4, .int a4), (5, .int a5)] rfl ?_
  refine q0 I_150_0 (wi_iload_n _ rfl ?_)
  refine q0 I_150_1 (wi_statI (e := 1) [.int a1] [] rfl (Or.inl rfl) rfl rfl rfl (okC_i rfl rfl rfl) C_143 (by decide) (Cl_of C_143 Z_143 [(0, .int a1)] rfl ?_))
  refine q0 I_143_0 (wi_iload_n _ rfl ?_)
  refine q0 I_143_1 (wi_i2l ?_)
  refine q0 I_143_2 (wi_lconst 0 rfl ?_)
  refine q0 I_143_3 (wi_ldc2_w 3 rfl ?_)
  refine q0 I_143_6 (wi_statI (e := 0) [.long (a1 : Int32).toInt64, .long 0, .long 3] [] rfl (Or.inl rfl) rfl rfl rfl (okC_i rfl rfl rfl) C_134 (by decide) (Cl_of C_134 Z_134 [(0, .long (a1 : Int32).toInt64), (2, .long 0), (4, .long 3)] rfl ?_))
  refine q0 I_134_0 (wi_lload_n _ rfl ?_)
  refine q0 I_134_1 (wi_lload_n _ rfl ?_)
  refine q0 I_134_2 (wi_lcmp ?_)
  refine q0 I_134_3 (wi_if_lt (fun h => ?_) (fun h => ?_))
  · replace H := H.1 h
    refine q1 (ls' := []) I_134_17 rfl (wi_iconst 0 rfl ?_)
    refine q1 (ls' := []) I_134_18 rfl (wi_zret T_134 (Or.inl C_134) (Or.inl rfl) ⟨_, rfl, ?_⟩)
    refine q0 I_143_9 (wi_zret T_143 (Or.inl C_143) (Or.inl rfl) ⟨_, rfl, ?_⟩)
    refine q0 I_150_4 (wi_ifT rfl ?_)
    refine q1 (ls' := []) I_150_14 rfl (wi_bipush (-2) rfl ?_)
    exact q0 I_150_16 (wi_iret T_150 C_150 ⟨_, rfl, H⟩)
  · replace H := H.2 h
    refine q1 (ls' := [(0, .long (a1 : Int32).toInt64), (4, .long 3)]) I_134_6 rfl (wi_lload_n _ rfl ?_)
    refine q0 I_134_7 (wi_lload _ rfl ?_)
    refine q0 I_134_9 (wi_lcmp ?_)
    refine q0 I_134_10 (wi_if_gt (fun h => ?_) (fun h => ?_))
    · replace H := H.1 h
      refine q1 (ls' := []) I_134_17 rfl (wi_iconst 0 rfl ?_)
      refine q1 (ls' := []) I_134_18 rfl (wi_zret T_134 (Or.inl C_134) (Or.inl rfl) ⟨_, rfl, ?_⟩)
      refine q0 I_143_9 (wi_zret T_143 (Or.inl C_143) (Or.inl rfl) ⟨_, rfl, ?_⟩)
      refine q0 I_150_4 (wi_ifT rfl ?_)
      refine q1 (ls' := []) I_150_14 rfl (wi_bipush (-2) rfl ?_)
      exact q0 I_150_16 (wi_iret T_150 C_150 ⟨_, rfl, H⟩)
    · replace H := H.2 h
      refine q1 (ls' := []) I_134_13 rfl (wi_iconst 1 rfl ?_)
      refine q0 I_134_14 (wi_goto ?_)
      refine q1 (ls' := []) I_134_18 rfl (wi_zret T_134 (Or.inl C_134) (Or.inr rfl) ⟨_, rfl, ?_⟩)
      refine q0 I_143_9 (wi_zret T_143 (Or.inl C_143) (Or.inr rfl) ⟨_, rfl, ?_⟩)
      refine q0 I_150_4 (wi_ifF rfl ?_)
      refine q1 (ls' := [(0, .ref 176), (1, .int a1), (2, .int a2), (3, .int a3), (4, .int a4), (5, .int a5)]) I_150_7 rfl (wi_iload_n _ rfl ?_)
      refine q0 I_150_8 (wi_statI (e := 1) [.int a3] [] rfl (Or.inl rfl) rfl rfl rfl (okC_i rfl rfl rfl) C_143 (by decide) (Cl_of C_143 Z_143 [(0, .int a3)] rfl ?_))
      refine q0 I_143_0 (wi_iload_n _ rfl ?_)
      refine q0 I_143_1 (wi_i2l ?_)
      refine q0 I_143_2 (wi_lconst 0 rfl ?_)
      refine q0 I_143_3 (wi_ldc2_w 3 rfl ?_)
      refine q0 I_143_6 (wi_statI (e := 0) [.long (a3 : Int32).toInt64, .long 0, .long 3] [] rfl (Or.inl rfl) rfl rfl rfl (okC_i rfl rfl rfl) C_134 (by decide) (Cl_of C_134 Z_134 [(0, .long (a3 : Int32).toInt64), (2, .long 0), (4, .long 3)] rfl ?_))
      refine q0 I_134_0 (wi_lload_n _ rfl ?_)
      refine q0 I_134_1 (wi_lload_n _ rfl ?_)
      refine q0 I_134_2 (wi_lcmp ?_)
      refine q0 I_134_3 (wi_if_lt (fun h => ?_) (fun h => ?_))
      · replace H := H.1 h
        refine q1 (ls' := []) I_134_17 rfl (wi_iconst 0 rfl ?_)
        refine q1 (ls' := []) I_134_18 rfl (wi_zret T_134 (Or.inl C_134) (Or.inl rfl) ⟨_, rfl, ?_⟩)
        refine q0 I_143_9 (wi_zret T_143 (Or.inl C_143) (Or.inl rfl) ⟨_, rfl, ?_⟩)
        refine q0 I_150_11 (wi_ifF rfl ?_)
        refine q1 (ls' := []) I_150_14 rfl (wi_bipush (-2) rfl ?_)
        exact q0 I_150_16 (wi_iret T_150 C_150 ⟨_, rfl, H⟩)
      · replace H := H.2 h
        refine q1 (ls' := [(0, .long (a3 : Int32).toInt64), (4, .long 3)]) I_134_6 rfl (wi_lload_n _ rfl ?_)
        refine q0 I_134_7 (wi_lload _ rfl ?_)
        refine q0 I_134_9 (wi_lcmp ?_)
        refine q0 I_134_10 (wi_if_gt (fun h => ?_) (fun h => ?_))
        · replace H := H.1 h
          refine q1 (ls' := []) I_134_17 rfl (wi_iconst 0 rfl ?_)
          refine q1 (ls' := []) I_134_18 rfl (wi_zret T_134 (Or.inl C_134) (Or.inl rfl) ⟨_, rfl, ?_⟩)
          refine q0 I_143_9 (wi_zret T_143 (Or.inl C_143) (Or.inl rfl) ⟨_, rfl, ?_⟩)
          refine q0 I_150_11 (wi_ifF rfl ?_)
          refine q1 (ls' := []) I_150_14 rfl (wi_bipush (-2) rfl ?_)
          exact q0 I_150_16 (wi_iret T_150 C_150 ⟨_, rfl, H⟩)
        · replace H := H.2 h
          refine q1 (ls' := []) I_134_13 rfl (wi_iconst 1 rfl ?_)
          refine q0 I_134_14 (wi_goto ?_)
          refine q1 (ls' := []) I_134_18 rfl (wi_zret T_134 (Or.inl C_134) (Or.inr rfl) ⟨_, rfl, ?_⟩)
          refine q0 I_143_9 (wi_zret T_143 (Or.inl C_143) (Or.inr rfl) ⟨_, rfl, ?_⟩)
          refine q0 I_150_11 (wi_ifT rfl ?_)
          refine q1 (ls' := [(0, .ref 176), (1, .int a1), (2, .int a2), (3, .int a3), (4, .int a4), (5, .int a5)]) I_150_17 rfl (wi_aload_n _ rfl ?_)
          refine q0 I_150_18 (wi_get (.ref 177) S_176 rfl (by decide) rfl ?_)
          refine q0 I_150_21 (wi_iload_n _ rfl ?_)
          have hb1 := H.1
          replace H := H.2
          refine q0 I_150_22 (wi_iaload (a1.toNatClampNeg) S_177 hb1 rfl ?_)
          refine q0 I_150_23 (wi_if_lt (fun h => ?_) (fun h => ?_))
          · replace H := H.1 h
            refine q1 (ls' := [(0, .ref 176)]) I_150_35 rfl (wi_aload_n _ rfl ?_)
            refine q0 I_150_36 (wi_iconst 1 rfl ?_)
            refine q0 I_150_37 (wi_virtI (e := 1) [.int 1] [] S_176 rfl (by decide) rfl rfl rfl (okC_i rfl rfl rfl) C_142 (by decide) (Cl_of C_142 Z_142 [(0, .ref 176), (1, .int 1)] rfl ?_))
            refine q0 I_142_0 (wi_aload_n _ rfl ?_)
            refine q0 I_142_1 (wi_iload_n _ rfl ?_)
            refine q0 I_142_2 (wi_putI S_176 rfl (by decide) rfl rfl rfl ?_)
            refine q0 I_142_5 (wi_bipush (-10) rfl ?_)
            refine q0 I_142_7 (wi_iload_n _ rfl ?_)
            refine q0 I_142_8 (wi_isub ?_)
            refine q0 I_142_9 (wi_iret T_142 C_142 ⟨_, rfl, ?_⟩)
            exact q0 I_150_40 (wi_iret T_150 C_150 ⟨_, rfl, H⟩)
          · replace H := H.2 h
            refine q1 (ls' := [(0, .ref 176), (1, .int a1), (2, .int a2), (3, .int a3), (4, .int a4), (5, .int a5)]) I_150_26 rfl (wi_aload_n _ rfl ?_)
            refine q0 I_150_27 (wi_get (.ref 177) S_176 rfl (by decide) rfl ?_)
            refine q0 I_150_30 (wi_iload_n _ rfl ?_)
            have hb2 := H.1
            replace H := H.2
            refine q0 I_150_31 (wi_iaload (a3.toNatClampNeg) S_177 hb2 rfl ?_)
            refine q0 I_150_32 (wi_if_ge (fun h => ?_) (fun h => ?_))
            · replace H := H.1 h
              refine q1 (ls' := [(0, .ref 176), (1, .int a1), (2, .int a2), (3, .int a3), (4, .int a4), (5, .int a5)]) I_150_41 rfl (wi_aload_n _ rfl ?_)
              refine q0 I_150_42 (wi_get (.ref 177) S_176 rfl (by decide) rfl ?_)
              refine q0 I_150_45 (wi_iload_n _ rfl ?_)
              refine q0 I_150_46 (wi_iaload (a1.toNatClampNeg) S_177 hb1 rfl ?_)
              refine q0 I_150_47 (wi_aload_n _ rfl ?_)
              refine q0 I_150_48 (wi_get (.ref 177) S_176 rfl (by decide) rfl ?_)
              refine q0 I_150_51 (wi_iload_n _ rfl ?_)
              refine q0 I_150_52 (wi_iaload (a3.toNatClampNeg) S_177 hb2 rfl ?_)
              refine q0 I_150_53 (wi_ic_eq (fun h => ?_) (fun h => ?_))
              · replace H := H.1 h
                refine q1 (ls' := [(0, .ref 176), (1, .int a1), (2, .int a2), (3, .int a3), (4, .int a4), (5, .int a5)]) I_150_62 rfl (wi_iload_n _ rfl ?_)
                refine q0 I_150_63 (wi_if_lt (fun h => ?_) (fun h => ?_))
                · replace H := H.1 h
                  refine q1 (ls' := [(0, .ref 176)]) I_150_111 rfl (wi_aload_n _ rfl ?_)
                  refine q0 I_150_112 (wi_iconst 2 rfl ?_)
                  refine q0 I_150_113 (wi_virtI (e := 1) [.int 2] [] S_176 rfl (by decide) rfl rfl rfl (okC_i rfl rfl rfl) C_142 (by decide) (Cl_of C_142 Z_142 [(0, .ref 176), (1, .int 2)] rfl ?_))
                  refine q0 I_142_0 (wi_aload_n _ rfl ?_)
                  refine q0 I_142_1 (wi_iload_n _ rfl ?_)
                  refine q0 I_142_2 (wi_putI S_176 rfl (by decide) rfl rfl rfl ?_)
                  refine q0 I_142_5 (wi_bipush (-10) rfl ?_)
                  refine q0 I_142_7 (wi_iload_n _ rfl ?_)
                  refine q0 I_142_8 (wi_isub ?_)
                  refine q0 I_142_9 (wi_iret T_142 C_142 ⟨_, rfl, ?_⟩)
                  exact q0 I_150_116 (wi_iret T_150 C_150 ⟨_, rfl, H⟩)
                · replace H := H.2 h
                  refine q1 (ls' := [(0, .ref 176), (1, .int a1), (2, .int a2), (3, .int a3), (4, .int a4), (5, .int a5)]) I_150_66 rfl (wi_iload _ rfl ?_)
                  refine q0 I_150_68 (wi_if_lt (fun h => ?_) (fun h => ?_))
                  · replace H := H.1 h
                    refine q1 (ls' := [(0, .ref 176)]) I_150_111 rfl (wi_aload_n _ rfl ?_)
                    refine q0 I_150_112 (wi_iconst 2 rfl ?_)
                    refine q0 I_150_113 (wi_virtI (e := 1) [.int 2] [] S_176 rfl (by decide) rfl rfl rfl (okC_i rfl rfl rfl) C_142 (by decide) (Cl_of C_142 Z_142 [(0, .ref 176), (1, .int 2)] rfl ?_))
                    refine q0 I_142_0 (wi_aload_n _ rfl ?_)
                    refine q0 I_142_1 (wi_iload_n _ rfl ?_)
                    refine q0 I_142_2 (wi_putI S_176 rfl (by decide) rfl rfl rfl ?_)
                    refine q0 I_142_5 (wi_bipush (-10) rfl ?_)
                    refine q0 I_142_7 (wi_iload_n _ rfl ?_)
                    refine q0 I_142_8 (wi_isub ?_)
                    refine q0 I_142_9 (wi_iret T_142 C_142 ⟨_, rfl, ?_⟩)
                    exact q0 I_150_116 (wi_iret T_150 C_150 ⟨_, rfl, H⟩)
                  · replace H := H.2 h
                    refine q1 (ls' := [(0, .ref 176), (1, .int a1), (2, .int a2), (3, .int a3), (4, .int a4), (5, .int a5)]) I_150_71 rfl (wi_iload _ rfl ?_)
                    refine q0 I_150_73 (wi_if_lt (fun h => ?_) (fun h => ?_))
                    · replace H := H.1 h
                      refine q1 (ls' := [(0, .ref 176)]) I_150_111 rfl (wi_aload_n _ rfl ?_)
                      refine q0 I_150_112 (wi_iconst 2 rfl ?_)
                      refine q0 I_150_113 (wi_virtI (e := 1) [.int 2] [] S_176 rfl (by decide) rfl rfl rfl (okC_i rfl rfl rfl) C_142 (by decide) (Cl_of C_142 Z_142 [(0, .ref 176), (1, .int 2)] rfl ?_))
                      refine q0 I_142_0 (wi_aload_n _ rfl ?_)
                      refine q0 I_142_1 (wi_iload_n _ rfl ?_)
                      refine q0 I_142_2 (wi_putI S_176 rfl (by decide) rfl rfl rfl ?_)
                      refine q0 I_142_5 (wi_bipush (-10) rfl ?_)
                      refine q0 I_142_7 (wi_iload_n _ rfl ?_)
                      refine q0 I_142_8 (wi_isub ?_)
                      refine q0 I_142_9 (wi_iret T_142 C_142 ⟨_, rfl, ?_⟩)
                      exact q0 I_150_116 (wi_iret T_150 C_150 ⟨_, rfl, H⟩)
                    · replace H := H.2 h
                      refine q1 (ls' := [(0, .ref 176), (1, .int a1), (2, .int a2), (3, .int a3), (4, .int a4), (5, .int a5)]) I_150_76 rfl (wi_iload_n _ rfl ?_)
                      refine q0 I_150_77 (wi_i2l ?_)
                      refine q0 I_150_78 (wi_iload _ rfl ?_)
                      refine q0 I_150_80 (wi_i2l ?_)
                      refine q0 I_150_81 (wi_ladd ?_)
                      refine q0 I_150_82 (wi_aload_n _ rfl ?_)
                      refine q0 I_150_83 (wi_get (.ref 178) S_176 rfl (by decide) rfl ?_)
                      refine q0 I_150_86 (wi_iload_n _ rfl ?_)
                      refine q0 I_150_87 (wi_iaload (a1.toNatClampNeg) S_178 hb1 rfl ?_)
                      refine q0 I_150_88 (wi_i2l ?_)
                      refine q0 I_150_89 (wi_lcmp ?_)
                      refine q0 I_150_90 (wi_if_gt (fun h => ?_) (fun h => ?_))
                      · replace H := H.1 h
                        refine q1 (ls' := [(0, .ref 176)]) I_150_111 rfl (wi_aload_n _ rfl ?_)
                        refine q0 I_150_112 (wi_iconst 2 rfl ?_)
                        refine q0 I_150_113 (wi_virtI (e := 1) [.int 2] [] S_176 rfl (by decide) rfl rfl rfl (okC_i rfl rfl rfl) C_142 (by decide) (Cl_of C_142 Z_142 [(0, .ref 176), (1, .int 2)] rfl ?_))
                        refine q0 I_142_0 (wi_aload_n _ rfl ?_)
                        refine q0 I_142_1 (wi_iload_n _ rfl ?_)
                        refine q0 I_142_2 (wi_putI S_176 rfl (by decide) rfl rfl rfl ?_)
                        refine q0 I_142_5 (wi_bipush (-10) rfl ?_)
                        refine q0 I_142_7 (wi_iload_n _ rfl ?_)
                        refine q0 I_142_8 (wi_isub ?_)
                        refine q0 I_142_9 (wi_iret T_142 C_142 ⟨_, rfl, ?_⟩)
                        exact q0 I_150_116 (wi_iret T_150 C_150 ⟨_, rfl, H⟩)
                      · replace H := H.2 h
                        refine q1 (ls' := [(0, .ref 176), (1, .int a1), (2, .int a2), (3, .int a3), (4, .int a4), (5, .int a5)]) I_150_93 rfl (wi_iload _ rfl ?_)
                        refine q0 I_150_95 (wi_i2l ?_)
                        refine q0 I_150_96 (wi_iload _ rfl ?_)
                        refine q0 I_150_98 (wi_i2l ?_)
                        refine q0 I_150_99 (wi_ladd ?_)
                        refine q0 I_150_100 (wi_aload_n _ rfl ?_)
                        refine q0 I_150_101 (wi_get (.ref 178) S_176 rfl (by decide) rfl ?_)
                        refine q0 I_150_104 (wi_iload_n _ rfl ?_)
                        refine q0 I_150_105 (wi_iaload (a3.toNatClampNeg) S_178 hb2 rfl ?_)
                        refine q0 I_150_106 (wi_i2l ?_)
                        refine q0 I_150_107 (wi_lcmp ?_)
                        refine q0 I_150_108 (wi_if_le (fun h => ?_) (fun h => ?_))
                        · replace H := H.1 h
                          refine q1 (ls' := [(0, .ref 176), (1, .int a1), (2, .int a2), (3, .int a3), (4, .int a4), (5, .int a5)]) I_150_117 rfl (wi_iconst 0 rfl ?_)
                          refine q0 I_150_118 (wi_istore [(0, .ref 176), (1, .int a1), (2, .int a2), (3, .int a3), (4, .int a4), (5, .int a5), (6, .int 0)] (lt_e X_150 rfl) rfl ?_)
                          exact Wq_c I_150_120 rfl rfl H
                        · replace H := H.2 h
                          refine q1 (ls' := [(0, .ref 176)]) I_150_111 rfl (wi_aload_n _ rfl ?_)
                          refine q0 I_150_112 (wi_iconst 2 rfl ?_)
                          refine q0 I_150_113 (wi_virtI (e := 1) [.int 2] [] S_176 rfl (by decide) rfl rfl rfl (okC_i rfl rfl rfl) C_142 (by decide) (Cl_of C_142 Z_142 [(0, .ref 176), (1, .int 2)] rfl ?_))
                          refine q0 I_142_0 (wi_aload_n _ rfl ?_)
                          refine q0 I_142_1 (wi_iload_n _ rfl ?_)
                          refine q0 I_142_2 (wi_putI S_176 rfl (by decide) rfl rfl rfl ?_)
                          refine q0 I_142_5 (wi_bipush (-10) rfl ?_)
                          refine q0 I_142_7 (wi_iload_n _ rfl ?_)
                          refine q0 I_142_8 (wi_isub ?_)
                          refine q0 I_142_9 (wi_iret T_142 C_142 ⟨_, rfl, ?_⟩)
                          exact q0 I_150_116 (wi_iret T_150 C_150 ⟨_, rfl, H⟩)
              · replace H := H.2 h
                refine q1 (ls' := [(0, .ref 176)]) I_150_56 rfl (wi_aload_n _ rfl ?_)
                refine q0 I_150_57 (wi_iconst 4 rfl ?_)
                refine q0 I_150_58 (wi_virtI (e := 1) [.int 4] [] S_176 rfl (by decide) rfl rfl rfl (okC_i rfl rfl rfl) C_142 (by decide) (Cl_of C_142 Z_142 [(0, .ref 176), (1, .int 4)] rfl ?_))
                refine q0 I_142_0 (wi_aload_n _ rfl ?_)
                refine q0 I_142_1 (wi_iload_n _ rfl ?_)
                refine q0 I_142_2 (wi_putI S_176 rfl (by decide) rfl rfl rfl ?_)
                refine q0 I_142_5 (wi_bipush (-10) rfl ?_)
                refine q0 I_142_7 (wi_iload_n _ rfl ?_)
                refine q0 I_142_8 (wi_isub ?_)
                refine q0 I_142_9 (wi_iret T_142 C_142 ⟨_, rfl, ?_⟩)
                exact q0 I_150_61 (wi_iret T_150 C_150 ⟨_, rfl, H⟩)
            · replace H := H.2 h
              refine q1 (ls' := [(0, .ref 176)]) I_150_35 rfl (wi_aload_n _ rfl ?_)
              refine q0 I_150_36 (wi_iconst 1 rfl ?_)
              refine q0 I_150_37 (wi_virtI (e := 1) [.int 1] [] S_176 rfl (by decide) rfl rfl rfl (okC_i rfl rfl rfl) C_142 (by decide) (Cl_of C_142 Z_142 [(0, .ref 176), (1, .int 1)] rfl ?_))
              refine q0 I_142_0 (wi_aload_n _ rfl ?_)
              refine q0 I_142_1 (wi_iload_n _ rfl ?_)
              refine q0 I_142_2 (wi_putI S_176 rfl (by decide) rfl rfl rfl ?_)
              refine q0 I_142_5 (wi_bipush (-10) rfl ?_)
              refine q0 I_142_7 (wi_iload_n _ rfl ?_)
              refine q0 I_142_8 (wi_isub ?_)
              refine q0 I_142_9 (wi_iret T_142 C_142 ⟨_, rfl, ?_⟩)
              exact q0 I_150_40 (wi_iret T_150 C_150 ⟨_, rfl, H⟩)
theorem r_150_120 {x1 : Int32} {x2 : Int32} {x3 : Int32} {x4 : Int32} {x5 : Int32} {x6 : Int32} {di : tDi} {dl : tDl} {K : Int32 → tDi → tDl → Prop} (H : ((x5 ≤ x6 → (Wq none 2 150 157 [(0, .ref 176), (3, .int x3), (4, .int x4), (5, .int x5), (6, .int 0)] [] di dl (RI K))) ∧ (x6 < x5 → (inB ((((60 : Int32) * x1) + x2) + x6) 240 = true ∧ (inB x6 60 = true ∧ (Wq none 2 150 120 [(0, .ref 176), (1, .int x1), (2, .int x2), (3, .int x3), (4, .int x4), (5, .int x5), (6, .int (x6 + 1))] [] (up2 di 180 (x6.toNatClampNeg) (di 179 (((((60 : Int32) * x1) + x2) + x6).toNatClampNeg))) dl (RI K))))))) : Wq none 2 150 120 [(0, .ref 176), (1, .int x1), (2, .int x2), (3, .int x3), (4, .int x4), (5, .int x5), (6, .int x6)] [] di dl (RI K) := by
  refine q1 (ls' := [(0, .ref 176), (1, .int x1), (2, .int x2), (3, .int x3), (4, .int x4), (5, .int x5), (6, .int x6)]) I_150_120 rfl (wi_iload _ rfl ?_)
  refine q0 I_150_122 (wi_iload _ rfl ?_)
  refine q0 I_150_124 (wi_ic_ge (fun h => ?_) (fun h => ?_))
  · replace H := H.1 h
    refine q1 (ls' := [(0, .ref 176), (3, .int x3), (4, .int x4), (5, .int x5)]) I_150_154 rfl (wi_iconst 0 rfl ?_)
    refine q0 I_150_155 (wi_istore [(0, .ref 176), (3, .int x3), (4, .int x4), (5, .int x5), (6, .int 0)] (lt_e X_150 rfl) rfl ?_)
    exact Wq_c I_150_157 rfl rfl H
  · replace H := H.2 h
    refine q1 (ls' := [(0, .ref 176), (1, .int x1), (2, .int x2), (3, .int x3), (4, .int x4), (5, .int x5), (6, .int x6)]) I_150_127 rfl (wi_aload_n _ rfl ?_)
    refine q0 I_150_128 (wi_get (.ref 180) S_176 rfl (by decide) rfl ?_)
    refine q0 I_150_131 (wi_iload _ rfl ?_)
    refine q0 I_150_133 (wi_aload_n _ rfl ?_)
    refine q0 I_150_134 (wi_get (.ref 179) S_176 rfl (by decide) rfl ?_)
    refine q0 I_150_137 (wi_bipush 60 rfl ?_)
    refine q0 I_150_139 (wi_iload_n _ rfl ?_)
    refine q0 I_150_140 (wi_imul ?_)
    refine q0 I_150_141 (wi_iload_n _ rfl ?_)
    refine q0 I_150_142 (wi_iadd ?_)
    refine q0 I_150_143 (wi_iload _ rfl ?_)
    refine q0 I_150_145 (wi_iadd ?_)
    have hb21 := H.1
    replace H := H.2
    refine q0 I_150_146 (wi_iaload (((((60 : Int32) * x1) + x2) + x6).toNatClampNeg) S_179 hb21 rfl ?_)
    have hb22 := H.1
    replace H := H.2
    refine q0 I_150_147 (wi_iastore (x6.toNatClampNeg) S_180 hb22 rfl ?_)
    refine q0 I_150_148 (wi_iinc 1 [(0, .ref 176), (1, .int x1), (2, .int x2), (3, .int x3), (4, .int x4), (5, .int x5), (6, .int (x6 + 1))] rfl (lt_e X_150 rfl) rfl rfl ?_)
    refine q0 I_150_151 (wi_goto ?_)
    exact Wq_c I_150_120 rfl rfl H
theorem r_150_157 {x3 : Int32} {x4 : Int32} {x5 : Int32} {x6 : Int32} {di : tDi} {dl : tDl} {K : Int32 → tDi → tDl → Prop} (H : ((x5 ≤ x6 → (K 1 di dl)) ∧ (x6 < x5 → (inB x6 60 = true ∧ (inB ((((60 : Int32) * x3) + x4) + x6) 240 = true ∧ (Wq none 2 150 157 [(0, .ref 176), (3, .int x3), (4, .int x4), (5, .int x5), (6, .int (x6 + 1))] [] (up2 di 179 (((((60 : Int32) * x3) + x4) + x6).toNatClampNeg) (di 180 (x6.toNatClampNeg))) dl (RI K))))))) : Wq none 2 150 157 [(0, .ref 176), (3, .int x3), (4, .int x4), (5, .int x5), (6, .int x6)] [] di dl (RI K) := by
  refine q1 (ls' := [(0, .ref 176), (3, .int x3), (4, .int x4), (5, .int x5), (6, .int x6)]) I_150_157 rfl (wi_iload _ rfl ?_)
  refine q0 I_150_159 (wi_iload _ rfl ?_)
  refine q0 I_150_161 (wi_ic_ge (fun h => ?_) (fun h => ?_))
  · replace H := H.1 h
    refine q1 (ls' := []) I_150_192 rfl (wi_iconst 1 rfl ?_)
    exact q0 I_150_193 (wi_iret T_150 C_150 ⟨_, rfl, H⟩)
  · replace H := H.2 h
    refine q1 (ls' := [(0, .ref 176), (3, .int x3), (4, .int x4), (5, .int x5), (6, .int x6)]) I_150_164 rfl (wi_aload_n _ rfl ?_)
    refine q0 I_150_165 (wi_get (.ref 179) S_176 rfl (by decide) rfl ?_)
    refine q0 I_150_168 (wi_bipush 60 rfl ?_)
    refine q0 I_150_170 (wi_iload_n _ rfl ?_)
    refine q0 I_150_171 (wi_imul ?_)
    refine q0 I_150_172 (wi_iload _ rfl ?_)
    refine q0 I_150_174 (wi_iadd ?_)
    refine q0 I_150_175 (wi_iload _ rfl ?_)
    refine q0 I_150_177 (wi_iadd ?_)
    refine q0 I_150_178 (wi_aload_n _ rfl ?_)
    refine q0 I_150_179 (wi_get (.ref 180) S_176 rfl (by decide) rfl ?_)
    refine q0 I_150_182 (wi_iload _ rfl ?_)
    have hb21 := H.1
    replace H := H.2
    refine q0 I_150_184 (wi_iaload (x6.toNatClampNeg) S_180 hb21 rfl ?_)
    have hb22 := H.1
    replace H := H.2
    refine q0 I_150_185 (wi_iastore (((((60 : Int32) * x3) + x4) + x6).toNatClampNeg) S_179 hb22 rfl ?_)
    refine q0 I_150_186 (wi_iinc 1 [(0, .ref 176), (3, .int x3), (4, .int x4), (5, .int x5), (6, .int (x6 + 1))] rfl (lt_e X_150 rfl) rfl rfl ?_)
    refine q0 I_150_189 (wi_goto ?_)
    exact Wq_c I_150_157 rfl rfl H
theorem r_151 {a1 : Int32} {di : tDi} {dl : tDl} {K : Int32 → tDi → tDl → Prop} (H : (((lg_cmp (a1 : Int32).toInt64 0) < 0 → (K 0 di dl)) ∧ (0 ≤ (lg_cmp (a1 : Int32).toInt64 0) → ((0 < (lg_cmp (a1 : Int32).toInt64 2) → (K 0 di dl)) ∧ ((lg_cmp (a1 : Int32).toInt64 2) ≤ 0 → (K 1 di dl)))))) : ClI 1 151 [.int a1] di dl K := by
  refine Cl_of C_151 Z_151 [(0, .int a1)] rfl ?_
  refine q0 I_151_0 (wi_iload_n _ rfl ?_)
  refine q0 I_151_1 (wi_i2l ?_)
  refine q0 I_151_2 (wi_lconst 0 rfl ?_)
  refine q0 I_151_3 (wi_ldc2_w 2 rfl ?_)
  refine q0 I_151_6 (wi_statI (e := 0) [.long (a1 : Int32).toInt64, .long 0, .long 2] [] rfl (Or.inl rfl) rfl rfl rfl (okC_i rfl rfl rfl) C_134 (by decide) (Cl_of C_134 Z_134 [(0, .long (a1 : Int32).toInt64), (2, .long 0), (4, .long 2)] rfl ?_))
  refine q0 I_134_0 (wi_lload_n _ rfl ?_)
  refine q0 I_134_1 (wi_lload_n _ rfl ?_)
  refine q0 I_134_2 (wi_lcmp ?_)
  refine q0 I_134_3 (wi_if_lt (fun h => ?_) (fun h => ?_))
  · replace H := H.1 h
    refine q1 (ls' := []) I_134_17 rfl (wi_iconst 0 rfl ?_)
    refine q1 (ls' := []) I_134_18 rfl (wi_zret T_134 (Or.inl C_134) (Or.inl rfl) ⟨_, rfl, ?_⟩)
    exact q0 I_151_9 (wi_zret T_151 (Or.inl C_151) (Or.inl rfl) ⟨_, rfl, H⟩)
  · replace H := H.2 h
    refine q1 (ls' := [(0, .long (a1 : Int32).toInt64), (4, .long 2)]) I_134_6 rfl (wi_lload_n _ rfl ?_)
    refine q0 I_134_7 (wi_lload _ rfl ?_)
    refine q0 I_134_9 (wi_lcmp ?_)
    refine q0 I_134_10 (wi_if_gt (fun h => ?_) (fun h => ?_))
    · replace H := H.1 h
      refine q1 (ls' := []) I_134_17 rfl (wi_iconst 0 rfl ?_)
      refine q1 (ls' := []) I_134_18 rfl (wi_zret T_134 (Or.inl C_134) (Or.inl rfl) ⟨_, rfl, ?_⟩)
      exact q0 I_151_9 (wi_zret T_151 (Or.inl C_151) (Or.inl rfl) ⟨_, rfl, H⟩)
    · replace H := H.2 h
      refine q1 (ls' := []) I_134_13 rfl (wi_iconst 1 rfl ?_)
      refine q0 I_134_14 (wi_goto ?_)
      refine q1 (ls' := []) I_134_18 rfl (wi_zret T_134 (Or.inl C_134) (Or.inr rfl) ⟨_, rfl, ?_⟩)
      exact q0 I_151_9 (wi_zret T_151 (Or.inl C_151) (Or.inr rfl) ⟨_, rfl, H⟩)
theorem r_152 {a1 : Int32} {a2 : Int32} {di : tDi} {dl : tDl} {K : Int32 → tDi → tDl → Prop} (H : (((lg_cmp (a1 : Int32).toInt64 0) < 0 → (K (-2) di dl)) ∧ (0 ≤ (lg_cmp (a1 : Int32).toInt64 0) → ((0 < (lg_cmp (a1 : Int32).toInt64 2) → (K (-2) di dl)) ∧ ((lg_cmp (a1 : Int32).toInt64 2) ≤ 0 → (((lg_cmp (a2 : Int32).toInt64 0) < 0 → (K (-2) di dl)) ∧ (0 ≤ (lg_cmp (a2 : Int32).toInt64 0) → ((0 < (lg_cmp (a2 : Int32).toInt64 255) → (K (-2) di dl)) ∧ ((lg_cmp (a2 : Int32).toInt64 255) ≤ 0 → (inB a1 3 = true ∧ ((¬ a1 = 0 → ((¬ a1 = 1 → ((¬ (di 182 (a1.toNatClampNeg)) = 24 → (inB (((48 : Int32) * a1) + (di 182 (a1.toNatClampNeg))) 144 = true ∧ (K ((up2 (up2 di 181 ((((48 : Int32) * a1) + (di 182 (a1.toNatClampNeg))).toNatClampNeg) a2) 182 (a1.toNatClampNeg) ((di 182 (a1.toNatClampNeg)) + 1)) 182 (a1.toNatClampNeg)) (up2 (up2 di 181 ((((48 : Int32) * a1) + (di 182 (a1.toNatClampNeg))).toNatClampNeg) a2) 182 (a1.toNatClampNeg) ((di 182 (a1.toNatClampNeg)) + 1)) dl))) ∧ ((di 182 (a1.toNatClampNeg)) = 24 → (K (-4) di dl)))) ∧ (a1 = 1 → ((¬ (di 182 (a1.toNatClampNeg)) = 47 → (inB (((48 : Int32) * a1) + (di 182 (a1.toNatClampNeg))) 144 = true ∧ (K ((up2 (up2 di 181 ((((48 : Int32) * a1) + (di 182 (a1.toNatClampNeg))).toNatClampNeg) a2) 182 (a1.toNatClampNeg) ((di 182 (a1.toNatClampNeg)) + 1)) 182 (a1.toNatClampNeg)) (up2 (up2 di 181 ((((48 : Int32) * a1) + (di 182 (a1.toNatClampNeg))).toNatClampNeg) a2) 182 (a1.toNatClampNeg) ((di 182 (a1.toNatClampNeg)) + 1)) dl))) ∧ ((di 182 (a1.toNatClampNeg)) = 47 → (K (-4) di dl)))))) ∧ (a1 = 0 → ((¬ (di 182 (a1.toNatClampNeg)) = 39 → (inB (((48 : Int32) * a1) + (di 182 (a1.toNatClampNeg))) 144 = true ∧ (K ((up2 (up2 di 181 ((((48 : Int32) * a1) + (di 182 (a1.toNatClampNeg))).toNatClampNeg) a2) 182 (a1.toNatClampNeg) ((di 182 (a1.toNatClampNeg)) + 1)) 182 (a1.toNatClampNeg)) (up2 (up2 di 181 ((((48 : Int32) * a1) + (di 182 (a1.toNatClampNeg))).toNatClampNeg) a2) 182 (a1.toNatClampNeg) ((di 182 (a1.toNatClampNeg)) + 1)) dl))) ∧ ((di 182 (a1.toNatClampNeg)) = 39 → (K (-4) di dl))))))))))))))) : ClI 2 152 [.ref 176, .int a1, .int a2] di dl K := by
  refine Cl_of C_152 Z_152 [(0, .ref 176), (1, .int a1), (2, .int a2)] rfl ?_
  refine q0 I_152_0 (wi_iload_n _ rfl ?_)
  refine q0 I_152_1 (wi_statI (e := 1) [.int a1] [] rfl (Or.inl rfl) rfl rfl rfl (okC_i rfl rfl rfl) C_151 (by decide) (Cl_of C_151 Z_151 [(0, .int a1)] rfl ?_))
  refine q0 I_151_0 (wi_iload_n _ rfl ?_)
  refine q0 I_151_1 (wi_i2l ?_)
  refine q0 I_151_2 (wi_lconst 0 rfl ?_)
  refine q0 I_151_3 (wi_ldc2_w 2 rfl ?_)
  refine q0 I_151_6 (wi_statI (e := 0) [.long (a1 : Int32).toInt64, .long 0, .long 2] [] rfl (Or.inl rfl) rfl rfl rfl (okC_i rfl rfl rfl) C_134 (by decide) (Cl_of C_134 Z_134 [(0, .long (a1 : Int32).toInt64), (2, .long 0), (4, .long 2)] rfl ?_))
  refine q0 I_134_0 (wi_lload_n _ rfl ?_)
  refine q0 I_134_1 (wi_lload_n _ rfl ?_)
  refine q0 I_134_2 (wi_lcmp ?_)
  refine q0 I_134_3 (wi_if_lt (fun h => ?_) (fun h => ?_))
  · replace H := H.1 h
    refine q1 (ls' := []) I_134_17 rfl (wi_iconst 0 rfl ?_)
    refine q1 (ls' := []) I_134_18 rfl (wi_zret T_134 (Or.inl C_134) (Or.inl rfl) ⟨_, rfl, ?_⟩)
    refine q0 I_151_9 (wi_zret T_151 (Or.inl C_151) (Or.inl rfl) ⟨_, rfl, ?_⟩)
    refine q0 I_152_4 (wi_ifT rfl ?_)
    refine q1 (ls' := []) I_152_19 rfl (wi_bipush (-2) rfl ?_)
    exact q0 I_152_21 (wi_iret T_152 C_152 ⟨_, rfl, H⟩)
  · replace H := H.2 h
    refine q1 (ls' := [(0, .long (a1 : Int32).toInt64), (4, .long 2)]) I_134_6 rfl (wi_lload_n _ rfl ?_)
    refine q0 I_134_7 (wi_lload _ rfl ?_)
    refine q0 I_134_9 (wi_lcmp ?_)
    refine q0 I_134_10 (wi_if_gt (fun h => ?_) (fun h => ?_))
    · replace H := H.1 h
      refine q1 (ls' := []) I_134_17 rfl (wi_iconst 0 rfl ?_)
      refine q1 (ls' := []) I_134_18 rfl (wi_zret T_134 (Or.inl C_134) (Or.inl rfl) ⟨_, rfl, ?_⟩)
      refine q0 I_151_9 (wi_zret T_151 (Or.inl C_151) (Or.inl rfl) ⟨_, rfl, ?_⟩)
      refine q0 I_152_4 (wi_ifT rfl ?_)
      refine q1 (ls' := []) I_152_19 rfl (wi_bipush (-2) rfl ?_)
      exact q0 I_152_21 (wi_iret T_152 C_152 ⟨_, rfl, H⟩)
    · replace H := H.2 h
      refine q1 (ls' := []) I_134_13 rfl (wi_iconst 1 rfl ?_)
      refine q0 I_134_14 (wi_goto ?_)
      refine q1 (ls' := []) I_134_18 rfl (wi_zret T_134 (Or.inl C_134) (Or.inr rfl) ⟨_, rfl, ?_⟩)
      refine q0 I_151_9 (wi_zret T_151 (Or.inl C_151) (Or.inr rfl) ⟨_, rfl, ?_⟩)
      refine q0 I_152_4 (wi_ifF rfl ?_)
      refine q1 (ls' := [(0, .ref 176), (1, .int a1), (2, .int a2)]) I_152_7 rfl (wi_iload_n _ rfl ?_)
      refine q0 I_152_8 (wi_i2l ?_)
      refine q0 I_152_9 (wi_lconst 0 rfl ?_)
      refine q0 I_152_10 (wi_ldc2_w 255 rfl ?_)
      refine q0 I_152_13 (wi_statI (e := 1) [.long (a2 : Int32).toInt64, .long 0, .long 255] [] rfl (Or.inl rfl) rfl rfl rfl (okC_i rfl rfl rfl) C_134 (by decide) (Cl_of C_134 Z_134 [(0, .long (a2 : Int32).toInt64), (2, .long 0), (4, .long 255)] rfl ?_))
      refine q0 I_134_0 (wi_lload_n _ rfl ?_)
      refine q0 I_134_1 (wi_lload_n _ rfl ?_)
      refine q0 I_134_2 (wi_lcmp ?_)
      refine q0 I_134_3 (wi_if_lt (fun h => ?_) (fun h => ?_))
      · replace H := H.1 h
        refine q1 (ls' := []) I_134_17 rfl (wi_iconst 0 rfl ?_)
        refine q1 (ls' := []) I_134_18 rfl (wi_zret T_134 (Or.inl C_134) (Or.inl rfl) ⟨_, rfl, ?_⟩)
        refine q0 I_152_16 (wi_ifF rfl ?_)
        refine q1 (ls' := []) I_152_19 rfl (wi_bipush (-2) rfl ?_)
        exact q0 I_152_21 (wi_iret T_152 C_152 ⟨_, rfl, H⟩)
      · replace H := H.2 h
        refine q1 (ls' := [(0, .long (a2 : Int32).toInt64), (4, .long 255)]) I_134_6 rfl (wi_lload_n _ rfl ?_)
        refine q0 I_134_7 (wi_lload _ rfl ?_)
        refine q0 I_134_9 (wi_lcmp ?_)
        refine q0 I_134_10 (wi_if_gt (fun h => ?_) (fun h => ?_))
        · replace H := H.1 h
          refine q1 (ls' := []) I_134_17 rfl (wi_iconst 0 rfl ?_)
          refine q1 (ls' := []) I_134_18 rfl (wi_zret T_134 (Or.inl C_134) (Or.inl rfl) ⟨_, rfl, ?_⟩)
          refine q0 I_152_16 (wi_ifF rfl ?_)
          refine q1 (ls' := []) I_152_19 rfl (wi_bipush (-2) rfl ?_)
          exact q0 I_152_21 (wi_iret T_152 C_152 ⟨_, rfl, H⟩)
        · replace H := H.2 h
          refine q1 (ls' := []) I_134_13 rfl (wi_iconst 1 rfl ?_)
          refine q0 I_134_14 (wi_goto ?_)
          refine q1 (ls' := []) I_134_18 rfl (wi_zret T_134 (Or.inl C_134) (Or.inr rfl) ⟨_, rfl, ?_⟩)
          refine q0 I_152_16 (wi_ifT rfl ?_)
          refine q1 (ls' := [(0, .ref 176), (1, .int a1), (2, .int a2)]) I_152_22 rfl (wi_aload_n _ rfl ?_)
          refine q0 I_152_23 (wi_get (.ref 182) S_176 rfl (by decide) rfl ?_)
          refine q0 I_152_26 (wi_iload_n _ rfl ?_)
          have hb1 := H.1
          replace H := H.2
          refine q0 I_152_27 (wi_iaload (a1.toNatClampNeg) S_182 hb1 rfl ?_)
          refine q0 I_152_28 (wi_iload_n _ rfl ?_)
          refine q0 I_152_29 (wi_if_ne (fun h => ?_) (fun h => ?_))
          · replace H := H.1 h
            refine q1 (ls' := [(0, .ref 176), (1, .int a1), (2, .int a2)]) I_152_37 rfl (wi_iload_n _ rfl ?_)
            refine q0 I_152_38 (wi_iconst 1 rfl ?_)
            refine q0 I_152_39 (wi_ic_ne (fun h => ?_) (fun h => ?_))
            · replace H := H.1 h
              refine q1 (ls' := [(0, .ref 176), (1, .int a1), (2, .int a2)]) I_152_47 rfl (wi_bipush 24 rfl ?_)
              refine q1 (ls' := [(0, .ref 176), (1, .int a1), (2, .int a2)]) I_152_49 rfl (wi_ic_ne (fun h => ?_) (fun h => ?_))
              · replace H := H.1 h
                refine q1 (ls' := [(0, .ref 176), (1, .int a1), (2, .int a2)]) I_152_55 rfl (wi_aload_n _ rfl ?_)
                refine q0 I_152_56 (wi_get (.ref 181) S_176 rfl (by decide) rfl ?_)
                refine q0 I_152_59 (wi_bipush 48 rfl ?_)
                refine q0 I_152_61 (wi_iload_n _ rfl ?_)
                refine q0 I_152_62 (wi_imul ?_)
                refine q0 I_152_63 (wi_aload_n _ rfl ?_)
                refine q0 I_152_64 (wi_get (.ref 182) S_176 rfl (by decide) rfl ?_)
                refine q0 I_152_67 (wi_iload_n _ rfl ?_)
                refine q0 I_152_68 (wi_iaload (a1.toNatClampNeg) S_182 hb1 rfl ?_)
                refine q0 I_152_69 (wi_iadd ?_)
                refine q0 I_152_70 (wi_iload_n _ rfl ?_)
                have hb2 := H.1
                replace H := H.2
                refine q0 I_152_71 (wi_iastore ((((48 : Int32) * a1) + (di 182 (a1.toNatClampNeg))).toNatClampNeg) S_181 hb2 rfl ?_)
                refine q0 I_152_72 (wi_aload_n _ rfl ?_)
                refine q0 I_152_73 (wi_get (.ref 182) S_176 rfl (by decide) rfl ?_)
                refine q0 I_152_76 (wi_iload_n _ rfl ?_)
                refine q0 I_152_77 (wi_dup2 rfl rfl ?_)
                refine q0 I_152_78 (wi_ialoadV (di 182 (a1.toNatClampNeg)) (a1.toNatClampNeg) S_182 hb1 rfl rfl ?_)
                refine q0 I_152_79 (wi_iconst 1 rfl ?_)
                refine q0 I_152_80 (wi_iadd ?_)
                refine q0 I_152_81 (wi_iastore (a1.toNatClampNeg) S_182 hb1 rfl ?_)
                refine q0 I_152_82 (wi_aload_n _ rfl ?_)
                refine q0 I_152_83 (wi_get (.ref 182) S_176 rfl (by decide) rfl ?_)
                refine q0 I_152_86 (wi_iload_n _ rfl ?_)
                refine q0 I_152_87 (wi_iaload (a1.toNatClampNeg) S_182 hb1 rfl ?_)
                exact q0 I_152_88 (wi_iret T_152 C_152 ⟨_, rfl, H⟩)
              · replace H := H.2 h
                refine q1 (ls' := []) I_152_52 rfl (wi_bipush (-4) rfl ?_)
                exact q0 I_152_54 (wi_iret T_152 C_152 ⟨_, rfl, H⟩)
            · replace H := H.2 h
              refine q1 (ls' := [(0, .ref 176), (1, .int a1), (2, .int a2)]) I_152_42 rfl (wi_bipush 47 rfl ?_)
              refine q0 I_152_44 (wi_goto ?_)
              refine q1 (ls' := [(0, .ref 176), (1, .int a1), (2, .int a2)]) I_152_49 rfl (wi_ic_ne (fun h => ?_) (fun h => ?_))
              · replace H := H.1 h
                refine q1 (ls' := [(0, .ref 176), (1, .int a1), (2, .int a2)]) I_152_55 rfl (wi_aload_n _ rfl ?_)
                refine q0 I_152_56 (wi_get (.ref 181) S_176 rfl (by decide) rfl ?_)
                refine q0 I_152_59 (wi_bipush 48 rfl ?_)
                refine q0 I_152_61 (wi_iload_n _ rfl ?_)
                refine q0 I_152_62 (wi_imul ?_)
                refine q0 I_152_63 (wi_aload_n _ rfl ?_)
                refine q0 I_152_64 (wi_get (.ref 182) S_176 rfl (by decide) rfl ?_)
                refine q0 I_152_67 (wi_iload_n _ rfl ?_)
                refine q0 I_152_68 (wi_iaload (a1.toNatClampNeg) S_182 hb1 rfl ?_)
                refine q0 I_152_69 (wi_iadd ?_)
                refine q0 I_152_70 (wi_iload_n _ rfl ?_)
                have hb3 := H.1
                replace H := H.2
                refine q0 I_152_71 (wi_iastore ((((48 : Int32) * a1) + (di 182 (a1.toNatClampNeg))).toNatClampNeg) S_181 hb3 rfl ?_)
                refine q0 I_152_72 (wi_aload_n _ rfl ?_)
                refine q0 I_152_73 (wi_get (.ref 182) S_176 rfl (by decide) rfl ?_)
                refine q0 I_152_76 (wi_iload_n _ rfl ?_)
                refine q0 I_152_77 (wi_dup2 rfl rfl ?_)
                refine q0 I_152_78 (wi_ialoadV (di 182 (a1.toNatClampNeg)) (a1.toNatClampNeg) S_182 hb1 rfl rfl ?_)
                refine q0 I_152_79 (wi_iconst 1 rfl ?_)
                refine q0 I_152_80 (wi_iadd ?_)
                refine q0 I_152_81 (wi_iastore (a1.toNatClampNeg) S_182 hb1 rfl ?_)
                refine q0 I_152_82 (wi_aload_n _ rfl ?_)
                refine q0 I_152_83 (wi_get (.ref 182) S_176 rfl (by decide) rfl ?_)
                refine q0 I_152_86 (wi_iload_n _ rfl ?_)
                refine q0 I_152_87 (wi_iaload (a1.toNatClampNeg) S_182 hb1 rfl ?_)
                exact q0 I_152_88 (wi_iret T_152 C_152 ⟨_, rfl, H⟩)
              · replace H := H.2 h
                refine q1 (ls' := []) I_152_52 rfl (wi_bipush (-4) rfl ?_)
                exact q0 I_152_54 (wi_iret T_152 C_152 ⟨_, rfl, H⟩)
          · replace H := H.2 h
            refine q1 (ls' := [(0, .ref 176), (1, .int a1), (2, .int a2)]) I_152_32 rfl (wi_bipush 39 rfl ?_)
            refine q0 I_152_34 (wi_goto ?_)
            refine q1 (ls' := [(0, .ref 176), (1, .int a1), (2, .int a2)]) I_152_49 rfl (wi_ic_ne (fun h => ?_) (fun h => ?_))
            · replace H := H.1 h
              refine q1 (ls' := [(0, .ref 176), (1, .int a1), (2, .int a2)]) I_152_55 rfl (wi_aload_n _ rfl ?_)
              refine q0 I_152_56 (wi_get (.ref 181) S_176 rfl (by decide) rfl ?_)
              refine q0 I_152_59 (wi_bipush 48 rfl ?_)
              refine q0 I_152_61 (wi_iload_n _ rfl ?_)
              refine q0 I_152_62 (wi_imul ?_)
              refine q0 I_152_63 (wi_aload_n _ rfl ?_)
              refine q0 I_152_64 (wi_get (.ref 182) S_176 rfl (by decide) rfl ?_)
              refine q0 I_152_67 (wi_iload_n _ rfl ?_)
              refine q0 I_152_68 (wi_iaload (a1.toNatClampNeg) S_182 hb1 rfl ?_)
              refine q0 I_152_69 (wi_iadd ?_)
              refine q0 I_152_70 (wi_iload_n _ rfl ?_)
              have hb4 := H.1
              replace H := H.2
              refine q0 I_152_71 (wi_iastore ((((48 : Int32) * a1) + (di 182 (a1.toNatClampNeg))).toNatClampNeg) S_181 hb4 rfl ?_)
              refine q0 I_152_72 (wi_aload_n _ rfl ?_)
              refine q0 I_152_73 (wi_get (.ref 182) S_176 rfl (by decide) rfl ?_)
              refine q0 I_152_76 (wi_iload_n _ rfl ?_)
              refine q0 I_152_77 (wi_dup2 rfl rfl ?_)
              refine q0 I_152_78 (wi_ialoadV (di 182 (a1.toNatClampNeg)) (a1.toNatClampNeg) S_182 hb1 rfl rfl ?_)
              refine q0 I_152_79 (wi_iconst 1 rfl ?_)
              refine q0 I_152_80 (wi_iadd ?_)
              refine q0 I_152_81 (wi_iastore (a1.toNatClampNeg) S_182 hb1 rfl ?_)
              refine q0 I_152_82 (wi_aload_n _ rfl ?_)
              refine q0 I_152_83 (wi_get (.ref 182) S_176 rfl (by decide) rfl ?_)
              refine q0 I_152_86 (wi_iload_n _ rfl ?_)
              refine q0 I_152_87 (wi_iaload (a1.toNatClampNeg) S_182 hb1 rfl ?_)
              exact q0 I_152_88 (wi_iret T_152 C_152 ⟨_, rfl, H⟩)
            · replace H := H.2 h
              refine q1 (ls' := []) I_152_52 rfl (wi_bipush (-4) rfl ?_)
              exact q0 I_152_54 (wi_iret T_152 C_152 ⟨_, rfl, H⟩)
theorem r_153 {a1 : Int32} {di : tDi} {dl : tDl} {K : Int32 → tDi → tDl → Prop} (H : (((lg_cmp (a1 : Int32).toInt64 0) < 0 → (K (-2) di dl)) ∧ (0 ≤ (lg_cmp (a1 : Int32).toInt64 0) → ((0 < (lg_cmp (a1 : Int32).toInt64 2) → (K (-2) di dl)) ∧ ((lg_cmp (a1 : Int32).toInt64 2) ≤ 0 → (inB a1 3 = true ∧ (K (di 182 (a1.toNatClampNeg)) (up2 di 182 (a1.toNatClampNeg) 0) dl))))))) : ClI 2 153 [.ref 176, .int a1] di dl K := by
  refine Cl_of C_153 Z_153 [(0, .ref 176), (1, .int a1)] rfl ?_
  refine q0 I_153_0 (wi_iload_n _ rfl ?_)
  refine q0 I_153_1 (wi_statI (e := 1) [.int a1] [] rfl (Or.inl rfl) rfl rfl rfl (okC_i rfl rfl rfl) C_151 (by decide) (Cl_of C_151 Z_151 [(0, .int a1)] rfl ?_))
  refine q0 I_151_0 (wi_iload_n _ rfl ?_)
  refine q0 I_151_1 (wi_i2l ?_)
  refine q0 I_151_2 (wi_lconst 0 rfl ?_)
  refine q0 I_151_3 (wi_ldc2_w 2 rfl ?_)
  refine q0 I_151_6 (wi_statI (e := 0) [.long (a1 : Int32).toInt64, .long 0, .long 2] [] rfl (Or.inl rfl) rfl rfl rfl (okC_i rfl rfl rfl) C_134 (by decide) (Cl_of C_134 Z_134 [(0, .long (a1 : Int32).toInt64), (2, .long 0), (4, .long 2)] rfl ?_))
  refine q0 I_134_0 (wi_lload_n _ rfl ?_)
  refine q0 I_134_1 (wi_lload_n _ rfl ?_)
  refine q0 I_134_2 (wi_lcmp ?_)
  refine q0 I_134_3 (wi_if_lt (fun h => ?_) (fun h => ?_))
  · replace H := H.1 h
    refine q1 (ls' := []) I_134_17 rfl (wi_iconst 0 rfl ?_)
    refine q1 (ls' := []) I_134_18 rfl (wi_zret T_134 (Or.inl C_134) (Or.inl rfl) ⟨_, rfl, ?_⟩)
    refine q0 I_151_9 (wi_zret T_151 (Or.inl C_151) (Or.inl rfl) ⟨_, rfl, ?_⟩)
    refine q0 I_153_4 (wi_ifF rfl ?_)
    refine q1 (ls' := []) I_153_7 rfl (wi_bipush (-2) rfl ?_)
    exact q0 I_153_9 (wi_iret T_153 C_153 ⟨_, rfl, H⟩)
  · replace H := H.2 h
    refine q1 (ls' := [(0, .long (a1 : Int32).toInt64), (4, .long 2)]) I_134_6 rfl (wi_lload_n _ rfl ?_)
    refine q0 I_134_7 (wi_lload _ rfl ?_)
    refine q0 I_134_9 (wi_lcmp ?_)
    refine q0 I_134_10 (wi_if_gt (fun h => ?_) (fun h => ?_))
    · replace H := H.1 h
      refine q1 (ls' := []) I_134_17 rfl (wi_iconst 0 rfl ?_)
      refine q1 (ls' := []) I_134_18 rfl (wi_zret T_134 (Or.inl C_134) (Or.inl rfl) ⟨_, rfl, ?_⟩)
      refine q0 I_151_9 (wi_zret T_151 (Or.inl C_151) (Or.inl rfl) ⟨_, rfl, ?_⟩)
      refine q0 I_153_4 (wi_ifF rfl ?_)
      refine q1 (ls' := []) I_153_7 rfl (wi_bipush (-2) rfl ?_)
      exact q0 I_153_9 (wi_iret T_153 C_153 ⟨_, rfl, H⟩)
    · replace H := H.2 h
      refine q1 (ls' := []) I_134_13 rfl (wi_iconst 1 rfl ?_)
      refine q0 I_134_14 (wi_goto ?_)
      refine q1 (ls' := []) I_134_18 rfl (wi_zret T_134 (Or.inl C_134) (Or.inr rfl) ⟨_, rfl, ?_⟩)
      refine q0 I_151_9 (wi_zret T_151 (Or.inl C_151) (Or.inr rfl) ⟨_, rfl, ?_⟩)
      refine q0 I_153_4 (wi_ifT rfl ?_)
      refine q1 (ls' := [(0, .ref 176), (1, .int a1)]) I_153_10 rfl (wi_aload_n _ rfl ?_)
      refine q0 I_153_11 (wi_get (.ref 182) S_176 rfl (by decide) rfl ?_)
      refine q0 I_153_14 (wi_iload_n _ rfl ?_)
      have hb1 := H.1
      replace H := H.2
      refine q0 I_153_15 (wi_iaload (a1.toNatClampNeg) S_182 hb1 rfl ?_)
      refine q0 I_153_16 (wi_istore_n [(0, .ref 176), (1, .int a1), (2, .int (di 182 (a1.toNatClampNeg)))] (lt_e X_153 rfl) rfl ?_)
      refine q0 I_153_17 (wi_aload_n _ rfl ?_)
      refine q0 I_153_18 (wi_get (.ref 182) S_176 rfl (by decide) rfl ?_)
      refine q0 I_153_21 (wi_iload_n _ rfl ?_)
      refine q0 I_153_22 (wi_iconst 0 rfl ?_)
      refine q0 I_153_23 (wi_iastore (a1.toNatClampNeg) S_182 hb1 rfl ?_)
      refine q0 I_153_24 (wi_iload_n _ rfl ?_)
      exact q0 I_153_25 (wi_iret T_153 C_153 ⟨_, rfl, H⟩)
theorem r_154 {a1 : Int32} {di : tDi} {dl : tDl} {K : Int32 → tDi → tDl → Prop} (H : (((lg_cmp (a1 : Int32).toInt64 0) < 0 → (K (-2) di dl)) ∧ (0 ≤ (lg_cmp (a1 : Int32).toInt64 0) → ((0 < (lg_cmp (a1 : Int32).toInt64 2) → (K (-2) di dl)) ∧ ((lg_cmp (a1 : Int32).toInt64 2) ≤ 0 → (inB a1 3 = true ∧ ((¬ (di 182 (a1.toNatClampNeg)) = 0 → (K ((up2 di 182 (a1.toNatClampNeg) ((di 182 (a1.toNatClampNeg)) - 1)) 182 (a1.toNatClampNeg)) (up2 di 182 (a1.toNatClampNeg) ((di 182 (a1.toNatClampNeg)) - 1)) dl)) ∧ ((di 182 (a1.toNatClampNeg)) = 0 → (K (-3) di dl))))))))) : ClI 2 154 [.ref 176, .int a1] di dl K := by
  refine Cl_of C_154 Z_154 [(0, .ref 176), (1, .int a1)] rfl ?_
  refine q0 I_154_0 (wi_iload_n _ rfl ?_)
  refine q0 I_154_1 (wi_statI (e := 1) [.int a1] [] rfl (Or.inl rfl) rfl rfl rfl (okC_i rfl rfl rfl) C_151 (by decide) (Cl_of C_151 Z_151 [(0, .int a1)] rfl ?_))
  refine q0 I_151_0 (wi_iload_n _ rfl ?_)
  refine q0 I_151_1 (wi_i2l ?_)
  refine q0 I_151_2 (wi_lconst 0 rfl ?_)
  refine q0 I_151_3 (wi_ldc2_w 2 rfl ?_)
  refine q0 I_151_6 (wi_statI (e := 0) [.long (a1 : Int32).toInt64, .long 0, .long 2] [] rfl (Or.inl rfl) rfl rfl rfl (okC_i rfl rfl rfl) C_134 (by decide) (Cl_of C_134 Z_134 [(0, .long (a1 : Int32).toInt64), (2, .long 0), (4, .long 2)] rfl ?_))
  refine q0 I_134_0 (wi_lload_n _ rfl ?_)
  refine q0 I_134_1 (wi_lload_n _ rfl ?_)
  refine q0 I_134_2 (wi_lcmp ?_)
  refine q0 I_134_3 (wi_if_lt (fun h => ?_) (fun h => ?_))
  · replace H := H.1 h
    refine q1 (ls' := []) I_134_17 rfl (wi_iconst 0 rfl ?_)
    refine q1 (ls' := []) I_134_18 rfl (wi_zret T_134 (Or.inl C_134) (Or.inl rfl) ⟨_, rfl, ?_⟩)
    refine q0 I_151_9 (wi_zret T_151 (Or.inl C_151) (Or.inl rfl) ⟨_, rfl, ?_⟩)
    refine q0 I_154_4 (wi_ifF rfl ?_)
    refine q1 (ls' := []) I_154_7 rfl (wi_bipush (-2) rfl ?_)
    exact q0 I_154_9 (wi_iret T_154 C_154 ⟨_, rfl, H⟩)
  · replace H := H.2 h
    refine q1 (ls' := [(0, .long (a1 : Int32).toInt64), (4, .long 2)]) I_134_6 rfl (wi_lload_n _ rfl ?_)
    refine q0 I_134_7 (wi_lload _ rfl ?_)
    refine q0 I_134_9 (wi_lcmp ?_)
    refine q0 I_134_10 (wi_if_gt (fun h => ?_) (fun h => ?_))
    · replace H := H.1 h
      refine q1 (ls' := []) I_134_17 rfl (wi_iconst 0 rfl ?_)
      refine q1 (ls' := []) I_134_18 rfl (wi_zret T_134 (Or.inl C_134) (Or.inl rfl) ⟨_, rfl, ?_⟩)
      refine q0 I_151_9 (wi_zret T_151 (Or.inl C_151) (Or.inl rfl) ⟨_, rfl, ?_⟩)
      refine q0 I_154_4 (wi_ifF rfl ?_)
      refine q1 (ls' := []) I_154_7 rfl (wi_bipush (-2) rfl ?_)
      exact q0 I_154_9 (wi_iret T_154 C_154 ⟨_, rfl, H⟩)
    · replace H := H.2 h
      refine q1 (ls' := []) I_134_13 rfl (wi_iconst 1 rfl ?_)
      refine q0 I_134_14 (wi_goto ?_)
      refine q1 (ls' := []) I_134_18 rfl (wi_zret T_134 (Or.inl C_134) (Or.inr rfl) ⟨_, rfl, ?_⟩)
      refine q0 I_151_9 (wi_zret T_151 (Or.inl C_151) (Or.inr rfl) ⟨_, rfl, ?_⟩)
      refine q0 I_154_4 (wi_ifT rfl ?_)
      refine q1 (ls' := [(0, .ref 176), (1, .int a1)]) I_154_10 rfl (wi_aload_n _ rfl ?_)
      refine q0 I_154_11 (wi_get (.ref 182) S_176 rfl (by decide) rfl ?_)
      refine q0 I_154_14 (wi_iload_n _ rfl ?_)
      have hb1 := H.1
      replace H := H.2
      refine q0 I_154_15 (wi_iaload (a1.toNatClampNeg) S_182 hb1 rfl ?_)
      refine q0 I_154_16 (wi_if_ne (fun h => ?_) (fun h => ?_))
      · replace H := H.1 h
        refine q1 (ls' := [(0, .ref 176), (1, .int a1)]) I_154_22 rfl (wi_aload_n _ rfl ?_)
        refine q0 I_154_23 (wi_get (.ref 182) S_176 rfl (by decide) rfl ?_)
        refine q0 I_154_26 (wi_iload_n _ rfl ?_)
        refine q0 I_154_27 (wi_dup2 rfl rfl ?_)
        refine q0 I_154_28 (wi_iaload (a1.toNatClampNeg) S_182 hb1 rfl ?_)
        refine q0 I_154_29 (wi_iconst 1 rfl ?_)
        refine q0 I_154_30 (wi_isub ?_)
        refine q0 I_154_31 (wi_iastore (a1.toNatClampNeg) S_182 hb1 rfl ?_)
        refine q0 I_154_32 (wi_aload_n _ rfl ?_)
        refine q0 I_154_33 (wi_get (.ref 182) S_176 rfl (by decide) rfl ?_)
        refine q0 I_154_36 (wi_iload_n _ rfl ?_)
        refine q0 I_154_37 (wi_iaload (a1.toNatClampNeg) S_182 hb1 rfl ?_)
        exact q0 I_154_38 (wi_iret T_154 C_154 ⟨_, rfl, H⟩)
      · replace H := H.2 h
        refine q1 (ls' := []) I_154_19 rfl (wi_bipush (-3) rfl ?_)
        exact q0 I_154_21 (wi_iret T_154 C_154 ⟨_, rfl, H⟩)
theorem r_155 {a1 : Int32} {a2 : Int32} {di : tDi} {dl : tDl} {K : Int32 → tDi → tDl → Prop} (H : (((lg_cmp (a1 : Int32).toInt64 (((48 : Int32) + a2) : Int32).toInt64) < 0 → (K (-9) di dl)) ∧ (0 ≤ (lg_cmp (a1 : Int32).toInt64 (((48 : Int32) + a2) : Int32).toInt64) → ((0 < (lg_cmp (a1 : Int32).toInt64 57) → (K (-9) di dl)) ∧ ((lg_cmp (a1 : Int32).toInt64 57) ≤ 0 → (K (a1 - 48) di dl)))))) : ClI 1 155 [.int a1, .int a2] di dl K := by
  refine Cl_of C_155 Z_155 [(0, .int a1), (1, .int a2)] rfl ?_
  refine q0 I_155_0 (wi_iload_n _ rfl ?_)
  refine q0 I_155_1 (wi_i2l ?_)
  refine q0 I_155_2 (wi_bipush 48 rfl ?_)
  refine q0 I_155_4 (wi_iload_n _ rfl ?_)
  refine q0 I_155_5 (wi_iadd ?_)
  refine q0 I_155_6 (wi_i2l ?_)
  refine q0 I_155_7 (wi_ldc2_w 57 rfl ?_)
  refine q0 I_155_10 (wi_statI (e := 0) [.long (a1 : Int32).toInt64, .long (((48 : Int32) + a2) : Int32).toInt64, .long 57] [] rfl (Or.inl rfl) rfl rfl rfl (okC_i rfl rfl rfl) C_134 (by decide) (Cl_of C_134 Z_134 [(0, .long (a1 : Int32).toInt64), (2, .long (((48 : Int32) + a2) : Int32).toInt64), (4, .long 57)] rfl ?_))
  refine q0 I_134_0 (wi_lload_n _ rfl ?_)
  refine q0 I_134_1 (wi_lload_n _ rfl ?_)
  refine q0 I_134_2 (wi_lcmp ?_)
  refine q0 I_134_3 (wi_if_lt (fun h => ?_) (fun h => ?_))
  · replace H := H.1 h
    refine q1 (ls' := []) I_134_17 rfl (wi_iconst 0 rfl ?_)
    refine q1 (ls' := []) I_134_18 rfl (wi_zret T_134 (Or.inl C_134) (Or.inl rfl) ⟨_, rfl, ?_⟩)
    refine q0 I_155_13 (wi_ifT rfl ?_)
    refine q1 (ls' := []) I_155_23 rfl (wi_bipush (-9) rfl ?_)
    exact q1 (ls' := []) I_155_25 rfl (wi_iret T_155 C_155 ⟨_, rfl, H⟩)
  · replace H := H.2 h
    refine q1 (ls' := [(0, .long (a1 : Int32).toInt64), (4, .long 57)]) I_134_6 rfl (wi_lload_n _ rfl ?_)
    refine q0 I_134_7 (wi_lload _ rfl ?_)
    refine q0 I_134_9 (wi_lcmp ?_)
    refine q0 I_134_10 (wi_if_gt (fun h => ?_) (fun h => ?_))
    · replace H := H.1 h
      refine q1 (ls' := []) I_134_17 rfl (wi_iconst 0 rfl ?_)
      refine q1 (ls' := []) I_134_18 rfl (wi_zret T_134 (Or.inl C_134) (Or.inl rfl) ⟨_, rfl, ?_⟩)
      refine q0 I_155_13 (wi_ifT rfl ?_)
      refine q1 (ls' := []) I_155_23 rfl (wi_bipush (-9) rfl ?_)
      exact q1 (ls' := []) I_155_25 rfl (wi_iret T_155 C_155 ⟨_, rfl, H⟩)
    · replace H := H.2 h
      refine q1 (ls' := []) I_134_13 rfl (wi_iconst 1 rfl ?_)
      refine q0 I_134_14 (wi_goto ?_)
      refine q1 (ls' := []) I_134_18 rfl (wi_zret T_134 (Or.inl C_134) (Or.inr rfl) ⟨_, rfl, ?_⟩)
      refine q0 I_155_13 (wi_ifF rfl ?_)
      refine q1 (ls' := [(0, .int a1)]) I_155_16 rfl (wi_iload_n _ rfl ?_)
      refine q0 I_155_17 (wi_bipush 48 rfl ?_)
      refine q0 I_155_19 (wi_isub ?_)
      refine q0 I_155_20 (wi_goto ?_)
      exact q1 (ls' := []) I_155_25 rfl (wi_iret T_155 C_155 ⟨_, rfl, H⟩)
theorem r_156 {a1 : Int32} {a2 : Int32} {di : tDi} {dl : tDl} {K : Int32 → tDi → tDl → Prop} (H : ((¬ a1 = 3 → ((¬ a1 = 0 → (ClI 1 155 [.int a2, .int 0] di dl (fun r1 di1 dl1 => (K r1 di1 dl1)))) ∧ (a1 = 0 → (ClI 1 155 [.int a2, .int 1] di dl (fun r2 di2 dl2 => (K r2 di2 dl2)))))) ∧ (a1 = 3 → ((¬ a2 = 110 → ((¬ a2 = 115 → (K (-9) di dl)) ∧ (a2 = 115 → (K 0 di dl)))) ∧ (a2 = 110 → (K 1 di dl)))))) : ClI 2 156 [.int a1, .int a2] di dl K := by
  refine Cl_of C_156 Z_156 [(0, .int a1), (1, .int a2)] rfl ?_
  refine q0 I_156_0 (wi_iload_n _ rfl ?_)
  refine q0 I_156_1 (wi_iconst 3 rfl ?_)
  refine q0 I_156_2 (wi_ic_ne (fun h => ?_) (fun h => ?_))
  · replace H := H.1 h
    refine q1 (ls' := [(0, .int a1), (1, .int a2)]) I_156_30 rfl (wi_iload_n _ rfl ?_)
    refine q0 I_156_31 (wi_iload_n _ rfl ?_)
    refine q0 I_156_32 (wi_if_ne (fun h => ?_) (fun h => ?_))
    · replace H := H.1 h
      refine q1 (ls' := []) I_156_39 rfl (wi_iconst 0 rfl ?_)
      refine q1 (ls' := []) I_156_40 rfl (wi_statI (e := 1) [.int a2, .int 0] [] rfl (Or.inl rfl) rfl rfl rfl (okC_i rfl rfl rfl) C_155 (by decide) (ClI_mono H ?_))
      intro r1 di1 dl1 H
      exact q1 (ls' := []) I_156_43 rfl (wi_iret T_156 C_156 ⟨_, rfl, H⟩)
    · replace H := H.2 h
      refine q1 (ls' := []) I_156_35 rfl (wi_iconst 1 rfl ?_)
      refine q0 I_156_36 (wi_goto ?_)
      refine q1 (ls' := []) I_156_40 rfl (wi_statI (e := 1) [.int a2, .int 1] [] rfl (Or.inl rfl) rfl rfl rfl (okC_i rfl rfl rfl) C_155 (by decide) (ClI_mono H ?_))
      intro r2 di2 dl2 H
      exact q1 (ls' := []) I_156_43 rfl (wi_iret T_156 C_156 ⟨_, rfl, H⟩)
  · replace H := H.2 h
    refine q1 (ls' := [(1, .int a2)]) I_156_5 rfl (wi_iload_n _ rfl ?_)
    refine q0 I_156_6 (wi_bipush 110 rfl ?_)
    refine q0 I_156_8 (wi_ic_ne (fun h => ?_) (fun h => ?_))
    · replace H := H.1 h
      refine q1 (ls' := [(1, .int a2)]) I_156_15 rfl (wi_iload_n _ rfl ?_)
      refine q0 I_156_16 (wi_bipush 115 rfl ?_)
      refine q0 I_156_18 (wi_ic_ne (fun h => ?_) (fun h => ?_))
      · replace H := H.1 h
        refine q1 (ls' := []) I_156_25 rfl (wi_bipush (-9) rfl ?_)
        refine q0 I_156_27 (wi_goto ?_)
        exact q1 (ls' := []) I_156_43 rfl (wi_iret T_156 C_156 ⟨_, rfl, H⟩)
      · replace H := H.2 h
        refine q1 (ls' := []) I_156_21 rfl (wi_iconst 0 rfl ?_)
        refine q0 I_156_22 (wi_goto ?_)
        exact q1 (ls' := []) I_156_43 rfl (wi_iret T_156 C_156 ⟨_, rfl, H⟩)
    · replace H := H.2 h
      refine q1 (ls' := []) I_156_11 rfl (wi_iconst 1 rfl ?_)
      refine q0 I_156_12 (wi_goto ?_)
      exact q1 (ls' := []) I_156_43 rfl (wi_iret T_156 C_156 ⟨_, rfl, H⟩)
theorem r_157 {a1 : Int32} {di : tDi} {dl : tDl} {K : Int32 → tDi → tDl → Prop} (H : ((¬ a1 = 119 → ((¬ a1 = 108 → ((¬ a1 = 104 → (K (-9) di dl)) ∧ (a1 = 104 → (K 2 di dl)))) ∧ (a1 = 108 → (K 1 di dl)))) ∧ (a1 = 119 → (K 0 di dl)))) : ClI 0 157 [.int a1] di dl K := by
  refine Cl_of C_157 Z_157 [(0, .int a1)] rfl ?_
  refine q0 I_157_0 (wi_iload_n _ rfl ?_)
  refine q0 I_157_1 (wi_bipush 119 rfl ?_)
  refine q0 I_157_3 (wi_ic_ne (fun h => ?_) (fun h => ?_))
  · replace H := H.1 h
    refine q1 (ls' := [(0, .int a1)]) I_157_10 rfl (wi_iload_n _ rfl ?_)
    refine q0 I_157_11 (wi_bipush 108 rfl ?_)
    refine q0 I_157_13 (wi_ic_ne (fun h => ?_) (fun h => ?_))
    · replace H := H.1 h
      refine q1 (ls' := [(0, .int a1)]) I_157_20 rfl (wi_iload_n _ rfl ?_)
      refine q0 I_157_21 (wi_bipush 104 rfl ?_)
      refine q0 I_157_23 (wi_ic_ne (fun h => ?_) (fun h => ?_))
      · replace H := H.1 h
        refine q1 (ls' := []) I_157_30 rfl (wi_bipush (-9) rfl ?_)
        exact q1 (ls' := []) I_157_32 rfl (wi_iret T_157 C_157 ⟨_, rfl, H⟩)
      · replace H := H.2 h
        refine q1 (ls' := []) I_157_26 rfl (wi_iconst 2 rfl ?_)
        refine q0 I_157_27 (wi_goto ?_)
        exact q1 (ls' := []) I_157_32 rfl (wi_iret T_157 C_157 ⟨_, rfl, H⟩)
    · replace H := H.2 h
      refine q1 (ls' := []) I_157_16 rfl (wi_iconst 1 rfl ?_)
      refine q0 I_157_17 (wi_goto ?_)
      exact q1 (ls' := []) I_157_32 rfl (wi_iret T_157 C_157 ⟨_, rfl, H⟩)
  · replace H := H.2 h
    refine q1 (ls' := []) I_157_6 rfl (wi_iconst 0 rfl ?_)
    refine q0 I_157_7 (wi_goto ?_)
    exact q1 (ls' := []) I_157_32 rfl (wi_iret T_157 C_157 ⟨_, rfl, H⟩)
theorem r_158  {di : tDi} {dl : tDl} {K : Int32 → tDi → tDl → Prop} (H : (Wq none 3 158 2 [(0, .ref 176), (1, .int 0)] [] di dl (RI K))) : ClI 3 158 [.ref 176] di dl K := by
  refine Cl_of C_158 Z_158 [(0, .ref 176)] rfl ?_
  refine q0 I_158_0 (wi_iconst 0 rfl ?_)
  refine q0 I_158_1 (wi_istore_n [(0, .ref 176), (1, .int 0)] (lt_e X_158 rfl) rfl ?_)
  exact Wq_c I_158_2 rfl rfl H
theorem r_158_2 {x1 : Int32} {di : tDi} {dl : tDl} {K : Int32 → tDi → tDl → Prop} (H : ((4 ≤ x1 → (K 1 di dl)) ∧ (x1 < 4 → (((di 182 0) ≤ (di 176 7) → (K 0 di dl)) ∧ ((di 176 7) < (di 182 0) → (inB (di 176 7) 144 = true ∧ (ClI 2 156 [.int x1, .int (di 181 ((di 176 7).toNatClampNeg))] di dl (fun r22 di22 dl22 => ((¬ r22 = (-9) → (inB (((4 : Int32) * (di22 183 0)) + x1) 32 = true ∧ (Wq none 3 158 2 [(0, .ref 176), (1, .int (x1 + 1))] [] (up2 (up2 di22 184 ((((4 : Int32) * (di22 183 0)) + x1).toNatClampNeg) r22) 176 7 ((di22 176 7) + 1)) dl22 (RI K)))) ∧ (r22 = (-9) → (K 0 di22 dl22))))))))))) : Wq none 3 158 2 [(0, .ref 176), (1, .int x1)] [] di dl (RI K) := by
  refine q1 (ls' := [(0, .ref 176), (1, .int x1)]) I_158_2 rfl (wi_iload_n _ rfl ?_)
  refine q0 I_158_3 (wi_iconst 4 rfl ?_)
  refine q0 I_158_4 (wi_ic_ge (fun h => ?_) (fun h => ?_))
  · replace H := H.1 h
    refine q1 (ls' := []) I_158_79 rfl (wi_iconst 1 rfl ?_)
    exact q0 I_158_80 (wi_zret T_158 (Or.inl C_158) (Or.inr rfl) ⟨_, rfl, H⟩)
  · replace H := H.2 h
    refine q1 (ls' := [(0, .ref 176), (1, .int x1)]) I_158_7 rfl (wi_aload_n _ rfl ?_)
    refine q0 I_158_8 (wi_getI S_176 rfl (by decide) rfl ?_)
    refine q0 I_158_11 (wi_aload_n _ rfl ?_)
    refine q0 I_158_12 (wi_get (.ref 182) S_176 rfl (by decide) rfl ?_)
    refine q0 I_158_15 (wi_iconst 0 rfl ?_)
    refine q0 I_158_16 (wi_iaload 0 S_182 rfl rfl ?_)
    refine q0 I_158_17 (wi_ic_ge (fun h => ?_) (fun h => ?_))
    · replace H := H.1 h
      refine q1 (ls' := [(0, .ref 176), (1, .int x1)]) I_158_36 rfl (wi_bipush (-9) rfl ?_)
      refine q1 (ls' := [(0, .ref 176), (1, .int x1)]) I_158_38 rfl (wi_istore_n [(0, .ref 176), (1, .int x1), (2, .int (-9))] (lt_e X_158 rfl) rfl ?_)
      refine q0 I_158_39 (wi_iload_n _ rfl ?_)
      refine q0 I_158_40 (wi_bipush (-9) rfl ?_)
      refine q0 I_158_42 (wi_icF rfl ?_)
      refine q1 (ls' := []) I_158_45 rfl (wi_iconst 0 rfl ?_)
      exact q0 I_158_46 (wi_zret T_158 (Or.inl C_158) (Or.inl rfl) ⟨_, rfl, H⟩)
    · replace H := H.2 h
      refine q1 (ls' := [(0, .ref 176), (1, .int x1)]) I_158_20 rfl (wi_iload_n _ rfl ?_)
      refine q0 I_158_21 (wi_aload_n _ rfl ?_)
      refine q0 I_158_22 (wi_get (.ref 181) S_176 rfl (by decide) rfl ?_)
      refine q0 I_158_25 (wi_aload_n _ rfl ?_)
      refine q0 I_158_26 (wi_getI S_176 rfl (by decide) rfl ?_)
      have hb21 := H.1
      replace H := H.2
      refine q0 I_158_29 (wi_iaload ((di 176 7).toNatClampNeg) S_181 hb21 rfl ?_)
      refine q0 I_158_30 (wi_statI (e := 2) [.int x1, .int (di 181 ((di 176 7).toNatClampNeg))] [] rfl (Or.inl rfl) rfl rfl rfl (okC_i rfl rfl rfl) C_156 (by decide) (ClI_mono H ?_))
      intro r22 di22 dl22 H
      refine q0 I_158_33 (wi_goto ?_)
      refine q1 (ls' := [(0, .ref 176), (1, .int x1)]) I_158_38 rfl (wi_istore_n [(0, .ref 176), (1, .int x1), (2, .int r22)] (lt_e X_158 rfl) rfl ?_)
      refine q0 I_158_39 (wi_iload_n _ rfl ?_)
      refine q0 I_158_40 (wi_bipush (-9) rfl ?_)
      refine q0 I_158_42 (wi_ic_ne (fun h => ?_) (fun h => ?_))
      · replace H := H.1 h
        refine q1 (ls' := [(0, .ref 176), (1, .int x1), (2, .int r22)]) I_158_47 rfl (wi_aload_n _ rfl ?_)
        refine q0 I_158_48 (wi_get (.ref 184) S_176 rfl (by decide) rfl ?_)
        refine q0 I_158_51 (wi_iconst 4 rfl ?_)
        refine q0 I_158_52 (wi_aload_n _ rfl ?_)
        refine q0 I_158_53 (wi_get (.ref 183) S_176 rfl (by decide) rfl ?_)
        refine q0 I_158_56 (wi_iconst 0 rfl ?_)
        refine q0 I_158_57 (wi_iaload 0 S_183 rfl rfl ?_)
        refine q0 I_158_58 (wi_imul ?_)
        refine q0 I_158_59 (wi_iload_n _ rfl ?_)
        refine q0 I_158_60 (wi_iadd ?_)
        refine q0 I_158_61 (wi_iload_n _ rfl ?_)
        have hb23 := H.1
        replace H := H.2
        refine q0 I_158_62 (wi_iastore ((((4 : Int32) * (di22 183 0)) + x1).toNatClampNeg) S_184 hb23 rfl ?_)
        refine q0 I_158_63 (wi_aload_n _ rfl ?_)
        refine q0 I_158_64 (wi_dup rfl ?_)
        refine q0 I_158_65 (wi_get (.int (di22 176 7)) S_176 rfl (by decide) rfl ?_)
        refine q0 I_158_68 (wi_iconst 1 rfl ?_)
        refine q0 I_158_69 (wi_iadd ?_)
        refine q0 I_158_70 (wi_putI S_176 rfl (by decide) rfl rfl rfl ?_)
        refine q0 I_158_73 (wi_iinc 1 [(0, .ref 176), (1, .int (x1 + 1)), (2, .int r22)] rfl (lt_e X_158 rfl) rfl rfl ?_)
        refine q0 I_158_76 (wi_goto ?_)
        exact Wq_c I_158_2 rfl rfl H
      · replace H := H.2 h
        refine q1 (ls' := []) I_158_45 rfl (wi_iconst 0 rfl ?_)
        exact q0 I_158_46 (wi_zret T_158 (Or.inl C_158) (Or.inl rfl) ⟨_, rfl, H⟩)
theorem r_159  {di : tDi} {dl : tDl} {K : Int32 → tDi → tDl → Prop} (H : (Wq none 2 159 4 [(0, .ref 176), (1, .int 0), (2, .int 0)] [] di dl (RI K))) : ClI 2 159 [.ref 176] di dl K := by
  refine Cl_of C_159 Z_159 [(0, .ref 176)] rfl ?_
  refine q0 I_159_0 (wi_iconst 0 rfl ?_)
  refine q0 I_159_1 (wi_istore_n [(0, .ref 176), (1, .int 0)] (lt_e X_159 rfl) rfl ?_)
  refine q0 I_159_2 (wi_iconst 0 rfl ?_)
  refine q0 I_159_3 (wi_istore_n [(0, .ref 176), (1, .int 0), (2, .int 0)] (lt_e X_159 rfl) rfl ?_)
  exact Wq_c I_159_4 rfl rfl H
theorem r_159_4 {x1 : Int32} {x2 : Int32} {di : tDi} {dl : tDl} {K : Int32 → tDi → tDl → Prop} (H : ((5 ≤ x2 → (K 1 di dl)) ∧ (x2 < 5 → (((di 182 1) ≤ (di 176 7) → (Wq none 2 159 39 [(0, .ref 176), (1, .int x1), (2, .int x2)] [.int (-9)] di dl (RI K))) ∧ ((di 176 7) < (di 182 1) → (inB ((48 : Int32) + (di 176 7)) 144 = true ∧ (Wq none 2 159 39 [(0, .ref 176), (1, .int x1), (2, .int x2)] [.int (di 181 (((48 : Int32) + (di 176 7)).toNatClampNeg))] di dl (RI K)))))))) : Wq none 2 159 4 [(0, .ref 176), (1, .int x1), (2, .int x2)] [] di dl (RI K) := by
  refine q1 (ls' := [(0, .ref 176), (1, .int x1), (2, .int x2)]) I_159_4 rfl (wi_iload_n _ rfl ?_)
  refine q0 I_159_5 (wi_iconst 5 rfl ?_)
  refine q0 I_159_6 (wi_ic_ge (fun h => ?_) (fun h => ?_))
  · replace H := H.1 h
    refine q1 (ls' := []) I_159_156 rfl (wi_iconst 1 rfl ?_)
    exact q0 I_159_157 (wi_zret T_159 (Or.inl C_159) (Or.inr rfl) ⟨_, rfl, H⟩)
  · replace H := H.2 h
    refine q1 (ls' := [(0, .ref 176), (1, .int x1), (2, .int x2)]) I_159_9 rfl (wi_aload_n _ rfl ?_)
    refine q0 I_159_10 (wi_getI S_176 rfl (by decide) rfl ?_)
    refine q0 I_159_13 (wi_aload_n _ rfl ?_)
    refine q0 I_159_14 (wi_get (.ref 182) S_176 rfl (by decide) rfl ?_)
    refine q0 I_159_17 (wi_iconst 1 rfl ?_)
    refine q0 I_159_18 (wi_iaload 1 S_182 rfl rfl ?_)
    refine q0 I_159_19 (wi_ic_ge (fun h => ?_) (fun h => ?_))
    · replace H := H.1 h
      refine q1 (ls' := [(0, .ref 176), (1, .int x1), (2, .int x2)]) I_159_37 rfl (wi_bipush (-9) rfl ?_)
      exact Wq_c I_159_39 rfl rfl H
    · replace H := H.2 h
      refine q1 (ls' := [(0, .ref 176), (1, .int x1), (2, .int x2)]) I_159_22 rfl (wi_aload_n _ rfl ?_)
      refine q0 I_159_23 (wi_get (.ref 181) S_176 rfl (by decide) rfl ?_)
      refine q0 I_159_26 (wi_bipush 48 rfl ?_)
      refine q0 I_159_28 (wi_aload_n _ rfl ?_)
      refine q0 I_159_29 (wi_getI S_176 rfl (by decide) rfl ?_)
      refine q0 I_159_32 (wi_iadd ?_)
      have hb21 := H.1
      replace H := H.2
      refine q0 I_159_33 (wi_iaload (((48 : Int32) + (di 176 7)).toNatClampNeg) S_181 hb21 rfl ?_)
      refine q0 I_159_34 (wi_goto ?_)
      exact Wq_c I_159_39 rfl rfl H
theorem r_159_39 {x1 : Int32} {x2 : Int32} {z0 : Int32} {di : tDi} {dl : tDl} {K : Int32 → tDi → tDl → Prop} (H : ((¬ x2 = 2 → ((¬ x2 = 4 → (Wq none 2 159 63 [(0, .ref 176), (1, .int x1), (2, .int x2)] [.int 0, .int z0] di dl (RI K))) ∧ (x2 = 4 → (Wq none 2 159 63 [(0, .ref 176), (1, .int x1), (2, .int x2)] [.int 1, .int z0] di dl (RI K))))) ∧ (x2 = 2 → ((¬ z0 = 119 → ((¬ z0 = 108 → ((¬ z0 = 104 → (Wq none 2 159 66 [(0, .ref 176), (1, .int x1), (2, .int x2)] [.int (-9)] di dl (RI K))) ∧ (z0 = 104 → (Wq none 2 159 66 [(0, .ref 176), (1, .int x1), (2, .int x2)] [.int 2] di dl (RI K))))) ∧ (z0 = 108 → (Wq none 2 159 66 [(0, .ref 176), (1, .int x1), (2, .int x2)] [.int 1] di dl (RI K))))) ∧ (z0 = 119 → (Wq none 2 159 66 [(0, .ref 176), (1, .int x1), (2, .int x2)] [.int 0] di dl (RI K))))))) : Wq none 2 159 39 [(0, .ref 176), (1, .int x1), (2, .int x2)] [.int z0] di dl (RI K) := by
  refine q1 (ls' := [(0, .ref 176), (1, .int x1), (2, .int x2)]) I_159_39 rfl (wi_istore_n [(0, .ref 176), (1, .int x1), (2, .int x2), (3, .int z0)] (lt_e X_159 rfl) rfl ?_)
  refine q0 I_159_40 (wi_iload_n _ rfl ?_)
  refine q0 I_159_41 (wi_iconst 2 rfl ?_)
  refine q0 I_159_42 (wi_ic_ne (fun h => ?_) (fun h => ?_))
  · replace H := H.1 h
    refine q1 (ls' := [(0, .ref 176), (1, .int x1), (2, .int x2), (3, .int z0)]) I_159_52 rfl (wi_iload_n _ rfl ?_)
    refine q0 I_159_53 (wi_iload_n _ rfl ?_)
    refine q0 I_159_54 (wi_iconst 4 rfl ?_)
    refine q0 I_159_55 (wi_ic_ne (fun h => ?_) (fun h => ?_))
    · replace H := H.1 h
      refine q1 (ls' := [(0, .ref 176), (1, .int x1), (2, .int x2)]) I_159_62 rfl (wi_iconst 0 rfl ?_)
      exact Wq_c I_159_63 rfl rfl H
    · replace H := H.2 h
      refine q1 (ls' := [(0, .ref 176), (1, .int x1), (2, .int x2)]) I_159_58 rfl (wi_iconst 1 rfl ?_)
      refine q0 I_159_59 (wi_goto ?_)
      exact Wq_c I_159_63 rfl rfl H
  · replace H := H.2 h
    refine q1 (ls' := [(0, .ref 176), (1, .int x1), (2, .int x2), (3, .int z0)]) I_159_45 rfl (wi_iload_n _ rfl ?_)
    refine q0 I_159_46 (wi_statI (e := 1) [.int z0] [] rfl (Or.inl rfl) rfl rfl rfl (okC_i rfl rfl rfl) C_157 (by decide) (Cl_of C_157 Z_157 [(0, .int z0)] rfl ?_))
    refine q0 I_157_0 (wi_iload_n _ rfl ?_)
    refine q0 I_157_1 (wi_bipush 119 rfl ?_)
    refine q0 I_157_3 (wi_ic_ne (fun h => ?_) (fun h => ?_))
    · replace H := H.1 h
      refine q1 (ls' := [(0, .int z0)]) I_157_10 rfl (wi_iload_n _ rfl ?_)
      refine q0 I_157_11 (wi_bipush 108 rfl ?_)
      refine q0 I_157_13 (wi_ic_ne (fun h => ?_) (fun h => ?_))
      · replace H := H.1 h
        refine q1 (ls' := [(0, .int z0)]) I_157_20 rfl (wi_iload_n _ rfl ?_)
        refine q0 I_157_21 (wi_bipush 104 rfl ?_)
        refine q0 I_157_23 (wi_ic_ne (fun h => ?_) (fun h => ?_))
        · replace H := H.1 h
          refine q1 (ls' := []) I_157_30 rfl (wi_bipush (-9) rfl ?_)
          refine q1 (ls' := []) I_157_32 rfl (wi_iret T_157 C_157 ⟨_, rfl, ?_⟩)
          refine q0 I_159_49 (wi_goto ?_)
          exact Wq_c I_159_66 rfl rfl H
        · replace H := H.2 h
          refine q1 (ls' := []) I_157_26 rfl (wi_iconst 2 rfl ?_)
          refine q0 I_157_27 (wi_goto ?_)
          refine q1 (ls' := []) I_157_32 rfl (wi_iret T_157 C_157 ⟨_, rfl, ?_⟩)
          refine q0 I_159_49 (wi_goto ?_)
          exact Wq_c I_159_66 rfl rfl H
      · replace H := H.2 h
        refine q1 (ls' := []) I_157_16 rfl (wi_iconst 1 rfl ?_)
        refine q0 I_157_17 (wi_goto ?_)
        refine q1 (ls' := []) I_157_32 rfl (wi_iret T_157 C_157 ⟨_, rfl, ?_⟩)
        refine q0 I_159_49 (wi_goto ?_)
        exact Wq_c I_159_66 rfl rfl H
    · replace H := H.2 h
      refine q1 (ls' := []) I_157_6 rfl (wi_iconst 0 rfl ?_)
      refine q0 I_157_7 (wi_goto ?_)
      refine q1 (ls' := []) I_157_32 rfl (wi_iret T_157 C_157 ⟨_, rfl, ?_⟩)
      refine q0 I_159_49 (wi_goto ?_)
      exact Wq_c I_159_66 rfl rfl H
theorem r_159_63 {x1 : Int32} {x2 : Int32} {z0 : Int32} {z1 : Int32} {di : tDi} {dl : tDl} {K : Int32 → tDi → tDl → Prop} (H : (ClI 1 155 [.int z0, .int z1] di dl (fun r21 di21 dl21 => (Wq none 2 159 66 [(0, .ref 176), (1, .int x1), (2, .int x2)] [.int r21] di21 dl21 (RI K))))) : Wq none 2 159 63 [(0, .ref 176), (1, .int x1), (2, .int x2)] [.int z1, .int z0] di dl (RI K) := by
  refine q1 (ls' := [(0, .ref 176), (1, .int x1), (2, .int x2)]) I_159_63 rfl (wi_statI (e := 1) [.int z0, .int z1] [] rfl (Or.inl rfl) rfl rfl rfl (okC_i rfl rfl rfl) C_155 (by decide) (ClI_mono H ?_))
  intro r21 di21 dl21 H
  exact Wq_c I_159_66 rfl rfl H
theorem r_159_66 {x1 : Int32} {x2 : Int32} {z0 : Int32} {di : tDi} {dl : tDl} {K : Int32 → tDi → tDl → Prop} (H : ((z0 = (-9) → (Wq none 2 159 84 [] [] di dl (RI K))) ∧ (¬ z0 = (-9) → ((¬ x2 = 1 → (Wq none 2 159 86 [(0, .ref 176), (1, .int x1), (2, .int x2), (4, .int z0)] [] di dl (RI K))) ∧ (x2 = 1 → ((¬ x1 = 0 → (Wq none 2 159 86 [(0, .ref 176), (1, .int x1), (2, .int x2), (4, .int z0)] [] di dl (RI K))) ∧ (x1 = 0 → (Wq none 2 159 84 [] [] di dl (RI K))))))))) : Wq none 2 159 66 [(0, .ref 176), (1, .int x1), (2, .int x2)] [.int z0] di dl (RI K) := by
  refine q1 (ls' := [(0, .ref 176), (1, .int x1), (2, .int x2)]) I_159_66 rfl (wi_istore [(0, .ref 176), (1, .int x1), (2, .int x2), (4, .int z0)] (lt_e X_159 rfl) rfl ?_)
  refine q0 I_159_68 (wi_iload _ rfl ?_)
  refine q0 I_159_70 (wi_bipush (-9) rfl ?_)
  refine q0 I_159_72 (wi_ic_eq (fun h => ?_) (fun h => ?_))
  · replace H := H.1 h
    exact Wq_c I_159_84 rfl rfl H
  · replace H := H.2 h
    refine q1 (ls' := [(0, .ref 176), (1, .int x1), (2, .int x2), (4, .int z0)]) I_159_75 rfl (wi_iload_n _ rfl ?_)
    refine q0 I_159_76 (wi_iconst 1 rfl ?_)
    refine q0 I_159_77 (wi_ic_ne (fun h => ?_) (fun h => ?_))
    · replace H := H.1 h
      exact Wq_c I_159_86 rfl rfl H
    · replace H := H.2 h
      refine q1 (ls' := [(0, .ref 176), (1, .int x1), (2, .int x2), (4, .int z0)]) I_159_80 rfl (wi_iload_n _ rfl ?_)
      refine q0 I_159_81 (wi_if_ne (fun h => ?_) (fun h => ?_))
      · replace H := H.1 h
        exact Wq_c I_159_86 rfl rfl H
      · replace H := H.2 h
        exact Wq_c I_159_84 rfl rfl H
theorem r_159_84  {di : tDi} {dl : tDl} {K : Int32 → tDi → tDl → Prop} (H : (K 0 di dl)) : Wq none 2 159 84 [] [] di dl (RI K) := by
  refine q1 (ls' := []) I_159_84 rfl (wi_iconst 0 rfl ?_)
  exact q0 I_159_85 (wi_zret T_159 (Or.inl C_159) (Or.inl rfl) ⟨_, rfl, H⟩)
theorem r_159_86 {x1 : Int32} {x2 : Int32} {x4 : Int32} {di : tDi} {dl : tDl} {K : Int32 → tDi → tDl → Prop} (H : ((2 ≤ x2 → (Wq none 2 159 102 [(0, .ref 176), (2, .int x2), (4, .int x4)] [.int x1] di dl (RI K))) ∧ (x2 < 2 → (Wq none 2 159 102 [(0, .ref 176), (2, .int x2), (4, .int x4)] [.int (((10 : Int32) * x1) + x4)] di dl (RI K))))) : Wq none 2 159 86 [(0, .ref 176), (1, .int x1), (2, .int x2), (4, .int x4)] [] di dl (RI K) := by
  refine q1 (ls' := [(0, .ref 176), (1, .int x1), (2, .int x2), (4, .int x4)]) I_159_86 rfl (wi_iload_n _ rfl ?_)
  refine q0 I_159_87 (wi_iconst 2 rfl ?_)
  refine q0 I_159_88 (wi_ic_ge (fun h => ?_) (fun h => ?_))
  · replace H := H.1 h
    refine q1 (ls' := [(0, .ref 176), (1, .int x1), (2, .int x2), (4, .int x4)]) I_159_101 rfl (wi_iload_n _ rfl ?_)
    exact Wq_c I_159_102 rfl rfl H
  · replace H := H.2 h
    refine q1 (ls' := [(0, .ref 176), (1, .int x1), (2, .int x2), (4, .int x4)]) I_159_91 rfl (wi_bipush 10 rfl ?_)
    refine q0 I_159_93 (wi_iload_n _ rfl ?_)
    refine q0 I_159_94 (wi_imul ?_)
    refine q0 I_159_95 (wi_iload _ rfl ?_)
    refine q0 I_159_97 (wi_iadd ?_)
    refine q0 I_159_98 (wi_goto ?_)
    exact Wq_c I_159_102 rfl rfl H
theorem r_159_102 {x2 : Int32} {x4 : Int32} {z0 : Int32} {di : tDi} {dl : tDl} {K : Int32 → tDi → tDl → Prop} (H : ((1 ≤ x2 → (Wq none 2 159 127 [(0, .ref 176), (1, .int z0), (2, .int x2), (4, .int x4)] [.int (x2 - 1), .int ((4 : Int32) * (di 183 1)), .ref 185] di dl (RI K))) ∧ (x2 < 1 → (Wq none 2 159 127 [(0, .ref 176), (1, .int z0), (2, .int x2), (4, .int x4)] [.int 0, .int ((4 : Int32) * (di 183 1)), .ref 185] di dl (RI K))))) : Wq none 2 159 102 [(0, .ref 176), (2, .int x2), (4, .int x4)] [.int z0] di dl (RI K) := by
  refine q1 (ls' := [(0, .ref 176), (2, .int x2), (4, .int x4)]) I_159_102 rfl (wi_istore_n [(0, .ref 176), (1, .int z0), (2, .int x2), (4, .int x4)] (lt_e X_159 rfl) rfl ?_)
  refine q0 I_159_103 (wi_aload_n _ rfl ?_)
  refine q0 I_159_104 (wi_get (.ref 185) S_176 rfl (by decide) rfl ?_)
  refine q0 I_159_107 (wi_iconst 4 rfl ?_)
  refine q0 I_159_108 (wi_aload_n _ rfl ?_)
  refine q0 I_159_109 (wi_get (.ref 183) S_176 rfl (by decide) rfl ?_)
  refine q0 I_159_112 (wi_iconst 1 rfl ?_)
  refine q0 I_159_113 (wi_iaload 1 S_183 rfl rfl ?_)
  refine q0 I_159_114 (wi_imul ?_)
  refine q0 I_159_115 (wi_iload_n _ rfl ?_)
  refine q0 I_159_116 (wi_iconst 1 rfl ?_)
  refine q0 I_159_117 (wi_ic_ge (fun h => ?_) (fun h => ?_))
  · replace H := H.1 h
    refine q1 (ls' := [(0, .ref 176), (1, .int z0), (2, .int x2), (4, .int x4)]) I_159_124 rfl (wi_iload_n _ rfl ?_)
    refine q0 I_159_125 (wi_iconst 1 rfl ?_)
    refine q0 I_159_126 (wi_isub ?_)
    exact Wq_c I_159_127 rfl rfl H
  · replace H := H.2 h
    refine q1 (ls' := [(0, .ref 176), (1, .int z0), (2, .int x2), (4, .int x4)]) I_159_120 rfl (wi_iconst 0 rfl ?_)
    refine q0 I_159_121 (wi_goto ?_)
    exact Wq_c I_159_127 rfl rfl H
theorem r_159_127 {x1 : Int32} {x2 : Int32} {x4 : Int32} {z1 : Int32} {z2 : Int32} {di : tDi} {dl : tDl} {K : Int32 → tDi → tDl → Prop} (H : ((2 ≤ x2 → (Wq none 2 159 139 [(0, .ref 176), (1, .int x1), (2, .int x2)] [.int x4, .int (z1 + z2), .ref 185] di dl (RI K))) ∧ (x2 < 2 → (Wq none 2 159 139 [(0, .ref 176), (1, .int x1), (2, .int x2)] [.int x1, .int (z1 + z2), .ref 185] di dl (RI K))))) : Wq none 2 159 127 [(0, .ref 176), (1, .int x1), (2, .int x2), (4, .int x4)] [.int z2, .int z1, .ref 185] di dl (RI K) := by
  refine q1 (ls' := [(0, .ref 176), (1, .int x1), (2, .int x2), (4, .int x4)]) I_159_127 rfl (wi_iadd ?_)
  refine q0 I_159_128 (wi_iload_n _ rfl ?_)
  refine q0 I_159_129 (wi_iconst 2 rfl ?_)
  refine q0 I_159_130 (wi_ic_ge (fun h => ?_) (fun h => ?_))
  · replace H := H.1 h
    refine q1 (ls' := [(0, .ref 176), (1, .int x1), (2, .int x2), (4, .int x4)]) I_159_137 rfl (wi_iload _ rfl ?_)
    exact Wq_c I_159_139 rfl rfl H
  · replace H := H.2 h
    refine q1 (ls' := [(0, .ref 176), (1, .int x1), (2, .int x2)]) I_159_133 rfl (wi_iload_n _ rfl ?_)
    refine q0 I_159_134 (wi_goto ?_)
    exact Wq_c I_159_139 rfl rfl H
theorem r_159_139 {x1 : Int32} {x2 : Int32} {z1 : Int32} {z2 : Int32} {di : tDi} {dl : tDl} {K : Int32 → tDi → tDl → Prop} (H : (inB z1 32 = true ∧ (Wq none 2 159 4 [(0, .ref 176), (1, .int x1), (2, .int (x2 + 1))] [] (up2 (up2 di 185 (z1.toNatClampNeg) z2) 176 7 ((di 176 7) + 1)) dl (RI K)))) : Wq none 2 159 139 [(0, .ref 176), (1, .int x1), (2, .int x2)] [.int z2, .int z1, .ref 185] di dl (RI K) := by
  have hb21 := H.1
  replace H := H.2
  refine q1 (ls' := [(0, .ref 176), (1, .int x1), (2, .int x2)]) I_159_139 rfl (wi_iastore (z1.toNatClampNeg) S_185 hb21 rfl ?_)
  refine q0 I_159_140 (wi_aload_n _ rfl ?_)
  refine q0 I_159_141 (wi_dup rfl ?_)
  refine q0 I_159_142 (wi_get (.int (di 176 7)) S_176 rfl (by decide) rfl ?_)
  refine q0 I_159_145 (wi_iconst 1 rfl ?_)
  refine q0 I_159_146 (wi_iadd ?_)
  refine q0 I_159_147 (wi_putI S_176 rfl (by decide) rfl rfl rfl ?_)
  refine q0 I_159_150 (wi_iinc 1 [(0, .ref 176), (1, .int x1), (2, .int (x2 + 1))] rfl (lt_e X_159 rfl) rfl rfl ?_)
  refine q0 I_159_153 (wi_goto ?_)
  exact Wq_c I_159_4 rfl rfl H
theorem r_160 {a1 : Int32} {di : tDi} {dl : tDl} {K : Int32 → tDi → tDl → Prop} (H : (inB a1 3 = true ∧ ((8 ≤ (di 183 (a1.toNatClampNeg)) → (K 0 (up2 di 183 (a1.toNatClampNeg) ((di 183 (a1.toNatClampNeg)) + 0)) dl)) ∧ ((di 183 (a1.toNatClampNeg)) < 8 → ((¬ a1 = 0 → (ClI 2 159 [.ref 176] di dl (fun r2 di2 dl2 => ((r2 = 0 → (K 0 (up2 di2 183 (a1.toNatClampNeg) ((di2 183 (a1.toNatClampNeg)) + 0)) dl2)) ∧ (¬ r2 = 0 → (K 1 (up2 di2 183 (a1.toNatClampNeg) ((di2 183 (a1.toNatClampNeg)) + 1)) dl2)))))) ∧ (a1 = 0 → (ClI 3 158 [.ref 176] di dl (fun r3 di3 dl3 => ((r3 = 0 → (K 0 (up2 di3 183 (a1.toNatClampNeg) ((di3 183 (a1.toNatClampNeg)) + 0)) dl3)) ∧ (¬ r3 = 0 → (K 1 (up2 di3 183 (a1.toNatClampNeg) ((di3 183 (a1.toNatClampNeg)) + 1)) dl3))))))))))) : ClI 4 160 [.ref 176, .int a1] di dl K := by
  refine Cl_of C_160 Z_160 [(0, .ref 176), (1, .int a1)] rfl ?_
  refine q0 I_160_0 (wi_aload_n _ rfl ?_)
  refine q0 I_160_1 (wi_get (.ref 183) S_176 rfl (by decide) rfl ?_)
  refine q0 I_160_4 (wi_iload_n _ rfl ?_)
  have hb1 := H.1
  replace H := H.2
  refine q0 I_160_5 (wi_iaload (a1.toNatClampNeg) S_183 hb1 rfl ?_)
  refine q0 I_160_6 (wi_bipush 8 rfl ?_)
  refine q0 I_160_8 (wi_ic_ge (fun h => ?_) (fun h => ?_))
  · replace H := H.1 h
    refine q1 (ls' := [(0, .ref 176), (1, .int a1)]) I_160_36 rfl (wi_iconst 0 rfl ?_)
    refine q1 (ls' := [(0, .ref 176), (1, .int a1)]) I_160_37 rfl (wi_istore_n [(0, .ref 176), (1, .int a1), (2, .int 0)] (lt_e X_160 rfl) rfl ?_)
    refine q0 I_160_38 (wi_aload_n _ rfl ?_)
    refine q0 I_160_39 (wi_get (.ref 183) S_176 rfl (by decide) rfl ?_)
    refine q0 I_160_42 (wi_iload_n _ rfl ?_)
    refine q0 I_160_43 (wi_dup2 rfl rfl ?_)
    refine q0 I_160_44 (wi_iaload (a1.toNatClampNeg) S_183 hb1 rfl ?_)
    refine q0 I_160_45 (wi_iload_n _ rfl ?_)
    refine q0 I_160_46 (wi_ifT rfl ?_)
    refine q1 (ls' := [(2, .int 0)]) I_160_53 rfl (wi_iconst 0 rfl ?_)
    refine q1 (ls' := [(2, .int 0)]) I_160_54 rfl (wi_iadd ?_)
    refine q0 I_160_55 (wi_iastore (a1.toNatClampNeg) S_183 hb1 rfl ?_)
    refine q0 I_160_56 (wi_iload_n _ rfl ?_)
    exact q0 I_160_57 (wi_zret T_160 (Or.inl C_160) (Or.inl rfl) ⟨_, rfl, H⟩)
  · replace H := H.2 h
    refine q1 (ls' := [(0, .ref 176), (1, .int a1)]) I_160_11 rfl (wi_iload_n _ rfl ?_)
    refine q0 I_160_12 (wi_if_ne (fun h => ?_) (fun h => ?_))
    · replace H := H.1 h
      refine q1 (ls' := [(0, .ref 176), (1, .int a1)]) I_160_25 rfl (wi_aload_n _ rfl ?_)
      refine q0 I_160_26 (wi_virtI (e := 2) [] [] S_176 rfl (by decide) rfl rfl rfl (okC_i rfl rfl rfl) C_159 (by decide) (ClI_mono H ?_))
      intro r2 di2 dl2 H
      refine q0 I_160_29 (wi_if_eq (fun h => ?_) (fun h => ?_))
      · replace H := H.1 h
        refine q1 (ls' := [(0, .ref 176), (1, .int a1)]) I_160_36 rfl (wi_iconst 0 rfl ?_)
        refine q1 (ls' := [(0, .ref 176), (1, .int a1)]) I_160_37 rfl (wi_istore_n [(0, .ref 176), (1, .int a1), (2, .int 0)] (lt_e X_160 rfl) rfl ?_)
        refine q0 I_160_38 (wi_aload_n _ rfl ?_)
        refine q0 I_160_39 (wi_get (.ref 183) S_176 rfl (by decide) rfl ?_)
        refine q0 I_160_42 (wi_iload_n _ rfl ?_)
        refine q0 I_160_43 (wi_dup2 rfl rfl ?_)
        refine q0 I_160_44 (wi_iaload (a1.toNatClampNeg) S_183 hb1 rfl ?_)
        refine q0 I_160_45 (wi_iload_n _ rfl ?_)
        refine q0 I_160_46 (wi_ifT rfl ?_)
        refine q1 (ls' := [(2, .int 0)]) I_160_53 rfl (wi_iconst 0 rfl ?_)
        refine q1 (ls' := [(2, .int 0)]) I_160_54 rfl (wi_iadd ?_)
        refine q0 I_160_55 (wi_iastore (a1.toNatClampNeg) S_183 hb1 rfl ?_)
        refine q0 I_160_56 (wi_iload_n _ rfl ?_)
        exact q0 I_160_57 (wi_zret T_160 (Or.inl C_160) (Or.inl rfl) ⟨_, rfl, H⟩)
      · replace H := H.2 h
        refine q1 (ls' := [(0, .ref 176), (1, .int a1)]) I_160_32 rfl (wi_iconst 1 rfl ?_)
        refine q0 I_160_33 (wi_goto ?_)
        refine q1 (ls' := [(0, .ref 176), (1, .int a1)]) I_160_37 rfl (wi_istore_n [(0, .ref 176), (1, .int a1), (2, .int 1)] (lt_e X_160 rfl) rfl ?_)
        refine q0 I_160_38 (wi_aload_n _ rfl ?_)
        refine q0 I_160_39 (wi_get (.ref 183) S_176 rfl (by decide) rfl ?_)
        refine q0 I_160_42 (wi_iload_n _ rfl ?_)
        refine q0 I_160_43 (wi_dup2 rfl rfl ?_)
        refine q0 I_160_44 (wi_iaload (a1.toNatClampNeg) S_183 hb1 rfl ?_)
        refine q0 I_160_45 (wi_iload_n _ rfl ?_)
        refine q0 I_160_46 (wi_ifF rfl ?_)
        refine q1 (ls' := [(2, .int 1)]) I_160_49 rfl (wi_iconst 1 rfl ?_)
        refine q0 I_160_50 (wi_goto ?_)
        refine q1 (ls' := [(2, .int 1)]) I_160_54 rfl (wi_iadd ?_)
        refine q0 I_160_55 (wi_iastore (a1.toNatClampNeg) S_183 hb1 rfl ?_)
        refine q0 I_160_56 (wi_iload_n _ rfl ?_)
        exact q0 I_160_57 (wi_zret T_160 (Or.inl C_160) (Or.inr rfl) ⟨_, rfl, H⟩)
    · replace H := H.2 h
      refine q1 (ls' := [(0, .ref 176), (1, .int a1)]) I_160_15 rfl (wi_aload_n _ rfl ?_)
      refine q0 I_160_16 (wi_virtI (e := 3) [] [] S_176 rfl (by decide) rfl rfl rfl (okC_i rfl rfl rfl) C_158 (by decide) (ClI_mono H ?_))
      intro r3 di3 dl3 H
      refine q0 I_160_19 (wi_if_eq (fun h => ?_) (fun h => ?_))
      · replace H := H.1 h
        refine q1 (ls' := [(0, .ref 176), (1, .int a1)]) I_160_36 rfl (wi_iconst 0 rfl ?_)
        refine q1 (ls' := [(0, .ref 176), (1, .int a1)]) I_160_37 rfl (wi_istore_n [(0, .ref 176), (1, .int a1), (2, .int 0)] (lt_e X_160 rfl) rfl ?_)
        refine q0 I_160_38 (wi_aload_n _ rfl ?_)
        refine q0 I_160_39 (wi_get (.ref 183) S_176 rfl (by decide) rfl ?_)
        refine q0 I_160_42 (wi_iload_n _ rfl ?_)
        refine q0 I_160_43 (wi_dup2 rfl rfl ?_)
        refine q0 I_160_44 (wi_iaload (a1.toNatClampNeg) S_183 hb1 rfl ?_)
        refine q0 I_160_45 (wi_iload_n _ rfl ?_)
        refine q0 I_160_46 (wi_ifT rfl ?_)
        refine q1 (ls' := [(2, .int 0)]) I_160_53 rfl (wi_iconst 0 rfl ?_)
        refine q1 (ls' := [(2, .int 0)]) I_160_54 rfl (wi_iadd ?_)
        refine q0 I_160_55 (wi_iastore (a1.toNatClampNeg) S_183 hb1 rfl ?_)
        refine q0 I_160_56 (wi_iload_n _ rfl ?_)
        exact q0 I_160_57 (wi_zret T_160 (Or.inl C_160) (Or.inl rfl) ⟨_, rfl, H⟩)
      · replace H := H.2 h
        refine q1 (ls' := [(0, .ref 176), (1, .int a1)]) I_160_22 rfl (wi_goto ?_)
        refine q1 (ls' := [(0, .ref 176), (1, .int a1)]) I_160_32 rfl (wi_iconst 1 rfl ?_)
        refine q0 I_160_33 (wi_goto ?_)
        refine q1 (ls' := [(0, .ref 176), (1, .int a1)]) I_160_37 rfl (wi_istore_n [(0, .ref 176), (1, .int a1), (2, .int 1)] (lt_e X_160 rfl) rfl ?_)
        refine q0 I_160_38 (wi_aload_n _ rfl ?_)
        refine q0 I_160_39 (wi_get (.ref 183) S_176 rfl (by decide) rfl ?_)
        refine q0 I_160_42 (wi_iload_n _ rfl ?_)
        refine q0 I_160_43 (wi_dup2 rfl rfl ?_)
        refine q0 I_160_44 (wi_iaload (a1.toNatClampNeg) S_183 hb1 rfl ?_)
        refine q0 I_160_45 (wi_iload_n _ rfl ?_)
        refine q0 I_160_46 (wi_ifF rfl ?_)
        refine q1 (ls' := [(2, .int 1)]) I_160_49 rfl (wi_iconst 1 rfl ?_)
        refine q0 I_160_50 (wi_goto ?_)
        refine q1 (ls' := [(2, .int 1)]) I_160_54 rfl (wi_iadd ?_)
        refine q0 I_160_55 (wi_iastore (a1.toNatClampNeg) S_183 hb1 rfl ?_)
        refine q0 I_160_56 (wi_iload_n _ rfl ?_)
        exact q0 I_160_57 (wi_zret T_160 (Or.inl C_160) (Or.inr rfl) ⟨_, rfl, H⟩)
