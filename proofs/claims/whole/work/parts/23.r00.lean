/-! regions -/
theorem Wq_c {sc : tSc} {d m pc : Nat} {i : Instr} {t : Nat} {c : Int} {ps : List (Nat × Nat)} {L : List Nat} {ls ls' : tF} {st : List Value} {di : tDi} {dl : tDl} {P : tP} (hi : ins m pc = some (i, (t, c, ps, some L))) (hl : lflt (some L) ls = ls') (hl' : lflt (some L) ls' = ls') (h : Wq sc d m pc ls' st di dl P) : Wq sc d m pc ls st di dl P := by
  intro b
  obtain ⟨n, h⟩ := h b
  refine ⟨n, ?_⟩
  cases n with
  | zero => exact h
  | succ n =>
    unfold wp at h ⊢
    dsimp only at h ⊢
    rw [hi] at h ⊢
    dsimp only at h ⊢
    rw [hl'] at h
    rw [hl]
    exact h
theorem wi_ialoadV {sc : tSc} {d m pc t : Nat} {c : Int} {ps : List (Nat × Nat)} {ls : tF} {st : List Value} {di : tDi} {dl : tDl} {P : tP} {a n : Nat} {rf : List (Option Nat)} {j : Int32} (v : Int32) (q : Nat) (hS : S0[a]? = some (.inr (0, n, rf))) (hb : inB j n = true) (hq : j.toNatClampNeg = q) (hv : di a q = v) (k : Wq sc d m (pc + 1) ls (.int v :: st) di dl P) : WI sc d m .iaload t c ps pc ls (.int j :: .ref a :: st) di dl P := wi_iaload q hS hb hq (by rw [hv]; exact k)
theorem wi_laloadV {sc : tSc} {d m pc t : Nat} {c : Int} {ps : List (Nat × Nat)} {ls : tF} {st : List Value} {di : tDi} {dl : tDl} {P : tP} {a n : Nat} {rf : List (Option Nat)} {j : Int32} (v : Int64) (q : Nat) (hS : S0[a]? = some (.inr (1, n, rf))) (hb : inB j n = true) (hq : j.toNatClampNeg = q) (hv : dl a q = v) (k : Wq sc d m (pc + 1) ls (.long v :: st) di dl P) : WI sc d m .laload t c ps pc ls (.int j :: .ref a :: st) di dl P := wi_laload q hS hb hq (by rw [hv]; exact k)

theorem r_1 {a1 : Int32} {a2 : Int32} {a3 : Int32} {di : tDi} {dl : tDl} {K : tDi → tDl → Prop} (H : (ClI 1 11 [.ref 3, .int a2] di dl (fun r1 di1 dl1 => (ClV 0 2 [.ref 165, .int r1] di1 dl1 (fun di2 dl2 => (ClI 1 9 [.ref 3, .int a2] di2 dl2 (fun r3 di3 dl3 => ((r3 = 0 → (Wq none 2 1 28 [(0, .ref 165), (1, .int a1), (3, .int a3), (4, .int 2), (5, .int 0)] [] di3 dl3 (RV K))) ∧ (¬ r3 = 0 → ((r3 = 2 → (Wq none 2 1 28 [(0, .ref 165), (1, .int a1), (3, .int a3), (4, .int 1), (5, .int 0)] [] di3 dl3 (RV K))) ∧ (¬ r3 = 2 → (Wq none 2 1 28 [(0, .ref 165), (1, .int a1), (3, .int a3), (4, .int 0), (5, .int 0)] [] di3 dl3 (RV K))))))))))))) : ClV 2 1 [.ref 165, .int a1, .int a2, .int a3] di dl K := by
  refine Cl_of C_1 Z_1 [(0, .ref 165), (1, .int a1), (2, .int a2), (3, .int a3)] rfl ?_
  refine q0 I_1_0 (wi_aload_n _ rfl ?_)
  refine q0 I_1_1 (wi_aload_n _ rfl ?_)
  refine q0 I_1_2 (wi_get (.ref 3) S_165 rfl (by decide) rfl ?_)
  refine q0 I_1_5 (wi_iload_n _ rfl ?_)
  refine q0 I_1_6 (wi_virtI (e := 1) [.int a2] [.ref 165] S_3 rfl (by decide) rfl rfl rfl (okC_i rfl rfl rfl) C_11 (by decide) (ClI_mono H ?_))
  intro r1 di1 dl1 H
  refine q0 I_1_9 (wi_virtV (e := 0) [.int r1] [] S_165 rfl (by decide) rfl rfl rfl (okC_i rfl rfl rfl) C_2 (by decide) (ClV_mono H ?_))
  intro di2 dl2 H
  refine q0 I_1_12 (wi_aload_n _ rfl ?_)
  refine q0 I_1_13 (wi_get (.ref 3) S_165 rfl (by decide) rfl ?_)
  refine q0 I_1_16 (wi_iload_n _ rfl ?_)
  refine q0 I_1_17 (wi_virtI (e := 1) [.int a2] [] S_3 rfl (by decide) rfl rfl rfl (okC_i rfl rfl rfl) C_9 (by decide) (ClI_mono H ?_))
  intro r3 di3 dl3 H
  refine q0 I_1_20 (wi_statI (e := 1) [.int r3] [] rfl (Or.inl rfl) rfl rfl rfl (okC_i rfl rfl rfl) C_86 (by decide) (Cl_of C_86 Z_86 [(0, .int r3)] rfl ?_))
  refine q0 I_86_0 (wi_iload_n _ rfl ?_)
  refine q0 I_86_1 (wi_lsw ?_)
  refine sw_cons 0 rfl ⟨fun h => ?_, fun h => ?_⟩
  · replace H := H.1 h
    refine q1 (ls' := []) I_86_28 rfl (wi_iconst 2 rfl ?_)
    refine q0 I_86_29 (wi_iret T_86 C_86 ⟨_, rfl, ?_⟩)
    refine q0 I_1_23 (wi_istore [(0, .ref 165), (1, .int a1), (2, .int a2), (3, .int a3), (4, .int 2)] (lt_e X_1 rfl) rfl ?_)
    refine q0 I_1_25 (wi_iconst 0 rfl ?_)
    refine q0 I_1_26 (wi_istore [(0, .ref 165), (1, .int a1), (2, .int a2), (3, .int a3), (4, .int 2), (5, .int 0)] (lt_e X_1 rfl) rfl ?_)
    exact Wq_c I_1_28 rfl rfl H
  · replace H := H.2 h
    refine sw_cons 2 rfl ⟨fun h => ?_, fun h => ?_⟩
    · replace H := H.1 h
      refine q1 (ls' := []) I_86_30 rfl (wi_iconst 1 rfl ?_)
      refine q0 I_86_31 (wi_iret T_86 C_86 ⟨_, rfl, ?_⟩)
      refine q0 I_1_23 (wi_istore [(0, .ref 165), (1, .int a1), (2, .int a2), (3, .int a3), (4, .int 1)] (lt_e X_1 rfl) rfl ?_)
      refine q0 I_1_25 (wi_iconst 0 rfl ?_)
      refine q0 I_1_26 (wi_istore [(0, .ref 165), (1, .int a1), (2, .int a2), (3, .int a3), (4, .int 1), (5, .int 0)] (lt_e X_1 rfl) rfl ?_)
      exact Wq_c I_1_28 rfl rfl H
    · replace H := H.2 h
      refine sw_nil ?_
      refine q1 (ls' := []) I_86_32 rfl (wi_iconst 0 rfl ?_)
      refine q0 I_86_33 (wi_iret T_86 C_86 ⟨_, rfl, ?_⟩)
      refine q0 I_1_23 (wi_istore [(0, .ref 165), (1, .int a1), (2, .int a2), (3, .int a3), (4, .int 0)] (lt_e X_1 rfl) rfl ?_)
      refine q0 I_1_25 (wi_iconst 0 rfl ?_)
      refine q0 I_1_26 (wi_istore [(0, .ref 165), (1, .int a1), (2, .int a2), (3, .int a3), (4, .int 0), (5, .int 0)] (lt_e X_1 rfl) rfl ?_)
      exact Wq_c I_1_28 rfl rfl H
theorem r_1_28 {x1 : Int32} {x3 : Int32} {x4 : Int32} {x5 : Int32} {di : tDi} {dl : tDl} {K : tDi → tDl → Prop} (H : ((x3 ≤ x5 → (Wq none 2 1 68 [(0, .ref 165), (5, .int 1)] [] di dl (RV K))) ∧ (x5 < x3 → (ClI 1 35 [.ref 5, .int x5] di dl (fun r21 di21 dl21 => ((¬ r21 = 4 → (Wq none 2 1 28 [(0, .ref 165), (1, .int x1), (3, .int x3), (4, .int x4), (5, .int (x5 + 1))] [] di21 dl21 (RV K))) ∧ (r21 = 4 → ((x4 ≤ 0 → (Wq none 2 1 28 [(0, .ref 165), (1, .int x1), (3, .int x3), (4, .int x4), (5, .int (x5 + 1))] [] di21 dl21 (RV K))) ∧ (0 < x4 → (ClV 0 3 [.ref 165, .int x1, .int x4] di21 dl21 (fun di22 dl22 => (Wq none 2 1 28 [(0, .ref 165), (1, .int x1), (3, .int x3), (4, .int x4), (5, .int (x5 + 1))] [] di22 dl22 (RV K))))))))))))) : Wq none 2 1 28 [(0, .ref 165), (1, .int x1), (3, .int x3), (4, .int x4), (5, .int x5)] [] di dl (RV K) := by
  refine q1 (ls' := [(0, .ref 165), (1, .int x1), (3, .int x3), (4, .int x4), (5, .int x5)]) I_1_28 rfl (wi_iload _ rfl ?_)
  refine q0 I_1_30 (wi_iload_n _ rfl ?_)
  refine q0 I_1_31 (wi_ic_ge (fun h => ?_) (fun h => ?_))
  · replace H := H.1 h
    refine q1 (ls' := [(0, .ref 165)]) I_1_65 rfl (wi_iconst 1 rfl ?_)
    refine q0 I_1_66 (wi_istore [(0, .ref 165), (5, .int 1)] (lt_e X_1 rfl) rfl ?_)
    exact Wq_c I_1_68 rfl rfl H
  · replace H := H.2 h
    refine q1 (ls' := [(0, .ref 165), (1, .int x1), (3, .int x3), (4, .int x4), (5, .int x5)]) I_1_34 rfl (wi_aload_n _ rfl ?_)
    refine q0 I_1_35 (wi_get (.ref 5) S_165 rfl (by decide) rfl ?_)
    refine q0 I_1_38 (wi_iload _ rfl ?_)
    refine q0 I_1_40 (wi_virtI (e := 1) [.int x5] [] S_5 rfl (by decide) rfl rfl rfl (okC_i rfl rfl rfl) C_35 (by decide) (ClI_mono H ?_))
    intro r21 di21 dl21 H
    refine q0 I_1_43 (wi_iconst 4 rfl ?_)
    refine q0 I_1_44 (wi_ic_ne (fun h => ?_) (fun h => ?_))
    · replace H := H.1 h
      refine q1 (ls' := [(0, .ref 165), (1, .int x1), (3, .int x3), (4, .int x4), (5, .int x5)]) I_1_59 rfl (wi_iinc 1 [(0, .ref 165), (1, .int x1), (3, .int x3), (4, .int x4), (5, .int (x5 + 1))] rfl (lt_e X_1 rfl) rfl rfl ?_)
      refine q0 I_1_62 (wi_goto ?_)
      exact Wq_c I_1_28 rfl rfl H
    · replace H := H.2 h
      refine q1 (ls' := [(0, .ref 165), (1, .int x1), (3, .int x3), (4, .int x4), (5, .int x5)]) I_1_47 rfl (wi_iload _ rfl ?_)
      refine q0 I_1_49 (wi_if_le (fun h => ?_) (fun h => ?_))
      · replace H := H.1 h
        refine q1 (ls' := [(0, .ref 165), (1, .int x1), (3, .int x3), (4, .int x4), (5, .int x5)]) I_1_59 rfl (wi_iinc 1 [(0, .ref 165), (1, .int x1), (3, .int x3), (4, .int x4), (5, .int (x5 + 1))] rfl (lt_e X_1 rfl) rfl rfl ?_)
        refine q0 I_1_62 (wi_goto ?_)
        exact Wq_c I_1_28 rfl rfl H
      · replace H := H.2 h
        refine q1 (ls' := [(0, .ref 165), (1, .int x1), (3, .int x3), (4, .int x4), (5, .int x5)]) I_1_52 rfl (wi_aload_n _ rfl ?_)
        refine q0 I_1_53 (wi_iload_n _ rfl ?_)
        refine q0 I_1_54 (wi_iload _ rfl ?_)
        refine q0 I_1_56 (wi_virtV (e := 0) [.int x1, .int x4] [] S_165 rfl (by decide) rfl rfl rfl (okC_i rfl rfl rfl) C_3 (by decide) (ClV_mono H ?_))
        intro di22 dl22 H
        refine q1 (ls' := [(0, .ref 165), (1, .int x1), (3, .int x3), (4, .int x4), (5, .int x5)]) I_1_59 rfl (wi_iinc 1 [(0, .ref 165), (1, .int x1), (3, .int x3), (4, .int x4), (5, .int (x5 + 1))] rfl (lt_e X_1 rfl) rfl rfl ?_)
        refine q0 I_1_62 (wi_goto ?_)
        exact Wq_c I_1_28 rfl rfl H
theorem r_1_68 {x5 : Int32} {di : tDi} {dl : tDl} {K : tDi → tDl → Prop} (H : ((9 < x5 → (ClV 0 4 [.ref 165] di dl (fun di21 dl21 => (K di21 dl21)))) ∧ (x5 ≤ 9 → (inB x5 10 = true ∧ (Wq none 2 1 68 [(0, .ref 165), (5, .int (x5 + 1))] [] di (up2 dl 165 3 ((dl 165 3) + (dl 166 (x5.toNatClampNeg)))) (RV K)))))) : Wq none 2 1 68 [(0, .ref 165), (5, .int x5)] [] di dl (RV K) := by
  refine q1 (ls' := [(0, .ref 165), (5, .int x5)]) I_1_68 rfl (wi_iload _ rfl ?_)
  refine q0 I_1_70 (wi_bipush 9 rfl ?_)
  refine q0 I_1_72 (wi_ic_gt (fun h => ?_) (fun h => ?_))
  · replace H := H.1 h
    refine q1 (ls' := [(0, .ref 165)]) I_1_97 rfl (wi_aload_n _ rfl ?_)
    refine q0 I_1_98 (wi_virtV (e := 0) [] [] S_165 rfl (by decide) rfl rfl rfl (okC_i rfl rfl rfl) C_4 (by decide) (ClV_mono H ?_))
    intro di21 dl21 H
    exact q0 I_1_101 (wi_ret T_1 C_1 ⟨rfl, H⟩)
  · replace H := H.2 h
    refine q1 (ls' := [(0, .ref 165), (5, .int x5)]) I_1_75 rfl (wi_aload_n _ rfl ?_)
    refine q0 I_1_76 (wi_dup rfl ?_)
    refine q0 I_1_77 (wi_getJ S_165 rfl (by decide) rfl ?_)
    refine q0 I_1_80 (wi_aload_n _ rfl ?_)
    refine q0 I_1_81 (wi_get (.ref 166) S_165 rfl (by decide) rfl ?_)
    refine q0 I_1_84 (wi_iload _ rfl ?_)
    have hb22 := H.1
    replace H := H.2
    refine q0 I_1_86 (wi_laload (x5.toNatClampNeg) S_166 hb22 rfl ?_)
    refine q0 I_1_87 (wi_ladd ?_)
    refine q0 I_1_88 (wi_putJ S_165 rfl (by decide) rfl rfl rfl ?_)
    refine q0 I_1_91 (wi_iinc 1 [(0, .ref 165), (5, .int (x5 + 1))] rfl (lt_e X_1 rfl) rfl rfl ?_)
    refine q0 I_1_94 (wi_goto ?_)
    exact Wq_c I_1_68 rfl rfl H
theorem r_2 {a1 : Int32} {di : tDi} {dl : tDl} {K : tDi → tDl → Prop} (H : (Wq none 0 2 2 [(0, .ref 165), (1, .int a1), (2, .int 0)] [] di dl (RV K))) : ClV 0 2 [.ref 165, .int a1] di dl K := by
  refine Cl_of C_2 Z_2 [(0, .ref 165), (1, .int a1)] rfl ?_
  refine q0 I_2_0 (wi_iconst 0 rfl ?_)
  refine q0 I_2_1 (wi_istore_n [(0, .ref 165), (1, .int a1), (2, .int 0)] (lt_e X_2 rfl) rfl ?_)
  exact Wq_c I_2_2 rfl rfl H
theorem r_2_2 {x1 : Int32} {x2 : Int32} {di : tDi} {dl : tDl} {K : tDi → tDl → Prop} (H : ((9 < x2 → (K di (up2 (up2 dl 165 3 0) 165 4 1))) ∧ (x2 ≤ 9 → ((¬ x2 = x1 → (inB x2 10 = true ∧ (Wq none 0 2 2 [(0, .ref 165), (1, .int x1), (2, .int (x2 + 1))] [] di (up2 dl 166 (x2.toNatClampNeg) 0) (RV K)))) ∧ (x2 = x1 → (inB x2 10 = true ∧ (Wq none 0 2 2 [(0, .ref 165), (1, .int x1), (2, .int (x2 + 1))] [] di (up2 dl 166 (x2.toNatClampNeg) 1) (RV K)))))))) : Wq none 0 2 2 [(0, .ref 165), (1, .int x1), (2, .int x2)] [] di dl (RV K) := by
  refine q1 (ls' := [(0, .ref 165), (1, .int x1), (2, .int x2)]) I_2_2 rfl (wi_iload_n _ rfl ?_)
  refine q0 I_2_3 (wi_bipush 9 rfl ?_)
  refine q0 I_2_5 (wi_ic_gt (fun h => ?_) (fun h => ?_))
  · replace H := H.1 h
    refine q1 (ls' := [(0, .ref 165)]) I_2_30 rfl (wi_aload_n _ rfl ?_)
    refine q0 I_2_31 (wi_lconst 0 rfl ?_)
    refine q0 I_2_32 (wi_putJ S_165 rfl (by decide) rfl rfl rfl ?_)
    refine q0 I_2_35 (wi_aload_n _ rfl ?_)
    refine q0 I_2_36 (wi_lconst 1 rfl ?_)
    refine q0 I_2_37 (wi_putJ S_165 rfl (by decide) rfl rfl rfl ?_)
    exact q0 I_2_40 (wi_ret T_2 C_2 ⟨rfl, H⟩)
  · replace H := H.2 h
    refine q1 (ls' := [(0, .ref 165), (1, .int x1), (2, .int x2)]) I_2_8 rfl (wi_aload_n _ rfl ?_)
    refine q0 I_2_9 (wi_get (.ref 166) S_165 rfl (by decide) rfl ?_)
    refine q0 I_2_12 (wi_iload_n _ rfl ?_)
    refine q0 I_2_13 (wi_iload_n _ rfl ?_)
    refine q0 I_2_14 (wi_iload_n _ rfl ?_)
    refine q0 I_2_15 (wi_ic_ne (fun h => ?_) (fun h => ?_))
    · replace H := H.1 h
      refine q1 (ls' := [(0, .ref 165), (1, .int x1), (2, .int x2)]) I_2_22 rfl (wi_lconst 0 rfl ?_)
      have hb21 := H.1
      replace H := H.2
      refine q1 (ls' := [(0, .ref 165), (1, .int x1), (2, .int x2)]) I_2_23 rfl (wi_lastore (x2.toNatClampNeg) S_166 hb21 rfl ?_)
      refine q0 I_2_24 (wi_iinc 1 [(0, .ref 165), (1, .int x1), (2, .int (x2 + 1))] rfl (lt_e X_2 rfl) rfl rfl ?_)
      refine q0 I_2_27 (wi_goto ?_)
      exact Wq_c I_2_2 rfl rfl H
    · replace H := H.2 h
      refine q1 (ls' := [(0, .ref 165), (1, .int x1), (2, .int x2)]) I_2_18 rfl (wi_lconst 1 rfl ?_)
      refine q0 I_2_19 (wi_goto ?_)
      have hb22 := H.1
      replace H := H.2
      refine q1 (ls' := [(0, .ref 165), (1, .int x1), (2, .int x2)]) I_2_23 rfl (wi_lastore (x2.toNatClampNeg) S_166 hb22 rfl ?_)
      refine q0 I_2_24 (wi_iinc 1 [(0, .ref 165), (1, .int x1), (2, .int (x2 + 1))] rfl (lt_e X_2 rfl) rfl rfl ?_)
      refine q0 I_2_27 (wi_goto ?_)
      exact Wq_c I_2_2 rfl rfl H
theorem r_3 {a1 : Int32} {a2 : Int32} {di : tDi} {dl : tDl} {K : tDi → tDl → Prop} (H : (Wq none 0 3 14 [(0, .ref 165), (1, .int a1), (2, .int a2), (3, .int 1)] [] di (up2 dl 166 0 ((dl 166 0) * 16)) (RV K))) : ClV 0 3 [.ref 165, .int a1, .int a2] di dl K := by
  refine Cl_of C_3 Z_3 [(0, .ref 165), (1, .int a1), (2, .int a2)] rfl ?_
  refine q0 I_3_0 (wi_aload_n _ rfl ?_)
  refine q0 I_3_1 (wi_get (.ref 166) S_165 rfl (by decide) rfl ?_)
  refine q0 I_3_4 (wi_iconst 0 rfl ?_)
  refine q0 I_3_5 (wi_dup2 rfl rfl ?_)
  refine q0 I_3_6 (wi_laload 0 S_166 rfl rfl ?_)
  refine q0 I_3_7 (wi_ldc2_w 16 rfl ?_)
  refine q0 I_3_10 (wi_lmul ?_)
  refine q0 I_3_11 (wi_lastore 0 S_166 rfl rfl ?_)
  refine q0 I_3_12 (wi_iconst 1 rfl ?_)
  refine q0 I_3_13 (wi_istore_n [(0, .ref 165), (1, .int a1), (2, .int a2), (3, .int 1)] (lt_e X_3 rfl) rfl ?_)
  exact Wq_c I_3_14 rfl rfl H
theorem r_3_14 {x1 : Int32} {x2 : Int32} {x3 : Int32} {di : tDi} {dl : tDl} {K : tDi → tDl → Prop} (H : ((9 < x3 → (K di (up2 dl 165 4 ((dl 165 4) * 16)))) ∧ (x3 ≤ 9 → (inB x3 10 = true ∧ (inB (imax 0 (x3 - x2)) 10 = true ∧ (Wq none 0 3 14 [(0, .ref 165), (1, .int x1), (2, .int x2), (3, .int (x3 + 1))] [] di (up2 (up2 dl 166 (x3.toNatClampNeg) ((dl 166 (x3.toNatClampNeg)) * (((16 : Int32) - x1) : Int32).toInt64)) 166 ((imax 0 (x3 - x2)).toNatClampNeg) (((up2 dl 166 (x3.toNatClampNeg) ((dl 166 (x3.toNatClampNeg)) * (((16 : Int32) - x1) : Int32).toInt64)) 166 ((imax 0 (x3 - x2)).toNatClampNeg)) + ((dl 166 (x3.toNatClampNeg)) * (x1 : Int32).toInt64))) (RV K))))))) : Wq none 0 3 14 [(0, .ref 165), (1, .int x1), (2, .int x2), (3, .int x3)] [] di dl (RV K) := by
  refine q1 (ls' := [(0, .ref 165), (1, .int x1), (2, .int x2), (3, .int x3)]) I_3_14 rfl (wi_iload_n _ rfl ?_)
  refine q0 I_3_15 (wi_bipush 9 rfl ?_)
  refine q0 I_3_17 (wi_ic_gt (fun h => ?_) (fun h => ?_))
  · replace H := H.1 h
    refine q1 (ls' := [(0, .ref 165)]) I_3_72 rfl (wi_aload_n _ rfl ?_)
    refine q0 I_3_73 (wi_dup rfl ?_)
    refine q0 I_3_74 (wi_getJ S_165 rfl (by decide) rfl ?_)
    refine q0 I_3_77 (wi_ldc2_w 16 rfl ?_)
    refine q0 I_3_80 (wi_lmul ?_)
    refine q0 I_3_81 (wi_putJ S_165 rfl (by decide) rfl rfl rfl ?_)
    exact q0 I_3_84 (wi_ret T_3 C_3 ⟨rfl, H⟩)
  · replace H := H.2 h
    refine q1 (ls' := [(0, .ref 165), (1, .int x1), (2, .int x2), (3, .int x3)]) I_3_20 rfl (wi_iconst 0 rfl ?_)
    refine q0 I_3_21 (wi_iload_n _ rfl ?_)
    refine q0 I_3_22 (wi_iload_n _ rfl ?_)
    refine q0 I_3_23 (wi_isub ?_)
    refine q0 I_3_24 (wi_max rfl (Nat.le_of_ble_eq_true rfl) ?_)
    refine q0 I_3_27 (wi_istore [(0, .ref 165), (1, .int x1), (2, .int x2), (3, .int x3), (4, .int (imax 0 (x3 - x2)))] (lt_e X_3 rfl) rfl ?_)
    refine q0 I_3_29 (wi_aload_n _ rfl ?_)
    refine q0 I_3_30 (wi_get (.ref 166) S_165 rfl (by decide) rfl ?_)
    refine q0 I_3_33 (wi_iload_n _ rfl ?_)
    have hb21 := H.1
    replace H := H.2
    refine q0 I_3_34 (wi_laload (x3.toNatClampNeg) S_166 hb21 rfl ?_)
    refine q0 I_3_35 (wi_lstore [(0, .ref 165), (1, .int x1), (2, .int x2), (3, .int x3), (4, .int (imax 0 (x3 - x2))), (5, .long (dl 166 (x3.toNatClampNeg)))] (lt_e X_3 rfl) rfl ?_)
    refine q0 I_3_37 (wi_aload_n _ rfl ?_)
    refine q0 I_3_38 (wi_get (.ref 166) S_165 rfl (by decide) rfl ?_)
    refine q0 I_3_41 (wi_iload_n _ rfl ?_)
    refine q0 I_3_42 (wi_lload _ rfl ?_)
    refine q0 I_3_44 (wi_bipush 16 rfl ?_)
    refine q0 I_3_46 (wi_iload_n _ rfl ?_)
    refine q0 I_3_47 (wi_isub ?_)
    refine q0 I_3_48 (wi_i2l ?_)
    refine q0 I_3_49 (wi_lmul ?_)
    refine q0 I_3_50 (wi_lastore (x3.toNatClampNeg) S_166 hb21 rfl ?_)
    refine q0 I_3_51 (wi_aload_n _ rfl ?_)
    refine q0 I_3_52 (wi_get (.ref 166) S_165 rfl (by decide) rfl ?_)
    refine q0 I_3_55 (wi_iload _ rfl ?_)
    refine q0 I_3_57 (wi_dup2 rfl rfl ?_)
    have hb22 := H.1
    replace H := H.2
    refine q0 I_3_58 (wi_laload ((imax 0 (x3 - x2)).toNatClampNeg) S_166 hb22 rfl ?_)
    refine q0 I_3_59 (wi_lload _ rfl ?_)
    refine q0 I_3_61 (wi_iload_n _ rfl ?_)
    refine q0 I_3_62 (wi_i2l ?_)
    refine q0 I_3_63 (wi_lmul ?_)
    refine q0 I_3_64 (wi_ladd ?_)
    refine q0 I_3_65 (wi_lastore ((imax 0 (x3 - x2)).toNatClampNeg) S_166 hb22 rfl ?_)
    refine q0 I_3_66 (wi_iinc 1 [(0, .ref 165), (1, .int x1), (2, .int x2), (3, .int (x3 + 1)), (4, .int (imax 0 (x3 - x2))), (5, .long (dl 166 (x3.toNatClampNeg)))] rfl (lt_e X_3 rfl) rfl rfl ?_)
    refine q0 I_3_69 (wi_goto ?_)
    exact Wq_c I_3_14 rfl rfl H
theorem r_4  {di : tDi} {dl : tDl} {K : tDi → tDl → Prop} (H : (Wq none 0 4 2 [(0, .ref 165), (1, .int 0)] [] di dl (RV K))) : ClV 0 4 [.ref 165] di dl K := by
  refine Cl_of C_4 Z_4 [(0, .ref 165)] rfl ?_
  refine q0 I_4_0 (wi_iconst 0 rfl ?_)
  refine q0 I_4_1 (wi_istore_n [(0, .ref 165), (1, .int 0)] (lt_e X_4 rfl) rfl ?_)
  exact Wq_c I_4_2 rfl rfl H
theorem r_4_2 {x1 : Int32} {di : tDi} {dl : tDl} {K : tDi → tDl → Prop} (H : ((63 ≤ x1 → (K di dl)) ∧ (x1 < 63 → (((lg_cmp (dl 165 4) 1) ≤ 0 → (K di dl)) ∧ (0 < (lg_cmp (dl 165 4) 1) → ((¬ (lg_cmp ((dl 165 3) - (dl 165 3) / 2 * 2) 0) = 0 → (K di dl)) ∧ ((lg_cmp ((dl 165 3) - (dl 165 3) / 2 * 2) 0) = 0 → (Wq none 0 4 2 [(0, .ref 165), (1, .int (x1 + 1))] [] di (up2 (up2 dl 165 3 ((dl 165 3) / 2)) 165 4 ((dl 165 4) / 2)) (RV K))))))))) : Wq none 0 4 2 [(0, .ref 165), (1, .int x1)] [] di dl (RV K) := by
  refine q1 (ls' := [(0, .ref 165), (1, .int x1)]) I_4_2 rfl (wi_iload_n _ rfl ?_)
  refine q0 I_4_3 (wi_bipush 63 rfl ?_)
  refine q0 I_4_5 (wi_ic_ge (fun h => ?_) (fun h => ?_))
  · replace H := H.1 h
    exact q1 (ls' := []) I_4_60 rfl (wi_ret T_4 C_4 ⟨rfl, H⟩)
  · replace H := H.2 h
    refine q1 (ls' := [(0, .ref 165), (1, .int x1)]) I_4_8 rfl (wi_aload_n _ rfl ?_)
    refine q0 I_4_9 (wi_getJ S_165 rfl (by decide) rfl ?_)
    refine q0 I_4_12 (wi_lconst 1 rfl ?_)
    refine q0 I_4_13 (wi_lcmp ?_)
    refine q0 I_4_14 (wi_if_le (fun h => ?_) (fun h => ?_))
    · replace H := H.1 h
      exact q1 (ls' := []) I_4_60 rfl (wi_ret T_4 C_4 ⟨rfl, H⟩)
    · replace H := H.2 h
      refine q1 (ls' := [(0, .ref 165), (1, .int x1)]) I_4_17 rfl (wi_aload_n _ rfl ?_)
      refine q0 I_4_18 (wi_getJ S_165 rfl (by decide) rfl ?_)
      refine q0 I_4_21 (wi_ldc2_w 2 rfl ?_)
      refine q0 I_4_24 (wi_lrem (by decide) ?_)
      refine q0 I_4_25 (wi_lconst 0 rfl ?_)
      refine q0 I_4_26 (wi_lcmp ?_)
      refine q0 I_4_27 (wi_if_ne (fun h => ?_) (fun h => ?_))
      · replace H := H.1 h
        exact q1 (ls' := []) I_4_60 rfl (wi_ret T_4 C_4 ⟨rfl, H⟩)
      · replace H := H.2 h
        refine q1 (ls' := [(0, .ref 165), (1, .int x1)]) I_4_30 rfl (wi_aload_n _ rfl ?_)
        refine q0 I_4_31 (wi_dup rfl ?_)
        refine q0 I_4_32 (wi_getJ S_165 rfl (by decide) rfl ?_)
        refine q0 I_4_35 (wi_ldc2_w 2 rfl ?_)
        refine q0 I_4_38 (wi_ldiv (by decide) ?_)
        refine q0 I_4_39 (wi_putJ S_165 rfl (by decide) rfl rfl rfl ?_)
        refine q0 I_4_42 (wi_aload_n _ rfl ?_)
        refine q0 I_4_43 (wi_dup rfl ?_)
        refine q0 I_4_44 (wi_get (.long (dl 165 4)) S_165 rfl (by decide) rfl ?_)
        refine q0 I_4_47 (wi_ldc2_w 2 rfl ?_)
        refine q0 I_4_50 (wi_ldiv (by decide) ?_)
        refine q0 I_4_51 (wi_putJ S_165 rfl (by decide) rfl rfl rfl ?_)
        refine q0 I_4_54 (wi_iinc 1 [(0, .ref 165), (1, .int (x1 + 1))] rfl (lt_e X_4 rfl) rfl rfl ?_)
        refine q0 I_4_57 (wi_goto ?_)
        exact Wq_c I_4_2 rfl rfl H
theorem r_6 {a1 : Int32} {di : tDi} {dl : tDl} {K : Int32 → tDi → tDl → Prop} (H : (ClI 0 56 [.ref 3, .int a1] di dl (fun r1 di1 dl1 => (((a1 / 6) < 8 → (((a1 - a1 / 6 * 6) = 0 → ((r1 < ((48 : Int32) + 0) → (K 0 di1 dl1)) ∧ (((48 : Int32) + 0) ≤ r1 → ((57 < r1 → (K 0 di1 dl1)) ∧ (r1 ≤ 57 → (K 1 di1 dl1)))))) ∧ (¬ (a1 - a1 / 6 * 6) = 0 → (((a1 - a1 / 6 * 6) = 1 → ((r1 < ((48 : Int32) + 0) → (K 0 di1 dl1)) ∧ (((48 : Int32) + 0) ≤ r1 → ((57 < r1 → (K 0 di1 dl1)) ∧ (r1 ≤ 57 → (ClI 0 56 [.ref 3, .int (a1 - 1)] di1 dl1 (fun r2 di2 dl2 => ((r2 = 48 → (K 0 di2 dl2)) ∧ (¬ r2 = 48 → (K 1 di2 dl2)))))))))) ∧ (¬ (a1 - a1 / 6 * 6) = 1 → (((a1 - a1 / 6 * 6) = 2 → ((r1 = 119 → (K 1 di1 dl1)) ∧ (¬ r1 = 119 → ((r1 = 108 → (K 1 di1 dl1)) ∧ (¬ r1 = 108 → ((¬ r1 = 104 → (K 0 di1 dl1)) ∧ (r1 = 104 → (K 1 di1 dl1)))))))) ∧ (¬ (a1 - a1 / 6 * 6) = 2 → (((a1 - a1 / 6 * 6) = 3 → ((r1 < ((48 : Int32) + 0) → (K 0 di1 dl1)) ∧ (((48 : Int32) + 0) ≤ r1 → ((57 < r1 → (K 0 di1 dl1)) ∧ (r1 ≤ 57 → (K 1 di1 dl1)))))) ∧ (¬ (a1 - a1 / 6 * 6) = 3 → (((a1 - a1 / 6 * 6) = 4 → ((r1 < ((48 : Int32) + 1) → (K 0 di1 dl1)) ∧ (((48 : Int32) + 1) ≤ r1 → ((57 < r1 → (K 0 di1 dl1)) ∧ (r1 ≤ 57 → (K 1 di1 dl1)))))) ∧ (¬ (a1 - a1 / 6 * 6) = 4 → ((¬ r1 = 59 → (K 0 di1 dl1)) ∧ (r1 = 59 → (K 1 di1 dl1)))))))))))))) ∧ (8 ≤ (a1 / 6) → (K 0 di1 dl1)))))) : ClI 1 6 [.ref 3, .int a1] di dl K := by
  refine Cl_of C_6 Z_6 [(0, .ref 3), (1, .int a1)] rfl ?_
  refine q0 I_6_0 (wi_aload_n _ rfl ?_)
  refine q0 I_6_1 (wi_iload_n _ rfl ?_)
  refine q0 I_6_2 (wi_virtI (e := 0) [.int a1] [] S_3 rfl (by decide) rfl rfl rfl (okC_i rfl rfl rfl) C_56 (by decide) (ClI_mono H ?_))
  intro r1 di1 dl1 H
  refine q0 I_6_5 (wi_istore_n [(0, .ref 3), (1, .int a1), (2, .int r1)] (lt_e X_6 rfl) rfl ?_)
  refine q0 I_6_6 (wi_iload_n _ rfl ?_)
  refine q0 I_6_7 (wi_bipush 6 rfl ?_)
  refine q0 I_6_9 (wi_idiv (by decide) ?_)
  refine q0 I_6_10 (wi_bipush 8 rfl ?_)
  refine q0 I_6_12 (wi_ic_lt (fun h => ?_) (fun h => ?_))
  · replace H := H.1 h
    refine q1 (ls' := [(0, .ref 3), (1, .int a1), (2, .int r1)]) I_6_17 rfl (wi_iload_n _ rfl ?_)
    refine q0 I_6_18 (wi_bipush 6 rfl ?_)
    refine q0 I_6_20 (wi_irem (by decide) ?_)
    refine q0 I_6_21 (wi_tsw ?_)
    refine sw_cons 0 rfl ⟨fun h => ?_, fun h => ?_⟩
    · replace H := H.1 h
      refine q1 (ls' := [(2, .int r1)]) I_6_56 rfl (wi_iload_n _ rfl ?_)
      refine q0 I_6_57 (wi_iconst 0 rfl ?_)
      refine q0 I_6_58 (wi_statI (e := 0) [.int r1, .int 0] [] rfl (Or.inr rfl) rfl rfl rfl (okC_i rfl rfl rfl) C_59 (by decide) (Cl_of C_59 Z_59 [(0, .int r1), (1, .int 0)] rfl ?_))
      refine q0 I_59_0 (wi_iload_n _ rfl ?_)
      refine q0 I_59_1 (wi_bipush 48 rfl ?_)
      refine q0 I_59_3 (wi_iload_n _ rfl ?_)
      refine q0 I_59_4 (wi_iadd ?_)
      refine q0 I_59_5 (wi_ic_lt (fun h => ?_) (fun h => ?_))
      · replace H := H.1 h
        refine q1 (ls' := []) I_59_18 rfl (wi_iconst 0 rfl ?_)
        refine q1 (ls' := []) I_59_19 rfl (wi_zret T_59 (Or.inl C_59) (Or.inl rfl) ⟨_, rfl, ?_⟩)
        exact q0 I_6_61 (wi_zret T_6 (Or.inl C_6) (Or.inl rfl) ⟨_, rfl, H⟩)
      · replace H := H.2 h
        refine q1 (ls' := [(0, .int r1)]) I_59_8 rfl (wi_iload_n _ rfl ?_)
        refine q0 I_59_9 (wi_bipush 57 rfl ?_)
        refine q0 I_59_11 (wi_ic_gt (fun h => ?_) (fun h => ?_))
        · replace H := H.1 h
          refine q1 (ls' := []) I_59_18 rfl (wi_iconst 0 rfl ?_)
          refine q1 (ls' := []) I_59_19 rfl (wi_zret T_59 (Or.inl C_59) (Or.inl rfl) ⟨_, rfl, ?_⟩)
          exact q0 I_6_61 (wi_zret T_6 (Or.inl C_6) (Or.inl rfl) ⟨_, rfl, H⟩)
        · replace H := H.2 h
          refine q1 (ls' := []) I_59_14 rfl (wi_iconst 1 rfl ?_)
          refine q0 I_59_15 (wi_goto ?_)
          refine q1 (ls' := []) I_59_19 rfl (wi_zret T_59 (Or.inl C_59) (Or.inr rfl) ⟨_, rfl, ?_⟩)
          exact q0 I_6_61 (wi_zret T_6 (Or.inl C_6) (Or.inr rfl) ⟨_, rfl, H⟩)
    · replace H := H.2 h
      refine sw_cons 1 rfl ⟨fun h => ?_, fun h => ?_⟩
      · replace H := H.1 h
        refine q1 (ls' := [(0, .ref 3), (1, .int a1), (2, .int r1)]) I_6_62 rfl (wi_iload_n _ rfl ?_)
        refine q0 I_6_63 (wi_iconst 0 rfl ?_)
        refine q0 I_6_64 (wi_statI (e := 0) [.int r1, .int 0] [] rfl (Or.inr rfl) rfl rfl rfl (okC_i rfl rfl rfl) C_59 (by decide) (Cl_of C_59 Z_59 [(0, .int r1), (1, .int 0)] rfl ?_))
        refine q0 I_59_0 (wi_iload_n _ rfl ?_)
        refine q0 I_59_1 (wi_bipush 48 rfl ?_)
        refine q0 I_59_3 (wi_iload_n _ rfl ?_)
        refine q0 I_59_4 (wi_iadd ?_)
        refine q0 I_59_5 (wi_ic_lt (fun h => ?_) (fun h => ?_))
        · replace H := H.1 h
          refine q1 (ls' := []) I_59_18 rfl (wi_iconst 0 rfl ?_)
          refine q1 (ls' := []) I_59_19 rfl (wi_zret T_59 (Or.inl C_59) (Or.inl rfl) ⟨_, rfl, ?_⟩)
          refine q0 I_6_67 (wi_ifT rfl ?_)
          refine q1 (ls' := []) I_6_86 rfl (wi_iconst 0 rfl ?_)
          exact q1 (ls' := []) I_6_87 rfl (wi_zret T_6 (Or.inl C_6) (Or.inl rfl) ⟨_, rfl, H⟩)
        · replace H := H.2 h
          refine q1 (ls' := [(0, .int r1)]) I_59_8 rfl (wi_iload_n _ rfl ?_)
          refine q0 I_59_9 (wi_bipush 57 rfl ?_)
          refine q0 I_59_11 (wi_ic_gt (fun h => ?_) (fun h => ?_))
          · replace H := H.1 h
            refine q1 (ls' := []) I_59_18 rfl (wi_iconst 0 rfl ?_)
            refine q1 (ls' := []) I_59_19 rfl (wi_zret T_59 (Or.inl C_59) (Or.inl rfl) ⟨_, rfl, ?_⟩)
            refine q0 I_6_67 (wi_ifT rfl ?_)
            refine q1 (ls' := []) I_6_86 rfl (wi_iconst 0 rfl ?_)
            exact q1 (ls' := []) I_6_87 rfl (wi_zret T_6 (Or.inl C_6) (Or.inl rfl) ⟨_, rfl, H⟩)
          · replace H := H.2 h
            refine q1 (ls' := []) I_59_14 rfl (wi_iconst 1 rfl ?_)
            refine q0 I_59_15 (wi_goto ?_)
            refine q1 (ls' := []) I_59_19 rfl (wi_zret T_59 (Or.inl C_59) (Or.inr rfl) ⟨_, rfl, ?_⟩)
            refine q0 I_6_67 (wi_ifF rfl ?_)
            refine q1 (ls' := [(0, .ref 3), (1, .int a1)]) I_6_70 rfl (wi_aload_n _ rfl ?_)
            refine q0 I_6_71 (wi_iload_n _ rfl ?_)
            refine q0 I_6_72 (wi_iconst 1 rfl ?_)
            refine q0 I_6_73 (wi_isub ?_)
            refine q0 I_6_74 (wi_virtI (e := 0) [.int (a1 - 1)] [] S_3 rfl (by decide) rfl rfl rfl (okC_i rfl rfl rfl) C_56 (by decide) (ClI_mono H ?_))
            intro r2 di2 dl2 H
            refine q0 I_6_77 (wi_bipush 48 rfl ?_)
            refine q0 I_6_79 (wi_ic_eq (fun h => ?_) (fun h => ?_))
            · replace H := H.1 h
              refine q1 (ls' := []) I_6_86 rfl (wi_iconst 0 rfl ?_)
              exact q1 (ls' := []) I_6_87 rfl (wi_zret T_6 (Or.inl C_6) (Or.inl rfl) ⟨_, rfl, H⟩)
            · replace H := H.2 h
              refine q1 (ls' := []) I_6_82 rfl (wi_iconst 1 rfl ?_)
              refine q0 I_6_83 (wi_goto ?_)
              exact q1 (ls' := []) I_6_87 rfl (wi_zret T_6 (Or.inl C_6) (Or.inr rfl) ⟨_, rfl, H⟩)
      · replace H := H.2 h
        refine sw_cons 2 rfl ⟨fun h => ?_, fun h => ?_⟩
        · replace H := H.1 h
          refine q1 (ls' := [(2, .int r1)]) I_6_88 rfl (wi_iload_n _ rfl ?_)
          refine q0 I_6_89 (wi_bipush 119 rfl ?_)
          refine q0 I_6_91 (wi_ic_eq (fun h => ?_) (fun h => ?_))
          · replace H := H.1 h
            refine q1 (ls' := []) I_6_106 rfl (wi_iconst 1 rfl ?_)
            refine q0 I_6_107 (wi_goto ?_)
            exact q1 (ls' := []) I_6_111 rfl (wi_zret T_6 (Or.inl C_6) (Or.inr rfl) ⟨_, rfl, H⟩)
          · replace H := H.2 h
            refine q1 (ls' := [(2, .int r1)]) I_6_94 rfl (wi_iload_n _ rfl ?_)
            refine q0 I_6_95 (wi_bipush 108 rfl ?_)
            refine q0 I_6_97 (wi_ic_eq (fun h => ?_) (fun h => ?_))
            · replace H := H.1 h
              refine q1 (ls' := []) I_6_106 rfl (wi_iconst 1 rfl ?_)
              refine q0 I_6_107 (wi_goto ?_)
              exact q1 (ls' := []) I_6_111 rfl (wi_zret T_6 (Or.inl C_6) (Or.inr rfl) ⟨_, rfl, H⟩)
            · replace H := H.2 h
              refine q1 (ls' := [(2, .int r1)]) I_6_100 rfl (wi_iload_n _ rfl ?_)
              refine q0 I_6_101 (wi_bipush 104 rfl ?_)
              refine q0 I_6_103 (wi_ic_ne (fun h => ?_) (fun h => ?_))
              · replace H := H.1 h
                refine q1 (ls' := []) I_6_110 rfl (wi_iconst 0 rfl ?_)
                exact q1 (ls' := []) I_6_111 rfl (wi_zret T_6 (Or.inl C_6) (Or.inl rfl) ⟨_, rfl, H⟩)
              · replace H := H.2 h
                refine q1 (ls' := []) I_6_106 rfl (wi_iconst 1 rfl ?_)
                refine q0 I_6_107 (wi_goto ?_)
                exact q1 (ls' := []) I_6_111 rfl (wi_zret T_6 (Or.inl C_6) (Or.inr rfl) ⟨_, rfl, H⟩)
        · replace H := H.2 h
          refine sw_cons 3 rfl ⟨fun h => ?_, fun h => ?_⟩
          · replace H := H.1 h
            refine q1 (ls' := [(2, .int r1)]) I_6_56 rfl (wi_iload_n _ rfl ?_)
            refine q0 I_6_57 (wi_iconst 0 rfl ?_)
            refine q0 I_6_58 (wi_statI (e := 0) [.int r1, .int 0] [] rfl (Or.inr rfl) rfl rfl rfl (okC_i rfl rfl rfl) C_59 (by decide) (Cl_of C_59 Z_59 [(0, .int r1), (1, .int 0)] rfl ?_))
            refine q0 I_59_0 (wi_iload_n _ rfl ?_)
            refine q0 I_59_1 (wi_bipush 48 rfl ?_)
            refine q0 I_59_3 (wi_iload_n _ rfl ?_)
            refine q0 I_59_4 (wi_iadd ?_)
            refine q0 I_59_5 (wi_ic_lt (fun h => ?_) (fun h => ?_))
            · replace H := H.1 h
              refine q1 (ls' := []) I_59_18 rfl (wi_iconst 0 rfl ?_)
              refine q1 (ls' := []) I_59_19 rfl (wi_zret T_59 (Or.inl C_59) (Or.inl rfl) ⟨_, rfl, ?_⟩)
              exact q0 I_6_61 (wi_zret T_6 (Or.inl C_6) (Or.inl rfl) ⟨_, rfl, H⟩)
            · replace H := H.2 h
              refine q1 (ls' := [(0, .int r1)]) I_59_8 rfl (wi_iload_n _ rfl ?_)
              refine q0 I_59_9 (wi_bipush 57 rfl ?_)
              refine q0 I_59_11 (wi_ic_gt (fun h => ?_) (fun h => ?_))
              · replace H := H.1 h
                refine q1 (ls' := []) I_59_18 rfl (wi_iconst 0 rfl ?_)
                refine q1 (ls' := []) I_59_19 rfl (wi_zret T_59 (Or.inl C_59) (Or.inl rfl) ⟨_, rfl, ?_⟩)
                exact q0 I_6_61 (wi_zret T_6 (Or.inl C_6) (Or.inl rfl) ⟨_, rfl, H⟩)
              · replace H := H.2 h
                refine q1 (ls' := []) I_59_14 rfl (wi_iconst 1 rfl ?_)
                refine q0 I_59_15 (wi_goto ?_)
                refine q1 (ls' := []) I_59_19 rfl (wi_zret T_59 (Or.inl C_59) (Or.inr rfl) ⟨_, rfl, ?_⟩)
                exact q0 I_6_61 (wi_zret T_6 (Or.inl C_6) (Or.inr rfl) ⟨_, rfl, H⟩)
          · replace H := H.2 h
            refine sw_cons 4 rfl ⟨fun h => ?_, fun h => ?_⟩
            · replace H := H.1 h
              refine q1 (ls' := [(2, .int r1)]) I_6_112 rfl (wi_iload_n _ rfl ?_)
              refine q0 I_6_113 (wi_iconst 1 rfl ?_)
              refine q0 I_6_114 (wi_statI (e := 0) [.int r1, .int 1] [] rfl (Or.inr rfl) rfl rfl rfl (okC_i rfl rfl rfl) C_59 (by decide) (Cl_of C_59 Z_59 [(0, .int r1), (1, .int 1)] rfl ?_))
              refine q0 I_59_0 (wi_iload_n _ rfl ?_)
              refine q0 I_59_1 (wi_bipush 48 rfl ?_)
              refine q0 I_59_3 (wi_iload_n _ rfl ?_)
              refine q0 I_59_4 (wi_iadd ?_)
              refine q0 I_59_5 (wi_ic_lt (fun h => ?_) (fun h => ?_))
              · replace H := H.1 h
                refine q1 (ls' := []) I_59_18 rfl (wi_iconst 0 rfl ?_)
                refine q1 (ls' := []) I_59_19 rfl (wi_zret T_59 (Or.inl C_59) (Or.inl rfl) ⟨_, rfl, ?_⟩)
                exact q0 I_6_117 (wi_zret T_6 (Or.inl C_6) (Or.inl rfl) ⟨_, rfl, H⟩)
              · replace H := H.2 h
                refine q1 (ls' := [(0, .int r1)]) I_59_8 rfl (wi_iload_n _ rfl ?_)
                refine q0 I_59_9 (wi_bipush 57 rfl ?_)
                refine q0 I_59_11 (wi_ic_gt (fun h => ?_) (fun h => ?_))
                · replace H := H.1 h
                  refine q1 (ls' := []) I_59_18 rfl (wi_iconst 0 rfl ?_)
                  refine q1 (ls' := []) I_59_19 rfl (wi_zret T_59 (Or.inl C_59) (Or.inl rfl) ⟨_, rfl, ?_⟩)
                  exact q0 I_6_117 (wi_zret T_6 (Or.inl C_6) (Or.inl rfl) ⟨_, rfl, H⟩)
                · replace H := H.2 h
                  refine q1 (ls' := []) I_59_14 rfl (wi_iconst 1 rfl ?_)
                  refine q0 I_59_15 (wi_goto ?_)
                  refine q1 (ls' := []) I_59_19 rfl (wi_zret T_59 (Or.inl C_59) (Or.inr rfl) ⟨_, rfl, ?_⟩)
                  exact q0 I_6_117 (wi_zret T_6 (Or.inl C_6) (Or.inr rfl) ⟨_, rfl, H⟩)
            · replace H := H.2 h
              refine sw_nil ?_
              refine q1 (ls' := [(2, .int r1)]) I_6_118 rfl (wi_iload_n _ rfl ?_)
              refine q0 I_6_119 (wi_bipush 59 rfl ?_)
              refine q0 I_6_121 (wi_ic_ne (fun h => ?_) (fun h => ?_))
              · replace H := H.1 h
                refine q1 (ls' := []) I_6_128 rfl (wi_iconst 0 rfl ?_)
                exact q1 (ls' := []) I_6_129 rfl (wi_zret T_6 (Or.inl C_6) (Or.inl rfl) ⟨_, rfl, H⟩)
              · replace H := H.2 h
                refine q1 (ls' := []) I_6_124 rfl (wi_iconst 1 rfl ?_)
                refine q0 I_6_125 (wi_goto ?_)
                exact q1 (ls' := []) I_6_129 rfl (wi_zret T_6 (Or.inl C_6) (Or.inr rfl) ⟨_, rfl, H⟩)
  · replace H := H.2 h
    refine q1 (ls' := []) I_6_15 rfl (wi_iconst 0 rfl ?_)
    exact q0 I_6_16 (wi_zret T_6 (Or.inl C_6) (Or.inl rfl) ⟨_, rfl, H⟩)
theorem r_7  {di : tDi} {dl : tDl} {K : Int32 → tDi → tDl → Prop} (H : (((di 3 2) = 0 → (K (((di 3 2) + 1) / 6) di dl)) ∧ (¬ (di 3 2) = 0 → ((¬ (((di 3 2) + 1) - ((di 3 2) + 1) / 6 * 6) = 0 → (K (-1) di dl)) ∧ ((((di 3 2) + 1) - ((di 3 2) + 1) / 6 * 6) = 0 → (K (((di 3 2) + 1) / 6) di dl)))))) : ClI 0 7 [.ref 3] di dl K := by
  refine Cl_of C_7 Z_7 [(0, .ref 3)] rfl ?_
  refine q0 I_7_0 (wi_aload_n _ rfl ?_)
  refine q0 I_7_1 (wi_getI S_3 rfl (by decide) rfl ?_)
  refine q0 I_7_4 (wi_if_eq (fun h => ?_) (fun h => ?_))
  · replace H := H.1 h
    refine q1 (ls' := [(0, .ref 3)]) I_7_19 rfl (wi_iconst 1 rfl ?_)
    refine q0 I_7_20 (wi_goto ?_)
    refine q1 (ls' := [(0, .ref 3)]) I_7_24 rfl (wi_istore_n [(0, .ref 3), (1, .int 1)] (lt_e X_7 rfl) rfl ?_)
    refine q0 I_7_25 (wi_iload_n _ rfl ?_)
    refine q0 I_7_26 (wi_ifF rfl ?_)
    refine q1 (ls' := [(0, .ref 3)]) I_7_29 rfl (wi_aload_n _ rfl ?_)
    refine q0 I_7_30 (wi_getI S_3 rfl (by decide) rfl ?_)
    refine q0 I_7_33 (wi_iconst 1 rfl ?_)
    refine q0 I_7_34 (wi_iadd ?_)
    refine q0 I_7_35 (wi_bipush 6 rfl ?_)
    refine q0 I_7_37 (wi_idiv (by decide) ?_)
    refine q0 I_7_38 (wi_goto ?_)
    exact q1 (ls' := []) I_7_42 rfl (wi_iret T_7 C_7 ⟨_, rfl, H⟩)
  · replace H := H.2 h
    refine q1 (ls' := [(0, .ref 3)]) I_7_7 rfl (wi_aload_n _ rfl ?_)
    refine q0 I_7_8 (wi_getI S_3 rfl (by decide) rfl ?_)
    refine q0 I_7_11 (wi_iconst 1 rfl ?_)
    refine q0 I_7_12 (wi_iadd ?_)
    refine q0 I_7_13 (wi_bipush 6 rfl ?_)
    refine q0 I_7_15 (wi_irem (by decide) ?_)
    refine q0 I_7_16 (wi_if_ne (fun h => ?_) (fun h => ?_))
    · replace H := H.1 h
      refine q1 (ls' := [(0, .ref 3)]) I_7_23 rfl (wi_iconst 0 rfl ?_)
      refine q1 (ls' := [(0, .ref 3)]) I_7_24 rfl (wi_istore_n [(0, .ref 3), (1, .int 0)] (lt_e X_7 rfl) rfl ?_)
      refine q0 I_7_25 (wi_iload_n _ rfl ?_)
      refine q0 I_7_26 (wi_ifT rfl ?_)
      refine q1 (ls' := []) I_7_41 rfl (wi_iconst (-1) rfl ?_)
      exact q1 (ls' := []) I_7_42 rfl (wi_iret T_7 C_7 ⟨_, rfl, H⟩)
    · replace H := H.2 h
      refine q1 (ls' := [(0, .ref 3)]) I_7_19 rfl (wi_iconst 1 rfl ?_)
      refine q0 I_7_20 (wi_goto ?_)
      refine q1 (ls' := [(0, .ref 3)]) I_7_24 rfl (wi_istore_n [(0, .ref 3), (1, .int 1)] (lt_e X_7 rfl) rfl ?_)
      refine q0 I_7_25 (wi_iload_n _ rfl ?_)
      refine q0 I_7_26 (wi_ifF rfl ?_)
      refine q1 (ls' := [(0, .ref 3)]) I_7_29 rfl (wi_aload_n _ rfl ?_)
      refine q0 I_7_30 (wi_getI S_3 rfl (by decide) rfl ?_)
      refine q0 I_7_33 (wi_iconst 1 rfl ?_)
      refine q0 I_7_34 (wi_iadd ?_)
      refine q0 I_7_35 (wi_bipush 6 rfl ?_)
      refine q0 I_7_37 (wi_idiv (by decide) ?_)
      refine q0 I_7_38 (wi_goto ?_)
      exact q1 (ls' := []) I_7_42 rfl (wi_iret T_7 C_7 ⟨_, rfl, H⟩)
theorem r_8 {a1 : Int32} {di : tDi} {dl : tDl} {K : Int32 → tDi → tDl → Prop} (H : (ClI 0 57 [.ref 3, .int (a1 * 6)] di dl (fun r1 di1 dl1 => (ClI 0 57 [.ref 3, .int ((a1 * 6) + 1)] di1 dl1 (fun r2 di2 dl2 => (K (((10 : Int32) * r1) + r2) di2 dl2)))))) : ClI 1 8 [.ref 3, .int a1] di dl K := by
  refine Cl_of C_8 Z_8 [(0, .ref 3), (1, .int a1)] rfl ?_
  refine q0 I_8_0 (wi_bipush 10 rfl ?_)
  refine q0 I_8_2 (wi_aload_n _ rfl ?_)
  refine q0 I_8_3 (wi_iload_n _ rfl ?_)
  refine q0 I_8_4 (wi_bipush 6 rfl ?_)
  refine q0 I_8_6 (wi_imul ?_)
  refine q0 I_8_7 (wi_virtI (e := 0) [.int (a1 * 6)] [.int 10] S_3 rfl (by decide) rfl rfl rfl (okC_i rfl rfl rfl) C_57 (by decide) (ClI_mono H ?_))
  intro r1 di1 dl1 H
  refine q0 I_8_10 (wi_imul ?_)
  refine q0 I_8_11 (wi_aload_n _ rfl ?_)
  refine q0 I_8_12 (wi_iload_n _ rfl ?_)
  refine q0 I_8_13 (wi_bipush 6 rfl ?_)
  refine q0 I_8_15 (wi_imul ?_)
  refine q0 I_8_16 (wi_iconst 1 rfl ?_)
  refine q0 I_8_17 (wi_iadd ?_)
  refine q0 I_8_18 (wi_virtI (e := 0) [.int ((a1 * 6) + 1)] [.int ((10 : Int32) * r1)] S_3 rfl (by decide) rfl rfl rfl (okC_i rfl rfl rfl) C_57 (by decide) (ClI_mono H ?_))
  intro r2 di2 dl2 H
  refine q0 I_8_21 (wi_iadd ?_)
  exact q0 I_8_22 (wi_iret T_8 C_8 ⟨_, rfl, H⟩)
theorem r_9 {a1 : Int32} {di : tDi} {dl : tDl} {K : Int32 → tDi → tDl → Prop} (H : (ClI 0 56 [.ref 3, .int ((a1 * 6) + 2)] di dl (fun r1 di1 dl1 => ((r1 = 108 → (K 1 di1 dl1)) ∧ (¬ r1 = 108 → ((r1 = 119 → (K 0 di1 dl1)) ∧ (¬ r1 = 119 → (K 2 di1 dl1)))))))) : ClI 1 9 [.ref 3, .int a1] di dl K := by
  refine Cl_of C_9 Z_9 [(0, .ref 3), (1, .int a1)] rfl ?_
  refine q0 I_9_0 (wi_aload_n _ rfl ?_)
  refine q0 I_9_1 (wi_iload_n _ rfl ?_)
  refine q0 I_9_2 (wi_bipush 6 rfl ?_)
  refine q0 I_9_4 (wi_imul ?_)
  refine q0 I_9_5 (wi_iconst 2 rfl ?_)
  refine q0 I_9_6 (wi_iadd ?_)
  refine q0 I_9_7 (wi_virtI (e := 0) [.int ((a1 * 6) + 2)] [] S_3 rfl (by decide) rfl rfl rfl (okC_i rfl rfl rfl) C_56 (by decide) (ClI_mono H ?_))
  intro r1 di1 dl1 H
  refine q0 I_9_10 (wi_lsw ?_)
  refine sw_cons 108 rfl ⟨fun h => ?_, fun h => ?_⟩
  · replace H := H.1 h
    refine q1 (ls' := []) I_9_38 rfl (wi_iconst 1 rfl ?_)
    exact q0 I_9_39 (wi_iret T_9 C_9 ⟨_, rfl, H⟩)
  · replace H := H.2 h
    refine sw_cons 119 rfl ⟨fun h => ?_, fun h => ?_⟩
    · replace H := H.1 h
      refine q1 (ls' := []) I_9_36 rfl (wi_iconst 0 rfl ?_)
      exact q0 I_9_37 (wi_iret T_9 C_9 ⟨_, rfl, H⟩)
    · replace H := H.2 h
      refine sw_nil ?_
      refine q1 (ls' := []) I_9_40 rfl (wi_iconst 2 rfl ?_)
      exact q0 I_9_41 (wi_iret T_9 C_9 ⟨_, rfl, H⟩)
theorem r_10 {a1 : Int32} {di : tDi} {dl : tDl} {K : Int32 → tDi → tDl → Prop} (H : (ClI 0 57 [.ref 3, .int ((a1 * 6) + 3)] di dl (fun r1 di1 dl1 => (K r1 di1 dl1)))) : ClI 1 10 [.ref 3, .int a1] di dl K := by
  refine Cl_of C_10 Z_10 [(0, .ref 3), (1, .int a1)] rfl ?_
  refine q0 I_10_0 (wi_aload_n _ rfl ?_)
  refine q0 I_10_1 (wi_iload_n _ rfl ?_)
  refine q0 I_10_2 (wi_bipush 6 rfl ?_)
  refine q0 I_10_4 (wi_imul ?_)
  refine q0 I_10_5 (wi_iconst 3 rfl ?_)
  refine q0 I_10_6 (wi_iadd ?_)
  refine q0 I_10_7 (wi_virtI (e := 0) [.int ((a1 * 6) + 3)] [] S_3 rfl (by decide) rfl rfl rfl (okC_i rfl rfl rfl) C_57 (by decide) (ClI_mono H ?_))
  intro r1 di1 dl1 H
  exact q0 I_10_10 (wi_iret T_10 C_10 ⟨_, rfl, H⟩)
theorem r_11 {a1 : Int32} {di : tDi} {dl : tDl} {K : Int32 → tDi → tDl → Prop} (H : (ClI 0 57 [.ref 3, .int ((a1 * 6) + 4)] di dl (fun r1 di1 dl1 => (K r1 di1 dl1)))) : ClI 1 11 [.ref 3, .int a1] di dl K := by
  refine Cl_of C_11 Z_11 [(0, .ref 3), (1, .int a1)] rfl ?_
  refine q0 I_11_0 (wi_aload_n _ rfl ?_)
  refine q0 I_11_1 (wi_iload_n _ rfl ?_)
  refine q0 I_11_2 (wi_bipush 6 rfl ?_)
  refine q0 I_11_4 (wi_imul ?_)
  refine q0 I_11_5 (wi_iconst 4 rfl ?_)
  refine q0 I_11_6 (wi_iadd ?_)
  refine q0 I_11_7 (wi_virtI (e := 0) [.int ((a1 * 6) + 4)] [] S_3 rfl (by decide) rfl rfl rfl (okC_i rfl rfl rfl) C_57 (by decide) (ClI_mono H ?_))
  intro r1 di1 dl1 H
  exact q0 I_11_10 (wi_iret T_11 C_11 ⟨_, rfl, H⟩)
theorem r_13  {di : tDi} {dl : tDl} {K : Int32 → tDi → tDl → Prop} (H : (K (di 146 0) di dl)) : ClI 0 13 [.ref 144] di dl K := by
  refine Cl_of C_13 Z_13 [(0, .ref 144)] rfl ?_
  refine q0 I_13_0 (wi_aload_n _ rfl ?_)
  refine q0 I_13_1 (wi_get (.ref 145) S_144 rfl (by decide) rfl ?_)
  refine q0 I_13_4 (wi_iconst 0 rfl ?_)
  refine q0 I_13_5 (wi_aaload (e := 2) 146 S_145 rfl (by decide) rfl ?_)
  refine q0 I_13_6 (wi_iconst 0 rfl ?_)
  refine q0 I_13_7 (wi_iaload 0 (rfl : S0[146]? = some (.inr (0, 256, []))) rfl rfl ?_)
  exact q0 I_13_8 (wi_iret T_13 C_13 ⟨_, rfl, H⟩)
theorem r_14 {a1 : Int32} {di : tDi} {dl : tDl} {K : Int32 → tDi → tDl → Prop} (H : ((a1 < 0 → (K (-1) di dl)) ∧ (0 ≤ a1 → ((8 ≤ a1 → (K (-1) di dl)) ∧ (a1 < 8 → (inB a1 8 = true ∧ (K (di 155 (a1.toNatClampNeg)) di dl))))))) : ClI 0 14 [.ref 144, .int a1] di dl K := by
  refine Cl_of C_14 Z_14 [(0, .ref 144), (1, .int a1)] rfl ?_
  refine q0 I_14_0 (wi_iload_n _ rfl ?_)
  refine q0 I_14_1 (wi_if_lt (fun h => ?_) (fun h => ?_))
  · replace H := H.1 h
    refine q1 (ls' := []) I_14_19 rfl (wi_iconst (-1) rfl ?_)
    exact q1 (ls' := []) I_14_20 rfl (wi_iret T_14 C_14 ⟨_, rfl, H⟩)
  · replace H := H.2 h
    refine q1 (ls' := [(0, .ref 144), (1, .int a1)]) I_14_4 rfl (wi_iload_n _ rfl ?_)
    refine q0 I_14_5 (wi_bipush 8 rfl ?_)
    refine q0 I_14_7 (wi_ic_ge (fun h => ?_) (fun h => ?_))
    · replace H := H.1 h
      refine q1 (ls' := []) I_14_19 rfl (wi_iconst (-1) rfl ?_)
      exact q1 (ls' := []) I_14_20 rfl (wi_iret T_14 C_14 ⟨_, rfl, H⟩)
    · replace H := H.2 h
      refine q1 (ls' := [(0, .ref 144), (1, .int a1)]) I_14_10 rfl (wi_aload_n _ rfl ?_)
      refine q0 I_14_11 (wi_get (.ref 155) S_144 rfl (by decide) rfl ?_)
      refine q0 I_14_14 (wi_iload_n _ rfl ?_)
      have hb1 := H.1
      replace H := H.2
      refine q0 I_14_15 (wi_iaload (a1.toNatClampNeg) S_155 hb1 rfl ?_)
      refine q0 I_14_16 (wi_goto ?_)
      exact q1 (ls' := []) I_14_20 rfl (wi_iret T_14 C_14 ⟨_, rfl, H⟩)
theorem r_15 {a1 : Int32} {di : tDi} {dl : tDl} {K : tDi → tDl → Prop} (H : (Wq none 2 15 3 [(0, .ref 144), (1, .int a1), (2, .int 7)] [] di dl (RV K))) : ClV 2 15 [.ref 144, .int a1] di dl K := by
  refine Cl_of C_15 Z_15 [(0, .ref 144), (1, .int a1)] rfl ?_
  refine q0 I_15_0 (wi_bipush 7 rfl ?_)
  refine q0 I_15_2 (wi_istore_n [(0, .ref 144), (1, .int a1), (2, .int 7)] (lt_e X_15 rfl) rfl ?_)
  exact Wq_c I_15_3 rfl rfl H
theorem r_15_3 {x1 : Int32} {x2 : Int32} {di : tDi} {dl : tDl} {K : tDi → tDl → Prop} (H : ((x2 < 0 → (Wq none 2 15 31 [(0, .ref 144), (1, .int x1), (2, .int 0), (3, .int 0)] [] di dl (RV K))) ∧ (0 ≤ x2 → (ClI 1 69 [.ref 8, .int x1, .int x2] di dl (fun r21 di21 dl21 => (ClV 0 16 [.ref 144, .int x2, .int r21] di21 dl21 (fun di22 dl22 => (Wq none 2 15 3 [(0, .ref 144), (1, .int x1), (2, .int (x2 + (-1)))] [] di22 dl22 (RV K))))))))) : Wq none 2 15 3 [(0, .ref 144), (1, .int x1), (2, .int x2)] [] di dl (RV K) := by
  refine q1 (ls' := [(0, .ref 144), (1, .int x1), (2, .int x2)]) I_15_3 rfl (wi_iload_n _ rfl ?_)
  refine q0 I_15_4 (wi_if_lt (fun h => ?_) (fun h => ?_))
  · replace H := H.1 h
    refine q1 (ls' := [(0, .ref 144), (1, .int x1)]) I_15_27 rfl (wi_iconst 0 rfl ?_)
    refine q0 I_15_28 (wi_istore_n [(0, .ref 144), (1, .int x1), (2, .int 0)] (lt_e X_15 rfl) rfl ?_)
    refine q0 I_15_29 (wi_iconst 0 rfl ?_)
    refine q0 I_15_30 (wi_istore_n [(0, .ref 144), (1, .int x1), (2, .int 0), (3, .int 0)] (lt_e X_15 rfl) rfl ?_)
    exact Wq_c I_15_31 rfl rfl H
  · replace H := H.2 h
    refine q1 (ls' := [(0, .ref 144), (1, .int x1), (2, .int x2)]) I_15_7 rfl (wi_aload_n _ rfl ?_)
    refine q0 I_15_8 (wi_iload_n _ rfl ?_)
    refine q0 I_15_9 (wi_aload_n _ rfl ?_)
    refine q0 I_15_10 (wi_get (.ref 8) S_144 rfl (by decide) rfl ?_)
    refine q0 I_15_13 (wi_iload_n _ rfl ?_)
    refine q0 I_15_14 (wi_iload_n _ rfl ?_)
    refine q0 I_15_15 (wi_virtI (e := 1) [.int x1, .int x2] [.int x2, .ref 144] S_8 rfl (by decide) rfl rfl rfl (okC_i rfl rfl rfl) C_69 (by decide) (ClI_mono H ?_))
    intro r21 di21 dl21 H
    refine q0 I_15_18 (wi_virtV (e := 0) [.int x2, .int r21] [] S_144 rfl (by decide) rfl rfl rfl (okC_i rfl rfl rfl) C_16 (by decide) (ClV_mono H ?_))
    intro di22 dl22 H
    refine q0 I_15_21 (wi_iinc (-1) [(0, .ref 144), (1, .int x1), (2, .int (x2 + (-1)))] rfl (lt_e X_15 rfl) rfl rfl ?_)
    refine q0 I_15_24 (wi_goto ?_)
    exact Wq_c I_15_3 rfl rfl H
theorem r_15_31 {x1 : Int32} {x2 : Int32} {x3 : Int32} {di : tDi} {dl : tDl} {K : tDi → tDl → Prop} (H : ((8 ≤ x3 → (K di dl)) ∧ (x3 < 8 → (ClI 1 69 [.ref 8, .int x1, .int x3] di dl (fun r21 di21 dl21 => (ClI 0 17 [.ref 144, .int x3, .int r21, .int x2] di21 dl21 (fun r22 di22 dl22 => (inB x3 8 = true ∧ ((¬ ((up2 di22 155 (x3.toNatClampNeg) r22) 155 (x3.toNatClampNeg)) = (-1) → (Wq none 2 15 31 [(0, .ref 144), (1, .int x1), (2, .int (x2 ||| ((1 : Int32) <<< (((up2 di22 155 (x3.toNatClampNeg) r22) 155 (x3.toNatClampNeg)) &&& 31)))), (3, .int (x3 + 1))] [] (up2 di22 155 (x3.toNatClampNeg) r22) dl22 (RV K))) ∧ (((up2 di22 155 (x3.toNatClampNeg) r22) 155 (x3.toNatClampNeg)) = (-1) → (Wq none 2 15 31 [(0, .ref 144), (1, .int x1), (2, .int (x2 ||| 0)), (3, .int (x3 + 1))] [] (up2 di22 155 (x3.toNatClampNeg) r22) dl22 (RV K)))))))))))) : Wq none 2 15 31 [(0, .ref 144), (1, .int x1), (2, .int x2), (3, .int x3)] [] di dl (RV K) := by
  refine q1 (ls' := [(0, .ref 144), (1, .int x1), (2, .int x2), (3, .int x3)]) I_15_31 rfl (wi_iload_n _ rfl ?_)
  refine q0 I_15_32 (wi_bipush 8 rfl ?_)
  refine q0 I_15_34 (wi_ic_ge (fun h => ?_) (fun h => ?_))
  · replace H := H.1 h
    exact q1 (ls' := []) I_15_89 rfl (wi_ret T_15 C_15 ⟨rfl, H⟩)
  · replace H := H.2 h
    refine q1 (ls' := [(0, .ref 144), (1, .int x1), (2, .int x2), (3, .int x3)]) I_15_37 rfl (wi_aload_n _ rfl ?_)
    refine q0 I_15_38 (wi_get (.ref 155) S_144 rfl (by decide) rfl ?_)
    refine q0 I_15_41 (wi_iload_n _ rfl ?_)
    refine q0 I_15_42 (wi_aload_n _ rfl ?_)
    refine q0 I_15_43 (wi_iload_n _ rfl ?_)
    refine q0 I_15_44 (wi_aload_n _ rfl ?_)
    refine q0 I_15_45 (wi_get (.ref 8) S_144 rfl (by decide) rfl ?_)
    refine q0 I_15_48 (wi_iload_n _ rfl ?_)
    refine q0 I_15_49 (wi_iload_n _ rfl ?_)
    refine q0 I_15_50 (wi_virtI (e := 1) [.int x1, .int x3] [.int x3, .ref 144, .int x3, .ref 155] S_8 rfl (by decide) rfl rfl rfl (okC_i rfl rfl rfl) C_69 (by decide) (ClI_mono H ?_))
    intro r21 di21 dl21 H
    refine q0 I_15_53 (wi_iload_n _ rfl ?_)
    refine q0 I_15_54 (wi_virtI (e := 0) [.int x3, .int r21, .int x2] [.int x3, .ref 155] S_144 rfl (by decide) rfl rfl rfl (okC_i rfl rfl rfl) C_17 (by decide) (ClI_mono H ?_))
    intro r22 di22 dl22 H
    have hb23 := H.1
    replace H := H.2
    refine q0 I_15_57 (wi_iastore (x3.toNatClampNeg) S_155 hb23 rfl ?_)
    refine q0 I_15_58 (wi_iload_n _ rfl ?_)
    refine q0 I_15_59 (wi_aload_n _ rfl ?_)
    refine q0 I_15_60 (wi_get (.ref 155) S_144 rfl (by decide) rfl ?_)
    refine q0 I_15_63 (wi_iload_n _ rfl ?_)
    refine q0 I_15_64 (wi_iaload (x3.toNatClampNeg) S_155 hb23 rfl ?_)
    refine q0 I_15_65 (wi_iconst (-1) rfl ?_)
    refine q0 I_15_66 (wi_ic_ne (fun h => ?_) (fun h => ?_))
    · replace H := H.1 h
      refine q1 (ls' := [(0, .ref 144), (1, .int x1), (3, .int x3)]) I_15_73 rfl (wi_iconst 1 rfl ?_)
      refine q0 I_15_74 (wi_aload_n _ rfl ?_)
      refine q0 I_15_75 (wi_get (.ref 155) S_144 rfl (by decide) rfl ?_)
      refine q0 I_15_78 (wi_iload_n _ rfl ?_)
      refine q0 I_15_79 (wi_iaload (x3.toNatClampNeg) S_155 hb23 rfl ?_)
      refine q0 I_15_80 (wi_ishl ?_)
      refine q1 (ls' := [(0, .ref 144), (1, .int x1), (3, .int x3)]) I_15_81 rfl (wi_ior ?_)
      refine q0 I_15_82 (wi_istore_n [(0, .ref 144), (1, .int x1), (2, .int (x2 ||| ((1 : Int32) <<< (((up2 di22 155 (x3.toNatClampNeg) r22) 155 (x3.toNatClampNeg)) &&& 31)))), (3, .int x3)] (lt_e X_15 rfl) rfl ?_)
      refine q0 I_15_83 (wi_iinc 1 [(0, .ref 144), (1, .int x1), (2, .int (x2 ||| ((1 : Int32) <<< (((up2 di22 155 (x3.toNatClampNeg) r22) 155 (x3.toNatClampNeg)) &&& 31)))), (3, .int (x3 + 1))] rfl (lt_e X_15 rfl) rfl rfl ?_)
      refine q0 I_15_86 (wi_goto ?_)
      exact Wq_c I_15_31 rfl rfl H
    · replace H := H.2 h
      refine q1 (ls' := [(0, .ref 144), (1, .int x1), (3, .int x3)]) I_15_69 rfl (wi_iconst 0 rfl ?_)
      refine q0 I_15_70 (wi_goto ?_)
      refine q1 (ls' := [(0, .ref 144), (1, .int x1), (3, .int x3)]) I_15_81 rfl (wi_ior ?_)
      refine q0 I_15_82 (wi_istore_n [(0, .ref 144), (1, .int x1), (2, .int (x2 ||| 0)), (3, .int x3)] (lt_e X_15 rfl) rfl ?_)
      refine q0 I_15_83 (wi_iinc 1 [(0, .ref 144), (1, .int x1), (2, .int (x2 ||| 0)), (3, .int (x3 + 1))] rfl (lt_e X_15 rfl) rfl rfl ?_)
      refine q0 I_15_86 (wi_goto ?_)
      exact Wq_c I_15_31 rfl rfl H
theorem r_16 {a1 : Int32} {a2 : Int32} {di : tDi} {dl : tDl} {K : tDi → tDl → Prop} (H : ((a1 < 0 → (K di dl)) ∧ (0 ≤ a1 → ((a1 < 8 → (inB a1 9 = true ∧ (inB (a1 + 1) 9 = true ∧ (Wq none 0 16 31 [(0, .ref 144), (2, .int a2), (3, .ref (146 + a1.toNatClampNeg)), (4, .ref (146 + (a1 + 1).toNatClampNeg)), (5, .int 0)] [] di dl (RV K))))) ∧ (8 ≤ a1 → (K di dl)))))) : ClV 0 16 [.ref 144, .int a1, .int a2] di dl K := by
  refine Cl_of C_16 Z_16 [(0, .ref 144), (1, .int a1), (2, .int a2)] rfl ?_
  refine q0 I_16_0 (wi_iload_n _ rfl ?_)
  refine q0 I_16_1 (wi_if_lt (fun h => ?_) (fun h => ?_))
  · replace H := H.1 h
    exact q1 (ls' := []) I_16_10 rfl (wi_ret T_16 C_16 ⟨rfl, H⟩)
  · replace H := H.2 h
    refine q1 (ls' := [(0, .ref 144), (1, .int a1), (2, .int a2)]) I_16_4 rfl (wi_iload_n _ rfl ?_)
    refine q0 I_16_5 (wi_bipush 8 rfl ?_)
    refine q0 I_16_7 (wi_ic_lt (fun h => ?_) (fun h => ?_))
    · replace H := H.1 h
      refine q1 (ls' := [(0, .ref 144), (1, .int a1), (2, .int a2)]) I_16_11 rfl (wi_aload_n _ rfl ?_)
      refine q0 I_16_12 (wi_get (.ref 145) S_144 rfl (by decide) rfl ?_)
      refine q0 I_16_15 (wi_iload_n _ rfl ?_)
      have hb1 := H.1
      replace H := H.2
      refine q0 I_16_16 (wi_aaload (e := 2) (146 + a1.toNatClampNeg) S_145 hb1 (by decide) (K_145 hb1) ?_)
      refine q0 I_16_17 (wi_astore_n [(0, .ref 144), (1, .int a1), (2, .int a2), (3, .ref (146 + a1.toNatClampNeg))] (lt_e X_16 rfl) rfl ?_)
      refine q0 I_16_18 (wi_aload_n _ rfl ?_)
      refine q0 I_16_19 (wi_get (.ref 145) S_144 rfl (by decide) rfl ?_)
      refine q0 I_16_22 (wi_iload_n _ rfl ?_)
      refine q0 I_16_23 (wi_iconst 1 rfl ?_)
      refine q0 I_16_24 (wi_iadd ?_)
      have hb2 := H.1
      replace H := H.2
      refine q0 I_16_25 (wi_aaload (e := 2) (146 + (a1 + 1).toNatClampNeg) S_145 hb2 (by decide) (K_145 hb2) ?_)
      refine q0 I_16_26 (wi_astore [(0, .ref 144), (1, .int a1), (2, .int a2), (3, .ref (146 + a1.toNatClampNeg)), (4, .ref (146 + (a1 + 1).toNatClampNeg))] (lt_e X_16 rfl) rfl ?_)
      refine q0 I_16_28 (wi_iconst 0 rfl ?_)
      refine q0 I_16_29 (wi_istore [(0, .ref 144), (1, .int a1), (2, .int a2), (3, .ref (146 + a1.toNatClampNeg)), (4, .ref (146 + (a1 + 1).toNatClampNeg)), (5, .int 0)] (lt_e X_16 rfl) rfl ?_)
      exact Wq_c I_16_31 rfl rfl H
    · replace H := H.2 h
      exact q1 (ls' := []) I_16_10 rfl (wi_ret T_16 C_16 ⟨rfl, H⟩)
theorem r_16_31 {p3 : Nat} (hp3 : S0[p3]? = some (.inr (0, 256, []))) {p4 : Nat} (hp4 : S0[p4]? = some (.inr (0, 256, []))) {x2 : Int32} {x5 : Int32} {di : tDi} {dl : tDl} {K : tDi → tDl → Prop} (H : ((((1 : Int32) <<< ((di 3 4) &&& 31)) ≤ x5 → (K di dl)) ∧ (x5 < ((1 : Int32) <<< ((di 3 4) &&& 31)) → ((256 ≤ x5 → (K di dl)) ∧ (x5 < 256 → (inB x5 256 = true ∧ (Wq none 0 16 71 [(0, .ref 144), (2, .int x2), (3, .ref p3), (4, .ref p4), (5, .int x5), (6, .int (di p4 (x5.toNatClampNeg))), (7, .int (x2 &&& (x5 ^^^ (-1)))), (8, .int 0)] [] di dl (RV K)))))))) : Wq none 0 16 31 [(0, .ref 144), (2, .int x2), (3, .ref p3), (4, .ref p4), (5, .int x5)] [] di dl (RV K) := by
  refine q1 (ls' := [(0, .ref 144), (2, .int x2), (3, .ref p3), (4, .ref p4), (5, .int x5)]) I_16_31 rfl (wi_iload _ rfl ?_)
  refine q0 I_16_33 (wi_iconst 1 rfl ?_)
  refine q0 I_16_34 (wi_aload_n _ rfl ?_)
  refine q0 I_16_35 (wi_get (.ref 3) S_144 rfl (by decide) rfl ?_)
  refine q0 I_16_38 (wi_getI S_3 rfl (by decide) rfl ?_)
  refine q0 I_16_41 (wi_ishl ?_)
  refine q0 I_16_42 (wi_ic_ge (fun h => ?_) (fun h => ?_))
  · replace H := H.1 h
    exact q1 (ls' := []) I_16_137 rfl (wi_ret T_16 C_16 ⟨rfl, H⟩)
  · replace H := H.2 h
    refine q1 (ls' := [(0, .ref 144), (2, .int x2), (3, .ref p3), (4, .ref p4), (5, .int x5)]) I_16_45 rfl (wi_iload _ rfl ?_)
    refine q0 I_16_47 (wi_sipush 256 rfl ?_)
    refine q0 I_16_50 (wi_ic_ge (fun h => ?_) (fun h => ?_))
    · replace H := H.1 h
      exact q1 (ls' := []) I_16_137 rfl (wi_ret T_16 C_16 ⟨rfl, H⟩)
    · replace H := H.2 h
      refine q1 (ls' := [(0, .ref 144), (2, .int x2), (3, .ref p3), (4, .ref p4), (5, .int x5)]) I_16_53 rfl (wi_aload _ rfl ?_)
      refine q0 I_16_55 (wi_iload _ rfl ?_)
      have hb21 := H.1
      replace H := H.2
      refine q0 I_16_57 (wi_iaload (x5.toNatClampNeg) hp4 hb21 rfl ?_)
      refine q0 I_16_58 (wi_istore [(0, .ref 144), (2, .int x2), (3, .ref p3), (4, .ref p4), (5, .int x5), (6, .int (di p4 (x5.toNatClampNeg)))] (lt_e X_16 rfl) rfl ?_)
      refine q0 I_16_60 (wi_iload_n _ rfl ?_)
      refine q0 I_16_61 (wi_iload _ rfl ?_)
      refine q0 I_16_63 (wi_iconst (-1) rfl ?_)
      refine q0 I_16_64 (wi_ixor ?_)
      refine q0 I_16_65 (wi_iand ?_)
      refine q0 I_16_66 (wi_istore [(0, .ref 144), (2, .int x2), (3, .ref p3), (4, .ref p4), (5, .int x5), (6, .int (di p4 (x5.toNatClampNeg))), (7, .int (x2 &&& (x5 ^^^ (-1))))] (lt_e X_16 rfl) rfl ?_)
      refine q0 I_16_68 (wi_iconst 0 rfl ?_)
      refine q0 I_16_69 (wi_istore [(0, .ref 144), (2, .int x2), (3, .ref p3), (4, .ref p4), (5, .int x5), (6, .int (di p4 (x5.toNatClampNeg))), (7, .int (x2 &&& (x5 ^^^ (-1)))), (8, .int 0)] (lt_e X_16 rfl) rfl ?_)
      exact Wq_c I_16_71 rfl rfl H
theorem r_16_71 {p3 : Nat} (hp3 : S0[p3]? = some (.inr (0, 256, []))) {p4 : Nat} (hp4 : S0[p4]? = some (.inr (0, 256, []))) {x2 : Int32} {x5 : Int32} {x6 : Int32} {x7 : Int32} {x8 : Int32} {di : tDi} {dl : tDl} {K : tDi → tDl → Prop} (H : ((8 ≤ x8 → (inB x5 256 = true ∧ (Wq none 0 16 31 [(0, .ref 144), (2, .int x2), (3, .ref p3), (4, .ref p4), (5, .int (x5 + 1))] [] (up2 di p3 (x5.toNatClampNeg) x6) dl (RV K)))) ∧ (x8 < 8 → (((x7 >>> (x8 &&& 31)) = 0 → (inB x5 256 = true ∧ (Wq none 0 16 31 [(0, .ref 144), (2, .int x2), (3, .ref p3), (4, .ref p4), (5, .int (x5 + 1))] [] (up2 di p3 (x5.toNatClampNeg) x6) dl (RV K)))) ∧ (¬ (x7 >>> (x8 &&& 31)) = 0 → ((((x7 >>> (x8 &&& 31)) &&& 1) = 0 → (Wq none 0 16 71 [(0, .ref 144), (2, .int x2), (3, .ref p3), (4, .ref p4), (5, .int x5), (6, .int x6), (7, .int x7), (8, .int (x8 + 1))] [] di dl (RV K))) ∧ (¬ ((x7 >>> (x8 &&& 31)) &&& 1) = 0 → (inB ((x5 ||| ((1 : Int32) <<< (x8 &&& 31))) &&& 255) 256 = true ∧ (Wq none 0 16 71 [(0, .ref 144), (2, .int x2), (3, .ref p3), (4, .ref p4), (5, .int x5), (6, .int (imax x6 ((1 : Int32) + (di p4 (((x5 ||| ((1 : Int32) <<< (x8 &&& 31))) &&& 255).toNatClampNeg))))), (7, .int x7), (8, .int (x8 + 1))] [] di dl (RV K)))))))))) : Wq none 0 16 71 [(0, .ref 144), (2, .int x2), (3, .ref p3), (4, .ref p4), (5, .int x5), (6, .int x6), (7, .int x7), (8, .int x8)] [] di dl (RV K) := by
  refine q1 (ls' := [(0, .ref 144), (2, .int x2), (3, .ref p3), (4, .ref p4), (5, .int x5), (6, .int x6), (7, .int x7), (8, .int x8)]) I_16_71 rfl (wi_iload _ rfl ?_)
  refine q0 I_16_73 (wi_bipush 8 rfl ?_)
  refine q0 I_16_75 (wi_ic_ge (fun h => ?_) (fun h => ?_))
  · replace H := H.1 h
    refine q1 (ls' := [(0, .ref 144), (2, .int x2), (3, .ref p3), (4, .ref p4), (5, .int x5), (6, .int x6)]) I_16_125 rfl (wi_aload_n _ rfl ?_)
    refine q0 I_16_126 (wi_iload _ rfl ?_)
    refine q0 I_16_128 (wi_iload _ rfl ?_)
    have hb21 := H.1
    replace H := H.2
    refine q0 I_16_130 (wi_iastore (x5.toNatClampNeg) hp3 hb21 rfl ?_)
    refine q0 I_16_131 (wi_iinc 1 [(0, .ref 144), (2, .int x2), (3, .ref p3), (4, .ref p4), (5, .int (x5 + 1)), (6, .int x6)] rfl (lt_e X_16 rfl) rfl rfl ?_)
    refine q0 I_16_134 (wi_goto ?_)
    exact Wq_c I_16_31 rfl rfl H
  · replace H := H.2 h
    refine q1 (ls' := [(0, .ref 144), (2, .int x2), (3, .ref p3), (4, .ref p4), (5, .int x5), (6, .int x6), (7, .int x7), (8, .int x8)]) I_16_78 rfl (wi_iload _ rfl ?_)
    refine q0 I_16_80 (wi_iload _ rfl ?_)
    refine q0 I_16_82 (wi_ishr ?_)
    refine q0 I_16_83 (wi_if_eq (fun h => ?_) (fun h => ?_))
    · replace H := H.1 h
      refine q1 (ls' := [(0, .ref 144), (2, .int x2), (3, .ref p3), (4, .ref p4), (5, .int x5), (6, .int x6)]) I_16_125 rfl (wi_aload_n _ rfl ?_)
      refine q0 I_16_126 (wi_iload _ rfl ?_)
      refine q0 I_16_128 (wi_iload _ rfl ?_)
      have hb22 := H.1
      replace H := H.2
      refine q0 I_16_130 (wi_iastore (x5.toNatClampNeg) hp3 hb22 rfl ?_)
      refine q0 I_16_131 (wi_iinc 1 [(0, .ref 144), (2, .int x2), (3, .ref p3), (4, .ref p4), (5, .int (x5 + 1)), (6, .int x6)] rfl (lt_e X_16 rfl) rfl rfl ?_)
      refine q0 I_16_134 (wi_goto ?_)
      exact Wq_c I_16_31 rfl rfl H
    · replace H := H.2 h
      refine q1 (ls' := [(0, .ref 144), (2, .int x2), (3, .ref p3), (4, .ref p4), (5, .int x5), (6, .int x6), (7, .int x7), (8, .int x8)]) I_16_86 rfl (wi_iload _ rfl ?_)
      refine q0 I_16_88 (wi_iload _ rfl ?_)
      refine q0 I_16_90 (wi_ishr ?_)
      refine q0 I_16_91 (wi_iconst 1 rfl ?_)
      refine q0 I_16_92 (wi_iand ?_)
      refine q0 I_16_93 (wi_if_eq (fun h => ?_) (fun h => ?_))
      · replace H := H.1 h
        refine q1 (ls' := [(0, .ref 144), (2, .int x2), (3, .ref p3), (4, .ref p4), (5, .int x5), (6, .int x6), (7, .int x7), (8, .int x8)]) I_16_119 rfl (wi_iinc 1 [(0, .ref 144), (2, .int x2), (3, .ref p3), (4, .ref p4), (5, .int x5), (6, .int x6), (7, .int x7), (8, .int (x8 + 1))] rfl (lt_e X_16 rfl) rfl rfl ?_)
        refine q0 I_16_122 (wi_goto ?_)
        exact Wq_c I_16_71 rfl rfl H
      · replace H := H.2 h
        refine q1 (ls' := [(0, .ref 144), (2, .int x2), (3, .ref p3), (4, .ref p4), (5, .int x5), (6, .int x6), (7, .int x7), (8, .int x8)]) I_16_96 rfl (wi_iload _ rfl ?_)
        refine q0 I_16_98 (wi_iconst 1 rfl ?_)
        refine q0 I_16_99 (wi_aload _ rfl ?_)
        refine q0 I_16_101 (wi_iload _ rfl ?_)
        refine q0 I_16_103 (wi_iconst 1 rfl ?_)
        refine q0 I_16_104 (wi_iload _ rfl ?_)
        refine q0 I_16_106 (wi_ishl ?_)
        refine q0 I_16_107 (wi_ior ?_)
        refine q0 I_16_108 (wi_sipush 255 rfl ?_)
        refine q0 I_16_111 (wi_iand ?_)
        have hb23 := H.1
        replace H := H.2
        refine q0 I_16_112 (wi_iaload (((x5 ||| ((1 : Int32) <<< (x8 &&& 31))) &&& 255).toNatClampNeg) hp4 hb23 rfl ?_)
        refine q0 I_16_113 (wi_iadd ?_)
        refine q0 I_16_114 (wi_max rfl (Nat.le_of_ble_eq_true rfl) ?_)
        refine q0 I_16_117 (wi_istore [(0, .ref 144), (2, .int x2), (3, .ref p3), (4, .ref p4), (5, .int x5), (6, .int (imax x6 ((1 : Int32) + (di p4 (((x5 ||| ((1 : Int32) <<< (x8 &&& 31))) &&& 255).toNatClampNeg))))), (7, .int x7), (8, .int x8)] (lt_e X_16 rfl) rfl ?_)
        refine q1 (ls' := [(0, .ref 144), (2, .int x2), (3, .ref p3), (4, .ref p4), (5, .int x5), (6, .int (imax x6 ((1 : Int32) + (di p4 (((x5 ||| ((1 : Int32) <<< (x8 &&& 31))) &&& 255).toNatClampNeg))))), (7, .int x7), (8, .int x8)]) I_16_119 rfl (wi_iinc 1 [(0, .ref 144), (2, .int x2), (3, .ref p3), (4, .ref p4), (5, .int x5), (6, .int (imax x6 ((1 : Int32) + (di p4 (((x5 ||| ((1 : Int32) <<< (x8 &&& 31))) &&& 255).toNatClampNeg))))), (7, .int x7), (8, .int (x8 + 1))] rfl (lt_e X_16 rfl) rfl rfl ?_)
        refine q0 I_16_122 (wi_goto ?_)
        exact Wq_c I_16_71 rfl rfl H
theorem r_17 {a1 : Int32} {a2 : Int32} {a3 : Int32} {di : tDi} {dl : tDl} {K : Int32 → tDi → tDl → Prop} (H : ((a1 < 0 → (K (-1) di dl)) ∧ (0 ≤ a1 → ((8 ≤ a1 → (K (-1) di dl)) ∧ (a1 < 8 → ((a3 < 0 → (K (-1) di dl)) ∧ (0 ≤ a3 → ((a3 < 256 → (inB a1 9 = true ∧ (inB a3 256 = true ∧ (Wq none 0 17 43 [(0, .ref 144), (1, .int a1), (3, .int a3), (4, .int (di (146 + a1.toNatClampNeg) (a3.toNatClampNeg))), (5, .int (a2 &&& (a3 ^^^ (-1)))), (6, .int 0)] [] di dl (RI K))))) ∧ (256 ≤ a3 → (K (-1) di dl)))))))))) : ClI 0 17 [.ref 144, .int a1, .int a2, .int a3] di dl K := by
  refine Cl_of C_17 Z_17 [(0, .ref 144), (1, .int a1), (2, .int a2), (3, .int a3)] rfl ?_
  refine q0 I_17_0 (wi_iload_n _ rfl ?_)
  refine q0 I_17_1 (wi_if_lt (fun h => ?_) (fun h => ?_))
  · replace H := H.1 h
    refine q1 (ls' := []) I_17_21 rfl (wi_iconst (-1) rfl ?_)
    exact q0 I_17_22 (wi_iret T_17 C_17 ⟨_, rfl, H⟩)
  · replace H := H.2 h
    refine q1 (ls' := [(0, .ref 144), (1, .int a1), (2, .int a2), (3, .int a3)]) I_17_4 rfl (wi_iload_n _ rfl ?_)
    refine q0 I_17_5 (wi_bipush 8 rfl ?_)
    refine q0 I_17_7 (wi_ic_ge (fun h => ?_) (fun h => ?_))
    · replace H := H.1 h
      refine q1 (ls' := []) I_17_21 rfl (wi_iconst (-1) rfl ?_)
      exact q0 I_17_22 (wi_iret T_17 C_17 ⟨_, rfl, H⟩)
    · replace H := H.2 h
      refine q1 (ls' := [(0, .ref 144), (1, .int a1), (2, .int a2), (3, .int a3)]) I_17_10 rfl (wi_iload_n _ rfl ?_)
      refine q0 I_17_11 (wi_if_lt (fun h => ?_) (fun h => ?_))
      · replace H := H.1 h
        refine q1 (ls' := []) I_17_21 rfl (wi_iconst (-1) rfl ?_)
        exact q0 I_17_22 (wi_iret T_17 C_17 ⟨_, rfl, H⟩)
      · replace H := H.2 h
        refine q1 (ls' := [(0, .ref 144), (1, .int a1), (2, .int a2), (3, .int a3)]) I_17_14 rfl (wi_iload_n _ rfl ?_)
        refine q0 I_17_15 (wi_sipush 256 rfl ?_)
        refine q0 I_17_18 (wi_ic_lt (fun h => ?_) (fun h => ?_))
        · replace H := H.1 h
          refine q1 (ls' := [(0, .ref 144), (1, .int a1), (2, .int a2), (3, .int a3)]) I_17_23 rfl (wi_aload_n _ rfl ?_)
          refine q0 I_17_24 (wi_get (.ref 145) S_144 rfl (by decide) rfl ?_)
          refine q0 I_17_27 (wi_iload_n _ rfl ?_)
          have hb1 := H.1
          replace H := H.2
          refine q0 I_17_28 (wi_aaload (e := 2) (146 + a1.toNatClampNeg) S_145 hb1 (by decide) (K_145 hb1) ?_)
          refine q0 I_17_29 (wi_iload_n _ rfl ?_)
          have hb2 := H.1
          replace H := H.2
          refine q0 I_17_30 (wi_iaload (a3.toNatClampNeg) (G_145 hb1) hb2 rfl ?_)
          refine q0 I_17_31 (wi_istore [(0, .ref 144), (1, .int a1), (2, .int a2), (3, .int a3), (4, .int (di (146 + a1.toNatClampNeg) (a3.toNatClampNeg)))] (lt_e X_17 rfl) rfl ?_)
          refine q0 I_17_33 (wi_iload_n _ rfl ?_)
          refine q0 I_17_34 (wi_iload_n _ rfl ?_)
          refine q0 I_17_35 (wi_iconst (-1) rfl ?_)
          refine q0 I_17_36 (wi_ixor ?_)
          refine q0 I_17_37 (wi_iand ?_)
          refine q0 I_17_38 (wi_istore [(0, .ref 144), (1, .int a1), (2, .int a2), (3, .int a3), (4, .int (di (146 + a1.toNatClampNeg) (a3.toNatClampNeg))), (5, .int (a2 &&& (a3 ^^^ (-1))))] (lt_e X_17 rfl) rfl ?_)
          refine q0 I_17_40 (wi_iconst 0 rfl ?_)
          refine q0 I_17_41 (wi_istore [(0, .ref 144), (1, .int a1), (2, .int a2), (3, .int a3), (4, .int (di (146 + a1.toNatClampNeg) (a3.toNatClampNeg))), (5, .int (a2 &&& (a3 ^^^ (-1)))), (6, .int 0)] (lt_e X_17 rfl) rfl ?_)
          exact Wq_c I_17_43 rfl rfl H
        · replace H := H.2 h
          refine q1 (ls' := []) I_17_21 rfl (wi_iconst (-1) rfl ?_)
          exact q0 I_17_22 (wi_iret T_17 C_17 ⟨_, rfl, H⟩)
theorem r_17_43 {x1 : Int32} {x3 : Int32} {x4 : Int32} {x5 : Int32} {x6 : Int32} {di : tDi} {dl : tDl} {K : Int32 → tDi → tDl → Prop} (H : ((8 ≤ x6 → (K (-1) di dl)) ∧ (x6 < 8 → ((((x5 >>> (x6 &&& 31)) &&& 1) = 0 → (Wq none 0 17 43 [(0, .ref 144), (1, .int x1), (3, .int x3), (4, .int x4), (5, .int x5), (6, .int (x6 + 1))] [] di dl (RI K))) ∧ (¬ ((x5 >>> (x6 &&& 31)) &&& 1) = 0 → (inB (x1 + 1) 9 = true ∧ (inB ((x3 ||| ((1 : Int32) <<< (x6 &&& 31))) &&& 255) 256 = true ∧ ((¬ ((1 : Int32) + (di (146 + (x1 + 1).toNatClampNeg) (((x3 ||| ((1 : Int32) <<< (x6 &&& 31))) &&& 255).toNatClampNeg))) = x4 → (Wq none 0 17 43 [(0, .ref 144), (1, .int x1), (3, .int x3), (4, .int x4), (5, .int x5), (6, .int (x6 + 1))] [] di dl (RI K))) ∧ (((1 : Int32) + (di (146 + (x1 + 1).toNatClampNeg) (((x3 ||| ((1 : Int32) <<< (x6 &&& 31))) &&& 255).toNatClampNeg))) = x4 → (K x6 di dl)))))))))) : Wq none 0 17 43 [(0, .ref 144), (1, .int x1), (3, .int x3), (4, .int x4), (5, .int x5), (6, .int x6)] [] di dl (RI K) := by
  refine q1 (ls' := [(0, .ref 144), (1, .int x1), (3, .int x3), (4, .int x4), (5, .int x5), (6, .int x6)]) I_17_43 rfl (wi_iload _ rfl ?_)
  refine q0 I_17_45 (wi_bipush 8 rfl ?_)
  refine q0 I_17_47 (wi_ic_ge (fun h => ?_) (fun h => ?_))
  · replace H := H.1 h
    refine q1 (ls' := []) I_17_95 rfl (wi_iconst (-1) rfl ?_)
    exact q0 I_17_96 (wi_iret T_17 C_17 ⟨_, rfl, H⟩)
  · replace H := H.2 h
    refine q1 (ls' := [(0, .ref 144), (1, .int x1), (3, .int x3), (4, .int x4), (5, .int x5), (6, .int x6)]) I_17_50 rfl (wi_iload _ rfl ?_)
    refine q0 I_17_52 (wi_iload _ rfl ?_)
    refine q0 I_17_54 (wi_ishr ?_)
    refine q0 I_17_55 (wi_iconst 1 rfl ?_)
    refine q0 I_17_56 (wi_iand ?_)
    refine q0 I_17_57 (wi_if_eq (fun h => ?_) (fun h => ?_))
    · replace H := H.1 h
      refine q1 (ls' := [(0, .ref 144), (1, .int x1), (3, .int x3), (4, .int x4), (5, .int x5), (6, .int x6)]) I_17_89 rfl (wi_iinc 1 [(0, .ref 144), (1, .int x1), (3, .int x3), (4, .int x4), (5, .int x5), (6, .int (x6 + 1))] rfl (lt_e X_17 rfl) rfl rfl ?_)
      refine q0 I_17_92 (wi_goto ?_)
      exact Wq_c I_17_43 rfl rfl H
    · replace H := H.2 h
      refine q1 (ls' := [(0, .ref 144), (1, .int x1), (3, .int x3), (4, .int x4), (5, .int x5), (6, .int x6)]) I_17_60 rfl (wi_iconst 1 rfl ?_)
      refine q0 I_17_61 (wi_aload_n _ rfl ?_)
      refine q0 I_17_62 (wi_get (.ref 145) S_144 rfl (by decide) rfl ?_)
      refine q0 I_17_65 (wi_iload_n _ rfl ?_)
      refine q0 I_17_66 (wi_iconst 1 rfl ?_)
      refine q0 I_17_67 (wi_iadd ?_)
      have hb21 := H.1
      replace H := H.2
      refine q0 I_17_68 (wi_aaload (e := 2) (146 + (x1 + 1).toNatClampNeg) S_145 hb21 (by decide) (K_145 hb21) ?_)
      refine q0 I_17_69 (wi_iload_n _ rfl ?_)
      refine q0 I_17_70 (wi_iconst 1 rfl ?_)
      refine q0 I_17_71 (wi_iload _ rfl ?_)
      refine q0 I_17_73 (wi_ishl ?_)
      refine q0 I_17_74 (wi_ior ?_)
      refine q0 I_17_75 (wi_sipush 255 rfl ?_)
      refine q0 I_17_78 (wi_iand ?_)
      have hb22 := H.1
      replace H := H.2
      refine q0 I_17_79 (wi_iaload (((x3 ||| ((1 : Int32) <<< (x6 &&& 31))) &&& 255).toNatClampNeg) (G_145 hb21) hb22 rfl ?_)
      refine q0 I_17_80 (wi_iadd ?_)
      refine q0 I_17_81 (wi_iload _ rfl ?_)
      refine q0 I_17_83 (wi_ic_ne (fun h => ?_) (fun h => ?_))
      · replace H := H.1 h
        refine q1 (ls' := [(0, .ref 144), (1, .int x1), (3, .int x3), (4, .int x4), (5, .int x5), (6, .int x6)]) I_17_89 rfl (wi_iinc 1 [(0, .ref 144), (1, .int x1), (3, .int x3), (4, .int x4), (5, .int x5), (6, .int (x6 + 1))] rfl (lt_e X_17 rfl) rfl rfl ?_)
        refine q0 I_17_92 (wi_goto ?_)
        exact Wq_c I_17_43 rfl rfl H
      · replace H := H.2 h
        refine q1 (ls' := [(6, .int x6)]) I_17_86 rfl (wi_iload _ rfl ?_)
        exact q0 I_17_88 (wi_iret T_17 C_17 ⟨_, rfl, H⟩)
theorem r_19 {a1 : Int32} {a2 : Int32} {di : tDi} {dl : tDl} {K : Int32 → tDi → tDl → Prop} (H : (ClV 12 21 [.ref 156, .int 0, .int 0, .int 0, .int 0, .int 0] (up2 (up2 (up2 (up2 di 156 3 (imin 6 (di 1 4))) 156 4 a1) 156 5 a2) 156 6 (-1)) dl (fun di1 dl1 => (K (di1 156 6) di1 dl1)))) : ClI 13 19 [.ref 156, .int a1, .int a2] di dl K := by
  refine Cl_of C_19 Z_19 [(0, .ref 156), (1, .int a1), (2, .int a2)] rfl ?_
  refine q0 I_19_0 (wi_aload_n _ rfl ?_)
  refine q0 I_19_1 (wi_bipush 6 rfl ?_)
  refine q0 I_19_3 (wi_aload_n _ rfl ?_)
  refine q0 I_19_4 (wi_get (.ref 1) S_156 rfl (by decide) rfl ?_)
  refine q0 I_19_7 (wi_getI S_1 rfl (by decide) rfl ?_)
  refine q0 I_19_10 (wi_min rfl (Nat.le_of_ble_eq_true rfl) ?_)
  refine q0 I_19_13 (wi_putI S_156 rfl (by decide) rfl rfl rfl ?_)
  refine q0 I_19_16 (wi_aload_n _ rfl ?_)
  refine q0 I_19_17 (wi_iload_n _ rfl ?_)
  refine q0 I_19_18 (wi_putI S_156 rfl (by decide) rfl rfl rfl ?_)
  refine q0 I_19_21 (wi_aload_n _ rfl ?_)
  refine q0 I_19_22 (wi_iload_n _ rfl ?_)
  refine q0 I_19_23 (wi_putI S_156 rfl (by decide) rfl rfl rfl ?_)
  refine q0 I_19_26 (wi_aload_n _ rfl ?_)
  refine q0 I_19_27 (wi_iconst (-1) rfl ?_)
  refine q0 I_19_28 (wi_putI S_156 rfl (by decide) rfl rfl rfl ?_)
  refine q0 I_19_31 (wi_aload_n _ rfl ?_)
  refine q0 I_19_32 (wi_iconst 0 rfl ?_)
  refine q0 I_19_33 (wi_iconst 0 rfl ?_)
  refine q0 I_19_34 (wi_iconst 0 rfl ?_)
  refine q0 I_19_35 (wi_iconst 0 rfl ?_)
  refine q0 I_19_36 (wi_iconst 0 rfl ?_)
  refine q0 I_19_37 (wi_virtV (e := 12) [.int 0, .int 0, .int 0, .int 0, .int 0] [] S_156 rfl (by decide) rfl rfl rfl (okC_i rfl rfl rfl) C_21 (by decide) (ClV_mono H ?_))
  intro di1 dl1 H
  refine q0 I_19_40 (wi_aload_n _ rfl ?_)
  refine q0 I_19_41 (wi_getI S_156 rfl (by decide) rfl ?_)
  exact q0 I_19_44 (wi_iret T_19 C_19 ⟨_, rfl, H⟩)
theorem r_20 {a1 : Int32} {di : tDi} {dl : tDl} {K : Int32 → tDi → tDl → Prop} (H : ((a1 < 0 → (K (-1) di dl)) ∧ (0 ≤ a1 → (((di 156 3) ≤ a1 → (K (-1) di dl)) ∧ (a1 < (di 156 3) → ((6 ≤ a1 → (K (-1) di dl)) ∧ (a1 < 6 → (inB a1 6 = true ∧ (K (di 158 (a1.toNatClampNeg)) di dl))))))))) : ClI 0 20 [.ref 156, .int a1] di dl K := by
  refine Cl_of C_20 Z_20 [(0, .ref 156), (1, .int a1)] rfl ?_
  refine q0 I_20_0 (wi_iload_n _ rfl ?_)
  refine q0 I_20_1 (wi_if_lt (fun h => ?_) (fun h => ?_))
  · replace H := H.1 h
    refine q1 (ls' := []) I_20_27 rfl (wi_iconst (-1) rfl ?_)
    exact q1 (ls' := []) I_20_28 rfl (wi_iret T_20 C_20 ⟨_, rfl, H⟩)
  · replace H := H.2 h
    refine q1 (ls' := [(0, .ref 156), (1, .int a1)]) I_20_4 rfl (wi_iload_n _ rfl ?_)
    refine q0 I_20_5 (wi_aload_n _ rfl ?_)
    refine q0 I_20_6 (wi_getI S_156 rfl (by decide) rfl ?_)
    refine q0 I_20_9 (wi_ic_ge (fun h => ?_) (fun h => ?_))
    · replace H := H.1 h
      refine q1 (ls' := []) I_20_27 rfl (wi_iconst (-1) rfl ?_)
      exact q1 (ls' := []) I_20_28 rfl (wi_iret T_20 C_20 ⟨_, rfl, H⟩)
    · replace H := H.2 h
      refine q1 (ls' := [(0, .ref 156), (1, .int a1)]) I_20_12 rfl (wi_iload_n _ rfl ?_)
      refine q0 I_20_13 (wi_bipush 6 rfl ?_)
      refine q0 I_20_15 (wi_ic_ge (fun h => ?_) (fun h => ?_))
      · replace H := H.1 h
        refine q1 (ls' := []) I_20_27 rfl (wi_iconst (-1) rfl ?_)
        exact q1 (ls' := []) I_20_28 rfl (wi_iret T_20 C_20 ⟨_, rfl, H⟩)
      · replace H := H.2 h
        refine q1 (ls' := [(0, .ref 156), (1, .int a1)]) I_20_18 rfl (wi_aload_n _ rfl ?_)
        refine q0 I_20_19 (wi_get (.ref 158) S_156 rfl (by decide) rfl ?_)
        refine q0 I_20_22 (wi_iload_n _ rfl ?_)
        have hb1 := H.1
        replace H := H.2
        refine q0 I_20_23 (wi_iaload (a1.toNatClampNeg) S_158 hb1 rfl ?_)
        refine q0 I_20_24 (wi_goto ?_)
        exact q1 (ls' := []) I_20_28 rfl (wi_iret T_20 C_20 ⟨_, rfl, H⟩)
theorem r_21 {d : Nat} {a1 : Int32} {a2 : Int32} {a3 : Int32} {a4 : Int32} {a5 : Int32} {di : tDi} {dl : tDl} {K : tDi → tDl → Prop} (H : (((di 156 6) = (-1) → ((a1 < 0 → (K (cpy2 (up2 di 156 6 a5) 157 158 ((0 : Int32).toNatClampNeg) ((0 : Int32).toNatClampNeg) ((6 : Int32).toNatClampNeg)) dl)) ∧ (0 ≤ a1 → (((di 156 3) ≤ a1 → (K (cpy2 (up2 di 156 6 a5) 157 158 ((0 : Int32).toNatClampNeg) ((0 : Int32).toNatClampNeg) ((6 : Int32).toNatClampNeg)) dl)) ∧ (a1 < (di 156 3) → ((a1 < 6 → (Wq none (d + 2) 21 61 [(0, .ref 156), (1, .int a1), (2, .int a2), (3, .int a3), (4, .int a4), (5, .int a5), (6, .int 0)] [] di dl (RV K))) ∧ (6 ≤ a1 → (K (cpy2 (up2 di 156 6 a5) 157 158 ((0 : Int32).toNatClampNeg) ((0 : Int32).toNatClampNeg) ((6 : Int32).toNatClampNeg)) dl)))))))) ∧ (¬ (di 156 6) = (-1) → ((a5 < (di 156 6) → ((a1 < 0 → (K (cpy2 (up2 di 156 6 a5) 157 158 ((0 : Int32).toNatClampNeg) ((0 : Int32).toNatClampNeg) ((6 : Int32).toNatClampNeg)) dl)) ∧ (0 ≤ a1 → (((di 156 3) ≤ a1 → (K (cpy2 (up2 di 156 6 a5) 157 158 ((0 : Int32).toNatClampNeg) ((0 : Int32).toNatClampNeg) ((6 : Int32).toNatClampNeg)) dl)) ∧ (a1 < (di 156 3) → ((a1 < 6 → (Wq none (d + 2) 21 61 [(0, .ref 156), (1, .int a1), (2, .int a2), (3, .int a3), (4, .int a4), (5, .int a5), (6, .int 0)] [] di dl (RV K))) ∧ (6 ≤ a1 → (K (cpy2 (up2 di 156 6 a5) 157 158 ((0 : Int32).toNatClampNeg) ((0 : Int32).toNatClampNeg) ((6 : Int32).toNatClampNeg)) dl)))))))) ∧ ((di 156 6) ≤ a5 → (K di dl)))))) : ClV (d + 2) 21 [.ref 156, .int a1, .int a2, .int a3, .int a4, .int a5] di dl K := by
  refine Cl_of C_21 Z_21 [(0, .ref 156), (1, .int a1), (2, .int a2), (3, .int a3), (4, .int a4), (5, .int a5)] rfl ?_
  refine q0 I_21_0 (wi_aload_n _ rfl ?_)
  refine q0 I_21_1 (wi_getI S_156 rfl (by decide) rfl ?_)
  refine q0 I_21_4 (wi_iconst (-1) rfl ?_)
  refine q0 I_21_5 (wi_ic_eq (fun h => ?_) (fun h => ?_))
  · replace H := H.1 h
    refine q1 (ls' := [(0, .ref 156), (1, .int a1), (2, .int a2), (3, .int a3), (4, .int a4), (5, .int a5)]) I_21_18 rfl (wi_iload_n _ rfl ?_)
    refine q0 I_21_19 (wi_if_lt (fun h => ?_) (fun h => ?_))
    · replace H := H.1 h
      refine q1 (ls' := [(0, .ref 156), (5, .int a5)]) I_21_36 rfl (wi_aload_n _ rfl ?_)
      refine q0 I_21_37 (wi_iload _ rfl ?_)
      refine q0 I_21_39 (wi_putI S_156 rfl (by decide) rfl rfl rfl ?_)
      refine q0 I_21_42 (wi_aload_n _ rfl ?_)
      refine q0 I_21_43 (wi_get (.ref 157) S_156 rfl (by decide) rfl ?_)
      refine q0 I_21_46 (wi_iconst 0 rfl ?_)
      refine q0 I_21_47 (wi_aload_n _ rfl ?_)
      refine q0 I_21_48 (wi_get (.ref 158) S_156 rfl (by decide) rfl ?_)
      refine q0 I_21_51 (wi_iconst 0 rfl ?_)
      refine q0 I_21_52 (wi_bipush 6 rfl ?_)
      refine q0 I_21_54 (wi_acopy rfl S_157 S_158 (by decide) ?_)
      exact q0 I_21_57 (wi_ret T_21 C_21 ⟨rfl, H⟩)
    · replace H := H.2 h
      refine q1 (ls' := [(0, .ref 156), (1, .int a1), (2, .int a2), (3, .int a3), (4, .int a4), (5, .int a5)]) I_21_22 rfl (wi_iload_n _ rfl ?_)
      refine q0 I_21_23 (wi_aload_n _ rfl ?_)
      refine q0 I_21_24 (wi_getI S_156 rfl (by decide) rfl ?_)
      refine q0 I_21_27 (wi_ic_ge (fun h => ?_) (fun h => ?_))
      · replace H := H.1 h
        refine q1 (ls' := [(0, .ref 156), (5, .int a5)]) I_21_36 rfl (wi_aload_n _ rfl ?_)
        refine q0 I_21_37 (wi_iload _ rfl ?_)
        refine q0 I_21_39 (wi_putI S_156 rfl (by decide) rfl rfl rfl ?_)
        refine q0 I_21_42 (wi_aload_n _ rfl ?_)
        refine q0 I_21_43 (wi_get (.ref 157) S_156 rfl (by decide) rfl ?_)
        refine q0 I_21_46 (wi_iconst 0 rfl ?_)
        refine q0 I_21_47 (wi_aload_n _ rfl ?_)
        refine q0 I_21_48 (wi_get (.ref 158) S_156 rfl (by decide) rfl ?_)
        refine q0 I_21_51 (wi_iconst 0 rfl ?_)
        refine q0 I_21_52 (wi_bipush 6 rfl ?_)
        refine q0 I_21_54 (wi_acopy rfl S_157 S_158 (by decide) ?_)
        exact q0 I_21_57 (wi_ret T_21 C_21 ⟨rfl, H⟩)
      · replace H := H.2 h
        refine q1 (ls' := [(0, .ref 156), (1, .int a1), (2, .int a2), (3, .int a3), (4, .int a4), (5, .int a5)]) I_21_30 rfl (wi_iload_n _ rfl ?_)
        refine q0 I_21_31 (wi_bipush 6 rfl ?_)
        refine q0 I_21_33 (wi_ic_lt (fun h => ?_) (fun h => ?_))
        · replace H := H.1 h
          refine q1 (ls' := [(0, .ref 156), (1, .int a1), (2, .int a2), (3, .int a3), (4, .int a4), (5, .int a5)]) I_21_58 rfl (wi_iconst 0 rfl ?_)
          refine q0 I_21_59 (wi_istore [(0, .ref 156), (1, .int a1), (2, .int a2), (3, .int a3), (4, .int a4), (5, .int a5), (6, .int 0)] (lt_e X_21 rfl) rfl ?_)
          exact Wq_c I_21_61 rfl rfl H
        · replace H := H.2 h
          refine q1 (ls' := [(0, .ref 156), (5, .int a5)]) I_21_36 rfl (wi_aload_n _ rfl ?_)
          refine q0 I_21_37 (wi_iload _ rfl ?_)
          refine q0 I_21_39 (wi_putI S_156 rfl (by decide) rfl rfl rfl ?_)
          refine q0 I_21_42 (wi_aload_n _ rfl ?_)
          refine q0 I_21_43 (wi_get (.ref 157) S_156 rfl (by decide) rfl ?_)
          refine q0 I_21_46 (wi_iconst 0 rfl ?_)
          refine q0 I_21_47 (wi_aload_n _ rfl ?_)
          refine q0 I_21_48 (wi_get (.ref 158) S_156 rfl (by decide) rfl ?_)
          refine q0 I_21_51 (wi_iconst 0 rfl ?_)
          refine q0 I_21_52 (wi_bipush 6 rfl ?_)
          refine q0 I_21_54 (wi_acopy rfl S_157 S_158 (by decide) ?_)
          exact q0 I_21_57 (wi_ret T_21 C_21 ⟨rfl, H⟩)
  · replace H := H.2 h
    refine q1 (ls' := [(0, .ref 156), (1, .int a1), (2, .int a2), (3, .int a3), (4, .int a4), (5, .int a5)]) I_21_8 rfl (wi_iload _ rfl ?_)
    refine q0 I_21_10 (wi_aload_n _ rfl ?_)
    refine q0 I_21_11 (wi_getI S_156 rfl (by decide) rfl ?_)
    refine q0 I_21_14 (wi_ic_lt (fun h => ?_) (fun h => ?_))
    · replace H := H.1 h
      refine q1 (ls' := [(0, .ref 156), (1, .int a1), (2, .int a2), (3, .int a3), (4, .int a4), (5, .int a5)]) I_21_18 rfl (wi_iload_n _ rfl ?_)
      refine q0 I_21_19 (wi_if_lt (fun h => ?_) (fun h => ?_))
      · replace H := H.1 h
        refine q1 (ls' := [(0, .ref 156), (5, .int a5)]) I_21_36 rfl (wi_aload_n _ rfl ?_)
        refine q0 I_21_37 (wi_iload _ rfl ?_)
        refine q0 I_21_39 (wi_putI S_156 rfl (by decide) rfl rfl rfl ?_)
        refine q0 I_21_42 (wi_aload_n _ rfl ?_)
        refine q0 I_21_43 (wi_get (.ref 157) S_156 rfl (by decide) rfl ?_)
        refine q0 I_21_46 (wi_iconst 0 rfl ?_)
        refine q0 I_21_47 (wi_aload_n _ rfl ?_)
        refine q0 I_21_48 (wi_get (.ref 158) S_156 rfl (by decide) rfl ?_)
        refine q0 I_21_51 (wi_iconst 0 rfl ?_)
        refine q0 I_21_52 (wi_bipush 6 rfl ?_)
        refine q0 I_21_54 (wi_acopy rfl S_157 S_158 (by decide) ?_)
        exact q0 I_21_57 (wi_ret T_21 C_21 ⟨rfl, H⟩)
      · replace H := H.2 h
        refine q1 (ls' := [(0, .ref 156), (1, .int a1), (2, .int a2), (3, .int a3), (4, .int a4), (5, .int a5)]) I_21_22 rfl (wi_iload_n _ rfl ?_)
        refine q0 I_21_23 (wi_aload_n _ rfl ?_)
        refine q0 I_21_24 (wi_getI S_156 rfl (by decide) rfl ?_)
        refine q0 I_21_27 (wi_ic_ge (fun h => ?_) (fun h => ?_))
        · replace H := H.1 h
          refine q1 (ls' := [(0, .ref 156), (5, .int a5)]) I_21_36 rfl (wi_aload_n _ rfl ?_)
          refine q0 I_21_37 (wi_iload _ rfl ?_)
          refine q0 I_21_39 (wi_putI S_156 rfl (by decide) rfl rfl rfl ?_)
          refine q0 I_21_42 (wi_aload_n _ rfl ?_)
          refine q0 I_21_43 (wi_get (.ref 157) S_156 rfl (by decide) rfl ?_)
          refine q0 I_21_46 (wi_iconst 0 rfl ?_)
          refine q0 I_21_47 (wi_aload_n _ rfl ?_)
          refine q0 I_21_48 (wi_get (.ref 158) S_156 rfl (by decide) rfl ?_)
          refine q0 I_21_51 (wi_iconst 0 rfl ?_)
          refine q0 I_21_52 (wi_bipush 6 rfl ?_)
          refine q0 I_21_54 (wi_acopy rfl S_157 S_158 (by decide) ?_)
          exact q0 I_21_57 (wi_ret T_21 C_21 ⟨rfl, H⟩)
        · replace H := H.2 h
          refine q1 (ls' := [(0, .ref 156), (1, .int a1), (2, .int a2), (3, .int a3), (4, .int a4), (5, .int a5)]) I_21_30 rfl (wi_iload_n _ rfl ?_)
          refine q0 I_21_31 (wi_bipush 6 rfl ?_)
          refine q0 I_21_33 (wi_ic_lt (fun h => ?_) (fun h => ?_))
          · replace H := H.1 h
            refine q1 (ls' := [(0, .ref 156), (1, .int a1), (2, .int a2), (3, .int a3), (4, .int a4), (5, .int a5)]) I_21_58 rfl (wi_iconst 0 rfl ?_)
            refine q0 I_21_59 (wi_istore [(0, .ref 156), (1, .int a1), (2, .int a2), (3, .int a3), (4, .int a4), (5, .int a5), (6, .int 0)] (lt_e X_21 rfl) rfl ?_)
            exact Wq_c I_21_61 rfl rfl H
          · replace H := H.2 h
            refine q1 (ls' := [(0, .ref 156), (5, .int a5)]) I_21_36 rfl (wi_aload_n _ rfl ?_)
            refine q0 I_21_37 (wi_iload _ rfl ?_)
            refine q0 I_21_39 (wi_putI S_156 rfl (by decide) rfl rfl rfl ?_)
            refine q0 I_21_42 (wi_aload_n _ rfl ?_)
            refine q0 I_21_43 (wi_get (.ref 157) S_156 rfl (by decide) rfl ?_)
            refine q0 I_21_46 (wi_iconst 0 rfl ?_)
            refine q0 I_21_47 (wi_aload_n _ rfl ?_)
            refine q0 I_21_48 (wi_get (.ref 158) S_156 rfl (by decide) rfl ?_)
            refine q0 I_21_51 (wi_iconst 0 rfl ?_)
            refine q0 I_21_52 (wi_bipush 6 rfl ?_)
            refine q0 I_21_54 (wi_acopy rfl S_157 S_158 (by decide) ?_)
            exact q0 I_21_57 (wi_ret T_21 C_21 ⟨rfl, H⟩)
    · replace H := H.2 h
      exact q1 (ls' := []) I_21_17 rfl (wi_ret T_21 C_21 ⟨rfl, H⟩)
theorem r_21_61 {d : Nat} {x1 : Int32} {x2 : Int32} {x3 : Int32} {x4 : Int32} {x5 : Int32} {x6 : Int32} {di : tDi} {dl : tDl} {K : tDi → tDl → Prop} (H : (((di 156 3) ≤ x6 → (K di dl)) ∧ (x6 < (di 156 3) → (ClI 1 48 [.ref 1, .int x6] di dl (fun r21 di21 dl21 => ((¬ ((x2 >>> (x6 &&& 31)) &&& 1) = 0 → (Wq none (d + 2) 21 61 [(0, .ref 156), (1, .int x1), (2, .int x2), (3, .int x3), (4, .int x4), (5, .int x5), (6, .int (x6 + 1))] [] di21 dl21 (RV K))) ∧ (((x2 >>> (x6 &&& 31)) &&& 1) = 0 → ((¬ x6 = (di21 156 4) → (inB x1 6 = true ∧ (ClV (d + 1) 21 [.ref 156, .int (x1 + 1), .int (x2 ||| ((1 : Int32) <<< (x6 &&& 31))), .int r21, .int ((x4 + (iabs (r21 - x3))) + 1), .int (x5 + ((x4 + (iabs (r21 - x3))) + 1))] (up2 di21 157 (x1.toNatClampNeg) x6) dl21 (fun di23 dl23 => (Wq none (d + 2) 21 61 [(0, .ref 156), (1, .int x1), (2, .int x2), (3, .int x3), (4, .int x4), (5, .int x5), (6, .int (x6 + 1))] [] di23 dl23 (RV K)))))) ∧ (x6 = (di21 156 4) → (((di21 156 5) < ((x4 + (iabs (r21 - x3))) + 1) → (Wq none (d + 2) 21 61 [(0, .ref 156), (1, .int x1), (2, .int x2), (3, .int x3), (4, .int x4), (5, .int x5), (6, .int (x6 + 1))] [] di21 dl21 (RV K))) ∧ (((x4 + (iabs (r21 - x3))) + 1) ≤ (di21 156 5) → (inB x1 6 = true ∧ (ClV (d + 1) 21 [.ref 156, .int (x1 + 1), .int (x2 ||| ((1 : Int32) <<< (x6 &&& 31))), .int r21, .int ((x4 + (iabs (r21 - x3))) + 1), .int (x5 + ((x4 + (iabs (r21 - x3))) + 1))] (up2 di21 157 (x1.toNatClampNeg) x6) dl21 (fun di25 dl25 => (Wq none (d + 2) 21 61 [(0, .ref 156), (1, .int x1), (2, .int x2), (3, .int x3), (4, .int x4), (5, .int x5), (6, .int (x6 + 1))] [] di25 dl25 (RV K)))))))))))))))) : Wq none (d + 2) 21 61 [(0, .ref 156), (1, .int x1), (2, .int x2), (3, .int x3), (4, .int x4), (5, .int x5), (6, .int x6)] [] di dl (RV K) := by
  refine q1 (ls' := [(0, .ref 156), (1, .int x1), (2, .int x2), (3, .int x3), (4, .int x4), (5, .int x5), (6, .int x6)]) I_21_61 rfl (wi_iload _ rfl ?_)
  refine q0 I_21_63 (wi_aload_n _ rfl ?_)
  refine q0 I_21_64 (wi_getI S_156 rfl (by decide) rfl ?_)
  refine q0 I_21_67 (wi_ic_ge (fun h => ?_) (fun h => ?_))
  · replace H := H.1 h
    exact q1 (ls' := []) I_21_158 rfl (wi_ret T_21 C_21 ⟨rfl, H⟩)
  · replace H := H.2 h
    refine q1 (ls' := [(0, .ref 156), (1, .int x1), (2, .int x2), (3, .int x3), (4, .int x4), (5, .int x5), (6, .int x6)]) I_21_70 rfl (wi_aload_n _ rfl ?_)
    refine q0 I_21_71 (wi_get (.ref 1) S_156 rfl (by decide) rfl ?_)
    refine q0 I_21_74 (wi_iload _ rfl ?_)
    refine q0 I_21_76 (wi_virtI (e := 1) [.int x6] [] S_1 rfl (by decide) rfl rfl rfl (okC_i rfl rfl rfl) C_48 (by omega) (ClI_mono H ?_))
    intro r21 di21 dl21 H
    refine q0 I_21_79 (wi_istore [(0, .ref 156), (1, .int x1), (2, .int x2), (3, .int x3), (4, .int x4), (5, .int x5), (6, .int x6), (7, .int r21)] (lt_e X_21 rfl) rfl ?_)
    refine q0 I_21_81 (wi_iload _ rfl ?_)
    refine q0 I_21_83 (wi_iload _ rfl ?_)
    refine q0 I_21_85 (wi_iload_n _ rfl ?_)
    refine q0 I_21_86 (wi_isub ?_)
    refine q0 I_21_87 (wi_abs rfl (Nat.le_of_ble_eq_true rfl) ?_)
    refine q0 I_21_90 (wi_iadd ?_)
    refine q0 I_21_91 (wi_iconst 1 rfl ?_)
    refine q0 I_21_92 (wi_iadd ?_)
    refine q0 I_21_93 (wi_istore [(0, .ref 156), (1, .int x1), (2, .int x2), (3, .int x3), (4, .int x4), (5, .int x5), (6, .int x6), (7, .int r21), (8, .int ((x4 + (iabs (r21 - x3))) + 1))] (lt_e X_21 rfl) rfl ?_)
    refine q0 I_21_95 (wi_iload_n _ rfl ?_)
    refine q0 I_21_96 (wi_iload _ rfl ?_)
    refine q0 I_21_98 (wi_ishr ?_)
    refine q0 I_21_99 (wi_iconst 1 rfl ?_)
    refine q0 I_21_100 (wi_iand ?_)
    refine q0 I_21_101 (wi_if_ne (fun h => ?_) (fun h => ?_))
    · replace H := H.1 h
      refine q1 (ls' := [(0, .ref 156), (1, .int x1), (2, .int x2), (3, .int x3), (4, .int x4), (5, .int x5), (6, .int x6)]) I_21_152 rfl (wi_iinc 1 [(0, .ref 156), (1, .int x1), (2, .int x2), (3, .int x3), (4, .int x4), (5, .int x5), (6, .int (x6 + 1))] rfl (lt_e X_21 rfl) rfl rfl ?_)
      refine q0 I_21_155 (wi_goto ?_)
      exact Wq_c I_21_61 rfl rfl H
    · replace H := H.2 h
      refine q1 (ls' := [(0, .ref 156), (1, .int x1), (2, .int x2), (3, .int x3), (4, .int x4), (5, .int x5), (6, .int x6), (7, .int r21), (8, .int ((x4 + (iabs (r21 - x3))) + 1))]) I_21_104 rfl (wi_iload _ rfl ?_)
      refine q0 I_21_106 (wi_aload_n _ rfl ?_)
      refine q0 I_21_107 (wi_getI S_156 rfl (by decide) rfl ?_)
      refine q0 I_21_110 (wi_ic_ne (fun h => ?_) (fun h => ?_))
      · replace H := H.1 h
        refine q1 (ls' := [(0, .ref 156), (1, .int x1), (2, .int x2), (3, .int x3), (4, .int x4), (5, .int x5), (6, .int x6), (7, .int r21), (8, .int ((x4 + (iabs (r21 - x3))) + 1))]) I_21_122 rfl (wi_aload_n _ rfl ?_)
        refine q0 I_21_123 (wi_get (.ref 157) S_156 rfl (by decide) rfl ?_)
        refine q0 I_21_126 (wi_iload_n _ rfl ?_)
        refine q0 I_21_127 (wi_iload _ rfl ?_)
        have hb22 := H.1
        replace H := H.2
        refine q0 I_21_129 (wi_iastore (x1.toNatClampNeg) S_157 hb22 rfl ?_)
        refine q0 I_21_130 (wi_aload_n _ rfl ?_)
        refine q0 I_21_131 (wi_iload_n _ rfl ?_)
        refine q0 I_21_132 (wi_iconst 1 rfl ?_)
        refine q0 I_21_133 (wi_iadd ?_)
        refine q0 I_21_134 (wi_iload_n _ rfl ?_)
        refine q0 I_21_135 (wi_iconst 1 rfl ?_)
        refine q0 I_21_136 (wi_iload _ rfl ?_)
        refine q0 I_21_138 (wi_ishl ?_)
        refine q0 I_21_139 (wi_ior ?_)
        refine q0 I_21_140 (wi_iload _ rfl ?_)
        refine q0 I_21_142 (wi_iload _ rfl ?_)
        refine q0 I_21_144 (wi_iload _ rfl ?_)
        refine q0 I_21_146 (wi_iload _ rfl ?_)
        refine q0 I_21_148 (wi_iadd ?_)
        refine q0 I_21_149 (wi_virtV (e := (d + 1)) [.int (x1 + 1), .int (x2 ||| ((1 : Int32) <<< (x6 &&& 31))), .int r21, .int ((x4 + (iabs (r21 - x3))) + 1), .int (x5 + ((x4 + (iabs (r21 - x3))) + 1))] [] S_156 rfl (by decide) rfl rfl rfl (okC_i rfl rfl rfl) C_21 (by omega) (ClV_mono H ?_))
        intro di23 dl23 H
        refine q1 (ls' := [(0, .ref 156), (1, .int x1), (2, .int x2), (3, .int x3), (4, .int x4), (5, .int x5), (6, .int x6)]) I_21_152 rfl (wi_iinc 1 [(0, .ref 156), (1, .int x1), (2, .int x2), (3, .int x3), (4, .int x4), (5, .int x5), (6, .int (x6 + 1))] rfl (lt_e X_21 rfl) rfl rfl ?_)
        refine q0 I_21_155 (wi_goto ?_)
        exact Wq_c I_21_61 rfl rfl H
      · replace H := H.2 h
        refine q1 (ls' := [(0, .ref 156), (1, .int x1), (2, .int x2), (3, .int x3), (4, .int x4), (5, .int x5), (6, .int x6), (7, .int r21), (8, .int ((x4 + (iabs (r21 - x3))) + 1))]) I_21_113 rfl (wi_iload _ rfl ?_)
        refine q0 I_21_115 (wi_aload_n _ rfl ?_)
        refine q0 I_21_116 (wi_getI S_156 rfl (by decide) rfl ?_)
        refine q0 I_21_119 (wi_ic_gt (fun h => ?_) (fun h => ?_))
        · replace H := H.1 h
          refine q1 (ls' := [(0, .ref 156), (1, .int x1), (2, .int x2), (3, .int x3), (4, .int x4), (5, .int x5), (6, .int x6)]) I_21_152 rfl (wi_iinc 1 [(0, .ref 156), (1, .int x1), (2, .int x2), (3, .int x3), (4, .int x4), (5, .int x5), (6, .int (x6 + 1))] rfl (lt_e X_21 rfl) rfl rfl ?_)
          refine q0 I_21_155 (wi_goto ?_)
          exact Wq_c I_21_61 rfl rfl H
        · replace H := H.2 h
          refine q1 (ls' := [(0, .ref 156), (1, .int x1), (2, .int x2), (3, .int x3), (4, .int x4), (5, .int x5), (6, .int x6), (7, .int r21), (8, .int ((x4 + (iabs (r21 - x3))) + 1))]) I_21_122 rfl (wi_aload_n _ rfl ?_)
          refine q0 I_21_123 (wi_get (.ref 157) S_156 rfl (by decide) rfl ?_)
          refine q0 I_21_126 (wi_iload_n _ rfl ?_)
          refine q0 I_21_127 (wi_iload _ rfl ?_)
          have hb24 := H.1
          replace H := H.2
          refine q0 I_21_129 (wi_iastore (x1.toNatClampNeg) S_157 hb24 rfl ?_)
          refine q0 I_21_130 (wi_aload_n _ rfl ?_)
          refine q0 I_21_131 (wi_iload_n _ rfl ?_)
          refine q0 I_21_132 (wi_iconst 1 rfl ?_)
          refine q0 I_21_133 (wi_iadd ?_)
          refine q0 I_21_134 (wi_iload_n _ rfl ?_)
          refine q0 I_21_135 (wi_iconst 1 rfl ?_)
          refine q0 I_21_136 (wi_iload _ rfl ?_)
          refine q0 I_21_138 (wi_ishl ?_)
          refine q0 I_21_139 (wi_ior ?_)
          refine q0 I_21_140 (wi_iload _ rfl ?_)
          refine q0 I_21_142 (wi_iload _ rfl ?_)
          refine q0 I_21_144 (wi_iload _ rfl ?_)
          refine q0 I_21_146 (wi_iload _ rfl ?_)
          refine q0 I_21_148 (wi_iadd ?_)
          refine q0 I_21_149 (wi_virtV (e := (d + 1)) [.int (x1 + 1), .int (x2 ||| ((1 : Int32) <<< (x6 &&& 31))), .int r21, .int ((x4 + (iabs (r21 - x3))) + 1), .int (x5 + ((x4 + (iabs (r21 - x3))) + 1))] [] S_156 rfl (by decide) rfl rfl rfl (okC_i rfl rfl rfl) C_21 (by omega) (ClV_mono H ?_))
          intro di25 dl25 H
          refine q1 (ls' := [(0, .ref 156), (1, .int x1), (2, .int x2), (3, .int x3), (4, .int x4), (5, .int x5), (6, .int x6)]) I_21_152 rfl (wi_iinc 1 [(0, .ref 156), (1, .int x1), (2, .int x2), (3, .int x3), (4, .int x4), (5, .int x5), (6, .int (x6 + 1))] rfl (lt_e X_21 rfl) rfl rfl ?_)
          refine q0 I_21_155 (wi_goto ?_)
          exact Wq_c I_21_61 rfl rfl H
theorem r_23 {a1 : Int32} {a2 : Int32} {a3 : Int32} {di : tDi} {dl : tDl} {K : Int32 → tDi → tDl → Prop} (H : ((a1 < 0 → (K 0 di dl)) ∧ (0 ≤ a1 → ((24 < a1 → (K 0 di dl)) ∧ (a1 ≤ 24 → ((a2 < 0 → (K 0 di dl)) ∧ (0 ≤ a2 → ((8 ≤ a2 → (K 0 di dl)) ∧ (a2 < 8 → ((a3 < (-1) → (K 0 di dl)) ∧ ((-1) ≤ a3 → ((8 ≤ a3 → (K 0 di dl)) ∧ (a3 < 8 → (K 1 di dl)))))))))))))) : ClI 0 23 [.ref 159, .int a1, .int a2, .int a3] di dl K := by
  refine Cl_of C_23 Z_23 [(0, .ref 159), (1, .int a1), (2, .int a2), (3, .int a3)] rfl ?_
  refine q0 I_23_0 (wi_iload_n _ rfl ?_)
  refine q0 I_23_1 (wi_if_lt (fun h => ?_) (fun h => ?_))
  · replace H := H.1 h
    refine q1 (ls' := [(2, .int a2), (3, .int a3)]) I_23_14 rfl (wi_iconst 0 rfl ?_)
    refine q1 (ls' := [(2, .int a2), (3, .int a3)]) I_23_15 rfl (wi_istore [(2, .int a2), (3, .int a3), (4, .int 0)] (lt_e X_23 rfl) rfl ?_)
    refine q0 I_23_17 (wi_iload _ rfl ?_)
    refine q0 I_23_19 (wi_ifT rfl ?_)
    refine q1 (ls' := []) I_23_47 rfl (wi_iconst 0 rfl ?_)
    exact q1 (ls' := []) I_23_48 rfl (wi_zret T_23 (Or.inl C_23) (Or.inl rfl) ⟨_, rfl, H⟩)
  · replace H := H.2 h
    refine q1 (ls' := [(1, .int a1), (2, .int a2), (3, .int a3)]) I_23_4 rfl (wi_iload_n _ rfl ?_)
    refine q0 I_23_5 (wi_bipush 24 rfl ?_)
    refine q0 I_23_7 (wi_ic_gt (fun h => ?_) (fun h => ?_))
    · replace H := H.1 h
      refine q1 (ls' := [(2, .int a2), (3, .int a3)]) I_23_14 rfl (wi_iconst 0 rfl ?_)
      refine q1 (ls' := [(2, .int a2), (3, .int a3)]) I_23_15 rfl (wi_istore [(2, .int a2), (3, .int a3), (4, .int 0)] (lt_e X_23 rfl) rfl ?_)
      refine q0 I_23_17 (wi_iload _ rfl ?_)
      refine q0 I_23_19 (wi_ifT rfl ?_)
      refine q1 (ls' := []) I_23_47 rfl (wi_iconst 0 rfl ?_)
      exact q1 (ls' := []) I_23_48 rfl (wi_zret T_23 (Or.inl C_23) (Or.inl rfl) ⟨_, rfl, H⟩)
    · replace H := H.2 h
      refine q1 (ls' := [(2, .int a2), (3, .int a3)]) I_23_10 rfl (wi_iconst 1 rfl ?_)
      refine q0 I_23_11 (wi_goto ?_)
      refine q1 (ls' := [(2, .int a2), (3, .int a3)]) I_23_15 rfl (wi_istore [(2, .int a2), (3, .int a3), (4, .int 1)] (lt_e X_23 rfl) rfl ?_)
      refine q0 I_23_17 (wi_iload _ rfl ?_)
      refine q0 I_23_19 (wi_ifF rfl ?_)
      refine q1 (ls' := [(2, .int a2), (3, .int a3)]) I_23_22 rfl (wi_iload_n _ rfl ?_)
      refine q0 I_23_23 (wi_if_lt (fun h => ?_) (fun h => ?_))
      · replace H := H.1 h
        refine q1 (ls' := []) I_23_47 rfl (wi_iconst 0 rfl ?_)
        exact q1 (ls' := []) I_23_48 rfl (wi_zret T_23 (Or.inl C_23) (Or.inl rfl) ⟨_, rfl, H⟩)
      · replace H := H.2 h
        refine q1 (ls' := [(2, .int a2), (3, .int a3)]) I_23_26 rfl (wi_iload_n _ rfl ?_)
        refine q0 I_23_27 (wi_bipush 8 rfl ?_)
        refine q0 I_23_29 (wi_ic_ge (fun h => ?_) (fun h => ?_))
        · replace H := H.1 h
          refine q1 (ls' := []) I_23_47 rfl (wi_iconst 0 rfl ?_)
          exact q1 (ls' := []) I_23_48 rfl (wi_zret T_23 (Or.inl C_23) (Or.inl rfl) ⟨_, rfl, H⟩)
        · replace H := H.2 h
          refine q1 (ls' := [(3, .int a3)]) I_23_32 rfl (wi_iload_n _ rfl ?_)
          refine q0 I_23_33 (wi_iconst (-1) rfl ?_)
          refine q0 I_23_34 (wi_ic_lt (fun h => ?_) (fun h => ?_))
          · replace H := H.1 h
            refine q1 (ls' := []) I_23_47 rfl (wi_iconst 0 rfl ?_)
            exact q1 (ls' := []) I_23_48 rfl (wi_zret T_23 (Or.inl C_23) (Or.inl rfl) ⟨_, rfl, H⟩)
          · replace H := H.2 h
            refine q1 (ls' := [(3, .int a3)]) I_23_37 rfl (wi_iload_n _ rfl ?_)
            refine q0 I_23_38 (wi_bipush 8 rfl ?_)
            refine q0 I_23_40 (wi_ic_ge (fun h => ?_) (fun h => ?_))
            · replace H := H.1 h
              refine q1 (ls' := []) I_23_47 rfl (wi_iconst 0 rfl ?_)
              exact q1 (ls' := []) I_23_48 rfl (wi_zret T_23 (Or.inl C_23) (Or.inl rfl) ⟨_, rfl, H⟩)
            · replace H := H.2 h
              refine q1 (ls' := []) I_23_43 rfl (wi_iconst 1 rfl ?_)
              refine q0 I_23_44 (wi_goto ?_)
              exact q1 (ls' := []) I_23_48 rfl (wi_zret T_23 (Or.inl C_23) (Or.inr rfl) ⟨_, rfl, H⟩)
theorem r_24  {di : tDi} {dl : tDl} {K : Int32 → tDi → tDl → Prop} (H : (((di 159 8) < 8 → (K 0 di dl)) ∧ (8 ≤ (di 159 8) → (K 1 di dl)))) : ClI 0 24 [.ref 159] di dl K := by
  refine Cl_of C_24 Z_24 [(0, .ref 159)] rfl ?_
  refine q0 I_24_0 (wi_aload_n _ rfl ?_)
  refine q0 I_24_1 (wi_getI S_159 rfl (by decide) rfl ?_)
  refine q0 I_24_4 (wi_bipush 8 rfl ?_)
  refine q0 I_24_6 (wi_ic_lt (fun h => ?_) (fun h => ?_))
  · replace H := H.1 h
    refine q1 (ls' := []) I_24_13 rfl (wi_iconst 0 rfl ?_)
    exact q1 (ls' := []) I_24_14 rfl (wi_zret T_24 (Or.inl C_24) (Or.inl rfl) ⟨_, rfl, H⟩)
  · replace H := H.2 h
    refine q1 (ls' := []) I_24_9 rfl (wi_iconst 1 rfl ?_)
    refine q0 I_24_10 (wi_goto ?_)
    exact q1 (ls' := []) I_24_14 rfl (wi_zret T_24 (Or.inl C_24) (Or.inr rfl) ⟨_, rfl, H⟩)
theorem r_25 {a1 : Int32} {a2 : Int32} {a3 : Int32} {di : tDi} {dl : tDl} {K : tDi → tDl → Prop} (H : (((di 159 8) < 0 → (K di dl)) ∧ (0 ≤ (di 159 8) → (((di 159 8) < 8 → (inB (di 159 8) 8 = true ∧ (K (up2 (up2 (up2 (up2 di 160 ((di 159 8).toNatClampNeg) a1) 161 ((di 159 8).toNatClampNeg) a2) 162 ((di 159 8).toNatClampNeg) a3) 159 8 ((di 159 8) + 1)) dl))) ∧ (8 ≤ (di 159 8) → (K di dl)))))) : ClV 0 25 [.ref 159, .int a1, .int a2, .int a3] di dl K := by
  refine Cl_of C_25 Z_25 [(0, .ref 159), (1, .int a1), (2, .int a2), (3, .int a3)] rfl ?_
  refine q0 I_25_0 (wi_aload_n _ rfl ?_)
  refine q0 I_25_1 (wi_getI S_159 rfl (by decide) rfl ?_)
  refine q0 I_25_4 (wi_if_lt (fun h => ?_) (fun h => ?_))
  · replace H := H.1 h
    exact q1 (ls' := []) I_25_16 rfl (wi_ret T_25 C_25 ⟨rfl, H⟩)
  · replace H := H.2 h
    refine q1 (ls' := [(0, .ref 159), (1, .int a1), (2, .int a2), (3, .int a3)]) I_25_7 rfl (wi_aload_n _ rfl ?_)
    refine q0 I_25_8 (wi_getI S_159 rfl (by decide) rfl ?_)
    refine q0 I_25_11 (wi_bipush 8 rfl ?_)
    refine q0 I_25_13 (wi_ic_lt (fun h => ?_) (fun h => ?_))
    · replace H := H.1 h
      refine q1 (ls' := [(0, .ref 159), (1, .int a1), (2, .int a2), (3, .int a3)]) I_25_17 rfl (wi_aload_n _ rfl ?_)
      refine q0 I_25_18 (wi_get (.ref 160) S_159 rfl (by decide) rfl ?_)
      refine q0 I_25_21 (wi_aload_n _ rfl ?_)
      refine q0 I_25_22 (wi_getI S_159 rfl (by decide) rfl ?_)
      refine q0 I_25_25 (wi_iload_n _ rfl ?_)
      have hb1 := H.1
      replace H := H.2
      refine q0 I_25_26 (wi_iastore ((di 159 8).toNatClampNeg) S_160 hb1 rfl ?_)
      refine q0 I_25_27 (wi_aload_n _ rfl ?_)
      refine q0 I_25_28 (wi_get (.ref 161) S_159 rfl (by decide) rfl ?_)
      refine q0 I_25_31 (wi_aload_n _ rfl ?_)
      refine q0 I_25_32 (wi_get (.int (di 159 8)) S_159 rfl (by decide) rfl ?_)
      refine q0 I_25_35 (wi_iload_n _ rfl ?_)
      refine q0 I_25_36 (wi_iastore ((di 159 8).toNatClampNeg) S_161 hb1 rfl ?_)
      refine q0 I_25_37 (wi_aload_n _ rfl ?_)
      refine q0 I_25_38 (wi_get (.ref 162) S_159 rfl (by decide) rfl ?_)
      refine q0 I_25_41 (wi_aload_n _ rfl ?_)
      refine q0 I_25_42 (wi_get (.int (di 159 8)) S_159 rfl (by decide) rfl ?_)
      refine q0 I_25_45 (wi_iload_n _ rfl ?_)
      refine q0 I_25_46 (wi_iastore ((di 159 8).toNatClampNeg) S_162 hb1 rfl ?_)
      refine q0 I_25_47 (wi_aload_n _ rfl ?_)
      refine q0 I_25_48 (wi_dup rfl ?_)
      refine q0 I_25_49 (wi_get (.int (di 159 8)) S_159 rfl (by decide) rfl ?_)
      refine q0 I_25_52 (wi_iconst 1 rfl ?_)
      refine q0 I_25_53 (wi_iadd ?_)
      refine q0 I_25_54 (wi_putI S_159 rfl (by decide) rfl rfl rfl ?_)
      exact q0 I_25_57 (wi_ret T_25 C_25 ⟨rfl, H⟩)
    · replace H := H.2 h
      exact q1 (ls' := []) I_25_16 rfl (wi_ret T_25 C_25 ⟨rfl, H⟩)
theorem r_26  {di : tDi} {dl : tDl} {K : tDi → tDl → Prop} (H : (Wq none 3 26 7 [(0, .ref 159), (1, .int 0)] [] (up2 di 159 9 0) dl (RV K))) : ClV 3 26 [.ref 159] di dl K := by
  refine Cl_of C_26 Z_26 [(0, .ref 159)] rfl ?_
  refine q0 I_26_0 (wi_aload_n _ rfl ?_)
  refine q0 I_26_1 (wi_iconst 0 rfl ?_)
  refine q0 I_26_2 (wi_putI S_159 rfl (by decide) rfl rfl rfl ?_)
  refine q0 I_26_5 (wi_iconst 0 rfl ?_)
  refine q0 I_26_6 (wi_istore_n [(0, .ref 159), (1, .int 0)] (lt_e X_26 rfl) rfl ?_)
  exact Wq_c I_26_7 rfl rfl H
theorem r_26_7 {x1 : Int32} {di : tDi} {dl : tDl} {K : tDi → tDl → Prop} (H : (((di 1 4) ≤ x1 → (K di dl)) ∧ (x1 < (di 1 4) → (Wq none 3 26 22 [(0, .ref 159), (1, .int x1), (2, .int (x1 + 1))] [] di dl (RV K))))) : Wq none 3 26 7 [(0, .ref 159), (1, .int x1)] [] di dl (RV K) := by
  refine q1 (ls' := [(0, .ref 159), (1, .int x1)]) I_26_7 rfl (wi_iload_n _ rfl ?_)
  refine q0 I_26_8 (wi_aload_n _ rfl ?_)
  refine q0 I_26_9 (wi_get (.ref 1) S_159 rfl (by decide) rfl ?_)
  refine q0 I_26_12 (wi_getI S_1 rfl (by decide) rfl ?_)
  refine q0 I_26_15 (wi_ic_ge (fun h => ?_) (fun h => ?_))
  · replace H := H.1 h
    exact q1 (ls' := []) I_26_88 rfl (wi_ret T_26 C_26 ⟨rfl, H⟩)
  · replace H := H.2 h
    refine q1 (ls' := [(0, .ref 159), (1, .int x1)]) I_26_18 rfl (wi_iload_n _ rfl ?_)
    refine q0 I_26_19 (wi_iconst 1 rfl ?_)
    refine q0 I_26_20 (wi_iadd ?_)
    refine q0 I_26_21 (wi_istore_n [(0, .ref 159), (1, .int x1), (2, .int (x1 + 1))] (lt_e X_26 rfl) rfl ?_)
    exact Wq_c I_26_22 rfl rfl H
theorem r_26_22 {x1 : Int32} {x2 : Int32} {di : tDi} {dl : tDl} {K : tDi → tDl → Prop} (H : (((di 1 4) ≤ x2 → (Wq none 3 26 7 [(0, .ref 159), (1, .int (x1 + 1))] [] di dl (RV K))) ∧ (x2 < (di 1 4) → ((28 ≤ (di 159 9) → (Wq none 3 26 22 [(0, .ref 159), (1, .int x1), (2, .int (x2 + 1))] [] di dl (RV K))) ∧ ((di 159 9) < 28 → (ClI 2 29 [.ref 159, .int x1, .int x2] di dl (fun r21 di21 dl21 => ((r21 = 0 → (Wq none 3 26 22 [(0, .ref 159), (1, .int x1), (2, .int (x2 + 1))] [] di21 dl21 (RV K))) ∧ (¬ r21 = 0 → (inB (di21 159 9) 28 = true ∧ (Wq none 3 26 22 [(0, .ref 159), (1, .int x1), (2, .int (x2 + 1))] [] (up2 (up2 di21 163 ((di21 159 9).toNatClampNeg) (((8 : Int32) * x1) + x2)) 159 9 ((di21 159 9) + 1)) dl21 (RV K)))))))))))) : Wq none 3 26 22 [(0, .ref 159), (1, .int x1), (2, .int x2)] [] di dl (RV K) := by
  refine q1 (ls' := [(0, .ref 159), (1, .int x1), (2, .int x2)]) I_26_22 rfl (wi_iload_n _ rfl ?_)
  refine q0 I_26_23 (wi_aload_n _ rfl ?_)
  refine q0 I_26_24 (wi_get (.ref 1) S_159 rfl (by decide) rfl ?_)
  refine q0 I_26_27 (wi_getI S_1 rfl (by decide) rfl ?_)
  refine q0 I_26_30 (wi_ic_ge (fun h => ?_) (fun h => ?_))
  · replace H := H.1 h
    refine q1 (ls' := [(0, .ref 159), (1, .int x1)]) I_26_82 rfl (wi_iinc 1 [(0, .ref 159), (1, .int (x1 + 1))] rfl (lt_e X_26 rfl) rfl rfl ?_)
    refine q0 I_26_85 (wi_goto ?_)
    exact Wq_c I_26_7 rfl rfl H
  · replace H := H.2 h
    refine q1 (ls' := [(0, .ref 159), (1, .int x1), (2, .int x2)]) I_26_33 rfl (wi_aload_n _ rfl ?_)
    refine q0 I_26_34 (wi_getI S_159 rfl (by decide) rfl ?_)
    refine q0 I_26_37 (wi_bipush 28 rfl ?_)
    refine q0 I_26_39 (wi_ic_ge (fun h => ?_) (fun h => ?_))
    · replace H := H.1 h
      refine q1 (ls' := [(0, .ref 159), (1, .int x1), (2, .int x2)]) I_26_76 rfl (wi_iinc 1 [(0, .ref 159), (1, .int x1), (2, .int (x2 + 1))] rfl (lt_e X_26 rfl) rfl rfl ?_)
      refine q0 I_26_79 (wi_goto ?_)
      exact Wq_c I_26_22 rfl rfl H
    · replace H := H.2 h
      refine q1 (ls' := [(0, .ref 159), (1, .int x1), (2, .int x2)]) I_26_42 rfl (wi_aload_n _ rfl ?_)
      refine q0 I_26_43 (wi_iload_n _ rfl ?_)
      refine q0 I_26_44 (wi_iload_n _ rfl ?_)
      refine q0 I_26_45 (wi_virtI (e := 2) [.int x1, .int x2] [] S_159 rfl (by decide) rfl rfl rfl (okC_i rfl rfl rfl) C_29 (by decide) (ClI_mono H ?_))
      intro r21 di21 dl21 H
      refine q0 I_26_48 (wi_if_eq (fun h => ?_) (fun h => ?_))
      · replace H := H.1 h
        refine q1 (ls' := [(0, .ref 159), (1, .int x1), (2, .int x2)]) I_26_76 rfl (wi_iinc 1 [(0, .ref 159), (1, .int x1), (2, .int (x2 + 1))] rfl (lt_e X_26 rfl) rfl rfl ?_)
        refine q0 I_26_79 (wi_goto ?_)
        exact Wq_c I_26_22 rfl rfl H
      · replace H := H.2 h
        refine q1 (ls' := [(0, .ref 159), (1, .int x1), (2, .int x2)]) I_26_51 rfl (wi_aload_n _ rfl ?_)
        refine q0 I_26_52 (wi_get (.ref 163) S_159 rfl (by decide) rfl ?_)
        refine q0 I_26_55 (wi_aload_n _ rfl ?_)
        refine q0 I_26_56 (wi_getI S_159 rfl (by decide) rfl ?_)
        refine q0 I_26_59 (wi_bipush 8 rfl ?_)
        refine q0 I_26_61 (wi_iload_n _ rfl ?_)
        refine q0 I_26_62 (wi_imul ?_)
        refine q0 I_26_63 (wi_iload_n _ rfl ?_)
        refine q0 I_26_64 (wi_iadd ?_)
        have hb22 := H.1
        replace H := H.2
        refine q0 I_26_65 (wi_iastore ((di21 159 9).toNatClampNeg) S_163 hb22 rfl ?_)
        refine q0 I_26_66 (wi_aload_n _ rfl ?_)
        refine q0 I_26_67 (wi_dup rfl ?_)
        refine q0 I_26_68 (wi_get (.int (di21 159 9)) S_159 rfl (by decide) rfl ?_)
        refine q0 I_26_71 (wi_iconst 1 rfl ?_)
        refine q0 I_26_72 (wi_iadd ?_)
        refine q0 I_26_73 (wi_putI S_159 rfl (by decide) rfl rfl rfl ?_)
        refine q1 (ls' := [(0, .ref 159), (1, .int x1), (2, .int x2)]) I_26_76 rfl (wi_iinc 1 [(0, .ref 159), (1, .int x1), (2, .int (x2 + 1))] rfl (lt_e X_26 rfl) rfl rfl ?_)
        refine q0 I_26_79 (wi_goto ?_)
        exact Wq_c I_26_22 rfl rfl H
theorem r_27  {di : tDi} {dl : tDl} {K : Int32 → tDi → tDl → Prop} (H : (((di 159 9) ≤ 0 → (K (-1) di dl)) ∧ (0 < (di 159 9) → (K (di 163 0) di dl)))) : ClI 0 27 [.ref 159] di dl K := by
  refine Cl_of C_27 Z_27 [(0, .ref 159)] rfl ?_
  refine q0 I_27_0 (wi_aload_n _ rfl ?_)
  refine q0 I_27_1 (wi_getI S_159 rfl (by decide) rfl ?_)
  refine q0 I_27_4 (wi_if_le (fun h => ?_) (fun h => ?_))
  · replace H := H.1 h
    refine q1 (ls' := []) I_27_16 rfl (wi_iconst (-1) rfl ?_)
    exact q1 (ls' := []) I_27_17 rfl (wi_iret T_27 C_27 ⟨_, rfl, H⟩)
  · replace H := H.2 h
    refine q1 (ls' := [(0, .ref 159)]) I_27_7 rfl (wi_aload_n _ rfl ?_)
    refine q0 I_27_8 (wi_get (.ref 163) S_159 rfl (by decide) rfl ?_)
    refine q0 I_27_11 (wi_iconst 0 rfl ?_)
    refine q0 I_27_12 (wi_iaload 0 S_163 rfl rfl ?_)
    refine q0 I_27_13 (wi_goto ?_)
    exact q1 (ls' := []) I_27_17 rfl (wi_iret T_27 C_27 ⟨_, rfl, H⟩)
theorem r_28 {a1 : Int32} {di : tDi} {dl : tDl} {K : Int32 → tDi → tDl → Prop} (H : (ClI 2 31 [.ref 159, .int 0, .int a1] di dl (fun r1 di1 dl1 => (Wq none 3 28 12 [(0, .ref 159), (1, .int a1), (2, .int 0), (3, .int r1), (4, .int 1)] [] di1 dl1 (RI K))))) : ClI 3 28 [.ref 159, .int a1] di dl K := by
  refine Cl_of C_28 Z_28 [(0, .ref 159), (1, .int a1)] rfl ?_
  refine q0 I_28_0 (wi_iconst 0 rfl ?_)
  refine q0 I_28_1 (wi_istore_n [(0, .ref 159), (1, .int a1), (2, .int 0)] (lt_e X_28 rfl) rfl ?_)
  refine q0 I_28_2 (wi_aload_n _ rfl ?_)
  refine q0 I_28_3 (wi_iconst 0 rfl ?_)
  refine q0 I_28_4 (wi_iload_n _ rfl ?_)
  refine q0 I_28_5 (wi_virtI (e := 2) [.int 0, .int a1] [] S_159 rfl (by decide) rfl rfl rfl (okC_i rfl rfl rfl) C_31 (by decide) (ClI_mono H ?_))
  intro r1 di1 dl1 H
  refine q0 I_28_8 (wi_istore_n [(0, .ref 159), (1, .int a1), (2, .int 0), (3, .int r1)] (lt_e X_28 rfl) rfl ?_)
  refine q0 I_28_9 (wi_iconst 1 rfl ?_)
  refine q0 I_28_10 (wi_istore [(0, .ref 159), (1, .int a1), (2, .int 0), (3, .int r1), (4, .int 1)] (lt_e X_28 rfl) rfl ?_)
  exact Wq_c I_28_12 rfl rfl H
theorem r_28_12 {x1 : Int32} {x2 : Int32} {x3 : Int32} {x4 : Int32} {di : tDi} {dl : tDl} {K : Int32 → tDi → tDl → Prop} (H : (((di 5 4) < x4 → (K x2 di dl)) ∧ (x4 ≤ (di 5 4) → (ClI 2 31 [.ref 159, .int x4, .int x1] di dl (fun r21 di21 dl21 => ((x3 ≤ r21 → (Wq none 3 28 12 [(0, .ref 159), (1, .int x1), (2, .int x2), (3, .int x3), (4, .int (x4 + 1))] [] di21 dl21 (RI K))) ∧ (r21 < x3 → (Wq none 3 28 12 [(0, .ref 159), (1, .int x1), (2, .int x4), (3, .int r21), (4, .int (x4 + 1))] [] di21 dl21 (RI K))))))))) : Wq none 3 28 12 [(0, .ref 159), (1, .int x1), (2, .int x2), (3, .int x3), (4, .int x4)] [] di dl (RI K) := by
  refine q1 (ls' := [(0, .ref 159), (1, .int x1), (2, .int x2), (3, .int x3), (4, .int x4)]) I_28_12 rfl (wi_iload _ rfl ?_)
  refine q0 I_28_14 (wi_aload_n _ rfl ?_)
  refine q0 I_28_15 (wi_get (.ref 5) S_159 rfl (by decide) rfl ?_)
  refine q0 I_28_18 (wi_getI S_5 rfl (by decide) rfl ?_)
  refine q0 I_28_21 (wi_ic_gt (fun h => ?_) (fun h => ?_))
  · replace H := H.1 h
    refine q1 (ls' := [(2, .int x2)]) I_28_51 rfl (wi_iload_n _ rfl ?_)
    exact q0 I_28_52 (wi_iret T_28 C_28 ⟨_, rfl, H⟩)
  · replace H := H.2 h
    refine q1 (ls' := [(0, .ref 159), (1, .int x1), (2, .int x2), (3, .int x3), (4, .int x4)]) I_28_24 rfl (wi_aload_n _ rfl ?_)
    refine q0 I_28_25 (wi_iload _ rfl ?_)
    refine q0 I_28_27 (wi_iload_n _ rfl ?_)
    refine q0 I_28_28 (wi_virtI (e := 2) [.int x4, .int x1] [] S_159 rfl (by decide) rfl rfl rfl (okC_i rfl rfl rfl) C_31 (by decide) (ClI_mono H ?_))
    intro r21 di21 dl21 H
    refine q0 I_28_31 (wi_istore [(0, .ref 159), (1, .int x1), (2, .int x2), (3, .int x3), (4, .int x4), (5, .int r21)] (lt_e X_28 rfl) rfl ?_)
    refine q0 I_28_33 (wi_iload _ rfl ?_)
    refine q0 I_28_35 (wi_iload_n _ rfl ?_)
    refine q0 I_28_36 (wi_ic_ge (fun h => ?_) (fun h => ?_))
    · replace H := H.1 h
      refine q1 (ls' := [(0, .ref 159), (1, .int x1), (2, .int x2), (3, .int x3), (4, .int x4)]) I_28_45 rfl (wi_iinc 1 [(0, .ref 159), (1, .int x1), (2, .int x2), (3, .int x3), (4, .int (x4 + 1))] rfl (lt_e X_28 rfl) rfl rfl ?_)
      refine q0 I_28_48 (wi_goto ?_)
      exact Wq_c I_28_12 rfl rfl H
    · replace H := H.2 h
      refine q1 (ls' := [(0, .ref 159), (1, .int x1), (4, .int x4), (5, .int r21)]) I_28_39 rfl (wi_iload _ rfl ?_)
      refine q0 I_28_41 (wi_istore_n [(0, .ref 159), (1, .int x1), (2, .int x4), (4, .int x4), (5, .int r21)] (lt_e X_28 rfl) rfl ?_)
      refine q0 I_28_42 (wi_iload _ rfl ?_)
      refine q0 I_28_44 (wi_istore_n [(0, .ref 159), (1, .int x1), (2, .int x4), (3, .int r21), (4, .int x4), (5, .int r21)] (lt_e X_28 rfl) rfl ?_)
      refine q1 (ls' := [(0, .ref 159), (1, .int x1), (2, .int x4), (3, .int r21), (4, .int x4)]) I_28_45 rfl (wi_iinc 1 [(0, .ref 159), (1, .int x1), (2, .int x4), (3, .int r21), (4, .int (x4 + 1))] rfl (lt_e X_28 rfl) rfl rfl ?_)
      refine q0 I_28_48 (wi_goto ?_)
      exact Wq_c I_28_12 rfl rfl H
theorem r_29 {a1 : Int32} {a2 : Int32} {di : tDi} {dl : tDl} {K : Int32 → tDi → tDl → Prop} (H : (Wq none 2 29 2 [(0, .ref 159), (1, .int a1), (2, .int a2), (3, .int 0)] [] di dl (RI K))) : ClI 2 29 [.ref 159, .int a1, .int a2] di dl K := by
  refine Cl_of C_29 Z_29 [(0, .ref 159), (1, .int a1), (2, .int a2)] rfl ?_
  refine q0 I_29_0 (wi_iconst 0 rfl ?_)
  refine q0 I_29_1 (wi_istore_n [(0, .ref 159), (1, .int a1), (2, .int a2), (3, .int 0)] (lt_e X_29 rfl) rfl ?_)
  exact Wq_c I_29_2 rfl rfl H
theorem r_29_2 {x1 : Int32} {x2 : Int32} {x3 : Int32} {di : tDi} {dl : tDl} {K : Int32 → tDi → tDl → Prop} (H : (((di 159 8) ≤ x3 → (K 1 di dl)) ∧ (x3 < (di 159 8) → ((8 ≤ x3 → (K 1 di dl)) ∧ (x3 < 8 → (inB x3 8 = true ∧ (((di 5 4) < (di 160 (x3.toNatClampNeg)) → (K 0 di dl)) ∧ ((di 160 (x3.toNatClampNeg)) ≤ (di 5 4) → (((di 161 (x3.toNatClampNeg)) < 0 → (K 0 di dl)) ∧ (0 ≤ (di 161 (x3.toNatClampNeg)) → (((di 1 4) ≤ (di 161 (x3.toNatClampNeg)) → (K 0 di dl)) ∧ ((di 161 (x3.toNatClampNeg)) < (di 1 4) → (ClI 1 30 [.ref 159, .int x1, .int x2, .int (di 160 (x3.toNatClampNeg)), .int (di 161 (x3.toNatClampNeg))] di dl (fun r22 di22 dl22 => ((r22 = (di22 162 (x3.toNatClampNeg)) → (Wq none 2 29 2 [(0, .ref 159), (1, .int x1), (2, .int x2), (3, .int (x3 + 1))] [] di22 dl22 (RI K))) ∧ (¬ r22 = (di22 162 (x3.toNatClampNeg)) → (K 0 di22 dl22))))))))))))))))) : Wq none 2 29 2 [(0, .ref 159), (1, .int x1), (2, .int x2), (3, .int x3)] [] di dl (RI K) := by
  refine q1 (ls' := [(0, .ref 159), (1, .int x1), (2, .int x2), (3, .int x3)]) I_29_2 rfl (wi_iload_n _ rfl ?_)
  refine q0 I_29_3 (wi_aload_n _ rfl ?_)
  refine q0 I_29_4 (wi_getI S_159 rfl (by decide) rfl ?_)
  refine q0 I_29_7 (wi_ic_ge (fun h => ?_) (fun h => ?_))
  · replace H := H.1 h
    refine q1 (ls' := []) I_29_95 rfl (wi_iconst 1 rfl ?_)
    exact q0 I_29_96 (wi_zret T_29 (Or.inl C_29) (Or.inr rfl) ⟨_, rfl, H⟩)
  · replace H := H.2 h
    refine q1 (ls' := [(0, .ref 159), (1, .int x1), (2, .int x2), (3, .int x3)]) I_29_10 rfl (wi_iload_n _ rfl ?_)
    refine q0 I_29_11 (wi_bipush 8 rfl ?_)
    refine q0 I_29_13 (wi_ic_ge (fun h => ?_) (fun h => ?_))
    · replace H := H.1 h
      refine q1 (ls' := []) I_29_95 rfl (wi_iconst 1 rfl ?_)
      exact q0 I_29_96 (wi_zret T_29 (Or.inl C_29) (Or.inr rfl) ⟨_, rfl, H⟩)
    · replace H := H.2 h
      refine q1 (ls' := [(0, .ref 159), (1, .int x1), (2, .int x2), (3, .int x3)]) I_29_16 rfl (wi_aload_n _ rfl ?_)
      refine q0 I_29_17 (wi_get (.ref 160) S_159 rfl (by decide) rfl ?_)
      refine q0 I_29_20 (wi_iload_n _ rfl ?_)
      have hb21 := H.1
      replace H := H.2
      refine q0 I_29_21 (wi_iaload (x3.toNatClampNeg) S_160 hb21 rfl ?_)
      refine q0 I_29_22 (wi_aload_n _ rfl ?_)
      refine q0 I_29_23 (wi_get (.ref 5) S_159 rfl (by decide) rfl ?_)
      refine q0 I_29_26 (wi_getI S_5 rfl (by decide) rfl ?_)
      refine q0 I_29_29 (wi_ic_gt (fun h => ?_) (fun h => ?_))
      · replace H := H.1 h
        refine q1 (ls' := [(0, .ref 159), (1, .int x1), (2, .int x2), (3, .int x3)]) I_29_52 rfl (wi_iconst 0 rfl ?_)
        refine q1 (ls' := [(0, .ref 159), (1, .int x1), (2, .int x2), (3, .int x3)]) I_29_53 rfl (wi_istore [(0, .ref 159), (1, .int x1), (2, .int x2), (3, .int x3), (4, .int 0)] (lt_e X_29 rfl) rfl ?_)
        refine q0 I_29_55 (wi_iload _ rfl ?_)
        refine q0 I_29_57 (wi_ifT rfl ?_)
        refine q1 (ls' := []) I_29_87 rfl (wi_iconst 0 rfl ?_)
        exact q0 I_29_88 (wi_zret T_29 (Or.inl C_29) (Or.inl rfl) ⟨_, rfl, H⟩)
      · replace H := H.2 h
        refine q1 (ls' := [(0, .ref 159), (1, .int x1), (2, .int x2), (3, .int x3)]) I_29_32 rfl (wi_aload_n _ rfl ?_)
        refine q0 I_29_33 (wi_get (.ref 1) S_159 rfl (by decide) rfl ?_)
        refine q0 I_29_36 (wi_aload_n _ rfl ?_)
        refine q0 I_29_37 (wi_get (.ref 161) S_159 rfl (by decide) rfl ?_)
        refine q0 I_29_40 (wi_iload_n _ rfl ?_)
        refine q0 I_29_41 (wi_iaload (x3.toNatClampNeg) S_161 hb21 rfl ?_)
        refine q0 I_29_42 (wi_virtI (e := 1) [.int (di 161 (x3.toNatClampNeg))] [] S_1 rfl (by decide) rfl rfl rfl (okC_i rfl rfl rfl) C_53 (by decide) (Cl_of C_53 Z_53 [(0, .ref 1), (1, .int (di 161 (x3.toNatClampNeg)))] rfl ?_))
        refine q0 I_53_0 (wi_iload_n _ rfl ?_)
        refine q0 I_53_1 (wi_if_lt (fun h => ?_) (fun h => ?_))
        · replace H := H.1 h
          refine q1 (ls' := []) I_53_16 rfl (wi_iconst 0 rfl ?_)
          refine q1 (ls' := []) I_53_17 rfl (wi_zret T_53 (Or.inl C_53) (Or.inl rfl) ⟨_, rfl, ?_⟩)
          refine q0 I_29_45 (wi_ifT rfl ?_)
          refine q1 (ls' := [(0, .ref 159), (1, .int x1), (2, .int x2), (3, .int x3)]) I_29_52 rfl (wi_iconst 0 rfl ?_)
          refine q1 (ls' := [(0, .ref 159), (1, .int x1), (2, .int x2), (3, .int x3)]) I_29_53 rfl (wi_istore [(0, .ref 159), (1, .int x1), (2, .int x2), (3, .int x3), (4, .int 0)] (lt_e X_29 rfl) rfl ?_)
          refine q0 I_29_55 (wi_iload _ rfl ?_)
          refine q0 I_29_57 (wi_ifT rfl ?_)
          refine q1 (ls' := []) I_29_87 rfl (wi_iconst 0 rfl ?_)
          exact q0 I_29_88 (wi_zret T_29 (Or.inl C_29) (Or.inl rfl) ⟨_, rfl, H⟩)
        · replace H := H.2 h
          refine q1 (ls' := [(0, .ref 1), (1, .int (di 161 (x3.toNatClampNeg)))]) I_53_4 rfl (wi_iload_n _ rfl ?_)
          refine q0 I_53_5 (wi_aload_n _ rfl ?_)
          refine q0 I_53_6 (wi_getI S_1 rfl (by decide) rfl ?_)
          refine q0 I_53_9 (wi_ic_ge (fun h => ?_) (fun h => ?_))
          · replace H := H.1 h
            refine q1 (ls' := []) I_53_16 rfl (wi_iconst 0 rfl ?_)
            refine q1 (ls' := []) I_53_17 rfl (wi_zret T_53 (Or.inl C_53) (Or.inl rfl) ⟨_, rfl, ?_⟩)
            refine q0 I_29_45 (wi_ifT rfl ?_)
            refine q1 (ls' := [(0, .ref 159), (1, .int x1), (2, .int x2), (3, .int x3)]) I_29_52 rfl (wi_iconst 0 rfl ?_)
            refine q1 (ls' := [(0, .ref 159), (1, .int x1), (2, .int x2), (3, .int x3)]) I_29_53 rfl (wi_istore [(0, .ref 159), (1, .int x1), (2, .int x2), (3, .int x3), (4, .int 0)] (lt_e X_29 rfl) rfl ?_)
            refine q0 I_29_55 (wi_iload _ rfl ?_)
            refine q0 I_29_57 (wi_ifT rfl ?_)
            refine q1 (ls' := []) I_29_87 rfl (wi_iconst 0 rfl ?_)
            exact q0 I_29_88 (wi_zret T_29 (Or.inl C_29) (Or.inl rfl) ⟨_, rfl, H⟩)
          · replace H := H.2 h
            refine q1 (ls' := []) I_53_12 rfl (wi_iconst 1 rfl ?_)
            refine q0 I_53_13 (wi_goto ?_)
            refine q1 (ls' := []) I_53_17 rfl (wi_zret T_53 (Or.inl C_53) (Or.inr rfl) ⟨_, rfl, ?_⟩)
            refine q0 I_29_45 (wi_ifF rfl ?_)
            refine q1 (ls' := [(0, .ref 159), (1, .int x1), (2, .int x2), (3, .int x3)]) I_29_48 rfl (wi_iconst 1 rfl ?_)
            refine q0 I_29_49 (wi_goto ?_)
            refine q1 (ls' := [(0, .ref 159), (1, .int x1), (2, .int x2), (3, .int x3)]) I_29_53 rfl (wi_istore [(0, .ref 159), (1, .int x1), (2, .int x2), (3, .int x3), (4, .int 1)] (lt_e X_29 rfl) rfl ?_)
            refine q0 I_29_55 (wi_iload _ rfl ?_)
            refine q0 I_29_57 (wi_ifF rfl ?_)
            refine q1 (ls' := [(0, .ref 159), (1, .int x1), (2, .int x2), (3, .int x3)]) I_29_60 rfl (wi_aload_n _ rfl ?_)
            refine q0 I_29_61 (wi_iload_n _ rfl ?_)
            refine q0 I_29_62 (wi_iload_n _ rfl ?_)
            refine q0 I_29_63 (wi_aload_n _ rfl ?_)
            refine q0 I_29_64 (wi_get (.ref 160) S_159 rfl (by decide) rfl ?_)
            refine q0 I_29_67 (wi_iload_n _ rfl ?_)
            refine q0 I_29_68 (wi_iaload (x3.toNatClampNeg) S_160 hb21 rfl ?_)
            refine q0 I_29_69 (wi_aload_n _ rfl ?_)
            refine q0 I_29_70 (wi_get (.ref 161) S_159 rfl (by decide) rfl ?_)
            refine q0 I_29_73 (wi_iload_n _ rfl ?_)
            refine q0 I_29_74 (wi_iaload (x3.toNatClampNeg) S_161 hb21 rfl ?_)
            refine q0 I_29_75 (wi_virtI (e := 1) [.int x1, .int x2, .int (di 160 (x3.toNatClampNeg)), .int (di 161 (x3.toNatClampNeg))] [] S_159 rfl (by decide) rfl rfl rfl (okC_i rfl rfl rfl) C_30 (by decide) (ClI_mono H ?_))
            intro r22 di22 dl22 H
            refine q0 I_29_78 (wi_aload_n _ rfl ?_)
            refine q0 I_29_79 (wi_get (.ref 162) S_159 rfl (by decide) rfl ?_)
            refine q0 I_29_82 (wi_iload_n _ rfl ?_)
            refine q0 I_29_83 (wi_iaload (x3.toNatClampNeg) S_162 hb21 rfl ?_)
            refine q0 I_29_84 (wi_ic_eq (fun h => ?_) (fun h => ?_))
            · replace H := H.1 h
              refine q1 (ls' := [(0, .ref 159), (1, .int x1), (2, .int x2), (3, .int x3)]) I_29_89 rfl (wi_iinc 1 [(0, .ref 159), (1, .int x1), (2, .int x2), (3, .int (x3 + 1))] rfl (lt_e X_29 rfl) rfl rfl ?_)
              refine q0 I_29_92 (wi_goto ?_)
              exact Wq_c I_29_2 rfl rfl H
            · replace H := H.2 h
              refine q1 (ls' := []) I_29_87 rfl (wi_iconst 0 rfl ?_)
              exact q0 I_29_88 (wi_zret T_29 (Or.inl C_29) (Or.inl rfl) ⟨_, rfl, H⟩)
theorem r_30 {a1 : Int32} {a2 : Int32} {a3 : Int32} {a4 : Int32} {di : tDi} {dl : tDl} {K : Int32 → tDi → tDl → Prop} (H : ((¬ a4 = a1 → ((¬ a4 = a2 → (ClI 0 68 [.ref 8, .int a3, .int a4] di dl (fun r1 di1 dl1 => (K r1 di1 dl1)))) ∧ (a4 = a2 → (ClI 0 68 [.ref 8, .int a3, .int a1] di dl (fun r2 di2 dl2 => (K r2 di2 dl2)))))) ∧ (a4 = a1 → (ClI 0 68 [.ref 8, .int a3, .int a2] di dl (fun r3 di3 dl3 => (K r3 di3 dl3)))))) : ClI 1 30 [.ref 159, .int a1, .int a2, .int a3, .int a4] di dl K := by
  refine Cl_of C_30 Z_30 [(0, .ref 159), (1, .int a1), (2, .int a2), (3, .int a3), (4, .int a4)] rfl ?_
  refine q0 I_30_0 (wi_iload _ rfl ?_)
  refine q0 I_30_2 (wi_iload_n _ rfl ?_)
  refine q0 I_30_3 (wi_ic_ne (fun h => ?_) (fun h => ?_))
  · replace H := H.1 h
    refine q1 (ls' := [(0, .ref 159), (1, .int a1), (2, .int a2), (3, .int a3), (4, .int a4)]) I_30_10 rfl (wi_iload _ rfl ?_)
    refine q0 I_30_12 (wi_iload_n _ rfl ?_)
    refine q0 I_30_13 (wi_ic_ne (fun h => ?_) (fun h => ?_))
    · replace H := H.1 h
      refine q1 (ls' := [(0, .ref 159), (3, .int a3), (4, .int a4)]) I_30_20 rfl (wi_iload _ rfl ?_)
      refine q1 (ls' := [(0, .ref 159), (3, .int a3)]) I_30_22 rfl (wi_istore [(0, .ref 159), (3, .int a3), (5, .int a4)] (lt_e X_30 rfl) rfl ?_)
      refine q0 I_30_24 (wi_aload_n _ rfl ?_)
      refine q0 I_30_25 (wi_get (.ref 8) S_159 rfl (by decide) rfl ?_)
      refine q0 I_30_28 (wi_iload_n _ rfl ?_)
      refine q0 I_30_29 (wi_iload _ rfl ?_)
      refine q0 I_30_31 (wi_virtI (e := 0) [.int a3, .int a4] [] S_8 rfl (by decide) rfl rfl rfl (okC_i rfl rfl rfl) C_68 (by decide) (ClI_mono H ?_))
      intro r1 di1 dl1 H
      exact q0 I_30_34 (wi_iret T_30 C_30 ⟨_, rfl, H⟩)
    · replace H := H.2 h
      refine q1 (ls' := [(0, .ref 159), (1, .int a1), (3, .int a3)]) I_30_16 rfl (wi_iload_n _ rfl ?_)
      refine q0 I_30_17 (wi_goto ?_)
      refine q1 (ls' := [(0, .ref 159), (3, .int a3)]) I_30_22 rfl (wi_istore [(0, .ref 159), (3, .int a3), (5, .int a1)] (lt_e X_30 rfl) rfl ?_)
      refine q0 I_30_24 (wi_aload_n _ rfl ?_)
      refine q0 I_30_25 (wi_get (.ref 8) S_159 rfl (by decide) rfl ?_)
      refine q0 I_30_28 (wi_iload_n _ rfl ?_)
      refine q0 I_30_29 (wi_iload _ rfl ?_)
      refine q0 I_30_31 (wi_virtI (e := 0) [.int a3, .int a1] [] S_8 rfl (by decide) rfl rfl rfl (okC_i rfl rfl rfl) C_68 (by decide) (ClI_mono H ?_))
      intro r2 di2 dl2 H
      exact q0 I_30_34 (wi_iret T_30 C_30 ⟨_, rfl, H⟩)
  · replace H := H.2 h
    refine q1 (ls' := [(0, .ref 159), (2, .int a2), (3, .int a3)]) I_30_6 rfl (wi_iload_n _ rfl ?_)
    refine q0 I_30_7 (wi_goto ?_)
    refine q1 (ls' := [(0, .ref 159), (3, .int a3)]) I_30_22 rfl (wi_istore [(0, .ref 159), (3, .int a3), (5, .int a2)] (lt_e X_30 rfl) rfl ?_)
    refine q0 I_30_24 (wi_aload_n _ rfl ?_)
    refine q0 I_30_25 (wi_get (.ref 8) S_159 rfl (by decide) rfl ?_)
    refine q0 I_30_28 (wi_iload_n _ rfl ?_)
    refine q0 I_30_29 (wi_iload _ rfl ?_)
    refine q0 I_30_31 (wi_virtI (e := 0) [.int a3, .int a2] [] S_8 rfl (by decide) rfl rfl rfl (okC_i rfl rfl rfl) C_68 (by decide) (ClI_mono H ?_))
    intro r3 di3 dl3 H
    exact q0 I_30_34 (wi_iret T_30 C_30 ⟨_, rfl, H⟩)
theorem r_31 {a1 : Int32} {a2 : Int32} {di : tDi} {dl : tDl} {K : Int32 → tDi → tDl → Prop} (H : (Wq none 2 31 2 [(0, .ref 159), (1, .int a1), (2, .int a2), (3, .int 0)] [] di dl (RI K))) : ClI 2 31 [.ref 159, .int a1, .int a2] di dl K := by
  refine Cl_of C_31 Z_31 [(0, .ref 159), (1, .int a1), (2, .int a2)] rfl ?_
  refine q0 I_31_0 (wi_iconst 0 rfl ?_)
  refine q0 I_31_1 (wi_istore_n [(0, .ref 159), (1, .int a1), (2, .int a2), (3, .int 0)] (lt_e X_31 rfl) rfl ?_)
  exact Wq_c I_31_2 rfl rfl H
theorem r_31_2 {x1 : Int32} {x2 : Int32} {x3 : Int32} {di : tDi} {dl : tDl} {K : Int32 → tDi → tDl → Prop} (H : ((9 ≤ x3 → (Wq none 2 31 29 [(0, .ref 159), (1, .int x1), (2, .int x2), (3, .int 0), (4, .int 0)] [] di dl (RI K))) ∧ (x3 < 9 → (inB x3 9 = true ∧ (Wq none 2 31 2 [(0, .ref 159), (1, .int x1), (2, .int x2), (3, .int (x3 + 1))] [] (up2 di 164 (x3.toNatClampNeg) 0) dl (RI K)))))) : Wq none 2 31 2 [(0, .ref 159), (1, .int x1), (2, .int x2), (3, .int x3)] [] di dl (RI K) := by
  refine q1 (ls' := [(0, .ref 159), (1, .int x1), (2, .int x2), (3, .int x3)]) I_31_2 rfl (wi_iload_n _ rfl ?_)
  refine q0 I_31_3 (wi_aload_n _ rfl ?_)
  refine q0 I_31_4 (wi_get (.ref 164) S_159 rfl (by decide) rfl ?_)
  refine q0 I_31_7 (wi_alen 9 S_164 (by decide) rfl ?_)
  refine q0 I_31_8 (wi_ic_ge (fun h => ?_) (fun h => ?_))
  · replace H := H.1 h
    refine q1 (ls' := [(0, .ref 159), (1, .int x1), (2, .int x2)]) I_31_24 rfl (wi_iconst 0 rfl ?_)
    refine q0 I_31_25 (wi_istore_n [(0, .ref 159), (1, .int x1), (2, .int x2), (3, .int 0)] (lt_e X_31 rfl) rfl ?_)
    refine q0 I_31_26 (wi_iconst 0 rfl ?_)
    refine q0 I_31_27 (wi_istore [(0, .ref 159), (1, .int x1), (2, .int x2), (3, .int 0), (4, .int 0)] (lt_e X_31 rfl) rfl ?_)
    exact Wq_c I_31_29 rfl rfl H
  · replace H := H.2 h
    refine q1 (ls' := [(0, .ref 159), (1, .int x1), (2, .int x2), (3, .int x3)]) I_31_11 rfl (wi_aload_n _ rfl ?_)
    refine q0 I_31_12 (wi_get (.ref 164) S_159 rfl (by decide) rfl ?_)
    refine q0 I_31_15 (wi_iload_n _ rfl ?_)
    refine q0 I_31_16 (wi_iconst 0 rfl ?_)
    have hb21 := H.1
    replace H := H.2
    refine q0 I_31_17 (wi_iastore (x3.toNatClampNeg) S_164 hb21 rfl ?_)
    refine q0 I_31_18 (wi_iinc 1 [(0, .ref 159), (1, .int x1), (2, .int x2), (3, .int (x3 + 1))] rfl (lt_e X_31 rfl) rfl rfl ?_)
    refine q0 I_31_21 (wi_goto ?_)
    exact Wq_c I_31_2 rfl rfl H
theorem r_31_29 {x1 : Int32} {x2 : Int32} {x3 : Int32} {x4 : Int32} {di : tDi} {dl : tDl} {K : Int32 → tDi → tDl → Prop} (H : (((di 159 9) ≤ x4 → (K x3 di dl)) ∧ (x4 < (di 159 9) → ((28 ≤ x4 → (K x3 di dl)) ∧ (x4 < 28 → (inB x4 28 = true ∧ (ClI 1 30 [.ref 159, .int ((di 163 (x4.toNatClampNeg)) / 8), .int ((di 163 (x4.toNatClampNeg)) - (di 163 (x4.toNatClampNeg)) / 8 * 8), .int x1, .int x2] di dl (fun r22 di22 dl22 => (((r22 + 1) < 0 → (Wq none 2 31 29 [(0, .ref 159), (1, .int x1), (2, .int x2), (3, .int x3), (4, .int (x4 + 1))] [] di22 dl22 (RI K))) ∧ (0 ≤ (r22 + 1) → ((9 ≤ (r22 + 1) → (Wq none 2 31 29 [(0, .ref 159), (1, .int x1), (2, .int x2), (3, .int x3), (4, .int (x4 + 1))] [] di22 dl22 (RI K))) ∧ ((r22 + 1) < 9 → (inB (r22 + 1) 9 = true ∧ (Wq none 2 31 29 [(0, .ref 159), (1, .int x1), (2, .int x2), (3, .int (imax x3 ((up2 di22 164 ((r22 + 1).toNatClampNeg) ((di22 164 ((r22 + 1).toNatClampNeg)) + 1)) 164 ((r22 + 1).toNatClampNeg)))), (4, .int (x4 + 1))] [] (up2 di22 164 ((r22 + 1).toNatClampNeg) ((di22 164 ((r22 + 1).toNatClampNeg)) + 1)) dl22 (RI K))))))))))))))) : Wq none 2 31 29 [(0, .ref 159), (1, .int x1), (2, .int x2), (3, .int x3), (4, .int x4)] [] di dl (RI K) := by
  refine q1 (ls' := [(0, .ref 159), (1, .int x1), (2, .int x2), (3, .int x3), (4, .int x4)]) I_31_29 rfl (wi_iload _ rfl ?_)
  refine q0 I_31_31 (wi_aload_n _ rfl ?_)
  refine q0 I_31_32 (wi_getI S_159 rfl (by decide) rfl ?_)
  refine q0 I_31_35 (wi_ic_ge (fun h => ?_) (fun h => ?_))
  · replace H := H.1 h
    refine q1 (ls' := [(3, .int x3)]) I_31_119 rfl (wi_iload_n _ rfl ?_)
    exact q0 I_31_120 (wi_iret T_31 C_31 ⟨_, rfl, H⟩)
  · replace H := H.2 h
    refine q1 (ls' := [(0, .ref 159), (1, .int x1), (2, .int x2), (3, .int x3), (4, .int x4)]) I_31_38 rfl (wi_iload _ rfl ?_)
    refine q0 I_31_40 (wi_bipush 28 rfl ?_)
    refine q0 I_31_42 (wi_ic_ge (fun h => ?_) (fun h => ?_))
    · replace H := H.1 h
      refine q1 (ls' := [(3, .int x3)]) I_31_119 rfl (wi_iload_n _ rfl ?_)
      exact q0 I_31_120 (wi_iret T_31 C_31 ⟨_, rfl, H⟩)
    · replace H := H.2 h
      refine q1 (ls' := [(0, .ref 159), (1, .int x1), (2, .int x2), (3, .int x3), (4, .int x4)]) I_31_45 rfl (wi_aload_n _ rfl ?_)
      refine q0 I_31_46 (wi_aload_n _ rfl ?_)
      refine q0 I_31_47 (wi_get (.ref 163) S_159 rfl (by decide) rfl ?_)
      refine q0 I_31_50 (wi_iload _ rfl ?_)
      have hb21 := H.1
      replace H := H.2
      refine q0 I_31_52 (wi_iaload (x4.toNatClampNeg) S_163 hb21 rfl ?_)
      refine q0 I_31_53 (wi_bipush 8 rfl ?_)
      refine q0 I_31_55 (wi_idiv (by decide) ?_)
      refine q0 I_31_56 (wi_aload_n _ rfl ?_)
      refine q0 I_31_57 (wi_get (.ref 163) S_159 rfl (by decide) rfl ?_)
      refine q0 I_31_60 (wi_iload _ rfl ?_)
      refine q0 I_31_62 (wi_iaload (x4.toNatClampNeg) S_163 hb21 rfl ?_)
      refine q0 I_31_63 (wi_bipush 8 rfl ?_)
      refine q0 I_31_65 (wi_irem (by decide) ?_)
      refine q0 I_31_66 (wi_iload_n _ rfl ?_)
      refine q0 I_31_67 (wi_iload_n _ rfl ?_)
      refine q0 I_31_68 (wi_virtI (e := 1) [.int ((di 163 (x4.toNatClampNeg)) / 8), .int ((di 163 (x4.toNatClampNeg)) - (di 163 (x4.toNatClampNeg)) / 8 * 8), .int x1, .int x2] [] S_159 rfl (by decide) rfl rfl rfl (okC_i rfl rfl rfl) C_30 (by decide) (ClI_mono H ?_))
      intro r22 di22 dl22 H
      refine q0 I_31_71 (wi_iconst 1 rfl ?_)
      refine q0 I_31_72 (wi_iadd ?_)
      refine q0 I_31_73 (wi_istore [(0, .ref 159), (1, .int x1), (2, .int x2), (3, .int x3), (4, .int x4), (5, .int (r22 + 1))] (lt_e X_31 rfl) rfl ?_)
      refine q0 I_31_75 (wi_iload _ rfl ?_)
      refine q0 I_31_77 (wi_if_lt (fun h => ?_) (fun h => ?_))
      · replace H := H.1 h
        refine q1 (ls' := [(0, .ref 159), (1, .int x1), (2, .int x2), (3, .int x3), (4, .int x4)]) I_31_113 rfl (wi_iinc 1 [(0, .ref 159), (1, .int x1), (2, .int x2), (3, .int x3), (4, .int (x4 + 1))] rfl (lt_e X_31 rfl) rfl rfl ?_)
        refine q0 I_31_116 (wi_goto ?_)
        exact Wq_c I_31_29 rfl rfl H
      · replace H := H.2 h
        refine q1 (ls' := [(0, .ref 159), (1, .int x1), (2, .int x2), (3, .int x3), (4, .int x4), (5, .int (r22 + 1))]) I_31_80 rfl (wi_iload _ rfl ?_)
        refine q0 I_31_82 (wi_aload_n _ rfl ?_)
        refine q0 I_31_83 (wi_get (.ref 164) S_159 rfl (by decide) rfl ?_)
        refine q0 I_31_86 (wi_alen 9 S_164 (by decide) rfl ?_)
        refine q0 I_31_87 (wi_ic_ge (fun h => ?_) (fun h => ?_))
        · replace H := H.1 h
          refine q1 (ls' := [(0, .ref 159), (1, .int x1), (2, .int x2), (3, .int x3), (4, .int x4)]) I_31_113 rfl (wi_iinc 1 [(0, .ref 159), (1, .int x1), (2, .int x2), (3, .int x3), (4, .int (x4 + 1))] rfl (lt_e X_31 rfl) rfl rfl ?_)
          refine q0 I_31_116 (wi_goto ?_)
          exact Wq_c I_31_29 rfl rfl H
        · replace H := H.2 h
          refine q1 (ls' := [(0, .ref 159), (1, .int x1), (2, .int x2), (3, .int x3), (4, .int x4), (5, .int (r22 + 1))]) I_31_90 rfl (wi_aload_n _ rfl ?_)
          refine q0 I_31_91 (wi_get (.ref 164) S_159 rfl (by decide) rfl ?_)
          refine q0 I_31_94 (wi_iload _ rfl ?_)
          refine q0 I_31_96 (wi_dup2 rfl rfl ?_)
          have hb23 := H.1
          replace H := H.2
          refine q0 I_31_97 (wi_iaload ((r22 + 1).toNatClampNeg) S_164 hb23 rfl ?_)
          refine q0 I_31_98 (wi_iconst 1 rfl ?_)
          refine q0 I_31_99 (wi_iadd ?_)
          refine q0 I_31_100 (wi_iastore ((r22 + 1).toNatClampNeg) S_164 hb23 rfl ?_)
          refine q0 I_31_101 (wi_iload_n _ rfl ?_)
          refine q0 I_31_102 (wi_aload_n _ rfl ?_)
          refine q0 I_31_103 (wi_get (.ref 164) S_159 rfl (by decide) rfl ?_)
          refine q0 I_31_106 (wi_iload _ rfl ?_)
          refine q0 I_31_108 (wi_iaload ((r22 + 1).toNatClampNeg) S_164 hb23 rfl ?_)
          refine q0 I_31_109 (wi_max rfl (Nat.le_of_ble_eq_true rfl) ?_)
          refine q0 I_31_112 (wi_istore_n [(0, .ref 159), (1, .int x1), (2, .int x2), (3, .int (imax x3 ((up2 di22 164 ((r22 + 1).toNatClampNeg) ((di22 164 ((r22 + 1).toNatClampNeg)) + 1)) 164 ((r22 + 1).toNatClampNeg)))), (4, .int x4), (5, .int (r22 + 1))] (lt_e X_31 rfl) rfl ?_)
          refine q1 (ls' := [(0, .ref 159), (1, .int x1), (2, .int x2), (3, .int (imax x3 ((up2 di22 164 ((r22 + 1).toNatClampNeg) ((di22 164 ((r22 + 1).toNatClampNeg)) + 1)) 164 ((r22 + 1).toNatClampNeg)))), (4, .int x4)]) I_31_113 rfl (wi_iinc 1 [(0, .ref 159), (1, .int x1), (2, .int x2), (3, .int (imax x3 ((up2 di22 164 ((r22 + 1).toNatClampNeg) ((di22 164 ((r22 + 1).toNatClampNeg)) + 1)) 164 ((r22 + 1).toNatClampNeg)))), (4, .int (x4 + 1))] rfl (lt_e X_31 rfl) rfl rfl ?_)
          refine q0 I_31_116 (wi_goto ?_)
          exact Wq_c I_31_29 rfl rfl H
theorem r_33 {a1 : Int32} {di : tDi} {dl : tDl} {K : Int32 → tDi → tDl → Prop} (H : (ClI 1 35 [.ref 5, .int a1] di dl (fun r1 di1 dl1 => ((r1 = (-1) → (K 0 di1 dl1)) ∧ (¬ r1 = (-1) → (K 1 di1 dl1)))))) : ClI 2 33 [.ref 5, .int a1] di dl K := by
  refine Cl_of C_33 Z_33 [(0, .ref 5), (1, .int a1)] rfl ?_
  refine q0 I_33_0 (wi_aload_n _ rfl ?_)
  refine q0 I_33_1 (wi_iload_n _ rfl ?_)
  refine q0 I_33_2 (wi_virtI (e := 1) [.int a1] [] S_5 rfl (by decide) rfl rfl rfl (okC_i rfl rfl rfl) C_35 (by decide) (ClI_mono H ?_))
  intro r1 di1 dl1 H
  refine q0 I_33_5 (wi_iconst (-1) rfl ?_)
  refine q0 I_33_6 (wi_ic_eq (fun h => ?_) (fun h => ?_))
  · replace H := H.1 h
    refine q1 (ls' := []) I_33_13 rfl (wi_iconst 0 rfl ?_)
    exact q1 (ls' := []) I_33_14 rfl (wi_zret T_33 (Or.inl C_33) (Or.inl rfl) ⟨_, rfl, H⟩)
  · replace H := H.2 h
    refine q1 (ls' := []) I_33_9 rfl (wi_iconst 1 rfl ?_)
    refine q0 I_33_10 (wi_goto ?_)
    exact q1 (ls' := []) I_33_14 rfl (wi_zret T_33 (Or.inl C_33) (Or.inr rfl) ⟨_, rfl, H⟩)
theorem r_34  {di : tDi} {dl : tDl} {K : Int32 → tDi → tDl → Prop} (H : (K (di 5 2) di dl)) : ClI 0 34 [.ref 5] di dl K := by
  refine Cl_of C_34 Z_34 [(0, .ref 5)] rfl ?_
  refine q0 I_34_0 (wi_aload_n _ rfl ?_)
  refine q0 I_34_1 (wi_getI S_5 rfl (by decide) rfl ?_)
  exact q0 I_34_4 (wi_iret T_34 C_34 ⟨_, rfl, H⟩)
theorem r_35 {a1 : Int32} {di : tDi} {dl : tDl} {K : Int32 → tDi → tDl → Prop} (H : (ClI 0 56 [.ref 5, .int a1] di dl (fun r1 di1 dl1 => ((r1 = 46 → (K 0 di1 dl1)) ∧ (¬ r1 = 46 → ((r1 = 102 → (K 2 di1 dl1)) ∧ (¬ r1 = 102 → ((r1 = 109 → (K 4 di1 dl1)) ∧ (¬ r1 = 109 → ((r1 = 114 → (K 1 di1 dl1)) ∧ (¬ r1 = 114 → ((r1 = 115 → (K 3 di1 dl1)) ∧ (¬ r1 = 115 → (K (-1) di1 dl1)))))))))))))) : ClI 1 35 [.ref 5, .int a1] di dl K := by
  refine Cl_of C_35 Z_35 [(0, .ref 5), (1, .int a1)] rfl ?_
  refine q0 I_35_0 (wi_aload_n _ rfl ?_)
  refine q0 I_35_1 (wi_iload_n _ rfl ?_)
  refine q0 I_35_2 (wi_virtI (e := 0) [.int a1] [] S_5 rfl (by decide) rfl rfl rfl (okC_i rfl rfl rfl) C_56 (by decide) (ClI_mono H ?_))
  intro r1 di1 dl1 H
  refine q0 I_35_5 (wi_lsw ?_)
  refine sw_cons 46 rfl ⟨fun h => ?_, fun h => ?_⟩
  · replace H := H.1 h
    refine q1 (ls' := []) I_35_56 rfl (wi_iconst 0 rfl ?_)
    exact q0 I_35_57 (wi_iret T_35 C_35 ⟨_, rfl, H⟩)
  · replace H := H.2 h
    refine sw_cons 102 rfl ⟨fun h => ?_, fun h => ?_⟩
    · replace H := H.1 h
      refine q1 (ls' := []) I_35_60 rfl (wi_iconst 2 rfl ?_)
      exact q0 I_35_61 (wi_iret T_35 C_35 ⟨_, rfl, H⟩)
    · replace H := H.2 h
      refine sw_cons 109 rfl ⟨fun h => ?_, fun h => ?_⟩
      · replace H := H.1 h
        refine q1 (ls' := []) I_35_64 rfl (wi_iconst 4 rfl ?_)
        exact q0 I_35_65 (wi_iret T_35 C_35 ⟨_, rfl, H⟩)
      · replace H := H.2 h
        refine sw_cons 114 rfl ⟨fun h => ?_, fun h => ?_⟩
        · replace H := H.1 h
          refine q1 (ls' := []) I_35_58 rfl (wi_iconst 1 rfl ?_)
          exact q0 I_35_59 (wi_iret T_35 C_35 ⟨_, rfl, H⟩)
        · replace H := H.2 h
          refine sw_cons 115 rfl ⟨fun h => ?_, fun h => ?_⟩
          · replace H := H.1 h
            refine q1 (ls' := []) I_35_62 rfl (wi_iconst 3 rfl ?_)
            exact q0 I_35_63 (wi_iret T_35 C_35 ⟨_, rfl, H⟩)
          · replace H := H.2 h
            refine sw_nil ?_
            refine q1 (ls' := []) I_35_66 rfl (wi_iconst (-1) rfl ?_)
            exact q0 I_35_67 (wi_iret T_35 C_35 ⟨_, rfl, H⟩)
theorem r_37 {j : Int32} (hb : inB j 4 = true)  {di : tDi} {dl : tDl} {K : Int32 → tDi → tDl → Prop} (H : ((¬ (di (168 + 2 * j.toNatClampNeg) 1) = (-1) → (K 0 di dl)) ∧ ((di (168 + 2 * j.toNatClampNeg) 1) = (-1) → (K 1 di dl)))) : ClI 0 37 [.ref (168 + 2 * j.toNatClampNeg)] di dl K := by
  refine Cl_of C_37 Z_37 [(0, .ref (168 + 2 * j.toNatClampNeg))] rfl ?_
  refine q0 I_37_0 (wi_aload_n _ rfl ?_)
  refine q0 I_37_1 (wi_getI (G_sheet hb) rfl (by decide) rfl ?_)
  refine q0 I_37_4 (wi_iconst (-1) rfl ?_)
  refine q0 I_37_5 (wi_ic_ne (fun h => ?_) (fun h => ?_))
  · replace H := H.1 h
    refine q1 (ls' := []) I_37_12 rfl (wi_iconst 0 rfl ?_)
    exact q1 (ls' := []) I_37_13 rfl (wi_zret T_37 (Or.inl C_37) (Or.inl rfl) ⟨_, rfl, H⟩)
  · replace H := H.2 h
    refine q1 (ls' := []) I_37_8 rfl (wi_iconst 1 rfl ?_)
    refine q0 I_37_9 (wi_goto ?_)
    exact q1 (ls' := []) I_37_13 rfl (wi_zret T_37 (Or.inl C_37) (Or.inr rfl) ⟨_, rfl, H⟩)
theorem r_38 {j : Int32} (hb : inB j 4 = true) {a1 : Int32} {a2 : Int32} {di : tDi} {dl : tDl} {K : tDi → tDl → Prop} (H : (Wq none 0 38 21 [(0, .ref (168 + 2 * j.toNatClampNeg)), (3, .int 0)] [] (up2 (up2 di (168 + 2 * j.toNatClampNeg) 1 a1) (168 + 2 * j.toNatClampNeg) 2 (imax 0 (imin a2 60))) dl (RV K))) : ClV 0 38 [.ref (168 + 2 * j.toNatClampNeg), .int a1, .int a2] di dl K := by
  refine Cl_of C_38 Z_38 [(0, .ref (168 + 2 * j.toNatClampNeg)), (1, .int a1), (2, .int a2)] rfl ?_
  refine q0 I_38_0 (wi_aload_n _ rfl ?_)
  refine q0 I_38_1 (wi_iload_n _ rfl ?_)
  refine q0 I_38_2 (wi_putI (G_sheet hb) rfl (by decide) rfl rfl rfl ?_)
  refine q0 I_38_5 (wi_aload_n _ rfl ?_)
  refine q0 I_38_6 (wi_iconst 0 rfl ?_)
  refine q0 I_38_7 (wi_iload_n _ rfl ?_)
  refine q0 I_38_8 (wi_bipush 60 rfl ?_)
  refine q0 I_38_10 (wi_min rfl (Nat.le_of_ble_eq_true rfl) ?_)
  refine q0 I_38_13 (wi_max rfl (Nat.le_of_ble_eq_true rfl) ?_)
  refine q0 I_38_16 (wi_putI (G_sheet hb) rfl (by decide) rfl rfl rfl ?_)
  refine q0 I_38_19 (wi_iconst 0 rfl ?_)
  refine q0 I_38_20 (wi_istore_n [(0, .ref (168 + 2 * j.toNatClampNeg)), (1, .int a1), (2, .int a2), (3, .int 0)] (lt_e X_38 rfl) rfl ?_)
  exact Wq_c I_38_21 rfl rfl H
theorem r_38_21 {j : Int32} (hb : inB j 4 = true) {x3 : Int32} {di : tDi} {dl : tDl} {K : tDi → tDl → Prop} (H : ((60 ≤ x3 → (K di dl)) ∧ (x3 < 60 → (inB x3 60 = true ∧ (Wq none 0 38 21 [(0, .ref (168 + 2 * j.toNatClampNeg)), (3, .int (x3 + 1))] [] (up2 di (169 + 2 * j.toNatClampNeg) (x3.toNatClampNeg) 0) dl (RV K)))))) : Wq none 0 38 21 [(0, .ref (168 + 2 * j.toNatClampNeg)), (3, .int x3)] [] di dl (RV K) := by
  refine q1 (ls' := [(0, .ref (168 + 2 * j.toNatClampNeg)), (3, .int x3)]) I_38_21 rfl (wi_iload_n _ rfl ?_)
  refine q0 I_38_22 (wi_bipush 60 rfl ?_)
  refine q0 I_38_24 (wi_ic_ge (fun h => ?_) (fun h => ?_))
  · replace H := H.1 h
    exact q1 (ls' := []) I_38_40 rfl (wi_ret T_38 C_38 ⟨rfl, H⟩)
  · replace H := H.2 h
    refine q1 (ls' := [(0, .ref (168 + 2 * j.toNatClampNeg)), (3, .int x3)]) I_38_27 rfl (wi_aload_n _ rfl ?_)
    refine q0 I_38_28 (wi_get (.ref (169 + 2 * j.toNatClampNeg)) (G_sheet hb) rfl (by decide) rfl ?_)
    refine q0 I_38_31 (wi_iload_n _ rfl ?_)
    refine q0 I_38_32 (wi_iconst 0 rfl ?_)
    have hb21 := H.1
    replace H := H.2
    refine q0 I_38_33 (wi_iastore (x3.toNatClampNeg) (G_items hb) hb21 rfl ?_)
    refine q0 I_38_34 (wi_iinc 1 [(0, .ref (168 + 2 * j.toNatClampNeg)), (3, .int (x3 + 1))] rfl (lt_e X_38 rfl) rfl rfl ?_)
    refine q0 I_38_37 (wi_goto ?_)
    exact Wq_c I_38_21 rfl rfl H
theorem r_39 {j : Int32} (hb : inB j 4 = true)  {di : tDi} {dl : tDl} {K : tDi → tDl → Prop} (H : (K (up2 (up2 di (168 + 2 * j.toNatClampNeg) 1 (-1)) (168 + 2 * j.toNatClampNeg) 2 0) dl)) : ClV 0 39 [.ref (168 + 2 * j.toNatClampNeg)] di dl K := by
  refine Cl_of C_39 Z_39 [(0, .ref (168 + 2 * j.toNatClampNeg))] rfl ?_
  refine q0 I_39_0 (wi_aload_n _ rfl ?_)
  refine q0 I_39_1 (wi_iconst (-1) rfl ?_)
  refine q0 I_39_2 (wi_putI (G_sheet hb) rfl (by decide) rfl rfl rfl ?_)
  refine q0 I_39_5 (wi_aload_n _ rfl ?_)
  refine q0 I_39_6 (wi_iconst 0 rfl ?_)
  refine q0 I_39_7 (wi_putI (G_sheet hb) rfl (by decide) rfl rfl rfl ?_)
  exact q0 I_39_10 (wi_ret T_39 C_39 ⟨rfl, H⟩)
theorem r_40 {j : Int32} (hb : inB j 4 = true) {a1 : Int32} {di : tDi} {dl : tDl} {K : Int32 → tDi → tDl → Prop} (H : ((a1 < 0 → (K 0 di dl)) ∧ (0 ≤ a1 → (((di (168 + 2 * j.toNatClampNeg) 2) ≤ a1 → (K 0 di dl)) ∧ (a1 < (di (168 + 2 * j.toNatClampNeg) 2) → ((60 ≤ a1 → (K 0 di dl)) ∧ (a1 < 60 → (K 1 di dl)))))))) : ClI 0 40 [.ref (168 + 2 * j.toNatClampNeg), .int a1] di dl K := by
  refine Cl_of C_40 Z_40 [(0, .ref (168 + 2 * j.toNatClampNeg)), (1, .int a1)] rfl ?_
  refine q0 I_40_0 (wi_iload_n _ rfl ?_)
  refine q0 I_40_1 (wi_if_lt (fun h => ?_) (fun h => ?_))
  · replace H := H.1 h
    refine q1 (ls' := []) I_40_22 rfl (wi_iconst 0 rfl ?_)
    exact q1 (ls' := []) I_40_23 rfl (wi_zret T_40 (Or.inl C_40) (Or.inl rfl) ⟨_, rfl, H⟩)
  · replace H := H.2 h
    refine q1 (ls' := [(0, .ref (168 + 2 * j.toNatClampNeg)), (1, .int a1)]) I_40_4 rfl (wi_iload_n _ rfl ?_)
    refine q0 I_40_5 (wi_aload_n _ rfl ?_)
    refine q0 I_40_6 (wi_getI (G_sheet hb) rfl (by decide) rfl ?_)
    refine q0 I_40_9 (wi_ic_ge (fun h => ?_) (fun h => ?_))
    · replace H := H.1 h
      refine q1 (ls' := []) I_40_22 rfl (wi_iconst 0 rfl ?_)
      exact q1 (ls' := []) I_40_23 rfl (wi_zret T_40 (Or.inl C_40) (Or.inl rfl) ⟨_, rfl, H⟩)
    · replace H := H.2 h
      refine q1 (ls' := [(1, .int a1)]) I_40_12 rfl (wi_iload_n _ rfl ?_)
      refine q0 I_40_13 (wi_bipush 60 rfl ?_)
      refine q0 I_40_15 (wi_ic_ge (fun h => ?_) (fun h => ?_))
      · replace H := H.1 h
        refine q1 (ls' := []) I_40_22 rfl (wi_iconst 0 rfl ?_)
        exact q1 (ls' := []) I_40_23 rfl (wi_zret T_40 (Or.inl C_40) (Or.inl rfl) ⟨_, rfl, H⟩)
      · replace H := H.2 h
        refine q1 (ls' := []) I_40_18 rfl (wi_iconst 1 rfl ?_)
        refine q0 I_40_19 (wi_goto ?_)
        exact q1 (ls' := []) I_40_23 rfl (wi_zret T_40 (Or.inl C_40) (Or.inr rfl) ⟨_, rfl, H⟩)
theorem r_41 {j : Int32} (hb : inB j 4 = true) {a1 : Int32} {a2 : Int32} {di : tDi} {dl : tDl} {K : Int32 → tDi → tDl → Prop} (H : ((a1 < 0 → (K 0 di dl)) ∧ (0 ≤ a1 → ((a2 < 0 → (K 0 di dl)) ∧ (0 ≤ a2 → ((((di (168 + 2 * j.toNatClampNeg) 2) - a1) < a2 → (K 0 di dl)) ∧ (a2 ≤ ((di (168 + 2 * j.toNatClampNeg) 2) - a1) → (K 1 di dl)))))))) : ClI 0 41 [.ref (168 + 2 * j.toNatClampNeg), .int a1, .int a2] di dl K := by
  refine Cl_of C_41 Z_41 [(0, .ref (168 + 2 * j.toNatClampNeg)), (1, .int a1), (2, .int a2)] rfl ?_
  refine q0 I_41_0 (wi_iload_n _ rfl ?_)
  refine q0 I_41_1 (wi_if_lt (fun h => ?_) (fun h => ?_))
  · replace H := H.1 h
    refine q1 (ls' := []) I_41_22 rfl (wi_iconst 0 rfl ?_)
    exact q1 (ls' := []) I_41_23 rfl (wi_zret T_41 (Or.inl C_41) (Or.inl rfl) ⟨_, rfl, H⟩)
  · replace H := H.2 h
    refine q1 (ls' := [(0, .ref (168 + 2 * j.toNatClampNeg)), (1, .int a1), (2, .int a2)]) I_41_4 rfl (wi_iload_n _ rfl ?_)
    refine q0 I_41_5 (wi_if_lt (fun h => ?_) (fun h => ?_))
    · replace H := H.1 h
      refine q1 (ls' := []) I_41_22 rfl (wi_iconst 0 rfl ?_)
      exact q1 (ls' := []) I_41_23 rfl (wi_zret T_41 (Or.inl C_41) (Or.inl rfl) ⟨_, rfl, H⟩)
    · replace H := H.2 h
      refine q1 (ls' := [(0, .ref (168 + 2 * j.toNatClampNeg)), (1, .int a1), (2, .int a2)]) I_41_8 rfl (wi_iload_n _ rfl ?_)
      refine q0 I_41_9 (wi_aload_n _ rfl ?_)
      refine q0 I_41_10 (wi_getI (G_sheet hb) rfl (by decide) rfl ?_)
      refine q0 I_41_13 (wi_iload_n _ rfl ?_)
      refine q0 I_41_14 (wi_isub ?_)
      refine q0 I_41_15 (wi_ic_gt (fun h => ?_) (fun h => ?_))
      · replace H := H.1 h
        refine q1 (ls' := []) I_41_22 rfl (wi_iconst 0 rfl ?_)
        exact q1 (ls' := []) I_41_23 rfl (wi_zret T_41 (Or.inl C_41) (Or.inl rfl) ⟨_, rfl, H⟩)
      · replace H := H.2 h
        refine q1 (ls' := []) I_41_18 rfl (wi_iconst 1 rfl ?_)
        refine q0 I_41_19 (wi_goto ?_)
        exact q1 (ls' := []) I_41_23 rfl (wi_zret T_41 (Or.inl C_41) (Or.inr rfl) ⟨_, rfl, H⟩)
theorem r_42 {j : Int32} (hb : inB j 4 = true) {a1 : Int32} {a2 : Int32} {di : tDi} {dl : tDl} {K : tDi → tDl → Prop} (H : ((a1 < 0 → (K di dl)) ∧ (0 ≤ a1 → (((di (168 + 2 * j.toNatClampNeg) 2) ≤ a1 → (K di dl)) ∧ (a1 < (di (168 + 2 * j.toNatClampNeg) 2) → ((60 ≤ a1 → (K di dl)) ∧ (a1 < 60 → ((¬ (di (168 + 2 * j.toNatClampNeg) 1) = 0 → ((¬ (di (168 + 2 * j.toNatClampNeg) 1) = 1 → (inB a1 60 = true ∧ (K (up2 di (169 + 2 * j.toNatClampNeg) (a1.toNatClampNeg) a2) dl))) ∧ ((di (168 + 2 * j.toNatClampNeg) 1) = 1 → (inB a1 60 = true ∧ (K (up2 di (169 + 2 * j.toNatClampNeg) (a1.toNatClampNeg) (a2).toInt16.toInt32) dl))))) ∧ ((di (168 + 2 * j.toNatClampNeg) 1) = 0 → (inB a1 60 = true ∧ (K (up2 di (169 + 2 * j.toNatClampNeg) (a1.toNatClampNeg) (a2).toInt8.toInt32) dl))))))))))) : ClV 1 42 [.ref (168 + 2 * j.toNatClampNeg), .int a1, .int a2] di dl K := by
  refine Cl_of C_42 Z_42 [(0, .ref (168 + 2 * j.toNatClampNeg)), (1, .int a1), (2, .int a2)] rfl ?_
  refine q0 I_42_0 (wi_aload_n _ rfl ?_)
  refine q0 I_42_1 (wi_iload_n _ rfl ?_)
  refine q0 I_42_2 (wi_virtI (e := 0) [.int a1] [] (G_sheet hb) rfl (by decide) rfl rfl rfl (okC_i rfl rfl rfl) C_40 (by decide) (Cl_of C_40 Z_40 [(0, .ref (168 + 2 * j.toNatClampNeg)), (1, .int a1)] rfl ?_))
  refine q0 I_40_0 (wi_iload_n _ rfl ?_)
  refine q0 I_40_1 (wi_if_lt (fun h => ?_) (fun h => ?_))
  · replace H := H.1 h
    refine q1 (ls' := []) I_40_22 rfl (wi_iconst 0 rfl ?_)
    refine q1 (ls' := []) I_40_23 rfl (wi_zret T_40 (Or.inl C_40) (Or.inl rfl) ⟨_, rfl, ?_⟩)
    refine q0 I_42_5 (wi_ifT rfl ?_)
    exact q1 (ls' := []) I_42_40 rfl (wi_ret T_42 C_42 ⟨rfl, H⟩)
  · replace H := H.2 h
    refine q1 (ls' := [(0, .ref (168 + 2 * j.toNatClampNeg)), (1, .int a1)]) I_40_4 rfl (wi_iload_n _ rfl ?_)
    refine q0 I_40_5 (wi_aload_n _ rfl ?_)
    refine q0 I_40_6 (wi_getI (G_sheet hb) rfl (by decide) rfl ?_)
    refine q0 I_40_9 (wi_ic_ge (fun h => ?_) (fun h => ?_))
    · replace H := H.1 h
      refine q1 (ls' := []) I_40_22 rfl (wi_iconst 0 rfl ?_)
      refine q1 (ls' := []) I_40_23 rfl (wi_zret T_40 (Or.inl C_40) (Or.inl rfl) ⟨_, rfl, ?_⟩)
      refine q0 I_42_5 (wi_ifT rfl ?_)
      exact q1 (ls' := []) I_42_40 rfl (wi_ret T_42 C_42 ⟨rfl, H⟩)
    · replace H := H.2 h
      refine q1 (ls' := [(1, .int a1)]) I_40_12 rfl (wi_iload_n _ rfl ?_)
      refine q0 I_40_13 (wi_bipush 60 rfl ?_)
      refine q0 I_40_15 (wi_ic_ge (fun h => ?_) (fun h => ?_))
      · replace H := H.1 h
        refine q1 (ls' := []) I_40_22 rfl (wi_iconst 0 rfl ?_)
        refine q1 (ls' := []) I_40_23 rfl (wi_zret T_40 (Or.inl C_40) (Or.inl rfl) ⟨_, rfl, ?_⟩)
        refine q0 I_42_5 (wi_ifT rfl ?_)
        exact q1 (ls' := []) I_42_40 rfl (wi_ret T_42 C_42 ⟨rfl, H⟩)
      · replace H := H.2 h
        refine q1 (ls' := []) I_40_18 rfl (wi_iconst 1 rfl ?_)
        refine q0 I_40_19 (wi_goto ?_)
        refine q1 (ls' := []) I_40_23 rfl (wi_zret T_40 (Or.inl C_40) (Or.inr rfl) ⟨_, rfl, ?_⟩)
        refine q0 I_42_5 (wi_ifF rfl ?_)
        refine q1 (ls' := [(0, .ref (168 + 2 * j.toNatClampNeg)), (1, .int a1), (2, .int a2)]) I_42_8 rfl (wi_aload_n _ rfl ?_)
        refine q0 I_42_9 (wi_get (.ref (169 + 2 * j.toNatClampNeg)) (G_sheet hb) rfl (by decide) rfl ?_)
        refine q0 I_42_12 (wi_iload_n _ rfl ?_)
        refine q0 I_42_13 (wi_aload_n _ rfl ?_)
        refine q0 I_42_14 (wi_getI (G_sheet hb) rfl (by decide) rfl ?_)
        refine q0 I_42_17 (wi_if_ne (fun h => ?_) (fun h => ?_))
        · replace H := H.1 h
          refine q1 (ls' := [(0, .ref (168 + 2 * j.toNatClampNeg)), (2, .int a2)]) I_42_25 rfl (wi_aload_n _ rfl ?_)
          refine q0 I_42_26 (wi_getI (G_sheet hb) rfl (by decide) rfl ?_)
          refine q0 I_42_29 (wi_iconst 1 rfl ?_)
          refine q0 I_42_30 (wi_ic_ne (fun h => ?_) (fun h => ?_))
          · replace H := H.1 h
            refine q1 (ls' := [(2, .int a2)]) I_42_38 rfl (wi_iload_n _ rfl ?_)
            have hb1 := H.1
            replace H := H.2
            refine q1 (ls' := []) I_42_39 rfl (wi_iastore (a1.toNatClampNeg) (G_items hb) hb1 rfl ?_)
            exact q1 (ls' := []) I_42_40 rfl (wi_ret T_42 C_42 ⟨rfl, H⟩)
          · replace H := H.2 h
            refine q1 (ls' := [(2, .int a2)]) I_42_33 rfl (wi_iload_n _ rfl ?_)
            refine q0 I_42_34 (wi_i2s ?_)
            refine q0 I_42_35 (wi_goto ?_)
            have hb2 := H.1
            replace H := H.2
            refine q1 (ls' := []) I_42_39 rfl (wi_iastore (a1.toNatClampNeg) (G_items hb) hb2 rfl ?_)
            exact q1 (ls' := []) I_42_40 rfl (wi_ret T_42 C_42 ⟨rfl, H⟩)
        · replace H := H.2 h
          refine q1 (ls' := [(2, .int a2)]) I_42_20 rfl (wi_iload_n _ rfl ?_)
          refine q0 I_42_21 (wi_i2b ?_)
          refine q0 I_42_22 (wi_goto ?_)
          have hb3 := H.1
          replace H := H.2
          refine q1 (ls' := []) I_42_39 rfl (wi_iastore (a1.toNatClampNeg) (G_items hb) hb3 rfl ?_)
          exact q1 (ls' := []) I_42_40 rfl (wi_ret T_42 C_42 ⟨rfl, H⟩)
theorem r_43 {j : Int32} (hb : inB j 4 = true) {a1 : Int32} {di : tDi} {dl : tDl} {K : Int32 → tDi → tDl → Prop} (H : ((a1 < 0 → (K 0 di dl)) ∧ (0 ≤ a1 → (((di (168 + 2 * j.toNatClampNeg) 2) ≤ a1 → (K 0 di dl)) ∧ (a1 < (di (168 + 2 * j.toNatClampNeg) 2) → ((60 ≤ a1 → (K 0 di dl)) ∧ (a1 < 60 → (inB a1 60 = true ∧ (K (di (169 + 2 * j.toNatClampNeg) (a1.toNatClampNeg)) di dl))))))))) : ClI 1 43 [.ref (168 + 2 * j.toNatClampNeg), .int a1] di dl K := by
  refine Cl_of C_43 Z_43 [(0, .ref (168 + 2 * j.toNatClampNeg)), (1, .int a1)] rfl ?_
  refine q0 I_43_0 (wi_aload_n _ rfl ?_)
  refine q0 I_43_1 (wi_iload_n _ rfl ?_)
  refine q0 I_43_2 (wi_virtI (e := 0) [.int a1] [] (G_sheet hb) rfl (by decide) rfl rfl rfl (okC_i rfl rfl rfl) C_40 (by decide) (Cl_of C_40 Z_40 [(0, .ref (168 + 2 * j.toNatClampNeg)), (1, .int a1)] rfl ?_))
  refine q0 I_40_0 (wi_iload_n _ rfl ?_)
  refine q0 I_40_1 (wi_if_lt (fun h => ?_) (fun h => ?_))
  · replace H := H.1 h
    refine q1 (ls' := []) I_40_22 rfl (wi_iconst 0 rfl ?_)
    refine q1 (ls' := []) I_40_23 rfl (wi_zret T_40 (Or.inl C_40) (Or.inl rfl) ⟨_, rfl, ?_⟩)
    refine q0 I_43_5 (wi_ifT rfl ?_)
    refine q1 (ls' := []) I_43_17 rfl (wi_iconst 0 rfl ?_)
    exact q1 (ls' := []) I_43_18 rfl (wi_iret T_43 C_43 ⟨_, rfl, H⟩)
  · replace H := H.2 h
    refine q1 (ls' := [(0, .ref (168 + 2 * j.toNatClampNeg)), (1, .int a1)]) I_40_4 rfl (wi_iload_n _ rfl ?_)
    refine q0 I_40_5 (wi_aload_n _ rfl ?_)
    refine q0 I_40_6 (wi_getI (G_sheet hb) rfl (by decide) rfl ?_)
    refine q0 I_40_9 (wi_ic_ge (fun h => ?_) (fun h => ?_))
    · replace H := H.1 h
      refine q1 (ls' := []) I_40_22 rfl (wi_iconst 0 rfl ?_)
      refine q1 (ls' := []) I_40_23 rfl (wi_zret T_40 (Or.inl C_40) (Or.inl rfl) ⟨_, rfl, ?_⟩)
      refine q0 I_43_5 (wi_ifT rfl ?_)
      refine q1 (ls' := []) I_43_17 rfl (wi_iconst 0 rfl ?_)
      exact q1 (ls' := []) I_43_18 rfl (wi_iret T_43 C_43 ⟨_, rfl, H⟩)
    · replace H := H.2 h
      refine q1 (ls' := [(1, .int a1)]) I_40_12 rfl (wi_iload_n _ rfl ?_)
      refine q0 I_40_13 (wi_bipush 60 rfl ?_)
      refine q0 I_40_15 (wi_ic_ge (fun h => ?_) (fun h => ?_))
      · replace H := H.1 h
        refine q1 (ls' := []) I_40_22 rfl (wi_iconst 0 rfl ?_)
        refine q1 (ls' := []) I_40_23 rfl (wi_zret T_40 (Or.inl C_40) (Or.inl rfl) ⟨_, rfl, ?_⟩)
        refine q0 I_43_5 (wi_ifT rfl ?_)
        refine q1 (ls' := []) I_43_17 rfl (wi_iconst 0 rfl ?_)
        exact q1 (ls' := []) I_43_18 rfl (wi_iret T_43 C_43 ⟨_, rfl, H⟩)
      · replace H := H.2 h
        refine q1 (ls' := []) I_40_18 rfl (wi_iconst 1 rfl ?_)
        refine q0 I_40_19 (wi_goto ?_)
        refine q1 (ls' := []) I_40_23 rfl (wi_zret T_40 (Or.inl C_40) (Or.inr rfl) ⟨_, rfl, ?_⟩)
        refine q0 I_43_5 (wi_ifF rfl ?_)
        refine q1 (ls' := [(0, .ref (168 + 2 * j.toNatClampNeg)), (1, .int a1)]) I_43_8 rfl (wi_aload_n _ rfl ?_)
        refine q0 I_43_9 (wi_get (.ref (169 + 2 * j.toNatClampNeg)) (G_sheet hb) rfl (by decide) rfl ?_)
        refine q0 I_43_12 (wi_iload_n _ rfl ?_)
        have hb1 := H.1
        replace H := H.2
        refine q0 I_43_13 (wi_iaload (a1.toNatClampNeg) (G_items hb) hb1 rfl ?_)
        refine q0 I_43_14 (wi_goto ?_)
        exact q1 (ls' := []) I_43_18 rfl (wi_iret T_43 C_43 ⟨_, rfl, H⟩)
theorem r_45 {a1 : Int32} {di : tDi} {dl : tDl} {K : Int32 → tDi → tDl → Prop} (H : (ClI 0 56 [.ref 1, .int a1] di dl (fun r1 di1 dl1 => (((a1 / 5) < 8 → (((a1 - a1 / 5 * 5) = 0 → ((r1 < ((48 : Int32) + 1) → (K 0 di1 dl1)) ∧ (((48 : Int32) + 1) ≤ r1 → ((57 < r1 → (K 0 di1 dl1)) ∧ (r1 ≤ 57 → (K 1 di1 dl1)))))) ∧ (¬ (a1 - a1 / 5 * 5) = 0 → (((a1 - a1 / 5 * 5) = 1 → ((r1 < ((48 : Int32) + 0) → (K 0 di1 dl1)) ∧ (((48 : Int32) + 0) ≤ r1 → ((57 < r1 → (K 0 di1 dl1)) ∧ (r1 ≤ 57 → (K 1 di1 dl1)))))) ∧ (¬ (a1 - a1 / 5 * 5) = 1 → (((a1 - a1 / 5 * 5) = 2 → ((r1 < ((48 : Int32) + 0) → (K 0 di1 dl1)) ∧ (((48 : Int32) + 0) ≤ r1 → ((57 < r1 → (K 0 di1 dl1)) ∧ (r1 ≤ 57 → (K 1 di1 dl1)))))) ∧ (¬ (a1 - a1 / 5 * 5) = 2 → (((a1 - a1 / 5 * 5) = 3 → ((r1 = 110 → (K 1 di1 dl1)) ∧ (¬ r1 = 110 → ((¬ r1 = 115 → (K 0 di1 dl1)) ∧ (r1 = 115 → (K 1 di1 dl1)))))) ∧ (¬ (a1 - a1 / 5 * 5) = 3 → ((¬ r1 = 59 → (K 0 di1 dl1)) ∧ (r1 = 59 → (K 1 di1 dl1)))))))))))) ∧ (8 ≤ (a1 / 5) → (K 0 di1 dl1)))))) : ClI 1 45 [.ref 1, .int a1] di dl K := by
  refine Cl_of C_45 Z_45 [(0, .ref 1), (1, .int a1)] rfl ?_
  refine q0 I_45_0 (wi_aload_n _ rfl ?_)
  refine q0 I_45_1 (wi_iload_n _ rfl ?_)
  refine q0 I_45_2 (wi_virtI (e := 0) [.int a1] [] S_1 rfl (by decide) rfl rfl rfl (okC_i rfl rfl rfl) C_56 (by decide) (ClI_mono H ?_))
  intro r1 di1 dl1 H
  refine q0 I_45_5 (wi_istore_n [(0, .ref 1), (1, .int a1), (2, .int r1)] (lt_e X_45 rfl) rfl ?_)
  refine q0 I_45_6 (wi_iload_n _ rfl ?_)
  refine q0 I_45_7 (wi_iconst 5 rfl ?_)
  refine q0 I_45_8 (wi_idiv (by decide) ?_)
  refine q0 I_45_9 (wi_bipush 8 rfl ?_)
  refine q0 I_45_11 (wi_ic_lt (fun h => ?_) (fun h => ?_))
  · replace H := H.1 h
    refine q1 (ls' := [(1, .int a1), (2, .int r1)]) I_45_16 rfl (wi_iload_n _ rfl ?_)
    refine q0 I_45_17 (wi_iconst 5 rfl ?_)
    refine q0 I_45_18 (wi_irem (by decide) ?_)
    refine q0 I_45_19 (wi_tsw ?_)
    refine sw_cons 0 rfl ⟨fun h => ?_, fun h => ?_⟩
    · replace H := H.1 h
      refine q1 (ls' := [(2, .int r1)]) I_45_48 rfl (wi_iload_n _ rfl ?_)
      refine q0 I_45_49 (wi_iconst 1 rfl ?_)
      refine q0 I_45_50 (wi_statI (e := 0) [.int r1, .int 1] [] rfl (Or.inr rfl) rfl rfl rfl (okC_i rfl rfl rfl) C_59 (by decide) (Cl_of C_59 Z_59 [(0, .int r1), (1, .int 1)] rfl ?_))
      refine q0 I_59_0 (wi_iload_n _ rfl ?_)
      refine q0 I_59_1 (wi_bipush 48 rfl ?_)
      refine q0 I_59_3 (wi_iload_n _ rfl ?_)
      refine q0 I_59_4 (wi_iadd ?_)
      refine q0 I_59_5 (wi_ic_lt (fun h => ?_) (fun h => ?_))
      · replace H := H.1 h
        refine q1 (ls' := []) I_59_18 rfl (wi_iconst 0 rfl ?_)
        refine q1 (ls' := []) I_59_19 rfl (wi_zret T_59 (Or.inl C_59) (Or.inl rfl) ⟨_, rfl, ?_⟩)
        exact q0 I_45_53 (wi_zret T_45 (Or.inl C_45) (Or.inl rfl) ⟨_, rfl, H⟩)
      · replace H := H.2 h
        refine q1 (ls' := [(0, .int r1)]) I_59_8 rfl (wi_iload_n _ rfl ?_)
        refine q0 I_59_9 (wi_bipush 57 rfl ?_)
        refine q0 I_59_11 (wi_ic_gt (fun h => ?_) (fun h => ?_))
        · replace H := H.1 h
          refine q1 (ls' := []) I_59_18 rfl (wi_iconst 0 rfl ?_)
          refine q1 (ls' := []) I_59_19 rfl (wi_zret T_59 (Or.inl C_59) (Or.inl rfl) ⟨_, rfl, ?_⟩)
          exact q0 I_45_53 (wi_zret T_45 (Or.inl C_45) (Or.inl rfl) ⟨_, rfl, H⟩)
        · replace H := H.2 h
          refine q1 (ls' := []) I_59_14 rfl (wi_iconst 1 rfl ?_)
          refine q0 I_59_15 (wi_goto ?_)
          refine q1 (ls' := []) I_59_19 rfl (wi_zret T_59 (Or.inl C_59) (Or.inr rfl) ⟨_, rfl, ?_⟩)
          exact q0 I_45_53 (wi_zret T_45 (Or.inl C_45) (Or.inr rfl) ⟨_, rfl, H⟩)
    · replace H := H.2 h
      refine sw_cons 1 rfl ⟨fun h => ?_, fun h => ?_⟩
      · replace H := H.1 h
        refine q1 (ls' := [(2, .int r1)]) I_45_54 rfl (wi_iload_n _ rfl ?_)
        refine q0 I_45_55 (wi_iconst 0 rfl ?_)
        refine q0 I_45_56 (wi_statI (e := 0) [.int r1, .int 0] [] rfl (Or.inr rfl) rfl rfl rfl (okC_i rfl rfl rfl) C_59 (by decide) (Cl_of C_59 Z_59 [(0, .int r1), (1, .int 0)] rfl ?_))
        refine q0 I_59_0 (wi_iload_n _ rfl ?_)
        refine q0 I_59_1 (wi_bipush 48 rfl ?_)
        refine q0 I_59_3 (wi_iload_n _ rfl ?_)
        refine q0 I_59_4 (wi_iadd ?_)
        refine q0 I_59_5 (wi_ic_lt (fun h => ?_) (fun h => ?_))
        · replace H := H.1 h
          refine q1 (ls' := []) I_59_18 rfl (wi_iconst 0 rfl ?_)
          refine q1 (ls' := []) I_59_19 rfl (wi_zret T_59 (Or.inl C_59) (Or.inl rfl) ⟨_, rfl, ?_⟩)
          exact q0 I_45_59 (wi_zret T_45 (Or.inl C_45) (Or.inl rfl) ⟨_, rfl, H⟩)
        · replace H := H.2 h
          refine q1 (ls' := [(0, .int r1)]) I_59_8 rfl (wi_iload_n _ rfl ?_)
          refine q0 I_59_9 (wi_bipush 57 rfl ?_)
          refine q0 I_59_11 (wi_ic_gt (fun h => ?_) (fun h => ?_))
          · replace H := H.1 h
            refine q1 (ls' := []) I_59_18 rfl (wi_iconst 0 rfl ?_)
            refine q1 (ls' := []) I_59_19 rfl (wi_zret T_59 (Or.inl C_59) (Or.inl rfl) ⟨_, rfl, ?_⟩)
            exact q0 I_45_59 (wi_zret T_45 (Or.inl C_45) (Or.inl rfl) ⟨_, rfl, H⟩)
          · replace H := H.2 h
            refine q1 (ls' := []) I_59_14 rfl (wi_iconst 1 rfl ?_)
            refine q0 I_59_15 (wi_goto ?_)
            refine q1 (ls' := []) I_59_19 rfl (wi_zret T_59 (Or.inl C_59) (Or.inr rfl) ⟨_, rfl, ?_⟩)
            exact q0 I_45_59 (wi_zret T_45 (Or.inl C_45) (Or.inr rfl) ⟨_, rfl, H⟩)
      · replace H := H.2 h
        refine sw_cons 2 rfl ⟨fun h => ?_, fun h => ?_⟩
        · replace H := H.1 h
          refine q1 (ls' := [(2, .int r1)]) I_45_54 rfl (wi_iload_n _ rfl ?_)
          refine q0 I_45_55 (wi_iconst 0 rfl ?_)
          refine q0 I_45_56 (wi_statI (e := 0) [.int r1, .int 0] [] rfl (Or.inr rfl) rfl rfl rfl (okC_i rfl rfl rfl) C_59 (by decide) (Cl_of C_59 Z_59 [(0, .int r1), (1, .int 0)] rfl ?_))
          refine q0 I_59_0 (wi_iload_n _ rfl ?_)
          refine q0 I_59_1 (wi_bipush 48 rfl ?_)
          refine q0 I_59_3 (wi_iload_n _ rfl ?_)
          refine q0 I_59_4 (wi_iadd ?_)
          refine q0 I_59_5 (wi_ic_lt (fun h => ?_) (fun h => ?_))
          · replace H := H.1 h
            refine q1 (ls' := []) I_59_18 rfl (wi_iconst 0 rfl ?_)
            refine q1 (ls' := []) I_59_19 rfl (wi_zret T_59 (Or.inl C_59) (Or.inl rfl) ⟨_, rfl, ?_⟩)
            exact q0 I_45_59 (wi_zret T_45 (Or.inl C_45) (Or.inl rfl) ⟨_, rfl, H⟩)
          · replace H := H.2 h
            refine q1 (ls' := [(0, .int r1)]) I_59_8 rfl (wi_iload_n _ rfl ?_)
            refine q0 I_59_9 (wi_bipush 57 rfl ?_)
            refine q0 I_59_11 (wi_ic_gt (fun h => ?_) (fun h => ?_))
            · replace H := H.1 h
              refine q1 (ls' := []) I_59_18 rfl (wi_iconst 0 rfl ?_)
              refine q1 (ls' := []) I_59_19 rfl (wi_zret T_59 (Or.inl C_59) (Or.inl rfl) ⟨_, rfl, ?_⟩)
              exact q0 I_45_59 (wi_zret T_45 (Or.inl C_45) (Or.inl rfl) ⟨_, rfl, H⟩)
            · replace H := H.2 h
              refine q1 (ls' := []) I_59_14 rfl (wi_iconst 1 rfl ?_)
              refine q0 I_59_15 (wi_goto ?_)
              refine q1 (ls' := []) I_59_19 rfl (wi_zret T_59 (Or.inl C_59) (Or.inr rfl) ⟨_, rfl, ?_⟩)
              exact q0 I_45_59 (wi_zret T_45 (Or.inl C_45) (Or.inr rfl) ⟨_, rfl, H⟩)
        · replace H := H.2 h
          refine sw_cons 3 rfl ⟨fun h => ?_, fun h => ?_⟩
          · replace H := H.1 h
            refine q1 (ls' := [(2, .int r1)]) I_45_60 rfl (wi_iload_n _ rfl ?_)
            refine q0 I_45_61 (wi_bipush 110 rfl ?_)
            refine q0 I_45_63 (wi_ic_eq (fun h => ?_) (fun h => ?_))
            · replace H := H.1 h
              refine q1 (ls' := []) I_45_72 rfl (wi_iconst 1 rfl ?_)
              refine q0 I_45_73 (wi_goto ?_)
              exact q1 (ls' := []) I_45_77 rfl (wi_zret T_45 (Or.inl C_45) (Or.inr rfl) ⟨_, rfl, H⟩)
            · replace H := H.2 h
              refine q1 (ls' := [(2, .int r1)]) I_45_66 rfl (wi_iload_n _ rfl ?_)
              refine q0 I_45_67 (wi_bipush 115 rfl ?_)
              refine q0 I_45_69 (wi_ic_ne (fun h => ?_) (fun h => ?_))
              · replace H := H.1 h
                refine q1 (ls' := []) I_45_76 rfl (wi_iconst 0 rfl ?_)
                exact q1 (ls' := []) I_45_77 rfl (wi_zret T_45 (Or.inl C_45) (Or.inl rfl) ⟨_, rfl, H⟩)
              · replace H := H.2 h
                refine q1 (ls' := []) I_45_72 rfl (wi_iconst 1 rfl ?_)
                refine q0 I_45_73 (wi_goto ?_)
                exact q1 (ls' := []) I_45_77 rfl (wi_zret T_45 (Or.inl C_45) (Or.inr rfl) ⟨_, rfl, H⟩)
          · replace H := H.2 h
            refine sw_nil ?_
            refine q1 (ls' := [(2, .int r1)]) I_45_78 rfl (wi_iload_n _ rfl ?_)
            refine q0 I_45_79 (wi_bipush 59 rfl ?_)
            refine q0 I_45_81 (wi_ic_ne (fun h => ?_) (fun h => ?_))
            · replace H := H.1 h
              refine q1 (ls' := []) I_45_88 rfl (wi_iconst 0 rfl ?_)
              exact q1 (ls' := []) I_45_89 rfl (wi_zret T_45 (Or.inl C_45) (Or.inl rfl) ⟨_, rfl, H⟩)
            · replace H := H.2 h
              refine q1 (ls' := []) I_45_84 rfl (wi_iconst 1 rfl ?_)
              refine q0 I_45_85 (wi_goto ?_)
              exact q1 (ls' := []) I_45_89 rfl (wi_zret T_45 (Or.inl C_45) (Or.inr rfl) ⟨_, rfl, H⟩)
  · replace H := H.2 h
    refine q1 (ls' := []) I_45_14 rfl (wi_iconst 0 rfl ?_)
    exact q0 I_45_15 (wi_zret T_45 (Or.inl C_45) (Or.inl rfl) ⟨_, rfl, H⟩)
theorem r_46  {di : tDi} {dl : tDl} {K : Int32 → tDi → tDl → Prop} (H : (((di 1 2) = 0 → (K (((di 1 2) + 1) / 5) di dl)) ∧ (¬ (di 1 2) = 0 → ((¬ (((di 1 2) + 1) - ((di 1 2) + 1) / 5 * 5) = 0 → (K (-1) di dl)) ∧ ((((di 1 2) + 1) - ((di 1 2) + 1) / 5 * 5) = 0 → (K (((di 1 2) + 1) / 5) di dl)))))) : ClI 0 46 [.ref 1] di dl K := by
  refine Cl_of C_46 Z_46 [(0, .ref 1)] rfl ?_
  refine q0 I_46_0 (wi_aload_n _ rfl ?_)
  refine q0 I_46_1 (wi_getI S_1 rfl (by decide) rfl ?_)
  refine q0 I_46_4 (wi_if_eq (fun h => ?_) (fun h => ?_))
  · replace H := H.1 h
    refine q1 (ls' := [(0, .ref 1)]) I_46_18 rfl (wi_iconst 1 rfl ?_)
    refine q0 I_46_19 (wi_goto ?_)
    refine q1 (ls' := [(0, .ref 1)]) I_46_23 rfl (wi_istore_n [(0, .ref 1), (1, .int 1)] (lt_e X_46 rfl) rfl ?_)
    refine q0 I_46_24 (wi_iload_n _ rfl ?_)
    refine q0 I_46_25 (wi_ifF rfl ?_)
    refine q1 (ls' := [(0, .ref 1)]) I_46_28 rfl (wi_aload_n _ rfl ?_)
    refine q0 I_46_29 (wi_getI S_1 rfl (by decide) rfl ?_)
    refine q0 I_46_32 (wi_iconst 1 rfl ?_)
    refine q0 I_46_33 (wi_iadd ?_)
    refine q0 I_46_34 (wi_iconst 5 rfl ?_)
    refine q0 I_46_35 (wi_idiv (by decide) ?_)
    refine q0 I_46_36 (wi_goto ?_)
    exact q1 (ls' := []) I_46_40 rfl (wi_iret T_46 C_46 ⟨_, rfl, H⟩)
  · replace H := H.2 h
    refine q1 (ls' := [(0, .ref 1)]) I_46_7 rfl (wi_aload_n _ rfl ?_)
    refine q0 I_46_8 (wi_getI S_1 rfl (by decide) rfl ?_)
    refine q0 I_46_11 (wi_iconst 1 rfl ?_)
    refine q0 I_46_12 (wi_iadd ?_)
    refine q0 I_46_13 (wi_iconst 5 rfl ?_)
    refine q0 I_46_14 (wi_irem (by decide) ?_)
    refine q0 I_46_15 (wi_if_ne (fun h => ?_) (fun h => ?_))
    · replace H := H.1 h
      refine q1 (ls' := [(0, .ref 1)]) I_46_22 rfl (wi_iconst 0 rfl ?_)
      refine q1 (ls' := [(0, .ref 1)]) I_46_23 rfl (wi_istore_n [(0, .ref 1), (1, .int 0)] (lt_e X_46 rfl) rfl ?_)
      refine q0 I_46_24 (wi_iload_n _ rfl ?_)
      refine q0 I_46_25 (wi_ifT rfl ?_)
      refine q1 (ls' := []) I_46_39 rfl (wi_iconst (-1) rfl ?_)
      exact q1 (ls' := []) I_46_40 rfl (wi_iret T_46 C_46 ⟨_, rfl, H⟩)
    · replace H := H.2 h
      refine q1 (ls' := [(0, .ref 1)]) I_46_18 rfl (wi_iconst 1 rfl ?_)
      refine q0 I_46_19 (wi_goto ?_)
      refine q1 (ls' := [(0, .ref 1)]) I_46_23 rfl (wi_istore_n [(0, .ref 1), (1, .int 1)] (lt_e X_46 rfl) rfl ?_)
      refine q0 I_46_24 (wi_iload_n _ rfl ?_)
      refine q0 I_46_25 (wi_ifF rfl ?_)
      refine q1 (ls' := [(0, .ref 1)]) I_46_28 rfl (wi_aload_n _ rfl ?_)
      refine q0 I_46_29 (wi_getI S_1 rfl (by decide) rfl ?_)
      refine q0 I_46_32 (wi_iconst 1 rfl ?_)
      refine q0 I_46_33 (wi_iadd ?_)
      refine q0 I_46_34 (wi_iconst 5 rfl ?_)
      refine q0 I_46_35 (wi_idiv (by decide) ?_)
      refine q0 I_46_36 (wi_goto ?_)
      exact q1 (ls' := []) I_46_40 rfl (wi_iret T_46 C_46 ⟨_, rfl, H⟩)
theorem r_47 {a1 : Int32} {di : tDi} {dl : tDl} {K : Int32 → tDi → tDl → Prop} (H : (ClI 0 57 [.ref 1, .int (a1 * 5)] di dl (fun r1 di1 dl1 => (K r1 di1 dl1)))) : ClI 1 47 [.ref 1, .int a1] di dl K := by
  refine Cl_of C_47 Z_47 [(0, .ref 1), (1, .int a1)] rfl ?_
  refine q0 I_47_0 (wi_aload_n _ rfl ?_)
  refine q0 I_47_1 (wi_iload_n _ rfl ?_)
  refine q0 I_47_2 (wi_iconst 5 rfl ?_)
  refine q0 I_47_3 (wi_imul ?_)
  refine q0 I_47_4 (wi_virtI (e := 0) [.int (a1 * 5)] [] S_1 rfl (by decide) rfl rfl rfl (okC_i rfl rfl rfl) C_57 (by decide) (ClI_mono H ?_))
  intro r1 di1 dl1 H
  exact q0 I_47_7 (wi_iret T_47 C_47 ⟨_, rfl, H⟩)
theorem r_48 {a1 : Int32} {di : tDi} {dl : tDl} {K : Int32 → tDi → tDl → Prop} (H : (ClI 0 57 [.ref 1, .int ((a1 * 5) + 1)] di dl (fun r1 di1 dl1 => (K r1 di1 dl1)))) : ClI 1 48 [.ref 1, .int a1] di dl K := by
  refine Cl_of C_48 Z_48 [(0, .ref 1), (1, .int a1)] rfl ?_
  refine q0 I_48_0 (wi_aload_n _ rfl ?_)
  refine q0 I_48_1 (wi_iload_n _ rfl ?_)
  refine q0 I_48_2 (wi_iconst 5 rfl ?_)
  refine q0 I_48_3 (wi_imul ?_)
  refine q0 I_48_4 (wi_iconst 1 rfl ?_)
  refine q0 I_48_5 (wi_iadd ?_)
  refine q0 I_48_6 (wi_virtI (e := 0) [.int ((a1 * 5) + 1)] [] S_1 rfl (by decide) rfl rfl rfl (okC_i rfl rfl rfl) C_57 (by decide) (ClI_mono H ?_))
  intro r1 di1 dl1 H
  exact q0 I_48_9 (wi_iret T_48 C_48 ⟨_, rfl, H⟩)
theorem r_49 {a1 : Int32} {di : tDi} {dl : tDl} {K : Int32 → tDi → tDl → Prop} (H : (ClI 0 57 [.ref 1, .int ((a1 * 5) + 2)] di dl (fun r1 di1 dl1 => (K r1 di1 dl1)))) : ClI 1 49 [.ref 1, .int a1] di dl K := by
  refine Cl_of C_49 Z_49 [(0, .ref 1), (1, .int a1)] rfl ?_
  refine q0 I_49_0 (wi_aload_n _ rfl ?_)
  refine q0 I_49_1 (wi_iload_n _ rfl ?_)
  refine q0 I_49_2 (wi_iconst 5 rfl ?_)
  refine q0 I_49_3 (wi_imul ?_)
  refine q0 I_49_4 (wi_iconst 2 rfl ?_)
  refine q0 I_49_5 (wi_iadd ?_)
  refine q0 I_49_6 (wi_virtI (e := 0) [.int ((a1 * 5) + 2)] [] S_1 rfl (by decide) rfl rfl rfl (okC_i rfl rfl rfl) C_57 (by decide) (ClI_mono H ?_))
  intro r1 di1 dl1 H
  exact q0 I_49_9 (wi_iret T_49 C_49 ⟨_, rfl, H⟩)
theorem r_50 {a1 : Int32} {di : tDi} {dl : tDl} {K : Int32 → tDi → tDl → Prop} (H : (ClI 0 56 [.ref 1, .int ((a1 * 5) + 3)] di dl (fun r1 di1 dl1 => ((¬ r1 = 110 → (K 0 di1 dl1)) ∧ (r1 = 110 → (K 1 di1 dl1)))))) : ClI 1 50 [.ref 1, .int a1] di dl K := by
  refine Cl_of C_50 Z_50 [(0, .ref 1), (1, .int a1)] rfl ?_
  refine q0 I_50_0 (wi_aload_n _ rfl ?_)
  refine q0 I_50_1 (wi_iload_n _ rfl ?_)
  refine q0 I_50_2 (wi_iconst 5 rfl ?_)
  refine q0 I_50_3 (wi_imul ?_)
  refine q0 I_50_4 (wi_iconst 3 rfl ?_)
  refine q0 I_50_5 (wi_iadd ?_)
  refine q0 I_50_6 (wi_virtI (e := 0) [.int ((a1 * 5) + 3)] [] S_1 rfl (by decide) rfl rfl rfl (okC_i rfl rfl rfl) C_56 (by decide) (ClI_mono H ?_))
  intro r1 di1 dl1 H
  refine q0 I_50_9 (wi_bipush 110 rfl ?_)
  refine q0 I_50_11 (wi_ic_ne (fun h => ?_) (fun h => ?_))
  · replace H := H.1 h
    refine q1 (ls' := []) I_50_18 rfl (wi_iconst 0 rfl ?_)
    exact q1 (ls' := []) I_50_19 rfl (wi_zret T_50 (Or.inl C_50) (Or.inl rfl) ⟨_, rfl, H⟩)
  · replace H := H.2 h
    refine q1 (ls' := []) I_50_14 rfl (wi_iconst 1 rfl ?_)
    refine q0 I_50_15 (wi_goto ?_)
    exact q1 (ls' := []) I_50_19 rfl (wi_zret T_50 (Or.inl C_50) (Or.inr rfl) ⟨_, rfl, H⟩)
theorem r_52t1  {di : tDi} {dl : tDl} {K : Int32 → tDi → tDl → Prop} (H : (((di 1 1) ≤ (di 1 2) → (K 1 di dl)) ∧ ((di 1 2) < (di 1 1) → (((di 1 2) < 47 → (K 0 di dl)) ∧ (47 ≤ (di 1 2) → (K 1 di dl)))))) : ClI 0 52 [.ref 1] di dl K := by
  refine Cl_of C_52 Z_52 [(0, .ref 1)] rfl ?_
  refine q0 I_52_0 (wi_aload_n _ rfl ?_)
  refine q0 I_52_1 (wi_getI S_1 rfl (by decide) rfl ?_)
  refine q0 I_52_4 (wi_aload_n _ rfl ?_)
  refine q0 I_52_5 (wi_getI S_1 rfl (by decide) rfl ?_)
  refine q0 I_52_8 (wi_ic_ge (fun h => ?_) (fun h => ?_))
  · replace H := H.1 h
    refine q1 (ls' := []) I_52_23 rfl (wi_iconst 1 rfl ?_)
    refine q0 I_52_24 (wi_goto ?_)
    exact q1 (ls' := []) I_52_28 rfl (wi_zret T_52 (Or.inl C_52) (Or.inr rfl) ⟨_, rfl, H⟩)
  · replace H := H.2 h
    refine q1 (ls' := [(0, .ref 1)]) I_52_11 rfl (wi_aload_n _ rfl ?_)
    refine q0 I_52_12 (wi_getI S_1 rfl (by decide) rfl ?_)
    refine q0 I_52_15 (wi_aload_n _ rfl ?_)
    refine q0 I_52_16 (wi_get (.ref 2) S_1 rfl (by decide) rfl ?_)
    refine q0 I_52_19 (wi_alen 47 S_2 (by decide) rfl ?_)
    refine q0 I_52_20 (wi_ic_lt (fun h => ?_) (fun h => ?_))
    · replace H := H.1 h
      refine q1 (ls' := []) I_52_27 rfl (wi_iconst 0 rfl ?_)
      exact q1 (ls' := []) I_52_28 rfl (wi_zret T_52 (Or.inl C_52) (Or.inl rfl) ⟨_, rfl, H⟩)
    · replace H := H.2 h
      refine q1 (ls' := []) I_52_23 rfl (wi_iconst 1 rfl ?_)
      refine q0 I_52_24 (wi_goto ?_)
      exact q1 (ls' := []) I_52_28 rfl (wi_zret T_52 (Or.inl C_52) (Or.inr rfl) ⟨_, rfl, H⟩)
theorem r_52t3  {di : tDi} {dl : tDl} {K : Int32 → tDi → tDl → Prop} (H : (((di 3 1) ≤ (di 3 2) → (K 1 di dl)) ∧ ((di 3 2) < (di 3 1) → (((di 3 2) < 47 → (K 0 di dl)) ∧ (47 ≤ (di 3 2) → (K 1 di dl)))))) : ClI 0 52 [.ref 3] di dl K := by
  refine Cl_of C_52 Z_52 [(0, .ref 3)] rfl ?_
  refine q0 I_52_0 (wi_aload_n _ rfl ?_)
  refine q0 I_52_1 (wi_getI S_3 rfl (by decide) rfl ?_)
  refine q0 I_52_4 (wi_aload_n _ rfl ?_)
  refine q0 I_52_5 (wi_getI S_3 rfl (by decide) rfl ?_)
  refine q0 I_52_8 (wi_ic_ge (fun h => ?_) (fun h => ?_))
  · replace H := H.1 h
    refine q1 (ls' := []) I_52_23 rfl (wi_iconst 1 rfl ?_)
    refine q0 I_52_24 (wi_goto ?_)
    exact q1 (ls' := []) I_52_28 rfl (wi_zret T_52 (Or.inl C_52) (Or.inr rfl) ⟨_, rfl, H⟩)
  · replace H := H.2 h
    refine q1 (ls' := [(0, .ref 3)]) I_52_11 rfl (wi_aload_n _ rfl ?_)
    refine q0 I_52_12 (wi_getI S_3 rfl (by decide) rfl ?_)
    refine q0 I_52_15 (wi_aload_n _ rfl ?_)
    refine q0 I_52_16 (wi_get (.ref 4) S_3 rfl (by decide) rfl ?_)
    refine q0 I_52_19 (wi_alen 47 S_4 (by decide) rfl ?_)
    refine q0 I_52_20 (wi_ic_lt (fun h => ?_) (fun h => ?_))
    · replace H := H.1 h
      refine q1 (ls' := []) I_52_27 rfl (wi_iconst 0 rfl ?_)
      exact q1 (ls' := []) I_52_28 rfl (wi_zret T_52 (Or.inl C_52) (Or.inl rfl) ⟨_, rfl, H⟩)
    · replace H := H.2 h
      refine q1 (ls' := []) I_52_23 rfl (wi_iconst 1 rfl ?_)
      refine q0 I_52_24 (wi_goto ?_)
      exact q1 (ls' := []) I_52_28 rfl (wi_zret T_52 (Or.inl C_52) (Or.inr rfl) ⟨_, rfl, H⟩)
theorem r_52t5  {di : tDi} {dl : tDl} {K : Int32 → tDi → tDl → Prop} (H : (((di 5 1) ≤ (di 5 2) → (K 1 di dl)) ∧ ((di 5 2) < (di 5 1) → (((di 5 2) < 47 → (K 0 di dl)) ∧ (47 ≤ (di 5 2) → (K 1 di dl)))))) : ClI 0 52 [.ref 5] di dl K := by
  refine Cl_of C_52 Z_52 [(0, .ref 5)] rfl ?_
  refine q0 I_52_0 (wi_aload_n _ rfl ?_)
  refine q0 I_52_1 (wi_getI S_5 rfl (by decide) rfl ?_)
  refine q0 I_52_4 (wi_aload_n _ rfl ?_)
  refine q0 I_52_5 (wi_getI S_5 rfl (by decide) rfl ?_)
  refine q0 I_52_8 (wi_ic_ge (fun h => ?_) (fun h => ?_))
  · replace H := H.1 h
    refine q1 (ls' := []) I_52_23 rfl (wi_iconst 1 rfl ?_)
    refine q0 I_52_24 (wi_goto ?_)
    exact q1 (ls' := []) I_52_28 rfl (wi_zret T_52 (Or.inl C_52) (Or.inr rfl) ⟨_, rfl, H⟩)
  · replace H := H.2 h
    refine q1 (ls' := [(0, .ref 5)]) I_52_11 rfl (wi_aload_n _ rfl ?_)
    refine q0 I_52_12 (wi_getI S_5 rfl (by decide) rfl ?_)
    refine q0 I_52_15 (wi_aload_n _ rfl ?_)
    refine q0 I_52_16 (wi_get (.ref 6) S_5 rfl (by decide) rfl ?_)
    refine q0 I_52_19 (wi_alen 47 S_6 (by decide) rfl ?_)
    refine q0 I_52_20 (wi_ic_lt (fun h => ?_) (fun h => ?_))
    · replace H := H.1 h
      refine q1 (ls' := []) I_52_27 rfl (wi_iconst 0 rfl ?_)
      exact q1 (ls' := []) I_52_28 rfl (wi_zret T_52 (Or.inl C_52) (Or.inl rfl) ⟨_, rfl, H⟩)
    · replace H := H.2 h
      refine q1 (ls' := []) I_52_23 rfl (wi_iconst 1 rfl ?_)
      refine q0 I_52_24 (wi_goto ?_)
      exact q1 (ls' := []) I_52_28 rfl (wi_zret T_52 (Or.inl C_52) (Or.inr rfl) ⟨_, rfl, H⟩)
