/-! regions -/
theorem Wq_c {sc : tSc} {d m pc : Nat} {i : Instr} {t : Nat} {c : Int} {ps : List (Nat × Nat)} {L : List Nat} {ls ls' : tF} {st : List Value} {di : tDi} {dl : tDl} {P : tP} (hi : ins m pc = some (i, (t, c, ps, some L))) (hl : lflt (some L) ls = ls') (hl' : lflt (some L) ls' = ls') (h : Wq sc d m pc ls' st di dl P) : Wq sc d m pc ls st di dl P := by
  intro b
  obtain ⟨n, h⟩ := h b
  refine ⟨n, ?_⟩
  cases n with
  | zero => exact h
  | succ n =>
    unfold wp at h ⊢
    dsimp only at h ⊢
    rw [hi] at h ⊢
    dsimp only at h ⊢
    rw [hl'] at h
    rw [hl]
    exact h
theorem wi_ialoadV {sc : tSc} {d m pc t : Nat} {c : Int} {ps : List (Nat × Nat)} {ls : tF} {st : List Value} {di : tDi} {dl : tDl} {P : tP} {a n : Nat} {rf : List (Option Nat)} {j : Int32} (v : Int32) (q : Nat) (hS : S0[a]? = some (.inr (0, n, rf))) (hb : inB j n = true) (hq : j.toNatClampNeg = q) (hv : di a q = v) (k : Wq sc d m (pc + 1) ls (.int v :: st) di dl P) : WI sc d m .iaload t c ps pc ls (.int j :: .ref a :: st) di dl P := wi_iaload q hS hb hq (by rw [hv]; exact k)
theorem wi_laloadV {sc : tSc} {d m pc t : Nat} {c : Int} {ps : List (Nat × Nat)} {ls : tF} {st : List Value} {di : tDi} {dl : tDl} {P : tP} {a n : Nat} {rf : List (Option Nat)} {j : Int32} (v : Int64) (q : Nat) (hS : S0[a]? = some (.inr (1, n, rf))) (hb : inB j n = true) (hq : j.toNatClampNeg = q) (hv : dl a q = v) (k : Wq sc d m (pc + 1) ls (.long v :: st) di dl P) : WI sc d m .laload t c ps pc ls (.int j :: .ref a :: st) di dl P := wi_laload q hS hb hq (by rw [hv]; exact k)

theorem r_13  {di : tDi} {dl : tDl} {K : Int32 → tDi → tDl → Prop} (H : (K (di 146 0) di dl)) : ClI 0 13 [.ref 144] di dl K := by
  refine Cl_of C_13 Z_13 [(0, .ref 144)] rfl ?_
  refine q0 I_13_0 (wi_aload_n _ rfl ?_)
  refine q0 I_13_1 (wi_get (.ref 145) S_144 rfl (by decide) rfl ?_)
  refine q0 I_13_4 (wi_iconst 0 rfl ?_)
  refine q0 I_13_5 (wi_aaload (e := 2) 146 S_145 rfl (by decide) rfl ?_)
  refine q0 I_13_6 (wi_iconst 0 rfl ?_)
  refine q0 I_13_7 (wi_iaload 0 (rfl : S0[146]? = some (.inr (0, 256, []))) rfl rfl ?_)
  exact q0 I_13_8 (wi_iret T_13 C_13 ⟨_, rfl, H⟩)
theorem r_2 {a1 : Int32} {di : tDi} {dl : tDl} {K : tDi → tDl → Prop} (H : (Wq none 0 2 2 [(0, .ref 165), (1, .int a1), (2, .int 0)] [] di dl (RV K))) : ClV 0 2 [.ref 165, .int a1] di dl K := by
  refine Cl_of C_2 Z_2 [(0, .ref 165), (1, .int a1)] rfl ?_
  refine q0 I_2_0 (wi_iconst 0 rfl ?_)
  refine q0 I_2_1 (wi_istore_n [(0, .ref 165), (1, .int a1), (2, .int 0)] (lt_e X_2 rfl) rfl ?_)
  exact Wq_c I_2_2 rfl rfl H
theorem r_2_2 {x1 : Int32} {x2 : Int32} {di : tDi} {dl : tDl} {K : tDi → tDl → Prop} (H : ((9 < x2 → (K di (up2 (up2 dl 165 3 0) 165 4 1))) ∧ (x2 ≤ 9 → ((¬ x2 = x1 → (inB x2 10 = true ∧ (Wq none 0 2 2 [(0, .ref 165), (1, .int x1), (2, .int (x2 + 1))] [] di (up2 dl 166 (x2.toNatClampNeg) 0) (RV K)))) ∧ (x2 = x1 → (inB x2 10 = true ∧ (Wq none 0 2 2 [(0, .ref 165), (1, .int x1), (2, .int (x2 + 1))] [] di (up2 dl 166 (x2.toNatClampNeg) 1) (RV K)))))))) : Wq none 0 2 2 [(0, .ref 165), (1, .int x1), (2, .int x2)] [] di dl (RV K) := by
  refine q1 (ls' := [(0, .ref 165), (1, .int x1), (2, .int x2)]) I_2_2 rfl (wi_iload_n _ rfl ?_)
  refine q0 I_2_3 (wi_bipush 9 rfl ?_)
  refine q0 I_2_5 (wi_ic_gt (fun h => ?_) (fun h => ?_))
  · replace H := H.1 h
    refine q1 (ls' := [(0, .ref 165)]) I_2_30 rfl (wi_aload_n _ rfl ?_)
    refine q0 I_2_31 (wi_lconst 0 rfl ?_)
    refine q0 I_2_32 (wi_putJ S_165 rfl (by decide) rfl rfl rfl ?_)
    refine q0 I_2_35 (wi_aload_n _ rfl ?_)
    refine q0 I_2_36 (wi_lconst 1 rfl ?_)
    refine q0 I_2_37 (wi_putJ S_165 rfl (by decide) rfl rfl rfl ?_)
    exact q0 I_2_40 (wi_ret T_2 C_2 ⟨rfl, H⟩)
  · replace H := H.2 h
    refine q1 (ls' := [(0, .ref 165), (1, .int x1), (2, .int x2)]) I_2_8 rfl (wi_aload_n _ rfl ?_)
    refine q0 I_2_9 (wi_get (.ref 166) S_165 rfl (by decide) rfl ?_)
    refine q0 I_2_12 (wi_iload_n _ rfl ?_)
    refine q0 I_2_13 (wi_iload_n _ rfl ?_)
    refine q0 I_2_14 (wi_iload_n _ rfl ?_)
    refine q0 I_2_15 (wi_ic_ne (fun h => ?_) (fun h => ?_))
    · replace H := H.1 h
      refine q1 (ls' := [(0, .ref 165), (1, .int x1), (2, .int x2)]) I_2_22 rfl (wi_lconst 0 rfl ?_)
      have hb21 := H.1
      replace H := H.2
      refine q1 (ls' := [(0, .ref 165), (1, .int x1), (2, .int x2)]) I_2_23 rfl (wi_lastore (x2.toNatClampNeg) S_166 hb21 rfl ?_)
      refine q0 I_2_24 (wi_iinc 1 [(0, .ref 165), (1, .int x1), (2, .int (x2 + 1))] rfl (lt_e X_2 rfl) rfl rfl ?_)
      refine q0 I_2_27 (wi_goto ?_)
      exact Wq_c I_2_2 rfl rfl H
    · replace H := H.2 h
      refine q1 (ls' := [(0, .ref 165), (1, .int x1), (2, .int x2)]) I_2_18 rfl (wi_lconst 1 rfl ?_)
      refine q0 I_2_19 (wi_goto ?_)
      have hb22 := H.1
      replace H := H.2
      refine q1 (ls' := [(0, .ref 165), (1, .int x1), (2, .int x2)]) I_2_23 rfl (wi_lastore (x2.toNatClampNeg) S_166 hb22 rfl ?_)
      refine q0 I_2_24 (wi_iinc 1 [(0, .ref 165), (1, .int x1), (2, .int (x2 + 1))] rfl (lt_e X_2 rfl) rfl rfl ?_)
      refine q0 I_2_27 (wi_goto ?_)
      exact Wq_c I_2_2 rfl rfl H
theorem r_80 {a1 : Int32} {a2 : Int32} {di : tDi} {dl : tDl} {K : Int32 → tDi → tDl → Prop} (H : ((a1 < 0 → (K 0 di dl)) ∧ (0 ≤ a1 → ((26 ≤ a1 → (K 0 di dl)) ∧ (a1 < 26 → ((a2 < 0 → (K 0 di dl)) ∧ (0 ≤ a2 → ((8 ≤ a2 → (K 0 di dl)) ∧ (a2 < 8 → (K 1 di dl)))))))))) : ClI 0 80 [.int a1, .int a2] di dl K := by
  refine Cl_of C_80 Z_80 [(0, .int a1), (1, .int a2)] rfl ?_
  refine q0 I_80_0 (wi_iload_n _ rfl ?_)
  refine q0 I_80_1 (wi_if_lt (fun h => ?_) (fun h => ?_))
  · replace H := H.1 h
    refine q1 (ls' := []) I_80_24 rfl (wi_iconst 0 rfl ?_)
    exact q1 (ls' := []) I_80_25 rfl (wi_zret T_80 (Or.inl C_80) (Or.inl rfl) ⟨_, rfl, H⟩)
  · replace H := H.2 h
    refine q1 (ls' := [(0, .int a1), (1, .int a2)]) I_80_4 rfl (wi_iload_n _ rfl ?_)
    refine q0 I_80_5 (wi_bipush 26 rfl ?_)
    refine q0 I_80_7 (wi_ic_ge (fun h => ?_) (fun h => ?_))
    · replace H := H.1 h
      refine q1 (ls' := []) I_80_24 rfl (wi_iconst 0 rfl ?_)
      exact q1 (ls' := []) I_80_25 rfl (wi_zret T_80 (Or.inl C_80) (Or.inl rfl) ⟨_, rfl, H⟩)
    · replace H := H.2 h
      refine q1 (ls' := [(1, .int a2)]) I_80_10 rfl (wi_iload_n _ rfl ?_)
      refine q0 I_80_11 (wi_if_lt (fun h => ?_) (fun h => ?_))
      · replace H := H.1 h
        refine q1 (ls' := []) I_80_24 rfl (wi_iconst 0 rfl ?_)
        exact q1 (ls' := []) I_80_25 rfl (wi_zret T_80 (Or.inl C_80) (Or.inl rfl) ⟨_, rfl, H⟩)
      · replace H := H.2 h
        refine q1 (ls' := [(1, .int a2)]) I_80_14 rfl (wi_iload_n _ rfl ?_)
        refine q0 I_80_15 (wi_bipush 8 rfl ?_)
        refine q0 I_80_17 (wi_ic_ge (fun h => ?_) (fun h => ?_))
        · replace H := H.1 h
          refine q1 (ls' := []) I_80_24 rfl (wi_iconst 0 rfl ?_)
          exact q1 (ls' := []) I_80_25 rfl (wi_zret T_80 (Or.inl C_80) (Or.inl rfl) ⟨_, rfl, H⟩)
        · replace H := H.2 h
          refine q1 (ls' := []) I_80_20 rfl (wi_iconst 1 rfl ?_)
          refine q0 I_80_21 (wi_goto ?_)
          exact q1 (ls' := []) I_80_25 rfl (wi_zret T_80 (Or.inl C_80) (Or.inr rfl) ⟨_, rfl, H⟩)
theorem r_76 {a1 : Int32} {a2 : Int32} {di : tDi} {dl : tDl} {K : Int32 → tDi → tDl → Prop} (H : (ClI 2 72 [.ref 8, .int a1] di dl (fun r1 di1 dl1 => (Wq none 3 76 15 [(0, .ref 8), (1, .int a1), (2, .int a2), (3, .int (-1)), (4, .int 0), (5, .int r1), (6, .int 1)] [] di1 dl1 (RI K))))) : ClI 3 76 [.ref 8, .int a1, .int a2] di dl K := by
  refine Cl_of C_76 Z_76 [(0, .ref 8), (1, .int a1), (2, .int a2)] rfl ?_
  refine q0 I_76_0 (wi_iconst (-1) rfl ?_)
  refine q0 I_76_1 (wi_istore_n [(0, .ref 8), (1, .int a1), (2, .int a2), (3, .int (-1))] (lt_e X_76 rfl) rfl ?_)
  refine q0 I_76_2 (wi_iconst 0 rfl ?_)
  refine q0 I_76_3 (wi_istore [(0, .ref 8), (1, .int a1), (2, .int a2), (3, .int (-1)), (4, .int 0)] (lt_e X_76 rfl) rfl ?_)
  refine q0 I_76_5 (wi_aload_n _ rfl ?_)
  refine q0 I_76_6 (wi_iload_n _ rfl ?_)
  refine q0 I_76_7 (wi_virtI (e := 2) [.int a1] [] S_8 rfl (by decide) rfl rfl rfl (okC_i rfl rfl rfl) C_72 (by decide) (ClI_mono H ?_))
  intro r1 di1 dl1 H
  refine q0 I_76_10 (wi_istore [(0, .ref 8), (1, .int a1), (2, .int a2), (3, .int (-1)), (4, .int 0), (5, .int r1)] (lt_e X_76 rfl) rfl ?_)
  refine q0 I_76_12 (wi_iconst 1 rfl ?_)
  refine q0 I_76_13 (wi_istore [(0, .ref 8), (1, .int a1), (2, .int a2), (3, .int (-1)), (4, .int 0), (5, .int r1), (6, .int 1)] (lt_e X_76 rfl) rfl ?_)
  exact Wq_c I_76_15 rfl rfl H
theorem r_76_15 {x1 : Int32} {x2 : Int32} {x3 : Int32} {x4 : Int32} {x5 : Int32} {x6 : Int32} {di : tDi} {dl : tDl} {K : Int32 → tDi → tDl → Prop} (H : ((((1 : Int32) <<< ((di 3 4) &&& 31)) ≤ x6 → (K x3 di dl)) ∧ (x6 < ((1 : Int32) <<< ((di 3 4) &&& 31)) → ((¬ (x6 &&& x5) = 0 → (Wq none 3 76 15 [(0, .ref 8), (1, .int x1), (2, .int x2), (3, .int x3), (4, .int x4), (5, .int x5), (6, .int (x6 + 1))] [] di dl (RI K))) ∧ ((x6 &&& x5) = 0 → (ClI 2 81 [.ref 8, .int x1, .int x6] di dl (fun r21 di21 dl21 => ((x2 ≤ r21 → (ClI 2 82 [.ref 8, .int x1, .int x6] di21 dl21 (fun r22 di22 dl22 => ((¬ r22 = x4 → ((x3 = (-1) → (Wq none 3 76 15 [(0, .ref 8), (1, .int x1), (2, .int x2), (3, .int x6), (4, .int r22), (5, .int x5), (6, .int (x6 + 1))] [] di22 dl22 (RI K))) ∧ (¬ x3 = (-1) → ((r22 < x4 → (Wq none 3 76 15 [(0, .ref 8), (1, .int x1), (2, .int x2), (3, .int x6), (4, .int r22), (5, .int x5), (6, .int (x6 + 1))] [] di22 dl22 (RI K))) ∧ (x4 ≤ r22 → (Wq none 3 76 15 [(0, .ref 8), (1, .int x1), (2, .int x2), (3, .int x3), (4, .int x4), (5, .int x5), (6, .int (x6 + 1))] [] di22 dl22 (RI K))))))) ∧ (r22 = x4 → (ClI 0 219 [.int x6] di22 dl22 (fun r23 di23 dl23 => (ClI 0 219 [.int x3] di23 dl23 (fun r24 di24 dl24 => ((r24 ≤ r23 → ((x3 = (-1) → (Wq none 3 76 15 [(0, .ref 8), (1, .int x1), (2, .int x2), (3, .int x6), (4, .int r22), (5, .int x5), (6, .int (x6 + 1))] [] di24 dl24 (RI K))) ∧ (¬ x3 = (-1) → ((r22 < x4 → (Wq none 3 76 15 [(0, .ref 8), (1, .int x1), (2, .int x2), (3, .int x6), (4, .int r22), (5, .int x5), (6, .int (x6 + 1))] [] di24 dl24 (RI K))) ∧ (x4 ≤ r22 → (Wq none 3 76 15 [(0, .ref 8), (1, .int x1), (2, .int x2), (3, .int x3), (4, .int x4), (5, .int x5), (6, .int (x6 + 1))] [] di24 dl24 (RI K))))))) ∧ (r23 < r24 → ((x3 = (-1) → (Wq none 3 76 15 [(0, .ref 8), (1, .int x1), (2, .int x2), (3, .int x6), (4, .int r22), (5, .int x5), (6, .int (x6 + 1))] [] di24 dl24 (RI K))) ∧ (¬ x3 = (-1) → ((r22 < x4 → (Wq none 3 76 15 [(0, .ref 8), (1, .int x1), (2, .int x2), (3, .int x6), (4, .int r22), (5, .int x5), (6, .int (x6 + 1))] [] di24 dl24 (RI K))) ∧ (x4 ≤ r22 → (Wq none 3 76 15 [(0, .ref 8), (1, .int x1), (2, .int x2), (3, .int x6), (4, .int r22), (5, .int x5), (6, .int (x6 + 1))] [] di24 dl24 (RI K))))))))))))))))) ∧ (r21 < x2 → (Wq none 3 76 15 [(0, .ref 8), (1, .int x1), (2, .int x2), (3, .int x3), (4, .int x4), (5, .int x5), (6, .int (x6 + 1))] [] di21 dl21 (RI K))))))))))) : Wq none 3 76 15 [(0, .ref 8), (1, .int x1), (2, .int x2), (3, .int x3), (4, .int x4), (5, .int x5), (6, .int x6)] [] di dl (RI K) := by
  refine q1 (ls' := [(0, .ref 8), (1, .int x1), (2, .int x2), (3, .int x3), (4, .int x4), (5, .int x5), (6, .int x6)]) I_76_15 rfl (wi_iload _ rfl ?_)
  refine q0 I_76_17 (wi_iconst 1 rfl ?_)
  refine q0 I_76_18 (wi_aload_n _ rfl ?_)
  refine q0 I_76_19 (wi_get (.ref 3) S_8 rfl (by decide) rfl ?_)
  refine q0 I_76_22 (wi_getI S_3 rfl (by decide) rfl ?_)
  refine q0 I_76_25 (wi_ishl ?_)
  refine q0 I_76_26 (wi_ic_ge (fun h => ?_) (fun h => ?_))
  · replace H := H.1 h
    refine q1 (ls' := [(3, .int x3)]) I_76_116 rfl (wi_iload_n _ rfl ?_)
    exact q0 I_76_117 (wi_iret T_76 C_76 ⟨_, rfl, H⟩)
  · replace H := H.2 h
    refine q1 (ls' := [(0, .ref 8), (1, .int x1), (2, .int x2), (3, .int x3), (4, .int x4), (5, .int x5), (6, .int x6)]) I_76_29 rfl (wi_iload _ rfl ?_)
    refine q0 I_76_31 (wi_iload _ rfl ?_)
    refine q0 I_76_33 (wi_iand ?_)
    refine q0 I_76_34 (wi_if_ne (fun h => ?_) (fun h => ?_))
    · replace H := H.1 h
      refine q1 (ls' := [(0, .ref 8), (1, .int x1), (2, .int x2), (3, .int x3), (4, .int x4), (5, .int x5), (6, .int x6)]) I_76_110 rfl (wi_iinc 1 [(0, .ref 8), (1, .int x1), (2, .int x2), (3, .int x3), (4, .int x4), (5, .int x5), (6, .int (x6 + 1))] rfl (lt_e X_76 rfl) rfl rfl ?_)
      refine q0 I_76_113 (wi_goto ?_)
      exact Wq_c I_76_15 rfl rfl H
    · replace H := H.2 h
      refine q1 (ls' := [(0, .ref 8), (1, .int x1), (2, .int x2), (3, .int x3), (4, .int x4), (5, .int x5), (6, .int x6)]) I_76_37 rfl (wi_aload_n _ rfl ?_)
      refine q0 I_76_38 (wi_iload_n _ rfl ?_)
      refine q0 I_76_39 (wi_iload _ rfl ?_)
      refine q0 I_76_41 (wi_virtI (e := 2) [.int x1, .int x6] [] S_8 rfl (by decide) rfl rfl rfl (okC_i rfl rfl rfl) C_81 (by decide) (ClI_mono H ?_))
      intro r21 di21 dl21 H
      refine q0 I_76_44 (wi_iload_n _ rfl ?_)
      refine q0 I_76_45 (wi_ic_ge (fun h => ?_) (fun h => ?_))
      · replace H := H.1 h
        refine q1 (ls' := [(0, .ref 8), (1, .int x1), (2, .int x2), (3, .int x3), (4, .int x4), (5, .int x5), (6, .int x6)]) I_76_51 rfl (wi_aload_n _ rfl ?_)
        refine q0 I_76_52 (wi_iload_n _ rfl ?_)
        refine q0 I_76_53 (wi_iload _ rfl ?_)
        refine q0 I_76_55 (wi_virtI (e := 2) [.int x1, .int x6] [] S_8 rfl (by decide) rfl rfl rfl (okC_i rfl rfl rfl) C_82 (by decide) (ClI_mono H ?_))
        intro r22 di22 dl22 H
        refine q0 I_76_58 (wi_istore [(0, .ref 8), (1, .int x1), (2, .int x2), (3, .int x3), (4, .int x4), (5, .int x5), (6, .int x6), (7, .int r22)] (lt_e X_76 rfl) rfl ?_)
        refine q0 I_76_60 (wi_iload _ rfl ?_)
        refine q0 I_76_62 (wi_iload _ rfl ?_)
        refine q0 I_76_64 (wi_ic_ne (fun h => ?_) (fun h => ?_))
        · replace H := H.1 h
          refine q1 (ls' := [(0, .ref 8), (1, .int x1), (2, .int x2), (3, .int x3), (4, .int x4), (5, .int x5), (6, .int x6), (7, .int r22)]) I_76_83 rfl (wi_iconst 0 rfl ?_)
          refine q1 (ls' := [(0, .ref 8), (1, .int x1), (2, .int x2), (3, .int x3), (4, .int x4), (5, .int x5), (6, .int x6), (7, .int r22)]) I_76_84 rfl (wi_istore [(0, .ref 8), (1, .int x1), (2, .int x2), (3, .int x3), (4, .int x4), (5, .int x5), (6, .int x6), (7, .int r22), (8, .int 0)] (lt_e X_76 rfl) rfl ?_)
          refine q0 I_76_86 (wi_iload_n _ rfl ?_)
          refine q0 I_76_87 (wi_iconst (-1) rfl ?_)
          refine q0 I_76_88 (wi_ic_eq (fun h => ?_) (fun h => ?_))
          · replace H := H.1 h
            refine q1 (ls' := [(0, .ref 8), (1, .int x1), (2, .int x2), (5, .int x5), (6, .int x6), (7, .int r22)]) I_76_103 rfl (wi_iload _ rfl ?_)
            refine q0 I_76_105 (wi_istore_n [(0, .ref 8), (1, .int x1), (2, .int x2), (3, .int x6), (5, .int x5), (6, .int x6), (7, .int r22)] (lt_e X_76 rfl) rfl ?_)
            refine q0 I_76_106 (wi_iload _ rfl ?_)
            refine q0 I_76_108 (wi_istore [(0, .ref 8), (1, .int x1), (2, .int x2), (3, .int x6), (4, .int r22), (5, .int x5), (6, .int x6), (7, .int r22)] (lt_e X_76 rfl) rfl ?_)
            refine q1 (ls' := [(0, .ref 8), (1, .int x1), (2, .int x2), (3, .int x6), (4, .int r22), (5, .int x5), (6, .int x6)]) I_76_110 rfl (wi_iinc 1 [(0, .ref 8), (1, .int x1), (2, .int x2), (3, .int x6), (4, .int r22), (5, .int x5), (6, .int (x6 + 1))] rfl (lt_e X_76 rfl) rfl rfl ?_)
            refine q0 I_76_113 (wi_goto ?_)
            exact Wq_c I_76_15 rfl rfl H
          · replace H := H.2 h
            refine q1 (ls' := [(0, .ref 8), (1, .int x1), (2, .int x2), (3, .int x3), (4, .int x4), (5, .int x5), (6, .int x6), (7, .int r22), (8, .int 0)]) I_76_91 rfl (wi_iload _ rfl ?_)
            refine q0 I_76_93 (wi_iload _ rfl ?_)
            refine q0 I_76_95 (wi_ic_lt (fun h => ?_) (fun h => ?_))
            · replace H := H.1 h
              refine q1 (ls' := [(0, .ref 8), (1, .int x1), (2, .int x2), (5, .int x5), (6, .int x6), (7, .int r22)]) I_76_103 rfl (wi_iload _ rfl ?_)
              refine q0 I_76_105 (wi_istore_n [(0, .ref 8), (1, .int x1), (2, .int x2), (3, .int x6), (5, .int x5), (6, .int x6), (7, .int r22)] (lt_e X_76 rfl) rfl ?_)
              refine q0 I_76_106 (wi_iload _ rfl ?_)
              refine q0 I_76_108 (wi_istore [(0, .ref 8), (1, .int x1), (2, .int x2), (3, .int x6), (4, .int r22), (5, .int x5), (6, .int x6), (7, .int r22)] (lt_e X_76 rfl) rfl ?_)
              refine q1 (ls' := [(0, .ref 8), (1, .int x1), (2, .int x2), (3, .int x6), (4, .int r22), (5, .int x5), (6, .int x6)]) I_76_110 rfl (wi_iinc 1 [(0, .ref 8), (1, .int x1), (2, .int x2), (3, .int x6), (4, .int r22), (5, .int x5), (6, .int (x6 + 1))] rfl (lt_e X_76 rfl) rfl rfl ?_)
              refine q0 I_76_113 (wi_goto ?_)
              exact Wq_c I_76_15 rfl rfl H
            · replace H := H.2 h
              refine q1 (ls' := [(0, .ref 8), (1, .int x1), (2, .int x2), (3, .int x3), (4, .int x4), (5, .int x5), (6, .int x6), (7, .int r22), (8, .int 0)]) I_76_98 rfl (wi_iload _ rfl ?_)
              refine q0 I_76_100 (wi_ifT rfl ?_)
              refine q1 (ls' := [(0, .ref 8), (1, .int x1), (2, .int x2), (3, .int x3), (4, .int x4), (5, .int x5), (6, .int x6)]) I_76_110 rfl (wi_iinc 1 [(0, .ref 8), (1, .int x1), (2, .int x2), (3, .int x3), (4, .int x4), (5, .int x5), (6, .int (x6 + 1))] rfl (lt_e X_76 rfl) rfl rfl ?_)
              refine q0 I_76_113 (wi_goto ?_)
              exact Wq_c I_76_15 rfl rfl H
        · replace H := H.2 h
          refine q1 (ls' := [(0, .ref 8), (1, .int x1), (2, .int x2), (3, .int x3), (4, .int x4), (5, .int x5), (6, .int x6), (7, .int r22)]) I_76_67 rfl (wi_iload _ rfl ?_)
          refine q0 I_76_69 (wi_statI (e := 0) [.int x6] [] rfl (Or.inl rfl) rfl rfl rfl (okC_i rfl rfl rfl) C_219 (by decide) (ClI_mono H ?_))
          intro r23 di23 dl23 H
          refine q0 I_76_72 (wi_iload_n _ rfl ?_)
          refine q0 I_76_73 (wi_statI (e := 0) [.int x3] [.int r23] rfl (Or.inl rfl) rfl rfl rfl (okC_i rfl rfl rfl) C_219 (by decide) (ClI_mono H ?_))
          intro r24 di24 dl24 H
          refine q0 I_76_76 (wi_ic_ge (fun h => ?_) (fun h => ?_))
          · replace H := H.1 h
            refine q1 (ls' := [(0, .ref 8), (1, .int x1), (2, .int x2), (3, .int x3), (4, .int x4), (5, .int x5), (6, .int x6), (7, .int r22)]) I_76_83 rfl (wi_iconst 0 rfl ?_)
            refine q1 (ls' := [(0, .ref 8), (1, .int x1), (2, .int x2), (3, .int x3), (4, .int x4), (5, .int x5), (6, .int x6), (7, .int r22)]) I_76_84 rfl (wi_istore [(0, .ref 8), (1, .int x1), (2, .int x2), (3, .int x3), (4, .int x4), (5, .int x5), (6, .int x6), (7, .int r22), (8, .int 0)] (lt_e X_76 rfl) rfl ?_)
            refine q0 I_76_86 (wi_iload_n _ rfl ?_)
            refine q0 I_76_87 (wi_iconst (-1) rfl ?_)
            refine q0 I_76_88 (wi_ic_eq (fun h => ?_) (fun h => ?_))
            · replace H := H.1 h
              refine q1 (ls' := [(0, .ref 8), (1, .int x1), (2, .int x2), (5, .int x5), (6, .int x6), (7, .int r22)]) I_76_103 rfl (wi_iload _ rfl ?_)
              refine q0 I_76_105 (wi_istore_n [(0, .ref 8), (1, .int x1), (2, .int x2), (3, .int x6), (5, .int x5), (6, .int x6), (7, .int r22)] (lt_e X_76 rfl) rfl ?_)
              refine q0 I_76_106 (wi_iload _ rfl ?_)
              refine q0 I_76_108 (wi_istore [(0, .ref 8), (1, .int x1), (2, .int x2), (3, .int x6), (4, .int r22), (5, .int x5), (6, .int x6), (7, .int r22)] (lt_e X_76 rfl) rfl ?_)
              refine q1 (ls' := [(0, .ref 8), (1, .int x1), (2, .int x2), (3, .int x6), (4, .int r22), (5, .int x5), (6, .int x6)]) I_76_110 rfl (wi_iinc 1 [(0, .ref 8), (1, .int x1), (2, .int x2), (3, .int x6), (4, .int r22), (5, .int x5), (6, .int (x6 + 1))] rfl (lt_e X_76 rfl) rfl rfl ?_)
              refine q0 I_76_113 (wi_goto ?_)
              exact Wq_c I_76_15 rfl rfl H
            · replace H := H.2 h
              refine q1 (ls' := [(0, .ref 8), (1, .int x1), (2, .int x2), (3, .int x3), (4, .int x4), (5, .int x5), (6, .int x6), (7, .int r22), (8, .int 0)]) I_76_91 rfl (wi_iload _ rfl ?_)
              refine q0 I_76_93 (wi_iload _ rfl ?_)
              refine q0 I_76_95 (wi_ic_lt (fun h => ?_) (fun h => ?_))
              · replace H := H.1 h
                refine q1 (ls' := [(0, .ref 8), (1, .int x1), (2, .int x2), (5, .int x5), (6, .int x6), (7, .int r22)]) I_76_103 rfl (wi_iload _ rfl ?_)
                refine q0 I_76_105 (wi_istore_n [(0, .ref 8), (1, .int x1), (2, .int x2), (3, .int x6), (5, .int x5), (6, .int x6), (7, .int r22)] (lt_e X_76 rfl) rfl ?_)
                refine q0 I_76_106 (wi_iload _ rfl ?_)
                refine q0 I_76_108 (wi_istore [(0, .ref 8), (1, .int x1), (2, .int x2), (3, .int x6), (4, .int r22), (5, .int x5), (6, .int x6), (7, .int r22)] (lt_e X_76 rfl) rfl ?_)
                refine q1 (ls' := [(0, .ref 8), (1, .int x1), (2, .int x2), (3, .int x6), (4, .int r22), (5, .int x5), (6, .int x6)]) I_76_110 rfl (wi_iinc 1 [(0, .ref 8), (1, .int x1), (2, .int x2), (3, .int x6), (4, .int r22), (5, .int x5), (6, .int (x6 + 1))] rfl (lt_e X_76 rfl) rfl rfl ?_)
                refine q0 I_76_113 (wi_goto ?_)
                exact Wq_c I_76_15 rfl rfl H
              · replace H := H.2 h
                refine q1 (ls' := [(0, .ref 8), (1, .int x1), (2, .int x2), (3, .int x3), (4, .int x4), (5, .int x5), (6, .int x6), (7, .int r22), (8, .int 0)]) I_76_98 rfl (wi_iload _ rfl ?_)
                refine q0 I_76_100 (wi_ifT rfl ?_)
                refine q1 (ls' := [(0, .ref 8), (1, .int x1), (2, .int x2), (3, .int x3), (4, .int x4), (5, .int x5), (6, .int x6)]) I_76_110 rfl (wi_iinc 1 [(0, .ref 8), (1, .int x1), (2, .int x2), (3, .int x3), (4, .int x4), (5, .int x5), (6, .int (x6 + 1))] rfl (lt_e X_76 rfl) rfl rfl ?_)
                refine q0 I_76_113 (wi_goto ?_)
                exact Wq_c I_76_15 rfl rfl H
          · replace H := H.2 h
            refine q1 (ls' := [(0, .ref 8), (1, .int x1), (2, .int x2), (3, .int x3), (4, .int x4), (5, .int x5), (6, .int x6), (7, .int r22)]) I_76_79 rfl (wi_iconst 1 rfl ?_)
            refine q0 I_76_80 (wi_goto ?_)
            refine q1 (ls' := [(0, .ref 8), (1, .int x1), (2, .int x2), (3, .int x3), (4, .int x4), (5, .int x5), (6, .int x6), (7, .int r22)]) I_76_84 rfl (wi_istore [(0, .ref 8), (1, .int x1), (2, .int x2), (3, .int x3), (4, .int x4), (5, .int x5), (6, .int x6), (7, .int r22), (8, .int 1)] (lt_e X_76 rfl) rfl ?_)
            refine q0 I_76_86 (wi_iload_n _ rfl ?_)
            refine q0 I_76_87 (wi_iconst (-1) rfl ?_)
            refine q0 I_76_88 (wi_ic_eq (fun h => ?_) (fun h => ?_))
            · replace H := H.1 h
              refine q1 (ls' := [(0, .ref 8), (1, .int x1), (2, .int x2), (5, .int x5), (6, .int x6), (7, .int r22)]) I_76_103 rfl (wi_iload _ rfl ?_)
              refine q0 I_76_105 (wi_istore_n [(0, .ref 8), (1, .int x1), (2, .int x2), (3, .int x6), (5, .int x5), (6, .int x6), (7, .int r22)] (lt_e X_76 rfl) rfl ?_)
              refine q0 I_76_106 (wi_iload _ rfl ?_)
              refine q0 I_76_108 (wi_istore [(0, .ref 8), (1, .int x1), (2, .int x2), (3, .int x6), (4, .int r22), (5, .int x5), (6, .int x6), (7, .int r22)] (lt_e X_76 rfl) rfl ?_)
              refine q1 (ls' := [(0, .ref 8), (1, .int x1), (2, .int x2), (3, .int x6), (4, .int r22), (5, .int x5), (6, .int x6)]) I_76_110 rfl (wi_iinc 1 [(0, .ref 8), (1, .int x1), (2, .int x2), (3, .int x6), (4, .int r22), (5, .int x5), (6, .int (x6 + 1))] rfl (lt_e X_76 rfl) rfl rfl ?_)
              refine q0 I_76_113 (wi_goto ?_)
              exact Wq_c I_76_15 rfl rfl H
            · replace H := H.2 h
              refine q1 (ls' := [(0, .ref 8), (1, .int x1), (2, .int x2), (3, .int x3), (4, .int x4), (5, .int x5), (6, .int x6), (7, .int r22), (8, .int 1)]) I_76_91 rfl (wi_iload _ rfl ?_)
              refine q0 I_76_93 (wi_iload _ rfl ?_)
              refine q0 I_76_95 (wi_ic_lt (fun h => ?_) (fun h => ?_))
              · replace H := H.1 h
                refine q1 (ls' := [(0, .ref 8), (1, .int x1), (2, .int x2), (5, .int x5), (6, .int x6), (7, .int r22)]) I_76_103 rfl (wi_iload _ rfl ?_)
                refine q0 I_76_105 (wi_istore_n [(0, .ref 8), (1, .int x1), (2, .int x2), (3, .int x6), (5, .int x5), (6, .int x6), (7, .int r22)] (lt_e X_76 rfl) rfl ?_)
                refine q0 I_76_106 (wi_iload _ rfl ?_)
                refine q0 I_76_108 (wi_istore [(0, .ref 8), (1, .int x1), (2, .int x2), (3, .int x6), (4, .int r22), (5, .int x5), (6, .int x6), (7, .int r22)] (lt_e X_76 rfl) rfl ?_)
                refine q1 (ls' := [(0, .ref 8), (1, .int x1), (2, .int x2), (3, .int x6), (4, .int r22), (5, .int x5), (6, .int x6)]) I_76_110 rfl (wi_iinc 1 [(0, .ref 8), (1, .int x1), (2, .int x2), (3, .int x6), (4, .int r22), (5, .int x5), (6, .int (x6 + 1))] rfl (lt_e X_76 rfl) rfl rfl ?_)
                refine q0 I_76_113 (wi_goto ?_)
                exact Wq_c I_76_15 rfl rfl H
              · replace H := H.2 h
                refine q1 (ls' := [(0, .ref 8), (1, .int x1), (2, .int x2), (3, .int x3), (4, .int x4), (5, .int x5), (6, .int x6), (7, .int r22), (8, .int 1)]) I_76_98 rfl (wi_iload _ rfl ?_)
                refine q0 I_76_100 (wi_ifF rfl ?_)
                refine q1 (ls' := [(0, .ref 8), (1, .int x1), (2, .int x2), (5, .int x5), (6, .int x6), (7, .int r22)]) I_76_103 rfl (wi_iload _ rfl ?_)
                refine q0 I_76_105 (wi_istore_n [(0, .ref 8), (1, .int x1), (2, .int x2), (3, .int x6), (5, .int x5), (6, .int x6), (7, .int r22)] (lt_e X_76 rfl) rfl ?_)
                refine q0 I_76_106 (wi_iload _ rfl ?_)
                refine q0 I_76_108 (wi_istore [(0, .ref 8), (1, .int x1), (2, .int x2), (3, .int x6), (4, .int r22), (5, .int x5), (6, .int x6), (7, .int r22)] (lt_e X_76 rfl) rfl ?_)
                refine q1 (ls' := [(0, .ref 8), (1, .int x1), (2, .int x2), (3, .int x6), (4, .int r22), (5, .int x5), (6, .int x6)]) I_76_110 rfl (wi_iinc 1 [(0, .ref 8), (1, .int x1), (2, .int x2), (3, .int x6), (4, .int r22), (5, .int x5), (6, .int (x6 + 1))] rfl (lt_e X_76 rfl) rfl rfl ?_)
                refine q0 I_76_113 (wi_goto ?_)
                exact Wq_c I_76_15 rfl rfl H
      · replace H := H.2 h
        refine q1 (ls' := [(0, .ref 8), (1, .int x1), (2, .int x2), (3, .int x3), (4, .int x4), (5, .int x5), (6, .int x6)]) I_76_48 rfl (wi_goto ?_)
        refine q1 (ls' := [(0, .ref 8), (1, .int x1), (2, .int x2), (3, .int x3), (4, .int x4), (5, .int x5), (6, .int x6)]) I_76_110 rfl (wi_iinc 1 [(0, .ref 8), (1, .int x1), (2, .int x2), (3, .int x3), (4, .int x4), (5, .int x5), (6, .int (x6 + 1))] rfl (lt_e X_76 rfl) rfl rfl ?_)
        refine q0 I_76_113 (wi_goto ?_)
        exact Wq_c I_76_15 rfl rfl H
theorem r_3 {a1 : Int32} {a2 : Int32} {di : tDi} {dl : tDl} {K : tDi → tDl → Prop} (H : (Wq none 0 3 14 [(0, .ref 165), (1, .int a1), (2, .int a2), (3, .int 1)] [] di (up2 dl 166 0 ((dl 166 0) * 16)) (RV K))) : ClV 0 3 [.ref 165, .int a1, .int a2] di dl K := by
  refine Cl_of C_3 Z_3 [(0, .ref 165), (1, .int a1), (2, .int a2)] rfl ?_
  refine q0 I_3_0 (wi_aload_n _ rfl ?_)
  refine q0 I_3_1 (wi_get (.ref 166) S_165 rfl (by decide) rfl ?_)
  refine q0 I_3_4 (wi_iconst 0 rfl ?_)
  refine q0 I_3_5 (wi_dup2 rfl rfl ?_)
  refine q0 I_3_6 (wi_laload 0 S_166 rfl rfl ?_)
  refine q0 I_3_7 (wi_ldc2_w 16 rfl ?_)
  refine q0 I_3_10 (wi_lmul ?_)
  refine q0 I_3_11 (wi_lastore 0 S_166 rfl rfl ?_)
  refine q0 I_3_12 (wi_iconst 1 rfl ?_)
  refine q0 I_3_13 (wi_istore_n [(0, .ref 165), (1, .int a1), (2, .int a2), (3, .int 1)] (lt_e X_3 rfl) rfl ?_)
  exact Wq_c I_3_14 rfl rfl H
theorem r_3_14 {x1 : Int32} {x2 : Int32} {x3 : Int32} {di : tDi} {dl : tDl} {K : tDi → tDl → Prop} (H : ((9 < x3 → (K di (up2 dl 165 4 ((dl 165 4) * 16)))) ∧ (x3 ≤ 9 → (inB x3 10 = true ∧ (inB (imax 0 (x3 - x2)) 10 = true ∧ (Wq none 0 3 14 [(0, .ref 165), (1, .int x1), (2, .int x2), (3, .int (x3 + 1))] [] di (up2 (up2 dl 166 (x3.toNatClampNeg) ((dl 166 (x3.toNatClampNeg)) * (((16 : Int32) - x1) : Int32).toInt64)) 166 ((imax 0 (x3 - x2)).toNatClampNeg) (((up2 dl 166 (x3.toNatClampNeg) ((dl 166 (x3.toNatClampNeg)) * (((16 : Int32) - x1) : Int32).toInt64)) 166 ((imax 0 (x3 - x2)).toNatClampNeg)) + ((dl 166 (x3.toNatClampNeg)) * (x1 : Int32).toInt64))) (RV K))))))) : Wq none 0 3 14 [(0, .ref 165), (1, .int x1), (2, .int x2), (3, .int x3)] [] di dl (RV K) := by
  refine q1 (ls' := [(0, .ref 165), (1, .int x1), (2, .int x2), (3, .int x3)]) I_3_14 rfl (wi_iload_n _ rfl ?_)
  refine q0 I_3_15 (wi_bipush 9 rfl ?_)
  refine q0 I_3_17 (wi_ic_gt (fun h => ?_) (fun h => ?_))
  · replace H := H.1 h
    refine q1 (ls' := [(0, .ref 165)]) I_3_72 rfl (wi_aload_n _ rfl ?_)
    refine q0 I_3_73 (wi_dup rfl ?_)
    refine q0 I_3_74 (wi_getJ S_165 rfl (by decide) rfl ?_)
    refine q0 I_3_77 (wi_ldc2_w 16 rfl ?_)
    refine q0 I_3_80 (wi_lmul ?_)
    refine q0 I_3_81 (wi_putJ S_165 rfl (by decide) rfl rfl rfl ?_)
    exact q0 I_3_84 (wi_ret T_3 C_3 ⟨rfl, H⟩)
  · replace H := H.2 h
    refine q1 (ls' := [(0, .ref 165), (1, .int x1), (2, .int x2), (3, .int x3)]) I_3_20 rfl (wi_iconst 0 rfl ?_)
    refine q0 I_3_21 (wi_iload_n _ rfl ?_)
    refine q0 I_3_22 (wi_iload_n _ rfl ?_)
    refine q0 I_3_23 (wi_isub ?_)
    refine q0 I_3_24 (wi_max rfl (Nat.le_of_ble_eq_true rfl) ?_)
    refine q0 I_3_27 (wi_istore [(0, .ref 165), (1, .int x1), (2, .int x2), (3, .int x3), (4, .int (imax 0 (x3 - x2)))] (lt_e X_3 rfl) rfl ?_)
    refine q0 I_3_29 (wi_aload_n _ rfl ?_)
    refine q0 I_3_30 (wi_get (.ref 166) S_165 rfl (by decide) rfl ?_)
    refine q0 I_3_33 (wi_iload_n _ rfl ?_)
    have hb21 := H.1
    replace H := H.2
    refine q0 I_3_34 (wi_laload (x3.toNatClampNeg) S_166 hb21 rfl ?_)
    refine q0 I_3_35 (wi_lstore [(0, .ref 165), (1, .int x1), (2, .int x2), (3, .int x3), (4, .int (imax 0 (x3 - x2))), (5, .long (dl 166 (x3.toNatClampNeg)))] (lt_e X_3 rfl) rfl ?_)
    refine q0 I_3_37 (wi_aload_n _ rfl ?_)
    refine q0 I_3_38 (wi_get (.ref 166) S_165 rfl (by decide) rfl ?_)
    refine q0 I_3_41 (wi_iload_n _ rfl ?_)
    refine q0 I_3_42 (wi_lload _ rfl ?_)
    refine q0 I_3_44 (wi_bipush 16 rfl ?_)
    refine q0 I_3_46 (wi_iload_n _ rfl ?_)
    refine q0 I_3_47 (wi_isub ?_)
    refine q0 I_3_48 (wi_i2l ?_)
    refine q0 I_3_49 (wi_lmul ?_)
    refine q0 I_3_50 (wi_lastore (x3.toNatClampNeg) S_166 hb21 rfl ?_)
    refine q0 I_3_51 (wi_aload_n _ rfl ?_)
    refine q0 I_3_52 (wi_get (.ref 166) S_165 rfl (by decide) rfl ?_)
    refine q0 I_3_55 (wi_iload _ rfl ?_)
    refine q0 I_3_57 (wi_dup2 rfl rfl ?_)
    have hb22 := H.1
    replace H := H.2
    refine q0 I_3_58 (wi_laload ((imax 0 (x3 - x2)).toNatClampNeg) S_166 hb22 rfl ?_)
    refine q0 I_3_59 (wi_lload _ rfl ?_)
    refine q0 I_3_61 (wi_iload_n _ rfl ?_)
    refine q0 I_3_62 (wi_i2l ?_)
    refine q0 I_3_63 (wi_lmul ?_)
    refine q0 I_3_64 (wi_ladd ?_)
    refine q0 I_3_65 (wi_lastore ((imax 0 (x3 - x2)).toNatClampNeg) S_166 hb22 rfl ?_)
    refine q0 I_3_66 (wi_iinc 1 [(0, .ref 165), (1, .int x1), (2, .int x2), (3, .int (x3 + 1)), (4, .int (imax 0 (x3 - x2))), (5, .long (dl 166 (x3.toNatClampNeg)))] rfl (lt_e X_3 rfl) rfl rfl ?_)
    refine q0 I_3_69 (wi_goto ?_)
    exact Wq_c I_3_14 rfl rfl H
theorem r_119 {a1 : Int32} {a2 : Int32} {a3 : Int32} {a4 : Int32} {a5 : Int32} {di : tDi} {dl : tDl} {K : Int32 → tDi → tDl → Prop} (H : ((a1 < 0 → ((a3 < 0 → (K (-2) di dl)) ∧ (0 ≤ a3 → ((4 ≤ a3 → (K (-2) di dl)) ∧ (a3 < 4 → (inB a3 4 = true ∧ (K (-2) di dl))))))) ∧ (0 ≤ a1 → ((4 ≤ a1 → ((a3 < 0 → (K (-2) di dl)) ∧ (0 ≤ a3 → ((4 ≤ a3 → (K (-2) di dl)) ∧ (a3 < 4 → (inB a3 4 = true ∧ (K (-2) di dl))))))) ∧ (a1 < 4 → (inB a1 4 = true ∧ ((a3 < 0 → (K (-2) di dl)) ∧ (0 ≤ a3 → ((4 ≤ a3 → (K (-2) di dl)) ∧ (a3 < 4 → (inB a3 4 = true ∧ ((¬ (di (168 + 2 * a1.toNatClampNeg) 1) = (-1) → ((¬ (di (168 + 2 * a3.toNatClampNeg) 1) = (-1) → (((di (168 + 2 * a1.toNatClampNeg) 1) = (di (168 + 2 * a3.toNatClampNeg) 1) → ((a2 < 0 → (K (((-10) : Int32) - 2) (up2 di 0 10 2) dl)) ∧ (0 ≤ a2 → ((a5 < 0 → (K (((-10) : Int32) - 2) (up2 di 0 10 2) dl)) ∧ (0 ≤ a5 → ((((di (168 + 2 * a1.toNatClampNeg) 2) - a2) < a5 → (K (((-10) : Int32) - 2) (up2 di 0 10 2) dl)) ∧ (a5 ≤ ((di (168 + 2 * a1.toNatClampNeg) 2) - a2) → ((a4 < 0 → (K (((-10) : Int32) - 2) (up2 di 0 10 2) dl)) ∧ (0 ≤ a4 → ((a5 < 0 → (K (((-10) : Int32) - 2) (up2 di 0 10 2) dl)) ∧ (0 ≤ a5 → ((((di (168 + 2 * a3.toNatClampNeg) 2) - a4) < a5 → (K (((-10) : Int32) - 2) (up2 di 0 10 2) dl)) ∧ (a5 ≤ ((di (168 + 2 * a3.toNatClampNeg) 2) - a4) → ((¬ a2 < 0 ∧ ¬ a4 < 0 ∧ ¬ a5 < 0 ∧ a2.toNatClampNeg + a5.toNatClampNeg ≤ 60 ∧ a4.toNatClampNeg + a5.toNatClampNeg ≤ 60) ∧ (K 1 (cpy2 di (169 + 2 * a1.toNatClampNeg) (169 + 2 * a3.toNatClampNeg) ((a2 : Int32).toNatClampNeg) ((a4 : Int32).toNatClampNeg) ((a5 : Int32).toNatClampNeg)) dl))))))))))))))) ∧ (¬ (di (168 + 2 * a1.toNatClampNeg) 1) = (di (168 + 2 * a3.toNatClampNeg) 1) → (K (((-10) : Int32) - 4) (up2 di 0 10 4) dl)))) ∧ ((di (168 + 2 * a3.toNatClampNeg) 1) = (-1) → (K (((-10) : Int32) - 1) (up2 di 0 10 1) dl)))) ∧ ((di (168 + 2 * a1.toNatClampNeg) 1) = (-1) → (K (((-10) : Int32) - 1) (up2 di 0 10 1) dl)))))))))))))) : ClI 1 119 [.ref 0, .int a1, .int a2, .int a3, .int a4, .int a5] di dl K := by
  refine Cl_of C_119 Z_119 [(0, .ref 0), (1, .int a1), (2, .int a2), (3, .int a3), (4, .int a4), (5, .int a5)] rfl ?_
  refine q0 I_119_0 (wi_aload_n _ rfl ?_)
  refine q0 I_119_1 (wi_iload_n _ rfl ?_)
  refine q0 I_119_2 (wi_virtR (e := 0) [.int a1] [] S_0 rfl (by decide) rfl rfl rfl (okC_i rfl rfl rfl) C_127 (by decide) (Cl_of C_127 Z_127 [(0, .ref 0), (1, .int a1)] rfl ?_))
  refine q0 I_127_0 (wi_iload_n _ rfl ?_)
  refine q0 I_127_1 (wi_if_lt (fun h => ?_) (fun h => ?_))
  · replace H := H.1 h
    refine q1 (ls' := []) I_127_22 rfl (wi_null ?_)
    refine q1 (ls' := []) I_127_23 rfl (wi_nret T_127 C_127 ⟨_, rfl, ?_⟩)
    refine q0 I_119_5 (wi_astoreN [(0, .ref 0), (1, .int a1), (2, .int a2), (3, .int a3), (4, .int a4), (5, .int a5), (6, .null)] (lt_e X_119 rfl) rfl ?_)
    refine q0 I_119_7 (wi_aload_n _ rfl ?_)
    refine q0 I_119_8 (wi_iload_n _ rfl ?_)
    refine q0 I_119_9 (wi_virtR (e := 0) [.int a3] [] S_0 rfl (by decide) rfl rfl rfl (okC_i rfl rfl rfl) C_127 (by decide) (Cl_of C_127 Z_127 [(0, .ref 0), (1, .int a3)] rfl ?_))
    refine q0 I_127_0 (wi_iload_n _ rfl ?_)
    refine q0 I_127_1 (wi_if_lt (fun h => ?_) (fun h => ?_))
    · replace H := H.1 h
      refine q1 (ls' := []) I_127_22 rfl (wi_null ?_)
      refine q1 (ls' := []) I_127_23 rfl (wi_nret T_127 C_127 ⟨_, rfl, ?_⟩)
      refine q0 I_119_12 (wi_astoreN [(0, .ref 0), (1, .int a1), (2, .int a2), (3, .int a3), (4, .int a4), (5, .int a5), (6, .null), (7, .null)] (lt_e X_119 rfl) rfl ?_)
      refine q0 I_119_14 (wi_aloadN rfl ?_)
      refine q0 I_119_16 (wi_ifnullN ?_)
      refine q1 (ls' := []) I_119_24 rfl (wi_bipush (-2) rfl ?_)
      exact q0 I_119_26 (wi_iret T_119 C_119 ⟨_, rfl, H⟩)
    · replace H := H.2 h
      refine q1 (ls' := [(0, .ref 0), (1, .int a3)]) I_127_4 rfl (wi_iload_n _ rfl ?_)
      refine q0 I_127_5 (wi_aload_n _ rfl ?_)
      refine q0 I_127_6 (wi_get (.ref 167) S_0 rfl (by decide) rfl ?_)
      refine q0 I_127_9 (wi_alen 4 S_167 (by decide) rfl ?_)
      refine q0 I_127_10 (wi_ic_ge (fun h => ?_) (fun h => ?_))
      · replace H := H.1 h
        refine q1 (ls' := []) I_127_22 rfl (wi_null ?_)
        refine q1 (ls' := []) I_127_23 rfl (wi_nret T_127 C_127 ⟨_, rfl, ?_⟩)
        refine q0 I_119_12 (wi_astoreN [(0, .ref 0), (1, .int a1), (2, .int a2), (3, .int a3), (4, .int a4), (5, .int a5), (6, .null), (7, .null)] (lt_e X_119 rfl) rfl ?_)
        refine q0 I_119_14 (wi_aloadN rfl ?_)
        refine q0 I_119_16 (wi_ifnullN ?_)
        refine q1 (ls' := []) I_119_24 rfl (wi_bipush (-2) rfl ?_)
        exact q0 I_119_26 (wi_iret T_119 C_119 ⟨_, rfl, H⟩)
      · replace H := H.2 h
        refine q1 (ls' := [(0, .ref 0), (1, .int a3)]) I_127_13 rfl (wi_aload_n _ rfl ?_)
        refine q0 I_127_14 (wi_get (.ref 167) S_0 rfl (by decide) rfl ?_)
        refine q0 I_127_17 (wi_iload_n _ rfl ?_)
        have hb1 := H.1
        replace H := H.2
        refine q0 I_127_18 (wi_aaload (e := 1) (168 + 2 * a3.toNatClampNeg) S_167 hb1 (by decide) (K_167 hb1) ?_)
        refine q0 I_127_19 (wi_goto ?_)
        refine q1 (ls' := []) I_127_23 rfl (wi_aret T_127 C_127 ⟨_, rfl, ?_⟩)
        refine q0 I_119_12 (wi_astore [(0, .ref 0), (1, .int a1), (2, .int a2), (3, .int a3), (4, .int a4), (5, .int a5), (6, .null), (7, .ref (168 + 2 * a3.toNatClampNeg))] (lt_e X_119 rfl) rfl ?_)
        refine q0 I_119_14 (wi_aloadN rfl ?_)
        refine q0 I_119_16 (wi_ifnullN ?_)
        refine q1 (ls' := []) I_119_24 rfl (wi_bipush (-2) rfl ?_)
        exact q0 I_119_26 (wi_iret T_119 C_119 ⟨_, rfl, H⟩)
  · replace H := H.2 h
    refine q1 (ls' := [(0, .ref 0), (1, .int a1)]) I_127_4 rfl (wi_iload_n _ rfl ?_)
    refine q0 I_127_5 (wi_aload_n _ rfl ?_)
    refine q0 I_127_6 (wi_get (.ref 167) S_0 rfl (by decide) rfl ?_)
    refine q0 I_127_9 (wi_alen 4 S_167 (by decide) rfl ?_)
    refine q0 I_127_10 (wi_ic_ge (fun h => ?_) (fun h => ?_))
    · replace H := H.1 h
      refine q1 (ls' := []) I_127_22 rfl (wi_null ?_)
      refine q1 (ls' := []) I_127_23 rfl (wi_nret T_127 C_127 ⟨_, rfl, ?_⟩)
      refine q0 I_119_5 (wi_astoreN [(0, .ref 0), (1, .int a1), (2, .int a2), (3, .int a3), (4, .int a4), (5, .int a5), (6, .null)] (lt_e X_119 rfl) rfl ?_)
      refine q0 I_119_7 (wi_aload_n _ rfl ?_)
      refine q0 I_119_8 (wi_iload_n _ rfl ?_)
      refine q0 I_119_9 (wi_virtR (e := 0) [.int a3] [] S_0 rfl (by decide) rfl rfl rfl (okC_i rfl rfl rfl) C_127 (by decide) (Cl_of C_127 Z_127 [(0, .ref 0), (1, .int a3)] rfl ?_))
      refine q0 I_127_0 (wi_iload_n _ rfl ?_)
      refine q0 I_127_1 (wi_if_lt (fun h => ?_) (fun h => ?_))
      · replace H := H.1 h
        refine q1 (ls' := []) I_127_22 rfl (wi_null ?_)
        refine q1 (ls' := []) I_127_23 rfl (wi_nret T_127 C_127 ⟨_, rfl, ?_⟩)
        refine q0 I_119_12 (wi_astoreN [(0, .ref 0), (1, .int a1), (2, .int a2), (3, .int a3), (4, .int a4), (5, .int a5), (6, .null), (7, .null)] (lt_e X_119 rfl) rfl ?_)
        refine q0 I_119_14 (wi_aloadN rfl ?_)
        refine q0 I_119_16 (wi_ifnullN ?_)
        refine q1 (ls' := []) I_119_24 rfl (wi_bipush (-2) rfl ?_)
        exact q0 I_119_26 (wi_iret T_119 C_119 ⟨_, rfl, H⟩)
      · replace H := H.2 h
        refine q1 (ls' := [(0, .ref 0), (1, .int a3)]) I_127_4 rfl (wi_iload_n _ rfl ?_)
        refine q0 I_127_5 (wi_aload_n _ rfl ?_)
        refine q0 I_127_6 (wi_get (.ref 167) S_0 rfl (by decide) rfl ?_)
        refine q0 I_127_9 (wi_alen 4 S_167 (by decide) rfl ?_)
        refine q0 I_127_10 (wi_ic_ge (fun h => ?_) (fun h => ?_))
        · replace H := H.1 h
          refine q1 (ls' := []) I_127_22 rfl (wi_null ?_)
          refine q1 (ls' := []) I_127_23 rfl (wi_nret T_127 C_127 ⟨_, rfl, ?_⟩)
          refine q0 I_119_12 (wi_astoreN [(0, .ref 0), (1, .int a1), (2, .int a2), (3, .int a3), (4, .int a4), (5, .int a5), (6, .null), (7, .null)] (lt_e X_119 rfl) rfl ?_)
          refine q0 I_119_14 (wi_aloadN rfl ?_)
          refine q0 I_119_16 (wi_ifnullN ?_)
          refine q1 (ls' := []) I_119_24 rfl (wi_bipush (-2) rfl ?_)
          exact q0 I_119_26 (wi_iret T_119 C_119 ⟨_, rfl, H⟩)
        · replace H := H.2 h
          refine q1 (ls' := [(0, .ref 0), (1, .int a3)]) I_127_13 rfl (wi_aload_n _ rfl ?_)
          refine q0 I_127_14 (wi_get (.ref 167) S_0 rfl (by decide) rfl ?_)
          refine q0 I_127_17 (wi_iload_n _ rfl ?_)
          have hb2 := H.1
          replace H := H.2
          refine q0 I_127_18 (wi_aaload (e := 1) (168 + 2 * a3.toNatClampNeg) S_167 hb2 (by decide) (K_167 hb2) ?_)
          refine q0 I_127_19 (wi_goto ?_)
          refine q1 (ls' := []) I_127_23 rfl (wi_aret T_127 C_127 ⟨_, rfl, ?_⟩)
          refine q0 I_119_12 (wi_astore [(0, .ref 0), (1, .int a1), (2, .int a2), (3, .int a3), (4, .int a4), (5, .int a5), (6, .null), (7, .ref (168 + 2 * a3.toNatClampNeg))] (lt_e X_119 rfl) rfl ?_)
          refine q0 I_119_14 (wi_aloadN rfl ?_)
          refine q0 I_119_16 (wi_ifnullN ?_)
          refine q1 (ls' := []) I_119_24 rfl (wi_bipush (-2) rfl ?_)
          exact q0 I_119_26 (wi_iret T_119 C_119 ⟨_, rfl, H⟩)
    · replace H := H.2 h
      refine q1 (ls' := [(0, .ref 0), (1, .int a1)]) I_127_13 rfl (wi_aload_n _ rfl ?_)
      refine q0 I_127_14 (wi_get (.ref 167) S_0 rfl (by decide) rfl ?_)
      refine q0 I_127_17 (wi_iload_n _ rfl ?_)
      have hb3 := H.1
      replace H := H.2
      refine q0 I_127_18 (wi_aaload (e := 1) (168 + 2 * a1.toNatClampNeg) S_167 hb3 (by decide) (K_167 hb3) ?_)
      refine q0 I_127_19 (wi_goto ?_)
      refine q1 (ls' := []) I_127_23 rfl (wi_aret T_127 C_127 ⟨_, rfl, ?_⟩)
      refine q0 I_119_5 (wi_astore [(0, .ref 0), (1, .int a1), (2, .int a2), (3, .int a3), (4, .int a4), (5, .int a5), (6, .ref (168 + 2 * a1.toNatClampNeg))] (lt_e X_119 rfl) rfl ?_)
      refine q0 I_119_7 (wi_aload_n _ rfl ?_)
      refine q0 I_119_8 (wi_iload_n _ rfl ?_)
      refine q0 I_119_9 (wi_virtR (e := 0) [.int a3] [] S_0 rfl (by decide) rfl rfl rfl (okC_i rfl rfl rfl) C_127 (by decide) (Cl_of C_127 Z_127 [(0, .ref 0), (1, .int a3)] rfl ?_))
      refine q0 I_127_0 (wi_iload_n _ rfl ?_)
      refine q0 I_127_1 (wi_if_lt (fun h => ?_) (fun h => ?_))
      · replace H := H.1 h
        refine q1 (ls' := []) I_127_22 rfl (wi_null ?_)
        refine q1 (ls' := []) I_127_23 rfl (wi_nret T_127 C_127 ⟨_, rfl, ?_⟩)
        refine q0 I_119_12 (wi_astoreN [(0, .ref 0), (1, .int a1), (2, .int a2), (3, .int a3), (4, .int a4), (5, .int a5), (6, .ref (168 + 2 * a1.toNatClampNeg)), (7, .null)] (lt_e X_119 rfl) rfl ?_)
        refine q0 I_119_14 (wi_aload _ rfl ?_)
        refine q0 I_119_16 (wi_ifnullR ?_)
        refine q1 (ls' := [(0, .ref 0), (2, .int a2), (4, .int a4), (5, .int a5), (6, .ref (168 + 2 * a1.toNatClampNeg)), (7, .null)]) I_119_19 rfl (wi_aloadN rfl ?_)
        refine q0 I_119_21 (wi_ifnonnullN ?_)
        refine q1 (ls' := []) I_119_24 rfl (wi_bipush (-2) rfl ?_)
        exact q0 I_119_26 (wi_iret T_119 C_119 ⟨_, rfl, H⟩)
      · replace H := H.2 h
        refine q1 (ls' := [(0, .ref 0), (1, .int a3)]) I_127_4 rfl (wi_iload_n _ rfl ?_)
        refine q0 I_127_5 (wi_aload_n _ rfl ?_)
        refine q0 I_127_6 (wi_get (.ref 167) S_0 rfl (by decide) rfl ?_)
        refine q0 I_127_9 (wi_alen 4 S_167 (by decide) rfl ?_)
        refine q0 I_127_10 (wi_ic_ge (fun h => ?_) (fun h => ?_))
        · replace H := H.1 h
          refine q1 (ls' := []) I_127_22 rfl (wi_null ?_)
          refine q1 (ls' := []) I_127_23 rfl (wi_nret T_127 C_127 ⟨_, rfl, ?_⟩)
          refine q0 I_119_12 (wi_astoreN [(0, .ref 0), (1, .int a1), (2, .int a2), (3, .int a3), (4, .int a4), (5, .int a5), (6, .ref (168 + 2 * a1.toNatClampNeg)), (7, .null)] (lt_e X_119 rfl) rfl ?_)
          refine q0 I_119_14 (wi_aload _ rfl ?_)
          refine q0 I_119_16 (wi_ifnullR ?_)
          refine q1 (ls' := [(0, .ref 0), (2, .int a2), (4, .int a4), (5, .int a5), (6, .ref (168 + 2 * a1.toNatClampNeg)), (7, .null)]) I_119_19 rfl (wi_aloadN rfl ?_)
          refine q0 I_119_21 (wi_ifnonnullN ?_)
          refine q1 (ls' := []) I_119_24 rfl (wi_bipush (-2) rfl ?_)
          exact q0 I_119_26 (wi_iret T_119 C_119 ⟨_, rfl, H⟩)
        · replace H := H.2 h
          refine q1 (ls' := [(0, .ref 0), (1, .int a3)]) I_127_13 rfl (wi_aload_n _ rfl ?_)
          refine q0 I_127_14 (wi_get (.ref 167) S_0 rfl (by decide) rfl ?_)
          refine q0 I_127_17 (wi_iload_n _ rfl ?_)
          have hb4 := H.1
          replace H := H.2
          refine q0 I_127_18 (wi_aaload (e := 1) (168 + 2 * a3.toNatClampNeg) S_167 hb4 (by decide) (K_167 hb4) ?_)
          refine q0 I_127_19 (wi_goto ?_)
          refine q1 (ls' := []) I_127_23 rfl (wi_aret T_127 C_127 ⟨_, rfl, ?_⟩)
          refine q0 I_119_12 (wi_astore [(0, .ref 0), (1, .int a1), (2, .int a2), (3, .int a3), (4, .int a4), (5, .int a5), (6, .ref (168 + 2 * a1.toNatClampNeg)), (7, .ref (168 + 2 * a3.toNatClampNeg))] (lt_e X_119 rfl) rfl ?_)
          refine q0 I_119_14 (wi_aload _ rfl ?_)
          refine q0 I_119_16 (wi_ifnullR ?_)
          refine q1 (ls' := [(0, .ref 0), (2, .int a2), (4, .int a4), (5, .int a5), (6, .ref (168 + 2 * a1.toNatClampNeg)), (7, .ref (168 + 2 * a3.toNatClampNeg))]) I_119_19 rfl (wi_aload _ rfl ?_)
          refine q0 I_119_21 (wi_ifnonnullR ?_)
          refine q1 (ls' := [(0, .ref 0), (2, .int a2), (4, .int a4), (5, .int a5), (6, .ref (168 + 2 * a1.toNatClampNeg)), (7, .ref (168 + 2 * a3.toNatClampNeg))]) I_119_27 rfl (wi_aload _ rfl ?_)
          refine q0 I_119_29 (wi_virtI (e := 0) [] [] (G_sheet hb3) rfl (by decide) rfl rfl rfl (okC_i rfl rfl rfl) C_37 (by decide) (Cl_of C_37 Z_37 [(0, .ref (168 + 2 * a1.toNatClampNeg))] rfl ?_))
          refine q0 I_37_0 (wi_aload_n _ rfl ?_)
          refine q0 I_37_1 (wi_getI (G_sheet hb3) rfl (by decide) rfl ?_)
          refine q0 I_37_4 (wi_iconst (-1) rfl ?_)
          refine q0 I_37_5 (wi_ic_ne (fun h => ?_) (fun h => ?_))
          · replace H := H.1 h
            refine q1 (ls' := []) I_37_12 rfl (wi_iconst 0 rfl ?_)
            refine q1 (ls' := []) I_37_13 rfl (wi_zret T_37 (Or.inl C_37) (Or.inl rfl) ⟨_, rfl, ?_⟩)
            refine q0 I_119_32 (wi_ifF rfl ?_)
            refine q1 (ls' := [(0, .ref 0), (2, .int a2), (4, .int a4), (5, .int a5), (6, .ref (168 + 2 * a1.toNatClampNeg)), (7, .ref (168 + 2 * a3.toNatClampNeg))]) I_119_35 rfl (wi_aload _ rfl ?_)
            refine q0 I_119_37 (wi_virtI (e := 0) [] [] (G_sheet hb4) rfl (by decide) rfl rfl rfl (okC_i rfl rfl rfl) C_37 (by decide) (Cl_of C_37 Z_37 [(0, .ref (168 + 2 * a3.toNatClampNeg))] rfl ?_))
            refine q0 I_37_0 (wi_aload_n _ rfl ?_)
            refine q0 I_37_1 (wi_getI (G_sheet hb4) rfl (by decide) rfl ?_)
            refine q0 I_37_4 (wi_iconst (-1) rfl ?_)
            refine q0 I_37_5 (wi_ic_ne (fun h => ?_) (fun h => ?_))
            · replace H := H.1 h
              refine q1 (ls' := []) I_37_12 rfl (wi_iconst 0 rfl ?_)
              refine q1 (ls' := []) I_37_13 rfl (wi_zret T_37 (Or.inl C_37) (Or.inl rfl) ⟨_, rfl, ?_⟩)
              refine q0 I_119_40 (wi_ifT rfl ?_)
              refine q1 (ls' := [(0, .ref 0), (2, .int a2), (4, .int a4), (5, .int a5), (6, .ref (168 + 2 * a1.toNatClampNeg)), (7, .ref (168 + 2 * a3.toNatClampNeg))]) I_119_49 rfl (wi_aload _ rfl ?_)
              refine q0 I_119_51 (wi_getI (G_sheet hb3) rfl (by decide) rfl ?_)
              refine q0 I_119_54 (wi_aload _ rfl ?_)
              refine q0 I_119_56 (wi_getI (G_sheet hb4) rfl (by decide) rfl ?_)
              refine q0 I_119_59 (wi_ic_eq (fun h => ?_) (fun h => ?_))
              · replace H := H.1 h
                refine q1 (ls' := [(0, .ref 0), (2, .int a2), (4, .int a4), (5, .int a5), (6, .ref (168 + 2 * a1.toNatClampNeg)), (7, .ref (168 + 2 * a3.toNatClampNeg))]) I_119_68 rfl (wi_aload _ rfl ?_)
                refine q0 I_119_70 (wi_iload_n _ rfl ?_)
                refine q0 I_119_71 (wi_iload _ rfl ?_)
                refine q0 I_119_73 (wi_virtI (e := 0) [.int a2, .int a5] [] (G_sheet hb3) rfl (by decide) rfl rfl rfl (okC_i rfl rfl rfl) C_41 (by decide) (Cl_of C_41 Z_41 [(0, .ref (168 + 2 * a1.toNatClampNeg)), (1, .int a2), (2, .int a5)] rfl ?_))
                refine q0 I_41_0 (wi_iload_n _ rfl ?_)
                refine q0 I_41_1 (wi_if_lt (fun h => ?_) (fun h => ?_))
                · replace H := H.1 h
                  refine q1 (ls' := []) I_41_22 rfl (wi_iconst 0 rfl ?_)
                  refine q1 (ls' := []) I_41_23 rfl (wi_zret T_41 (Or.inl C_41) (Or.inl rfl) ⟨_, rfl, ?_⟩)
                  refine q0 I_119_76 (wi_ifT rfl ?_)
                  refine q1 (ls' := [(0, .ref 0)]) I_119_91 rfl (wi_aload_n _ rfl ?_)
                  refine q0 I_119_92 (wi_iconst 2 rfl ?_)
                  refine q0 I_119_93 (wi_virtI (e := 0) [.int 2] [] S_0 rfl (by decide) rfl rfl rfl (okC_i rfl rfl rfl) C_131 (by decide) (Cl_of C_131 Z_131 [(0, .ref 0), (1, .int 2)] rfl ?_))
                  refine q0 I_131_0 (wi_aload_n _ rfl ?_)
                  refine q0 I_131_1 (wi_iload_n _ rfl ?_)
                  refine q0 I_131_2 (wi_putI S_0 rfl (by decide) rfl rfl rfl ?_)
                  refine q0 I_131_5 (wi_bipush (-10) rfl ?_)
                  refine q0 I_131_7 (wi_iload_n _ rfl ?_)
                  refine q0 I_131_8 (wi_isub ?_)
                  refine q0 I_131_9 (wi_iret T_131 C_131 ⟨_, rfl, ?_⟩)
                  exact q0 I_119_96 (wi_iret T_119 C_119 ⟨_, rfl, H⟩)
                · replace H := H.2 h
                  refine q1 (ls' := [(0, .ref (168 + 2 * a1.toNatClampNeg)), (1, .int a2), (2, .int a5)]) I_41_4 rfl (wi_iload_n _ rfl ?_)
                  refine q0 I_41_5 (wi_if_lt (fun h => ?_) (fun h => ?_))
                  · replace H := H.1 h
                    refine q1 (ls' := []) I_41_22 rfl (wi_iconst 0 rfl ?_)
                    refine q1 (ls' := []) I_41_23 rfl (wi_zret T_41 (Or.inl C_41) (Or.inl rfl) ⟨_, rfl, ?_⟩)
                    refine q0 I_119_76 (wi_ifT rfl ?_)
                    refine q1 (ls' := [(0, .ref 0)]) I_119_91 rfl (wi_aload_n _ rfl ?_)
                    refine q0 I_119_92 (wi_iconst 2 rfl ?_)
                    refine q0 I_119_93 (wi_virtI (e := 0) [.int 2] [] S_0 rfl (by decide) rfl rfl rfl (okC_i rfl rfl rfl) C_131 (by decide) (Cl_of C_131 Z_131 [(0, .ref 0), (1, .int 2)] rfl ?_))
                    refine q0 I_131_0 (wi_aload_n _ rfl ?_)
                    refine q0 I_131_1 (wi_iload_n _ rfl ?_)
                    refine q0 I_131_2 (wi_putI S_0 rfl (by decide) rfl rfl rfl ?_)
                    refine q0 I_131_5 (wi_bipush (-10) rfl ?_)
                    refine q0 I_131_7 (wi_iload_n _ rfl ?_)
                    refine q0 I_131_8 (wi_isub ?_)
                    refine q0 I_131_9 (wi_iret T_131 C_131 ⟨_, rfl, ?_⟩)
                    exact q0 I_119_96 (wi_iret T_119 C_119 ⟨_, rfl, H⟩)
                  · replace H := H.2 h
                    refine q1 (ls' := [(0, .ref (168 + 2 * a1.toNatClampNeg)), (1, .int a2), (2, .int a5)]) I_41_8 rfl (wi_iload_n _ rfl ?_)
                    refine q0 I_41_9 (wi_aload_n _ rfl ?_)
                    refine q0 I_41_10 (wi_getI (G_sheet hb3) rfl (by decide) rfl ?_)
                    refine q0 I_41_13 (wi_iload_n _ rfl ?_)
                    refine q0 I_41_14 (wi_isub ?_)
                    refine q0 I_41_15 (wi_ic_gt (fun h => ?_) (fun h => ?_))
                    · replace H := H.1 h
                      refine q1 (ls' := []) I_41_22 rfl (wi_iconst 0 rfl ?_)
                      refine q1 (ls' := []) I_41_23 rfl (wi_zret T_41 (Or.inl C_41) (Or.inl rfl) ⟨_, rfl, ?_⟩)
                      refine q0 I_119_76 (wi_ifT rfl ?_)
                      refine q1 (ls' := [(0, .ref 0)]) I_119_91 rfl (wi_aload_n _ rfl ?_)
                      refine q0 I_119_92 (wi_iconst 2 rfl ?_)
                      refine q0 I_119_93 (wi_virtI (e := 0) [.int 2] [] S_0 rfl (by decide) rfl rfl rfl (okC_i rfl rfl rfl) C_131 (by decide) (Cl_of C_131 Z_131 [(0, .ref 0), (1, .int 2)] rfl ?_))
                      refine q0 I_131_0 (wi_aload_n _ rfl ?_)
                      refine q0 I_131_1 (wi_iload_n _ rfl ?_)
                      refine q0 I_131_2 (wi_putI S_0 rfl (by decide) rfl rfl rfl ?_)
                      refine q0 I_131_5 (wi_bipush (-10) rfl ?_)
                      refine q0 I_131_7 (wi_iload_n _ rfl ?_)
                      refine q0 I_131_8 (wi_isub ?_)
                      refine q0 I_131_9 (wi_iret T_131 C_131 ⟨_, rfl, ?_⟩)
                      exact q0 I_119_96 (wi_iret T_119 C_119 ⟨_, rfl, H⟩)
                    · replace H := H.2 h
                      refine q1 (ls' := []) I_41_18 rfl (wi_iconst 1 rfl ?_)
                      refine q0 I_41_19 (wi_goto ?_)
                      refine q1 (ls' := []) I_41_23 rfl (wi_zret T_41 (Or.inl C_41) (Or.inr rfl) ⟨_, rfl, ?_⟩)
                      refine q0 I_119_76 (wi_ifF rfl ?_)
                      refine q1 (ls' := [(0, .ref 0), (2, .int a2), (4, .int a4), (5, .int a5), (6, .ref (168 + 2 * a1.toNatClampNeg)), (7, .ref (168 + 2 * a3.toNatClampNeg))]) I_119_79 rfl (wi_aload _ rfl ?_)
                      refine q0 I_119_81 (wi_iload _ rfl ?_)
                      refine q0 I_119_83 (wi_iload _ rfl ?_)
                      refine q0 I_119_85 (wi_virtI (e := 0) [.int a4, .int a5] [] (G_sheet hb4) rfl (by decide) rfl rfl rfl (okC_i rfl rfl rfl) C_41 (by decide) (Cl_of C_41 Z_41 [(0, .ref (168 + 2 * a3.toNatClampNeg)), (1, .int a4), (2, .int a5)] rfl ?_))
                      refine q0 I_41_0 (wi_iload_n _ rfl ?_)
                      refine q0 I_41_1 (wi_if_lt (fun h => ?_) (fun h => ?_))
                      · replace H := H.1 h
                        refine q1 (ls' := []) I_41_22 rfl (wi_iconst 0 rfl ?_)
                        refine q1 (ls' := []) I_41_23 rfl (wi_zret T_41 (Or.inl C_41) (Or.inl rfl) ⟨_, rfl, ?_⟩)
                        refine q0 I_119_88 (wi_ifF rfl ?_)
                        refine q1 (ls' := [(0, .ref 0)]) I_119_91 rfl (wi_aload_n _ rfl ?_)
                        refine q0 I_119_92 (wi_iconst 2 rfl ?_)
                        refine q0 I_119_93 (wi_virtI (e := 0) [.int 2] [] S_0 rfl (by decide) rfl rfl rfl (okC_i rfl rfl rfl) C_131 (by decide) (Cl_of C_131 Z_131 [(0, .ref 0), (1, .int 2)] rfl ?_))
                        refine q0 I_131_0 (wi_aload_n _ rfl ?_)
                        refine q0 I_131_1 (wi_iload_n _ rfl ?_)
                        refine q0 I_131_2 (wi_putI S_0 rfl (by decide) rfl rfl rfl ?_)
                        refine q0 I_131_5 (wi_bipush (-10) rfl ?_)
                        refine q0 I_131_7 (wi_iload_n _ rfl ?_)
                        refine q0 I_131_8 (wi_isub ?_)
                        refine q0 I_131_9 (wi_iret T_131 C_131 ⟨_, rfl, ?_⟩)
                        exact q0 I_119_96 (wi_iret T_119 C_119 ⟨_, rfl, H⟩)
                      · replace H := H.2 h
                        refine q1 (ls' := [(0, .ref (168 + 2 * a3.toNatClampNeg)), (1, .int a4), (2, .int a5)]) I_41_4 rfl (wi_iload_n _ rfl ?_)
                        refine q0 I_41_5 (wi_if_lt (fun h => ?_) (fun h => ?_))
                        · replace H := H.1 h
                          refine q1 (ls' := []) I_41_22 rfl (wi_iconst 0 rfl ?_)
                          refine q1 (ls' := []) I_41_23 rfl (wi_zret T_41 (Or.inl C_41) (Or.inl rfl) ⟨_, rfl, ?_⟩)
                          refine q0 I_119_88 (wi_ifF rfl ?_)
                          refine q1 (ls' := [(0, .ref 0)]) I_119_91 rfl (wi_aload_n _ rfl ?_)
                          refine q0 I_119_92 (wi_iconst 2 rfl ?_)
                          refine q0 I_119_93 (wi_virtI (e := 0) [.int 2] [] S_0 rfl (by decide) rfl rfl rfl (okC_i rfl rfl rfl) C_131 (by decide) (Cl_of C_131 Z_131 [(0, .ref 0), (1, .int 2)] rfl ?_))
                          refine q0 I_131_0 (wi_aload_n _ rfl ?_)
                          refine q0 I_131_1 (wi_iload_n _ rfl ?_)
                          refine q0 I_131_2 (wi_putI S_0 rfl (by decide) rfl rfl rfl ?_)
                          refine q0 I_131_5 (wi_bipush (-10) rfl ?_)
                          refine q0 I_131_7 (wi_iload_n _ rfl ?_)
                          refine q0 I_131_8 (wi_isub ?_)
                          refine q0 I_131_9 (wi_iret T_131 C_131 ⟨_, rfl, ?_⟩)
                          exact q0 I_119_96 (wi_iret T_119 C_119 ⟨_, rfl, H⟩)
                        · replace H := H.2 h
                          refine q1 (ls' := [(0, .ref (168 + 2 * a3.toNatClampNeg)), (1, .int a4), (2, .int a5)]) I_41_8 rfl (wi_iload_n _ rfl ?_)
                          refine q0 I_41_9 (wi_aload_n _ rfl ?_)
                          refine q0 I_41_10 (wi_getI (G_sheet hb4) rfl (by decide) rfl ?_)
                          refine q0 I_41_13 (wi_iload_n _ rfl ?_)
                          refine q0 I_41_14 (wi_isub ?_)
                          refine q0 I_41_15 (wi_ic_gt (fun h => ?_) (fun h => ?_))
                          · replace H := H.1 h
                            refine q1 (ls' := []) I_41_22 rfl (wi_iconst 0 rfl ?_)
                            refine q1 (ls' := []) I_41_23 rfl (wi_zret T_41 (Or.inl C_41) (Or.inl rfl) ⟨_, rfl, ?_⟩)
                            refine q0 I_119_88 (wi_ifF rfl ?_)
                            refine q1 (ls' := [(0, .ref 0)]) I_119_91 rfl (wi_aload_n _ rfl ?_)
                            refine q0 I_119_92 (wi_iconst 2 rfl ?_)
                            refine q0 I_119_93 (wi_virtI (e := 0) [.int 2] [] S_0 rfl (by decide) rfl rfl rfl (okC_i rfl rfl rfl) C_131 (by decide) (Cl_of C_131 Z_131 [(0, .ref 0), (1, .int 2)] rfl ?_))
                            refine q0 I_131_0 (wi_aload_n _ rfl ?_)
                            refine q0 I_131_1 (wi_iload_n _ rfl ?_)
                            refine q0 I_131_2 (wi_putI S_0 rfl (by decide) rfl rfl rfl ?_)
                            refine q0 I_131_5 (wi_bipush (-10) rfl ?_)
                            refine q0 I_131_7 (wi_iload_n _ rfl ?_)
                            refine q0 I_131_8 (wi_isub ?_)
                            refine q0 I_131_9 (wi_iret T_131 C_131 ⟨_, rfl, ?_⟩)
                            exact q0 I_119_96 (wi_iret T_119 C_119 ⟨_, rfl, H⟩)
                          · replace H := H.2 h
                            refine q1 (ls' := []) I_41_18 rfl (wi_iconst 1 rfl ?_)
                            refine q0 I_41_19 (wi_goto ?_)
                            refine q1 (ls' := []) I_41_23 rfl (wi_zret T_41 (Or.inl C_41) (Or.inr rfl) ⟨_, rfl, ?_⟩)
                            refine q0 I_119_88 (wi_ifT rfl ?_)
                            refine q1 (ls' := [(2, .int a2), (4, .int a4), (5, .int a5), (6, .ref (168 + 2 * a1.toNatClampNeg)), (7, .ref (168 + 2 * a3.toNatClampNeg))]) I_119_97 rfl (wi_aload _ rfl ?_)
                            refine q0 I_119_99 (wi_get (.ref (169 + 2 * a1.toNatClampNeg)) (G_sheet hb3) rfl (by decide) rfl ?_)
                            refine q0 I_119_102 (wi_iload_n _ rfl ?_)
                            refine q0 I_119_103 (wi_aload _ rfl ?_)
                            refine q0 I_119_105 (wi_get (.ref (169 + 2 * a3.toNatClampNeg)) (G_sheet hb4) rfl (by decide) rfl ?_)
                            refine q0 I_119_108 (wi_iload _ rfl ?_)
                            refine q0 I_119_110 (wi_iload _ rfl ?_)
                            refine q0 I_119_112 (wi_acopy rfl (G_items hb3) (G_items hb4) H.1 ?_)
                            replace H := H.2
                            refine q0 I_119_115 (wi_iconst 1 rfl ?_)
                            exact q0 I_119_116 (wi_iret T_119 C_119 ⟨_, rfl, H⟩)
              · replace H := H.2 h
                refine q1 (ls' := [(0, .ref 0)]) I_119_62 rfl (wi_aload_n _ rfl ?_)
                refine q0 I_119_63 (wi_iconst 4 rfl ?_)
                refine q0 I_119_64 (wi_virtI (e := 0) [.int 4] [] S_0 rfl (by decide) rfl rfl rfl (okC_i rfl rfl rfl) C_131 (by decide) (Cl_of C_131 Z_131 [(0, .ref 0), (1, .int 4)] rfl ?_))
                refine q0 I_131_0 (wi_aload_n _ rfl ?_)
                refine q0 I_131_1 (wi_iload_n _ rfl ?_)
                refine q0 I_131_2 (wi_putI S_0 rfl (by decide) rfl rfl rfl ?_)
                refine q0 I_131_5 (wi_bipush (-10) rfl ?_)
                refine q0 I_131_7 (wi_iload_n _ rfl ?_)
                refine q0 I_131_8 (wi_isub ?_)
                refine q0 I_131_9 (wi_iret T_131 C_131 ⟨_, rfl, ?_⟩)
                exact q0 I_119_67 (wi_iret T_119 C_119 ⟨_, rfl, H⟩)
            · replace H := H.2 h
              refine q1 (ls' := []) I_37_8 rfl (wi_iconst 1 rfl ?_)
              refine q0 I_37_9 (wi_goto ?_)
              refine q1 (ls' := []) I_37_13 rfl (wi_zret T_37 (Or.inl C_37) (Or.inr rfl) ⟨_, rfl, ?_⟩)
              refine q0 I_119_40 (wi_ifF rfl ?_)
              refine q1 (ls' := [(0, .ref 0)]) I_119_43 rfl (wi_aload_n _ rfl ?_)
              refine q0 I_119_44 (wi_iconst 1 rfl ?_)
              refine q0 I_119_45 (wi_virtI (e := 0) [.int 1] [] S_0 rfl (by decide) rfl rfl rfl (okC_i rfl rfl rfl) C_131 (by decide) (Cl_of C_131 Z_131 [(0, .ref 0), (1, .int 1)] rfl ?_))
              refine q0 I_131_0 (wi_aload_n _ rfl ?_)
              refine q0 I_131_1 (wi_iload_n _ rfl ?_)
              refine q0 I_131_2 (wi_putI S_0 rfl (by decide) rfl rfl rfl ?_)
              refine q0 I_131_5 (wi_bipush (-10) rfl ?_)
              refine q0 I_131_7 (wi_iload_n _ rfl ?_)
              refine q0 I_131_8 (wi_isub ?_)
              refine q0 I_131_9 (wi_iret T_131 C_131 ⟨_, rfl, ?_⟩)
              exact q0 I_119_48 (wi_iret T_119 C_119 ⟨_, rfl, H⟩)
          · replace H := H.2 h
            refine q1 (ls' := []) I_37_8 rfl (wi_iconst 1 rfl ?_)
            refine q0 I_37_9 (wi_goto ?_)
            refine q1 (ls' := []) I_37_13 rfl (wi_zret T_37 (Or.inl C_37) (Or.inr rfl) ⟨_, rfl, ?_⟩)
            refine q0 I_119_32 (wi_ifT rfl ?_)
            refine q1 (ls' := [(0, .ref 0)]) I_119_43 rfl (wi_aload_n _ rfl ?_)
            refine q0 I_119_44 (wi_iconst 1 rfl ?_)
            refine q0 I_119_45 (wi_virtI (e := 0) [.int 1] [] S_0 rfl (by decide) rfl rfl rfl (okC_i rfl rfl rfl) C_131 (by decide) (Cl_of C_131 Z_131 [(0, .ref 0), (1, .int 1)] rfl ?_))
            refine q0 I_131_0 (wi_aload_n _ rfl ?_)
            refine q0 I_131_1 (wi_iload_n _ rfl ?_)
            refine q0 I_131_2 (wi_putI S_0 rfl (by decide) rfl rfl rfl ?_)
            refine q0 I_131_5 (wi_bipush (-10) rfl ?_)
            refine q0 I_131_7 (wi_iload_n _ rfl ?_)
            refine q0 I_131_8 (wi_isub ?_)
            refine q0 I_131_9 (wi_iret T_131 C_131 ⟨_, rfl, ?_⟩)
            exact q0 I_119_48 (wi_iret T_119 C_119 ⟨_, rfl, H⟩)
theorem r_91 {a1 : Int32} {a2 : Int32} {di : tDi} {dl : tDl} {K : Int32 → tDi → tDl → Prop} (H : ((a1 < 0 → (K (-2) di dl)) ∧ (0 ≤ a1 → ((3 ≤ a1 → (K (-2) di dl)) ∧ (a1 < 3 → (inB a1 3 = true ∧ ((a1 = 0 → ((a2 < 0 → (K (-2) di dl)) ∧ (0 ≤ a2 → ((a2 ≤ 255 → (((di 1 1) ≤ (di 1 2) → (K (-4) di dl)) ∧ ((di 1 2) < (di 1 1) → (((di 1 2) < 47 → (ClV 4 54 [.ref 1, .int a2] di dl (fun di2 dl2 => (K (di2 1 2) (up2 di2 8 10 1) dl2)))) ∧ (47 ≤ (di 1 2) → (K (-4) di dl)))))) ∧ (255 < a2 → (K (-2) di dl)))))) ∧ (a1 = 1 → ((a2 < 0 → (K (-2) di dl)) ∧ (0 ≤ a2 → ((a2 ≤ 255 → (((di 3 1) ≤ (di 3 2) → (K (-4) di dl)) ∧ ((di 3 2) < (di 3 1) → (((di 3 2) < 47 → (ClV 4 54 [.ref 3, .int a2] di dl (fun di3 dl3 => (K (di3 3 2) (up2 di3 8 10 1) dl3)))) ∧ (47 ≤ (di 3 2) → (K (-4) di dl)))))) ∧ (255 < a2 → (K (-2) di dl)))))) ∧ (a1 = 2 → ((a2 < 0 → (K (-2) di dl)) ∧ (0 ≤ a2 → ((a2 ≤ 255 → (((di 5 1) ≤ (di 5 2) → (K (-4) di dl)) ∧ ((di 5 2) < (di 5 1) → (((di 5 2) < 47 → (ClV 4 54 [.ref 5, .int a2] di dl (fun di4 dl4 => (K (di4 5 2) (up2 di4 8 10 1) dl4)))) ∧ (47 ≤ (di 5 2) → (K (-4) di dl)))))) ∧ (255 < a2 → (K (-2) di dl))))))))))))) : ClI 5 91 [.ref 0, .int a1, .int a2] di dl K := by
  refine Cl_of C_91 Z_91 [(0, .ref 0), (1, .int a1), (2, .int a2)] rfl ?_
  refine q0 I_91_0 (wi_aload_n _ rfl ?_)
  refine q0 I_91_1 (wi_iload_n _ rfl ?_)
  refine q0 I_91_2 (wi_virtR (e := 4) [.int a1] [] S_0 rfl (by decide) rfl rfl rfl (okC_i rfl rfl rfl) C_126 (by decide) (Cl_of C_126 Z_126 [(0, .ref 0), (1, .int a1)] rfl ?_))
  refine q0 I_126_0 (wi_iload_n _ rfl ?_)
  refine q0 I_126_1 (wi_if_lt (fun h => ?_) (fun h => ?_))
  · replace H := H.1 h
    refine q1 (ls' := []) I_126_22 rfl (wi_null ?_)
    refine q1 (ls' := []) I_126_23 rfl (wi_nret T_126 C_126 ⟨_, rfl, ?_⟩)
    refine q0 I_91_5 (wi_astore_nN [(0, .ref 0), (1, .int a1), (2, .int a2), (3, .null)] (lt_e X_91 rfl) rfl ?_)
    refine q0 I_91_6 (wi_aload_nN rfl ?_)
    refine q0 I_91_7 (wi_ifnullN ?_)
    refine q1 (ls' := []) I_91_21 rfl (wi_bipush (-2) rfl ?_)
    exact q0 I_91_23 (wi_iret T_91 C_91 ⟨_, rfl, H⟩)
  · replace H := H.2 h
    refine q1 (ls' := [(0, .ref 0), (1, .int a1)]) I_126_4 rfl (wi_iload_n _ rfl ?_)
    refine q0 I_126_5 (wi_aload_n _ rfl ?_)
    refine q0 I_126_6 (wi_get (.ref 7) S_0 rfl (by decide) rfl ?_)
    refine q0 I_126_9 (wi_alen 3 S_7 (by decide) rfl ?_)
    refine q0 I_126_10 (wi_ic_ge (fun h => ?_) (fun h => ?_))
    · replace H := H.1 h
      refine q1 (ls' := []) I_126_22 rfl (wi_null ?_)
      refine q1 (ls' := []) I_126_23 rfl (wi_nret T_126 C_126 ⟨_, rfl, ?_⟩)
      refine q0 I_91_5 (wi_astore_nN [(0, .ref 0), (1, .int a1), (2, .int a2), (3, .null)] (lt_e X_91 rfl) rfl ?_)
      refine q0 I_91_6 (wi_aload_nN rfl ?_)
      refine q0 I_91_7 (wi_ifnullN ?_)
      refine q1 (ls' := []) I_91_21 rfl (wi_bipush (-2) rfl ?_)
      exact q0 I_91_23 (wi_iret T_91 C_91 ⟨_, rfl, H⟩)
    · replace H := H.2 h
      refine q1 (ls' := [(0, .ref 0), (1, .int a1)]) I_126_13 rfl (wi_aload_n _ rfl ?_)
      refine q0 I_126_14 (wi_get (.ref 7) S_0 rfl (by decide) rfl ?_)
      refine q0 I_126_17 (wi_iload_n _ rfl ?_)
      have hb1 := H.1
      replace H := H.2
      refine q0 I_126_18 (wi_aatext hb1 (fun h => ?_) (fun h => ?_) (fun h => ?_))
      · replace H := H.1 h
        refine q0 I_126_19 (wi_goto ?_)
        refine q1 (ls' := []) I_126_23 rfl (wi_aret T_126 C_126 ⟨_, rfl, ?_⟩)
        refine q0 I_91_5 (wi_astore_n [(0, .ref 0), (1, .int a1), (2, .int a2), (3, .ref 1)] (lt_e X_91 rfl) rfl ?_)
        refine q0 I_91_6 (wi_aload_n _ rfl ?_)
        refine q0 I_91_7 (wi_ifnullR ?_)
        refine q1 (ls' := [(0, .ref 0), (2, .int a2), (3, .ref 1)]) I_91_10 rfl (wi_iload_n _ rfl ?_)
        refine q0 I_91_11 (wi_if_lt (fun h => ?_) (fun h => ?_))
        · replace H := H.1 h
          refine q1 (ls' := []) I_91_21 rfl (wi_bipush (-2) rfl ?_)
          exact q0 I_91_23 (wi_iret T_91 C_91 ⟨_, rfl, H⟩)
        · replace H := H.2 h
          refine q1 (ls' := [(0, .ref 0), (2, .int a2), (3, .ref 1)]) I_91_14 rfl (wi_iload_n _ rfl ?_)
          refine q0 I_91_15 (wi_sipush 255 rfl ?_)
          refine q0 I_91_18 (wi_ic_le (fun h => ?_) (fun h => ?_))
          · replace H := H.1 h
            refine q1 (ls' := [(0, .ref 0), (2, .int a2), (3, .ref 1)]) I_91_24 rfl (wi_aload_n _ rfl ?_)
            refine q0 I_91_25 (wi_virtI (e := 4) [] [] S_1 rfl (by decide) rfl rfl rfl (okC_i rfl rfl rfl) C_52 (by decide) (Cl_of C_52 Z_52 [(0, .ref 1)] rfl ?_))
            refine q0 I_52_0 (wi_aload_n _ rfl ?_)
            refine q0 I_52_1 (wi_getI S_1 rfl (by decide) rfl ?_)
            refine q0 I_52_4 (wi_aload_n _ rfl ?_)
            refine q0 I_52_5 (wi_getI S_1 rfl (by decide) rfl ?_)
            refine q0 I_52_8 (wi_ic_ge (fun h => ?_) (fun h => ?_))
            · replace H := H.1 h
              refine q1 (ls' := []) I_52_23 rfl (wi_iconst 1 rfl ?_)
              refine q0 I_52_24 (wi_goto ?_)
              refine q1 (ls' := []) I_52_28 rfl (wi_zret T_52 (Or.inl C_52) (Or.inr rfl) ⟨_, rfl, ?_⟩)
              refine q0 I_91_28 (wi_ifF rfl ?_)
              refine q1 (ls' := []) I_91_31 rfl (wi_bipush (-4) rfl ?_)
              exact q0 I_91_33 (wi_iret T_91 C_91 ⟨_, rfl, H⟩)
            · replace H := H.2 h
              refine q1 (ls' := [(0, .ref 1)]) I_52_11 rfl (wi_aload_n _ rfl ?_)
              refine q0 I_52_12 (wi_getI S_1 rfl (by decide) rfl ?_)
              refine q0 I_52_15 (wi_aload_n _ rfl ?_)
              refine q0 I_52_16 (wi_get (.ref 2) S_1 rfl (by decide) rfl ?_)
              refine q0 I_52_19 (wi_alen 47 S_2 (by decide) rfl ?_)
              refine q0 I_52_20 (wi_ic_lt (fun h => ?_) (fun h => ?_))
              · replace H := H.1 h
                refine q1 (ls' := []) I_52_27 rfl (wi_iconst 0 rfl ?_)
                refine q1 (ls' := []) I_52_28 rfl (wi_zret T_52 (Or.inl C_52) (Or.inl rfl) ⟨_, rfl, ?_⟩)
                refine q0 I_91_28 (wi_ifT rfl ?_)
                refine q1 (ls' := [(0, .ref 0), (2, .int a2), (3, .ref 1)]) I_91_34 rfl (wi_aload_n _ rfl ?_)
                refine q0 I_91_35 (wi_iload_n _ rfl ?_)
                refine q0 I_91_36 (wi_virtV (e := 4) [.int a2] [] S_1 rfl (by decide) rfl rfl rfl (okC_i rfl rfl rfl) C_54 (by decide) (ClV_mono H ?_))
                intro di2 dl2 H
                refine q0 I_91_39 (wi_aload_n _ rfl ?_)
                refine q0 I_91_40 (wi_get (.ref 8) S_0 rfl (by decide) rfl ?_)
                refine q0 I_91_43 (wi_virtV (e := 4) [] [] S_8 rfl (by decide) rfl rfl rfl (okC_i rfl rfl rfl) C_61 (by decide) (Cl_of C_61 Z_61 [(0, .ref 8)] rfl ?_))
                refine q0 I_61_0 (wi_aload_n _ rfl ?_)
                refine q0 I_61_1 (wi_iconst 1 rfl ?_)
                refine q0 I_61_2 (wi_putZ S_8 rfl (by decide) rfl rfl rfl (Or.inr rfl) ?_)
                refine q0 I_61_5 (wi_ret T_61 C_61 ⟨rfl, ?_⟩)
                refine q0 I_91_46 (wi_aload_n _ rfl ?_)
                refine q0 I_91_47 (wi_get (.int (di2 1 2)) S_1 rfl (by decide) rfl ?_)
                exact q0 I_91_50 (wi_iret T_91 C_91 ⟨_, rfl, H⟩)
              · replace H := H.2 h
                refine q1 (ls' := []) I_52_23 rfl (wi_iconst 1 rfl ?_)
                refine q0 I_52_24 (wi_goto ?_)
                refine q1 (ls' := []) I_52_28 rfl (wi_zret T_52 (Or.inl C_52) (Or.inr rfl) ⟨_, rfl, ?_⟩)
                refine q0 I_91_28 (wi_ifF rfl ?_)
                refine q1 (ls' := []) I_91_31 rfl (wi_bipush (-4) rfl ?_)
                exact q0 I_91_33 (wi_iret T_91 C_91 ⟨_, rfl, H⟩)
          · replace H := H.2 h
            refine q1 (ls' := []) I_91_21 rfl (wi_bipush (-2) rfl ?_)
            exact q0 I_91_23 (wi_iret T_91 C_91 ⟨_, rfl, H⟩)
      · replace H := H.2.1 h
        refine q0 I_126_19 (wi_goto ?_)
        refine q1 (ls' := []) I_126_23 rfl (wi_aret T_126 C_126 ⟨_, rfl, ?_⟩)
        refine q0 I_91_5 (wi_astore_n [(0, .ref 0), (1, .int a1), (2, .int a2), (3, .ref 3)] (lt_e X_91 rfl) rfl ?_)
        refine q0 I_91_6 (wi_aload_n _ rfl ?_)
        refine q0 I_91_7 (wi_ifnullR ?_)
        refine q1 (ls' := [(0, .ref 0), (2, .int a2), (3, .ref 3)]) I_91_10 rfl (wi_iload_n _ rfl ?_)
        refine q0 I_91_11 (wi_if_lt (fun h => ?_) (fun h => ?_))
        · replace H := H.1 h
          refine q1 (ls' := []) I_91_21 rfl (wi_bipush (-2) rfl ?_)
          exact q0 I_91_23 (wi_iret T_91 C_91 ⟨_, rfl, H⟩)
        · replace H := H.2 h
          refine q1 (ls' := [(0, .ref 0), (2, .int a2), (3, .ref 3)]) I_91_14 rfl (wi_iload_n _ rfl ?_)
          refine q0 I_91_15 (wi_sipush 255 rfl ?_)
          refine q0 I_91_18 (wi_ic_le (fun h => ?_) (fun h => ?_))
          · replace H := H.1 h
            refine q1 (ls' := [(0, .ref 0), (2, .int a2), (3, .ref 3)]) I_91_24 rfl (wi_aload_n _ rfl ?_)
            refine q0 I_91_25 (wi_virtI (e := 4) [] [] S_3 rfl (by decide) rfl rfl rfl (okC_i rfl rfl rfl) C_52 (by decide) (Cl_of C_52 Z_52 [(0, .ref 3)] rfl ?_))
            refine q0 I_52_0 (wi_aload_n _ rfl ?_)
            refine q0 I_52_1 (wi_getI S_3 rfl (by decide) rfl ?_)
            refine q0 I_52_4 (wi_aload_n _ rfl ?_)
            refine q0 I_52_5 (wi_getI S_3 rfl (by decide) rfl ?_)
            refine q0 I_52_8 (wi_ic_ge (fun h => ?_) (fun h => ?_))
            · replace H := H.1 h
              refine q1 (ls' := []) I_52_23 rfl (wi_iconst 1 rfl ?_)
              refine q0 I_52_24 (wi_goto ?_)
              refine q1 (ls' := []) I_52_28 rfl (wi_zret T_52 (Or.inl C_52) (Or.inr rfl) ⟨_, rfl, ?_⟩)
              refine q0 I_91_28 (wi_ifF rfl ?_)
              refine q1 (ls' := []) I_91_31 rfl (wi_bipush (-4) rfl ?_)
              exact q0 I_91_33 (wi_iret T_91 C_91 ⟨_, rfl, H⟩)
            · replace H := H.2 h
              refine q1 (ls' := [(0, .ref 3)]) I_52_11 rfl (wi_aload_n _ rfl ?_)
              refine q0 I_52_12 (wi_getI S_3 rfl (by decide) rfl ?_)
              refine q0 I_52_15 (wi_aload_n _ rfl ?_)
              refine q0 I_52_16 (wi_get (.ref 4) S_3 rfl (by decide) rfl ?_)
              refine q0 I_52_19 (wi_alen 47 S_4 (by decide) rfl ?_)
              refine q0 I_52_20 (wi_ic_lt (fun h => ?_) (fun h => ?_))
              · replace H := H.1 h
                refine q1 (ls' := []) I_52_27 rfl (wi_iconst 0 rfl ?_)
                refine q1 (ls' := []) I_52_28 rfl (wi_zret T_52 (Or.inl C_52) (Or.inl rfl) ⟨_, rfl, ?_⟩)
                refine q0 I_91_28 (wi_ifT rfl ?_)
                refine q1 (ls' := [(0, .ref 0), (2, .int a2), (3, .ref 3)]) I_91_34 rfl (wi_aload_n _ rfl ?_)
                refine q0 I_91_35 (wi_iload_n _ rfl ?_)
                refine q0 I_91_36 (wi_virtV (e := 4) [.int a2] [] S_3 rfl (by decide) rfl rfl rfl (okC_i rfl rfl rfl) C_54 (by decide) (ClV_mono H ?_))
                intro di3 dl3 H
                refine q0 I_91_39 (wi_aload_n _ rfl ?_)
                refine q0 I_91_40 (wi_get (.ref 8) S_0 rfl (by decide) rfl ?_)
                refine q0 I_91_43 (wi_virtV (e := 4) [] [] S_8 rfl (by decide) rfl rfl rfl (okC_i rfl rfl rfl) C_61 (by decide) (Cl_of C_61 Z_61 [(0, .ref 8)] rfl ?_))
                refine q0 I_61_0 (wi_aload_n _ rfl ?_)
                refine q0 I_61_1 (wi_iconst 1 rfl ?_)
                refine q0 I_61_2 (wi_putZ S_8 rfl (by decide) rfl rfl rfl (Or.inr rfl) ?_)
                refine q0 I_61_5 (wi_ret T_61 C_61 ⟨rfl, ?_⟩)
                refine q0 I_91_46 (wi_aload_n _ rfl ?_)
                refine q0 I_91_47 (wi_get (.int (di3 3 2)) S_3 rfl (by decide) rfl ?_)
                exact q0 I_91_50 (wi_iret T_91 C_91 ⟨_, rfl, H⟩)
              · replace H := H.2 h
                refine q1 (ls' := []) I_52_23 rfl (wi_iconst 1 rfl ?_)
                refine q0 I_52_24 (wi_goto ?_)
                refine q1 (ls' := []) I_52_28 rfl (wi_zret T_52 (Or.inl C_52) (Or.inr rfl) ⟨_, rfl, ?_⟩)
                refine q0 I_91_28 (wi_ifF rfl ?_)
                refine q1 (ls' := []) I_91_31 rfl (wi_bipush (-4) rfl ?_)
                exact q0 I_91_33 (wi_iret T_91 C_91 ⟨_, rfl, H⟩)
          · replace H := H.2 h
            refine q1 (ls' := []) I_91_21 rfl (wi_bipush (-2) rfl ?_)
            exact q0 I_91_23 (wi_iret T_91 C_91 ⟨_, rfl, H⟩)
      · replace H := H.2.2 h
        refine q0 I_126_19 (wi_goto ?_)
        refine q1 (ls' := []) I_126_23 rfl (wi_aret T_126 C_126 ⟨_, rfl, ?_⟩)
        refine q0 I_91_5 (wi_astore_n [(0, .ref 0), (1, .int a1), (2, .int a2), (3, .ref 5)] (lt_e X_91 rfl) rfl ?_)
        refine q0 I_91_6 (wi_aload_n _ rfl ?_)
        refine q0 I_91_7 (wi_ifnullR ?_)
        refine q1 (ls' := [(0, .ref 0), (2, .int a2), (3, .ref 5)]) I_91_10 rfl (wi_iload_n _ rfl ?_)
        refine q0 I_91_11 (wi_if_lt (fun h => ?_) (fun h => ?_))
        · replace H := H.1 h
          refine q1 (ls' := []) I_91_21 rfl (wi_bipush (-2) rfl ?_)
          exact q0 I_91_23 (wi_iret T_91 C_91 ⟨_, rfl, H⟩)
        · replace H := H.2 h
          refine q1 (ls' := [(0, .ref 0), (2, .int a2), (3, .ref 5)]) I_91_14 rfl (wi_iload_n _ rfl ?_)
          refine q0 I_91_15 (wi_sipush 255 rfl ?_)
          refine q0 I_91_18 (wi_ic_le (fun h => ?_) (fun h => ?_))
          · replace H := H.1 h
            refine q1 (ls' := [(0, .ref 0), (2, .int a2), (3, .ref 5)]) I_91_24 rfl (wi_aload_n _ rfl ?_)
            refine q0 I_91_25 (wi_virtI (e := 4) [] [] S_5 rfl (by decide) rfl rfl rfl (okC_i rfl rfl rfl) C_52 (by decide) (Cl_of C_52 Z_52 [(0, .ref 5)] rfl ?_))
            refine q0 I_52_0 (wi_aload_n _ rfl ?_)
            refine q0 I_52_1 (wi_getI S_5 rfl (by decide) rfl ?_)
            refine q0 I_52_4 (wi_aload_n _ rfl ?_)
            refine q0 I_52_5 (wi_getI S_5 rfl (by decide) rfl ?_)
            refine q0 I_52_8 (wi_ic_ge (fun h => ?_) (fun h => ?_))
            · replace H := H.1 h
              refine q1 (ls' := []) I_52_23 rfl (wi_iconst 1 rfl ?_)
              refine q0 I_52_24 (wi_goto ?_)
              refine q1 (ls' := []) I_52_28 rfl (wi_zret T_52 (Or.inl C_52) (Or.inr rfl) ⟨_, rfl, ?_⟩)
              refine q0 I_91_28 (wi_ifF rfl ?_)
              refine q1 (ls' := []) I_91_31 rfl (wi_bipush (-4) rfl ?_)
              exact q0 I_91_33 (wi_iret T_91 C_91 ⟨_, rfl, H⟩)
            · replace H := H.2 h
              refine q1 (ls' := [(0, .ref 5)]) I_52_11 rfl (wi_aload_n _ rfl ?_)
              refine q0 I_52_12 (wi_getI S_5 rfl (by decide) rfl ?_)
              refine q0 I_52_15 (wi_aload_n _ rfl ?_)
              refine q0 I_52_16 (wi_get (.ref 6) S_5 rfl (by decide) rfl ?_)
              refine q0 I_52_19 (wi_alen 47 S_6 (by decide) rfl ?_)
              refine q0 I_52_20 (wi_ic_lt (fun h => ?_) (fun h => ?_))
              · replace H := H.1 h
                refine q1 (ls' := []) I_52_27 rfl (wi_iconst 0 rfl ?_)
                refine q1 (ls' := []) I_52_28 rfl (wi_zret T_52 (Or.inl C_52) (Or.inl rfl) ⟨_, rfl, ?_⟩)
                refine q0 I_91_28 (wi_ifT rfl ?_)
                refine q1 (ls' := [(0, .ref 0), (2, .int a2), (3, .ref 5)]) I_91_34 rfl (wi_aload_n _ rfl ?_)
                refine q0 I_91_35 (wi_iload_n _ rfl ?_)
                refine q0 I_91_36 (wi_virtV (e := 4) [.int a2] [] S_5 rfl (by decide) rfl rfl rfl (okC_i rfl rfl rfl) C_54 (by decide) (ClV_mono H ?_))
                intro di4 dl4 H
                refine q0 I_91_39 (wi_aload_n _ rfl ?_)
                refine q0 I_91_40 (wi_get (.ref 8) S_0 rfl (by decide) rfl ?_)
                refine q0 I_91_43 (wi_virtV (e := 4) [] [] S_8 rfl (by decide) rfl rfl rfl (okC_i rfl rfl rfl) C_61 (by decide) (Cl_of C_61 Z_61 [(0, .ref 8)] rfl ?_))
                refine q0 I_61_0 (wi_aload_n _ rfl ?_)
                refine q0 I_61_1 (wi_iconst 1 rfl ?_)
                refine q0 I_61_2 (wi_putZ S_8 rfl (by decide) rfl rfl rfl (Or.inr rfl) ?_)
                refine q0 I_61_5 (wi_ret T_61 C_61 ⟨rfl, ?_⟩)
                refine q0 I_91_46 (wi_aload_n _ rfl ?_)
                refine q0 I_91_47 (wi_get (.int (di4 5 2)) S_5 rfl (by decide) rfl ?_)
                exact q0 I_91_50 (wi_iret T_91 C_91 ⟨_, rfl, H⟩)
              · replace H := H.2 h
                refine q1 (ls' := []) I_52_23 rfl (wi_iconst 1 rfl ?_)
                refine q0 I_52_24 (wi_goto ?_)
                refine q1 (ls' := []) I_52_28 rfl (wi_zret T_52 (Or.inl C_52) (Or.inr rfl) ⟨_, rfl, ?_⟩)
                refine q0 I_91_28 (wi_ifF rfl ?_)
                refine q1 (ls' := []) I_91_31 rfl (wi_bipush (-4) rfl ?_)
                exact q0 I_91_33 (wi_iret T_91 C_91 ⟨_, rfl, H⟩)
          · replace H := H.2 h
            refine q1 (ls' := []) I_91_21 rfl (wi_bipush (-2) rfl ?_)
            exact q0 I_91_23 (wi_iret T_91 C_91 ⟨_, rfl, H⟩)
theorem r_42 {j : Int32} (hb : inB j 4 = true) {a1 : Int32} {a2 : Int32} {di : tDi} {dl : tDl} {K : tDi → tDl → Prop} (H : ((a1 < 0 → (K di dl)) ∧ (0 ≤ a1 → (((di (168 + 2 * j.toNatClampNeg) 2) ≤ a1 → (K di dl)) ∧ (a1 < (di (168 + 2 * j.toNatClampNeg) 2) → ((60 ≤ a1 → (K di dl)) ∧ (a1 < 60 → ((¬ (di (168 + 2 * j.toNatClampNeg) 1) = 0 → ((¬ (di (168 + 2 * j.toNatClampNeg) 1) = 1 → (inB a1 60 = true ∧ (K (up2 di (169 + 2 * j.toNatClampNeg) (a1.toNatClampNeg) a2) dl))) ∧ ((di (168 + 2 * j.toNatClampNeg) 1) = 1 → (inB a1 60 = true ∧ (K (up2 di (169 + 2 * j.toNatClampNeg) (a1.toNatClampNeg) (a2).toInt16.toInt32) dl))))) ∧ ((di (168 + 2 * j.toNatClampNeg) 1) = 0 → (inB a1 60 = true ∧ (K (up2 di (169 + 2 * j.toNatClampNeg) (a1.toNatClampNeg) (a2).toInt8.toInt32) dl))))))))))) : ClV 1 42 [.ref (168 + 2 * j.toNatClampNeg), .int a1, .int a2] di dl K := by
  refine Cl_of C_42 Z_42 [(0, .ref (168 + 2 * j.toNatClampNeg)), (1, .int a1), (2, .int a2)] rfl ?_
  refine q0 I_42_0 (wi_aload_n _ rfl ?_)
  refine q0 I_42_1 (wi_iload_n _ rfl ?_)
  refine q0 I_42_2 (wi_virtI (e := 0) [.int a1] [] (G_sheet hb) rfl (by decide) rfl rfl rfl (okC_i rfl rfl rfl) C_40 (by decide) (Cl_of C_40 Z_40 [(0, .ref (168 + 2 * j.toNatClampNeg)), (1, .int a1)] rfl ?_))
  refine q0 I_40_0 (wi_iload_n _ rfl ?_)
  refine q0 I_40_1 (wi_if_lt (fun h => ?_) (fun h => ?_))
  · replace H := H.1 h
    refine q1 (ls' := []) I_40_22 rfl (wi_iconst 0 rfl ?_)
    refine q1 (ls' := []) I_40_23 rfl (wi_zret T_40 (Or.inl C_40) (Or.inl rfl) ⟨_, rfl, ?_⟩)
    refine q0 I_42_5 (wi_ifT rfl ?_)
    exact q1 (ls' := []) I_42_40 rfl (wi_ret T_42 C_42 ⟨rfl, H⟩)
  · replace H := H.2 h
    refine q1 (ls' := [(0, .ref (168 + 2 * j.toNatClampNeg)), (1, .int a1)]) I_40_4 rfl (wi_iload_n _ rfl ?_)
    refine q0 I_40_5 (wi_aload_n _ rfl ?_)
    refine q0 I_40_6 (wi_getI (G_sheet hb) rfl (by decide) rfl ?_)
    refine q0 I_40_9 (wi_ic_ge (fun h => ?_) (fun h => ?_))
    · replace H := H.1 h
      refine q1 (ls' := []) I_40_22 rfl (wi_iconst 0 rfl ?_)
      refine q1 (ls' := []) I_40_23 rfl (wi_zret T_40 (Or.inl C_40) (Or.inl rfl) ⟨_, rfl, ?_⟩)
      refine q0 I_42_5 (wi_ifT rfl ?_)
      exact q1 (ls' := []) I_42_40 rfl (wi_ret T_42 C_42 ⟨rfl, H⟩)
    · replace H := H.2 h
      refine q1 (ls' := [(1, .int a1)]) I_40_12 rfl (wi_iload_n _ rfl ?_)
      refine q0 I_40_13 (wi_bipush 60 rfl ?_)
      refine q0 I_40_15 (wi_ic_ge (fun h => ?_) (fun h => ?_))
      · replace H := H.1 h
        refine q1 (ls' := []) I_40_22 rfl (wi_iconst 0 rfl ?_)
        refine q1 (ls' := []) I_40_23 rfl (wi_zret T_40 (Or.inl C_40) (Or.inl rfl) ⟨_, rfl, ?_⟩)
        refine q0 I_42_5 (wi_ifT rfl ?_)
        exact q1 (ls' := []) I_42_40 rfl (wi_ret T_42 C_42 ⟨rfl, H⟩)
      · replace H := H.2 h
        refine q1 (ls' := []) I_40_18 rfl (wi_iconst 1 rfl ?_)
        refine q0 I_40_19 (wi_goto ?_)
        refine q1 (ls' := []) I_40_23 rfl (wi_zret T_40 (Or.inl C_40) (Or.inr rfl) ⟨_, rfl, ?_⟩)
        refine q0 I_42_5 (wi_ifF rfl ?_)
        refine q1 (ls' := [(0, .ref (168 + 2 * j.toNatClampNeg)), (1, .int a1), (2, .int a2)]) I_42_8 rfl (wi_aload_n _ rfl ?_)
        refine q0 I_42_9 (wi_get (.ref (169 + 2 * j.toNatClampNeg)) (G_sheet hb) rfl (by decide) rfl ?_)
        refine q0 I_42_12 (wi_iload_n _ rfl ?_)
        refine q0 I_42_13 (wi_aload_n _ rfl ?_)
        refine q0 I_42_14 (wi_getI (G_sheet hb) rfl (by decide) rfl ?_)
        refine q0 I_42_17 (wi_if_ne (fun h => ?_) (fun h => ?_))
        · replace H := H.1 h
          refine q1 (ls' := [(0, .ref (168 + 2 * j.toNatClampNeg)), (2, .int a2)]) I_42_25 rfl (wi_aload_n _ rfl ?_)
          refine q0 I_42_26 (wi_getI (G_sheet hb) rfl (by decide) rfl ?_)
          refine q0 I_42_29 (wi_iconst 1 rfl ?_)
          refine q0 I_42_30 (wi_ic_ne (fun h => ?_) (fun h => ?_))
          · replace H := H.1 h
            refine q1 (ls' := [(2, .int a2)]) I_42_38 rfl (wi_iload_n _ rfl ?_)
            have hb1 := H.1
            replace H := H.2
            refine q1 (ls' := []) I_42_39 rfl (wi_iastore (a1.toNatClampNeg) (G_items hb) hb1 rfl ?_)
            exact q1 (ls' := []) I_42_40 rfl (wi_ret T_42 C_42 ⟨rfl, H⟩)
          · replace H := H.2 h
            refine q1 (ls' := [(2, .int a2)]) I_42_33 rfl (wi_iload_n _ rfl ?_)
            refine q0 I_42_34 (wi_i2s ?_)
            refine q0 I_42_35 (wi_goto ?_)
            have hb2 := H.1
            replace H := H.2
            refine q1 (ls' := []) I_42_39 rfl (wi_iastore (a1.toNatClampNeg) (G_items hb) hb2 rfl ?_)
            exact q1 (ls' := []) I_42_40 rfl (wi_ret T_42 C_42 ⟨rfl, H⟩)
        · replace H := H.2 h
          refine q1 (ls' := [(2, .int a2)]) I_42_20 rfl (wi_iload_n _ rfl ?_)
          refine q0 I_42_21 (wi_i2b ?_)
          refine q0 I_42_22 (wi_goto ?_)
          have hb3 := H.1
          replace H := H.2
          refine q1 (ls' := []) I_42_39 rfl (wi_iastore (a1.toNatClampNeg) (G_items hb) hb3 rfl ?_)
          exact q1 (ls' := []) I_42_40 rfl (wi_ret T_42 C_42 ⟨rfl, H⟩)
theorem r_16 {a1 : Int32} {a2 : Int32} {di : tDi} {dl : tDl} {K : tDi → tDl → Prop} (H : ((a1 < 0 → (K di dl)) ∧ (0 ≤ a1 → ((a1 < 8 → (inB a1 9 = true ∧ (inB (a1 + 1) 9 = true ∧ (Wq none 0 16 31 [(0, .ref 144), (2, .int a2), (3, .ref (146 + a1.toNatClampNeg)), (4, .ref (146 + (a1 + 1).toNatClampNeg)), (5, .int 0)] [] di dl (RV K))))) ∧ (8 ≤ a1 → (K di dl)))))) : ClV 0 16 [.ref 144, .int a1, .int a2] di dl K := by
  refine Cl_of C_16 Z_16 [(0, .ref 144), (1, .int a1), (2, .int a2)] rfl ?_
  refine q0 I_16_0 (wi_iload_n _ rfl ?_)
  refine q0 I_16_1 (wi_if_lt (fun h => ?_) (fun h => ?_))
  · replace H := H.1 h
    exact q1 (ls' := []) I_16_10 rfl (wi_ret T_16 C_16 ⟨rfl, H⟩)
  · replace H := H.2 h
    refine q1 (ls' := [(0, .ref 144), (1, .int a1), (2, .int a2)]) I_16_4 rfl (wi_iload_n _ rfl ?_)
    refine q0 I_16_5 (wi_bipush 8 rfl ?_)
    refine q0 I_16_7 (wi_ic_lt (fun h => ?_) (fun h => ?_))
    · replace H := H.1 h
      refine q1 (ls' := [(0, .ref 144), (1, .int a1), (2, .int a2)]) I_16_11 rfl (wi_aload_n _ rfl ?_)
      refine q0 I_16_12 (wi_get (.ref 145) S_144 rfl (by decide) rfl ?_)
      refine q0 I_16_15 (wi_iload_n _ rfl ?_)
      have hb1 := H.1
      replace H := H.2
      refine q0 I_16_16 (wi_aaload (e := 2) (146 + a1.toNatClampNeg) S_145 hb1 (by decide) (K_145 hb1) ?_)
      refine q0 I_16_17 (wi_astore_n [(0, .ref 144), (1, .int a1), (2, .int a2), (3, .ref (146 + a1.toNatClampNeg))] (lt_e X_16 rfl) rfl ?_)
      refine q0 I_16_18 (wi_aload_n _ rfl ?_)
      refine q0 I_16_19 (wi_get (.ref 145) S_144 rfl (by decide) rfl ?_)
      refine q0 I_16_22 (wi_iload_n _ rfl ?_)
      refine q0 I_16_23 (wi_iconst 1 rfl ?_)
      refine q0 I_16_24 (wi_iadd ?_)
      have hb2 := H.1
      replace H := H.2
      refine q0 I_16_25 (wi_aaload (e := 2) (146 + (a1 + 1).toNatClampNeg) S_145 hb2 (by decide) (K_145 hb2) ?_)
      refine q0 I_16_26 (wi_astore [(0, .ref 144), (1, .int a1), (2, .int a2), (3, .ref (146 + a1.toNatClampNeg)), (4, .ref (146 + (a1 + 1).toNatClampNeg))] (lt_e X_16 rfl) rfl ?_)
      refine q0 I_16_28 (wi_iconst 0 rfl ?_)
      refine q0 I_16_29 (wi_istore [(0, .ref 144), (1, .int a1), (2, .int a2), (3, .ref (146 + a1.toNatClampNeg)), (4, .ref (146 + (a1 + 1).toNatClampNeg)), (5, .int 0)] (lt_e X_16 rfl) rfl ?_)
      exact Wq_c I_16_31 rfl rfl H
    · replace H := H.2 h
      exact q1 (ls' := []) I_16_10 rfl (wi_ret T_16 C_16 ⟨rfl, H⟩)
theorem r_16_31 {p3 : Nat} (hp3 : S0[p3]? = some (.inr (0, 256, []))) {p4 : Nat} (hp4 : S0[p4]? = some (.inr (0, 256, []))) {x2 : Int32} {x5 : Int32} {di : tDi} {dl : tDl} {K : tDi → tDl → Prop} (H : ((((1 : Int32) <<< ((di 3 4) &&& 31)) ≤ x5 → (K di dl)) ∧ (x5 < ((1 : Int32) <<< ((di 3 4) &&& 31)) → ((256 ≤ x5 → (K di dl)) ∧ (x5 < 256 → (inB x5 256 = true ∧ (Wq none 0 16 71 [(0, .ref 144), (2, .int x2), (3, .ref p3), (4, .ref p4), (5, .int x5), (6, .int (di p4 (x5.toNatClampNeg))), (7, .int (x2 &&& (x5 ^^^ (-1)))), (8, .int 0)] [] di dl (RV K)))))))) : Wq none 0 16 31 [(0, .ref 144), (2, .int x2), (3, .ref p3), (4, .ref p4), (5, .int x5)] [] di dl (RV K) := by
  refine q1 (ls' := [(0, .ref 144), (2, .int x2), (3, .ref p3), (4, .ref p4), (5, .int x5)]) I_16_31 rfl (wi_iload _ rfl ?_)
  refine q0 I_16_33 (wi_iconst 1 rfl ?_)
  refine q0 I_16_34 (wi_aload_n _ rfl ?_)
  refine q0 I_16_35 (wi_get (.ref 3) S_144 rfl (by decide) rfl ?_)
  refine q0 I_16_38 (wi_getI S_3 rfl (by decide) rfl ?_)
  refine q0 I_16_41 (wi_ishl ?_)
  refine q0 I_16_42 (wi_ic_ge (fun h => ?_) (fun h => ?_))
  · replace H := H.1 h
    exact q1 (ls' := []) I_16_137 rfl (wi_ret T_16 C_16 ⟨rfl, H⟩)
  · replace H := H.2 h
    refine q1 (ls' := [(0, .ref 144), (2, .int x2), (3, .ref p3), (4, .ref p4), (5, .int x5)]) I_16_45 rfl (wi_iload _ rfl ?_)
    refine q0 I_16_47 (wi_sipush 256 rfl ?_)
    refine q0 I_16_50 (wi_ic_ge (fun h => ?_) (fun h => ?_))
    · replace H := H.1 h
      exact q1 (ls' := []) I_16_137 rfl (wi_ret T_16 C_16 ⟨rfl, H⟩)
    · replace H := H.2 h
      refine q1 (ls' := [(0, .ref 144), (2, .int x2), (3, .ref p3), (4, .ref p4), (5, .int x5)]) I_16_53 rfl (wi_aload _ rfl ?_)
      refine q0 I_16_55 (wi_iload _ rfl ?_)
      have hb21 := H.1
      replace H := H.2
      refine q0 I_16_57 (wi_iaload (x5.toNatClampNeg) hp4 hb21 rfl ?_)
      refine q0 I_16_58 (wi_istore [(0, .ref 144), (2, .int x2), (3, .ref p3), (4, .ref p4), (5, .int x5), (6, .int (di p4 (x5.toNatClampNeg)))] (lt_e X_16 rfl) rfl ?_)
      refine q0 I_16_60 (wi_iload_n _ rfl ?_)
      refine q0 I_16_61 (wi_iload _ rfl ?_)
      refine q0 I_16_63 (wi_iconst (-1) rfl ?_)
      refine q0 I_16_64 (wi_ixor ?_)
      refine q0 I_16_65 (wi_iand ?_)
      refine q0 I_16_66 (wi_istore [(0, .ref 144), (2, .int x2), (3, .ref p3), (4, .ref p4), (5, .int x5), (6, .int (di p4 (x5.toNatClampNeg))), (7, .int (x2 &&& (x5 ^^^ (-1))))] (lt_e X_16 rfl) rfl ?_)
      refine q0 I_16_68 (wi_iconst 0 rfl ?_)
      refine q0 I_16_69 (wi_istore [(0, .ref 144), (2, .int x2), (3, .ref p3), (4, .ref p4), (5, .int x5), (6, .int (di p4 (x5.toNatClampNeg))), (7, .int (x2 &&& (x5 ^^^ (-1)))), (8, .int 0)] (lt_e X_16 rfl) rfl ?_)
      exact Wq_c I_16_71 rfl rfl H
theorem r_16_71 {p3 : Nat} (hp3 : S0[p3]? = some (.inr (0, 256, []))) {p4 : Nat} (hp4 : S0[p4]? = some (.inr (0, 256, []))) {x2 : Int32} {x5 : Int32} {x6 : Int32} {x7 : Int32} {x8 : Int32} {di : tDi} {dl : tDl} {K : tDi → tDl → Prop} (H : ((8 ≤ x8 → (inB x5 256 = true ∧ (Wq none 0 16 31 [(0, .ref 144), (2, .int x2), (3, .ref p3), (4, .ref p4), (5, .int (x5 + 1))] [] (up2 di p3 (x5.toNatClampNeg) x6) dl (RV K)))) ∧ (x8 < 8 → (((x7 >>> (x8 &&& 31)) = 0 → (inB x5 256 = true ∧ (Wq none 0 16 31 [(0, .ref 144), (2, .int x2), (3, .ref p3), (4, .ref p4), (5, .int (x5 + 1))] [] (up2 di p3 (x5.toNatClampNeg) x6) dl (RV K)))) ∧ (¬ (x7 >>> (x8 &&& 31)) = 0 → ((((x7 >>> (x8 &&& 31)) &&& 1) = 0 → (Wq none 0 16 71 [(0, .ref 144), (2, .int x2), (3, .ref p3), (4, .ref p4), (5, .int x5), (6, .int x6), (7, .int x7), (8, .int (x8 + 1))] [] di dl (RV K))) ∧ (¬ ((x7 >>> (x8 &&& 31)) &&& 1) = 0 → (inB ((x5 ||| ((1 : Int32) <<< (x8 &&& 31))) &&& 255) 256 = true ∧ (Wq none 0 16 71 [(0, .ref 144), (2, .int x2), (3, .ref p3), (4, .ref p4), (5, .int x5), (6, .int (imax x6 ((1 : Int32) + (di p4 (((x5 ||| ((1 : Int32) <<< (x8 &&& 31))) &&& 255).toNatClampNeg))))), (7, .int x7), (8, .int (x8 + 1))] [] di dl (RV K)))))))))) : Wq none 0 16 71 [(0, .ref 144), (2, .int x2), (3, .ref p3), (4, .ref p4), (5, .int x5), (6, .int x6), (7, .int x7), (8, .int x8)] [] di dl (RV K) := by
  refine q1 (ls' := [(0, .ref 144), (2, .int x2), (3, .ref p3), (4, .ref p4), (5, .int x5), (6, .int x6), (7, .int x7), (8, .int x8)]) I_16_71 rfl (wi_iload _ rfl ?_)
  refine q0 I_16_73 (wi_bipush 8 rfl ?_)
  refine q0 I_16_75 (wi_ic_ge (fun h => ?_) (fun h => ?_))
  · replace H := H.1 h
    refine q1 (ls' := [(0, .ref 144), (2, .int x2), (3, .ref p3), (4, .ref p4), (5, .int x5), (6, .int x6)]) I_16_125 rfl (wi_aload_n _ rfl ?_)
    refine q0 I_16_126 (wi_iload _ rfl ?_)
    refine q0 I_16_128 (wi_iload _ rfl ?_)
    have hb21 := H.1
    replace H := H.2
    refine q0 I_16_130 (wi_iastore (x5.toNatClampNeg) hp3 hb21 rfl ?_)
    refine q0 I_16_131 (wi_iinc 1 [(0, .ref 144), (2, .int x2), (3, .ref p3), (4, .ref p4), (5, .int (x5 + 1)), (6, .int x6)] rfl (lt_e X_16 rfl) rfl rfl ?_)
    refine q0 I_16_134 (wi_goto ?_)
    exact Wq_c I_16_31 rfl rfl H
  · replace H := H.2 h
    refine q1 (ls' := [(0, .ref 144), (2, .int x2), (3, .ref p3), (4, .ref p4), (5, .int x5), (6, .int x6), (7, .int x7), (8, .int x8)]) I_16_78 rfl (wi_iload _ rfl ?_)
    refine q0 I_16_80 (wi_iload _ rfl ?_)
    refine q0 I_16_82 (wi_ishr ?_)
    refine q0 I_16_83 (wi_if_eq (fun h => ?_) (fun h => ?_))
    · replace H := H.1 h
      refine q1 (ls' := [(0, .ref 144), (2, .int x2), (3, .ref p3), (4, .ref p4), (5, .int x5), (6, .int x6)]) I_16_125 rfl (wi_aload_n _ rfl ?_)
      refine q0 I_16_126 (wi_iload _ rfl ?_)
      refine q0 I_16_128 (wi_iload _ rfl ?_)
      have hb22 := H.1
      replace H := H.2
      refine q0 I_16_130 (wi_iastore (x5.toNatClampNeg) hp3 hb22 rfl ?_)
      refine q0 I_16_131 (wi_iinc 1 [(0, .ref 144), (2, .int x2), (3, .ref p3), (4, .ref p4), (5, .int (x5 + 1)), (6, .int x6)] rfl (lt_e X_16 rfl) rfl rfl ?_)
      refine q0 I_16_134 (wi_goto ?_)
      exact Wq_c I_16_31 rfl rfl H
    · replace H := H.2 h
      refine q1 (ls' := [(0, .ref 144), (2, .int x2), (3, .ref p3), (4, .ref p4), (5, .int x5), (6, .int x6), (7, .int x7), (8, .int x8)]) I_16_86 rfl (wi_iload _ rfl ?_)
      refine q0 I_16_88 (wi_iload _ rfl ?_)
      refine q0 I_16_90 (wi_ishr ?_)
      refine q0 I_16_91 (wi_iconst 1 rfl ?_)
      refine q0 I_16_92 (wi_iand ?_)
      refine q0 I_16_93 (wi_if_eq (fun h => ?_) (fun h => ?_))
      · replace H := H.1 h
        refine q1 (ls' := [(0, .ref 144), (2, .int x2), (3, .ref p3), (4, .ref p4), (5, .int x5), (6, .int x6), (7, .int x7), (8, .int x8)]) I_16_119 rfl (wi_iinc 1 [(0, .ref 144), (2, .int x2), (3, .ref p3), (4, .ref p4), (5, .int x5), (6, .int x6), (7, .int x7), (8, .int (x8 + 1))] rfl (lt_e X_16 rfl) rfl rfl ?_)
        refine q0 I_16_122 (wi_goto ?_)
        exact Wq_c I_16_71 rfl rfl H
      · replace H := H.2 h
        refine q1 (ls' := [(0, .ref 144), (2, .int x2), (3, .ref p3), (4, .ref p4), (5, .int x5), (6, .int x6), (7, .int x7), (8, .int x8)]) I_16_96 rfl (wi_iload _ rfl ?_)
        refine q0 I_16_98 (wi_iconst 1 rfl ?_)
        refine q0 I_16_99 (wi_aload _ rfl ?_)
        refine q0 I_16_101 (wi_iload _ rfl ?_)
        refine q0 I_16_103 (wi_iconst 1 rfl ?_)
        refine q0 I_16_104 (wi_iload _ rfl ?_)
        refine q0 I_16_106 (wi_ishl ?_)
        refine q0 I_16_107 (wi_ior ?_)
        refine q0 I_16_108 (wi_sipush 255 rfl ?_)
        refine q0 I_16_111 (wi_iand ?_)
        have hb23 := H.1
        replace H := H.2
        refine q0 I_16_112 (wi_iaload (((x5 ||| ((1 : Int32) <<< (x8 &&& 31))) &&& 255).toNatClampNeg) hp4 hb23 rfl ?_)
        refine q0 I_16_113 (wi_iadd ?_)
        refine q0 I_16_114 (wi_max rfl (Nat.le_of_ble_eq_true rfl) ?_)
        refine q0 I_16_117 (wi_istore [(0, .ref 144), (2, .int x2), (3, .ref p3), (4, .ref p4), (5, .int x5), (6, .int (imax x6 ((1 : Int32) + (di p4 (((x5 ||| ((1 : Int32) <<< (x8 &&& 31))) &&& 255).toNatClampNeg))))), (7, .int x7), (8, .int x8)] (lt_e X_16 rfl) rfl ?_)
        refine q1 (ls' := [(0, .ref 144), (2, .int x2), (3, .ref p3), (4, .ref p4), (5, .int x5), (6, .int (imax x6 ((1 : Int32) + (di p4 (((x5 ||| ((1 : Int32) <<< (x8 &&& 31))) &&& 255).toNatClampNeg))))), (7, .int x7), (8, .int x8)]) I_16_119 rfl (wi_iinc 1 [(0, .ref 144), (2, .int x2), (3, .ref p3), (4, .ref p4), (5, .int x5), (6, .int (imax x6 ((1 : Int32) + (di p4 (((x5 ||| ((1 : Int32) <<< (x8 &&& 31))) &&& 255).toNatClampNeg))))), (7, .int x7), (8, .int (x8 + 1))] rfl (lt_e X_16 rfl) rfl rfl ?_)
        refine q0 I_16_122 (wi_goto ?_)
        exact Wq_c I_16_71 rfl rfl H
theorem r_211 {a1 : Int32} {a2 : Int32} {a3 : Int32} {a4 : Int32} {di : tDi} {dl : tDl} {K : Int64 → tDi → tDl → Prop} (H : (Wq none 1 211 6 [(0, .ref 176), (1, .int a1), (2, .int a2), (3, .int a3), (4, .int a4), (5, .int 0), (6, .int 0)] [] di dl (RJ K))) : ClJ 1 211 [.ref 176, .int a1, .int a2, .int a3, .int a4] di dl K := by
  refine Cl_of C_211 Z_211 [(0, .ref 176), (1, .int a1), (2, .int a2), (3, .int a3), (4, .int a4)] rfl ?_
  refine q0 I_211_0 (wi_iconst 0 rfl ?_)
  refine q0 I_211_1 (wi_istore [(0, .ref 176), (1, .int a1), (2, .int a2), (3, .int a3), (4, .int a4), (5, .int 0)] (lt_e X_211 rfl) rfl ?_)
  refine q0 I_211_3 (wi_iconst 0 rfl ?_)
  refine q0 I_211_4 (wi_istore [(0, .ref 176), (1, .int a1), (2, .int a2), (3, .int a3), (4, .int a4), (5, .int 0), (6, .int 0)] (lt_e X_211 rfl) rfl ?_)
  exact Wq_c I_211_6 rfl rfl H
theorem r_211_6 {x1 : Int32} {x2 : Int32} {x3 : Int32} {x4 : Int32} {x5 : Int32} {x6 : Int32} {di : tDi} {dl : tDl} {K : Int64 → tDi → tDl → Prop} (H : ((x3 ≤ x6 → (Wq none 1 211 51 [(0, .ref 176), (1, .int x1), (2, .int x2), (4, .int x4), (5, .int x5), (6, .long 0), (8, .long 1), (10, .long 1), (12, .int 0)] [] di dl (RJ K))) ∧ (x6 < x3 → (inB x6 24 = true ∧ ((¬ (di 186 (x6.toNatClampNeg)) = 4 → (Wq none 1 211 6 [(0, .ref 176), (1, .int x1), (2, .int x2), (3, .int x3), (4, .int x4), (5, .int (x5 + 0)), (6, .int (x6 + 1))] [] di dl (RJ K))) ∧ ((di 186 (x6.toNatClampNeg)) = 4 → (Wq none 1 211 6 [(0, .ref 176), (1, .int x1), (2, .int x2), (3, .int x3), (4, .int x4), (5, .int (x5 + 1)), (6, .int (x6 + 1))] [] di dl (RJ K)))))))) : Wq none 1 211 6 [(0, .ref 176), (1, .int x1), (2, .int x2), (3, .int x3), (4, .int x4), (5, .int x5), (6, .int x6)] [] di dl (RJ K) := by
  refine q1 (ls' := [(0, .ref 176), (1, .int x1), (2, .int x2), (3, .int x3), (4, .int x4), (5, .int x5), (6, .int x6)]) I_211_6 rfl (wi_iload _ rfl ?_)
  refine q0 I_211_8 (wi_iload_n _ rfl ?_)
  refine q0 I_211_9 (wi_ic_ge (fun h => ?_) (fun h => ?_))
  · replace H := H.1 h
    refine q1 (ls' := [(0, .ref 176), (1, .int x1), (2, .int x2), (4, .int x4), (5, .int x5)]) I_211_39 rfl (wi_lconst 0 rfl ?_)
    refine q0 I_211_40 (wi_lstore [(0, .ref 176), (1, .int x1), (2, .int x2), (4, .int x4), (5, .int x5), (6, .long 0)] (lt_e X_211 rfl) rfl ?_)
    refine q0 I_211_42 (wi_lconst 1 rfl ?_)
    refine q0 I_211_43 (wi_lstore [(0, .ref 176), (1, .int x1), (2, .int x2), (4, .int x4), (5, .int x5), (6, .long 0), (8, .long 1)] (lt_e X_211 rfl) rfl ?_)
    refine q0 I_211_45 (wi_lconst 1 rfl ?_)
    refine q0 I_211_46 (wi_lstore [(0, .ref 176), (1, .int x1), (2, .int x2), (4, .int x4), (5, .int x5), (6, .long 0), (8, .long 1), (10, .long 1)] (lt_e X_211 rfl) rfl ?_)
    refine q0 I_211_48 (wi_iconst 0 rfl ?_)
    refine q0 I_211_49 (wi_istore [(0, .ref 176), (1, .int x1), (2, .int x2), (4, .int x4), (5, .int x5), (6, .long 0), (8, .long 1), (10, .long 1), (12, .int 0)] (lt_e X_211 rfl) rfl ?_)
    exact Wq_c I_211_51 rfl rfl H
  · replace H := H.2 h
    refine q1 (ls' := [(0, .ref 176), (1, .int x1), (2, .int x2), (3, .int x3), (4, .int x4), (5, .int x5), (6, .int x6)]) I_211_12 rfl (wi_iload _ rfl ?_)
    refine q0 I_211_14 (wi_aload_n _ rfl ?_)
    refine q0 I_211_15 (wi_get (.ref 186) S_176 rfl (by decide) rfl ?_)
    refine q0 I_211_18 (wi_iload _ rfl ?_)
    have hb21 := H.1
    replace H := H.2
    refine q0 I_211_20 (wi_iaload (x6.toNatClampNeg) S_186 hb21 rfl ?_)
    refine q0 I_211_21 (wi_iconst 4 rfl ?_)
    refine q0 I_211_22 (wi_ic_ne (fun h => ?_) (fun h => ?_))
    · replace H := H.1 h
      refine q1 (ls' := [(0, .ref 176), (1, .int x1), (2, .int x2), (3, .int x3), (4, .int x4), (6, .int x6)]) I_211_29 rfl (wi_iconst 0 rfl ?_)
      refine q1 (ls' := [(0, .ref 176), (1, .int x1), (2, .int x2), (3, .int x3), (4, .int x4), (6, .int x6)]) I_211_30 rfl (wi_iadd ?_)
      refine q0 I_211_31 (wi_istore [(0, .ref 176), (1, .int x1), (2, .int x2), (3, .int x3), (4, .int x4), (5, .int (x5 + 0)), (6, .int x6)] (lt_e X_211 rfl) rfl ?_)
      refine q0 I_211_33 (wi_iinc 1 [(0, .ref 176), (1, .int x1), (2, .int x2), (3, .int x3), (4, .int x4), (5, .int (x5 + 0)), (6, .int (x6 + 1))] rfl (lt_e X_211 rfl) rfl rfl ?_)
      refine q0 I_211_36 (wi_goto ?_)
      exact Wq_c I_211_6 rfl rfl H
    · replace H := H.2 h
      refine q1 (ls' := [(0, .ref 176), (1, .int x1), (2, .int x2), (3, .int x3), (4, .int x4), (6, .int x6)]) I_211_25 rfl (wi_iconst 1 rfl ?_)
      refine q0 I_211_26 (wi_goto ?_)
      refine q1 (ls' := [(0, .ref 176), (1, .int x1), (2, .int x2), (3, .int x3), (4, .int x4), (6, .int x6)]) I_211_30 rfl (wi_iadd ?_)
      refine q0 I_211_31 (wi_istore [(0, .ref 176), (1, .int x1), (2, .int x2), (3, .int x3), (4, .int x4), (5, .int (x5 + 1)), (6, .int x6)] (lt_e X_211 rfl) rfl ?_)
      refine q0 I_211_33 (wi_iinc 1 [(0, .ref 176), (1, .int x1), (2, .int x2), (3, .int x3), (4, .int x4), (5, .int (x5 + 1)), (6, .int (x6 + 1))] rfl (lt_e X_211 rfl) rfl rfl ?_)
      refine q0 I_211_36 (wi_goto ?_)
      exact Wq_c I_211_6 rfl rfl H
theorem r_211_51 {x1 : Int32} {x2 : Int32} {x4 : Int32} {x5 : Int32} {x6 : Int64} {x8 : Int64} {x10 : Int64} {x12 : Int32} {di : tDi} {dl : tDl} {K : Int64 → tDi → tDl → Prop} (H : ((x5 < x12 → (ClJ 0 141 [.long x6, .long x8, .int x4] di dl (fun r21 di21 dl21 => (K r21 di21 dl21)))) ∧ (x12 ≤ x5 → (Wq none 1 211 65 [(0, .ref 176), (1, .int x1), (2, .int x2), (4, .int x4), (5, .int x5), (6, .long x6), (8, .long x8), (10, .long x10), (12, .int x12), (13, .long x10), (15, .int 0)] [] di dl (RJ K))))) : Wq none 1 211 51 [(0, .ref 176), (1, .int x1), (2, .int x2), (4, .int x4), (5, .int x5), (6, .long x6), (8, .long x8), (10, .long x10), (12, .int x12)] [] di dl (RJ K) := by
  refine q1 (ls' := [(0, .ref 176), (1, .int x1), (2, .int x2), (4, .int x4), (5, .int x5), (6, .long x6), (8, .long x8), (10, .long x10), (12, .int x12)]) I_211_51 rfl (wi_iload _ rfl ?_)
  refine q0 I_211_53 (wi_iload _ rfl ?_)
  refine q0 I_211_55 (wi_ic_gt (fun h => ?_) (fun h => ?_))
  · replace H := H.1 h
    refine q1 (ls' := [(4, .int x4), (6, .long x6), (8, .long x8)]) I_211_183 rfl (wi_lload _ rfl ?_)
    refine q0 I_211_185 (wi_lload _ rfl ?_)
    refine q0 I_211_187 (wi_iload _ rfl ?_)
    refine q0 I_211_189 (wi_statJ (e := 0) [.long x6, .long x8, .int x4] [] rfl (Or.inl rfl) rfl rfl rfl (okC_i rfl rfl rfl) C_141 (by decide) (ClJ_mono H ?_))
    intro r21 di21 dl21 H
    exact q0 I_211_192 (wi_jret T_211 C_211 ⟨_, rfl, H⟩)
  · replace H := H.2 h
    refine q1 (ls' := [(0, .ref 176), (1, .int x1), (2, .int x2), (4, .int x4), (5, .int x5), (6, .long x6), (8, .long x8), (10, .long x10), (12, .int x12)]) I_211_58 rfl (wi_lload _ rfl ?_)
    refine q0 I_211_60 (wi_lstore [(0, .ref 176), (1, .int x1), (2, .int x2), (4, .int x4), (5, .int x5), (6, .long x6), (8, .long x8), (10, .long x10), (12, .int x12), (13, .long x10)] (lt_e X_211 rfl) rfl ?_)
    refine q0 I_211_62 (wi_iconst 0 rfl ?_)
    refine q0 I_211_63 (wi_istore [(0, .ref 176), (1, .int x1), (2, .int x2), (4, .int x4), (5, .int x5), (6, .long x6), (8, .long x8), (10, .long x10), (12, .int x12), (13, .long x10), (15, .int 0)] (lt_e X_211 rfl) rfl ?_)
    exact Wq_c I_211_65 rfl rfl H
theorem r_211_65 {x1 : Int32} {x2 : Int32} {x4 : Int32} {x5 : Int32} {x6 : Int64} {x8 : Int64} {x10 : Int64} {x12 : Int32} {x13 : Int64} {x15 : Int32} {di : tDi} {dl : tDl} {K : Int64 → tDi → tDl → Prop} (H : ((x5 ≤ x15 → (inB (((4 : Int32) * x2) + 3) 32 = true ∧ (inB (((4 : Int32) * x2) + 1) 32 = true ∧ (ClI 0 173 [.int (di 185 ((((4 : Int32) * x2) + 1).toNatClampNeg))] di dl (fun r23 di23 dl23 => ((((di 185 ((((4 : Int32) * x2) + 3).toNatClampNeg)) - (x12 * r23)) ≤ 0 → ((x5 ≤ x12 → (¬ ((x12 + 1) : Int32).toInt64 = 0 ∧ (Wq none 1 211 51 [(0, .ref 176), (1, .int x1), (2, .int x2), (4, .int x4), (5, .int x5), (6, .long (x6 + 0)), (8, .long (x8 * 1)), (10, .long ((x10 * ((x5 - x12) : Int32).toInt64) / ((x12 + 1) : Int32).toInt64)), (12, .int (x12 + 1))] [] di23 dl23 (RJ K)))) ∧ (x12 < x5 → (¬ ((x12 + 1) : Int32).toInt64 = 0 ∧ (Wq none 1 211 51 [(0, .ref 176), (1, .int x1), (2, .int x2), (4, .int x4), (5, .int x5), (6, .long (x6 + 0)), (8, .long (x8 * 16)), (10, .long ((x10 * ((x5 - x12) : Int32).toInt64) / ((x12 + 1) : Int32).toInt64)), (12, .int (x12 + 1))] [] di23 dl23 (RJ K)))))) ∧ (0 < ((di 185 ((((4 : Int32) * x2) + 3).toNatClampNeg)) - (x12 * r23)) → ((x5 ≤ x12 → (¬ ((x12 + 1) : Int32).toInt64 = 0 ∧ (Wq none 1 211 51 [(0, .ref 176), (1, .int x1), (2, .int x2), (4, .int x4), (5, .int x5), (6, .long (x6 + x13)), (8, .long (x8 * 1)), (10, .long ((x10 * ((x5 - x12) : Int32).toInt64) / ((x12 + 1) : Int32).toInt64)), (12, .int (x12 + 1))] [] di23 dl23 (RJ K)))) ∧ (x12 < x5 → (¬ ((x12 + 1) : Int32).toInt64 = 0 ∧ (Wq none 1 211 51 [(0, .ref 176), (1, .int x1), (2, .int x2), (4, .int x4), (5, .int x5), (6, .long (x6 + x13)), (8, .long (x8 * 16)), (10, .long ((x10 * ((x5 - x12) : Int32).toInt64) / ((x12 + 1) : Int32).toInt64)), (12, .int (x12 + 1))] [] di23 dl23 (RJ K)))))))))))) ∧ (x15 < x5 → ((x12 ≤ x15 → (Wq none 1 211 65 [(0, .ref 176), (1, .int x1), (2, .int x2), (4, .int x4), (5, .int x5), (6, .long x6), (8, .long x8), (10, .long x10), (12, .int x12), (13, .long (x13 * (((16 : Int32) - x1) : Int32).toInt64)), (15, .int (x15 + 1))] [] di dl (RJ K))) ∧ (x15 < x12 → (Wq none 1 211 65 [(0, .ref 176), (1, .int x1), (2, .int x2), (4, .int x4), (5, .int x5), (6, .long x6), (8, .long x8), (10, .long x10), (12, .int x12), (13, .long (x13 * (x1 : Int32).toInt64)), (15, .int (x15 + 1))] [] di dl (RJ K))))))) : Wq none 1 211 65 [(0, .ref 176), (1, .int x1), (2, .int x2), (4, .int x4), (5, .int x5), (6, .long x6), (8, .long x8), (10, .long x10), (12, .int x12), (13, .long x13), (15, .int x15)] [] di dl (RJ K) := by
  refine q1 (ls' := [(0, .ref 176), (1, .int x1), (2, .int x2), (4, .int x4), (5, .int x5), (6, .long x6), (8, .long x8), (10, .long x10), (12, .int x12), (13, .long x13), (15, .int x15)]) I_211_65 rfl (wi_iload _ rfl ?_)
  refine q0 I_211_67 (wi_iload _ rfl ?_)
  refine q0 I_211_69 (wi_ic_ge (fun h => ?_) (fun h => ?_))
  · replace H := H.1 h
    refine q1 (ls' := [(0, .ref 176), (1, .int x1), (2, .int x2), (4, .int x4), (5, .int x5), (6, .long x6), (8, .long x8), (10, .long x10), (12, .int x12), (13, .long x13)]) I_211_100 rfl (wi_lload _ rfl ?_)
    refine q0 I_211_102 (wi_aload_n _ rfl ?_)
    refine q0 I_211_103 (wi_get (.ref 185) S_176 rfl (by decide) rfl ?_)
    refine q0 I_211_106 (wi_iconst 4 rfl ?_)
    refine q0 I_211_107 (wi_iload_n _ rfl ?_)
    refine q0 I_211_108 (wi_imul ?_)
    refine q0 I_211_109 (wi_iconst 3 rfl ?_)
    refine q0 I_211_110 (wi_iadd ?_)
    have hb21 := H.1
    replace H := H.2
    refine q0 I_211_111 (wi_iaload ((((4 : Int32) * x2) + 3).toNatClampNeg) S_185 hb21 rfl ?_)
    refine q0 I_211_112 (wi_iload _ rfl ?_)
    refine q0 I_211_114 (wi_aload_n _ rfl ?_)
    refine q0 I_211_115 (wi_get (.ref 185) S_176 rfl (by decide) rfl ?_)
    refine q0 I_211_118 (wi_iconst 4 rfl ?_)
    refine q0 I_211_119 (wi_iload_n _ rfl ?_)
    refine q0 I_211_120 (wi_imul ?_)
    refine q0 I_211_121 (wi_iconst 1 rfl ?_)
    refine q0 I_211_122 (wi_iadd ?_)
    have hb22 := H.1
    replace H := H.2
    refine q0 I_211_123 (wi_iaload ((((4 : Int32) * x2) + 1).toNatClampNeg) S_185 hb22 rfl ?_)
    refine q0 I_211_124 (wi_statI (e := 0) [.int (di 185 ((((4 : Int32) * x2) + 1).toNatClampNeg))] [.int x12, .int (di 185 ((((4 : Int32) * x2) + 3).toNatClampNeg)), .long x6] rfl (Or.inl rfl) rfl rfl rfl (okC_i rfl rfl rfl) C_173 (by decide) (ClI_mono H ?_))
    intro r23 di23 dl23 H
    refine q0 I_211_127 (wi_imul ?_)
    refine q0 I_211_128 (wi_isub ?_)
    refine q0 I_211_129 (wi_if_le (fun h => ?_) (fun h => ?_))
    · replace H := H.1 h
      refine q1 (ls' := [(0, .ref 176), (1, .int x1), (2, .int x2), (4, .int x4), (5, .int x5), (8, .long x8), (10, .long x10), (12, .int x12)]) I_211_137 rfl (wi_lconst 0 rfl ?_)
      refine q1 (ls' := [(0, .ref 176), (1, .int x1), (2, .int x2), (4, .int x4), (5, .int x5), (8, .long x8), (10, .long x10), (12, .int x12)]) I_211_138 rfl (wi_ladd ?_)
      refine q0 I_211_139 (wi_lstore [(0, .ref 176), (1, .int x1), (2, .int x2), (4, .int x4), (5, .int x5), (6, .long (x6 + 0)), (8, .long x8), (10, .long x10), (12, .int x12)] (lt_e X_211 rfl) rfl ?_)
      refine q0 I_211_141 (wi_lload _ rfl ?_)
      refine q0 I_211_143 (wi_iload _ rfl ?_)
      refine q0 I_211_145 (wi_iload _ rfl ?_)
      refine q0 I_211_147 (wi_ic_ge (fun h => ?_) (fun h => ?_))
      · replace H := H.1 h
        refine q1 (ls' := [(0, .ref 176), (1, .int x1), (2, .int x2), (4, .int x4), (5, .int x5), (6, .long (x6 + 0)), (10, .long x10), (12, .int x12)]) I_211_156 rfl (wi_lconst 1 rfl ?_)
        refine q1 (ls' := [(0, .ref 176), (1, .int x1), (2, .int x2), (4, .int x4), (5, .int x5), (6, .long (x6 + 0)), (10, .long x10), (12, .int x12)]) I_211_157 rfl (wi_lmul ?_)
        refine q0 I_211_158 (wi_lstore [(0, .ref 176), (1, .int x1), (2, .int x2), (4, .int x4), (5, .int x5), (6, .long (x6 + 0)), (8, .long (x8 * 1)), (10, .long x10), (12, .int x12)] (lt_e X_211 rfl) rfl ?_)
        refine q0 I_211_160 (wi_lload _ rfl ?_)
        refine q0 I_211_162 (wi_iload _ rfl ?_)
        refine q0 I_211_164 (wi_iload _ rfl ?_)
        refine q0 I_211_166 (wi_isub ?_)
        refine q0 I_211_167 (wi_i2l ?_)
        refine q0 I_211_168 (wi_lmul ?_)
        refine q0 I_211_169 (wi_iload _ rfl ?_)
        refine q0 I_211_171 (wi_iconst 1 rfl ?_)
        refine q0 I_211_172 (wi_iadd ?_)
        refine q0 I_211_173 (wi_i2l ?_)
        refine q0 I_211_174 (wi_ldiv H.1 ?_)
        replace H := H.2
        refine q0 I_211_175 (wi_lstore [(0, .ref 176), (1, .int x1), (2, .int x2), (4, .int x4), (5, .int x5), (6, .long (x6 + 0)), (8, .long (x8 * 1)), (10, .long ((x10 * ((x5 - x12) : Int32).toInt64) / ((x12 + 1) : Int32).toInt64)), (12, .int x12)] (lt_e X_211 rfl) rfl ?_)
        refine q0 I_211_177 (wi_iinc 1 [(0, .ref 176), (1, .int x1), (2, .int x2), (4, .int x4), (5, .int x5), (6, .long (x6 + 0)), (8, .long (x8 * 1)), (10, .long ((x10 * ((x5 - x12) : Int32).toInt64) / ((x12 + 1) : Int32).toInt64)), (12, .int (x12 + 1))] rfl (lt_e X_211 rfl) rfl rfl ?_)
        refine q0 I_211_180 (wi_goto ?_)
        exact Wq_c I_211_51 rfl rfl H
      · replace H := H.2 h
        refine q1 (ls' := [(0, .ref 176), (1, .int x1), (2, .int x2), (4, .int x4), (5, .int x5), (6, .long (x6 + 0)), (10, .long x10), (12, .int x12)]) I_211_150 rfl (wi_ldc2_w 16 rfl ?_)
        refine q0 I_211_153 (wi_goto ?_)
        refine q1 (ls' := [(0, .ref 176), (1, .int x1), (2, .int x2), (4, .int x4), (5, .int x5), (6, .long (x6 + 0)), (10, .long x10), (12, .int x12)]) I_211_157 rfl (wi_lmul ?_)
        refine q0 I_211_158 (wi_lstore [(0, .ref 176), (1, .int x1), (2, .int x2), (4, .int x4), (5, .int x5), (6, .long (x6 + 0)), (8, .long (x8 * 16)), (10, .long x10), (12, .int x12)] (lt_e X_211 rfl) rfl ?_)
        refine q0 I_211_160 (wi_lload _ rfl ?_)
        refine q0 I_211_162 (wi_iload _ rfl ?_)
        refine q0 I_211_164 (wi_iload _ rfl ?_)
        refine q0 I_211_166 (wi_isub ?_)
        refine q0 I_211_167 (wi_i2l ?_)
        refine q0 I_211_168 (wi_lmul ?_)
        refine q0 I_211_169 (wi_iload _ rfl ?_)
        refine q0 I_211_171 (wi_iconst 1 rfl ?_)
        refine q0 I_211_172 (wi_iadd ?_)
        refine q0 I_211_173 (wi_i2l ?_)
        refine q0 I_211_174 (wi_ldiv H.1 ?_)
        replace H := H.2
        refine q0 I_211_175 (wi_lstore [(0, .ref 176), (1, .int x1), (2, .int x2), (4, .int x4), (5, .int x5), (6, .long (x6 + 0)), (8, .long (x8 * 16)), (10, .long ((x10 * ((x5 - x12) : Int32).toInt64) / ((x12 + 1) : Int32).toInt64)), (12, .int x12)] (lt_e X_211 rfl) rfl ?_)
        refine q0 I_211_177 (wi_iinc 1 [(0, .ref 176), (1, .int x1), (2, .int x2), (4, .int x4), (5, .int x5), (6, .long (x6 + 0)), (8, .long (x8 * 16)), (10, .long ((x10 * ((x5 - x12) : Int32).toInt64) / ((x12 + 1) : Int32).toInt64)), (12, .int (x12 + 1))] rfl (lt_e X_211 rfl) rfl rfl ?_)
        refine q0 I_211_180 (wi_goto ?_)
        exact Wq_c I_211_51 rfl rfl H
    · replace H := H.2 h
      refine q1 (ls' := [(0, .ref 176), (1, .int x1), (2, .int x2), (4, .int x4), (5, .int x5), (8, .long x8), (10, .long x10), (12, .int x12), (13, .long x13)]) I_211_132 rfl (wi_lload _ rfl ?_)
      refine q0 I_211_134 (wi_goto ?_)
      refine q1 (ls' := [(0, .ref 176), (1, .int x1), (2, .int x2), (4, .int x4), (5, .int x5), (8, .long x8), (10, .long x10), (12, .int x12)]) I_211_138 rfl (wi_ladd ?_)
      refine q0 I_211_139 (wi_lstore [(0, .ref 176), (1, .int x1), (2, .int x2), (4, .int x4), (5, .int x5), (6, .long (x6 + x13)), (8, .long x8), (10, .long x10), (12, .int x12)] (lt_e X_211 rfl) rfl ?_)
      refine q0 I_211_141 (wi_lload _ rfl ?_)
      refine q0 I_211_143 (wi_iload _ rfl ?_)
      refine q0 I_211_145 (wi_iload _ rfl ?_)
      refine q0 I_211_147 (wi_ic_ge (fun h => ?_) (fun h => ?_))
      · replace H := H.1 h
        refine q1 (ls' := [(0, .ref 176), (1, .int x1), (2, .int x2), (4, .int x4), (5, .int x5), (6, .long (x6 + x13)), (10, .long x10), (12, .int x12)]) I_211_156 rfl (wi_lconst 1 rfl ?_)
        refine q1 (ls' := [(0, .ref 176), (1, .int x1), (2, .int x2), (4, .int x4), (5, .int x5), (6, .long (x6 + x13)), (10, .long x10), (12, .int x12)]) I_211_157 rfl (wi_lmul ?_)
        refine q0 I_211_158 (wi_lstore [(0, .ref 176), (1, .int x1), (2, .int x2), (4, .int x4), (5, .int x5), (6, .long (x6 + x13)), (8, .long (x8 * 1)), (10, .long x10), (12, .int x12)] (lt_e X_211 rfl) rfl ?_)
        refine q0 I_211_160 (wi_lload _ rfl ?_)
        refine q0 I_211_162 (wi_iload _ rfl ?_)
        refine q0 I_211_164 (wi_iload _ rfl ?_)
        refine q0 I_211_166 (wi_isub ?_)
        refine q0 I_211_167 (wi_i2l ?_)
        refine q0 I_211_168 (wi_lmul ?_)
        refine q0 I_211_169 (wi_iload _ rfl ?_)
        refine q0 I_211_171 (wi_iconst 1 rfl ?_)
        refine q0 I_211_172 (wi_iadd ?_)
        refine q0 I_211_173 (wi_i2l ?_)
        refine q0 I_211_174 (wi_ldiv H.1 ?_)
        replace H := H.2
        refine q0 I_211_175 (wi_lstore [(0, .ref 176), (1, .int x1), (2, .int x2), (4, .int x4), (5, .int x5), (6, .long (x6 + x13)), (8, .long (x8 * 1)), (10, .long ((x10 * ((x5 - x12) : Int32).toInt64) / ((x12 + 1) : Int32).toInt64)), (12, .int x12)] (lt_e X_211 rfl) rfl ?_)
        refine q0 I_211_177 (wi_iinc 1 [(0, .ref 176), (1, .int x1), (2, .int x2), (4, .int x4), (5, .int x5), (6, .long (x6 + x13)), (8, .long (x8 * 1)), (10, .long ((x10 * ((x5 - x12) : Int32).toInt64) / ((x12 + 1) : Int32).toInt64)), (12, .int (x12 + 1))] rfl (lt_e X_211 rfl) rfl rfl ?_)
        refine q0 I_211_180 (wi_goto ?_)
        exact Wq_c I_211_51 rfl rfl H
      · replace H := H.2 h
        refine q1 (ls' := [(0, .ref 176), (1, .int x1), (2, .int x2), (4, .int x4), (5, .int x5), (6, .long (x6 + x13)), (10, .long x10), (12, .int x12)]) I_211_150 rfl (wi_ldc2_w 16 rfl ?_)
        refine q0 I_211_153 (wi_goto ?_)
        refine q1 (ls' := [(0, .ref 176), (1, .int x1), (2, .int x2), (4, .int x4), (5, .int x5), (6, .long (x6 + x13)), (10, .long x10), (12, .int x12)]) I_211_157 rfl (wi_lmul ?_)
        refine q0 I_211_158 (wi_lstore [(0, .ref 176), (1, .int x1), (2, .int x2), (4, .int x4), (5, .int x5), (6, .long (x6 + x13)), (8, .long (x8 * 16)), (10, .long x10), (12, .int x12)] (lt_e X_211 rfl) rfl ?_)
        refine q0 I_211_160 (wi_lload _ rfl ?_)
        refine q0 I_211_162 (wi_iload _ rfl ?_)
        refine q0 I_211_164 (wi_iload _ rfl ?_)
        refine q0 I_211_166 (wi_isub ?_)
        refine q0 I_211_167 (wi_i2l ?_)
        refine q0 I_211_168 (wi_lmul ?_)
        refine q0 I_211_169 (wi_iload _ rfl ?_)
        refine q0 I_211_171 (wi_iconst 1 rfl ?_)
        refine q0 I_211_172 (wi_iadd ?_)
        refine q0 I_211_173 (wi_i2l ?_)
        refine q0 I_211_174 (wi_ldiv H.1 ?_)
        replace H := H.2
        refine q0 I_211_175 (wi_lstore [(0, .ref 176), (1, .int x1), (2, .int x2), (4, .int x4), (5, .int x5), (6, .long (x6 + x13)), (8, .long (x8 * 16)), (10, .long ((x10 * ((x5 - x12) : Int32).toInt64) / ((x12 + 1) : Int32).toInt64)), (12, .int x12)] (lt_e X_211 rfl) rfl ?_)
        refine q0 I_211_177 (wi_iinc 1 [(0, .ref 176), (1, .int x1), (2, .int x2), (4, .int x4), (5, .int x5), (6, .long (x6 + x13)), (8, .long (x8 * 16)), (10, .long ((x10 * ((x5 - x12) : Int32).toInt64) / ((x12 + 1) : Int32).toInt64)), (12, .int (x12 + 1))] rfl (lt_e X_211 rfl) rfl rfl ?_)
        refine q0 I_211_180 (wi_goto ?_)
        exact Wq_c I_211_51 rfl rfl H
  · replace H := H.2 h
    refine q1 (ls' := [(0, .ref 176), (1, .int x1), (2, .int x2), (4, .int x4), (5, .int x5), (6, .long x6), (8, .long x8), (10, .long x10), (12, .int x12), (13, .long x13), (15, .int x15)]) I_211_72 rfl (wi_lload _ rfl ?_)
    refine q0 I_211_74 (wi_iload _ rfl ?_)
    refine q0 I_211_76 (wi_iload _ rfl ?_)
    refine q0 I_211_78 (wi_ic_ge (fun h => ?_) (fun h => ?_))
    · replace H := H.1 h
      refine q1 (ls' := [(0, .ref 176), (1, .int x1), (2, .int x2), (4, .int x4), (5, .int x5), (6, .long x6), (8, .long x8), (10, .long x10), (12, .int x12), (15, .int x15)]) I_211_86 rfl (wi_bipush 16 rfl ?_)
      refine q0 I_211_88 (wi_iload_n _ rfl ?_)
      refine q0 I_211_89 (wi_isub ?_)
      refine q0 I_211_90 (wi_i2l ?_)
      refine q1 (ls' := [(0, .ref 176), (1, .int x1), (2, .int x2), (4, .int x4), (5, .int x5), (6, .long x6), (8, .long x8), (10, .long x10), (12, .int x12), (15, .int x15)]) I_211_91 rfl (wi_lmul ?_)
      refine q0 I_211_92 (wi_lstore [(0, .ref 176), (1, .int x1), (2, .int x2), (4, .int x4), (5, .int x5), (6, .long x6), (8, .long x8), (10, .long x10), (12, .int x12), (13, .long (x13 * (((16 : Int32) - x1) : Int32).toInt64)), (15, .int x15)] (lt_e X_211 rfl) rfl ?_)
      refine q0 I_211_94 (wi_iinc 1 [(0, .ref 176), (1, .int x1), (2, .int x2), (4, .int x4), (5, .int x5), (6, .long x6), (8, .long x8), (10, .long x10), (12, .int x12), (13, .long (x13 * (((16 : Int32) - x1) : Int32).toInt64)), (15, .int (x15 + 1))] rfl (lt_e X_211 rfl) rfl rfl ?_)
      refine q0 I_211_97 (wi_goto ?_)
      exact Wq_c I_211_65 rfl rfl H
    · replace H := H.2 h
      refine q1 (ls' := [(0, .ref 176), (1, .int x1), (2, .int x2), (4, .int x4), (5, .int x5), (6, .long x6), (8, .long x8), (10, .long x10), (12, .int x12), (15, .int x15)]) I_211_81 rfl (wi_iload_n _ rfl ?_)
      refine q0 I_211_82 (wi_i2l ?_)
      refine q0 I_211_83 (wi_goto ?_)
      refine q1 (ls' := [(0, .ref 176), (1, .int x1), (2, .int x2), (4, .int x4), (5, .int x5), (6, .long x6), (8, .long x8), (10, .long x10), (12, .int x12), (15, .int x15)]) I_211_91 rfl (wi_lmul ?_)
      refine q0 I_211_92 (wi_lstore [(0, .ref 176), (1, .int x1), (2, .int x2), (4, .int x4), (5, .int x5), (6, .long x6), (8, .long x8), (10, .long x10), (12, .int x12), (13, .long (x13 * (x1 : Int32).toInt64)), (15, .int x15)] (lt_e X_211 rfl) rfl ?_)
      refine q0 I_211_94 (wi_iinc 1 [(0, .ref 176), (1, .int x1), (2, .int x2), (4, .int x4), (5, .int x5), (6, .long x6), (8, .long x8), (10, .long x10), (12, .int x12), (13, .long (x13 * (x1 : Int32).toInt64)), (15, .int (x15 + 1))] rfl (lt_e X_211 rfl) rfl rfl ?_)
      refine q0 I_211_97 (wi_goto ?_)
      exact Wq_c I_211_65 rfl rfl H
