/-! the law, region by region: written by program (gen24.py) -/
theorem X_220 : mMax 220 = 4 := rfl
theorem T_220 : mRet 220 = some .boolean := rfl
theorem r_220_18 {L : Nat} {xs : Nat → Int32} {x3 : Int32} {di : tDi} {dl : tDl} {K : Int32 → tDi → tDl → Prop} (H : ((((Int32.ofNat L) - 6) < x3 → (K 1 di dl)) ∧ (x3 ≤ ((Int32.ofNat L) - 6) → (inB x3 L = true ∧ ((((xs x3.toNatClampNeg) &&& 31) = 0 → (Wq (some (L, xs)) 100 220 176 [(0, .ref SCR), (1, .ref 0), (2, .ref 176), (3, .int x3)] [] di dl (RI K))) ∧ (¬ ((xs x3.toNatClampNeg) &&& 31) = 0 → ((((xs x3.toNatClampNeg) &&& 31) = 1 → (Wq (some (L, xs)) 100 220 209 [(0, .ref SCR), (1, .ref 0), (2, .ref 176), (3, .int x3)] [] di dl (RI K))) ∧ (¬ ((xs x3.toNatClampNeg) &&& 31) = 1 → ((((xs x3.toNatClampNeg) &&& 31) = 2 → (Wq (some (L, xs)) 100 220 232 [(0, .ref SCR), (1, .ref 0), (2, .ref 176), (3, .int x3)] [] di dl (RI K))) ∧ (¬ ((xs x3.toNatClampNeg) &&& 31) = 2 → ((((xs x3.toNatClampNeg) &&& 31) = 3 → (Wq (some (L, xs)) 100 220 255 [(0, .ref SCR), (1, .ref 0), (2, .ref 176), (3, .int x3)] [] di dl (RI K))) ∧ (¬ ((xs x3.toNatClampNeg) &&& 31) = 3 → ((((xs x3.toNatClampNeg) &&& 31) = 4 → (Wq (some (L, xs)) 100 220 278 [(0, .ref SCR), (1, .ref 0), (2, .ref 176), (3, .int x3)] [] di dl (RI K))) ∧ (¬ ((xs x3.toNatClampNeg) &&& 31) = 4 → ((((xs x3.toNatClampNeg) &&& 31) = 5 → (Wq (some (L, xs)) 100 220 311 [(0, .ref SCR), (1, .ref 0), (2, .ref 176), (3, .int x3)] [] di dl (RI K))) ∧ (¬ ((xs x3.toNatClampNeg) &&& 31) = 5 → ((((xs x3.toNatClampNeg) &&& 31) = 6 → (Wq (some (L, xs)) 100 220 344 [(0, .ref SCR), (1, .ref 0), (2, .ref 176), (3, .int x3)] [] di dl (RI K))) ∧ (¬ ((xs x3.toNatClampNeg) &&& 31) = 6 → ((((xs x3.toNatClampNeg) &&& 31) = 7 → (Wq (some (L, xs)) 100 220 367 [(0, .ref SCR), (1, .ref 0), (2, .ref 176), (3, .int x3)] [] di dl (RI K))) ∧ (¬ ((xs x3.toNatClampNeg) &&& 31) = 7 → ((((xs x3.toNatClampNeg) &&& 31) = 8 → (Wq (some (L, xs)) 100 220 400 [(0, .ref SCR), (1, .ref 0), (2, .ref 176), (3, .int x3)] [] di dl (RI K))) ∧ (¬ ((xs x3.toNatClampNeg) &&& 31) = 8 → ((((xs x3.toNatClampNeg) &&& 31) = 9 → (Wq (some (L, xs)) 100 220 443 [(0, .ref SCR), (1, .ref 0), (2, .ref 176), (3, .int x3)] [] di dl (RI K))) ∧ (¬ ((xs x3.toNatClampNeg) &&& 31) = 9 → ((((xs x3.toNatClampNeg) &&& 31) = 10 → (Wq (some (L, xs)) 100 220 476 [(0, .ref SCR), (1, .ref 0), (2, .ref 176), (3, .int x3)] [] di dl (RI K))) ∧ (¬ ((xs x3.toNatClampNeg) &&& 31) = 10 → ((((xs x3.toNatClampNeg) &&& 31) = 11 → (Wq (some (L, xs)) 100 220 509 [(0, .ref SCR), (1, .ref 0), (2, .ref 176), (3, .int x3)] [] di dl (RI K))) ∧ (¬ ((xs x3.toNatClampNeg) &&& 31) = 11 → ((((xs x3.toNatClampNeg) &&& 31) = 12 → (Wq (some (L, xs)) 100 220 542 [(0, .ref SCR), (1, .ref 0), (2, .ref 176), (3, .int x3)] [] di dl (RI K))) ∧ (¬ ((xs x3.toNatClampNeg) &&& 31) = 12 → ((((xs x3.toNatClampNeg) &&& 31) = 13 → (Wq (some (L, xs)) 100 220 565 [(0, .ref SCR), (1, .ref 0), (2, .ref 176), (3, .int x3)] [] di dl (RI K))) ∧ (¬ ((xs x3.toNatClampNeg) &&& 31) = 13 → ((((xs x3.toNatClampNeg) &&& 31) = 14 → (Wq (some (L, xs)) 100 220 588 [(0, .ref SCR), (1, .ref 0), (2, .ref 176), (3, .int x3)] [] di dl (RI K))) ∧ (¬ ((xs x3.toNatClampNeg) &&& 31) = 14 → ((((xs x3.toNatClampNeg) &&& 31) = 15 → (Wq (some (L, xs)) 100 220 621 [(0, .ref SCR), (1, .ref 0), (2, .ref 176), (3, .int x3)] [] di dl (RI K))) ∧ (¬ ((xs x3.toNatClampNeg) &&& 31) = 15 → ((((xs x3.toNatClampNeg) &&& 31) = 16 → (Wq (some (L, xs)) 100 220 664 [(0, .ref SCR), (1, .ref 0), (2, .ref 176), (3, .int x3)] [] di dl (RI K))) ∧ (¬ ((xs x3.toNatClampNeg) &&& 31) = 16 → ((((xs x3.toNatClampNeg) &&& 31) = 17 → (Wq (some (L, xs)) 100 220 697 [(0, .ref SCR), (1, .ref 0), (2, .ref 176), (3, .int x3)] [] di dl (RI K))) ∧ (¬ ((xs x3.toNatClampNeg) &&& 31) = 17 → ((((xs x3.toNatClampNeg) &&& 31) = 18 → (Wq (some (L, xs)) 100 220 740 [(0, .ref SCR), (1, .ref 0), (2, .ref 176), (3, .int x3)] [] di dl (RI K))) ∧ (¬ ((xs x3.toNatClampNeg) &&& 31) = 18 → ((((xs x3.toNatClampNeg) &&& 31) = 19 → (Wq (some (L, xs)) 100 220 753 [(0, .ref SCR), (1, .ref 0), (2, .ref 176), (3, .int x3)] [] di dl (RI K))) ∧ (¬ ((xs x3.toNatClampNeg) &&& 31) = 19 → ((((xs x3.toNatClampNeg) &&& 31) = 20 → (Wq (some (L, xs)) 100 220 776 [(0, .ref SCR), (1, .ref 0), (2, .ref 176), (3, .int x3)] [] di dl (RI K))) ∧ (¬ ((xs x3.toNatClampNeg) &&& 31) = 20 → ((((xs x3.toNatClampNeg) &&& 31) = 21 → (Wq (some (L, xs)) 100 220 799 [(0, .ref SCR), (1, .ref 0), (2, .ref 176), (3, .int x3)] [] di dl (RI K))) ∧ (¬ ((xs x3.toNatClampNeg) &&& 31) = 21 → ((((xs x3.toNatClampNeg) &&& 31) = 22 → (Wq (some (L, xs)) 100 220 822 [(0, .ref SCR), (1, .ref 0), (2, .ref 176), (3, .int x3)] [] di dl (RI K))) ∧ (¬ ((xs x3.toNatClampNeg) &&& 31) = 22 → ((((xs x3.toNatClampNeg) &&& 31) = 23 → (Wq (some (L, xs)) 100 220 876 [(0, .ref SCR), (1, .ref 0), (2, .ref 176), (3, .int x3)] [] di dl (RI K))) ∧ (¬ ((xs x3.toNatClampNeg) &&& 31) = 23 → ((((xs x3.toNatClampNeg) &&& 31) = 24 → (Wq (some (L, xs)) 100 220 919 [(0, .ref SCR), (1, .ref 0), (2, .ref 176), (3, .int x3)] [] di dl (RI K))) ∧ (¬ ((xs x3.toNatClampNeg) &&& 31) = 24 → ((((xs x3.toNatClampNeg) &&& 31) = 25 → (Wq (some (L, xs)) 100 220 962 [(0, .ref SCR), (1, .ref 0), (2, .ref 176), (3, .int x3)] [] di dl (RI K))) ∧ (¬ ((xs x3.toNatClampNeg) &&& 31) = 25 → ((((xs x3.toNatClampNeg) &&& 31) = 26 → (Wq (some (L, xs)) 100 220 985 [(0, .ref SCR), (1, .ref 0), (2, .ref 176), (3, .int x3)] [] di dl (RI K))) ∧ (¬ ((xs x3.toNatClampNeg) &&& 31) = 26 → ((((xs x3.toNatClampNeg) &&& 31) = 27 → (Wq (some (L, xs)) 100 220 1038 [(0, .ref SCR), (1, .ref 0), (2, .ref 176), (3, .int x3)] [] di dl (RI K))) ∧ (¬ ((xs x3.toNatClampNeg) &&& 31) = 27 → ((((xs x3.toNatClampNeg) &&& 31) = 28 → (Wq (some (L, xs)) 100 220 1081 [(0, .ref SCR), (1, .ref 0), (2, .ref 176), (3, .int x3)] [] di dl (RI K))) ∧ (¬ ((xs x3.toNatClampNeg) &&& 31) = 28 → ((((xs x3.toNatClampNeg) &&& 31) = 29 → (Wq (some (L, xs)) 100 220 1144 [(0, .ref SCR), (1, .ref 0), (2, .ref 176), (3, .int x3)] [] di dl (RI K))) ∧ (¬ ((xs x3.toNatClampNeg) &&& 31) = 29 → ((((xs x3.toNatClampNeg) &&& 31) = 30 → (Wq (some (L, xs)) 100 220 1177 [(0, .ref SCR), (1, .ref 0), (2, .ref 176), (3, .int x3)] [] di dl (RI K))) ∧ (¬ ((xs x3.toNatClampNeg) &&& 31) = 30 → ((((xs x3.toNatClampNeg) &&& 31) = 31 → (Wq (some (L, xs)) 100 220 1200 [(0, .ref SCR), (1, .ref 0), (2, .ref 176), (3, .int x3)] [] di dl (RI K))) ∧ (¬ ((xs x3.toNatClampNeg) &&& 31) = 31 → (Wq (some (L, xs)) 100 220 1214 [(0, .ref SCR), (1, .ref 0), (2, .ref 176), (3, .int x3)] [] di dl (RI K)))))))))))))))))))))))))))))))))))))))))))))))))))))))))))))))))))))) : Wq (some (L, xs)) 100 220 18 [(0, .ref SCR), (1, .ref 0), (2, .ref 176), (3, .int x3)] [] di dl (RI K) := by
  refine q1 (ls' := [(0, .ref SCR), (1, .ref 0), (2, .ref 176), (3, .int x3)]) I_220_18 rfl (wi_iload_n _ rfl ?_)
  refine q0 I_220_19 (wi_aload_n _ rfl ?_)
  refine q0 I_220_20 (wi_alenS ?_)
  refine q0 I_220_21 (wi_bipush 6 rfl ?_)
  refine q0 I_220_23 (wi_isub ?_)
  refine q0 I_220_24 (wi_ic_gt (fun h => ?_) (fun h => ?_))
  · replace H := H.1 h
    refine q1 (ls' := []) I_220_1220 rfl (wi_iconst 1 rfl ?_)
    exact q0 I_220_1221 (wi_zret T_220 (Or.inr rfl) (Or.inr rfl) ⟨_, rfl, H⟩)
  · replace H := H.2 h
    refine q1 (ls' := [(0, .ref SCR), (1, .ref 0), (2, .ref 176), (3, .int x3)]) I_220_27 rfl (wi_aload_n _ rfl ?_)
    refine q0 I_220_28 (wi_iload_n _ rfl ?_)
    refine q0 I_220_29 (wi_ialoadS H.1 ?_)
    replace H := H.2
    refine q0 I_220_30 (wi_bipush 31 rfl ?_)
    refine q0 I_220_32 (wi_iand ?_)
    refine q0 I_220_33 (wi_tsw ?_)
    refine sw_cons 0 rfl ⟨fun h => ?_, fun h => ?_⟩
    · replace H := H.1 h
      exact Wq_c I_220_176 rfl rfl H
    · replace H := H.2 h
      refine sw_cons 1 rfl ⟨fun h => ?_, fun h => ?_⟩
      · replace H := H.1 h
        exact Wq_c I_220_209 rfl rfl H
      · replace H := H.2 h
        refine sw_cons 2 rfl ⟨fun h => ?_, fun h => ?_⟩
        · replace H := H.1 h
          exact Wq_c I_220_232 rfl rfl H
        · replace H := H.2 h
          refine sw_cons 3 rfl ⟨fun h => ?_, fun h => ?_⟩
          · replace H := H.1 h
            exact Wq_c I_220_255 rfl rfl H
          · replace H := H.2 h
            refine sw_cons 4 rfl ⟨fun h => ?_, fun h => ?_⟩
            · replace H := H.1 h
              exact Wq_c I_220_278 rfl rfl H
            · replace H := H.2 h
              refine sw_cons 5 rfl ⟨fun h => ?_, fun h => ?_⟩
              · replace H := H.1 h
                exact Wq_c I_220_311 rfl rfl H
              · replace H := H.2 h
                refine sw_cons 6 rfl ⟨fun h => ?_, fun h => ?_⟩
                · replace H := H.1 h
                  exact Wq_c I_220_344 rfl rfl H
                · replace H := H.2 h
                  refine sw_cons 7 rfl ⟨fun h => ?_, fun h => ?_⟩
                  · replace H := H.1 h
                    exact Wq_c I_220_367 rfl rfl H
                  · replace H := H.2 h
                    refine sw_cons 8 rfl ⟨fun h => ?_, fun h => ?_⟩
                    · replace H := H.1 h
                      exact Wq_c I_220_400 rfl rfl H
                    · replace H := H.2 h
                      refine sw_cons 9 rfl ⟨fun h => ?_, fun h => ?_⟩
                      · replace H := H.1 h
                        exact Wq_c I_220_443 rfl rfl H
                      · replace H := H.2 h
                        refine sw_cons 10 rfl ⟨fun h => ?_, fun h => ?_⟩
                        · replace H := H.1 h
                          exact Wq_c I_220_476 rfl rfl H
                        · replace H := H.2 h
                          refine sw_cons 11 rfl ⟨fun h => ?_, fun h => ?_⟩
                          · replace H := H.1 h
                            exact Wq_c I_220_509 rfl rfl H
                          · replace H := H.2 h
                            refine sw_cons 12 rfl ⟨fun h => ?_, fun h => ?_⟩
                            · replace H := H.1 h
                              exact Wq_c I_220_542 rfl rfl H
                            · replace H := H.2 h
                              refine sw_cons 13 rfl ⟨fun h => ?_, fun h => ?_⟩
                              · replace H := H.1 h
                                exact Wq_c I_220_565 rfl rfl H
                              · replace H := H.2 h
                                refine sw_cons 14 rfl ⟨fun h => ?_, fun h => ?_⟩
                                · replace H := H.1 h
                                  exact Wq_c I_220_588 rfl rfl H
                                · replace H := H.2 h
                                  refine sw_cons 15 rfl ⟨fun h => ?_, fun h => ?_⟩
                                  · replace H := H.1 h
                                    exact Wq_c I_220_621 rfl rfl H
                                  · replace H := H.2 h
                                    refine sw_cons 16 rfl ⟨fun h => ?_, fun h => ?_⟩
                                    · replace H := H.1 h
                                      exact Wq_c I_220_664 rfl rfl H
                                    · replace H := H.2 h
                                      refine sw_cons 17 rfl ⟨fun h => ?_, fun h => ?_⟩
                                      · replace H := H.1 h
                                        exact Wq_c I_220_697 rfl rfl H
                                      · replace H := H.2 h
                                        refine sw_cons 18 rfl ⟨fun h => ?_, fun h => ?_⟩
                                        · replace H := H.1 h
                                          exact Wq_c I_220_740 rfl rfl H
                                        · replace H := H.2 h
                                          refine sw_cons 19 rfl ⟨fun h => ?_, fun h => ?_⟩
                                          · replace H := H.1 h
                                            exact Wq_c I_220_753 rfl rfl H
                                          · replace H := H.2 h
                                            refine sw_cons 20 rfl ⟨fun h => ?_, fun h => ?_⟩
                                            · replace H := H.1 h
                                              exact Wq_c I_220_776 rfl rfl H
                                            · replace H := H.2 h
                                              refine sw_cons 21 rfl ⟨fun h => ?_, fun h => ?_⟩
                                              · replace H := H.1 h
                                                exact Wq_c I_220_799 rfl rfl H
                                              · replace H := H.2 h
                                                refine sw_cons 22 rfl ⟨fun h => ?_, fun h => ?_⟩
                                                · replace H := H.1 h
                                                  exact Wq_c I_220_822 rfl rfl H
                                                · replace H := H.2 h
                                                  refine sw_cons 23 rfl ⟨fun h => ?_, fun h => ?_⟩
                                                  · replace H := H.1 h
                                                    exact Wq_c I_220_876 rfl rfl H
                                                  · replace H := H.2 h
                                                    refine sw_cons 24 rfl ⟨fun h => ?_, fun h => ?_⟩
                                                    · replace H := H.1 h
                                                      exact Wq_c I_220_919 rfl rfl H
                                                    · replace H := H.2 h
                                                      refine sw_cons 25 rfl ⟨fun h => ?_, fun h => ?_⟩
                                                      · replace H := H.1 h
                                                        exact Wq_c I_220_962 rfl rfl H
                                                      · replace H := H.2 h
                                                        refine sw_cons 26 rfl ⟨fun h => ?_, fun h => ?_⟩
                                                        · replace H := H.1 h
                                                          exact Wq_c I_220_985 rfl rfl H
                                                        · replace H := H.2 h
                                                          refine sw_cons 27 rfl ⟨fun h => ?_, fun h => ?_⟩
                                                          · replace H := H.1 h
                                                            exact Wq_c I_220_1038 rfl rfl H
                                                          · replace H := H.2 h
                                                            refine sw_cons 28 rfl ⟨fun h => ?_, fun h => ?_⟩
                                                            · replace H := H.1 h
                                                              exact Wq_c I_220_1081 rfl rfl H
                                                            · replace H := H.2 h
                                                              refine sw_cons 29 rfl ⟨fun h => ?_, fun h => ?_⟩
                                                              · replace H := H.1 h
                                                                exact Wq_c I_220_1144 rfl rfl H
                                                              · replace H := H.2 h
                                                                refine sw_cons 30 rfl ⟨fun h => ?_, fun h => ?_⟩
                                                                · replace H := H.1 h
                                                                  exact Wq_c I_220_1177 rfl rfl H
                                                                · replace H := H.2 h
                                                                  refine sw_cons 31 rfl ⟨fun h => ?_, fun h => ?_⟩
                                                                  · replace H := H.1 h
                                                                    exact Wq_c I_220_1200 rfl rfl H
                                                                  · replace H := H.2 h
                                                                    refine sw_nil ?_
                                                                    exact Wq_c I_220_1214 rfl rfl H
theorem r_220_176 {L : Nat} {xs : Nat → Int32} {x3 : Int32} {di : tDi} {dl : tDl} {K : Int32 → tDi → tDl → Prop} (H : (inB (x3 + 1) L = true ∧ (inB (x3 + 2) L = true ∧ (ClI 5 91 [.ref 0, .int (xs (x3 + 1).toNatClampNeg), .int (xs (x3 + 2).toNatClampNeg)] di dl (fun r1 di1 dl1 => (inB (x3 + 1) L = true ∧ (inB (x3 + 2) L = true ∧ (ClI 2 152 [.ref 176, .int (xs (x3 + 1).toNatClampNeg), .int (xs (x3 + 2).toNatClampNeg)] di1 dl1 (fun r2 di2 dl2 => ((r1 = r2 → (Wq (some (L, xs)) 100 220 1214 [(0, .ref SCR), (1, .ref 0), (2, .ref 176), (3, .int x3)] [] di2 dl2 (RI K))) ∧ (¬ r1 = r2 → (K 0 di2 dl2)))))))))))) : Wq (some (L, xs)) 100 220 176 [(0, .ref SCR), (1, .ref 0), (2, .ref 176), (3, .int x3)] [] di dl (RI K) := by
  refine q1 (ls' := [(0, .ref SCR), (1, .ref 0), (2, .ref 176), (3, .int x3)]) I_220_176 rfl (wi_aload_n _ rfl ?_)
  refine q0 I_220_177 (wi_aload_n _ rfl ?_)
  refine q0 I_220_178 (wi_iload_n _ rfl ?_)
  refine q0 I_220_179 (wi_iconst 1 rfl ?_)
  refine q0 I_220_180 (wi_iadd ?_)
  refine q0 I_220_181 (wi_ialoadS H.1 ?_)
  replace H := H.2
  refine q0 I_220_182 (wi_aload_n _ rfl ?_)
  refine q0 I_220_183 (wi_iload_n _ rfl ?_)
  refine q0 I_220_184 (wi_iconst 2 rfl ?_)
  refine q0 I_220_185 (wi_iadd ?_)
  refine q0 I_220_186 (wi_ialoadS H.1 ?_)
  replace H := H.2
  refine q0 I_220_187 (wi_virtI (e := 5) [.int (xs (x3 + 1).toNatClampNeg), .int (xs (x3 + 2).toNatClampNeg)] [] S_0 rfl (by decide) rfl rfl rfl (okC_i rfl rfl rfl) C_91 (by decide) (ClI_mono H ?_))
  intro r1 di1 dl1 H
  refine q0 I_220_190 (wi_aload_n _ rfl ?_)
  refine q0 I_220_191 (wi_aload_n _ rfl ?_)
  refine q0 I_220_192 (wi_iload_n _ rfl ?_)
  refine q0 I_220_193 (wi_iconst 1 rfl ?_)
  refine q0 I_220_194 (wi_iadd ?_)
  refine q0 I_220_195 (wi_ialoadS H.1 ?_)
  replace H := H.2
  refine q0 I_220_196 (wi_aload_n _ rfl ?_)
  refine q0 I_220_197 (wi_iload_n _ rfl ?_)
  refine q0 I_220_198 (wi_iconst 2 rfl ?_)
  refine q0 I_220_199 (wi_iadd ?_)
  refine q0 I_220_200 (wi_ialoadS H.1 ?_)
  replace H := H.2
  refine q0 I_220_201 (wi_virtI (e := 2) [.int (xs (x3 + 1).toNatClampNeg), .int (xs (x3 + 2).toNatClampNeg)] [.int r1] S_176 rfl (by decide) rfl rfl rfl (okC_i rfl rfl rfl) C_152 (by decide) (ClI_mono H ?_))
  intro r2 di2 dl2 H
  refine q0 I_220_204 (wi_ic_eq (fun h => ?_) (fun h => ?_))
  · replace H := H.1 h
    exact Wq_c I_220_1214 rfl rfl H
  · replace H := H.2 h
    refine q1 (ls' := []) I_220_207 rfl (wi_iconst 0 rfl ?_)
    exact q0 I_220_208 (wi_zret T_220 (Or.inr rfl) (Or.inl rfl) ⟨_, rfl, H⟩)
theorem r_220_209 {L : Nat} {xs : Nat → Int32} {x3 : Int32} {di : tDi} {dl : tDl} {K : Int32 → tDi → tDl → Prop} (H : (inB (x3 + 1) L = true ∧ (ClI 5 92 [.ref 0, .int (xs (x3 + 1).toNatClampNeg)] di dl (fun r1 di1 dl1 => (inB (x3 + 1) L = true ∧ (ClI 2 153 [.ref 176, .int (xs (x3 + 1).toNatClampNeg)] di1 dl1 (fun r2 di2 dl2 => ((r1 = r2 → (Wq (some (L, xs)) 100 220 1214 [(0, .ref SCR), (1, .ref 0), (2, .ref 176), (3, .int x3)] [] di2 dl2 (RI K))) ∧ (¬ r1 = r2 → (K 0 di2 dl2)))))))))) : Wq (some (L, xs)) 100 220 209 [(0, .ref SCR), (1, .ref 0), (2, .ref 176), (3, .int x3)] [] di dl (RI K) := by
  refine q1 (ls' := [(0, .ref SCR), (1, .ref 0), (2, .ref 176), (3, .int x3)]) I_220_209 rfl (wi_aload_n _ rfl ?_)
  refine q0 I_220_210 (wi_aload_n _ rfl ?_)
  refine q0 I_220_211 (wi_iload_n _ rfl ?_)
  refine q0 I_220_212 (wi_iconst 1 rfl ?_)
  refine q0 I_220_213 (wi_iadd ?_)
  refine q0 I_220_214 (wi_ialoadS H.1 ?_)
  replace H := H.2
  refine q0 I_220_215 (wi_virtI (e := 5) [.int (xs (x3 + 1).toNatClampNeg)] [] S_0 rfl (by decide) rfl rfl rfl (okC_i rfl rfl rfl) C_92 (by decide) (ClI_mono H ?_))
  intro r1 di1 dl1 H
  refine q0 I_220_218 (wi_aload_n _ rfl ?_)
  refine q0 I_220_219 (wi_aload_n _ rfl ?_)
  refine q0 I_220_220 (wi_iload_n _ rfl ?_)
  refine q0 I_220_221 (wi_iconst 1 rfl ?_)
  refine q0 I_220_222 (wi_iadd ?_)
  refine q0 I_220_223 (wi_ialoadS H.1 ?_)
  replace H := H.2
  refine q0 I_220_224 (wi_virtI (e := 2) [.int (xs (x3 + 1).toNatClampNeg)] [.int r1] S_176 rfl (by decide) rfl rfl rfl (okC_i rfl rfl rfl) C_153 (by decide) (ClI_mono H ?_))
  intro r2 di2 dl2 H
  refine q0 I_220_227 (wi_ic_eq (fun h => ?_) (fun h => ?_))
  · replace H := H.1 h
    exact Wq_c I_220_1214 rfl rfl H
  · replace H := H.2 h
    refine q1 (ls' := []) I_220_230 rfl (wi_iconst 0 rfl ?_)
    exact q0 I_220_231 (wi_zret T_220 (Or.inr rfl) (Or.inl rfl) ⟨_, rfl, H⟩)
theorem r_220_232 {L : Nat} {xs : Nat → Int32} {x3 : Int32} {di : tDi} {dl : tDl} {K : Int32 → tDi → tDl → Prop} (H : (inB (x3 + 1) L = true ∧ (ClI 5 93 [.ref 0, .int (xs (x3 + 1).toNatClampNeg)] di dl (fun r1 di1 dl1 => (inB (x3 + 1) L = true ∧ (ClI 2 154 [.ref 176, .int (xs (x3 + 1).toNatClampNeg)] di1 dl1 (fun r2 di2 dl2 => ((r1 = r2 → (Wq (some (L, xs)) 100 220 1214 [(0, .ref SCR), (1, .ref 0), (2, .ref 176), (3, .int x3)] [] di2 dl2 (RI K))) ∧ (¬ r1 = r2 → (K 0 di2 dl2)))))))))) : Wq (some (L, xs)) 100 220 232 [(0, .ref SCR), (1, .ref 0), (2, .ref 176), (3, .int x3)] [] di dl (RI K) := by
  refine q1 (ls' := [(0, .ref SCR), (1, .ref 0), (2, .ref 176), (3, .int x3)]) I_220_232 rfl (wi_aload_n _ rfl ?_)
  refine q0 I_220_233 (wi_aload_n _ rfl ?_)
  refine q0 I_220_234 (wi_iload_n _ rfl ?_)
  refine q0 I_220_235 (wi_iconst 1 rfl ?_)
  refine q0 I_220_236 (wi_iadd ?_)
  refine q0 I_220_237 (wi_ialoadS H.1 ?_)
  replace H := H.2
  refine q0 I_220_238 (wi_virtI (e := 5) [.int (xs (x3 + 1).toNatClampNeg)] [] S_0 rfl (by decide) rfl rfl rfl (okC_i rfl rfl rfl) C_93 (by decide) (ClI_mono H ?_))
  intro r1 di1 dl1 H
  refine q0 I_220_241 (wi_aload_n _ rfl ?_)
  refine q0 I_220_242 (wi_aload_n _ rfl ?_)
  refine q0 I_220_243 (wi_iload_n _ rfl ?_)
  refine q0 I_220_244 (wi_iconst 1 rfl ?_)
  refine q0 I_220_245 (wi_iadd ?_)
  refine q0 I_220_246 (wi_ialoadS H.1 ?_)
  replace H := H.2
  refine q0 I_220_247 (wi_virtI (e := 2) [.int (xs (x3 + 1).toNatClampNeg)] [.int r1] S_176 rfl (by decide) rfl rfl rfl (okC_i rfl rfl rfl) C_154 (by decide) (ClI_mono H ?_))
  intro r2 di2 dl2 H
  refine q0 I_220_250 (wi_ic_eq (fun h => ?_) (fun h => ?_))
  · replace H := H.1 h
    exact Wq_c I_220_1214 rfl rfl H
  · replace H := H.2 h
    refine q1 (ls' := []) I_220_253 rfl (wi_iconst 0 rfl ?_)
    exact q0 I_220_254 (wi_zret T_220 (Or.inr rfl) (Or.inl rfl) ⟨_, rfl, H⟩)
theorem r_220_255 {L : Nat} {xs : Nat → Int32} {x3 : Int32} {di : tDi} {dl : tDl} {K : Int32 → tDi → tDl → Prop} (H : (inB (x3 + 1) L = true ∧ (ClI 1 94 [.ref 0, .int (xs (x3 + 1).toNatClampNeg)] di dl (fun r1 di1 dl1 => (inB (x3 + 1) L = true ∧ (ClI 6 164 [.ref 176, .int (xs (x3 + 1).toNatClampNeg)] di1 dl1 (fun r2 di2 dl2 => ((r1 = r2 → (Wq (some (L, xs)) 100 220 1214 [(0, .ref SCR), (1, .ref 0), (2, .ref 176), (3, .int x3)] [] di2 dl2 (RI K))) ∧ (¬ r1 = r2 → (K 0 di2 dl2)))))))))) : Wq (some (L, xs)) 100 220 255 [(0, .ref SCR), (1, .ref 0), (2, .ref 176), (3, .int x3)] [] di dl (RI K) := by
  refine q1 (ls' := [(0, .ref SCR), (1, .ref 0), (2, .ref 176), (3, .int x3)]) I_220_255 rfl (wi_aload_n _ rfl ?_)
  refine q0 I_220_256 (wi_aload_n _ rfl ?_)
  refine q0 I_220_257 (wi_iload_n _ rfl ?_)
  refine q0 I_220_258 (wi_iconst 1 rfl ?_)
  refine q0 I_220_259 (wi_iadd ?_)
  refine q0 I_220_260 (wi_ialoadS H.1 ?_)
  replace H := H.2
  refine q0 I_220_261 (wi_virtI (e := 1) [.int (xs (x3 + 1).toNatClampNeg)] [] S_0 rfl (by decide) rfl rfl rfl (okC_i rfl rfl rfl) C_94 (by decide) (ClI_mono H ?_))
  intro r1 di1 dl1 H
  refine q0 I_220_264 (wi_aload_n _ rfl ?_)
  refine q0 I_220_265 (wi_aload_n _ rfl ?_)
  refine q0 I_220_266 (wi_iload_n _ rfl ?_)
  refine q0 I_220_267 (wi_iconst 1 rfl ?_)
  refine q0 I_220_268 (wi_iadd ?_)
  refine q0 I_220_269 (wi_ialoadS H.1 ?_)
  replace H := H.2
  refine q0 I_220_270 (wi_virtI (e := 6) [.int (xs (x3 + 1).toNatClampNeg)] [.int r1] S_176 rfl (by decide) rfl rfl rfl (okC_i rfl rfl rfl) C_164 (by decide) (ClI_mono H ?_))
  intro r2 di2 dl2 H
  refine q0 I_220_273 (wi_ic_eq (fun h => ?_) (fun h => ?_))
  · replace H := H.1 h
    exact Wq_c I_220_1214 rfl rfl H
  · replace H := H.2 h
    refine q1 (ls' := []) I_220_276 rfl (wi_iconst 0 rfl ?_)
    exact q0 I_220_277 (wi_zret T_220 (Or.inr rfl) (Or.inl rfl) ⟨_, rfl, H⟩)
theorem r_220_278 {L : Nat} {xs : Nat → Int32} {x3 : Int32} {di : tDi} {dl : tDl} {K : Int32 → tDi → tDl → Prop} (H : (inB (x3 + 1) L = true ∧ (inB (x3 + 2) L = true ∧ (ClI 2 95 [.ref 0, .int (xs (x3 + 1).toNatClampNeg), .int (xs (x3 + 2).toNatClampNeg)] di dl (fun r1 di1 dl1 => (inB (x3 + 1) L = true ∧ (inB (x3 + 2) L = true ∧ (ClI 7 168 [.ref 176, .int (xs (x3 + 1).toNatClampNeg), .int (xs (x3 + 2).toNatClampNeg)] di1 dl1 (fun r2 di2 dl2 => ((r1 = r2 → (Wq (some (L, xs)) 100 220 1214 [(0, .ref SCR), (1, .ref 0), (2, .ref 176), (3, .int x3)] [] di2 dl2 (RI K))) ∧ (¬ r1 = r2 → (K 0 di2 dl2)))))))))))) : Wq (some (L, xs)) 100 220 278 [(0, .ref SCR), (1, .ref 0), (2, .ref 176), (3, .int x3)] [] di dl (RI K) := by
  refine q1 (ls' := [(0, .ref SCR), (1, .ref 0), (2, .ref 176), (3, .int x3)]) I_220_278 rfl (wi_aload_n _ rfl ?_)
  refine q0 I_220_279 (wi_aload_n _ rfl ?_)
  refine q0 I_220_280 (wi_iload_n _ rfl ?_)
  refine q0 I_220_281 (wi_iconst 1 rfl ?_)
  refine q0 I_220_282 (wi_iadd ?_)
  refine q0 I_220_283 (wi_ialoadS H.1 ?_)
  replace H := H.2
  refine q0 I_220_284 (wi_aload_n _ rfl ?_)
  refine q0 I_220_285 (wi_iload_n _ rfl ?_)
  refine q0 I_220_286 (wi_iconst 2 rfl ?_)
  refine q0 I_220_287 (wi_iadd ?_)
  refine q0 I_220_288 (wi_ialoadS H.1 ?_)
  replace H := H.2
  refine q0 I_220_289 (wi_virtI (e := 2) [.int (xs (x3 + 1).toNatClampNeg), .int (xs (x3 + 2).toNatClampNeg)] [] S_0 rfl (by decide) rfl rfl rfl (okC_i rfl rfl rfl) C_95 (by decide) (ClI_mono H ?_))
  intro r1 di1 dl1 H
  refine q0 I_220_292 (wi_aload_n _ rfl ?_)
  refine q0 I_220_293 (wi_aload_n _ rfl ?_)
  refine q0 I_220_294 (wi_iload_n _ rfl ?_)
  refine q0 I_220_295 (wi_iconst 1 rfl ?_)
  refine q0 I_220_296 (wi_iadd ?_)
  refine q0 I_220_297 (wi_ialoadS H.1 ?_)
  replace H := H.2
  refine q0 I_220_298 (wi_aload_n _ rfl ?_)
  refine q0 I_220_299 (wi_iload_n _ rfl ?_)
  refine q0 I_220_300 (wi_iconst 2 rfl ?_)
  refine q0 I_220_301 (wi_iadd ?_)
  refine q0 I_220_302 (wi_ialoadS H.1 ?_)
  replace H := H.2
  refine q0 I_220_303 (wi_virtI (e := 7) [.int (xs (x3 + 1).toNatClampNeg), .int (xs (x3 + 2).toNatClampNeg)] [.int r1] S_176 rfl (by decide) rfl rfl rfl (okC_i rfl rfl rfl) C_168 (by decide) (ClI_mono H ?_))
  intro r2 di2 dl2 H
  refine q0 I_220_306 (wi_ic_eq (fun h => ?_) (fun h => ?_))
  · replace H := H.1 h
    exact Wq_c I_220_1214 rfl rfl H
  · replace H := H.2 h
    refine q1 (ls' := []) I_220_309 rfl (wi_iconst 0 rfl ?_)
    exact q0 I_220_310 (wi_zret T_220 (Or.inr rfl) (Or.inl rfl) ⟨_, rfl, H⟩)
theorem r_220_311 {L : Nat} {xs : Nat → Int32} {x3 : Int32} {di : tDi} {dl : tDl} {K : Int32 → tDi → tDl → Prop} (H : (inB (x3 + 1) L = true ∧ (inB (x3 + 2) L = true ∧ (ClI 2 96 [.ref 0, .int (xs (x3 + 1).toNatClampNeg), .int (xs (x3 + 2).toNatClampNeg)] di dl (fun r1 di1 dl1 => (inB (x3 + 1) L = true ∧ (inB (x3 + 2) L = true ∧ (ClI 7 169 [.ref 176, .int (xs (x3 + 1).toNatClampNeg), .int (xs (x3 + 2).toNatClampNeg)] di1 dl1 (fun r2 di2 dl2 => ((r1 = r2 → (Wq (some (L, xs)) 100 220 1214 [(0, .ref SCR), (1, .ref 0), (2, .ref 176), (3, .int x3)] [] di2 dl2 (RI K))) ∧ (¬ r1 = r2 → (K 0 di2 dl2)))))))))))) : Wq (some (L, xs)) 100 220 311 [(0, .ref SCR), (1, .ref 0), (2, .ref 176), (3, .int x3)] [] di dl (RI K) := by
  refine q1 (ls' := [(0, .ref SCR), (1, .ref 0), (2, .ref 176), (3, .int x3)]) I_220_311 rfl (wi_aload_n _ rfl ?_)
  refine q0 I_220_312 (wi_aload_n _ rfl ?_)
  refine q0 I_220_313 (wi_iload_n _ rfl ?_)
  refine q0 I_220_314 (wi_iconst 1 rfl ?_)
  refine q0 I_220_315 (wi_iadd ?_)
  refine q0 I_220_316 (wi_ialoadS H.1 ?_)
  replace H := H.2
  refine q0 I_220_317 (wi_aload_n _ rfl ?_)
  refine q0 I_220_318 (wi_iload_n _ rfl ?_)
  refine q0 I_220_319 (wi_iconst 2 rfl ?_)
  refine q0 I_220_320 (wi_iadd ?_)
  refine q0 I_220_321 (wi_ialoadS H.1 ?_)
  replace H := H.2
  refine q0 I_220_322 (wi_virtI (e := 2) [.int (xs (x3 + 1).toNatClampNeg), .int (xs (x3 + 2).toNatClampNeg)] [] S_0 rfl (by decide) rfl rfl rfl (okC_i rfl rfl rfl) C_96 (by decide) (ClI_mono H ?_))
  intro r1 di1 dl1 H
  refine q0 I_220_325 (wi_aload_n _ rfl ?_)
  refine q0 I_220_326 (wi_aload_n _ rfl ?_)
  refine q0 I_220_327 (wi_iload_n _ rfl ?_)
  refine q0 I_220_328 (wi_iconst 1 rfl ?_)
  refine q0 I_220_329 (wi_iadd ?_)
  refine q0 I_220_330 (wi_ialoadS H.1 ?_)
  replace H := H.2
  refine q0 I_220_331 (wi_aload_n _ rfl ?_)
  refine q0 I_220_332 (wi_iload_n _ rfl ?_)
  refine q0 I_220_333 (wi_iconst 2 rfl ?_)
  refine q0 I_220_334 (wi_iadd ?_)
  refine q0 I_220_335 (wi_ialoadS H.1 ?_)
  replace H := H.2
  refine q0 I_220_336 (wi_virtI (e := 7) [.int (xs (x3 + 1).toNatClampNeg), .int (xs (x3 + 2).toNatClampNeg)] [.int r1] S_176 rfl (by decide) rfl rfl rfl (okC_i rfl rfl rfl) C_169 (by decide) (ClI_mono H ?_))
  intro r2 di2 dl2 H
  refine q0 I_220_339 (wi_ic_eq (fun h => ?_) (fun h => ?_))
  · replace H := H.1 h
    exact Wq_c I_220_1214 rfl rfl H
  · replace H := H.2 h
    refine q1 (ls' := []) I_220_342 rfl (wi_iconst 0 rfl ?_)
    exact q0 I_220_343 (wi_zret T_220 (Or.inr rfl) (Or.inl rfl) ⟨_, rfl, H⟩)
theorem r_220_344 {L : Nat} {xs : Nat → Int32} {x3 : Int32} {di : tDi} {dl : tDl} {K : Int32 → tDi → tDl → Prop} (H : (inB (x3 + 1) L = true ∧ (ClI 2 97 [.ref 0, .int (xs (x3 + 1).toNatClampNeg)] di dl (fun r1 di1 dl1 => (inB (x3 + 1) L = true ∧ (ClI 7 170 [.ref 176, .int (xs (x3 + 1).toNatClampNeg)] di1 dl1 (fun r2 di2 dl2 => ((r1 = r2 → (Wq (some (L, xs)) 100 220 1214 [(0, .ref SCR), (1, .ref 0), (2, .ref 176), (3, .int x3)] [] di2 dl2 (RI K))) ∧ (¬ r1 = r2 → (K 0 di2 dl2)))))))))) : Wq (some (L, xs)) 100 220 344 [(0, .ref SCR), (1, .ref 0), (2, .ref 176), (3, .int x3)] [] di dl (RI K) := by
  refine q1 (ls' := [(0, .ref SCR), (1, .ref 0), (2, .ref 176), (3, .int x3)]) I_220_344 rfl (wi_aload_n _ rfl ?_)
  refine q0 I_220_345 (wi_aload_n _ rfl ?_)
  refine q0 I_220_346 (wi_iload_n _ rfl ?_)
  refine q0 I_220_347 (wi_iconst 1 rfl ?_)
  refine q0 I_220_348 (wi_iadd ?_)
  refine q0 I_220_349 (wi_ialoadS H.1 ?_)
  replace H := H.2
  refine q0 I_220_350 (wi_virtI (e := 2) [.int (xs (x3 + 1).toNatClampNeg)] [] S_0 rfl (by decide) rfl rfl rfl (okC_i rfl rfl rfl) C_97 (by decide) (ClI_mono H ?_))
  intro r1 di1 dl1 H
  refine q0 I_220_353 (wi_aload_n _ rfl ?_)
  refine q0 I_220_354 (wi_aload_n _ rfl ?_)
  refine q0 I_220_355 (wi_iload_n _ rfl ?_)
  refine q0 I_220_356 (wi_iconst 1 rfl ?_)
  refine q0 I_220_357 (wi_iadd ?_)
  refine q0 I_220_358 (wi_ialoadS H.1 ?_)
  replace H := H.2
  refine q0 I_220_359 (wi_virtI (e := 7) [.int (xs (x3 + 1).toNatClampNeg)] [.int r1] S_176 rfl (by decide) rfl rfl rfl (okC_i rfl rfl rfl) C_170 (by decide) (ClI_mono H ?_))
  intro r2 di2 dl2 H
  refine q0 I_220_362 (wi_ic_eq (fun h => ?_) (fun h => ?_))
  · replace H := H.1 h
    exact Wq_c I_220_1214 rfl rfl H
  · replace H := H.2 h
    refine q1 (ls' := []) I_220_365 rfl (wi_iconst 0 rfl ?_)
    exact q0 I_220_366 (wi_zret T_220 (Or.inr rfl) (Or.inl rfl) ⟨_, rfl, H⟩)
theorem r_220_367 {L : Nat} {xs : Nat → Int32} {x3 : Int32} {di : tDi} {dl : tDl} {K : Int32 → tDi → tDl → Prop} (H : (inB (x3 + 1) L = true ∧ (inB (x3 + 2) L = true ∧ (ClI 1 98 [.ref 0, .int (xs (x3 + 1).toNatClampNeg), .int (xs (x3 + 2).toNatClampNeg)] di dl (fun r1 di1 dl1 => (inB (x3 + 1) L = true ∧ (inB (x3 + 2) L = true ∧ (ClI 2 171 [.ref 176, .int (xs (x3 + 1).toNatClampNeg), .int (xs (x3 + 2).toNatClampNeg)] di1 dl1 (fun r2 di2 dl2 => ((r1 = r2 → (Wq (some (L, xs)) 100 220 1214 [(0, .ref SCR), (1, .ref 0), (2, .ref 176), (3, .int x3)] [] di2 dl2 (RI K))) ∧ (¬ r1 = r2 → (K 0 di2 dl2)))))))))))) : Wq (some (L, xs)) 100 220 367 [(0, .ref SCR), (1, .ref 0), (2, .ref 176), (3, .int x3)] [] di dl (RI K) := by
  refine q1 (ls' := [(0, .ref SCR), (1, .ref 0), (2, .ref 176), (3, .int x3)]) I_220_367 rfl (wi_aload_n _ rfl ?_)
  refine q0 I_220_368 (wi_aload_n _ rfl ?_)
  refine q0 I_220_369 (wi_iload_n _ rfl ?_)
  refine q0 I_220_370 (wi_iconst 1 rfl ?_)
  refine q0 I_220_371 (wi_iadd ?_)
  refine q0 I_220_372 (wi_ialoadS H.1 ?_)
  replace H := H.2
  refine q0 I_220_373 (wi_aload_n _ rfl ?_)
  refine q0 I_220_374 (wi_iload_n _ rfl ?_)
  refine q0 I_220_375 (wi_iconst 2 rfl ?_)
  refine q0 I_220_376 (wi_iadd ?_)
  refine q0 I_220_377 (wi_ialoadS H.1 ?_)
  replace H := H.2
  refine q0 I_220_378 (wi_virtI (e := 1) [.int (xs (x3 + 1).toNatClampNeg), .int (xs (x3 + 2).toNatClampNeg)] [] S_0 rfl (by decide) rfl rfl rfl (okC_i rfl rfl rfl) C_98 (by decide) (ClI_mono H ?_))
  intro r1 di1 dl1 H
  refine q0 I_220_381 (wi_aload_n _ rfl ?_)
  refine q0 I_220_382 (wi_aload_n _ rfl ?_)
  refine q0 I_220_383 (wi_iload_n _ rfl ?_)
  refine q0 I_220_384 (wi_iconst 1 rfl ?_)
  refine q0 I_220_385 (wi_iadd ?_)
  refine q0 I_220_386 (wi_ialoadS H.1 ?_)
  replace H := H.2
  refine q0 I_220_387 (wi_aload_n _ rfl ?_)
  refine q0 I_220_388 (wi_iload_n _ rfl ?_)
  refine q0 I_220_389 (wi_iconst 2 rfl ?_)
  refine q0 I_220_390 (wi_iadd ?_)
  refine q0 I_220_391 (wi_ialoadS H.1 ?_)
  replace H := H.2
  refine q0 I_220_392 (wi_virtI (e := 2) [.int (xs (x3 + 1).toNatClampNeg), .int (xs (x3 + 2).toNatClampNeg)] [.int r1] S_176 rfl (by decide) rfl rfl rfl (okC_i rfl rfl rfl) C_171 (by decide) (ClI_mono H ?_))
  intro r2 di2 dl2 H
  refine q0 I_220_395 (wi_ic_eq (fun h => ?_) (fun h => ?_))
  · replace H := H.1 h
    exact Wq_c I_220_1214 rfl rfl H
  · replace H := H.2 h
    refine q1 (ls' := []) I_220_398 rfl (wi_iconst 0 rfl ?_)
    exact q0 I_220_399 (wi_zret T_220 (Or.inr rfl) (Or.inl rfl) ⟨_, rfl, H⟩)
theorem r_220_400 {L : Nat} {xs : Nat → Int32} {x3 : Int32} {di : tDi} {dl : tDl} {K : Int32 → tDi → tDl → Prop} (H : (inB (x3 + 1) L = true ∧ (inB (x3 + 2) L = true ∧ (inB (x3 + 3) L = true ∧ (ClI 4 99 [.ref 0, .int (xs (x3 + 1).toNatClampNeg), .int (xs (x3 + 2).toNatClampNeg), .int (xs (x3 + 3).toNatClampNeg)] di dl (fun r1 di1 dl1 => (inB (x3 + 1) L = true ∧ (inB (x3 + 2) L = true ∧ (inB (x3 + 3) L = true ∧ (ClI 7 181 [.ref 176, .int (xs (x3 + 1).toNatClampNeg), .int (xs (x3 + 2).toNatClampNeg), .int (xs (x3 + 3).toNatClampNeg)] di1 dl1 (fun r2 di2 dl2 => ((r1 = r2 → (Wq (some (L, xs)) 100 220 1214 [(0, .ref SCR), (1, .ref 0), (2, .ref 176), (3, .int x3)] [] di2 dl2 (RI K))) ∧ (¬ r1 = r2 → (K 0 di2 dl2)))))))))))))) : Wq (some (L, xs)) 100 220 400 [(0, .ref SCR), (1, .ref 0), (2, .ref 176), (3, .int x3)] [] di dl (RI K) := by
  refine q1 (ls' := [(0, .ref SCR), (1, .ref 0), (2, .ref 176), (3, .int x3)]) I_220_400 rfl (wi_aload_n _ rfl ?_)
  refine q0 I_220_401 (wi_aload_n _ rfl ?_)
  refine q0 I_220_402 (wi_iload_n _ rfl ?_)
  refine q0 I_220_403 (wi_iconst 1 rfl ?_)
  refine q0 I_220_404 (wi_iadd ?_)
  refine q0 I_220_405 (wi_ialoadS H.1 ?_)
  replace H := H.2
  refine q0 I_220_406 (wi_aload_n _ rfl ?_)
  refine q0 I_220_407 (wi_iload_n _ rfl ?_)
  refine q0 I_220_408 (wi_iconst 2 rfl ?_)
  refine q0 I_220_409 (wi_iadd ?_)
  refine q0 I_220_410 (wi_ialoadS H.1 ?_)
  replace H := H.2
  refine q0 I_220_411 (wi_aload_n _ rfl ?_)
  refine q0 I_220_412 (wi_iload_n _ rfl ?_)
  refine q0 I_220_413 (wi_iconst 3 rfl ?_)
  refine q0 I_220_414 (wi_iadd ?_)
  refine q0 I_220_415 (wi_ialoadS H.1 ?_)
  replace H := H.2
  refine q0 I_220_416 (wi_virtI (e := 4) [.int (xs (x3 + 1).toNatClampNeg), .int (xs (x3 + 2).toNatClampNeg), .int (xs (x3 + 3).toNatClampNeg)] [] S_0 rfl (by decide) rfl rfl rfl (okC_i rfl rfl rfl) C_99 (by decide) (ClI_mono H ?_))
  intro r1 di1 dl1 H
  refine q0 I_220_419 (wi_aload_n _ rfl ?_)
  refine q0 I_220_420 (wi_aload_n _ rfl ?_)
  refine q0 I_220_421 (wi_iload_n _ rfl ?_)
  refine q0 I_220_422 (wi_iconst 1 rfl ?_)
  refine q0 I_220_423 (wi_iadd ?_)
  refine q0 I_220_424 (wi_ialoadS H.1 ?_)
  replace H := H.2
  refine q0 I_220_425 (wi_aload_n _ rfl ?_)
  refine q0 I_220_426 (wi_iload_n _ rfl ?_)
  refine q0 I_220_427 (wi_iconst 2 rfl ?_)
  refine q0 I_220_428 (wi_iadd ?_)
  refine q0 I_220_429 (wi_ialoadS H.1 ?_)
  replace H := H.2
  refine q0 I_220_430 (wi_aload_n _ rfl ?_)
  refine q0 I_220_431 (wi_iload_n _ rfl ?_)
  refine q0 I_220_432 (wi_iconst 3 rfl ?_)
  refine q0 I_220_433 (wi_iadd ?_)
  refine q0 I_220_434 (wi_ialoadS H.1 ?_)
  replace H := H.2
  refine q0 I_220_435 (wi_virtI (e := 7) [.int (xs (x3 + 1).toNatClampNeg), .int (xs (x3 + 2).toNatClampNeg), .int (xs (x3 + 3).toNatClampNeg)] [.int r1] S_176 rfl (by decide) rfl rfl rfl (okC_i rfl rfl rfl) C_181 (by decide) (ClI_mono H ?_))
  intro r2 di2 dl2 H
  refine q0 I_220_438 (wi_ic_eq (fun h => ?_) (fun h => ?_))
  · replace H := H.1 h
    exact Wq_c I_220_1214 rfl rfl H
  · replace H := H.2 h
    refine q1 (ls' := []) I_220_441 rfl (wi_iconst 0 rfl ?_)
    exact q0 I_220_442 (wi_zret T_220 (Or.inr rfl) (Or.inl rfl) ⟨_, rfl, H⟩)
theorem r_220_443 {L : Nat} {xs : Nat → Int32} {x3 : Int32} {di : tDi} {dl : tDl} {K : Int32 → tDi → tDl → Prop} (H : (inB (x3 + 1) L = true ∧ (inB (x3 + 2) L = true ∧ (ClI 4 100 [.ref 0, .int (xs (x3 + 1).toNatClampNeg), .int (xs (x3 + 2).toNatClampNeg)] di dl (fun r1 di1 dl1 => (inB (x3 + 1) L = true ∧ (inB (x3 + 2) L = true ∧ (ClI 7 183 [.ref 176, .int (xs (x3 + 1).toNatClampNeg), .int (xs (x3 + 2).toNatClampNeg)] di1 dl1 (fun r2 di2 dl2 => ((r1 = r2 → (Wq (some (L, xs)) 100 220 1214 [(0, .ref SCR), (1, .ref 0), (2, .ref 176), (3, .int x3)] [] di2 dl2 (RI K))) ∧ (¬ r1 = r2 → (K 0 di2 dl2)))))))))))) : Wq (some (L, xs)) 100 220 443 [(0, .ref SCR), (1, .ref 0), (2, .ref 176), (3, .int x3)] [] di dl (RI K) := by
  refine q1 (ls' := [(0, .ref SCR), (1, .ref 0), (2, .ref 176), (3, .int x3)]) I_220_443 rfl (wi_aload_n _ rfl ?_)
  refine q0 I_220_444 (wi_aload_n _ rfl ?_)
  refine q0 I_220_445 (wi_iload_n _ rfl ?_)
  refine q0 I_220_446 (wi_iconst 1 rfl ?_)
  refine q0 I_220_447 (wi_iadd ?_)
  refine q0 I_220_448 (wi_ialoadS H.1 ?_)
  replace H := H.2
  refine q0 I_220_449 (wi_aload_n _ rfl ?_)
  refine q0 I_220_450 (wi_iload_n _ rfl ?_)
  refine q0 I_220_451 (wi_iconst 2 rfl ?_)
  refine q0 I_220_452 (wi_iadd ?_)
  refine q0 I_220_453 (wi_ialoadS H.1 ?_)
  replace H := H.2
  refine q0 I_220_454 (wi_virtI (e := 4) [.int (xs (x3 + 1).toNatClampNeg), .int (xs (x3 + 2).toNatClampNeg)] [] S_0 rfl (by decide) rfl rfl rfl (okC_i rfl rfl rfl) C_100 (by decide) (ClI_mono H ?_))
  intro r1 di1 dl1 H
  refine q0 I_220_457 (wi_aload_n _ rfl ?_)
  refine q0 I_220_458 (wi_aload_n _ rfl ?_)
  refine q0 I_220_459 (wi_iload_n _ rfl ?_)
  refine q0 I_220_460 (wi_iconst 1 rfl ?_)
  refine q0 I_220_461 (wi_iadd ?_)
  refine q0 I_220_462 (wi_ialoadS H.1 ?_)
  replace H := H.2
  refine q0 I_220_463 (wi_aload_n _ rfl ?_)
  refine q0 I_220_464 (wi_iload_n _ rfl ?_)
  refine q0 I_220_465 (wi_iconst 2 rfl ?_)
  refine q0 I_220_466 (wi_iadd ?_)
  refine q0 I_220_467 (wi_ialoadS H.1 ?_)
  replace H := H.2
  refine q0 I_220_468 (wi_virtI (e := 7) [.int (xs (x3 + 1).toNatClampNeg), .int (xs (x3 + 2).toNatClampNeg)] [.int r1] S_176 rfl (by decide) rfl rfl rfl (okC_i rfl rfl rfl) C_183 (by decide) (ClI_mono H ?_))
  intro r2 di2 dl2 H
  refine q0 I_220_471 (wi_ic_eq (fun h => ?_) (fun h => ?_))
  · replace H := H.1 h
    exact Wq_c I_220_1214 rfl rfl H
  · replace H := H.2 h
    refine q1 (ls' := []) I_220_474 rfl (wi_iconst 0 rfl ?_)
    exact q0 I_220_475 (wi_zret T_220 (Or.inr rfl) (Or.inl rfl) ⟨_, rfl, H⟩)
theorem r_220_476 {L : Nat} {xs : Nat → Int32} {x3 : Int32} {di : tDi} {dl : tDl} {K : Int32 → tDi → tDl → Prop} (H : (inB (x3 + 1) L = true ∧ (inB (x3 + 2) L = true ∧ (ClI 4 101 [.ref 0, .int (xs (x3 + 1).toNatClampNeg), .int (xs (x3 + 2).toNatClampNeg)] di dl (fun r1 di1 dl1 => (inB (x3 + 1) L = true ∧ (inB (x3 + 2) L = true ∧ (ClI 7 185 [.ref 176, .int (xs (x3 + 1).toNatClampNeg), .int (xs (x3 + 2).toNatClampNeg)] di1 dl1 (fun r2 di2 dl2 => ((r1 = r2 → (Wq (some (L, xs)) 100 220 1214 [(0, .ref SCR), (1, .ref 0), (2, .ref 176), (3, .int x3)] [] di2 dl2 (RI K))) ∧ (¬ r1 = r2 → (K 0 di2 dl2)))))))))))) : Wq (some (L, xs)) 100 220 476 [(0, .ref SCR), (1, .ref 0), (2, .ref 176), (3, .int x3)] [] di dl (RI K) := by
  refine q1 (ls' := [(0, .ref SCR), (1, .ref 0), (2, .ref 176), (3, .int x3)]) I_220_476 rfl (wi_aload_n _ rfl ?_)
  refine q0 I_220_477 (wi_aload_n _ rfl ?_)
  refine q0 I_220_478 (wi_iload_n _ rfl ?_)
  refine q0 I_220_479 (wi_iconst 1 rfl ?_)
  refine q0 I_220_480 (wi_iadd ?_)
  refine q0 I_220_481 (wi_ialoadS H.1 ?_)
  replace H := H.2
  refine q0 I_220_482 (wi_aload_n _ rfl ?_)
  refine q0 I_220_483 (wi_iload_n _ rfl ?_)
  refine q0 I_220_484 (wi_iconst 2 rfl ?_)
  refine q0 I_220_485 (wi_iadd ?_)
  refine q0 I_220_486 (wi_ialoadS H.1 ?_)
  replace H := H.2
  refine q0 I_220_487 (wi_virtI (e := 4) [.int (xs (x3 + 1).toNatClampNeg), .int (xs (x3 + 2).toNatClampNeg)] [] S_0 rfl (by decide) rfl rfl rfl (okC_i rfl rfl rfl) C_101 (by decide) (ClI_mono H ?_))
  intro r1 di1 dl1 H
  refine q0 I_220_490 (wi_aload_n _ rfl ?_)
  refine q0 I_220_491 (wi_aload_n _ rfl ?_)
  refine q0 I_220_492 (wi_iload_n _ rfl ?_)
  refine q0 I_220_493 (wi_iconst 1 rfl ?_)
  refine q0 I_220_494 (wi_iadd ?_)
  refine q0 I_220_495 (wi_ialoadS H.1 ?_)
  replace H := H.2
  refine q0 I_220_496 (wi_aload_n _ rfl ?_)
  refine q0 I_220_497 (wi_iload_n _ rfl ?_)
  refine q0 I_220_498 (wi_iconst 2 rfl ?_)
  refine q0 I_220_499 (wi_iadd ?_)
  refine q0 I_220_500 (wi_ialoadS H.1 ?_)
  replace H := H.2
  refine q0 I_220_501 (wi_virtI (e := 7) [.int (xs (x3 + 1).toNatClampNeg), .int (xs (x3 + 2).toNatClampNeg)] [.int r1] S_176 rfl (by decide) rfl rfl rfl (okC_i rfl rfl rfl) C_185 (by decide) (ClI_mono H ?_))
  intro r2 di2 dl2 H
  refine q0 I_220_504 (wi_ic_eq (fun h => ?_) (fun h => ?_))
  · replace H := H.1 h
    exact Wq_c I_220_1214 rfl rfl H
  · replace H := H.2 h
    refine q1 (ls' := []) I_220_507 rfl (wi_iconst 0 rfl ?_)
    exact q0 I_220_508 (wi_zret T_220 (Or.inr rfl) (Or.inl rfl) ⟨_, rfl, H⟩)
theorem r_220_509 {L : Nat} {xs : Nat → Int32} {x3 : Int32} {di : tDi} {dl : tDl} {K : Int32 → tDi → tDl → Prop} (H : (inB (x3 + 1) L = true ∧ (inB (x3 + 2) L = true ∧ (ClI 4 102 [.ref 0, .int (xs (x3 + 1).toNatClampNeg), .int (xs (x3 + 2).toNatClampNeg)] di dl (fun r1 di1 dl1 => (inB (x3 + 1) L = true ∧ (inB (x3 + 2) L = true ∧ (ClI 7 188 [.ref 176, .int (xs (x3 + 1).toNatClampNeg), .int (xs (x3 + 2).toNatClampNeg)] di1 dl1 (fun r2 di2 dl2 => ((r1 = r2 → (Wq (some (L, xs)) 100 220 1214 [(0, .ref SCR), (1, .ref 0), (2, .ref 176), (3, .int x3)] [] di2 dl2 (RI K))) ∧ (¬ r1 = r2 → (K 0 di2 dl2)))))))))))) : Wq (some (L, xs)) 100 220 509 [(0, .ref SCR), (1, .ref 0), (2, .ref 176), (3, .int x3)] [] di dl (RI K) := by
  refine q1 (ls' := [(0, .ref SCR), (1, .ref 0), (2, .ref 176), (3, .int x3)]) I_220_509 rfl (wi_aload_n _ rfl ?_)
  refine q0 I_220_510 (wi_aload_n _ rfl ?_)
  refine q0 I_220_511 (wi_iload_n _ rfl ?_)
  refine q0 I_220_512 (wi_iconst 1 rfl ?_)
  refine q0 I_220_513 (wi_iadd ?_)
  refine q0 I_220_514 (wi_ialoadS H.1 ?_)
  replace H := H.2
  refine q0 I_220_515 (wi_aload_n _ rfl ?_)
  refine q0 I_220_516 (wi_iload_n _ rfl ?_)
  refine q0 I_220_517 (wi_iconst 2 rfl ?_)
  refine q0 I_220_518 (wi_iadd ?_)
  refine q0 I_220_519 (wi_ialoadS H.1 ?_)
  replace H := H.2
  refine q0 I_220_520 (wi_virtI (e := 4) [.int (xs (x3 + 1).toNatClampNeg), .int (xs (x3 + 2).toNatClampNeg)] [] S_0 rfl (by decide) rfl rfl rfl (okC_i rfl rfl rfl) C_102 (by decide) (ClI_mono H ?_))
  intro r1 di1 dl1 H
  refine q0 I_220_523 (wi_aload_n _ rfl ?_)
  refine q0 I_220_524 (wi_aload_n _ rfl ?_)
  refine q0 I_220_525 (wi_iload_n _ rfl ?_)
  refine q0 I_220_526 (wi_iconst 1 rfl ?_)
  refine q0 I_220_527 (wi_iadd ?_)
  refine q0 I_220_528 (wi_ialoadS H.1 ?_)
  replace H := H.2
  refine q0 I_220_529 (wi_aload_n _ rfl ?_)
  refine q0 I_220_530 (wi_iload_n _ rfl ?_)
  refine q0 I_220_531 (wi_iconst 2 rfl ?_)
  refine q0 I_220_532 (wi_iadd ?_)
  refine q0 I_220_533 (wi_ialoadS H.1 ?_)
  replace H := H.2
  refine q0 I_220_534 (wi_virtI (e := 7) [.int (xs (x3 + 1).toNatClampNeg), .int (xs (x3 + 2).toNatClampNeg)] [.int r1] S_176 rfl (by decide) rfl rfl rfl (okC_i rfl rfl rfl) C_188 (by decide) (ClI_mono H ?_))
  intro r2 di2 dl2 H
  refine q0 I_220_537 (wi_ic_eq (fun h => ?_) (fun h => ?_))
  · replace H := H.1 h
    exact Wq_c I_220_1214 rfl rfl H
  · replace H := H.2 h
    refine q1 (ls' := []) I_220_540 rfl (wi_iconst 0 rfl ?_)
    exact q0 I_220_541 (wi_zret T_220 (Or.inr rfl) (Or.inl rfl) ⟨_, rfl, H⟩)
theorem r_220_542 {L : Nat} {xs : Nat → Int32} {x3 : Int32} {di : tDi} {dl : tDl} {K : Int32 → tDi → tDl → Prop} (H : (inB (x3 + 1) L = true ∧ (ClI 4 103 [.ref 0, .int (xs (x3 + 1).toNatClampNeg)] di dl (fun r1 di1 dl1 => (inB (x3 + 1) L = true ∧ (ClI 7 190 [.ref 176, .int (xs (x3 + 1).toNatClampNeg)] di1 dl1 (fun r2 di2 dl2 => ((r1 = r2 → (Wq (some (L, xs)) 100 220 1214 [(0, .ref SCR), (1, .ref 0), (2, .ref 176), (3, .int x3)] [] di2 dl2 (RI K))) ∧ (¬ r1 = r2 → (K 0 di2 dl2)))))))))) : Wq (some (L, xs)) 100 220 542 [(0, .ref SCR), (1, .ref 0), (2, .ref 176), (3, .int x3)] [] di dl (RI K) := by
  refine q1 (ls' := [(0, .ref SCR), (1, .ref 0), (2, .ref 176), (3, .int x3)]) I_220_542 rfl (wi_aload_n _ rfl ?_)
  refine q0 I_220_543 (wi_aload_n _ rfl ?_)
  refine q0 I_220_544 (wi_iload_n _ rfl ?_)
  refine q0 I_220_545 (wi_iconst 1 rfl ?_)
  refine q0 I_220_546 (wi_iadd ?_)
  refine q0 I_220_547 (wi_ialoadS H.1 ?_)
  replace H := H.2
  refine q0 I_220_548 (wi_virtI (e := 4) [.int (xs (x3 + 1).toNatClampNeg)] [] S_0 rfl (by decide) rfl rfl rfl (okC_i rfl rfl rfl) C_103 (by decide) (ClI_mono H ?_))
  intro r1 di1 dl1 H
  refine q0 I_220_551 (wi_aload_n _ rfl ?_)
  refine q0 I_220_552 (wi_aload_n _ rfl ?_)
  refine q0 I_220_553 (wi_iload_n _ rfl ?_)
  refine q0 I_220_554 (wi_iconst 1 rfl ?_)
  refine q0 I_220_555 (wi_iadd ?_)
  refine q0 I_220_556 (wi_ialoadS H.1 ?_)
  replace H := H.2
  refine q0 I_220_557 (wi_virtI (e := 7) [.int (xs (x3 + 1).toNatClampNeg)] [.int r1] S_176 rfl (by decide) rfl rfl rfl (okC_i rfl rfl rfl) C_190 (by decide) (ClI_mono H ?_))
  intro r2 di2 dl2 H
  refine q0 I_220_560 (wi_ic_eq (fun h => ?_) (fun h => ?_))
  · replace H := H.1 h
    exact Wq_c I_220_1214 rfl rfl H
  · replace H := H.2 h
    refine q1 (ls' := []) I_220_563 rfl (wi_iconst 0 rfl ?_)
    exact q0 I_220_564 (wi_zret T_220 (Or.inr rfl) (Or.inl rfl) ⟨_, rfl, H⟩)
theorem r_220_565 {L : Nat} {xs : Nat → Int32} {x3 : Int32} {di : tDi} {dl : tDl} {K : Int32 → tDi → tDl → Prop} (H : (inB (x3 + 1) L = true ∧ (ClI 4 104 [.ref 0, .int (xs (x3 + 1).toNatClampNeg)] di dl (fun r1 di1 dl1 => (inB (x3 + 1) L = true ∧ (ClI 7 192 [.ref 176, .int (xs (x3 + 1).toNatClampNeg)] di1 dl1 (fun r2 di2 dl2 => ((r1 = r2 → (Wq (some (L, xs)) 100 220 1214 [(0, .ref SCR), (1, .ref 0), (2, .ref 176), (3, .int x3)] [] di2 dl2 (RI K))) ∧ (¬ r1 = r2 → (K 0 di2 dl2)))))))))) : Wq (some (L, xs)) 100 220 565 [(0, .ref SCR), (1, .ref 0), (2, .ref 176), (3, .int x3)] [] di dl (RI K) := by
  refine q1 (ls' := [(0, .ref SCR), (1, .ref 0), (2, .ref 176), (3, .int x3)]) I_220_565 rfl (wi_aload_n _ rfl ?_)
  refine q0 I_220_566 (wi_aload_n _ rfl ?_)
  refine q0 I_220_567 (wi_iload_n _ rfl ?_)
  refine q0 I_220_568 (wi_iconst 1 rfl ?_)
  refine q0 I_220_569 (wi_iadd ?_)
  refine q0 I_220_570 (wi_ialoadS H.1 ?_)
  replace H := H.2
  refine q0 I_220_571 (wi_virtI (e := 4) [.int (xs (x3 + 1).toNatClampNeg)] [] S_0 rfl (by decide) rfl rfl rfl (okC_i rfl rfl rfl) C_104 (by decide) (ClI_mono H ?_))
  intro r1 di1 dl1 H
  refine q0 I_220_574 (wi_aload_n _ rfl ?_)
  refine q0 I_220_575 (wi_aload_n _ rfl ?_)
  refine q0 I_220_576 (wi_iload_n _ rfl ?_)
  refine q0 I_220_577 (wi_iconst 1 rfl ?_)
  refine q0 I_220_578 (wi_iadd ?_)
  refine q0 I_220_579 (wi_ialoadS H.1 ?_)
  replace H := H.2
  refine q0 I_220_580 (wi_virtI (e := 7) [.int (xs (x3 + 1).toNatClampNeg)] [.int r1] S_176 rfl (by decide) rfl rfl rfl (okC_i rfl rfl rfl) C_192 (by decide) (ClI_mono H ?_))
  intro r2 di2 dl2 H
  refine q0 I_220_583 (wi_ic_eq (fun h => ?_) (fun h => ?_))
  · replace H := H.1 h
    exact Wq_c I_220_1214 rfl rfl H
  · replace H := H.2 h
    refine q1 (ls' := []) I_220_586 rfl (wi_iconst 0 rfl ?_)
    exact q0 I_220_587 (wi_zret T_220 (Or.inr rfl) (Or.inl rfl) ⟨_, rfl, H⟩)
theorem r_220_588 {L : Nat} {xs : Nat → Int32} {x3 : Int32} {di : tDi} {dl : tDl} {K : Int32 → tDi → tDl → Prop} (H : (inB (x3 + 1) L = true ∧ (inB (x3 + 2) L = true ∧ (ClI 4 105 [.ref 0, .int (xs (x3 + 1).toNatClampNeg), .int (xs (x3 + 2).toNatClampNeg)] di dl (fun r1 di1 dl1 => (inB (x3 + 1) L = true ∧ (inB (x3 + 2) L = true ∧ (ClI 7 194 [.ref 176, .int (xs (x3 + 1).toNatClampNeg), .int (xs (x3 + 2).toNatClampNeg)] di1 dl1 (fun r2 di2 dl2 => ((r1 = r2 → (Wq (some (L, xs)) 100 220 1214 [(0, .ref SCR), (1, .ref 0), (2, .ref 176), (3, .int x3)] [] di2 dl2 (RI K))) ∧ (¬ r1 = r2 → (K 0 di2 dl2)))))))))))) : Wq (some (L, xs)) 100 220 588 [(0, .ref SCR), (1, .ref 0), (2, .ref 176), (3, .int x3)] [] di dl (RI K) := by
  refine q1 (ls' := [(0, .ref SCR), (1, .ref 0), (2, .ref 176), (3, .int x3)]) I_220_588 rfl (wi_aload_n _ rfl ?_)
  refine q0 I_220_589 (wi_aload_n _ rfl ?_)
  refine q0 I_220_590 (wi_iload_n _ rfl ?_)
  refine q0 I_220_591 (wi_iconst 1 rfl ?_)
  refine q0 I_220_592 (wi_iadd ?_)
  refine q0 I_220_593 (wi_ialoadS H.1 ?_)
  replace H := H.2
  refine q0 I_220_594 (wi_aload_n _ rfl ?_)
  refine q0 I_220_595 (wi_iload_n _ rfl ?_)
  refine q0 I_220_596 (wi_iconst 2 rfl ?_)
  refine q0 I_220_597 (wi_iadd ?_)
  refine q0 I_220_598 (wi_ialoadS H.1 ?_)
  replace H := H.2
  refine q0 I_220_599 (wi_virtI (e := 4) [.int (xs (x3 + 1).toNatClampNeg), .int (xs (x3 + 2).toNatClampNeg)] [] S_0 rfl (by decide) rfl rfl rfl (okC_i rfl rfl rfl) C_105 (by decide) (ClI_mono H ?_))
  intro r1 di1 dl1 H
  refine q0 I_220_602 (wi_aload_n _ rfl ?_)
  refine q0 I_220_603 (wi_aload_n _ rfl ?_)
  refine q0 I_220_604 (wi_iload_n _ rfl ?_)
  refine q0 I_220_605 (wi_iconst 1 rfl ?_)
  refine q0 I_220_606 (wi_iadd ?_)
  refine q0 I_220_607 (wi_ialoadS H.1 ?_)
  replace H := H.2
  refine q0 I_220_608 (wi_aload_n _ rfl ?_)
  refine q0 I_220_609 (wi_iload_n _ rfl ?_)
  refine q0 I_220_610 (wi_iconst 2 rfl ?_)
  refine q0 I_220_611 (wi_iadd ?_)
  refine q0 I_220_612 (wi_ialoadS H.1 ?_)
  replace H := H.2
  refine q0 I_220_613 (wi_virtI (e := 7) [.int (xs (x3 + 1).toNatClampNeg), .int (xs (x3 + 2).toNatClampNeg)] [.int r1] S_176 rfl (by decide) rfl rfl rfl (okC_i rfl rfl rfl) C_194 (by decide) (ClI_mono H ?_))
  intro r2 di2 dl2 H
  refine q0 I_220_616 (wi_ic_eq (fun h => ?_) (fun h => ?_))
  · replace H := H.1 h
    exact Wq_c I_220_1214 rfl rfl H
  · replace H := H.2 h
    refine q1 (ls' := []) I_220_619 rfl (wi_iconst 0 rfl ?_)
    exact q0 I_220_620 (wi_zret T_220 (Or.inr rfl) (Or.inl rfl) ⟨_, rfl, H⟩)
theorem r_220_621 {L : Nat} {xs : Nat → Int32} {x3 : Int32} {di : tDi} {dl : tDl} {K : Int32 → tDi → tDl → Prop} (H : (inB (x3 + 1) L = true ∧ (inB (x3 + 2) L = true ∧ (inB (x3 + 3) L = true ∧ (ClI 14 106 [.ref 0, .int (xs (x3 + 1).toNatClampNeg), .int (xs (x3 + 2).toNatClampNeg), .int (xs (x3 + 3).toNatClampNeg)] di dl (fun r1 di1 dl1 => (inB (x3 + 1) L = true ∧ (inB (x3 + 2) L = true ∧ (inB (x3 + 3) L = true ∧ (ClI 7 197 [.ref 176, .int (xs (x3 + 1).toNatClampNeg), .int (xs (x3 + 2).toNatClampNeg), .int (xs (x3 + 3).toNatClampNeg)] di1 dl1 (fun r2 di2 dl2 => ((r1 = r2 → (Wq (some (L, xs)) 100 220 1214 [(0, .ref SCR), (1, .ref 0), (2, .ref 176), (3, .int x3)] [] di2 dl2 (RI K))) ∧ (¬ r1 = r2 → (K 0 di2 dl2)))))))))))))) : Wq (some (L, xs)) 100 220 621 [(0, .ref SCR), (1, .ref 0), (2, .ref 176), (3, .int x3)] [] di dl (RI K) := by
  refine q1 (ls' := [(0, .ref SCR), (1, .ref 0), (2, .ref 176), (3, .int x3)]) I_220_621 rfl (wi_aload_n _ rfl ?_)
  refine q0 I_220_622 (wi_aload_n _ rfl ?_)
  refine q0 I_220_623 (wi_iload_n _ rfl ?_)
  refine q0 I_220_624 (wi_iconst 1 rfl ?_)
  refine q0 I_220_625 (wi_iadd ?_)
  refine q0 I_220_626 (wi_ialoadS H.1 ?_)
  replace H := H.2
  refine q0 I_220_627 (wi_aload_n _ rfl ?_)
  refine q0 I_220_628 (wi_iload_n _ rfl ?_)
  refine q0 I_220_629 (wi_iconst 2 rfl ?_)
  refine q0 I_220_630 (wi_iadd ?_)
  refine q0 I_220_631 (wi_ialoadS H.1 ?_)
  replace H := H.2
  refine q0 I_220_632 (wi_aload_n _ rfl ?_)
  refine q0 I_220_633 (wi_iload_n _ rfl ?_)
  refine q0 I_220_634 (wi_iconst 3 rfl ?_)
  refine q0 I_220_635 (wi_iadd ?_)
  refine q0 I_220_636 (wi_ialoadS H.1 ?_)
  replace H := H.2
  refine q0 I_220_637 (wi_virtI (e := 14) [.int (xs (x3 + 1).toNatClampNeg), .int (xs (x3 + 2).toNatClampNeg), .int (xs (x3 + 3).toNatClampNeg)] [] S_0 rfl (by decide) rfl rfl rfl (okC_i rfl rfl rfl) C_106 (by decide) (ClI_mono H ?_))
  intro r1 di1 dl1 H
  refine q0 I_220_640 (wi_aload_n _ rfl ?_)
  refine q0 I_220_641 (wi_aload_n _ rfl ?_)
  refine q0 I_220_642 (wi_iload_n _ rfl ?_)
  refine q0 I_220_643 (wi_iconst 1 rfl ?_)
  refine q0 I_220_644 (wi_iadd ?_)
  refine q0 I_220_645 (wi_ialoadS H.1 ?_)
  replace H := H.2
  refine q0 I_220_646 (wi_aload_n _ rfl ?_)
  refine q0 I_220_647 (wi_iload_n _ rfl ?_)
  refine q0 I_220_648 (wi_iconst 2 rfl ?_)
  refine q0 I_220_649 (wi_iadd ?_)
  refine q0 I_220_650 (wi_ialoadS H.1 ?_)
  replace H := H.2
  refine q0 I_220_651 (wi_aload_n _ rfl ?_)
  refine q0 I_220_652 (wi_iload_n _ rfl ?_)
  refine q0 I_220_653 (wi_iconst 3 rfl ?_)
  refine q0 I_220_654 (wi_iadd ?_)
  refine q0 I_220_655 (wi_ialoadS H.1 ?_)
  replace H := H.2
  refine q0 I_220_656 (wi_virtI (e := 7) [.int (xs (x3 + 1).toNatClampNeg), .int (xs (x3 + 2).toNatClampNeg), .int (xs (x3 + 3).toNatClampNeg)] [.int r1] S_176 rfl (by decide) rfl rfl rfl (okC_i rfl rfl rfl) C_197 (by decide) (ClI_mono H ?_))
  intro r2 di2 dl2 H
  refine q0 I_220_659 (wi_ic_eq (fun h => ?_) (fun h => ?_))
  · replace H := H.1 h
    exact Wq_c I_220_1214 rfl rfl H
  · replace H := H.2 h
    refine q1 (ls' := []) I_220_662 rfl (wi_iconst 0 rfl ?_)
    exact q0 I_220_663 (wi_zret T_220 (Or.inr rfl) (Or.inl rfl) ⟨_, rfl, H⟩)
theorem r_220_664 {L : Nat} {xs : Nat → Int32} {x3 : Int32} {di : tDi} {dl : tDl} {K : Int32 → tDi → tDl → Prop} (H : (inB (x3 + 1) L = true ∧ (inB (x3 + 2) L = true ∧ (ClI 4 107 [.ref 0, .int (xs (x3 + 1).toNatClampNeg), .int (xs (x3 + 2).toNatClampNeg)] di dl (fun r1 di1 dl1 => (inB (x3 + 1) L = true ∧ (inB (x3 + 2) L = true ∧ (ClI 7 199 [.ref 176, .int (xs (x3 + 1).toNatClampNeg), .int (xs (x3 + 2).toNatClampNeg)] di1 dl1 (fun r2 di2 dl2 => ((r1 = r2 → (Wq (some (L, xs)) 100 220 1214 [(0, .ref SCR), (1, .ref 0), (2, .ref 176), (3, .int x3)] [] di2 dl2 (RI K))) ∧ (¬ r1 = r2 → (K 0 di2 dl2)))))))))))) : Wq (some (L, xs)) 100 220 664 [(0, .ref SCR), (1, .ref 0), (2, .ref 176), (3, .int x3)] [] di dl (RI K) := by
  refine q1 (ls' := [(0, .ref SCR), (1, .ref 0), (2, .ref 176), (3, .int x3)]) I_220_664 rfl (wi_aload_n _ rfl ?_)
  refine q0 I_220_665 (wi_aload_n _ rfl ?_)
  refine q0 I_220_666 (wi_iload_n _ rfl ?_)
  refine q0 I_220_667 (wi_iconst 1 rfl ?_)
  refine q0 I_220_668 (wi_iadd ?_)
  refine q0 I_220_669 (wi_ialoadS H.1 ?_)
  replace H := H.2
  refine q0 I_220_670 (wi_aload_n _ rfl ?_)
  refine q0 I_220_671 (wi_iload_n _ rfl ?_)
  refine q0 I_220_672 (wi_iconst 2 rfl ?_)
  refine q0 I_220_673 (wi_iadd ?_)
  refine q0 I_220_674 (wi_ialoadS H.1 ?_)
  replace H := H.2
  refine q0 I_220_675 (wi_virtI (e := 4) [.int (xs (x3 + 1).toNatClampNeg), .int (xs (x3 + 2).toNatClampNeg)] [] S_0 rfl (by decide) rfl rfl rfl (okC_i rfl rfl rfl) C_107 (by decide) (ClI_mono H ?_))
  intro r1 di1 dl1 H
  refine q0 I_220_678 (wi_aload_n _ rfl ?_)
  refine q0 I_220_679 (wi_aload_n _ rfl ?_)
  refine q0 I_220_680 (wi_iload_n _ rfl ?_)
  refine q0 I_220_681 (wi_iconst 1 rfl ?_)
  refine q0 I_220_682 (wi_iadd ?_)
  refine q0 I_220_683 (wi_ialoadS H.1 ?_)
  replace H := H.2
  refine q0 I_220_684 (wi_aload_n _ rfl ?_)
  refine q0 I_220_685 (wi_iload_n _ rfl ?_)
  refine q0 I_220_686 (wi_iconst 2 rfl ?_)
  refine q0 I_220_687 (wi_iadd ?_)
  refine q0 I_220_688 (wi_ialoadS H.1 ?_)
  replace H := H.2
  refine q0 I_220_689 (wi_virtI (e := 7) [.int (xs (x3 + 1).toNatClampNeg), .int (xs (x3 + 2).toNatClampNeg)] [.int r1] S_176 rfl (by decide) rfl rfl rfl (okC_i rfl rfl rfl) C_199 (by decide) (ClI_mono H ?_))
  intro r2 di2 dl2 H
  refine q0 I_220_692 (wi_ic_eq (fun h => ?_) (fun h => ?_))
  · replace H := H.1 h
    exact Wq_c I_220_1214 rfl rfl H
  · replace H := H.2 h
    refine q1 (ls' := []) I_220_695 rfl (wi_iconst 0 rfl ?_)
    exact q0 I_220_696 (wi_zret T_220 (Or.inr rfl) (Or.inl rfl) ⟨_, rfl, H⟩)
theorem r_220_697 {L : Nat} {xs : Nat → Int32} {x3 : Int32} {di : tDi} {dl : tDl} {K : Int32 → tDi → tDl → Prop} (H : (inB (x3 + 1) L = true ∧ (inB (x3 + 2) L = true ∧ (inB (x3 + 3) L = true ∧ (ClI 1 108 [.ref 0, .int (xs (x3 + 1).toNatClampNeg), .int (xs (x3 + 2).toNatClampNeg), .int (xs (x3 + 3).toNatClampNeg)] di dl (fun r1 di1 dl1 => (inB (x3 + 1) L = true ∧ (inB (x3 + 2) L = true ∧ (inB (x3 + 3) L = true ∧ (ClI 1 200 [.ref 176, .int (xs (x3 + 1).toNatClampNeg), .int (xs (x3 + 2).toNatClampNeg), .int (xs (x3 + 3).toNatClampNeg)] di1 dl1 (fun r2 di2 dl2 => ((r1 = r2 → (Wq (some (L, xs)) 100 220 1214 [(0, .ref SCR), (1, .ref 0), (2, .ref 176), (3, .int x3)] [] di2 dl2 (RI K))) ∧ (¬ r1 = r2 → (K 0 di2 dl2)))))))))))))) : Wq (some (L, xs)) 100 220 697 [(0, .ref SCR), (1, .ref 0), (2, .ref 176), (3, .int x3)] [] di dl (RI K) := by
  refine q1 (ls' := [(0, .ref SCR), (1, .ref 0), (2, .ref 176), (3, .int x3)]) I_220_697 rfl (wi_aload_n _ rfl ?_)
  refine q0 I_220_698 (wi_aload_n _ rfl ?_)
  refine q0 I_220_699 (wi_iload_n _ rfl ?_)
  refine q0 I_220_700 (wi_iconst 1 rfl ?_)
  refine q0 I_220_701 (wi_iadd ?_)
  refine q0 I_220_702 (wi_ialoadS H.1 ?_)
  replace H := H.2
  refine q0 I_220_703 (wi_aload_n _ rfl ?_)
  refine q0 I_220_704 (wi_iload_n _ rfl ?_)
  refine q0 I_220_705 (wi_iconst 2 rfl ?_)
  refine q0 I_220_706 (wi_iadd ?_)
  refine q0 I_220_707 (wi_ialoadS H.1 ?_)
  replace H := H.2
  refine q0 I_220_708 (wi_aload_n _ rfl ?_)
  refine q0 I_220_709 (wi_iload_n _ rfl ?_)
  refine q0 I_220_710 (wi_iconst 3 rfl ?_)
  refine q0 I_220_711 (wi_iadd ?_)
  refine q0 I_220_712 (wi_ialoadS H.1 ?_)
  replace H := H.2
  refine q0 I_220_713 (wi_virtI (e := 1) [.int (xs (x3 + 1).toNatClampNeg), .int (xs (x3 + 2).toNatClampNeg), .int (xs (x3 + 3).toNatClampNeg)] [] S_0 rfl (by decide) rfl rfl rfl (okC_i rfl rfl rfl) C_108 (by decide) (ClI_mono H ?_))
  intro r1 di1 dl1 H
  refine q0 I_220_716 (wi_aload_n _ rfl ?_)
  refine q0 I_220_717 (wi_aload_n _ rfl ?_)
  refine q0 I_220_718 (wi_iload_n _ rfl ?_)
  refine q0 I_220_719 (wi_iconst 1 rfl ?_)
  refine q0 I_220_720 (wi_iadd ?_)
  refine q0 I_220_721 (wi_ialoadS H.1 ?_)
  replace H := H.2
  refine q0 I_220_722 (wi_aload_n _ rfl ?_)
  refine q0 I_220_723 (wi_iload_n _ rfl ?_)
  refine q0 I_220_724 (wi_iconst 2 rfl ?_)
  refine q0 I_220_725 (wi_iadd ?_)
  refine q0 I_220_726 (wi_ialoadS H.1 ?_)
  replace H := H.2
  refine q0 I_220_727 (wi_aload_n _ rfl ?_)
  refine q0 I_220_728 (wi_iload_n _ rfl ?_)
  refine q0 I_220_729 (wi_iconst 3 rfl ?_)
  refine q0 I_220_730 (wi_iadd ?_)
  refine q0 I_220_731 (wi_ialoadS H.1 ?_)
  replace H := H.2
  refine q0 I_220_732 (wi_virtI (e := 1) [.int (xs (x3 + 1).toNatClampNeg), .int (xs (x3 + 2).toNatClampNeg), .int (xs (x3 + 3).toNatClampNeg)] [.int r1] S_176 rfl (by decide) rfl rfl rfl (okC_i rfl rfl rfl) C_200 (by decide) (ClI_mono H ?_))
  intro r2 di2 dl2 H
  refine q0 I_220_735 (wi_ic_eq (fun h => ?_) (fun h => ?_))
  · replace H := H.1 h
    exact Wq_c I_220_1214 rfl rfl H
  · replace H := H.2 h
    refine q1 (ls' := []) I_220_738 rfl (wi_iconst 0 rfl ?_)
    exact q0 I_220_739 (wi_zret T_220 (Or.inr rfl) (Or.inl rfl) ⟨_, rfl, H⟩)
theorem r_220_740 {L : Nat} {xs : Nat → Int32} {x3 : Int32} {di : tDi} {dl : tDl} {K : Int32 → tDi → tDl → Prop} (H : (ClI 0 109 [.ref 0] di dl (fun r1 di1 dl1 => (ClI 0 201 [.ref 176] di1 dl1 (fun r2 di2 dl2 => ((r1 = r2 → (Wq (some (L, xs)) 100 220 1214 [(0, .ref SCR), (1, .ref 0), (2, .ref 176), (3, .int x3)] [] di2 dl2 (RI K))) ∧ (¬ r1 = r2 → (K 0 di2 dl2)))))))) : Wq (some (L, xs)) 100 220 740 [(0, .ref SCR), (1, .ref 0), (2, .ref 176), (3, .int x3)] [] di dl (RI K) := by
  refine q1 (ls' := [(0, .ref SCR), (1, .ref 0), (2, .ref 176), (3, .int x3)]) I_220_740 rfl (wi_aload_n _ rfl ?_)
  refine q0 I_220_741 (wi_virtI (e := 0) [] [] S_0 rfl (by decide) rfl rfl rfl (okC_i rfl rfl rfl) C_109 (by decide) (ClI_mono H ?_))
  intro r1 di1 dl1 H
  refine q0 I_220_744 (wi_aload_n _ rfl ?_)
  refine q0 I_220_745 (wi_virtI (e := 0) [] [.int r1] S_176 rfl (by decide) rfl rfl rfl (okC_i rfl rfl rfl) C_201 (by decide) (ClI_mono H ?_))
  intro r2 di2 dl2 H
  refine q0 I_220_748 (wi_ic_eq (fun h => ?_) (fun h => ?_))
  · replace H := H.1 h
    exact Wq_c I_220_1214 rfl rfl H
  · replace H := H.2 h
    refine q1 (ls' := []) I_220_751 rfl (wi_iconst 0 rfl ?_)
    exact q0 I_220_752 (wi_zret T_220 (Or.inr rfl) (Or.inl rfl) ⟨_, rfl, H⟩)
theorem r_220_753 {L : Nat} {xs : Nat → Int32} {x3 : Int32} {di : tDi} {dl : tDl} {K : Int32 → tDi → tDl → Prop} (H : (inB (x3 + 1) L = true ∧ (ClI 2 110 [.ref 0, .int (xs (x3 + 1).toNatClampNeg)] di dl (fun r1 di1 dl1 => (inB (x3 + 1) L = true ∧ (ClI 2 202 [.ref 176, .int (xs (x3 + 1).toNatClampNeg)] di1 dl1 (fun r2 di2 dl2 => ((r1 = r2 → (Wq (some (L, xs)) 100 220 1214 [(0, .ref SCR), (1, .ref 0), (2, .ref 176), (3, .int x3)] [] di2 dl2 (RI K))) ∧ (¬ r1 = r2 → (K 0 di2 dl2)))))))))) : Wq (some (L, xs)) 100 220 753 [(0, .ref SCR), (1, .ref 0), (2, .ref 176), (3, .int x3)] [] di dl (RI K) := by
  refine q1 (ls' := [(0, .ref SCR), (1, .ref 0), (2, .ref 176), (3, .int x3)]) I_220_753 rfl (wi_aload_n _ rfl ?_)
  refine q0 I_220_754 (wi_aload_n _ rfl ?_)
  refine q0 I_220_755 (wi_iload_n _ rfl ?_)
  refine q0 I_220_756 (wi_iconst 1 rfl ?_)
  refine q0 I_220_757 (wi_iadd ?_)
  refine q0 I_220_758 (wi_ialoadS H.1 ?_)
  replace H := H.2
  refine q0 I_220_759 (wi_virtI (e := 2) [.int (xs (x3 + 1).toNatClampNeg)] [] S_0 rfl (by decide) rfl rfl rfl (okC_i rfl rfl rfl) C_110 (by decide) (ClI_mono H ?_))
  intro r1 di1 dl1 H
  refine q0 I_220_762 (wi_aload_n _ rfl ?_)
  refine q0 I_220_763 (wi_aload_n _ rfl ?_)
  refine q0 I_220_764 (wi_iload_n _ rfl ?_)
  refine q0 I_220_765 (wi_iconst 1 rfl ?_)
  refine q0 I_220_766 (wi_iadd ?_)
  refine q0 I_220_767 (wi_ialoadS H.1 ?_)
  replace H := H.2
  refine q0 I_220_768 (wi_virtI (e := 2) [.int (xs (x3 + 1).toNatClampNeg)] [.int r1] S_176 rfl (by decide) rfl rfl rfl (okC_i rfl rfl rfl) C_202 (by decide) (ClI_mono H ?_))
  intro r2 di2 dl2 H
  refine q0 I_220_771 (wi_ic_eq (fun h => ?_) (fun h => ?_))
  · replace H := H.1 h
    exact Wq_c I_220_1214 rfl rfl H
  · replace H := H.2 h
    refine q1 (ls' := []) I_220_774 rfl (wi_iconst 0 rfl ?_)
    exact q0 I_220_775 (wi_zret T_220 (Or.inr rfl) (Or.inl rfl) ⟨_, rfl, H⟩)
theorem r_220_776 {L : Nat} {xs : Nat → Int32} {x3 : Int32} {di : tDi} {dl : tDl} {K : Int32 → tDi → tDl → Prop} (H : (inB (x3 + 1) L = true ∧ (ClI 4 111 [.ref 0, .int (xs (x3 + 1).toNatClampNeg)] di dl (fun r1 di1 dl1 => (inB (x3 + 1) L = true ∧ (ClI 7 207 [.ref 176, .int (xs (x3 + 1).toNatClampNeg)] di1 dl1 (fun r2 di2 dl2 => ((r1 = r2 → (Wq (some (L, xs)) 100 220 1214 [(0, .ref SCR), (1, .ref 0), (2, .ref 176), (3, .int x3)] [] di2 dl2 (RI K))) ∧ (¬ r1 = r2 → (K 0 di2 dl2)))))))))) : Wq (some (L, xs)) 100 220 776 [(0, .ref SCR), (1, .ref 0), (2, .ref 176), (3, .int x3)] [] di dl (RI K) := by
  refine q1 (ls' := [(0, .ref SCR), (1, .ref 0), (2, .ref 176), (3, .int x3)]) I_220_776 rfl (wi_aload_n _ rfl ?_)
  refine q0 I_220_777 (wi_aload_n _ rfl ?_)
  refine q0 I_220_778 (wi_iload_n _ rfl ?_)
  refine q0 I_220_779 (wi_iconst 1 rfl ?_)
  refine q0 I_220_780 (wi_iadd ?_)
  refine q0 I_220_781 (wi_ialoadS H.1 ?_)
  replace H := H.2
  refine q0 I_220_782 (wi_virtI (e := 4) [.int (xs (x3 + 1).toNatClampNeg)] [] S_0 rfl (by decide) rfl rfl rfl (okC_i rfl rfl rfl) C_111 (by decide) (ClI_mono H ?_))
  intro r1 di1 dl1 H
  refine q0 I_220_785 (wi_aload_n _ rfl ?_)
  refine q0 I_220_786 (wi_aload_n _ rfl ?_)
  refine q0 I_220_787 (wi_iload_n _ rfl ?_)
  refine q0 I_220_788 (wi_iconst 1 rfl ?_)
  refine q0 I_220_789 (wi_iadd ?_)
  refine q0 I_220_790 (wi_ialoadS H.1 ?_)
  replace H := H.2
  refine q0 I_220_791 (wi_virtI (e := 7) [.int (xs (x3 + 1).toNatClampNeg)] [.int r1] S_176 rfl (by decide) rfl rfl rfl (okC_i rfl rfl rfl) C_207 (by decide) (ClI_mono H ?_))
  intro r2 di2 dl2 H
  refine q0 I_220_794 (wi_ic_eq (fun h => ?_) (fun h => ?_))
  · replace H := H.1 h
    exact Wq_c I_220_1214 rfl rfl H
  · replace H := H.2 h
    refine q1 (ls' := []) I_220_797 rfl (wi_iconst 0 rfl ?_)
    exact q0 I_220_798 (wi_zret T_220 (Or.inr rfl) (Or.inl rfl) ⟨_, rfl, H⟩)
theorem r_220_799 {L : Nat} {xs : Nat → Int32} {x3 : Int32} {di : tDi} {dl : tDl} {K : Int32 → tDi → tDl → Prop} (H : (inB (x3 + 1) L = true ∧ (ClI 4 112 [.ref 0, .int (xs (x3 + 1).toNatClampNeg)] di dl (fun r1 di1 dl1 => (inB (x3 + 1) L = true ∧ (ClI 7 210 [.ref 176, .int (xs (x3 + 1).toNatClampNeg)] di1 dl1 (fun r2 di2 dl2 => ((r1 = r2 → (Wq (some (L, xs)) 100 220 1214 [(0, .ref SCR), (1, .ref 0), (2, .ref 176), (3, .int x3)] [] di2 dl2 (RI K))) ∧ (¬ r1 = r2 → (K 0 di2 dl2)))))))))) : Wq (some (L, xs)) 100 220 799 [(0, .ref SCR), (1, .ref 0), (2, .ref 176), (3, .int x3)] [] di dl (RI K) := by
  refine q1 (ls' := [(0, .ref SCR), (1, .ref 0), (2, .ref 176), (3, .int x3)]) I_220_799 rfl (wi_aload_n _ rfl ?_)
  refine q0 I_220_800 (wi_aload_n _ rfl ?_)
  refine q0 I_220_801 (wi_iload_n _ rfl ?_)
  refine q0 I_220_802 (wi_iconst 1 rfl ?_)
  refine q0 I_220_803 (wi_iadd ?_)
  refine q0 I_220_804 (wi_ialoadS H.1 ?_)
  replace H := H.2
  refine q0 I_220_805 (wi_virtI (e := 4) [.int (xs (x3 + 1).toNatClampNeg)] [] S_0 rfl (by decide) rfl rfl rfl (okC_i rfl rfl rfl) C_112 (by decide) (ClI_mono H ?_))
  intro r1 di1 dl1 H
  refine q0 I_220_808 (wi_aload_n _ rfl ?_)
  refine q0 I_220_809 (wi_aload_n _ rfl ?_)
  refine q0 I_220_810 (wi_iload_n _ rfl ?_)
  refine q0 I_220_811 (wi_iconst 1 rfl ?_)
  refine q0 I_220_812 (wi_iadd ?_)
  refine q0 I_220_813 (wi_ialoadS H.1 ?_)
  replace H := H.2
  refine q0 I_220_814 (wi_virtI (e := 7) [.int (xs (x3 + 1).toNatClampNeg)] [.int r1] S_176 rfl (by decide) rfl rfl rfl (okC_i rfl rfl rfl) C_210 (by decide) (ClI_mono H ?_))
  intro r2 di2 dl2 H
  refine q0 I_220_817 (wi_ic_eq (fun h => ?_) (fun h => ?_))
  · replace H := H.1 h
    exact Wq_c I_220_1214 rfl rfl H
  · replace H := H.2 h
    refine q1 (ls' := []) I_220_820 rfl (wi_iconst 0 rfl ?_)
    exact q0 I_220_821 (wi_zret T_220 (Or.inr rfl) (Or.inl rfl) ⟨_, rfl, H⟩)
theorem r_220_822 {L : Nat} {xs : Nat → Int32} {x3 : Int32} {di : tDi} {dl : tDl} {K : Int32 → tDi → tDl → Prop} (H : (inB (x3 + 1) L = true ∧ (inB (x3 + 2) L = true ∧ (inB (x3 + 3) L = true ∧ (inB (x3 + 4) L = true ∧ (ClJ 3 113 [.ref 0, .int (xs (x3 + 1).toNatClampNeg), .int (xs (x3 + 2).toNatClampNeg), .int (xs (x3 + 3).toNatClampNeg), .int (xs (x3 + 4).toNatClampNeg)] di dl (fun r1 di1 dl1 => (inB (x3 + 1) L = true ∧ (inB (x3 + 2) L = true ∧ (inB (x3 + 3) L = true ∧ (inB (x3 + 4) L = true ∧ (ClJ 7 212 [.ref 176, .int (xs (x3 + 1).toNatClampNeg), .int (xs (x3 + 2).toNatClampNeg), .int (xs (x3 + 3).toNatClampNeg), .int (xs (x3 + 4).toNatClampNeg)] di1 dl1 (fun r2 di2 dl2 => (((lg_cmp r1 r2) = 0 → (Wq (some (L, xs)) 100 220 1214 [(0, .ref SCR), (1, .ref 0), (2, .ref 176), (3, .int x3)] [] di2 dl2 (RI K))) ∧ (¬ (lg_cmp r1 r2) = 0 → (K 0 di2 dl2)))))))))))))))) : Wq (some (L, xs)) 100 220 822 [(0, .ref SCR), (1, .ref 0), (2, .ref 176), (3, .int x3)] [] di dl (RI K) := by
  refine q1 (ls' := [(0, .ref SCR), (1, .ref 0), (2, .ref 176), (3, .int x3)]) I_220_822 rfl (wi_aload_n _ rfl ?_)
  refine q0 I_220_823 (wi_aload_n _ rfl ?_)
  refine q0 I_220_824 (wi_iload_n _ rfl ?_)
  refine q0 I_220_825 (wi_iconst 1 rfl ?_)
  refine q0 I_220_826 (wi_iadd ?_)
  refine q0 I_220_827 (wi_ialoadS H.1 ?_)
  replace H := H.2
  refine q0 I_220_828 (wi_aload_n _ rfl ?_)
  refine q0 I_220_829 (wi_iload_n _ rfl ?_)
  refine q0 I_220_830 (wi_iconst 2 rfl ?_)
  refine q0 I_220_831 (wi_iadd ?_)
  refine q0 I_220_832 (wi_ialoadS H.1 ?_)
  replace H := H.2
  refine q0 I_220_833 (wi_aload_n _ rfl ?_)
  refine q0 I_220_834 (wi_iload_n _ rfl ?_)
  refine q0 I_220_835 (wi_iconst 3 rfl ?_)
  refine q0 I_220_836 (wi_iadd ?_)
  refine q0 I_220_837 (wi_ialoadS H.1 ?_)
  replace H := H.2
  refine q0 I_220_838 (wi_aload_n _ rfl ?_)
  refine q0 I_220_839 (wi_iload_n _ rfl ?_)
  refine q0 I_220_840 (wi_iconst 4 rfl ?_)
  refine q0 I_220_841 (wi_iadd ?_)
  refine q0 I_220_842 (wi_ialoadS H.1 ?_)
  replace H := H.2
  refine q0 I_220_843 (wi_virtJ (e := 3) [.int (xs (x3 + 1).toNatClampNeg), .int (xs (x3 + 2).toNatClampNeg), .int (xs (x3 + 3).toNatClampNeg), .int (xs (x3 + 4).toNatClampNeg)] [] S_0 rfl (by decide) rfl rfl rfl (okC_i rfl rfl rfl) C_113 (by decide) (ClJ_mono H ?_))
  intro r1 di1 dl1 H
  refine q0 I_220_846 (wi_aload_n _ rfl ?_)
  refine q0 I_220_847 (wi_aload_n _ rfl ?_)
  refine q0 I_220_848 (wi_iload_n _ rfl ?_)
  refine q0 I_220_849 (wi_iconst 1 rfl ?_)
  refine q0 I_220_850 (wi_iadd ?_)
  refine q0 I_220_851 (wi_ialoadS H.1 ?_)
  replace H := H.2
  refine q0 I_220_852 (wi_aload_n _ rfl ?_)
  refine q0 I_220_853 (wi_iload_n _ rfl ?_)
  refine q0 I_220_854 (wi_iconst 2 rfl ?_)
  refine q0 I_220_855 (wi_iadd ?_)
  refine q0 I_220_856 (wi_ialoadS H.1 ?_)
  replace H := H.2
  refine q0 I_220_857 (wi_aload_n _ rfl ?_)
  refine q0 I_220_858 (wi_iload_n _ rfl ?_)
  refine q0 I_220_859 (wi_iconst 3 rfl ?_)
  refine q0 I_220_860 (wi_iadd ?_)
  refine q0 I_220_861 (wi_ialoadS H.1 ?_)
  replace H := H.2
  refine q0 I_220_862 (wi_aload_n _ rfl ?_)
  refine q0 I_220_863 (wi_iload_n _ rfl ?_)
  refine q0 I_220_864 (wi_iconst 4 rfl ?_)
  refine q0 I_220_865 (wi_iadd ?_)
  refine q0 I_220_866 (wi_ialoadS H.1 ?_)
  replace H := H.2
  refine q0 I_220_867 (wi_virtJ (e := 7) [.int (xs (x3 + 1).toNatClampNeg), .int (xs (x3 + 2).toNatClampNeg), .int (xs (x3 + 3).toNatClampNeg), .int (xs (x3 + 4).toNatClampNeg)] [.long r1] S_176 rfl (by decide) rfl rfl rfl (okC_i rfl rfl rfl) C_212 (by decide) (ClJ_mono H ?_))
  intro r2 di2 dl2 H
  refine q0 I_220_870 (wi_lcmp ?_)
  refine q0 I_220_871 (wi_if_eq (fun h => ?_) (fun h => ?_))
  · replace H := H.1 h
    exact Wq_c I_220_1214 rfl rfl H
  · replace H := H.2 h
    refine q1 (ls' := []) I_220_874 rfl (wi_iconst 0 rfl ?_)
    exact q0 I_220_875 (wi_zret T_220 (Or.inr rfl) (Or.inl rfl) ⟨_, rfl, H⟩)
theorem r_220_876 {L : Nat} {xs : Nat → Int32} {x3 : Int32} {di : tDi} {dl : tDl} {K : Int32 → tDi → tDl → Prop} (H : (inB (x3 + 1) L = true ∧ (inB (x3 + 2) L = true ∧ (inB (x3 + 3) L = true ∧ (ClI 4 114 [.ref 0, .int (xs (x3 + 1).toNatClampNeg), .int (xs (x3 + 2).toNatClampNeg), .int (xs (x3 + 3).toNatClampNeg)] di dl (fun r1 di1 dl1 => (inB (x3 + 1) L = true ∧ (inB (x3 + 2) L = true ∧ (inB (x3 + 3) L = true ∧ (ClI 7 214 [.ref 176, .int (xs (x3 + 1).toNatClampNeg), .int (xs (x3 + 2).toNatClampNeg), .int (xs (x3 + 3).toNatClampNeg)] di1 dl1 (fun r2 di2 dl2 => ((r1 = r2 → (Wq (some (L, xs)) 100 220 1214 [(0, .ref SCR), (1, .ref 0), (2, .ref 176), (3, .int x3)] [] di2 dl2 (RI K))) ∧ (¬ r1 = r2 → (K 0 di2 dl2)))))))))))))) : Wq (some (L, xs)) 100 220 876 [(0, .ref SCR), (1, .ref 0), (2, .ref 176), (3, .int x3)] [] di dl (RI K) := by
  refine q1 (ls' := [(0, .ref SCR), (1, .ref 0), (2, .ref 176), (3, .int x3)]) I_220_876 rfl (wi_aload_n _ rfl ?_)
  refine q0 I_220_877 (wi_aload_n _ rfl ?_)
  refine q0 I_220_878 (wi_iload_n _ rfl ?_)
  refine q0 I_220_879 (wi_iconst 1 rfl ?_)
  refine q0 I_220_880 (wi_iadd ?_)
  refine q0 I_220_881 (wi_ialoadS H.1 ?_)
  replace H := H.2
  refine q0 I_220_882 (wi_aload_n _ rfl ?_)
  refine q0 I_220_883 (wi_iload_n _ rfl ?_)
  refine q0 I_220_884 (wi_iconst 2 rfl ?_)
  refine q0 I_220_885 (wi_iadd ?_)
  refine q0 I_220_886 (wi_ialoadS H.1 ?_)
  replace H := H.2
  refine q0 I_220_887 (wi_aload_n _ rfl ?_)
  refine q0 I_220_888 (wi_iload_n _ rfl ?_)
  refine q0 I_220_889 (wi_iconst 3 rfl ?_)
  refine q0 I_220_890 (wi_iadd ?_)
  refine q0 I_220_891 (wi_ialoadS H.1 ?_)
  replace H := H.2
  refine q0 I_220_892 (wi_virtI (e := 4) [.int (xs (x3 + 1).toNatClampNeg), .int (xs (x3 + 2).toNatClampNeg), .int (xs (x3 + 3).toNatClampNeg)] [] S_0 rfl (by decide) rfl rfl rfl (okC_i rfl rfl rfl) C_114 (by decide) (ClI_mono H ?_))
  intro r1 di1 dl1 H
  refine q0 I_220_895 (wi_aload_n _ rfl ?_)
  refine q0 I_220_896 (wi_aload_n _ rfl ?_)
  refine q0 I_220_897 (wi_iload_n _ rfl ?_)
  refine q0 I_220_898 (wi_iconst 1 rfl ?_)
  refine q0 I_220_899 (wi_iadd ?_)
  refine q0 I_220_900 (wi_ialoadS H.1 ?_)
  replace H := H.2
  refine q0 I_220_901 (wi_aload_n _ rfl ?_)
  refine q0 I_220_902 (wi_iload_n _ rfl ?_)
  refine q0 I_220_903 (wi_iconst 2 rfl ?_)
  refine q0 I_220_904 (wi_iadd ?_)
  refine q0 I_220_905 (wi_ialoadS H.1 ?_)
  replace H := H.2
  refine q0 I_220_906 (wi_aload_n _ rfl ?_)
  refine q0 I_220_907 (wi_iload_n _ rfl ?_)
  refine q0 I_220_908 (wi_iconst 3 rfl ?_)
  refine q0 I_220_909 (wi_iadd ?_)
  refine q0 I_220_910 (wi_ialoadS H.1 ?_)
  replace H := H.2
  refine q0 I_220_911 (wi_virtI (e := 7) [.int (xs (x3 + 1).toNatClampNeg), .int (xs (x3 + 2).toNatClampNeg), .int (xs (x3 + 3).toNatClampNeg)] [.int r1] S_176 rfl (by decide) rfl rfl rfl (okC_i rfl rfl rfl) C_214 (by decide) (ClI_mono H ?_))
  intro r2 di2 dl2 H
  refine q0 I_220_914 (wi_ic_eq (fun h => ?_) (fun h => ?_))
  · replace H := H.1 h
    exact Wq_c I_220_1214 rfl rfl H
  · replace H := H.2 h
    refine q1 (ls' := []) I_220_917 rfl (wi_iconst 0 rfl ?_)
    exact q0 I_220_918 (wi_zret T_220 (Or.inr rfl) (Or.inl rfl) ⟨_, rfl, H⟩)
theorem r_220_919 {L : Nat} {xs : Nat → Int32} {x3 : Int32} {di : tDi} {dl : tDl} {K : Int32 → tDi → tDl → Prop} (H : (inB (x3 + 1) L = true ∧ (inB (x3 + 2) L = true ∧ (inB (x3 + 3) L = true ∧ (ClI 1 115 [.ref 0, .int (xs (x3 + 1).toNatClampNeg), .int (xs (x3 + 2).toNatClampNeg), .int (xs (x3 + 3).toNatClampNeg)] di dl (fun r1 di1 dl1 => (inB (x3 + 1) L = true ∧ (inB (x3 + 2) L = true ∧ (inB (x3 + 3) L = true ∧ (ClI 2 144 [.ref 176, .int (xs (x3 + 1).toNatClampNeg), .int (xs (x3 + 2).toNatClampNeg), .int (xs (x3 + 3).toNatClampNeg)] di1 dl1 (fun r2 di2 dl2 => ((r1 = r2 → (Wq (some (L, xs)) 100 220 1214 [(0, .ref SCR), (1, .ref 0), (2, .ref 176), (3, .int x3)] [] di2 dl2 (RI K))) ∧ (¬ r1 = r2 → (K 0 di2 dl2)))))))))))))) : Wq (some (L, xs)) 100 220 919 [(0, .ref SCR), (1, .ref 0), (2, .ref 176), (3, .int x3)] [] di dl (RI K) := by
  refine q1 (ls' := [(0, .ref SCR), (1, .ref 0), (2, .ref 176), (3, .int x3)]) I_220_919 rfl (wi_aload_n _ rfl ?_)
  refine q0 I_220_920 (wi_aload_n _ rfl ?_)
  refine q0 I_220_921 (wi_iload_n _ rfl ?_)
  refine q0 I_220_922 (wi_iconst 1 rfl ?_)
  refine q0 I_220_923 (wi_iadd ?_)
  refine q0 I_220_924 (wi_ialoadS H.1 ?_)
  replace H := H.2
  refine q0 I_220_925 (wi_aload_n _ rfl ?_)
  refine q0 I_220_926 (wi_iload_n _ rfl ?_)
  refine q0 I_220_927 (wi_iconst 2 rfl ?_)
  refine q0 I_220_928 (wi_iadd ?_)
  refine q0 I_220_929 (wi_ialoadS H.1 ?_)
  replace H := H.2
  refine q0 I_220_930 (wi_aload_n _ rfl ?_)
  refine q0 I_220_931 (wi_iload_n _ rfl ?_)
  refine q0 I_220_932 (wi_iconst 3 rfl ?_)
  refine q0 I_220_933 (wi_iadd ?_)
  refine q0 I_220_934 (wi_ialoadS H.1 ?_)
  replace H := H.2
  refine q0 I_220_935 (wi_virtI (e := 1) [.int (xs (x3 + 1).toNatClampNeg), .int (xs (x3 + 2).toNatClampNeg), .int (xs (x3 + 3).toNatClampNeg)] [] S_0 rfl (by decide) rfl rfl rfl (okC_i rfl rfl rfl) C_115 (by decide) (ClI_mono H ?_))
  intro r1 di1 dl1 H
  refine q0 I_220_938 (wi_aload_n _ rfl ?_)
  refine q0 I_220_939 (wi_aload_n _ rfl ?_)
  refine q0 I_220_940 (wi_iload_n _ rfl ?_)
  refine q0 I_220_941 (wi_iconst 1 rfl ?_)
  refine q0 I_220_942 (wi_iadd ?_)
  refine q0 I_220_943 (wi_ialoadS H.1 ?_)
  replace H := H.2
  refine q0 I_220_944 (wi_aload_n _ rfl ?_)
  refine q0 I_220_945 (wi_iload_n _ rfl ?_)
  refine q0 I_220_946 (wi_iconst 2 rfl ?_)
  refine q0 I_220_947 (wi_iadd ?_)
  refine q0 I_220_948 (wi_ialoadS H.1 ?_)
  replace H := H.2
  refine q0 I_220_949 (wi_aload_n _ rfl ?_)
  refine q0 I_220_950 (wi_iload_n _ rfl ?_)
  refine q0 I_220_951 (wi_iconst 3 rfl ?_)
  refine q0 I_220_952 (wi_iadd ?_)
  refine q0 I_220_953 (wi_ialoadS H.1 ?_)
  replace H := H.2
  refine q0 I_220_954 (wi_virtI (e := 2) [.int (xs (x3 + 1).toNatClampNeg), .int (xs (x3 + 2).toNatClampNeg), .int (xs (x3 + 3).toNatClampNeg)] [.int r1] S_176 rfl (by decide) rfl rfl rfl (okC_i rfl rfl rfl) C_144 (by decide) (ClI_mono H ?_))
  intro r2 di2 dl2 H
  refine q0 I_220_957 (wi_ic_eq (fun h => ?_) (fun h => ?_))
  · replace H := H.1 h
    exact Wq_c I_220_1214 rfl rfl H
  · replace H := H.2 h
    refine q1 (ls' := []) I_220_960 rfl (wi_iconst 0 rfl ?_)
    exact q0 I_220_961 (wi_zret T_220 (Or.inr rfl) (Or.inl rfl) ⟨_, rfl, H⟩)
theorem r_220_962 {L : Nat} {xs : Nat → Int32} {x3 : Int32} {di : tDi} {dl : tDl} {K : Int32 → tDi → tDl → Prop} (H : (inB (x3 + 1) L = true ∧ (ClI 1 116 [.ref 0, .int (xs (x3 + 1).toNatClampNeg)] di dl (fun r1 di1 dl1 => (inB (x3 + 1) L = true ∧ (ClI 2 145 [.ref 176, .int (xs (x3 + 1).toNatClampNeg)] di1 dl1 (fun r2 di2 dl2 => ((r1 = r2 → (Wq (some (L, xs)) 100 220 1214 [(0, .ref SCR), (1, .ref 0), (2, .ref 176), (3, .int x3)] [] di2 dl2 (RI K))) ∧ (¬ r1 = r2 → (K 0 di2 dl2)))))))))) : Wq (some (L, xs)) 100 220 962 [(0, .ref SCR), (1, .ref 0), (2, .ref 176), (3, .int x3)] [] di dl (RI K) := by
  refine q1 (ls' := [(0, .ref SCR), (1, .ref 0), (2, .ref 176), (3, .int x3)]) I_220_962 rfl (wi_aload_n _ rfl ?_)
  refine q0 I_220_963 (wi_aload_n _ rfl ?_)
  refine q0 I_220_964 (wi_iload_n _ rfl ?_)
  refine q0 I_220_965 (wi_iconst 1 rfl ?_)
  refine q0 I_220_966 (wi_iadd ?_)
  refine q0 I_220_967 (wi_ialoadS H.1 ?_)
  replace H := H.2
  refine q0 I_220_968 (wi_virtI (e := 1) [.int (xs (x3 + 1).toNatClampNeg)] [] S_0 rfl (by decide) rfl rfl rfl (okC_i rfl rfl rfl) C_116 (by decide) (ClI_mono H ?_))
  intro r1 di1 dl1 H
  refine q0 I_220_971 (wi_aload_n _ rfl ?_)
  refine q0 I_220_972 (wi_aload_n _ rfl ?_)
  refine q0 I_220_973 (wi_iload_n _ rfl ?_)
  refine q0 I_220_974 (wi_iconst 1 rfl ?_)
  refine q0 I_220_975 (wi_iadd ?_)
  refine q0 I_220_976 (wi_ialoadS H.1 ?_)
  replace H := H.2
  refine q0 I_220_977 (wi_virtI (e := 2) [.int (xs (x3 + 1).toNatClampNeg)] [.int r1] S_176 rfl (by decide) rfl rfl rfl (okC_i rfl rfl rfl) C_145 (by decide) (ClI_mono H ?_))
  intro r2 di2 dl2 H
  refine q0 I_220_980 (wi_ic_eq (fun h => ?_) (fun h => ?_))
  · replace H := H.1 h
    exact Wq_c I_220_1214 rfl rfl H
  · replace H := H.2 h
    refine q1 (ls' := []) I_220_983 rfl (wi_iconst 0 rfl ?_)
    exact q0 I_220_984 (wi_zret T_220 (Or.inr rfl) (Or.inl rfl) ⟨_, rfl, H⟩)
theorem r_220_985 {L : Nat} {xs : Nat → Int32} {x3 : Int32} {di : tDi} {dl : tDl} {K : Int32 → tDi → tDl → Prop} (H : (inB (x3 + 1) L = true ∧ (inB (x3 + 2) L = true ∧ (inB (x3 + 3) L = true ∧ (inB (x3 + 4) L = true ∧ (ClI 2 117 [.ref 0, .int (xs (x3 + 1).toNatClampNeg), .int (xs (x3 + 2).toNatClampNeg), .int (xs (x3 + 3).toNatClampNeg), .int (xs (x3 + 4).toNatClampNeg)] di dl (fun r1 di1 dl1 => (inB (x3 + 1) L = true ∧ (inB (x3 + 2) L = true ∧ (inB (x3 + 3) L = true ∧ (inB (x3 + 4) L = true ∧ (ClI 2 148 [.ref 176, .int (xs (x3 + 1).toNatClampNeg), .int (xs (x3 + 2).toNatClampNeg), .int (xs (x3 + 3).toNatClampNeg), .int (xs (x3 + 4).toNatClampNeg)] di1 dl1 (fun r2 di2 dl2 => ((r1 = r2 → (Wq (some (L, xs)) 100 220 1214 [(0, .ref SCR), (1, .ref 0), (2, .ref 176), (3, .int x3)] [] di2 dl2 (RI K))) ∧ (¬ r1 = r2 → (K 0 di2 dl2)))))))))))))))) : Wq (some (L, xs)) 100 220 985 [(0, .ref SCR), (1, .ref 0), (2, .ref 176), (3, .int x3)] [] di dl (RI K) := by
  refine q1 (ls' := [(0, .ref SCR), (1, .ref 0), (2, .ref 176), (3, .int x3)]) I_220_985 rfl (wi_aload_n _ rfl ?_)
  refine q0 I_220_986 (wi_aload_n _ rfl ?_)
  refine q0 I_220_987 (wi_iload_n _ rfl ?_)
  refine q0 I_220_988 (wi_iconst 1 rfl ?_)
  refine q0 I_220_989 (wi_iadd ?_)
  refine q0 I_220_990 (wi_ialoadS H.1 ?_)
  replace H := H.2
  refine q0 I_220_991 (wi_aload_n _ rfl ?_)
  refine q0 I_220_992 (wi_iload_n _ rfl ?_)
  refine q0 I_220_993 (wi_iconst 2 rfl ?_)
  refine q0 I_220_994 (wi_iadd ?_)
  refine q0 I_220_995 (wi_ialoadS H.1 ?_)
  replace H := H.2
  refine q0 I_220_996 (wi_aload_n _ rfl ?_)
  refine q0 I_220_997 (wi_iload_n _ rfl ?_)
  refine q0 I_220_998 (wi_iconst 3 rfl ?_)
  refine q0 I_220_999 (wi_iadd ?_)
  refine q0 I_220_1000 (wi_ialoadS H.1 ?_)
  replace H := H.2
  refine q0 I_220_1001 (wi_aload_n _ rfl ?_)
  refine q0 I_220_1002 (wi_iload_n _ rfl ?_)
  refine q0 I_220_1003 (wi_iconst 4 rfl ?_)
  refine q0 I_220_1004 (wi_iadd ?_)
  refine q0 I_220_1005 (wi_ialoadS H.1 ?_)
  replace H := H.2
  refine q0 I_220_1006 (wi_virtI (e := 2) [.int (xs (x3 + 1).toNatClampNeg), .int (xs (x3 + 2).toNatClampNeg), .int (xs (x3 + 3).toNatClampNeg), .int (xs (x3 + 4).toNatClampNeg)] [] S_0 rfl (by decide) rfl rfl rfl (okC_i rfl rfl rfl) C_117 (by decide) (ClI_mono H ?_))
  intro r1 di1 dl1 H
  refine q0 I_220_1009 (wi_aload_n _ rfl ?_)
  refine q0 I_220_1010 (wi_aload_n _ rfl ?_)
  refine q0 I_220_1011 (wi_iload_n _ rfl ?_)
  refine q0 I_220_1012 (wi_iconst 1 rfl ?_)
  refine q0 I_220_1013 (wi_iadd ?_)
  refine q0 I_220_1014 (wi_ialoadS H.1 ?_)
  replace H := H.2
  refine q0 I_220_1015 (wi_aload_n _ rfl ?_)
  refine q0 I_220_1016 (wi_iload_n _ rfl ?_)
  refine q0 I_220_1017 (wi_iconst 2 rfl ?_)
  refine q0 I_220_1018 (wi_iadd ?_)
  refine q0 I_220_1019 (wi_ialoadS H.1 ?_)
  replace H := H.2
  refine q0 I_220_1020 (wi_aload_n _ rfl ?_)
  refine q0 I_220_1021 (wi_iload_n _ rfl ?_)
  refine q0 I_220_1022 (wi_iconst 3 rfl ?_)
  refine q0 I_220_1023 (wi_iadd ?_)
  refine q0 I_220_1024 (wi_ialoadS H.1 ?_)
  replace H := H.2
  refine q0 I_220_1025 (wi_aload_n _ rfl ?_)
  refine q0 I_220_1026 (wi_iload_n _ rfl ?_)
  refine q0 I_220_1027 (wi_iconst 4 rfl ?_)
  refine q0 I_220_1028 (wi_iadd ?_)
  refine q0 I_220_1029 (wi_ialoadS H.1 ?_)
  replace H := H.2
  refine q0 I_220_1030 (wi_virtI (e := 2) [.int (xs (x3 + 1).toNatClampNeg), .int (xs (x3 + 2).toNatClampNeg), .int (xs (x3 + 3).toNatClampNeg), .int (xs (x3 + 4).toNatClampNeg)] [.int r1] S_176 rfl (by decide) rfl rfl rfl (okC_i rfl rfl rfl) C_148 (by decide) (ClI_mono H ?_))
  intro r2 di2 dl2 H
  refine q0 I_220_1033 (wi_ic_eq (fun h => ?_) (fun h => ?_))
  · replace H := H.1 h
    exact Wq_c I_220_1214 rfl rfl H
  · replace H := H.2 h
    refine q1 (ls' := []) I_220_1036 rfl (wi_iconst 0 rfl ?_)
    exact q0 I_220_1037 (wi_zret T_220 (Or.inr rfl) (Or.inl rfl) ⟨_, rfl, H⟩)
theorem r_220_1038 {L : Nat} {xs : Nat → Int32} {x3 : Int32} {di : tDi} {dl : tDl} {K : Int32 → tDi → tDl → Prop} (H : (inB (x3 + 1) L = true ∧ (inB (x3 + 2) L = true ∧ (inB (x3 + 3) L = true ∧ (ClI 2 118 [.ref 0, .int (xs (x3 + 1).toNatClampNeg), .int (xs (x3 + 2).toNatClampNeg), .int (xs (x3 + 3).toNatClampNeg)] di dl (fun r1 di1 dl1 => (inB (x3 + 1) L = true ∧ (inB (x3 + 2) L = true ∧ (inB (x3 + 3) L = true ∧ (ClI 2 149 [.ref 176, .int (xs (x3 + 1).toNatClampNeg), .int (xs (x3 + 2).toNatClampNeg), .int (xs (x3 + 3).toNatClampNeg)] di1 dl1 (fun r2 di2 dl2 => ((r1 = r2 → (Wq (some (L, xs)) 100 220 1214 [(0, .ref SCR), (1, .ref 0), (2, .ref 176), (3, .int x3)] [] di2 dl2 (RI K))) ∧ (¬ r1 = r2 → (K 0 di2 dl2)))))))))))))) : Wq (some (L, xs)) 100 220 1038 [(0, .ref SCR), (1, .ref 0), (2, .ref 176), (3, .int x3)] [] di dl (RI K) := by
  refine q1 (ls' := [(0, .ref SCR), (1, .ref 0), (2, .ref 176), (3, .int x3)]) I_220_1038 rfl (wi_aload_n _ rfl ?_)
  refine q0 I_220_1039 (wi_aload_n _ rfl ?_)
  refine q0 I_220_1040 (wi_iload_n _ rfl ?_)
  refine q0 I_220_1041 (wi_iconst 1 rfl ?_)
  refine q0 I_220_1042 (wi_iadd ?_)
  refine q0 I_220_1043 (wi_ialoadS H.1 ?_)
  replace H := H.2
  refine q0 I_220_1044 (wi_aload_n _ rfl ?_)
  refine q0 I_220_1045 (wi_iload_n _ rfl ?_)
  refine q0 I_220_1046 (wi_iconst 2 rfl ?_)
  refine q0 I_220_1047 (wi_iadd ?_)
  refine q0 I_220_1048 (wi_ialoadS H.1 ?_)
  replace H := H.2
  refine q0 I_220_1049 (wi_aload_n _ rfl ?_)
  refine q0 I_220_1050 (wi_iload_n _ rfl ?_)
  refine q0 I_220_1051 (wi_iconst 3 rfl ?_)
  refine q0 I_220_1052 (wi_iadd ?_)
  refine q0 I_220_1053 (wi_ialoadS H.1 ?_)
  replace H := H.2
  refine q0 I_220_1054 (wi_virtI (e := 2) [.int (xs (x3 + 1).toNatClampNeg), .int (xs (x3 + 2).toNatClampNeg), .int (xs (x3 + 3).toNatClampNeg)] [] S_0 rfl (by decide) rfl rfl rfl (okC_i rfl rfl rfl) C_118 (by decide) (ClI_mono H ?_))
  intro r1 di1 dl1 H
  refine q0 I_220_1057 (wi_aload_n _ rfl ?_)
  refine q0 I_220_1058 (wi_aload_n _ rfl ?_)
  refine q0 I_220_1059 (wi_iload_n _ rfl ?_)
  refine q0 I_220_1060 (wi_iconst 1 rfl ?_)
  refine q0 I_220_1061 (wi_iadd ?_)
  refine q0 I_220_1062 (wi_ialoadS H.1 ?_)
  replace H := H.2
  refine q0 I_220_1063 (wi_aload_n _ rfl ?_)
  refine q0 I_220_1064 (wi_iload_n _ rfl ?_)
  refine q0 I_220_1065 (wi_iconst 2 rfl ?_)
  refine q0 I_220_1066 (wi_iadd ?_)
  refine q0 I_220_1067 (wi_ialoadS H.1 ?_)
  replace H := H.2
  refine q0 I_220_1068 (wi_aload_n _ rfl ?_)
  refine q0 I_220_1069 (wi_iload_n _ rfl ?_)
  refine q0 I_220_1070 (wi_iconst 3 rfl ?_)
  refine q0 I_220_1071 (wi_iadd ?_)
  refine q0 I_220_1072 (wi_ialoadS H.1 ?_)
  replace H := H.2
  refine q0 I_220_1073 (wi_virtI (e := 2) [.int (xs (x3 + 1).toNatClampNeg), .int (xs (x3 + 2).toNatClampNeg), .int (xs (x3 + 3).toNatClampNeg)] [.int r1] S_176 rfl (by decide) rfl rfl rfl (okC_i rfl rfl rfl) C_149 (by decide) (ClI_mono H ?_))
  intro r2 di2 dl2 H
  refine q0 I_220_1076 (wi_ic_eq (fun h => ?_) (fun h => ?_))
  · replace H := H.1 h
    exact Wq_c I_220_1214 rfl rfl H
  · replace H := H.2 h
    refine q1 (ls' := []) I_220_1079 rfl (wi_iconst 0 rfl ?_)
    exact q0 I_220_1080 (wi_zret T_220 (Or.inr rfl) (Or.inl rfl) ⟨_, rfl, H⟩)
theorem r_220_1081 {L : Nat} {xs : Nat → Int32} {x3 : Int32} {di : tDi} {dl : tDl} {K : Int32 → tDi → tDl → Prop} (H : (inB (x3 + 1) L = true ∧ (inB (x3 + 2) L = true ∧ (inB (x3 + 3) L = true ∧ (inB (x3 + 4) L = true ∧ (inB (x3 + 5) L = true ∧ (ClI 1 119 [.ref 0, .int (xs (x3 + 1).toNatClampNeg), .int (xs (x3 + 2).toNatClampNeg), .int (xs (x3 + 3).toNatClampNeg), .int (xs (x3 + 4).toNatClampNeg), .int (xs (x3 + 5).toNatClampNeg)] di dl (fun r1 di1 dl1 => (inB (x3 + 1) L = true ∧ (inB (x3 + 2) L = true ∧ (inB (x3 + 3) L = true ∧ (inB (x3 + 4) L = true ∧ (inB (x3 + 5) L = true ∧ (ClI 2 150 [.ref 176, .int (xs (x3 + 1).toNatClampNeg), .int (xs (x3 + 2).toNatClampNeg), .int (xs (x3 + 3).toNatClampNeg), .int (xs (x3 + 4).toNatClampNeg), .int (xs (x3 + 5).toNatClampNeg)] di1 dl1 (fun r2 di2 dl2 => ((r1 = r2 → (Wq (some (L, xs)) 100 220 1214 [(0, .ref SCR), (1, .ref 0), (2, .ref 176), (3, .int x3)] [] di2 dl2 (RI K))) ∧ (¬ r1 = r2 → (K 0 di2 dl2)))))))))))))))))) : Wq (some (L, xs)) 100 220 1081 [(0, .ref SCR), (1, .ref 0), (2, .ref 176), (3, .int x3)] [] di dl (RI K) := by
  refine q1 (ls' := [(0, .ref SCR), (1, .ref 0), (2, .ref 176), (3, .int x3)]) I_220_1081 rfl (wi_aload_n _ rfl ?_)
  refine q0 I_220_1082 (wi_aload_n _ rfl ?_)
  refine q0 I_220_1083 (wi_iload_n _ rfl ?_)
  refine q0 I_220_1084 (wi_iconst 1 rfl ?_)
  refine q0 I_220_1085 (wi_iadd ?_)
  refine q0 I_220_1086 (wi_ialoadS H.1 ?_)
  replace H := H.2
  refine q0 I_220_1087 (wi_aload_n _ rfl ?_)
  refine q0 I_220_1088 (wi_iload_n _ rfl ?_)
  refine q0 I_220_1089 (wi_iconst 2 rfl ?_)
  refine q0 I_220_1090 (wi_iadd ?_)
  refine q0 I_220_1091 (wi_ialoadS H.1 ?_)
  replace H := H.2
  refine q0 I_220_1092 (wi_aload_n _ rfl ?_)
  refine q0 I_220_1093 (wi_iload_n _ rfl ?_)
  refine q0 I_220_1094 (wi_iconst 3 rfl ?_)
  refine q0 I_220_1095 (wi_iadd ?_)
  refine q0 I_220_1096 (wi_ialoadS H.1 ?_)
  replace H := H.2
  refine q0 I_220_1097 (wi_aload_n _ rfl ?_)
  refine q0 I_220_1098 (wi_iload_n _ rfl ?_)
  refine q0 I_220_1099 (wi_iconst 4 rfl ?_)
  refine q0 I_220_1100 (wi_iadd ?_)
  refine q0 I_220_1101 (wi_ialoadS H.1 ?_)
  replace H := H.2
  refine q0 I_220_1102 (wi_aload_n _ rfl ?_)
  refine q0 I_220_1103 (wi_iload_n _ rfl ?_)
  refine q0 I_220_1104 (wi_iconst 5 rfl ?_)
  refine q0 I_220_1105 (wi_iadd ?_)
  refine q0 I_220_1106 (wi_ialoadS H.1 ?_)
  replace H := H.2
  refine q0 I_220_1107 (wi_virtI (e := 1) [.int (xs (x3 + 1).toNatClampNeg), .int (xs (x3 + 2).toNatClampNeg), .int (xs (x3 + 3).toNatClampNeg), .int (xs (x3 + 4).toNatClampNeg), .int (xs (x3 + 5).toNatClampNeg)] [] S_0 rfl (by decide) rfl rfl rfl (okC_i rfl rfl rfl) C_119 (by decide) (ClI_mono H ?_))
  intro r1 di1 dl1 H
  refine q0 I_220_1110 (wi_aload_n _ rfl ?_)
  refine q0 I_220_1111 (wi_aload_n _ rfl ?_)
  refine q0 I_220_1112 (wi_iload_n _ rfl ?_)
  refine q0 I_220_1113 (wi_iconst 1 rfl ?_)
  refine q0 I_220_1114 (wi_iadd ?_)
  refine q0 I_220_1115 (wi_ialoadS H.1 ?_)
  replace H := H.2
  refine q0 I_220_1116 (wi_aload_n _ rfl ?_)
  refine q0 I_220_1117 (wi_iload_n _ rfl ?_)
  refine q0 I_220_1118 (wi_iconst 2 rfl ?_)
  refine q0 I_220_1119 (wi_iadd ?_)
  refine q0 I_220_1120 (wi_ialoadS H.1 ?_)
  replace H := H.2
  refine q0 I_220_1121 (wi_aload_n _ rfl ?_)
  refine q0 I_220_1122 (wi_iload_n _ rfl ?_)
  refine q0 I_220_1123 (wi_iconst 3 rfl ?_)
  refine q0 I_220_1124 (wi_iadd ?_)
  refine q0 I_220_1125 (wi_ialoadS H.1 ?_)
  replace H := H.2
  refine q0 I_220_1126 (wi_aload_n _ rfl ?_)
  refine q0 I_220_1127 (wi_iload_n _ rfl ?_)
  refine q0 I_220_1128 (wi_iconst 4 rfl ?_)
  refine q0 I_220_1129 (wi_iadd ?_)
  refine q0 I_220_1130 (wi_ialoadS H.1 ?_)
  replace H := H.2
  refine q0 I_220_1131 (wi_aload_n _ rfl ?_)
  refine q0 I_220_1132 (wi_iload_n _ rfl ?_)
  refine q0 I_220_1133 (wi_iconst 5 rfl ?_)
  refine q0 I_220_1134 (wi_iadd ?_)
  refine q0 I_220_1135 (wi_ialoadS H.1 ?_)
  replace H := H.2
  refine q0 I_220_1136 (wi_virtI (e := 2) [.int (xs (x3 + 1).toNatClampNeg), .int (xs (x3 + 2).toNatClampNeg), .int (xs (x3 + 3).toNatClampNeg), .int (xs (x3 + 4).toNatClampNeg), .int (xs (x3 + 5).toNatClampNeg)] [.int r1] S_176 rfl (by decide) rfl rfl rfl (okC_i rfl rfl rfl) C_150 (by decide) (ClI_mono H ?_))
  intro r2 di2 dl2 H
  refine q0 I_220_1139 (wi_ic_eq (fun h => ?_) (fun h => ?_))
  · replace H := H.1 h
    exact Wq_c I_220_1214 rfl rfl H
  · replace H := H.2 h
    refine q1 (ls' := []) I_220_1142 rfl (wi_iconst 0 rfl ?_)
    exact q0 I_220_1143 (wi_zret T_220 (Or.inr rfl) (Or.inl rfl) ⟨_, rfl, H⟩)
theorem r_220_1144 {L : Nat} {xs : Nat → Int32} {x3 : Int32} {di : tDi} {dl : tDl} {K : Int32 → tDi → tDl → Prop} (H : (inB (x3 + 1) L = true ∧ (inB (x3 + 2) L = true ∧ (ClI 4 120 [.ref 0, .int (xs (x3 + 1).toNatClampNeg), .int (xs (x3 + 2).toNatClampNeg)] di dl (fun r1 di1 dl1 => (inB (x3 + 1) L = true ∧ (inB (x3 + 2) L = true ∧ (ClI 7 215 [.ref 176, .int (xs (x3 + 1).toNatClampNeg), .int (xs (x3 + 2).toNatClampNeg)] di1 dl1 (fun r2 di2 dl2 => ((r1 = r2 → (Wq (some (L, xs)) 100 220 1214 [(0, .ref SCR), (1, .ref 0), (2, .ref 176), (3, .int x3)] [] di2 dl2 (RI K))) ∧ (¬ r1 = r2 → (K 0 di2 dl2)))))))))))) : Wq (some (L, xs)) 100 220 1144 [(0, .ref SCR), (1, .ref 0), (2, .ref 176), (3, .int x3)] [] di dl (RI K) := by
  refine q1 (ls' := [(0, .ref SCR), (1, .ref 0), (2, .ref 176), (3, .int x3)]) I_220_1144 rfl (wi_aload_n _ rfl ?_)
  refine q0 I_220_1145 (wi_aload_n _ rfl ?_)
  refine q0 I_220_1146 (wi_iload_n _ rfl ?_)
  refine q0 I_220_1147 (wi_iconst 1 rfl ?_)
  refine q0 I_220_1148 (wi_iadd ?_)
  refine q0 I_220_1149 (wi_ialoadS H.1 ?_)
  replace H := H.2
  refine q0 I_220_1150 (wi_aload_n _ rfl ?_)
  refine q0 I_220_1151 (wi_iload_n _ rfl ?_)
  refine q0 I_220_1152 (wi_iconst 2 rfl ?_)
  refine q0 I_220_1153 (wi_iadd ?_)
  refine q0 I_220_1154 (wi_ialoadS H.1 ?_)
  replace H := H.2
  refine q0 I_220_1155 (wi_virtI (e := 4) [.int (xs (x3 + 1).toNatClampNeg), .int (xs (x3 + 2).toNatClampNeg)] [] S_0 rfl (by decide) rfl rfl rfl (okC_i rfl rfl rfl) C_120 (by decide) (ClI_mono H ?_))
  intro r1 di1 dl1 H
  refine q0 I_220_1158 (wi_aload_n _ rfl ?_)
  refine q0 I_220_1159 (wi_aload_n _ rfl ?_)
  refine q0 I_220_1160 (wi_iload_n _ rfl ?_)
  refine q0 I_220_1161 (wi_iconst 1 rfl ?_)
  refine q0 I_220_1162 (wi_iadd ?_)
  refine q0 I_220_1163 (wi_ialoadS H.1 ?_)
  replace H := H.2
  refine q0 I_220_1164 (wi_aload_n _ rfl ?_)
  refine q0 I_220_1165 (wi_iload_n _ rfl ?_)
  refine q0 I_220_1166 (wi_iconst 2 rfl ?_)
  refine q0 I_220_1167 (wi_iadd ?_)
  refine q0 I_220_1168 (wi_ialoadS H.1 ?_)
  replace H := H.2
  refine q0 I_220_1169 (wi_virtI (e := 7) [.int (xs (x3 + 1).toNatClampNeg), .int (xs (x3 + 2).toNatClampNeg)] [.int r1] S_176 rfl (by decide) rfl rfl rfl (okC_i rfl rfl rfl) C_215 (by decide) (ClI_mono H ?_))
  intro r2 di2 dl2 H
  refine q0 I_220_1172 (wi_ic_eq (fun h => ?_) (fun h => ?_))
  · replace H := H.1 h
    exact Wq_c I_220_1214 rfl rfl H
  · replace H := H.2 h
    refine q1 (ls' := []) I_220_1175 rfl (wi_iconst 0 rfl ?_)
    exact q0 I_220_1176 (wi_zret T_220 (Or.inr rfl) (Or.inl rfl) ⟨_, rfl, H⟩)
theorem r_220_1177 {L : Nat} {xs : Nat → Int32} {x3 : Int32} {di : tDi} {dl : tDl} {K : Int32 → tDi → tDl → Prop} (H : (inB (x3 + 1) L = true ∧ (ClI 0 121 [.ref 0, .int (xs (x3 + 1).toNatClampNeg)] di dl (fun r1 di1 dl1 => (inB (x3 + 1) L = true ∧ (ClI 7 216 [.ref 176, .int (xs (x3 + 1).toNatClampNeg)] di1 dl1 (fun r2 di2 dl2 => ((r1 = r2 → (Wq (some (L, xs)) 100 220 1214 [(0, .ref SCR), (1, .ref 0), (2, .ref 176), (3, .int x3)] [] di2 dl2 (RI K))) ∧ (¬ r1 = r2 → (K 0 di2 dl2)))))))))) : Wq (some (L, xs)) 100 220 1177 [(0, .ref SCR), (1, .ref 0), (2, .ref 176), (3, .int x3)] [] di dl (RI K) := by
  refine q1 (ls' := [(0, .ref SCR), (1, .ref 0), (2, .ref 176), (3, .int x3)]) I_220_1177 rfl (wi_aload_n _ rfl ?_)
  refine q0 I_220_1178 (wi_aload_n _ rfl ?_)
  refine q0 I_220_1179 (wi_iload_n _ rfl ?_)
  refine q0 I_220_1180 (wi_iconst 1 rfl ?_)
  refine q0 I_220_1181 (wi_iadd ?_)
  refine q0 I_220_1182 (wi_ialoadS H.1 ?_)
  replace H := H.2
  refine q0 I_220_1183 (wi_virtI (e := 0) [.int (xs (x3 + 1).toNatClampNeg)] [] S_0 rfl (by decide) rfl rfl rfl (okC_i rfl rfl rfl) C_121 (by decide) (ClI_mono H ?_))
  intro r1 di1 dl1 H
  refine q0 I_220_1186 (wi_aload_n _ rfl ?_)
  refine q0 I_220_1187 (wi_aload_n _ rfl ?_)
  refine q0 I_220_1188 (wi_iload_n _ rfl ?_)
  refine q0 I_220_1189 (wi_iconst 1 rfl ?_)
  refine q0 I_220_1190 (wi_iadd ?_)
  refine q0 I_220_1191 (wi_ialoadS H.1 ?_)
  replace H := H.2
  refine q0 I_220_1192 (wi_virtI (e := 7) [.int (xs (x3 + 1).toNatClampNeg)] [.int r1] S_176 rfl (by decide) rfl rfl rfl (okC_i rfl rfl rfl) C_216 (by decide) (ClI_mono H ?_))
  intro r2 di2 dl2 H
  refine q0 I_220_1195 (wi_ic_eq (fun h => ?_) (fun h => ?_))
  · replace H := H.1 h
    exact Wq_c I_220_1214 rfl rfl H
  · replace H := H.2 h
    refine q1 (ls' := []) I_220_1198 rfl (wi_iconst 0 rfl ?_)
    exact q0 I_220_1199 (wi_zret T_220 (Or.inr rfl) (Or.inl rfl) ⟨_, rfl, H⟩)
theorem r_220_1200 {L : Nat} {xs : Nat → Int32} {x3 : Int32} {di : tDi} {dl : tDl} {K : Int32 → tDi → tDl → Prop} (H : (ClJ 15 122 [.ref 0] di dl (fun r1 di1 dl1 => (ClJ 8 218 [.ref 176] di1 dl1 (fun r2 di2 dl2 => (((lg_cmp r1 r2) = 0 → (Wq (some (L, xs)) 100 220 1214 [(0, .ref SCR), (1, .ref 0), (2, .ref 176), (3, .int x3)] [] di2 dl2 (RI K))) ∧ (¬ (lg_cmp r1 r2) = 0 → (K 0 di2 dl2)))))))) : Wq (some (L, xs)) 100 220 1200 [(0, .ref SCR), (1, .ref 0), (2, .ref 176), (3, .int x3)] [] di dl (RI K) := by
  refine q1 (ls' := [(0, .ref SCR), (1, .ref 0), (2, .ref 176), (3, .int x3)]) I_220_1200 rfl (wi_aload_n _ rfl ?_)
  refine q0 I_220_1201 (wi_virtJ (e := 15) [] [] S_0 rfl (by decide) rfl rfl rfl (okC_i rfl rfl rfl) C_122 (by decide) (ClJ_mono H ?_))
  intro r1 di1 dl1 H
  refine q0 I_220_1204 (wi_aload_n _ rfl ?_)
  refine q0 I_220_1205 (wi_virtJ (e := 8) [] [.long r1] S_176 rfl (by decide) rfl rfl rfl (okC_i rfl rfl rfl) C_218 (by decide) (ClJ_mono H ?_))
  intro r2 di2 dl2 H
  refine q0 I_220_1208 (wi_lcmp ?_)
  refine q0 I_220_1209 (wi_if_eq (fun h => ?_) (fun h => ?_))
  · replace H := H.1 h
    exact Wq_c I_220_1214 rfl rfl H
  · replace H := H.2 h
    refine q1 (ls' := []) I_220_1212 rfl (wi_iconst 0 rfl ?_)
    exact q0 I_220_1213 (wi_zret T_220 (Or.inr rfl) (Or.inl rfl) ⟨_, rfl, H⟩)
theorem r_220_1214 {L : Nat} {xs : Nat → Int32} {x3 : Int32} {di : tDi} {dl : tDl} {K : Int32 → tDi → tDl → Prop} (H : (Wq (some (L, xs)) 100 220 18 [(0, .ref SCR), (1, .ref 0), (2, .ref 176), (3, .int (x3 + 6))] [] di dl (RI K))) : Wq (some (L, xs)) 100 220 1214 [(0, .ref SCR), (1, .ref 0), (2, .ref 176), (3, .int x3)] [] di dl (RI K) := by
  refine q1 (ls' := [(0, .ref SCR), (1, .ref 0), (2, .ref 176), (3, .int x3)]) I_220_1214 rfl (wi_iinc 6 [(0, .ref SCR), (1, .ref 0), (2, .ref 176), (3, .int (x3 + 6))] rfl (lt_e X_220 rfl) rfl rfl ?_)
  refine q0 I_220_1217 (wi_goto ?_)
  exact Wq_c I_220_18 rfl rfl H
