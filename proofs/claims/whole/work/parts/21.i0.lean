/-! the instructions, written by program (gen21.py) -/
theorem fnd_app {A B : List (Nat × Instr × tX)} {pc lo : Nat} (h : A.all (fun e => Nat.blt e.1 lo) = true) (hl : lo ≤ pc) : fnd (A ++ B) pc = fnd B pc := by
  induction A with
  | nil => rfl
  | cons a A ih =>
    rw [List.all_cons, Bool.and_eq_true] at h
    show (if a.1 = pc then some a.2 else fnd (A ++ B) pc) = _
    rw [if_neg, ih h.2]
    have : a.1 < lo := Nat.le_of_ble_eq_true h.1
    omega
theorem L_1_0 (pc : Nat) : ins 1 pc = fnd iT1 pc := rfl
theorem I_1_0 : ins 1 0 = some (.aload_n 0, 0, 0, [], none) := (L_1_0 0).trans rfl
theorem I_1_1 : ins 1 1 = some (.aload_n 0, 0, 0, [], none) := (L_1_0 1).trans rfl
theorem I_1_2 : ins 1 2 = some (.getfield 15, 0, 0, [(0, 1)], none) := (L_1_0 2).trans rfl
theorem I_1_5 : ins 1 5 = some (.iload_n 2, 0, 0, [], none) := (L_1_0 5).trans rfl
theorem I_1_6 : ins 1 6 = some (.invokevirtual 23, 1, 0, [(1, 1)], none) := (L_1_0 6).trans rfl
theorem I_1_9 : ins 1 9 = some (.invokevirtual 29, 1, 0, [(0, 2)], none) := (L_1_0 9).trans rfl
theorem I_1_12 : ins 1 12 = some (.aload_n 0, 0, 0, [], none) := (L_1_0 12).trans rfl
theorem I_1_13 : ins 1 13 = some (.getfield 15, 0, 0, [(0, 1)], none) := (L_1_0 13).trans rfl
theorem I_1_16 : ins 1 16 = some (.iload_n 2, 0, 0, [], none) := (L_1_0 16).trans rfl
theorem I_1_17 : ins 1 17 = some (.invokevirtual 33, 1, 0, [(1, 3)], none) := (L_1_0 17).trans rfl
theorem I_1_20 : ins 1 20 = some (.invokestatic 36, 1, 0, [(0, 4)], none) := (L_1_0 20).trans rfl
theorem I_1_23 : ins 1 23 = some (.istore 4, 0, 0, [], none) := (L_1_0 23).trans rfl
theorem I_1_25 : ins 1 25 = some (.iconst 0, 0, 0, [], none) := (L_1_0 25).trans rfl
theorem I_1_26 : ins 1 26 = some (.istore 5, 0, 0, [], none) := (L_1_0 26).trans rfl
theorem I_1_28 : ins 1 28 = some (.iload 5, 0, 0, [], some [0, 1, 3, 4, 5]) := (L_1_0 28).trans rfl
theorem I_1_30 : ins 1 30 = some (.iload_n 3, 0, 0, [], none) := (L_1_0 30).trans rfl
theorem I_1_31 : ins 1 31 = some (.if_icmp .ge 34, 65, 0, [], none) := (L_1_0 31).trans rfl
theorem I_1_34 : ins 1 34 = some (.aload_n 0, 0, 0, [], some [0, 1, 3, 4, 5]) := (L_1_0 34).trans rfl
theorem I_1_35 : ins 1 35 = some (.getfield 19, 1, 0, [(0, 2)], none) := (L_1_0 35).trans rfl
theorem I_1_38 : ins 1 38 = some (.iload 5, 0, 0, [], none) := (L_1_0 38).trans rfl
theorem I_1_40 : ins 1 40 = some (.invokevirtual 41, 1, 0, [(5, 5)], none) := (L_1_0 40).trans rfl
theorem I_1_43 : ins 1 43 = some (.iconst 4, 0, 0, [], none) := (L_1_0 43).trans rfl
theorem I_1_44 : ins 1 44 = some (.if_icmp .ne 15, 59, 0, [], none) := (L_1_0 44).trans rfl
theorem I_1_47 : ins 1 47 = some (.iload 4, 0, 0, [], some [0, 1, 3, 4, 5]) := (L_1_0 47).trans rfl
theorem I_1_49 : ins 1 49 = some (.ifCond .le 10, 59, 0, [], none) := (L_1_0 49).trans rfl
theorem I_1_52 : ins 1 52 = some (.aload_n 0, 0, 0, [], some [0, 1, 3, 4, 5]) := (L_1_0 52).trans rfl
theorem I_1_53 : ins 1 53 = some (.iload_n 1, 0, 0, [], none) := (L_1_0 53).trans rfl
theorem I_1_54 : ins 1 54 = some (.iload 4, 0, 0, [], none) := (L_1_0 54).trans rfl
theorem I_1_56 : ins 1 56 = some (.invokevirtual 46, 2, 0, [(0, 6)], none) := (L_1_0 56).trans rfl
theorem I_1_59 : ins 1 59 = some (.iinc 5 1, 0, 0, [], some [0, 1, 3, 4, 5]) := (L_1_0 59).trans rfl
theorem I_1_62 : ins 1 62 = some (.goto (-34), 28, 0, [], none) := (L_1_0 62).trans rfl
theorem I_1_65 : ins 1 65 = some (.iconst 1, 0, 0, [], some [0]) := (L_1_0 65).trans rfl
theorem I_1_66 : ins 1 66 = some (.istore 5, 0, 0, [], none) := (L_1_0 66).trans rfl
theorem I_1_68 : ins 1 68 = some (.iload 5, 0, 0, [], some [0, 5]) := (L_1_0 68).trans rfl
theorem I_1_70 : ins 1 70 = some (.bipush 9, 0, 0, [], none) := (L_1_0 70).trans rfl
theorem I_1_72 : ins 1 72 = some (.if_icmp .gt 25, 97, 0, [], none) := (L_1_0 72).trans rfl
theorem I_1_75 : ins 1 75 = some (.aload_n 0, 0, 0, [], some [0, 5]) := (L_1_0 75).trans rfl
theorem I_1_76 : ins 1 76 = some (.dup, 0, 0, [], none) := (L_1_0 76).trans rfl
theorem I_1_77 : ins 1 77 = some (.getfield 50, 3, 0, [(0, 3)], none) := (L_1_0 77).trans rfl
theorem I_1_80 : ins 1 80 = some (.aload_n 0, 0, 0, [], none) := (L_1_0 80).trans rfl
theorem I_1_81 : ins 1 81 = some (.getfield 11, 2, 0, [(0, 0)], none) := (L_1_0 81).trans rfl
theorem I_1_84 : ins 1 84 = some (.iload 5, 0, 0, [], none) := (L_1_0 84).trans rfl
theorem I_1_86 : ins 1 86 = some (.laload, 0, 0, [], none) := (L_1_0 86).trans rfl
theorem I_1_87 : ins 1 87 = some (.ladd, 0, 0, [], none) := (L_1_0 87).trans rfl
theorem I_1_88 : ins 1 88 = some (.putfield 50, 3, 0, [(0, 3)], none) := (L_1_0 88).trans rfl
theorem I_1_91 : ins 1 91 = some (.iinc 5 1, 0, 0, [], none) := (L_1_0 91).trans rfl
theorem I_1_94 : ins 1 94 = some (.goto (-26), 68, 0, [], none) := (L_1_0 94).trans rfl
theorem I_1_97 : ins 1 97 = some (.aload_n 0, 0, 0, [], some [0]) := (L_1_0 97).trans rfl
theorem I_1_98 : ins 1 98 = some (.invokevirtual 54, 0, 0, [(0, 7)], none) := (L_1_0 98).trans rfl
theorem I_1_101 : ins 1 101 = some (.return_, 0, 0, [], none) := (L_1_0 101).trans rfl
theorem L_2_0 (pc : Nat) : ins 2 pc = fnd iT2 pc := rfl
theorem I_2_0 : ins 2 0 = some (.iconst 0, 0, 0, [], none) := (L_2_0 0).trans rfl
theorem I_2_1 : ins 2 1 = some (.istore_n 2, 0, 0, [], none) := (L_2_0 1).trans rfl
theorem I_2_2 : ins 2 2 = some (.iload_n 2, 0, 0, [], some [0, 1, 2]) := (L_2_0 2).trans rfl
theorem I_2_3 : ins 2 3 = some (.bipush 9, 0, 0, [], none) := (L_2_0 3).trans rfl
theorem I_2_5 : ins 2 5 = some (.if_icmp .gt 25, 30, 0, [], none) := (L_2_0 5).trans rfl
theorem I_2_8 : ins 2 8 = some (.aload_n 0, 0, 0, [], some [0, 1, 2]) := (L_2_0 8).trans rfl
theorem I_2_9 : ins 2 9 = some (.getfield 11, 2, 0, [(0, 0)], none) := (L_2_0 9).trans rfl
theorem I_2_12 : ins 2 12 = some (.iload_n 2, 0, 0, [], none) := (L_2_0 12).trans rfl
theorem I_2_13 : ins 2 13 = some (.iload_n 2, 0, 0, [], none) := (L_2_0 13).trans rfl
theorem I_2_14 : ins 2 14 = some (.iload_n 1, 0, 0, [], none) := (L_2_0 14).trans rfl
theorem I_2_15 : ins 2 15 = some (.if_icmp .ne 7, 22, 0, [], none) := (L_2_0 15).trans rfl
theorem I_2_18 : ins 2 18 = some (.lconst 1, 0, 0, [], some [0, 1, 2]) := (L_2_0 18).trans rfl
theorem I_2_19 : ins 2 19 = some (.goto 4, 23, 0, [], none) := (L_2_0 19).trans rfl
theorem I_2_22 : ins 2 22 = some (.lconst 0, 0, 0, [], some [0, 1, 2]) := (L_2_0 22).trans rfl
theorem I_2_23 : ins 2 23 = some (.lastore, 0, 0, [], some [0, 1, 2]) := (L_2_0 23).trans rfl
theorem I_2_24 : ins 2 24 = some (.iinc 2 1, 0, 0, [], none) := (L_2_0 24).trans rfl
theorem I_2_27 : ins 2 27 = some (.goto (-25), 2, 0, [], none) := (L_2_0 27).trans rfl
theorem I_2_30 : ins 2 30 = some (.aload_n 0, 0, 0, [], some [0]) := (L_2_0 30).trans rfl
theorem I_2_31 : ins 2 31 = some (.lconst 0, 0, 0, [], none) := (L_2_0 31).trans rfl
theorem I_2_32 : ins 2 32 = some (.putfield 50, 3, 0, [(0, 3)], none) := (L_2_0 32).trans rfl
theorem I_2_35 : ins 2 35 = some (.aload_n 0, 0, 0, [], none) := (L_2_0 35).trans rfl
theorem I_2_36 : ins 2 36 = some (.lconst 1, 0, 0, [], none) := (L_2_0 36).trans rfl
theorem I_2_37 : ins 2 37 = some (.putfield 57, 4, 0, [(0, 4)], none) := (L_2_0 37).trans rfl
theorem I_2_40 : ins 2 40 = some (.return_, 0, 0, [], none) := (L_2_0 40).trans rfl
theorem L_3_0 (pc : Nat) : ins 3 pc = fnd iT3 pc := rfl
theorem I_3_0 : ins 3 0 = some (.aload_n 0, 0, 0, [], none) := (L_3_0 0).trans rfl
theorem I_3_1 : ins 3 1 = some (.getfield 11, 2, 0, [(0, 0)], none) := (L_3_0 1).trans rfl
theorem I_3_4 : ins 3 4 = some (.iconst 0, 0, 0, [], none) := (L_3_0 4).trans rfl
theorem I_3_5 : ins 3 5 = some (.dup2, 0, 0, [], none) := (L_3_0 5).trans rfl
theorem I_3_6 : ins 3 6 = some (.laload, 0, 0, [], none) := (L_3_0 6).trans rfl
theorem I_3_7 : ins 3 7 = some (.ldc2_w 60, 846, 16, [], none) := (L_3_0 7).trans rfl
theorem I_3_10 : ins 3 10 = some (.lmul, 0, 0, [], none) := (L_3_0 10).trans rfl
theorem I_3_11 : ins 3 11 = some (.lastore, 0, 0, [], none) := (L_3_0 11).trans rfl
theorem I_3_12 : ins 3 12 = some (.iconst 1, 0, 0, [], none) := (L_3_0 12).trans rfl
theorem I_3_13 : ins 3 13 = some (.istore_n 3, 0, 0, [], none) := (L_3_0 13).trans rfl
theorem I_3_14 : ins 3 14 = some (.iload_n 3, 0, 0, [], some [0, 1, 2, 3]) := (L_3_0 14).trans rfl
theorem I_3_15 : ins 3 15 = some (.bipush 9, 0, 0, [], none) := (L_3_0 15).trans rfl
theorem I_3_17 : ins 3 17 = some (.if_icmp .gt 55, 72, 0, [], none) := (L_3_0 17).trans rfl
theorem I_3_20 : ins 3 20 = some (.iconst 0, 0, 0, [], some [0, 1, 2, 3]) := (L_3_0 20).trans rfl
theorem I_3_21 : ins 3 21 = some (.iload_n 3, 0, 0, [], none) := (L_3_0 21).trans rfl
theorem I_3_22 : ins 3 22 = some (.iload_n 2, 0, 0, [], none) := (L_3_0 22).trans rfl
theorem I_3_23 : ins 3 23 = some (.isub, 0, 0, [], none) := (L_3_0 23).trans rfl
theorem I_3_24 : ins 3 24 = some (.invokestatic 62, 2, 0, [(0, 8)], none) := (L_3_0 24).trans rfl
theorem I_3_27 : ins 3 27 = some (.istore 4, 0, 0, [], none) := (L_3_0 27).trans rfl
theorem I_3_29 : ins 3 29 = some (.aload_n 0, 0, 0, [], none) := (L_3_0 29).trans rfl
theorem I_3_30 : ins 3 30 = some (.getfield 11, 2, 0, [(0, 0)], none) := (L_3_0 30).trans rfl
theorem I_3_33 : ins 3 33 = some (.iload_n 3, 0, 0, [], none) := (L_3_0 33).trans rfl
theorem I_3_34 : ins 3 34 = some (.laload, 0, 0, [], none) := (L_3_0 34).trans rfl
theorem I_3_35 : ins 3 35 = some (.lstore 5, 0, 0, [], none) := (L_3_0 35).trans rfl
theorem I_3_37 : ins 3 37 = some (.aload_n 0, 0, 0, [], none) := (L_3_0 37).trans rfl
theorem I_3_38 : ins 3 38 = some (.getfield 11, 2, 0, [(0, 0)], none) := (L_3_0 38).trans rfl
theorem I_3_41 : ins 3 41 = some (.iload_n 3, 0, 0, [], none) := (L_3_0 41).trans rfl
theorem I_3_42 : ins 3 42 = some (.lload 5, 0, 0, [], none) := (L_3_0 42).trans rfl
theorem I_3_44 : ins 3 44 = some (.bipush 16, 0, 0, [], none) := (L_3_0 44).trans rfl
theorem I_3_46 : ins 3 46 = some (.iload_n 1, 0, 0, [], none) := (L_3_0 46).trans rfl
theorem I_3_47 : ins 3 47 = some (.isub, 0, 0, [], none) := (L_3_0 47).trans rfl
theorem I_3_48 : ins 3 48 = some (.i2l, 0, 0, [], none) := (L_3_0 48).trans rfl
theorem I_3_49 : ins 3 49 = some (.lmul, 0, 0, [], none) := (L_3_0 49).trans rfl
theorem I_3_50 : ins 3 50 = some (.lastore, 0, 0, [], none) := (L_3_0 50).trans rfl
theorem I_3_51 : ins 3 51 = some (.aload_n 0, 0, 0, [], none) := (L_3_0 51).trans rfl
theorem I_3_52 : ins 3 52 = some (.getfield 11, 2, 0, [(0, 0)], none) := (L_3_0 52).trans rfl
theorem I_3_55 : ins 3 55 = some (.iload 4, 0, 0, [], none) := (L_3_0 55).trans rfl
theorem I_3_57 : ins 3 57 = some (.dup2, 0, 0, [], none) := (L_3_0 57).trans rfl
theorem I_3_58 : ins 3 58 = some (.laload, 0, 0, [], none) := (L_3_0 58).trans rfl
theorem I_3_59 : ins 3 59 = some (.lload 5, 0, 0, [], none) := (L_3_0 59).trans rfl
theorem I_3_61 : ins 3 61 = some (.iload_n 1, 0, 0, [], none) := (L_3_0 61).trans rfl
theorem I_3_62 : ins 3 62 = some (.i2l, 0, 0, [], none) := (L_3_0 62).trans rfl
theorem I_3_63 : ins 3 63 = some (.lmul, 0, 0, [], none) := (L_3_0 63).trans rfl
theorem I_3_64 : ins 3 64 = some (.ladd, 0, 0, [], none) := (L_3_0 64).trans rfl
theorem I_3_65 : ins 3 65 = some (.lastore, 0, 0, [], none) := (L_3_0 65).trans rfl
theorem I_3_66 : ins 3 66 = some (.iinc 3 1, 0, 0, [], none) := (L_3_0 66).trans rfl
theorem I_3_69 : ins 3 69 = some (.goto (-55), 14, 0, [], none) := (L_3_0 69).trans rfl
theorem I_3_72 : ins 3 72 = some (.aload_n 0, 0, 0, [], some [0]) := (L_3_0 72).trans rfl
theorem I_3_73 : ins 3 73 = some (.dup, 0, 0, [], none) := (L_3_0 73).trans rfl
theorem I_3_74 : ins 3 74 = some (.getfield 57, 4, 0, [(0, 4)], none) := (L_3_0 74).trans rfl
theorem I_3_77 : ins 3 77 = some (.ldc2_w 60, 846, 16, [], none) := (L_3_0 77).trans rfl
theorem I_3_80 : ins 3 80 = some (.lmul, 0, 0, [], none) := (L_3_0 80).trans rfl
theorem I_3_81 : ins 3 81 = some (.putfield 57, 4, 0, [(0, 4)], none) := (L_3_0 81).trans rfl
theorem I_3_84 : ins 3 84 = some (.return_, 0, 0, [], none) := (L_3_0 84).trans rfl
theorem L_4_0 (pc : Nat) : ins 4 pc = fnd iT4 pc := rfl
theorem I_4_0 : ins 4 0 = some (.iconst 0, 0, 0, [], none) := (L_4_0 0).trans rfl
theorem I_4_1 : ins 4 1 = some (.istore_n 1, 0, 0, [], none) := (L_4_0 1).trans rfl
theorem I_4_2 : ins 4 2 = some (.iload_n 1, 0, 0, [], some [0, 1]) := (L_4_0 2).trans rfl
theorem I_4_3 : ins 4 3 = some (.bipush 63, 0, 0, [], none) := (L_4_0 3).trans rfl
theorem I_4_5 : ins 4 5 = some (.if_icmp .ge 55, 60, 0, [], none) := (L_4_0 5).trans rfl
theorem I_4_8 : ins 4 8 = some (.aload_n 0, 0, 0, [], some [0, 1]) := (L_4_0 8).trans rfl
theorem I_4_9 : ins 4 9 = some (.getfield 57, 4, 0, [(0, 4)], none) := (L_4_0 9).trans rfl
theorem I_4_12 : ins 4 12 = some (.lconst 1, 0, 0, [], none) := (L_4_0 12).trans rfl
theorem I_4_13 : ins 4 13 = some (.lcmp, 0, 0, [], none) := (L_4_0 13).trans rfl
theorem I_4_14 : ins 4 14 = some (.ifCond .le 46, 60, 0, [], none) := (L_4_0 14).trans rfl
theorem I_4_17 : ins 4 17 = some (.aload_n 0, 0, 0, [], some [0, 1]) := (L_4_0 17).trans rfl
theorem I_4_18 : ins 4 18 = some (.getfield 50, 3, 0, [(0, 3)], none) := (L_4_0 18).trans rfl
theorem I_4_21 : ins 4 21 = some (.ldc2_w 68, 852, 2, [], none) := (L_4_0 21).trans rfl
theorem I_4_24 : ins 4 24 = some (.lrem, 0, 0, [], none) := (L_4_0 24).trans rfl
theorem I_4_25 : ins 4 25 = some (.lconst 0, 0, 0, [], none) := (L_4_0 25).trans rfl
theorem I_4_26 : ins 4 26 = some (.lcmp, 0, 0, [], none) := (L_4_0 26).trans rfl
theorem I_4_27 : ins 4 27 = some (.ifCond .ne 33, 60, 0, [], none) := (L_4_0 27).trans rfl
theorem I_4_30 : ins 4 30 = some (.aload_n 0, 0, 0, [], some [0, 1]) := (L_4_0 30).trans rfl
theorem I_4_31 : ins 4 31 = some (.dup, 0, 0, [], none) := (L_4_0 31).trans rfl
theorem I_4_32 : ins 4 32 = some (.getfield 50, 3, 0, [(0, 3)], none) := (L_4_0 32).trans rfl
theorem I_4_35 : ins 4 35 = some (.ldc2_w 68, 852, 2, [], none) := (L_4_0 35).trans rfl
theorem I_4_38 : ins 4 38 = some (.ldiv, 0, 0, [], none) := (L_4_0 38).trans rfl
theorem I_4_39 : ins 4 39 = some (.putfield 50, 3, 0, [(0, 3)], none) := (L_4_0 39).trans rfl
theorem I_4_42 : ins 4 42 = some (.aload_n 0, 0, 0, [], none) := (L_4_0 42).trans rfl
theorem I_4_43 : ins 4 43 = some (.dup, 0, 0, [], none) := (L_4_0 43).trans rfl
theorem I_4_44 : ins 4 44 = some (.getfield 57, 4, 0, [(0, 4)], none) := (L_4_0 44).trans rfl
theorem I_4_47 : ins 4 47 = some (.ldc2_w 68, 852, 2, [], none) := (L_4_0 47).trans rfl
theorem I_4_50 : ins 4 50 = some (.ldiv, 0, 0, [], none) := (L_4_0 50).trans rfl
theorem I_4_51 : ins 4 51 = some (.putfield 57, 4, 0, [(0, 4)], none) := (L_4_0 51).trans rfl
theorem I_4_54 : ins 4 54 = some (.iinc 1 1, 0, 0, [], none) := (L_4_0 54).trans rfl
theorem I_4_57 : ins 4 57 = some (.goto (-55), 2, 0, [], none) := (L_4_0 57).trans rfl
theorem I_4_60 : ins 4 60 = some (.return_, 0, 0, [], some []) := (L_4_0 60).trans rfl
theorem L_6_0 (pc : Nat) : ins 6 pc = fnd iT6 pc := rfl
theorem I_6_0 : ins 6 0 = some (.aload_n 0, 0, 0, [], none) := (L_6_0 0).trans rfl
theorem I_6_1 : ins 6 1 = some (.iload_n 1, 0, 0, [], none) := (L_6_0 1).trans rfl
theorem I_6_2 : ins 6 2 = some (.invokevirtual 9, 1, 0, [(1, 10)], none) := (L_6_0 2).trans rfl
theorem I_6_5 : ins 6 5 = some (.istore_n 2, 0, 0, [], none) := (L_6_0 5).trans rfl
theorem I_6_6 : ins 6 6 = some (.iload_n 1, 0, 0, [], none) := (L_6_0 6).trans rfl
theorem I_6_7 : ins 6 7 = some (.bipush 6, 0, 0, [], none) := (L_6_0 7).trans rfl
theorem I_6_9 : ins 6 9 = some (.idiv, 0, 0, [], none) := (L_6_0 9).trans rfl
theorem I_6_10 : ins 6 10 = some (.bipush 8, 0, 0, [], none) := (L_6_0 10).trans rfl
theorem I_6_12 : ins 6 12 = some (.if_icmp .lt 5, 17, 0, [], none) := (L_6_0 12).trans rfl
theorem I_6_15 : ins 6 15 = some (.iconst 0, 0, 0, [], some []) := (L_6_0 15).trans rfl
theorem I_6_16 : ins 6 16 = some (.ireturn, 0, 0, [], none) := (L_6_0 16).trans rfl
theorem I_6_17 : ins 6 17 = some (.iload_n 1, 0, 0, [], some [0, 1, 2]) := (L_6_0 17).trans rfl
theorem I_6_18 : ins 6 18 = some (.bipush 6, 0, 0, [], none) := (L_6_0 18).trans rfl
theorem I_6_20 : ins 6 20 = some (.irem, 0, 0, [], none) := (L_6_0 20).trans rfl
theorem I_6_21 : ins 6 21 = some (.tableswitch 97 0 4 #[35, 41, 67, 35, 91], 118, 0, [(0, 56), (1, 62), (2, 88), (3, 56), (4, 112)], none) := (L_6_0 21).trans rfl
theorem I_6_56 : ins 6 56 = some (.iload_n 2, 0, 0, [], some [2]) := (L_6_0 56).trans rfl
theorem I_6_57 : ins 6 57 = some (.iconst 0, 0, 0, [], none) := (L_6_0 57).trans rfl
theorem I_6_58 : ins 6 58 = some (.invokestatic 15, 2, 0, [(0, 11)], none) := (L_6_0 58).trans rfl
theorem I_6_61 : ins 6 61 = some (.ireturn, 0, 0, [], none) := (L_6_0 61).trans rfl
theorem I_6_62 : ins 6 62 = some (.iload_n 2, 0, 0, [], some [0, 1, 2]) := (L_6_0 62).trans rfl
theorem I_6_63 : ins 6 63 = some (.iconst 0, 0, 0, [], none) := (L_6_0 63).trans rfl
theorem I_6_64 : ins 6 64 = some (.invokestatic 15, 2, 0, [(0, 11)], none) := (L_6_0 64).trans rfl
theorem I_6_67 : ins 6 67 = some (.ifCond .eq 19, 86, 0, [], none) := (L_6_0 67).trans rfl
theorem I_6_70 : ins 6 70 = some (.aload_n 0, 0, 0, [], some [0, 1]) := (L_6_0 70).trans rfl
theorem I_6_71 : ins 6 71 = some (.iload_n 1, 0, 0, [], none) := (L_6_0 71).trans rfl
theorem I_6_72 : ins 6 72 = some (.iconst 1, 0, 0, [], none) := (L_6_0 72).trans rfl
theorem I_6_73 : ins 6 73 = some (.isub, 0, 0, [], none) := (L_6_0 73).trans rfl
theorem I_6_74 : ins 6 74 = some (.invokevirtual 9, 1, 0, [(1, 10)], none) := (L_6_0 74).trans rfl
theorem I_6_77 : ins 6 77 = some (.bipush 48, 0, 0, [], none) := (L_6_0 77).trans rfl
theorem I_6_79 : ins 6 79 = some (.if_icmp .eq 7, 86, 0, [], none) := (L_6_0 79).trans rfl
theorem I_6_82 : ins 6 82 = some (.iconst 1, 0, 0, [], some []) := (L_6_0 82).trans rfl
theorem I_6_83 : ins 6 83 = some (.goto 4, 87, 0, [], none) := (L_6_0 83).trans rfl
theorem I_6_86 : ins 6 86 = some (.iconst 0, 0, 0, [], some []) := (L_6_0 86).trans rfl
theorem I_6_87 : ins 6 87 = some (.ireturn, 0, 0, [], some []) := (L_6_0 87).trans rfl
theorem I_6_88 : ins 6 88 = some (.iload_n 2, 0, 0, [], some [2]) := (L_6_0 88).trans rfl
theorem I_6_89 : ins 6 89 = some (.bipush 119, 0, 0, [], none) := (L_6_0 89).trans rfl
theorem I_6_91 : ins 6 91 = some (.if_icmp .eq 15, 106, 0, [], none) := (L_6_0 91).trans rfl
theorem I_6_94 : ins 6 94 = some (.iload_n 2, 0, 0, [], some [2]) := (L_6_0 94).trans rfl
theorem I_6_95 : ins 6 95 = some (.bipush 108, 0, 0, [], none) := (L_6_0 95).trans rfl
theorem I_6_97 : ins 6 97 = some (.if_icmp .eq 9, 106, 0, [], none) := (L_6_0 97).trans rfl
theorem I_6_100 : ins 6 100 = some (.iload_n 2, 0, 0, [], some [2]) := (L_6_0 100).trans rfl
theorem I_6_101 : ins 6 101 = some (.bipush 104, 0, 0, [], none) := (L_6_0 101).trans rfl
theorem I_6_103 : ins 6 103 = some (.if_icmp .ne 7, 110, 0, [], none) := (L_6_0 103).trans rfl
theorem I_6_106 : ins 6 106 = some (.iconst 1, 0, 0, [], some []) := (L_6_0 106).trans rfl
theorem I_6_107 : ins 6 107 = some (.goto 4, 111, 0, [], none) := (L_6_0 107).trans rfl
theorem I_6_110 : ins 6 110 = some (.iconst 0, 0, 0, [], some []) := (L_6_0 110).trans rfl
theorem I_6_111 : ins 6 111 = some (.ireturn, 0, 0, [], some []) := (L_6_0 111).trans rfl
theorem I_6_112 : ins 6 112 = some (.iload_n 2, 0, 0, [], some [2]) := (L_6_0 112).trans rfl
theorem I_6_113 : ins 6 113 = some (.iconst 1, 0, 0, [], none) := (L_6_0 113).trans rfl
theorem I_6_114 : ins 6 114 = some (.invokestatic 15, 2, 0, [(0, 11)], none) := (L_6_0 114).trans rfl
theorem I_6_117 : ins 6 117 = some (.ireturn, 0, 0, [], none) := (L_6_0 117).trans rfl
theorem I_6_118 : ins 6 118 = some (.iload_n 2, 0, 0, [], some [2]) := (L_6_0 118).trans rfl
theorem I_6_119 : ins 6 119 = some (.bipush 59, 0, 0, [], none) := (L_6_0 119).trans rfl
theorem I_6_121 : ins 6 121 = some (.if_icmp .ne 7, 128, 0, [], none) := (L_6_0 121).trans rfl
theorem I_6_124 : ins 6 124 = some (.iconst 1, 0, 0, [], some []) := (L_6_0 124).trans rfl
theorem I_6_125 : ins 6 125 = some (.goto 4, 129, 0, [], none) := (L_6_0 125).trans rfl
theorem I_6_128 : ins 6 128 = some (.iconst 0, 0, 0, [], some []) := (L_6_0 128).trans rfl
theorem I_6_129 : ins 6 129 = some (.ireturn, 0, 0, [], some []) := (L_6_0 129).trans rfl
theorem L_7_0 (pc : Nat) : ins 7 pc = fnd iT7 pc := rfl
theorem I_7_0 : ins 7 0 = some (.aload_n 0, 0, 0, [], none) := (L_7_0 0).trans rfl
theorem I_7_1 : ins 7 1 = some (.getfield 19, 2, 0, [(1, 5)], none) := (L_7_0 1).trans rfl
theorem I_7_4 : ins 7 4 = some (.ifCond .eq 15, 19, 0, [], none) := (L_7_0 4).trans rfl
theorem I_7_7 : ins 7 7 = some (.aload_n 0, 0, 0, [], some [0]) := (L_7_0 7).trans rfl
theorem I_7_8 : ins 7 8 = some (.getfield 19, 2, 0, [(1, 5)], none) := (L_7_0 8).trans rfl
theorem I_7_11 : ins 7 11 = some (.iconst 1, 0, 0, [], none) := (L_7_0 11).trans rfl
theorem I_7_12 : ins 7 12 = some (.iadd, 0, 0, [], none) := (L_7_0 12).trans rfl
theorem I_7_13 : ins 7 13 = some (.bipush 6, 0, 0, [], none) := (L_7_0 13).trans rfl
theorem I_7_15 : ins 7 15 = some (.irem, 0, 0, [], none) := (L_7_0 15).trans rfl
theorem I_7_16 : ins 7 16 = some (.ifCond .ne 7, 23, 0, [], none) := (L_7_0 16).trans rfl
theorem I_7_19 : ins 7 19 = some (.iconst 1, 0, 0, [], some [0]) := (L_7_0 19).trans rfl
theorem I_7_20 : ins 7 20 = some (.goto 4, 24, 0, [], none) := (L_7_0 20).trans rfl
theorem I_7_23 : ins 7 23 = some (.iconst 0, 0, 0, [], some [0]) := (L_7_0 23).trans rfl
theorem I_7_24 : ins 7 24 = some (.istore_n 1, 0, 0, [], some [0]) := (L_7_0 24).trans rfl
theorem I_7_25 : ins 7 25 = some (.iload_n 1, 0, 0, [], none) := (L_7_0 25).trans rfl
theorem I_7_26 : ins 7 26 = some (.ifCond .eq 15, 41, 0, [], none) := (L_7_0 26).trans rfl
theorem I_7_29 : ins 7 29 = some (.aload_n 0, 0, 0, [], some [0]) := (L_7_0 29).trans rfl
theorem I_7_30 : ins 7 30 = some (.getfield 19, 2, 0, [(1, 5)], none) := (L_7_0 30).trans rfl
theorem I_7_33 : ins 7 33 = some (.iconst 1, 0, 0, [], none) := (L_7_0 33).trans rfl
theorem I_7_34 : ins 7 34 = some (.iadd, 0, 0, [], none) := (L_7_0 34).trans rfl
theorem I_7_35 : ins 7 35 = some (.bipush 6, 0, 0, [], none) := (L_7_0 35).trans rfl
theorem I_7_37 : ins 7 37 = some (.idiv, 0, 0, [], none) := (L_7_0 37).trans rfl
theorem I_7_38 : ins 7 38 = some (.goto 4, 42, 0, [], none) := (L_7_0 38).trans rfl
theorem I_7_41 : ins 7 41 = some (.iconst (-1), 0, 0, [], some []) := (L_7_0 41).trans rfl
theorem I_7_42 : ins 7 42 = some (.ireturn, 0, 0, [], some []) := (L_7_0 42).trans rfl
theorem L_8_0 (pc : Nat) : ins 8 pc = fnd iT8 pc := rfl
theorem I_8_0 : ins 8 0 = some (.bipush 10, 0, 0, [], none) := (L_8_0 0).trans rfl
theorem I_8_2 : ins 8 2 = some (.aload_n 0, 0, 0, [], none) := (L_8_0 2).trans rfl
theorem I_8_3 : ins 8 3 = some (.iload_n 1, 0, 0, [], none) := (L_8_0 3).trans rfl
theorem I_8_4 : ins 8 4 = some (.bipush 6, 0, 0, [], none) := (L_8_0 4).trans rfl
theorem I_8_6 : ins 8 6 = some (.imul, 0, 0, [], none) := (L_8_0 6).trans rfl
theorem I_8_7 : ins 8 7 = some (.invokevirtual 23, 1, 0, [(1, 12)], none) := (L_8_0 7).trans rfl
theorem I_8_10 : ins 8 10 = some (.imul, 0, 0, [], none) := (L_8_0 10).trans rfl
theorem I_8_11 : ins 8 11 = some (.aload_n 0, 0, 0, [], none) := (L_8_0 11).trans rfl
theorem I_8_12 : ins 8 12 = some (.iload_n 1, 0, 0, [], none) := (L_8_0 12).trans rfl
theorem I_8_13 : ins 8 13 = some (.bipush 6, 0, 0, [], none) := (L_8_0 13).trans rfl
theorem I_8_15 : ins 8 15 = some (.imul, 0, 0, [], none) := (L_8_0 15).trans rfl
theorem I_8_16 : ins 8 16 = some (.iconst 1, 0, 0, [], none) := (L_8_0 16).trans rfl
theorem I_8_17 : ins 8 17 = some (.iadd, 0, 0, [], none) := (L_8_0 17).trans rfl
theorem I_8_18 : ins 8 18 = some (.invokevirtual 23, 1, 0, [(1, 12)], none) := (L_8_0 18).trans rfl
theorem I_8_21 : ins 8 21 = some (.iadd, 0, 0, [], none) := (L_8_0 21).trans rfl
theorem I_8_22 : ins 8 22 = some (.ireturn, 0, 0, [], none) := (L_8_0 22).trans rfl
theorem L_9_0 (pc : Nat) : ins 9 pc = fnd iT9 pc := rfl
theorem I_9_0 : ins 9 0 = some (.aload_n 0, 0, 0, [], none) := (L_9_0 0).trans rfl
theorem I_9_1 : ins 9 1 = some (.iload_n 1, 0, 0, [], none) := (L_9_0 1).trans rfl
theorem I_9_2 : ins 9 2 = some (.bipush 6, 0, 0, [], none) := (L_9_0 2).trans rfl
theorem I_9_4 : ins 9 4 = some (.imul, 0, 0, [], none) := (L_9_0 4).trans rfl
theorem I_9_5 : ins 9 5 = some (.iconst 2, 0, 0, [], none) := (L_9_0 5).trans rfl
theorem I_9_6 : ins 9 6 = some (.iadd, 0, 0, [], none) := (L_9_0 6).trans rfl
theorem I_9_7 : ins 9 7 = some (.invokevirtual 9, 1, 0, [(1, 10)], none) := (L_9_0 7).trans rfl
theorem I_9_10 : ins 9 10 = some (.lookupswitch 30 #[(108, 28), (119, 26)], 40, 0, [(108, 38), (119, 36)], none) := (L_9_0 10).trans rfl
theorem I_9_36 : ins 9 36 = some (.iconst 0, 0, 0, [], some []) := (L_9_0 36).trans rfl
theorem I_9_37 : ins 9 37 = some (.ireturn, 0, 0, [], none) := (L_9_0 37).trans rfl
theorem I_9_38 : ins 9 38 = some (.iconst 1, 0, 0, [], some []) := (L_9_0 38).trans rfl
theorem I_9_39 : ins 9 39 = some (.ireturn, 0, 0, [], none) := (L_9_0 39).trans rfl
theorem I_9_40 : ins 9 40 = some (.iconst 2, 0, 0, [], some []) := (L_9_0 40).trans rfl
theorem I_9_41 : ins 9 41 = some (.ireturn, 0, 0, [], none) := (L_9_0 41).trans rfl
theorem L_10_0 (pc : Nat) : ins 10 pc = fnd iT10 pc := rfl
theorem I_10_0 : ins 10 0 = some (.aload_n 0, 0, 0, [], none) := (L_10_0 0).trans rfl
theorem I_10_1 : ins 10 1 = some (.iload_n 1, 0, 0, [], none) := (L_10_0 1).trans rfl
theorem I_10_2 : ins 10 2 = some (.bipush 6, 0, 0, [], none) := (L_10_0 2).trans rfl
theorem I_10_4 : ins 10 4 = some (.imul, 0, 0, [], none) := (L_10_0 4).trans rfl
theorem I_10_5 : ins 10 5 = some (.iconst 3, 0, 0, [], none) := (L_10_0 5).trans rfl
theorem I_10_6 : ins 10 6 = some (.iadd, 0, 0, [], none) := (L_10_0 6).trans rfl
theorem I_10_7 : ins 10 7 = some (.invokevirtual 23, 1, 0, [(1, 12)], none) := (L_10_0 7).trans rfl
theorem I_10_10 : ins 10 10 = some (.ireturn, 0, 0, [], none) := (L_10_0 10).trans rfl
theorem L_11_0 (pc : Nat) : ins 11 pc = fnd iT11 pc := rfl
theorem I_11_0 : ins 11 0 = some (.aload_n 0, 0, 0, [], none) := (L_11_0 0).trans rfl
theorem I_11_1 : ins 11 1 = some (.iload_n 1, 0, 0, [], none) := (L_11_0 1).trans rfl
theorem I_11_2 : ins 11 2 = some (.bipush 6, 0, 0, [], none) := (L_11_0 2).trans rfl
theorem I_11_4 : ins 11 4 = some (.imul, 0, 0, [], none) := (L_11_0 4).trans rfl
theorem I_11_5 : ins 11 5 = some (.iconst 4, 0, 0, [], none) := (L_11_0 5).trans rfl
theorem I_11_6 : ins 11 6 = some (.iadd, 0, 0, [], none) := (L_11_0 6).trans rfl
theorem I_11_7 : ins 11 7 = some (.invokevirtual 23, 1, 0, [(1, 12)], none) := (L_11_0 7).trans rfl
theorem I_11_10 : ins 11 10 = some (.ireturn, 0, 0, [], none) := (L_11_0 10).trans rfl
theorem L_13_0 (pc : Nat) : ins 13 pc = fnd iT13 pc := rfl
theorem I_13_0 : ins 13 0 = some (.aload_n 0, 0, 0, [], none) := (L_13_0 0).trans rfl
theorem I_13_1 : ins 13 1 = some (.getfield 13, 2, 0, [(2, 6)], none) := (L_13_0 1).trans rfl
theorem I_13_4 : ins 13 4 = some (.iconst 0, 0, 0, [], none) := (L_13_0 4).trans rfl
theorem I_13_5 : ins 13 5 = some (.aaload, 0, 0, [], none) := (L_13_0 5).trans rfl
theorem I_13_6 : ins 13 6 = some (.iconst 0, 0, 0, [], none) := (L_13_0 6).trans rfl
theorem I_13_7 : ins 13 7 = some (.iaload, 0, 0, [], none) := (L_13_0 7).trans rfl
theorem I_13_8 : ins 13 8 = some (.ireturn, 0, 0, [], none) := (L_13_0 8).trans rfl
theorem L_14_0 (pc : Nat) : ins 14 pc = fnd iT14 pc := rfl
theorem I_14_0 : ins 14 0 = some (.iload_n 1, 0, 0, [], none) := (L_14_0 0).trans rfl
theorem I_14_1 : ins 14 1 = some (.ifCond .lt 18, 19, 0, [], none) := (L_14_0 1).trans rfl
theorem I_14_4 : ins 14 4 = some (.iload_n 1, 0, 0, [], some [0, 1]) := (L_14_0 4).trans rfl
theorem I_14_5 : ins 14 5 = some (.bipush 8, 0, 0, [], none) := (L_14_0 5).trans rfl
theorem I_14_7 : ins 14 7 = some (.if_icmp .ge 12, 19, 0, [], none) := (L_14_0 7).trans rfl
theorem I_14_10 : ins 14 10 = some (.aload_n 0, 0, 0, [], some [0, 1]) := (L_14_0 10).trans rfl
theorem I_14_11 : ins 14 11 = some (.getfield 16, 3, 0, [(2, 7)], none) := (L_14_0 11).trans rfl
theorem I_14_14 : ins 14 14 = some (.iload_n 1, 0, 0, [], none) := (L_14_0 14).trans rfl
theorem I_14_15 : ins 14 15 = some (.iaload, 0, 0, [], none) := (L_14_0 15).trans rfl
theorem I_14_16 : ins 14 16 = some (.goto 4, 20, 0, [], none) := (L_14_0 16).trans rfl
theorem I_14_19 : ins 14 19 = some (.iconst (-1), 0, 0, [], some []) := (L_14_0 19).trans rfl
theorem I_14_20 : ins 14 20 = some (.ireturn, 0, 0, [], some []) := (L_14_0 20).trans rfl
theorem L_15_0 (pc : Nat) : ins 15 pc = fnd iT15 pc := rfl
theorem I_15_0 : ins 15 0 = some (.bipush 7, 0, 0, [], none) := (L_15_0 0).trans rfl
theorem I_15_2 : ins 15 2 = some (.istore_n 2, 0, 0, [], none) := (L_15_0 2).trans rfl
theorem I_15_3 : ins 15 3 = some (.iload_n 2, 0, 0, [], some [0, 1, 2]) := (L_15_0 3).trans rfl
theorem I_15_4 : ins 15 4 = some (.ifCond .lt 23, 27, 0, [], none) := (L_15_0 4).trans rfl
theorem I_15_7 : ins 15 7 = some (.aload_n 0, 0, 0, [], some [0, 1, 2]) := (L_15_0 7).trans rfl
theorem I_15_8 : ins 15 8 = some (.iload_n 2, 0, 0, [], none) := (L_15_0 8).trans rfl
theorem I_15_9 : ins 15 9 = some (.aload_n 0, 0, 0, [], none) := (L_15_0 9).trans rfl
theorem I_15_10 : ins 15 10 = some (.getfield 20, 0, 0, [(2, 8)], none) := (L_15_0 10).trans rfl
theorem I_15_13 : ins 15 13 = some (.iload_n 1, 0, 0, [], none) := (L_15_0 13).trans rfl
theorem I_15_14 : ins 15 14 = some (.iload_n 2, 0, 0, [], none) := (L_15_0 14).trans rfl
theorem I_15_15 : ins 15 15 = some (.invokevirtual 28, 2, 0, [(8, 14)], none) := (L_15_0 15).trans rfl
theorem I_15_18 : ins 15 18 = some (.invokevirtual 34, 2, 0, [(2, 15)], none) := (L_15_0 18).trans rfl
theorem I_15_21 : ins 15 21 = some (.iinc 2 (-1), 0, 0, [], none) := (L_15_0 21).trans rfl
theorem I_15_24 : ins 15 24 = some (.goto (-21), 3, 0, [], none) := (L_15_0 24).trans rfl
theorem I_15_27 : ins 15 27 = some (.iconst 0, 0, 0, [], some [0, 1]) := (L_15_0 27).trans rfl
theorem I_15_28 : ins 15 28 = some (.istore_n 2, 0, 0, [], none) := (L_15_0 28).trans rfl
theorem I_15_29 : ins 15 29 = some (.iconst 0, 0, 0, [], none) := (L_15_0 29).trans rfl
theorem I_15_30 : ins 15 30 = some (.istore_n 3, 0, 0, [], none) := (L_15_0 30).trans rfl
theorem I_15_31 : ins 15 31 = some (.iload_n 3, 0, 0, [], some [0, 1, 2, 3]) := (L_15_0 31).trans rfl
theorem I_15_32 : ins 15 32 = some (.bipush 8, 0, 0, [], none) := (L_15_0 32).trans rfl
theorem I_15_34 : ins 15 34 = some (.if_icmp .ge 55, 89, 0, [], none) := (L_15_0 34).trans rfl
theorem I_15_37 : ins 15 37 = some (.aload_n 0, 0, 0, [], some [0, 1, 2, 3]) := (L_15_0 37).trans rfl
theorem I_15_38 : ins 15 38 = some (.getfield 16, 3, 0, [(2, 7)], none) := (L_15_0 38).trans rfl
theorem I_15_41 : ins 15 41 = some (.iload_n 3, 0, 0, [], none) := (L_15_0 41).trans rfl
theorem I_15_42 : ins 15 42 = some (.aload_n 0, 0, 0, [], none) := (L_15_0 42).trans rfl
theorem I_15_43 : ins 15 43 = some (.iload_n 3, 0, 0, [], none) := (L_15_0 43).trans rfl
theorem I_15_44 : ins 15 44 = some (.aload_n 0, 0, 0, [], none) := (L_15_0 44).trans rfl
theorem I_15_45 : ins 15 45 = some (.getfield 20, 0, 0, [(2, 8)], none) := (L_15_0 45).trans rfl
theorem I_15_48 : ins 15 48 = some (.iload_n 1, 0, 0, [], none) := (L_15_0 48).trans rfl
theorem I_15_49 : ins 15 49 = some (.iload_n 3, 0, 0, [], none) := (L_15_0 49).trans rfl
theorem I_15_50 : ins 15 50 = some (.invokevirtual 28, 2, 0, [(8, 14)], none) := (L_15_0 50).trans rfl
theorem I_15_53 : ins 15 53 = some (.iload_n 2, 0, 0, [], none) := (L_15_0 53).trans rfl
theorem I_15_54 : ins 15 54 = some (.invokevirtual 38, 3, 0, [(2, 16)], none) := (L_15_0 54).trans rfl
theorem I_15_57 : ins 15 57 = some (.iastore, 0, 0, [], none) := (L_15_0 57).trans rfl
theorem I_15_58 : ins 15 58 = some (.iload_n 2, 0, 0, [], none) := (L_15_0 58).trans rfl
theorem I_15_59 : ins 15 59 = some (.aload_n 0, 0, 0, [], none) := (L_15_0 59).trans rfl
theorem I_15_60 : ins 15 60 = some (.getfield 16, 3, 0, [(2, 7)], none) := (L_15_0 60).trans rfl
theorem I_15_63 : ins 15 63 = some (.iload_n 3, 0, 0, [], none) := (L_15_0 63).trans rfl
theorem I_15_64 : ins 15 64 = some (.iaload, 0, 0, [], none) := (L_15_0 64).trans rfl
theorem I_15_65 : ins 15 65 = some (.iconst (-1), 0, 0, [], none) := (L_15_0 65).trans rfl
theorem I_15_66 : ins 15 66 = some (.if_icmp .ne 7, 73, 0, [], none) := (L_15_0 66).trans rfl
theorem I_15_69 : ins 15 69 = some (.iconst 0, 0, 0, [], some [0, 1, 3]) := (L_15_0 69).trans rfl
theorem I_15_70 : ins 15 70 = some (.goto 11, 81, 0, [], none) := (L_15_0 70).trans rfl
theorem I_15_73 : ins 15 73 = some (.iconst 1, 0, 0, [], some [0, 1, 3]) := (L_15_0 73).trans rfl
theorem I_15_74 : ins 15 74 = some (.aload_n 0, 0, 0, [], none) := (L_15_0 74).trans rfl
theorem I_15_75 : ins 15 75 = some (.getfield 16, 3, 0, [(2, 7)], none) := (L_15_0 75).trans rfl
theorem I_15_78 : ins 15 78 = some (.iload_n 3, 0, 0, [], none) := (L_15_0 78).trans rfl
theorem I_15_79 : ins 15 79 = some (.iaload, 0, 0, [], none) := (L_15_0 79).trans rfl
theorem I_15_80 : ins 15 80 = some (.ishl, 0, 0, [], none) := (L_15_0 80).trans rfl
theorem I_15_81 : ins 15 81 = some (.ior, 0, 0, [], some [0, 1, 3]) := (L_15_0 81).trans rfl
theorem I_15_82 : ins 15 82 = some (.istore_n 2, 0, 0, [], none) := (L_15_0 82).trans rfl
theorem I_15_83 : ins 15 83 = some (.iinc 3 1, 0, 0, [], none) := (L_15_0 83).trans rfl
theorem I_15_86 : ins 15 86 = some (.goto (-55), 31, 0, [], none) := (L_15_0 86).trans rfl
theorem I_15_89 : ins 15 89 = some (.return_, 0, 0, [], some []) := (L_15_0 89).trans rfl
theorem L_16_0 (pc : Nat) : ins 16 pc = fnd (iT16_0 ++ (iT16_1)) pc := rfl
theorem L_16_1 (pc : Nat) (h : Nat.ble 68 pc = true) : ins 16 pc = fnd (iT16_1) pc := (L_16_0 pc).trans (fnd_app (lo := 68) rfl (Nat.le_of_ble_eq_true h))
theorem I_16_0 : ins 16 0 = some (.iload_n 1, 0, 0, [], none) := (L_16_0 0).trans rfl
theorem I_16_1 : ins 16 1 = some (.ifCond .lt 9, 10, 0, [], none) := (L_16_0 1).trans rfl
theorem I_16_4 : ins 16 4 = some (.iload_n 1, 0, 0, [], some [0, 1, 2]) := (L_16_0 4).trans rfl
theorem I_16_5 : ins 16 5 = some (.bipush 8, 0, 0, [], none) := (L_16_0 5).trans rfl
theorem I_16_7 : ins 16 7 = some (.if_icmp .lt 4, 11, 0, [], none) := (L_16_0 7).trans rfl
theorem I_16_10 : ins 16 10 = some (.return_, 0, 0, [], some []) := (L_16_0 10).trans rfl
theorem I_16_11 : ins 16 11 = some (.aload_n 0, 0, 0, [], some [0, 1, 2]) := (L_16_0 11).trans rfl
theorem I_16_12 : ins 16 12 = some (.getfield 13, 2, 0, [(2, 6)], none) := (L_16_0 12).trans rfl
theorem I_16_15 : ins 16 15 = some (.iload_n 1, 0, 0, [], none) := (L_16_0 15).trans rfl
theorem I_16_16 : ins 16 16 = some (.aaload, 0, 0, [], none) := (L_16_0 16).trans rfl
theorem I_16_17 : ins 16 17 = some (.astore_n 3, 0, 0, [], none) := (L_16_0 17).trans rfl
theorem I_16_18 : ins 16 18 = some (.aload_n 0, 0, 0, [], none) := (L_16_0 18).trans rfl
theorem I_16_19 : ins 16 19 = some (.getfield 13, 2, 0, [(2, 6)], none) := (L_16_0 19).trans rfl
theorem I_16_22 : ins 16 22 = some (.iload_n 1, 0, 0, [], none) := (L_16_0 22).trans rfl
theorem I_16_23 : ins 16 23 = some (.iconst 1, 0, 0, [], none) := (L_16_0 23).trans rfl
theorem I_16_24 : ins 16 24 = some (.iadd, 0, 0, [], none) := (L_16_0 24).trans rfl
theorem I_16_25 : ins 16 25 = some (.aaload, 0, 0, [], none) := (L_16_0 25).trans rfl
theorem I_16_26 : ins 16 26 = some (.astore 4, 0, 0, [], none) := (L_16_0 26).trans rfl
theorem I_16_28 : ins 16 28 = some (.iconst 0, 0, 0, [], none) := (L_16_0 28).trans rfl
theorem I_16_29 : ins 16 29 = some (.istore 5, 0, 0, [], none) := (L_16_0 29).trans rfl
theorem I_16_31 : ins 16 31 = some (.iload 5, 0, 0, [], some [0, 2, 3, 4, 5]) := (L_16_0 31).trans rfl
theorem I_16_33 : ins 16 33 = some (.iconst 1, 0, 0, [], none) := (L_16_0 33).trans rfl
theorem I_16_34 : ins 16 34 = some (.aload_n 0, 0, 0, [], none) := (L_16_0 34).trans rfl
theorem I_16_35 : ins 16 35 = some (.getfield 24, 1, 0, [(2, 9)], none) := (L_16_0 35).trans rfl
theorem I_16_38 : ins 16 38 = some (.getfield 42, 4, 0, [(1, 10)], none) := (L_16_0 38).trans rfl
theorem I_16_41 : ins 16 41 = some (.ishl, 0, 0, [], none) := (L_16_0 41).trans rfl
theorem I_16_42 : ins 16 42 = some (.if_icmp .ge 95, 137, 0, [], none) := (L_16_0 42).trans rfl
theorem I_16_45 : ins 16 45 = some (.iload 5, 0, 0, [], some [0, 2, 3, 4, 5]) := (L_16_0 45).trans rfl
theorem I_16_47 : ins 16 47 = some (.sipush 256, 0, 0, [], none) := (L_16_0 47).trans rfl
theorem I_16_50 : ins 16 50 = some (.if_icmp .ge 87, 137, 0, [], none) := (L_16_0 50).trans rfl
theorem I_16_53 : ins 16 53 = some (.aload 4, 0, 0, [], some [0, 2, 3, 4, 5]) := (L_16_0 53).trans rfl
theorem I_16_55 : ins 16 55 = some (.iload 5, 0, 0, [], none) := (L_16_0 55).trans rfl
theorem I_16_57 : ins 16 57 = some (.iaload, 0, 0, [], none) := (L_16_0 57).trans rfl
theorem I_16_58 : ins 16 58 = some (.istore 6, 0, 0, [], none) := (L_16_0 58).trans rfl
theorem I_16_60 : ins 16 60 = some (.iload_n 2, 0, 0, [], none) := (L_16_0 60).trans rfl
theorem I_16_61 : ins 16 61 = some (.iload 5, 0, 0, [], none) := (L_16_0 61).trans rfl
theorem I_16_63 : ins 16 63 = some (.iconst (-1), 0, 0, [], none) := (L_16_0 63).trans rfl
theorem I_16_64 : ins 16 64 = some (.ixor, 0, 0, [], none) := (L_16_0 64).trans rfl
theorem I_16_65 : ins 16 65 = some (.iand, 0, 0, [], none) := (L_16_0 65).trans rfl
theorem I_16_66 : ins 16 66 = some (.istore 7, 0, 0, [], none) := (L_16_0 66).trans rfl
theorem I_16_68 : ins 16 68 = some (.iconst 0, 0, 0, [], none) := (L_16_1 68 rfl).trans rfl
theorem I_16_69 : ins 16 69 = some (.istore 8, 0, 0, [], none) := (L_16_1 69 rfl).trans rfl
theorem I_16_71 : ins 16 71 = some (.iload 8, 0, 0, [], some [0, 2, 3, 4, 5, 6, 7, 8]) := (L_16_1 71 rfl).trans rfl
theorem I_16_73 : ins 16 73 = some (.bipush 8, 0, 0, [], none) := (L_16_1 73 rfl).trans rfl
theorem I_16_75 : ins 16 75 = some (.if_icmp .ge 50, 125, 0, [], none) := (L_16_1 75 rfl).trans rfl
theorem I_16_78 : ins 16 78 = some (.iload 7, 0, 0, [], some [0, 2, 3, 4, 5, 6, 7, 8]) := (L_16_1 78 rfl).trans rfl
theorem I_16_80 : ins 16 80 = some (.iload 8, 0, 0, [], none) := (L_16_1 80 rfl).trans rfl
theorem I_16_82 : ins 16 82 = some (.ishr, 0, 0, [], none) := (L_16_1 82 rfl).trans rfl
theorem I_16_83 : ins 16 83 = some (.ifCond .eq 42, 125, 0, [], none) := (L_16_1 83 rfl).trans rfl
theorem I_16_86 : ins 16 86 = some (.iload 7, 0, 0, [], some [0, 2, 3, 4, 5, 6, 7, 8]) := (L_16_1 86 rfl).trans rfl
theorem I_16_88 : ins 16 88 = some (.iload 8, 0, 0, [], none) := (L_16_1 88 rfl).trans rfl
theorem I_16_90 : ins 16 90 = some (.ishr, 0, 0, [], none) := (L_16_1 90 rfl).trans rfl
theorem I_16_91 : ins 16 91 = some (.iconst 1, 0, 0, [], none) := (L_16_1 91 rfl).trans rfl
theorem I_16_92 : ins 16 92 = some (.iand, 0, 0, [], none) := (L_16_1 92 rfl).trans rfl
theorem I_16_93 : ins 16 93 = some (.ifCond .eq 26, 119, 0, [], none) := (L_16_1 93 rfl).trans rfl
theorem I_16_96 : ins 16 96 = some (.iload 6, 0, 0, [], some [0, 2, 3, 4, 5, 6, 7, 8]) := (L_16_1 96 rfl).trans rfl
theorem I_16_98 : ins 16 98 = some (.iconst 1, 0, 0, [], none) := (L_16_1 98 rfl).trans rfl
theorem I_16_99 : ins 16 99 = some (.aload 4, 0, 0, [], none) := (L_16_1 99 rfl).trans rfl
theorem I_16_101 : ins 16 101 = some (.iload 5, 0, 0, [], none) := (L_16_1 101 rfl).trans rfl
theorem I_16_103 : ins 16 103 = some (.iconst 1, 0, 0, [], none) := (L_16_1 103 rfl).trans rfl
theorem I_16_104 : ins 16 104 = some (.iload 8, 0, 0, [], none) := (L_16_1 104 rfl).trans rfl
theorem I_16_106 : ins 16 106 = some (.ishl, 0, 0, [], none) := (L_16_1 106 rfl).trans rfl
theorem I_16_107 : ins 16 107 = some (.ior, 0, 0, [], none) := (L_16_1 107 rfl).trans rfl
theorem I_16_108 : ins 16 108 = some (.sipush 255, 0, 0, [], none) := (L_16_1 108 rfl).trans rfl
theorem I_16_111 : ins 16 111 = some (.iand, 0, 0, [], none) := (L_16_1 111 rfl).trans rfl
theorem I_16_112 : ins 16 112 = some (.iaload, 0, 0, [], none) := (L_16_1 112 rfl).trans rfl
theorem I_16_113 : ins 16 113 = some (.iadd, 0, 0, [], none) := (L_16_1 113 rfl).trans rfl
theorem I_16_114 : ins 16 114 = some (.invokestatic 48, 2, 0, [(0, 17)], none) := (L_16_1 114 rfl).trans rfl
theorem I_16_117 : ins 16 117 = some (.istore 6, 0, 0, [], none) := (L_16_1 117 rfl).trans rfl
theorem I_16_119 : ins 16 119 = some (.iinc 8 1, 0, 0, [], some [0, 2, 3, 4, 5, 6, 7, 8]) := (L_16_1 119 rfl).trans rfl
theorem I_16_122 : ins 16 122 = some (.goto (-51), 71, 0, [], none) := (L_16_1 122 rfl).trans rfl
theorem I_16_125 : ins 16 125 = some (.aload_n 3, 0, 0, [], some [0, 2, 3, 4, 5, 6]) := (L_16_1 125 rfl).trans rfl
theorem I_16_126 : ins 16 126 = some (.iload 5, 0, 0, [], none) := (L_16_1 126 rfl).trans rfl
theorem I_16_128 : ins 16 128 = some (.iload 6, 0, 0, [], none) := (L_16_1 128 rfl).trans rfl
theorem I_16_130 : ins 16 130 = some (.iastore, 0, 0, [], none) := (L_16_1 130 rfl).trans rfl
theorem I_16_131 : ins 16 131 = some (.iinc 5 1, 0, 0, [], none) := (L_16_1 131 rfl).trans rfl
theorem I_16_134 : ins 16 134 = some (.goto (-103), 31, 0, [], none) := (L_16_1 134 rfl).trans rfl
theorem I_16_137 : ins 16 137 = some (.return_, 0, 0, [], some []) := (L_16_1 137 rfl).trans rfl
theorem L_17_0 (pc : Nat) : ins 17 pc = fnd iT17 pc := rfl
theorem I_17_0 : ins 17 0 = some (.iload_n 1, 0, 0, [], none) := (L_17_0 0).trans rfl
theorem I_17_1 : ins 17 1 = some (.ifCond .lt 20, 21, 0, [], none) := (L_17_0 1).trans rfl
theorem I_17_4 : ins 17 4 = some (.iload_n 1, 0, 0, [], some [0, 1, 2, 3]) := (L_17_0 4).trans rfl
theorem I_17_5 : ins 17 5 = some (.bipush 8, 0, 0, [], none) := (L_17_0 5).trans rfl
theorem I_17_7 : ins 17 7 = some (.if_icmp .ge 14, 21, 0, [], none) := (L_17_0 7).trans rfl
theorem I_17_10 : ins 17 10 = some (.iload_n 3, 0, 0, [], some [0, 1, 2, 3]) := (L_17_0 10).trans rfl
theorem I_17_11 : ins 17 11 = some (.ifCond .lt 10, 21, 0, [], none) := (L_17_0 11).trans rfl
theorem I_17_14 : ins 17 14 = some (.iload_n 3, 0, 0, [], some [0, 1, 2, 3]) := (L_17_0 14).trans rfl
theorem I_17_15 : ins 17 15 = some (.sipush 256, 0, 0, [], none) := (L_17_0 15).trans rfl
theorem I_17_18 : ins 17 18 = some (.if_icmp .lt 5, 23, 0, [], none) := (L_17_0 18).trans rfl
theorem I_17_21 : ins 17 21 = some (.iconst (-1), 0, 0, [], some []) := (L_17_0 21).trans rfl
theorem I_17_22 : ins 17 22 = some (.ireturn, 0, 0, [], none) := (L_17_0 22).trans rfl
theorem I_17_23 : ins 17 23 = some (.aload_n 0, 0, 0, [], some [0, 1, 2, 3]) := (L_17_0 23).trans rfl
theorem I_17_24 : ins 17 24 = some (.getfield 13, 2, 0, [(2, 6)], none) := (L_17_0 24).trans rfl
theorem I_17_27 : ins 17 27 = some (.iload_n 1, 0, 0, [], none) := (L_17_0 27).trans rfl
theorem I_17_28 : ins 17 28 = some (.aaload, 0, 0, [], none) := (L_17_0 28).trans rfl
theorem I_17_29 : ins 17 29 = some (.iload_n 3, 0, 0, [], none) := (L_17_0 29).trans rfl
theorem I_17_30 : ins 17 30 = some (.iaload, 0, 0, [], none) := (L_17_0 30).trans rfl
theorem I_17_31 : ins 17 31 = some (.istore 4, 0, 0, [], none) := (L_17_0 31).trans rfl
theorem I_17_33 : ins 17 33 = some (.iload_n 2, 0, 0, [], none) := (L_17_0 33).trans rfl
theorem I_17_34 : ins 17 34 = some (.iload_n 3, 0, 0, [], none) := (L_17_0 34).trans rfl
theorem I_17_35 : ins 17 35 = some (.iconst (-1), 0, 0, [], none) := (L_17_0 35).trans rfl
theorem I_17_36 : ins 17 36 = some (.ixor, 0, 0, [], none) := (L_17_0 36).trans rfl
theorem I_17_37 : ins 17 37 = some (.iand, 0, 0, [], none) := (L_17_0 37).trans rfl
theorem I_17_38 : ins 17 38 = some (.istore 5, 0, 0, [], none) := (L_17_0 38).trans rfl
theorem I_17_40 : ins 17 40 = some (.iconst 0, 0, 0, [], none) := (L_17_0 40).trans rfl
theorem I_17_41 : ins 17 41 = some (.istore 6, 0, 0, [], none) := (L_17_0 41).trans rfl
theorem I_17_43 : ins 17 43 = some (.iload 6, 0, 0, [], some [0, 1, 3, 4, 5, 6]) := (L_17_0 43).trans rfl
theorem I_17_45 : ins 17 45 = some (.bipush 8, 0, 0, [], none) := (L_17_0 45).trans rfl
theorem I_17_47 : ins 17 47 = some (.if_icmp .ge 48, 95, 0, [], none) := (L_17_0 47).trans rfl
theorem I_17_50 : ins 17 50 = some (.iload 5, 0, 0, [], some [0, 1, 3, 4, 5, 6]) := (L_17_0 50).trans rfl
theorem I_17_52 : ins 17 52 = some (.iload 6, 0, 0, [], none) := (L_17_0 52).trans rfl
theorem I_17_54 : ins 17 54 = some (.ishr, 0, 0, [], none) := (L_17_0 54).trans rfl
theorem I_17_55 : ins 17 55 = some (.iconst 1, 0, 0, [], none) := (L_17_0 55).trans rfl
theorem I_17_56 : ins 17 56 = some (.iand, 0, 0, [], none) := (L_17_0 56).trans rfl
theorem I_17_57 : ins 17 57 = some (.ifCond .eq 32, 89, 0, [], none) := (L_17_0 57).trans rfl
theorem I_17_60 : ins 17 60 = some (.iconst 1, 0, 0, [], some [0, 1, 3, 4, 5, 6]) := (L_17_0 60).trans rfl
theorem I_17_61 : ins 17 61 = some (.aload_n 0, 0, 0, [], none) := (L_17_0 61).trans rfl
theorem I_17_62 : ins 17 62 = some (.getfield 13, 2, 0, [(2, 6)], none) := (L_17_0 62).trans rfl
theorem I_17_65 : ins 17 65 = some (.iload_n 1, 0, 0, [], none) := (L_17_0 65).trans rfl
theorem I_17_66 : ins 17 66 = some (.iconst 1, 0, 0, [], none) := (L_17_0 66).trans rfl
theorem I_17_67 : ins 17 67 = some (.iadd, 0, 0, [], none) := (L_17_0 67).trans rfl
theorem I_17_68 : ins 17 68 = some (.aaload, 0, 0, [], none) := (L_17_0 68).trans rfl
theorem I_17_69 : ins 17 69 = some (.iload_n 3, 0, 0, [], none) := (L_17_0 69).trans rfl
theorem I_17_70 : ins 17 70 = some (.iconst 1, 0, 0, [], none) := (L_17_0 70).trans rfl
theorem I_17_71 : ins 17 71 = some (.iload 6, 0, 0, [], none) := (L_17_0 71).trans rfl
theorem I_17_73 : ins 17 73 = some (.ishl, 0, 0, [], none) := (L_17_0 73).trans rfl
theorem I_17_74 : ins 17 74 = some (.ior, 0, 0, [], none) := (L_17_0 74).trans rfl
theorem I_17_75 : ins 17 75 = some (.sipush 255, 0, 0, [], none) := (L_17_0 75).trans rfl
theorem I_17_78 : ins 17 78 = some (.iand, 0, 0, [], none) := (L_17_0 78).trans rfl
theorem I_17_79 : ins 17 79 = some (.iaload, 0, 0, [], none) := (L_17_0 79).trans rfl
theorem I_17_80 : ins 17 80 = some (.iadd, 0, 0, [], none) := (L_17_0 80).trans rfl
theorem I_17_81 : ins 17 81 = some (.iload 4, 0, 0, [], none) := (L_17_0 81).trans rfl
theorem I_17_83 : ins 17 83 = some (.if_icmp .ne 6, 89, 0, [], none) := (L_17_0 83).trans rfl
theorem I_17_86 : ins 17 86 = some (.iload 6, 0, 0, [], some [6]) := (L_17_0 86).trans rfl
theorem I_17_88 : ins 17 88 = some (.ireturn, 0, 0, [], none) := (L_17_0 88).trans rfl
theorem I_17_89 : ins 17 89 = some (.iinc 6 1, 0, 0, [], some [0, 1, 3, 4, 5, 6]) := (L_17_0 89).trans rfl
theorem I_17_92 : ins 17 92 = some (.goto (-49), 43, 0, [], none) := (L_17_0 92).trans rfl
theorem I_17_95 : ins 17 95 = some (.iconst (-1), 0, 0, [], some []) := (L_17_0 95).trans rfl
theorem I_17_96 : ins 17 96 = some (.ireturn, 0, 0, [], none) := (L_17_0 96).trans rfl
theorem L_19_0 (pc : Nat) : ins 19 pc = fnd iT19 pc := rfl
theorem I_19_0 : ins 19 0 = some (.aload_n 0, 0, 0, [], none) := (L_19_0 0).trans rfl
theorem I_19_1 : ins 19 1 = some (.bipush 6, 0, 0, [], none) := (L_19_0 1).trans rfl
theorem I_19_3 : ins 19 3 = some (.aload_n 0, 0, 0, [], none) := (L_19_0 3).trans rfl
theorem I_19_4 : ins 19 4 = some (.getfield 18, 0, 0, [(3, 13)], none) := (L_19_0 4).trans rfl
theorem I_19_7 : ins 19 7 = some (.getfield 22, 4, 0, [(7, 14)], none) := (L_19_0 7).trans rfl
theorem I_19_10 : ins 19 10 = some (.invokestatic 28, 2, 0, [(0, 19)], none) := (L_19_0 10).trans rfl
theorem I_19_13 : ins 19 13 = some (.putfield 34, 3, 0, [(3, 15)], none) := (L_19_0 13).trans rfl
theorem I_19_16 : ins 19 16 = some (.aload_n 0, 0, 0, [], none) := (L_19_0 16).trans rfl
theorem I_19_17 : ins 19 17 = some (.iload_n 1, 0, 0, [], none) := (L_19_0 17).trans rfl
theorem I_19_18 : ins 19 18 = some (.putfield 37, 4, 0, [(3, 16)], none) := (L_19_0 18).trans rfl
theorem I_19_21 : ins 19 21 = some (.aload_n 0, 0, 0, [], none) := (L_19_0 21).trans rfl
theorem I_19_22 : ins 19 22 = some (.iload_n 2, 0, 0, [], none) := (L_19_0 22).trans rfl
theorem I_19_23 : ins 19 23 = some (.putfield 40, 5, 0, [(3, 17)], none) := (L_19_0 23).trans rfl
theorem I_19_26 : ins 19 26 = some (.aload_n 0, 0, 0, [], none) := (L_19_0 26).trans rfl
theorem I_19_27 : ins 19 27 = some (.iconst (-1), 0, 0, [], none) := (L_19_0 27).trans rfl
theorem I_19_28 : ins 19 28 = some (.putfield 43, 6, 0, [(3, 18)], none) := (L_19_0 28).trans rfl
theorem I_19_31 : ins 19 31 = some (.aload_n 0, 0, 0, [], none) := (L_19_0 31).trans rfl
theorem I_19_32 : ins 19 32 = some (.iconst 0, 0, 0, [], none) := (L_19_0 32).trans rfl
theorem I_19_33 : ins 19 33 = some (.iconst 0, 0, 0, [], none) := (L_19_0 33).trans rfl
theorem I_19_34 : ins 19 34 = some (.iconst 0, 0, 0, [], none) := (L_19_0 34).trans rfl
theorem I_19_35 : ins 19 35 = some (.iconst 0, 0, 0, [], none) := (L_19_0 35).trans rfl
theorem I_19_36 : ins 19 36 = some (.iconst 0, 0, 0, [], none) := (L_19_0 36).trans rfl
theorem I_19_37 : ins 19 37 = some (.invokevirtual 46, 5, 0, [(3, 20)], none) := (L_19_0 37).trans rfl
theorem I_19_40 : ins 19 40 = some (.aload_n 0, 0, 0, [], none) := (L_19_0 40).trans rfl
theorem I_19_41 : ins 19 41 = some (.getfield 43, 6, 0, [(3, 18)], none) := (L_19_0 41).trans rfl
theorem I_19_44 : ins 19 44 = some (.ireturn, 0, 0, [], none) := (L_19_0 44).trans rfl
theorem L_20_0 (pc : Nat) : ins 20 pc = fnd iT20 pc := rfl
theorem I_20_0 : ins 20 0 = some (.iload_n 1, 0, 0, [], none) := (L_20_0 0).trans rfl
theorem I_20_1 : ins 20 1 = some (.ifCond .lt 26, 27, 0, [], none) := (L_20_0 1).trans rfl
theorem I_20_4 : ins 20 4 = some (.iload_n 1, 0, 0, [], some [0, 1]) := (L_20_0 4).trans rfl
theorem I_20_5 : ins 20 5 = some (.aload_n 0, 0, 0, [], none) := (L_20_0 5).trans rfl
theorem I_20_6 : ins 20 6 = some (.getfield 34, 3, 0, [(3, 15)], none) := (L_20_0 6).trans rfl
theorem I_20_9 : ins 20 9 = some (.if_icmp .ge 18, 27, 0, [], none) := (L_20_0 9).trans rfl
theorem I_20_12 : ins 20 12 = some (.iload_n 1, 0, 0, [], some [0, 1]) := (L_20_0 12).trans rfl
theorem I_20_13 : ins 20 13 = some (.bipush 6, 0, 0, [], none) := (L_20_0 13).trans rfl
theorem I_20_15 : ins 20 15 = some (.if_icmp .ge 12, 27, 0, [], none) := (L_20_0 15).trans rfl
theorem I_20_18 : ins 20 18 = some (.aload_n 0, 0, 0, [], some [0, 1]) := (L_20_0 18).trans rfl
theorem I_20_19 : ins 20 19 = some (.getfield 15, 2, 0, [(3, 12)], none) := (L_20_0 19).trans rfl
theorem I_20_22 : ins 20 22 = some (.iload_n 1, 0, 0, [], none) := (L_20_0 22).trans rfl
theorem I_20_23 : ins 20 23 = some (.iaload, 0, 0, [], none) := (L_20_0 23).trans rfl
theorem I_20_24 : ins 20 24 = some (.goto 4, 28, 0, [], none) := (L_20_0 24).trans rfl
theorem I_20_27 : ins 20 27 = some (.iconst (-1), 0, 0, [], some []) := (L_20_0 27).trans rfl
theorem I_20_28 : ins 20 28 = some (.ireturn, 0, 0, [], some []) := (L_20_0 28).trans rfl
theorem L_21_0 (pc : Nat) : ins 21 pc = fnd (iT21_0 ++ (iT21_1 ++ (iT21_2))) pc := rfl
theorem L_21_1 (pc : Nat) (h : Nat.ble 79 pc = true) : ins 21 pc = fnd (iT21_1 ++ (iT21_2)) pc := (L_21_0 pc).trans (fnd_app (lo := 79) rfl (Nat.le_of_ble_eq_true h))
theorem L_21_2 (pc : Nat) (h : Nat.ble 144 pc = true) : ins 21 pc = fnd (iT21_2) pc := (L_21_1 pc (Nat.ble_eq.mpr (Nat.le_trans (Nat.le_of_ble_eq_true (rfl : Nat.ble 79 144 = true)) (Nat.le_of_ble_eq_true h)))).trans (fnd_app (lo := 144) rfl (Nat.le_of_ble_eq_true h))
theorem I_21_0 : ins 21 0 = some (.aload_n 0, 0, 0, [], none) := (L_21_0 0).trans rfl
theorem I_21_1 : ins 21 1 = some (.getfield 43, 6, 0, [(3, 18)], none) := (L_21_0 1).trans rfl
theorem I_21_4 : ins 21 4 = some (.iconst (-1), 0, 0, [], none) := (L_21_0 4).trans rfl
theorem I_21_5 : ins 21 5 = some (.if_icmp .eq 13, 18, 0, [], none) := (L_21_0 5).trans rfl
theorem I_21_8 : ins 21 8 = some (.iload 5, 0, 0, [], some [0, 1, 2, 3, 4, 5]) := (L_21_0 8).trans rfl
theorem I_21_10 : ins 21 10 = some (.aload_n 0, 0, 0, [], none) := (L_21_0 10).trans rfl
theorem I_21_11 : ins 21 11 = some (.getfield 43, 6, 0, [(3, 18)], none) := (L_21_0 11).trans rfl
theorem I_21_14 : ins 21 14 = some (.if_icmp .lt 4, 18, 0, [], none) := (L_21_0 14).trans rfl
theorem I_21_17 : ins 21 17 = some (.return_, 0, 0, [], some []) := (L_21_0 17).trans rfl
theorem I_21_18 : ins 21 18 = some (.iload_n 1, 0, 0, [], some [0, 1, 2, 3, 4, 5]) := (L_21_0 18).trans rfl
theorem I_21_19 : ins 21 19 = some (.ifCond .lt 17, 36, 0, [], none) := (L_21_0 19).trans rfl
theorem I_21_22 : ins 21 22 = some (.iload_n 1, 0, 0, [], some [0, 1, 2, 3, 4, 5]) := (L_21_0 22).trans rfl
theorem I_21_23 : ins 21 23 = some (.aload_n 0, 0, 0, [], none) := (L_21_0 23).trans rfl
theorem I_21_24 : ins 21 24 = some (.getfield 34, 3, 0, [(3, 15)], none) := (L_21_0 24).trans rfl
theorem I_21_27 : ins 21 27 = some (.if_icmp .ge 9, 36, 0, [], none) := (L_21_0 27).trans rfl
theorem I_21_30 : ins 21 30 = some (.iload_n 1, 0, 0, [], some [0, 1, 2, 3, 4, 5]) := (L_21_0 30).trans rfl
theorem I_21_31 : ins 21 31 = some (.bipush 6, 0, 0, [], none) := (L_21_0 31).trans rfl
theorem I_21_33 : ins 21 33 = some (.if_icmp .lt 25, 58, 0, [], none) := (L_21_0 33).trans rfl
theorem I_21_36 : ins 21 36 = some (.aload_n 0, 0, 0, [], some [0, 5]) := (L_21_0 36).trans rfl
theorem I_21_37 : ins 21 37 = some (.iload 5, 0, 0, [], none) := (L_21_0 37).trans rfl
theorem I_21_39 : ins 21 39 = some (.putfield 43, 6, 0, [(3, 18)], none) := (L_21_0 39).trans rfl
theorem I_21_42 : ins 21 42 = some (.aload_n 0, 0, 0, [], none) := (L_21_0 42).trans rfl
theorem I_21_43 : ins 21 43 = some (.getfield 9, 1, 0, [(3, 11)], none) := (L_21_0 43).trans rfl
theorem I_21_46 : ins 21 46 = some (.iconst 0, 0, 0, [], none) := (L_21_0 46).trans rfl
theorem I_21_47 : ins 21 47 = some (.aload_n 0, 0, 0, [], none) := (L_21_0 47).trans rfl
theorem I_21_48 : ins 21 48 = some (.getfield 15, 2, 0, [(3, 12)], none) := (L_21_0 48).trans rfl
theorem I_21_51 : ins 21 51 = some (.iconst 0, 0, 0, [], none) := (L_21_0 51).trans rfl
theorem I_21_52 : ins 21 52 = some (.bipush 6, 0, 0, [], none) := (L_21_0 52).trans rfl
theorem I_21_54 : ins 21 54 = some (.invokestatic 50, 5, 0, [(0, 21)], none) := (L_21_0 54).trans rfl
theorem I_21_57 : ins 21 57 = some (.return_, 0, 0, [], none) := (L_21_0 57).trans rfl
theorem I_21_58 : ins 21 58 = some (.iconst 0, 0, 0, [], some [0, 1, 2, 3, 4, 5]) := (L_21_0 58).trans rfl
theorem I_21_59 : ins 21 59 = some (.istore 6, 0, 0, [], none) := (L_21_0 59).trans rfl
theorem I_21_61 : ins 21 61 = some (.iload 6, 0, 0, [], some [0, 1, 2, 3, 4, 5, 6]) := (L_21_0 61).trans rfl
theorem I_21_63 : ins 21 63 = some (.aload_n 0, 0, 0, [], none) := (L_21_0 63).trans rfl
theorem I_21_64 : ins 21 64 = some (.getfield 34, 3, 0, [(3, 15)], none) := (L_21_0 64).trans rfl
theorem I_21_67 : ins 21 67 = some (.if_icmp .ge 91, 158, 0, [], none) := (L_21_0 67).trans rfl
theorem I_21_70 : ins 21 70 = some (.aload_n 0, 0, 0, [], some [0, 1, 2, 3, 4, 5, 6]) := (L_21_0 70).trans rfl
theorem I_21_71 : ins 21 71 = some (.getfield 18, 0, 0, [(3, 13)], none) := (L_21_0 71).trans rfl
theorem I_21_74 : ins 21 74 = some (.iload 6, 0, 0, [], none) := (L_21_0 74).trans rfl
theorem I_21_76 : ins 21 76 = some (.invokevirtual 56, 1, 0, [(7, 22)], none) := (L_21_0 76).trans rfl
theorem I_21_79 : ins 21 79 = some (.istore 7, 0, 0, [], none) := (L_21_1 79 rfl).trans rfl
theorem I_21_81 : ins 21 81 = some (.iload 4, 0, 0, [], none) := (L_21_1 81 rfl).trans rfl
theorem I_21_83 : ins 21 83 = some (.iload 7, 0, 0, [], none) := (L_21_1 83 rfl).trans rfl
theorem I_21_85 : ins 21 85 = some (.iload_n 3, 0, 0, [], none) := (L_21_1 85 rfl).trans rfl
theorem I_21_86 : ins 21 86 = some (.isub, 0, 0, [], none) := (L_21_1 86 rfl).trans rfl
theorem I_21_87 : ins 21 87 = some (.invokestatic 60, 1, 0, [(0, 23)], none) := (L_21_1 87 rfl).trans rfl
theorem I_21_90 : ins 21 90 = some (.iadd, 0, 0, [], none) := (L_21_1 90 rfl).trans rfl
theorem I_21_91 : ins 21 91 = some (.iconst 1, 0, 0, [], none) := (L_21_1 91 rfl).trans rfl
theorem I_21_92 : ins 21 92 = some (.iadd, 0, 0, [], none) := (L_21_1 92 rfl).trans rfl
theorem I_21_93 : ins 21 93 = some (.istore 8, 0, 0, [], none) := (L_21_1 93 rfl).trans rfl
theorem I_21_95 : ins 21 95 = some (.iload_n 2, 0, 0, [], none) := (L_21_1 95 rfl).trans rfl
theorem I_21_96 : ins 21 96 = some (.iload 6, 0, 0, [], none) := (L_21_1 96 rfl).trans rfl
theorem I_21_98 : ins 21 98 = some (.ishr, 0, 0, [], none) := (L_21_1 98 rfl).trans rfl
theorem I_21_99 : ins 21 99 = some (.iconst 1, 0, 0, [], none) := (L_21_1 99 rfl).trans rfl
theorem I_21_100 : ins 21 100 = some (.iand, 0, 0, [], none) := (L_21_1 100 rfl).trans rfl
theorem I_21_101 : ins 21 101 = some (.ifCond .ne 51, 152, 0, [], none) := (L_21_1 101 rfl).trans rfl
theorem I_21_104 : ins 21 104 = some (.iload 6, 0, 0, [], some [0, 1, 2, 3, 4, 5, 6, 7, 8]) := (L_21_1 104 rfl).trans rfl
theorem I_21_106 : ins 21 106 = some (.aload_n 0, 0, 0, [], none) := (L_21_1 106 rfl).trans rfl
theorem I_21_107 : ins 21 107 = some (.getfield 37, 4, 0, [(3, 16)], none) := (L_21_1 107 rfl).trans rfl
theorem I_21_110 : ins 21 110 = some (.if_icmp .ne 12, 122, 0, [], none) := (L_21_1 110 rfl).trans rfl
theorem I_21_113 : ins 21 113 = some (.iload 8, 0, 0, [], some [0, 1, 2, 3, 4, 5, 6, 7, 8]) := (L_21_1 113 rfl).trans rfl
theorem I_21_115 : ins 21 115 = some (.aload_n 0, 0, 0, [], none) := (L_21_1 115 rfl).trans rfl
theorem I_21_116 : ins 21 116 = some (.getfield 40, 5, 0, [(3, 17)], none) := (L_21_1 116 rfl).trans rfl
theorem I_21_119 : ins 21 119 = some (.if_icmp .gt 33, 152, 0, [], none) := (L_21_1 119 rfl).trans rfl
theorem I_21_122 : ins 21 122 = some (.aload_n 0, 0, 0, [], some [0, 1, 2, 3, 4, 5, 6, 7, 8]) := (L_21_1 122 rfl).trans rfl
theorem I_21_123 : ins 21 123 = some (.getfield 9, 1, 0, [(3, 11)], none) := (L_21_1 123 rfl).trans rfl
theorem I_21_126 : ins 21 126 = some (.iload_n 1, 0, 0, [], none) := (L_21_1 126 rfl).trans rfl
theorem I_21_127 : ins 21 127 = some (.iload 6, 0, 0, [], none) := (L_21_1 127 rfl).trans rfl
theorem I_21_129 : ins 21 129 = some (.iastore, 0, 0, [], none) := (L_21_1 129 rfl).trans rfl
theorem I_21_130 : ins 21 130 = some (.aload_n 0, 0, 0, [], none) := (L_21_1 130 rfl).trans rfl
theorem I_21_131 : ins 21 131 = some (.iload_n 1, 0, 0, [], none) := (L_21_1 131 rfl).trans rfl
theorem I_21_132 : ins 21 132 = some (.iconst 1, 0, 0, [], none) := (L_21_1 132 rfl).trans rfl
theorem I_21_133 : ins 21 133 = some (.iadd, 0, 0, [], none) := (L_21_1 133 rfl).trans rfl
theorem I_21_134 : ins 21 134 = some (.iload_n 2, 0, 0, [], none) := (L_21_1 134 rfl).trans rfl
theorem I_21_135 : ins 21 135 = some (.iconst 1, 0, 0, [], none) := (L_21_1 135 rfl).trans rfl
theorem I_21_136 : ins 21 136 = some (.iload 6, 0, 0, [], none) := (L_21_1 136 rfl).trans rfl
theorem I_21_138 : ins 21 138 = some (.ishl, 0, 0, [], none) := (L_21_1 138 rfl).trans rfl
theorem I_21_139 : ins 21 139 = some (.ior, 0, 0, [], none) := (L_21_1 139 rfl).trans rfl
theorem I_21_140 : ins 21 140 = some (.iload 7, 0, 0, [], none) := (L_21_1 140 rfl).trans rfl
theorem I_21_142 : ins 21 142 = some (.iload 8, 0, 0, [], none) := (L_21_1 142 rfl).trans rfl
theorem I_21_144 : ins 21 144 = some (.iload 5, 0, 0, [], none) := (L_21_2 144 rfl).trans rfl
theorem I_21_146 : ins 21 146 = some (.iload 8, 0, 0, [], none) := (L_21_2 146 rfl).trans rfl
theorem I_21_148 : ins 21 148 = some (.iadd, 0, 0, [], none) := (L_21_2 148 rfl).trans rfl
theorem I_21_149 : ins 21 149 = some (.invokevirtual 46, 5, 0, [(3, 20)], none) := (L_21_2 149 rfl).trans rfl
theorem I_21_152 : ins 21 152 = some (.iinc 6 1, 0, 0, [], some [0, 1, 2, 3, 4, 5, 6]) := (L_21_2 152 rfl).trans rfl
theorem I_21_155 : ins 21 155 = some (.goto (-94), 61, 0, [], none) := (L_21_2 155 rfl).trans rfl
theorem I_21_158 : ins 21 158 = some (.return_, 0, 0, [], some []) := (L_21_2 158 rfl).trans rfl
theorem L_23_0 (pc : Nat) : ins 23 pc = fnd iT23 pc := rfl
theorem I_23_0 : ins 23 0 = some (.iload_n 1, 0, 0, [], none) := (L_23_0 0).trans rfl
theorem I_23_1 : ins 23 1 = some (.ifCond .lt 13, 14, 0, [], none) := (L_23_0 1).trans rfl
theorem I_23_4 : ins 23 4 = some (.iload_n 1, 0, 0, [], some [1, 2, 3]) := (L_23_0 4).trans rfl
theorem I_23_5 : ins 23 5 = some (.bipush 24, 0, 0, [], none) := (L_23_0 5).trans rfl
theorem I_23_7 : ins 23 7 = some (.if_icmp .gt 7, 14, 0, [], none) := (L_23_0 7).trans rfl
theorem I_23_10 : ins 23 10 = some (.iconst 1, 0, 0, [], some [2, 3]) := (L_23_0 10).trans rfl
theorem I_23_11 : ins 23 11 = some (.goto 4, 15, 0, [], none) := (L_23_0 11).trans rfl
theorem I_23_14 : ins 23 14 = some (.iconst 0, 0, 0, [], some [2, 3]) := (L_23_0 14).trans rfl
theorem I_23_15 : ins 23 15 = some (.istore 4, 0, 0, [], some [2, 3]) := (L_23_0 15).trans rfl
theorem I_23_17 : ins 23 17 = some (.iload 4, 0, 0, [], none) := (L_23_0 17).trans rfl
theorem I_23_19 : ins 23 19 = some (.ifCond .eq 28, 47, 0, [], none) := (L_23_0 19).trans rfl
theorem I_23_22 : ins 23 22 = some (.iload_n 2, 0, 0, [], some [2, 3]) := (L_23_0 22).trans rfl
theorem I_23_23 : ins 23 23 = some (.ifCond .lt 24, 47, 0, [], none) := (L_23_0 23).trans rfl
theorem I_23_26 : ins 23 26 = some (.iload_n 2, 0, 0, [], some [2, 3]) := (L_23_0 26).trans rfl
theorem I_23_27 : ins 23 27 = some (.bipush 8, 0, 0, [], none) := (L_23_0 27).trans rfl
theorem I_23_29 : ins 23 29 = some (.if_icmp .ge 18, 47, 0, [], none) := (L_23_0 29).trans rfl
theorem I_23_32 : ins 23 32 = some (.iload_n 3, 0, 0, [], some [3]) := (L_23_0 32).trans rfl
theorem I_23_33 : ins 23 33 = some (.iconst (-1), 0, 0, [], none) := (L_23_0 33).trans rfl
theorem I_23_34 : ins 23 34 = some (.if_icmp .lt 13, 47, 0, [], none) := (L_23_0 34).trans rfl
theorem I_23_37 : ins 23 37 = some (.iload_n 3, 0, 0, [], some [3]) := (L_23_0 37).trans rfl
theorem I_23_38 : ins 23 38 = some (.bipush 8, 0, 0, [], none) := (L_23_0 38).trans rfl
theorem I_23_40 : ins 23 40 = some (.if_icmp .ge 7, 47, 0, [], none) := (L_23_0 40).trans rfl
theorem I_23_43 : ins 23 43 = some (.iconst 1, 0, 0, [], some []) := (L_23_0 43).trans rfl
theorem I_23_44 : ins 23 44 = some (.goto 4, 48, 0, [], none) := (L_23_0 44).trans rfl
theorem I_23_47 : ins 23 47 = some (.iconst 0, 0, 0, [], some []) := (L_23_0 47).trans rfl
theorem I_23_48 : ins 23 48 = some (.ireturn, 0, 0, [], some []) := (L_23_0 48).trans rfl
theorem L_24_0 (pc : Nat) : ins 24 pc = fnd iT24 pc := rfl
theorem I_24_0 : ins 24 0 = some (.aload_n 0, 0, 0, [], none) := (L_24_0 0).trans rfl
theorem I_24_1 : ins 24 1 = some (.getfield 39, 8, 0, [(4, 27)], none) := (L_24_0 1).trans rfl
theorem I_24_4 : ins 24 4 = some (.bipush 8, 0, 0, [], none) := (L_24_0 4).trans rfl
theorem I_24_6 : ins 24 6 = some (.if_icmp .lt 7, 13, 0, [], none) := (L_24_0 6).trans rfl
theorem I_24_9 : ins 24 9 = some (.iconst 1, 0, 0, [], some []) := (L_24_0 9).trans rfl
theorem I_24_10 : ins 24 10 = some (.goto 4, 14, 0, [], none) := (L_24_0 10).trans rfl
theorem I_24_13 : ins 24 13 = some (.iconst 0, 0, 0, [], some []) := (L_24_0 13).trans rfl
theorem I_24_14 : ins 24 14 = some (.ireturn, 0, 0, [], some []) := (L_24_0 14).trans rfl
theorem L_25_0 (pc : Nat) : ins 25 pc = fnd iT25 pc := rfl
theorem I_25_0 : ins 25 0 = some (.aload_n 0, 0, 0, [], none) := (L_25_0 0).trans rfl
theorem I_25_1 : ins 25 1 = some (.getfield 39, 8, 0, [(4, 27)], none) := (L_25_0 1).trans rfl
theorem I_25_4 : ins 25 4 = some (.ifCond .lt 12, 16, 0, [], none) := (L_25_0 4).trans rfl
theorem I_25_7 : ins 25 7 = some (.aload_n 0, 0, 0, [], some [0, 1, 2, 3]) := (L_25_0 7).trans rfl
theorem I_25_8 : ins 25 8 = some (.getfield 39, 8, 0, [(4, 27)], none) := (L_25_0 8).trans rfl
theorem I_25_11 : ins 25 11 = some (.bipush 8, 0, 0, [], none) := (L_25_0 11).trans rfl
theorem I_25_13 : ins 25 13 = some (.if_icmp .lt 4, 17, 0, [], none) := (L_25_0 13).trans rfl
theorem I_25_16 : ins 25 16 = some (.return_, 0, 0, [], some []) := (L_25_0 16).trans rfl
theorem I_25_17 : ins 25 17 = some (.aload_n 0, 0, 0, [], some [0, 1, 2, 3]) := (L_25_0 17).trans rfl
theorem I_25_18 : ins 25 18 = some (.getfield 11, 3, 0, [(4, 19)], none) := (L_25_0 18).trans rfl
theorem I_25_21 : ins 25 21 = some (.aload_n 0, 0, 0, [], none) := (L_25_0 21).trans rfl
theorem I_25_22 : ins 25 22 = some (.getfield 39, 8, 0, [(4, 27)], none) := (L_25_0 22).trans rfl
theorem I_25_25 : ins 25 25 = some (.iload_n 1, 0, 0, [], none) := (L_25_0 25).trans rfl
theorem I_25_26 : ins 25 26 = some (.iastore, 0, 0, [], none) := (L_25_0 26).trans rfl
theorem I_25_27 : ins 25 27 = some (.aload_n 0, 0, 0, [], none) := (L_25_0 27).trans rfl
theorem I_25_28 : ins 25 28 = some (.getfield 15, 4, 0, [(4, 20)], none) := (L_25_0 28).trans rfl
theorem I_25_31 : ins 25 31 = some (.aload_n 0, 0, 0, [], none) := (L_25_0 31).trans rfl
theorem I_25_32 : ins 25 32 = some (.getfield 39, 8, 0, [(4, 27)], none) := (L_25_0 32).trans rfl
theorem I_25_35 : ins 25 35 = some (.iload_n 2, 0, 0, [], none) := (L_25_0 35).trans rfl
theorem I_25_36 : ins 25 36 = some (.iastore, 0, 0, [], none) := (L_25_0 36).trans rfl
theorem I_25_37 : ins 25 37 = some (.aload_n 0, 0, 0, [], none) := (L_25_0 37).trans rfl
theorem I_25_38 : ins 25 38 = some (.getfield 18, 5, 0, [(4, 21)], none) := (L_25_0 38).trans rfl
theorem I_25_41 : ins 25 41 = some (.aload_n 0, 0, 0, [], none) := (L_25_0 41).trans rfl
theorem I_25_42 : ins 25 42 = some (.getfield 39, 8, 0, [(4, 27)], none) := (L_25_0 42).trans rfl
theorem I_25_45 : ins 25 45 = some (.iload_n 3, 0, 0, [], none) := (L_25_0 45).trans rfl
theorem I_25_46 : ins 25 46 = some (.iastore, 0, 0, [], none) := (L_25_0 46).trans rfl
theorem I_25_47 : ins 25 47 = some (.aload_n 0, 0, 0, [], none) := (L_25_0 47).trans rfl
theorem I_25_48 : ins 25 48 = some (.dup, 0, 0, [], none) := (L_25_0 48).trans rfl
theorem I_25_49 : ins 25 49 = some (.getfield 39, 8, 0, [(4, 27)], none) := (L_25_0 49).trans rfl
theorem I_25_52 : ins 25 52 = some (.iconst 1, 0, 0, [], none) := (L_25_0 52).trans rfl
theorem I_25_53 : ins 25 53 = some (.iadd, 0, 0, [], none) := (L_25_0 53).trans rfl
theorem I_25_54 : ins 25 54 = some (.putfield 39, 8, 0, [(4, 27)], none) := (L_25_0 54).trans rfl
theorem I_25_57 : ins 25 57 = some (.return_, 0, 0, [], none) := (L_25_0 57).trans rfl
theorem L_26_0 (pc : Nat) : ins 26 pc = fnd iT26 pc := rfl
theorem I_26_0 : ins 26 0 = some (.aload_n 0, 0, 0, [], none) := (L_26_0 0).trans rfl
theorem I_26_1 : ins 26 1 = some (.iconst 0, 0, 0, [], none) := (L_26_0 1).trans rfl
theorem I_26_2 : ins 26 2 = some (.putfield 43, 9, 0, [(4, 28)], none) := (L_26_0 2).trans rfl
theorem I_26_5 : ins 26 5 = some (.iconst 0, 0, 0, [], none) := (L_26_0 5).trans rfl
theorem I_26_6 : ins 26 6 = some (.istore_n 1, 0, 0, [], none) := (L_26_0 6).trans rfl
theorem I_26_7 : ins 26 7 = some (.iload_n 1, 0, 0, [], some [0, 1]) := (L_26_0 7).trans rfl
theorem I_26_8 : ins 26 8 = some (.aload_n 0, 0, 0, [], none) := (L_26_0 8).trans rfl
theorem I_26_9 : ins 26 9 = some (.getfield 31, 1, 0, [(4, 25)], none) := (L_26_0 9).trans rfl
theorem I_26_12 : ins 26 12 = some (.getfield 46, 4, 0, [(7, 29)], none) := (L_26_0 12).trans rfl
theorem I_26_15 : ins 26 15 = some (.if_icmp .ge 73, 88, 0, [], none) := (L_26_0 15).trans rfl
theorem I_26_18 : ins 26 18 = some (.iload_n 1, 0, 0, [], some [0, 1]) := (L_26_0 18).trans rfl
theorem I_26_19 : ins 26 19 = some (.iconst 1, 0, 0, [], none) := (L_26_0 19).trans rfl
theorem I_26_20 : ins 26 20 = some (.iadd, 0, 0, [], none) := (L_26_0 20).trans rfl
theorem I_26_21 : ins 26 21 = some (.istore_n 2, 0, 0, [], none) := (L_26_0 21).trans rfl
theorem I_26_22 : ins 26 22 = some (.iload_n 2, 0, 0, [], some [0, 1, 2]) := (L_26_0 22).trans rfl
theorem I_26_23 : ins 26 23 = some (.aload_n 0, 0, 0, [], none) := (L_26_0 23).trans rfl
theorem I_26_24 : ins 26 24 = some (.getfield 31, 1, 0, [(4, 25)], none) := (L_26_0 24).trans rfl
theorem I_26_27 : ins 26 27 = some (.getfield 46, 4, 0, [(7, 29)], none) := (L_26_0 27).trans rfl
theorem I_26_30 : ins 26 30 = some (.if_icmp .ge 52, 82, 0, [], none) := (L_26_0 30).trans rfl
theorem I_26_33 : ins 26 33 = some (.aload_n 0, 0, 0, [], some [0, 1, 2]) := (L_26_0 33).trans rfl
theorem I_26_34 : ins 26 34 = some (.getfield 43, 9, 0, [(4, 28)], none) := (L_26_0 34).trans rfl
theorem I_26_37 : ins 26 37 = some (.bipush 28, 0, 0, [], none) := (L_26_0 37).trans rfl
theorem I_26_39 : ins 26 39 = some (.if_icmp .ge 37, 76, 0, [], none) := (L_26_0 39).trans rfl
theorem I_26_42 : ins 26 42 = some (.aload_n 0, 0, 0, [], some [0, 1, 2]) := (L_26_0 42).trans rfl
theorem I_26_43 : ins 26 43 = some (.iload_n 1, 0, 0, [], none) := (L_26_0 43).trans rfl
theorem I_26_44 : ins 26 44 = some (.iload_n 2, 0, 0, [], none) := (L_26_0 44).trans rfl
theorem I_26_45 : ins 26 45 = some (.invokevirtual 51, 2, 0, [(4, 25)], none) := (L_26_0 45).trans rfl
theorem I_26_48 : ins 26 48 = some (.ifCond .eq 28, 76, 0, [], none) := (L_26_0 48).trans rfl
theorem I_26_51 : ins 26 51 = some (.aload_n 0, 0, 0, [], some [0, 1, 2]) := (L_26_0 51).trans rfl
theorem I_26_52 : ins 26 52 = some (.getfield 21, 6, 0, [(4, 22)], none) := (L_26_0 52).trans rfl
theorem I_26_55 : ins 26 55 = some (.aload_n 0, 0, 0, [], none) := (L_26_0 55).trans rfl
theorem I_26_56 : ins 26 56 = some (.getfield 43, 9, 0, [(4, 28)], none) := (L_26_0 56).trans rfl
theorem I_26_59 : ins 26 59 = some (.bipush 8, 0, 0, [], none) := (L_26_0 59).trans rfl
theorem I_26_61 : ins 26 61 = some (.iload_n 1, 0, 0, [], none) := (L_26_0 61).trans rfl
theorem I_26_62 : ins 26 62 = some (.imul, 0, 0, [], none) := (L_26_0 62).trans rfl
theorem I_26_63 : ins 26 63 = some (.iload_n 2, 0, 0, [], none) := (L_26_0 63).trans rfl
theorem I_26_64 : ins 26 64 = some (.iadd, 0, 0, [], none) := (L_26_0 64).trans rfl
theorem I_26_65 : ins 26 65 = some (.iastore, 0, 0, [], none) := (L_26_0 65).trans rfl
theorem I_26_66 : ins 26 66 = some (.aload_n 0, 0, 0, [], none) := (L_26_0 66).trans rfl
theorem I_26_67 : ins 26 67 = some (.dup, 0, 0, [], none) := (L_26_0 67).trans rfl
theorem I_26_68 : ins 26 68 = some (.getfield 43, 9, 0, [(4, 28)], none) := (L_26_0 68).trans rfl
theorem I_26_71 : ins 26 71 = some (.iconst 1, 0, 0, [], none) := (L_26_0 71).trans rfl
theorem I_26_72 : ins 26 72 = some (.iadd, 0, 0, [], none) := (L_26_0 72).trans rfl
theorem I_26_73 : ins 26 73 = some (.putfield 43, 9, 0, [(4, 28)], none) := (L_26_0 73).trans rfl
theorem I_26_76 : ins 26 76 = some (.iinc 2 1, 0, 0, [], some [0, 1, 2]) := (L_26_0 76).trans rfl
theorem I_26_79 : ins 26 79 = some (.goto (-57), 22, 0, [], none) := (L_26_0 79).trans rfl
theorem I_26_82 : ins 26 82 = some (.iinc 1 1, 0, 0, [], some [0, 1]) := (L_26_0 82).trans rfl
theorem I_26_85 : ins 26 85 = some (.goto (-78), 7, 0, [], none) := (L_26_0 85).trans rfl
theorem I_26_88 : ins 26 88 = some (.return_, 0, 0, [], some []) := (L_26_0 88).trans rfl
theorem L_27_0 (pc : Nat) : ins 27 pc = fnd iT27 pc := rfl
theorem I_27_0 : ins 27 0 = some (.aload_n 0, 0, 0, [], none) := (L_27_0 0).trans rfl
theorem I_27_1 : ins 27 1 = some (.getfield 43, 9, 0, [(4, 28)], none) := (L_27_0 1).trans rfl
theorem I_27_4 : ins 27 4 = some (.ifCond .le 12, 16, 0, [], none) := (L_27_0 4).trans rfl
theorem I_27_7 : ins 27 7 = some (.aload_n 0, 0, 0, [], some [0]) := (L_27_0 7).trans rfl
theorem I_27_8 : ins 27 8 = some (.getfield 21, 6, 0, [(4, 22)], none) := (L_27_0 8).trans rfl
theorem I_27_11 : ins 27 11 = some (.iconst 0, 0, 0, [], none) := (L_27_0 11).trans rfl
theorem I_27_12 : ins 27 12 = some (.iaload, 0, 0, [], none) := (L_27_0 12).trans rfl
theorem I_27_13 : ins 27 13 = some (.goto 4, 17, 0, [], none) := (L_27_0 13).trans rfl
theorem I_27_16 : ins 27 16 = some (.iconst (-1), 0, 0, [], some []) := (L_27_0 16).trans rfl
theorem I_27_17 : ins 27 17 = some (.ireturn, 0, 0, [], some []) := (L_27_0 17).trans rfl
theorem L_28_0 (pc : Nat) : ins 28 pc = fnd iT28 pc := rfl
theorem I_28_0 : ins 28 0 = some (.iconst 0, 0, 0, [], none) := (L_28_0 0).trans rfl
theorem I_28_1 : ins 28 1 = some (.istore_n 2, 0, 0, [], none) := (L_28_0 1).trans rfl
theorem I_28_2 : ins 28 2 = some (.aload_n 0, 0, 0, [], none) := (L_28_0 2).trans rfl
theorem I_28_3 : ins 28 3 = some (.iconst 0, 0, 0, [], none) := (L_28_0 3).trans rfl
theorem I_28_4 : ins 28 4 = some (.iload_n 1, 0, 0, [], none) := (L_28_0 4).trans rfl
theorem I_28_5 : ins 28 5 = some (.invokevirtual 55, 2, 0, [(4, 26)], none) := (L_28_0 5).trans rfl
theorem I_28_8 : ins 28 8 = some (.istore_n 3, 0, 0, [], none) := (L_28_0 8).trans rfl
theorem I_28_9 : ins 28 9 = some (.iconst 1, 0, 0, [], none) := (L_28_0 9).trans rfl
theorem I_28_10 : ins 28 10 = some (.istore 4, 0, 0, [], none) := (L_28_0 10).trans rfl
theorem I_28_12 : ins 28 12 = some (.iload 4, 0, 0, [], some [0, 1, 2, 3, 4]) := (L_28_0 12).trans rfl
theorem I_28_14 : ins 28 14 = some (.aload_n 0, 0, 0, [], none) := (L_28_0 14).trans rfl
theorem I_28_15 : ins 28 15 = some (.getfield 35, 2, 0, [(4, 26)], none) := (L_28_0 15).trans rfl
theorem I_28_18 : ins 28 18 = some (.getfield 59, 4, 0, [(5, 30)], none) := (L_28_0 18).trans rfl
theorem I_28_21 : ins 28 21 = some (.if_icmp .gt 30, 51, 0, [], none) := (L_28_0 21).trans rfl
theorem I_28_24 : ins 28 24 = some (.aload_n 0, 0, 0, [], some [0, 1, 2, 3, 4]) := (L_28_0 24).trans rfl
theorem I_28_25 : ins 28 25 = some (.iload 4, 0, 0, [], none) := (L_28_0 25).trans rfl
theorem I_28_27 : ins 28 27 = some (.iload_n 1, 0, 0, [], none) := (L_28_0 27).trans rfl
theorem I_28_28 : ins 28 28 = some (.invokevirtual 55, 2, 0, [(4, 26)], none) := (L_28_0 28).trans rfl
theorem I_28_31 : ins 28 31 = some (.istore 5, 0, 0, [], none) := (L_28_0 31).trans rfl
theorem I_28_33 : ins 28 33 = some (.iload 5, 0, 0, [], none) := (L_28_0 33).trans rfl
theorem I_28_35 : ins 28 35 = some (.iload_n 3, 0, 0, [], none) := (L_28_0 35).trans rfl
theorem I_28_36 : ins 28 36 = some (.if_icmp .ge 9, 45, 0, [], none) := (L_28_0 36).trans rfl
theorem I_28_39 : ins 28 39 = some (.iload 4, 0, 0, [], some [0, 1, 4, 5]) := (L_28_0 39).trans rfl
theorem I_28_41 : ins 28 41 = some (.istore_n 2, 0, 0, [], none) := (L_28_0 41).trans rfl
theorem I_28_42 : ins 28 42 = some (.iload 5, 0, 0, [], none) := (L_28_0 42).trans rfl
theorem I_28_44 : ins 28 44 = some (.istore_n 3, 0, 0, [], none) := (L_28_0 44).trans rfl
theorem I_28_45 : ins 28 45 = some (.iinc 4 1, 0, 0, [], some [0, 1, 2, 3, 4]) := (L_28_0 45).trans rfl
theorem I_28_48 : ins 28 48 = some (.goto (-36), 12, 0, [], none) := (L_28_0 48).trans rfl
theorem I_28_51 : ins 28 51 = some (.iload_n 2, 0, 0, [], some [2]) := (L_28_0 51).trans rfl
theorem I_28_52 : ins 28 52 = some (.ireturn, 0, 0, [], none) := (L_28_0 52).trans rfl
theorem L_29_0 (pc : Nat) : ins 29 pc = fnd iT29 pc := rfl
theorem I_29_0 : ins 29 0 = some (.iconst 0, 0, 0, [], none) := (L_29_0 0).trans rfl
theorem I_29_1 : ins 29 1 = some (.istore_n 3, 0, 0, [], none) := (L_29_0 1).trans rfl
theorem I_29_2 : ins 29 2 = some (.iload_n 3, 0, 0, [], some [0, 1, 2, 3]) := (L_29_0 2).trans rfl
theorem I_29_3 : ins 29 3 = some (.aload_n 0, 0, 0, [], none) := (L_29_0 3).trans rfl
theorem I_29_4 : ins 29 4 = some (.getfield 39, 8, 0, [(4, 27)], none) := (L_29_0 4).trans rfl
theorem I_29_7 : ins 29 7 = some (.if_icmp .ge 88, 95, 0, [], none) := (L_29_0 7).trans rfl
theorem I_29_10 : ins 29 10 = some (.iload_n 3, 0, 0, [], some [0, 1, 2, 3]) := (L_29_0 10).trans rfl
theorem I_29_11 : ins 29 11 = some (.bipush 8, 0, 0, [], none) := (L_29_0 11).trans rfl
theorem I_29_13 : ins 29 13 = some (.if_icmp .ge 82, 95, 0, [], none) := (L_29_0 13).trans rfl
theorem I_29_16 : ins 29 16 = some (.aload_n 0, 0, 0, [], some [0, 1, 2, 3]) := (L_29_0 16).trans rfl
theorem I_29_17 : ins 29 17 = some (.getfield 11, 3, 0, [(4, 19)], none) := (L_29_0 17).trans rfl
theorem I_29_20 : ins 29 20 = some (.iload_n 3, 0, 0, [], none) := (L_29_0 20).trans rfl
theorem I_29_21 : ins 29 21 = some (.iaload, 0, 0, [], none) := (L_29_0 21).trans rfl
theorem I_29_22 : ins 29 22 = some (.aload_n 0, 0, 0, [], none) := (L_29_0 22).trans rfl
theorem I_29_23 : ins 29 23 = some (.getfield 35, 2, 0, [(4, 26)], none) := (L_29_0 23).trans rfl
theorem I_29_26 : ins 29 26 = some (.getfield 59, 4, 0, [(5, 30)], none) := (L_29_0 26).trans rfl
theorem I_29_29 : ins 29 29 = some (.if_icmp .gt 23, 52, 0, [], none) := (L_29_0 29).trans rfl
theorem I_29_32 : ins 29 32 = some (.aload_n 0, 0, 0, [], some [0, 1, 2, 3]) := (L_29_0 32).trans rfl
theorem I_29_33 : ins 29 33 = some (.getfield 31, 1, 0, [(4, 25)], none) := (L_29_0 33).trans rfl
theorem I_29_36 : ins 29 36 = some (.aload_n 0, 0, 0, [], none) := (L_29_0 36).trans rfl
theorem I_29_37 : ins 29 37 = some (.getfield 15, 4, 0, [(4, 20)], none) := (L_29_0 37).trans rfl
theorem I_29_40 : ins 29 40 = some (.iload_n 3, 0, 0, [], none) := (L_29_0 40).trans rfl
theorem I_29_41 : ins 29 41 = some (.iaload, 0, 0, [], none) := (L_29_0 41).trans rfl
theorem I_29_42 : ins 29 42 = some (.invokevirtual 62, 1, 0, [(7, 27)], none) := (L_29_0 42).trans rfl
theorem I_29_45 : ins 29 45 = some (.ifCond .eq 7, 52, 0, [], none) := (L_29_0 45).trans rfl
theorem I_29_48 : ins 29 48 = some (.iconst 1, 0, 0, [], some [0, 1, 2, 3]) := (L_29_0 48).trans rfl
theorem I_29_49 : ins 29 49 = some (.goto 4, 53, 0, [], none) := (L_29_0 49).trans rfl
theorem I_29_52 : ins 29 52 = some (.iconst 0, 0, 0, [], some [0, 1, 2, 3]) := (L_29_0 52).trans rfl
theorem I_29_53 : ins 29 53 = some (.istore 4, 0, 0, [], some [0, 1, 2, 3]) := (L_29_0 53).trans rfl
theorem I_29_55 : ins 29 55 = some (.iload 4, 0, 0, [], none) := (L_29_0 55).trans rfl
theorem I_29_57 : ins 29 57 = some (.ifCond .eq 30, 87, 0, [], none) := (L_29_0 57).trans rfl
theorem I_29_60 : ins 29 60 = some (.aload_n 0, 0, 0, [], some [0, 1, 2, 3]) := (L_29_0 60).trans rfl
theorem I_29_61 : ins 29 61 = some (.iload_n 1, 0, 0, [], none) := (L_29_0 61).trans rfl
theorem I_29_62 : ins 29 62 = some (.iload_n 2, 0, 0, [], none) := (L_29_0 62).trans rfl
theorem I_29_63 : ins 29 63 = some (.aload_n 0, 0, 0, [], none) := (L_29_0 63).trans rfl
theorem I_29_64 : ins 29 64 = some (.getfield 11, 3, 0, [(4, 19)], none) := (L_29_0 64).trans rfl
theorem I_29_67 : ins 29 67 = some (.iload_n 3, 0, 0, [], none) := (L_29_0 67).trans rfl
theorem I_29_68 : ins 29 68 = some (.iaload, 0, 0, [], none) := (L_29_0 68).trans rfl
theorem I_29_69 : ins 29 69 = some (.aload_n 0, 0, 0, [], none) := (L_29_0 69).trans rfl
theorem I_29_70 : ins 29 70 = some (.getfield 15, 4, 0, [(4, 20)], none) := (L_29_0 70).trans rfl
theorem I_29_73 : ins 29 73 = some (.iload_n 3, 0, 0, [], none) := (L_29_0 73).trans rfl
theorem I_29_74 : ins 29 74 = some (.iaload, 0, 0, [], none) := (L_29_0 74).trans rfl
theorem I_29_75 : ins 29 75 = some (.invokevirtual 66, 4, 0, [(4, 28)], none) := (L_29_0 75).trans rfl
theorem I_29_78 : ins 29 78 = some (.aload_n 0, 0, 0, [], none) := (L_29_0 78).trans rfl
theorem I_29_79 : ins 29 79 = some (.getfield 18, 5, 0, [(4, 21)], none) := (L_29_0 79).trans rfl
theorem I_29_82 : ins 29 82 = some (.iload_n 3, 0, 0, [], none) := (L_29_0 82).trans rfl
theorem I_29_83 : ins 29 83 = some (.iaload, 0, 0, [], none) := (L_29_0 83).trans rfl
theorem I_29_84 : ins 29 84 = some (.if_icmp .eq 5, 89, 0, [], none) := (L_29_0 84).trans rfl
theorem I_29_87 : ins 29 87 = some (.iconst 0, 0, 0, [], some []) := (L_29_0 87).trans rfl
theorem I_29_88 : ins 29 88 = some (.ireturn, 0, 0, [], none) := (L_29_0 88).trans rfl
theorem I_29_89 : ins 29 89 = some (.iinc 3 1, 0, 0, [], some [0, 1, 2, 3]) := (L_29_0 89).trans rfl
theorem I_29_92 : ins 29 92 = some (.goto (-90), 2, 0, [], none) := (L_29_0 92).trans rfl
theorem I_29_95 : ins 29 95 = some (.iconst 1, 0, 0, [], some []) := (L_29_0 95).trans rfl
theorem I_29_96 : ins 29 96 = some (.ireturn, 0, 0, [], none) := (L_29_0 96).trans rfl
theorem L_30_0 (pc : Nat) : ins 30 pc = fnd iT30 pc := rfl
theorem I_30_0 : ins 30 0 = some (.iload 4, 0, 0, [], none) := (L_30_0 0).trans rfl
theorem I_30_2 : ins 30 2 = some (.iload_n 1, 0, 0, [], none) := (L_30_0 2).trans rfl
theorem I_30_3 : ins 30 3 = some (.if_icmp .ne 7, 10, 0, [], none) := (L_30_0 3).trans rfl
theorem I_30_6 : ins 30 6 = some (.iload_n 2, 0, 0, [], some [0, 2, 3]) := (L_30_0 6).trans rfl
theorem I_30_7 : ins 30 7 = some (.goto 15, 22, 0, [], none) := (L_30_0 7).trans rfl
theorem I_30_10 : ins 30 10 = some (.iload 4, 0, 0, [], some [0, 1, 2, 3, 4]) := (L_30_0 10).trans rfl
theorem I_30_12 : ins 30 12 = some (.iload_n 2, 0, 0, [], none) := (L_30_0 12).trans rfl
theorem I_30_13 : ins 30 13 = some (.if_icmp .ne 7, 20, 0, [], none) := (L_30_0 13).trans rfl
theorem I_30_16 : ins 30 16 = some (.iload_n 1, 0, 0, [], some [0, 1, 3]) := (L_30_0 16).trans rfl
theorem I_30_17 : ins 30 17 = some (.goto 5, 22, 0, [], none) := (L_30_0 17).trans rfl
theorem I_30_20 : ins 30 20 = some (.iload 4, 0, 0, [], some [0, 3, 4]) := (L_30_0 20).trans rfl
theorem I_30_22 : ins 30 22 = some (.istore 5, 0, 0, [], some [0, 3]) := (L_30_0 22).trans rfl
theorem I_30_24 : ins 30 24 = some (.aload_n 0, 0, 0, [], none) := (L_30_0 24).trans rfl
theorem I_30_25 : ins 30 25 = some (.getfield 27, 0, 0, [(4, 24)], none) := (L_30_0 25).trans rfl
theorem I_30_28 : ins 30 28 = some (.iload_n 3, 0, 0, [], none) := (L_30_0 28).trans rfl
theorem I_30_29 : ins 30 29 = some (.iload 5, 0, 0, [], none) := (L_30_0 29).trans rfl
theorem I_30_31 : ins 30 31 = some (.invokevirtual 70, 2, 0, [(8, 29)], none) := (L_30_0 31).trans rfl
theorem I_30_34 : ins 30 34 = some (.ireturn, 0, 0, [], none) := (L_30_0 34).trans rfl
theorem L_31_0 (pc : Nat) : ins 31 pc = fnd (iT31_0 ++ (iT31_1)) pc := rfl
theorem L_31_1 (pc : Nat) (h : Nat.ble 68 pc = true) : ins 31 pc = fnd (iT31_1) pc := (L_31_0 pc).trans (fnd_app (lo := 68) rfl (Nat.le_of_ble_eq_true h))
theorem I_31_0 : ins 31 0 = some (.iconst 0, 0, 0, [], none) := (L_31_0 0).trans rfl
theorem I_31_1 : ins 31 1 = some (.istore_n 3, 0, 0, [], none) := (L_31_0 1).trans rfl
theorem I_31_2 : ins 31 2 = some (.iload_n 3, 0, 0, [], some [0, 1, 2, 3]) := (L_31_0 2).trans rfl
theorem I_31_3 : ins 31 3 = some (.aload_n 0, 0, 0, [], none) := (L_31_0 3).trans rfl
theorem I_31_4 : ins 31 4 = some (.getfield 24, 7, 0, [(4, 23)], none) := (L_31_0 4).trans rfl
theorem I_31_7 : ins 31 7 = some (.arraylength, 0, 0, [], none) := (L_31_0 7).trans rfl
theorem I_31_8 : ins 31 8 = some (.if_icmp .ge 16, 24, 0, [], none) := (L_31_0 8).trans rfl
theorem I_31_11 : ins 31 11 = some (.aload_n 0, 0, 0, [], some [0, 1, 2, 3]) := (L_31_0 11).trans rfl
theorem I_31_12 : ins 31 12 = some (.getfield 24, 7, 0, [(4, 23)], none) := (L_31_0 12).trans rfl
theorem I_31_15 : ins 31 15 = some (.iload_n 3, 0, 0, [], none) := (L_31_0 15).trans rfl
theorem I_31_16 : ins 31 16 = some (.iconst 0, 0, 0, [], none) := (L_31_0 16).trans rfl
theorem I_31_17 : ins 31 17 = some (.iastore, 0, 0, [], none) := (L_31_0 17).trans rfl
theorem I_31_18 : ins 31 18 = some (.iinc 3 1, 0, 0, [], none) := (L_31_0 18).trans rfl
theorem I_31_21 : ins 31 21 = some (.goto (-19), 2, 0, [], none) := (L_31_0 21).trans rfl
theorem I_31_24 : ins 31 24 = some (.iconst 0, 0, 0, [], some [0, 1, 2]) := (L_31_0 24).trans rfl
theorem I_31_25 : ins 31 25 = some (.istore_n 3, 0, 0, [], none) := (L_31_0 25).trans rfl
theorem I_31_26 : ins 31 26 = some (.iconst 0, 0, 0, [], none) := (L_31_0 26).trans rfl
theorem I_31_27 : ins 31 27 = some (.istore 4, 0, 0, [], none) := (L_31_0 27).trans rfl
theorem I_31_29 : ins 31 29 = some (.iload 4, 0, 0, [], some [0, 1, 2, 3, 4]) := (L_31_0 29).trans rfl
theorem I_31_31 : ins 31 31 = some (.aload_n 0, 0, 0, [], none) := (L_31_0 31).trans rfl
theorem I_31_32 : ins 31 32 = some (.getfield 43, 9, 0, [(4, 28)], none) := (L_31_0 32).trans rfl
theorem I_31_35 : ins 31 35 = some (.if_icmp .ge 84, 119, 0, [], none) := (L_31_0 35).trans rfl
theorem I_31_38 : ins 31 38 = some (.iload 4, 0, 0, [], some [0, 1, 2, 3, 4]) := (L_31_0 38).trans rfl
theorem I_31_40 : ins 31 40 = some (.bipush 28, 0, 0, [], none) := (L_31_0 40).trans rfl
theorem I_31_42 : ins 31 42 = some (.if_icmp .ge 77, 119, 0, [], none) := (L_31_0 42).trans rfl
theorem I_31_45 : ins 31 45 = some (.aload_n 0, 0, 0, [], some [0, 1, 2, 3, 4]) := (L_31_0 45).trans rfl
theorem I_31_46 : ins 31 46 = some (.aload_n 0, 0, 0, [], none) := (L_31_0 46).trans rfl
theorem I_31_47 : ins 31 47 = some (.getfield 21, 6, 0, [(4, 22)], none) := (L_31_0 47).trans rfl
theorem I_31_50 : ins 31 50 = some (.iload 4, 0, 0, [], none) := (L_31_0 50).trans rfl
theorem I_31_52 : ins 31 52 = some (.iaload, 0, 0, [], none) := (L_31_0 52).trans rfl
theorem I_31_53 : ins 31 53 = some (.bipush 8, 0, 0, [], none) := (L_31_0 53).trans rfl
theorem I_31_55 : ins 31 55 = some (.idiv, 0, 0, [], none) := (L_31_0 55).trans rfl
theorem I_31_56 : ins 31 56 = some (.aload_n 0, 0, 0, [], none) := (L_31_0 56).trans rfl
theorem I_31_57 : ins 31 57 = some (.getfield 21, 6, 0, [(4, 22)], none) := (L_31_0 57).trans rfl
theorem I_31_60 : ins 31 60 = some (.iload 4, 0, 0, [], none) := (L_31_0 60).trans rfl
theorem I_31_62 : ins 31 62 = some (.iaload, 0, 0, [], none) := (L_31_0 62).trans rfl
theorem I_31_63 : ins 31 63 = some (.bipush 8, 0, 0, [], none) := (L_31_0 63).trans rfl
theorem I_31_65 : ins 31 65 = some (.irem, 0, 0, [], none) := (L_31_0 65).trans rfl
theorem I_31_66 : ins 31 66 = some (.iload_n 1, 0, 0, [], none) := (L_31_0 66).trans rfl
theorem I_31_67 : ins 31 67 = some (.iload_n 2, 0, 0, [], none) := (L_31_0 67).trans rfl
theorem I_31_68 : ins 31 68 = some (.invokevirtual 66, 4, 0, [(4, 28)], none) := (L_31_1 68 rfl).trans rfl
theorem I_31_71 : ins 31 71 = some (.iconst 1, 0, 0, [], none) := (L_31_1 71 rfl).trans rfl
theorem I_31_72 : ins 31 72 = some (.iadd, 0, 0, [], none) := (L_31_1 72 rfl).trans rfl
theorem I_31_73 : ins 31 73 = some (.istore 5, 0, 0, [], none) := (L_31_1 73 rfl).trans rfl
theorem I_31_75 : ins 31 75 = some (.iload 5, 0, 0, [], none) := (L_31_1 75 rfl).trans rfl
theorem I_31_77 : ins 31 77 = some (.ifCond .lt 36, 113, 0, [], none) := (L_31_1 77 rfl).trans rfl
theorem I_31_80 : ins 31 80 = some (.iload 5, 0, 0, [], some [0, 1, 2, 3, 4, 5]) := (L_31_1 80 rfl).trans rfl
theorem I_31_82 : ins 31 82 = some (.aload_n 0, 0, 0, [], none) := (L_31_1 82 rfl).trans rfl
theorem I_31_83 : ins 31 83 = some (.getfield 24, 7, 0, [(4, 23)], none) := (L_31_1 83 rfl).trans rfl
theorem I_31_86 : ins 31 86 = some (.arraylength, 0, 0, [], none) := (L_31_1 86 rfl).trans rfl
theorem I_31_87 : ins 31 87 = some (.if_icmp .ge 26, 113, 0, [], none) := (L_31_1 87 rfl).trans rfl
theorem I_31_90 : ins 31 90 = some (.aload_n 0, 0, 0, [], some [0, 1, 2, 3, 4, 5]) := (L_31_1 90 rfl).trans rfl
theorem I_31_91 : ins 31 91 = some (.getfield 24, 7, 0, [(4, 23)], none) := (L_31_1 91 rfl).trans rfl
theorem I_31_94 : ins 31 94 = some (.iload 5, 0, 0, [], none) := (L_31_1 94 rfl).trans rfl
theorem I_31_96 : ins 31 96 = some (.dup2, 0, 0, [], none) := (L_31_1 96 rfl).trans rfl
theorem I_31_97 : ins 31 97 = some (.iaload, 0, 0, [], none) := (L_31_1 97 rfl).trans rfl
theorem I_31_98 : ins 31 98 = some (.iconst 1, 0, 0, [], none) := (L_31_1 98 rfl).trans rfl
theorem I_31_99 : ins 31 99 = some (.iadd, 0, 0, [], none) := (L_31_1 99 rfl).trans rfl
theorem I_31_100 : ins 31 100 = some (.iastore, 0, 0, [], none) := (L_31_1 100 rfl).trans rfl
theorem I_31_101 : ins 31 101 = some (.iload_n 3, 0, 0, [], none) := (L_31_1 101 rfl).trans rfl
theorem I_31_102 : ins 31 102 = some (.aload_n 0, 0, 0, [], none) := (L_31_1 102 rfl).trans rfl
theorem I_31_103 : ins 31 103 = some (.getfield 24, 7, 0, [(4, 23)], none) := (L_31_1 103 rfl).trans rfl
theorem I_31_106 : ins 31 106 = some (.iload 5, 0, 0, [], none) := (L_31_1 106 rfl).trans rfl
theorem I_31_108 : ins 31 108 = some (.iaload, 0, 0, [], none) := (L_31_1 108 rfl).trans rfl
theorem I_31_109 : ins 31 109 = some (.invokestatic 75, 2, 0, [(0, 30)], none) := (L_31_1 109 rfl).trans rfl
theorem I_31_112 : ins 31 112 = some (.istore_n 3, 0, 0, [], none) := (L_31_1 112 rfl).trans rfl
theorem I_31_113 : ins 31 113 = some (.iinc 4 1, 0, 0, [], some [0, 1, 2, 3, 4]) := (L_31_1 113 rfl).trans rfl
theorem I_31_116 : ins 31 116 = some (.goto (-87), 29, 0, [], none) := (L_31_1 116 rfl).trans rfl
theorem I_31_119 : ins 31 119 = some (.iload_n 3, 0, 0, [], some [3]) := (L_31_1 119 rfl).trans rfl
theorem I_31_120 : ins 31 120 = some (.ireturn, 0, 0, [], none) := (L_31_1 120 rfl).trans rfl
theorem L_33_0 (pc : Nat) : ins 33 pc = fnd iT33 pc := rfl
theorem I_33_0 : ins 33 0 = some (.aload_n 0, 0, 0, [], none) := (L_33_0 0).trans rfl
theorem I_33_1 : ins 33 1 = some (.iload_n 1, 0, 0, [], none) := (L_33_0 1).trans rfl
theorem I_33_2 : ins 33 2 = some (.invokevirtual 9, 1, 0, [(5, 32)], none) := (L_33_0 2).trans rfl
theorem I_33_5 : ins 33 5 = some (.iconst (-1), 0, 0, [], none) := (L_33_0 5).trans rfl
theorem I_33_6 : ins 33 6 = some (.if_icmp .eq 7, 13, 0, [], none) := (L_33_0 6).trans rfl
theorem I_33_9 : ins 33 9 = some (.iconst 1, 0, 0, [], some []) := (L_33_0 9).trans rfl
theorem I_33_10 : ins 33 10 = some (.goto 4, 14, 0, [], none) := (L_33_0 10).trans rfl
theorem I_33_13 : ins 33 13 = some (.iconst 0, 0, 0, [], some []) := (L_33_0 13).trans rfl
theorem I_33_14 : ins 33 14 = some (.ireturn, 0, 0, [], some []) := (L_33_0 14).trans rfl
theorem L_34_0 (pc : Nat) : ins 34 pc = fnd iT34 pc := rfl
theorem I_34_0 : ins 34 0 = some (.aload_n 0, 0, 0, [], none) := (L_34_0 0).trans rfl
theorem I_34_1 : ins 34 1 = some (.getfield 15, 2, 0, [(5, 31)], none) := (L_34_0 1).trans rfl
theorem I_34_4 : ins 34 4 = some (.ireturn, 0, 0, [], none) := (L_34_0 4).trans rfl
theorem L_35_0 (pc : Nat) : ins 35 pc = fnd iT35 pc := rfl
theorem I_35_0 : ins 35 0 = some (.aload_n 0, 0, 0, [], none) := (L_35_0 0).trans rfl
theorem I_35_1 : ins 35 1 = some (.iload_n 1, 0, 0, [], none) := (L_35_0 1).trans rfl
theorem I_35_2 : ins 35 2 = some (.invokevirtual 19, 1, 0, [(5, 33)], none) := (L_35_0 2).trans rfl
theorem I_35_5 : ins 35 5 = some (.lookupswitch 61 #[(46, 51), (102, 55), (109, 59), (114, 53), (115, 57)], 66, 0, [(46, 56), (102, 60), (109, 64), (114, 58), (115, 62)], none) := (L_35_0 5).trans rfl
theorem I_35_56 : ins 35 56 = some (.iconst 0, 0, 0, [], some []) := (L_35_0 56).trans rfl
theorem I_35_57 : ins 35 57 = some (.ireturn, 0, 0, [], none) := (L_35_0 57).trans rfl
theorem I_35_58 : ins 35 58 = some (.iconst 1, 0, 0, [], some []) := (L_35_0 58).trans rfl
theorem I_35_59 : ins 35 59 = some (.ireturn, 0, 0, [], none) := (L_35_0 59).trans rfl
theorem I_35_60 : ins 35 60 = some (.iconst 2, 0, 0, [], some []) := (L_35_0 60).trans rfl
theorem I_35_61 : ins 35 61 = some (.ireturn, 0, 0, [], none) := (L_35_0 61).trans rfl
theorem I_35_62 : ins 35 62 = some (.iconst 3, 0, 0, [], some []) := (L_35_0 62).trans rfl
theorem I_35_63 : ins 35 63 = some (.ireturn, 0, 0, [], none) := (L_35_0 63).trans rfl
theorem I_35_64 : ins 35 64 = some (.iconst 4, 0, 0, [], some []) := (L_35_0 64).trans rfl
theorem I_35_65 : ins 35 65 = some (.ireturn, 0, 0, [], none) := (L_35_0 65).trans rfl
theorem I_35_66 : ins 35 66 = some (.iconst (-1), 0, 0, [], some []) := (L_35_0 66).trans rfl
theorem I_35_67 : ins 35 67 = some (.ireturn, 0, 0, [], none) := (L_35_0 67).trans rfl
theorem L_37_0 (pc : Nat) : ins 37 pc = fnd iT37 pc := rfl
theorem I_37_0 : ins 37 0 = some (.aload_n 0, 0, 0, [], none) := (L_37_0 0).trans rfl
theorem I_37_1 : ins 37 1 = some (.getfield 15, 1, 0, [(6, 33)], none) := (L_37_0 1).trans rfl
theorem I_37_4 : ins 37 4 = some (.iconst (-1), 0, 0, [], none) := (L_37_0 4).trans rfl
theorem I_37_5 : ins 37 5 = some (.if_icmp .ne 7, 12, 0, [], none) := (L_37_0 5).trans rfl
theorem I_37_8 : ins 37 8 = some (.iconst 1, 0, 0, [], some []) := (L_37_0 8).trans rfl
theorem I_37_9 : ins 37 9 = some (.goto 4, 13, 0, [], none) := (L_37_0 9).trans rfl
theorem I_37_12 : ins 37 12 = some (.iconst 0, 0, 0, [], some []) := (L_37_0 12).trans rfl
theorem I_37_13 : ins 37 13 = some (.ireturn, 0, 0, [], some []) := (L_37_0 13).trans rfl
theorem L_38_0 (pc : Nat) : ins 38 pc = fnd iT38 pc := rfl
theorem I_38_0 : ins 38 0 = some (.aload_n 0, 0, 0, [], none) := (L_38_0 0).trans rfl
theorem I_38_1 : ins 38 1 = some (.iload_n 1, 0, 0, [], none) := (L_38_0 1).trans rfl
theorem I_38_2 : ins 38 2 = some (.putfield 15, 1, 0, [(6, 33)], none) := (L_38_0 2).trans rfl
theorem I_38_5 : ins 38 5 = some (.aload_n 0, 0, 0, [], none) := (L_38_0 5).trans rfl
theorem I_38_6 : ins 38 6 = some (.iconst 0, 0, 0, [], none) := (L_38_0 6).trans rfl
theorem I_38_7 : ins 38 7 = some (.iload_n 2, 0, 0, [], none) := (L_38_0 7).trans rfl
theorem I_38_8 : ins 38 8 = some (.bipush 60, 0, 0, [], none) := (L_38_0 8).trans rfl
theorem I_38_10 : ins 38 10 = some (.invokestatic 19, 2, 0, [(0, 35)], none) := (L_38_0 10).trans rfl
theorem I_38_13 : ins 38 13 = some (.invokestatic 25, 2, 0, [(0, 36)], none) := (L_38_0 13).trans rfl
theorem I_38_16 : ins 38 16 = some (.putfield 28, 2, 0, [(6, 34)], none) := (L_38_0 16).trans rfl
theorem I_38_19 : ins 38 19 = some (.iconst 0, 0, 0, [], none) := (L_38_0 19).trans rfl
theorem I_38_20 : ins 38 20 = some (.istore_n 3, 0, 0, [], none) := (L_38_0 20).trans rfl
theorem I_38_21 : ins 38 21 = some (.iload_n 3, 0, 0, [], some [0, 3]) := (L_38_0 21).trans rfl
theorem I_38_22 : ins 38 22 = some (.bipush 60, 0, 0, [], none) := (L_38_0 22).trans rfl
theorem I_38_24 : ins 38 24 = some (.if_icmp .ge 16, 40, 0, [], none) := (L_38_0 24).trans rfl
theorem I_38_27 : ins 38 27 = some (.aload_n 0, 0, 0, [], some [0, 3]) := (L_38_0 27).trans rfl
theorem I_38_28 : ins 38 28 = some (.getfield 9, 0, 0, [(6, 32)], none) := (L_38_0 28).trans rfl
theorem I_38_31 : ins 38 31 = some (.iload_n 3, 0, 0, [], none) := (L_38_0 31).trans rfl
theorem I_38_32 : ins 38 32 = some (.iconst 0, 0, 0, [], none) := (L_38_0 32).trans rfl
theorem I_38_33 : ins 38 33 = some (.iastore, 0, 0, [], none) := (L_38_0 33).trans rfl
theorem I_38_34 : ins 38 34 = some (.iinc 3 1, 0, 0, [], none) := (L_38_0 34).trans rfl
theorem I_38_37 : ins 38 37 = some (.goto (-16), 21, 0, [], none) := (L_38_0 37).trans rfl
theorem I_38_40 : ins 38 40 = some (.return_, 0, 0, [], some []) := (L_38_0 40).trans rfl
theorem L_39_0 (pc : Nat) : ins 39 pc = fnd iT39 pc := rfl
theorem I_39_0 : ins 39 0 = some (.aload_n 0, 0, 0, [], none) := (L_39_0 0).trans rfl
theorem I_39_1 : ins 39 1 = some (.iconst (-1), 0, 0, [], none) := (L_39_0 1).trans rfl
theorem I_39_2 : ins 39 2 = some (.putfield 15, 1, 0, [(6, 33)], none) := (L_39_0 2).trans rfl
theorem I_39_5 : ins 39 5 = some (.aload_n 0, 0, 0, [], none) := (L_39_0 5).trans rfl
theorem I_39_6 : ins 39 6 = some (.iconst 0, 0, 0, [], none) := (L_39_0 6).trans rfl
theorem I_39_7 : ins 39 7 = some (.putfield 28, 2, 0, [(6, 34)], none) := (L_39_0 7).trans rfl
theorem I_39_10 : ins 39 10 = some (.return_, 0, 0, [], none) := (L_39_0 10).trans rfl
theorem L_40_0 (pc : Nat) : ins 40 pc = fnd iT40 pc := rfl
theorem I_40_0 : ins 40 0 = some (.iload_n 1, 0, 0, [], none) := (L_40_0 0).trans rfl
theorem I_40_1 : ins 40 1 = some (.ifCond .lt 21, 22, 0, [], none) := (L_40_0 1).trans rfl
theorem I_40_4 : ins 40 4 = some (.iload_n 1, 0, 0, [], some [0, 1]) := (L_40_0 4).trans rfl
theorem I_40_5 : ins 40 5 = some (.aload_n 0, 0, 0, [], none) := (L_40_0 5).trans rfl
theorem I_40_6 : ins 40 6 = some (.getfield 28, 2, 0, [(6, 34)], none) := (L_40_0 6).trans rfl
theorem I_40_9 : ins 40 9 = some (.if_icmp .ge 13, 22, 0, [], none) := (L_40_0 9).trans rfl
theorem I_40_12 : ins 40 12 = some (.iload_n 1, 0, 0, [], some [1]) := (L_40_0 12).trans rfl
theorem I_40_13 : ins 40 13 = some (.bipush 60, 0, 0, [], none) := (L_40_0 13).trans rfl
theorem I_40_15 : ins 40 15 = some (.if_icmp .ge 7, 22, 0, [], none) := (L_40_0 15).trans rfl
theorem I_40_18 : ins 40 18 = some (.iconst 1, 0, 0, [], some []) := (L_40_0 18).trans rfl
theorem I_40_19 : ins 40 19 = some (.goto 4, 23, 0, [], none) := (L_40_0 19).trans rfl
theorem I_40_22 : ins 40 22 = some (.iconst 0, 0, 0, [], some []) := (L_40_0 22).trans rfl
theorem I_40_23 : ins 40 23 = some (.ireturn, 0, 0, [], some []) := (L_40_0 23).trans rfl
theorem L_41_0 (pc : Nat) : ins 41 pc = fnd iT41 pc := rfl
theorem I_41_0 : ins 41 0 = some (.iload_n 1, 0, 0, [], none) := (L_41_0 0).trans rfl
theorem I_41_1 : ins 41 1 = some (.ifCond .lt 21, 22, 0, [], none) := (L_41_0 1).trans rfl
theorem I_41_4 : ins 41 4 = some (.iload_n 2, 0, 0, [], some [0, 1, 2]) := (L_41_0 4).trans rfl
theorem I_41_5 : ins 41 5 = some (.ifCond .lt 17, 22, 0, [], none) := (L_41_0 5).trans rfl
theorem I_41_8 : ins 41 8 = some (.iload_n 2, 0, 0, [], some [0, 1, 2]) := (L_41_0 8).trans rfl
theorem I_41_9 : ins 41 9 = some (.aload_n 0, 0, 0, [], none) := (L_41_0 9).trans rfl
theorem I_41_10 : ins 41 10 = some (.getfield 28, 2, 0, [(6, 34)], none) := (L_41_0 10).trans rfl
theorem I_41_13 : ins 41 13 = some (.iload_n 1, 0, 0, [], none) := (L_41_0 13).trans rfl
theorem I_41_14 : ins 41 14 = some (.isub, 0, 0, [], none) := (L_41_0 14).trans rfl
theorem I_41_15 : ins 41 15 = some (.if_icmp .gt 7, 22, 0, [], none) := (L_41_0 15).trans rfl
theorem I_41_18 : ins 41 18 = some (.iconst 1, 0, 0, [], some []) := (L_41_0 18).trans rfl
theorem I_41_19 : ins 41 19 = some (.goto 4, 23, 0, [], none) := (L_41_0 19).trans rfl
theorem I_41_22 : ins 41 22 = some (.iconst 0, 0, 0, [], some []) := (L_41_0 22).trans rfl
theorem I_41_23 : ins 41 23 = some (.ireturn, 0, 0, [], some []) := (L_41_0 23).trans rfl
theorem L_42_0 (pc : Nat) : ins 42 pc = fnd iT42 pc := rfl
theorem I_42_0 : ins 42 0 = some (.aload_n 0, 0, 0, [], none) := (L_42_0 0).trans rfl
theorem I_42_1 : ins 42 1 = some (.iload_n 1, 0, 0, [], none) := (L_42_0 1).trans rfl
theorem I_42_2 : ins 42 2 = some (.invokevirtual 31, 1, 0, [(6, 37)], none) := (L_42_0 2).trans rfl
theorem I_42_5 : ins 42 5 = some (.ifCond .eq 35, 40, 0, [], none) := (L_42_0 5).trans rfl
theorem I_42_8 : ins 42 8 = some (.aload_n 0, 0, 0, [], some [0, 1, 2]) := (L_42_0 8).trans rfl
theorem I_42_9 : ins 42 9 = some (.getfield 9, 0, 0, [(6, 32)], none) := (L_42_0 9).trans rfl
theorem I_42_12 : ins 42 12 = some (.iload_n 1, 0, 0, [], none) := (L_42_0 12).trans rfl
theorem I_42_13 : ins 42 13 = some (.aload_n 0, 0, 0, [], none) := (L_42_0 13).trans rfl
theorem I_42_14 : ins 42 14 = some (.getfield 15, 1, 0, [(6, 33)], none) := (L_42_0 14).trans rfl
theorem I_42_17 : ins 42 17 = some (.ifCond .ne 8, 25, 0, [], none) := (L_42_0 17).trans rfl
theorem I_42_20 : ins 42 20 = some (.iload_n 2, 0, 0, [], some [2]) := (L_42_0 20).trans rfl
theorem I_42_21 : ins 42 21 = some (.i2b, 0, 0, [], none) := (L_42_0 21).trans rfl
theorem I_42_22 : ins 42 22 = some (.goto 17, 39, 0, [], none) := (L_42_0 22).trans rfl
theorem I_42_25 : ins 42 25 = some (.aload_n 0, 0, 0, [], some [0, 2]) := (L_42_0 25).trans rfl
theorem I_42_26 : ins 42 26 = some (.getfield 15, 1, 0, [(6, 33)], none) := (L_42_0 26).trans rfl
theorem I_42_29 : ins 42 29 = some (.iconst 1, 0, 0, [], none) := (L_42_0 29).trans rfl
theorem I_42_30 : ins 42 30 = some (.if_icmp .ne 8, 38, 0, [], none) := (L_42_0 30).trans rfl
theorem I_42_33 : ins 42 33 = some (.iload_n 2, 0, 0, [], some [2]) := (L_42_0 33).trans rfl
theorem I_42_34 : ins 42 34 = some (.i2s, 0, 0, [], none) := (L_42_0 34).trans rfl
theorem I_42_35 : ins 42 35 = some (.goto 4, 39, 0, [], none) := (L_42_0 35).trans rfl
theorem I_42_38 : ins 42 38 = some (.iload_n 2, 0, 0, [], some [2]) := (L_42_0 38).trans rfl
theorem I_42_39 : ins 42 39 = some (.iastore, 0, 0, [], some []) := (L_42_0 39).trans rfl
theorem I_42_40 : ins 42 40 = some (.return_, 0, 0, [], some []) := (L_42_0 40).trans rfl
theorem L_43_0 (pc : Nat) : ins 43 pc = fnd iT43 pc := rfl
theorem I_43_0 : ins 43 0 = some (.aload_n 0, 0, 0, [], none) := (L_43_0 0).trans rfl
theorem I_43_1 : ins 43 1 = some (.iload_n 1, 0, 0, [], none) := (L_43_0 1).trans rfl
theorem I_43_2 : ins 43 2 = some (.invokevirtual 31, 1, 0, [(6, 37)], none) := (L_43_0 2).trans rfl
theorem I_43_5 : ins 43 5 = some (.ifCond .eq 12, 17, 0, [], none) := (L_43_0 5).trans rfl
theorem I_43_8 : ins 43 8 = some (.aload_n 0, 0, 0, [], some [0, 1]) := (L_43_0 8).trans rfl
theorem I_43_9 : ins 43 9 = some (.getfield 9, 0, 0, [(6, 32)], none) := (L_43_0 9).trans rfl
theorem I_43_12 : ins 43 12 = some (.iload_n 1, 0, 0, [], none) := (L_43_0 12).trans rfl
theorem I_43_13 : ins 43 13 = some (.iaload, 0, 0, [], none) := (L_43_0 13).trans rfl
theorem I_43_14 : ins 43 14 = some (.goto 4, 18, 0, [], none) := (L_43_0 14).trans rfl
theorem I_43_17 : ins 43 17 = some (.iconst 0, 0, 0, [], some []) := (L_43_0 17).trans rfl
theorem I_43_18 : ins 43 18 = some (.ireturn, 0, 0, [], some []) := (L_43_0 18).trans rfl
theorem L_45_0 (pc : Nat) : ins 45 pc = fnd iT45 pc := rfl
theorem I_45_0 : ins 45 0 = some (.aload_n 0, 0, 0, [], none) := (L_45_0 0).trans rfl
theorem I_45_1 : ins 45 1 = some (.iload_n 1, 0, 0, [], none) := (L_45_0 1).trans rfl
theorem I_45_2 : ins 45 2 = some (.invokevirtual 9, 1, 0, [(7, 39)], none) := (L_45_0 2).trans rfl
theorem I_45_5 : ins 45 5 = some (.istore_n 2, 0, 0, [], none) := (L_45_0 5).trans rfl
theorem I_45_6 : ins 45 6 = some (.iload_n 1, 0, 0, [], none) := (L_45_0 6).trans rfl
theorem I_45_7 : ins 45 7 = some (.iconst 5, 0, 0, [], none) := (L_45_0 7).trans rfl
theorem I_45_8 : ins 45 8 = some (.idiv, 0, 0, [], none) := (L_45_0 8).trans rfl
theorem I_45_9 : ins 45 9 = some (.bipush 8, 0, 0, [], none) := (L_45_0 9).trans rfl
theorem I_45_11 : ins 45 11 = some (.if_icmp .lt 5, 16, 0, [], none) := (L_45_0 11).trans rfl
theorem I_45_14 : ins 45 14 = some (.iconst 0, 0, 0, [], some []) := (L_45_0 14).trans rfl
theorem I_45_15 : ins 45 15 = some (.ireturn, 0, 0, [], none) := (L_45_0 15).trans rfl
theorem I_45_16 : ins 45 16 = some (.iload_n 1, 0, 0, [], some [1, 2]) := (L_45_0 16).trans rfl
theorem I_45_17 : ins 45 17 = some (.iconst 5, 0, 0, [], none) := (L_45_0 17).trans rfl
theorem I_45_18 : ins 45 18 = some (.irem, 0, 0, [], none) := (L_45_0 18).trans rfl
theorem I_45_19 : ins 45 19 = some (.tableswitch 59 0 3 #[29, 35, 35, 41], 78, 0, [(0, 48), (1, 54), (2, 54), (3, 60)], none) := (L_45_0 19).trans rfl
theorem I_45_48 : ins 45 48 = some (.iload_n 2, 0, 0, [], some [2]) := (L_45_0 48).trans rfl
theorem I_45_49 : ins 45 49 = some (.iconst 1, 0, 0, [], none) := (L_45_0 49).trans rfl
theorem I_45_50 : ins 45 50 = some (.invokestatic 15, 2, 0, [(0, 40)], none) := (L_45_0 50).trans rfl
theorem I_45_53 : ins 45 53 = some (.ireturn, 0, 0, [], none) := (L_45_0 53).trans rfl
theorem I_45_54 : ins 45 54 = some (.iload_n 2, 0, 0, [], some [2]) := (L_45_0 54).trans rfl
theorem I_45_55 : ins 45 55 = some (.iconst 0, 0, 0, [], none) := (L_45_0 55).trans rfl
theorem I_45_56 : ins 45 56 = some (.invokestatic 15, 2, 0, [(0, 40)], none) := (L_45_0 56).trans rfl
theorem I_45_59 : ins 45 59 = some (.ireturn, 0, 0, [], none) := (L_45_0 59).trans rfl
theorem I_45_60 : ins 45 60 = some (.iload_n 2, 0, 0, [], some [2]) := (L_45_0 60).trans rfl
theorem I_45_61 : ins 45 61 = some (.bipush 110, 0, 0, [], none) := (L_45_0 61).trans rfl
theorem I_45_63 : ins 45 63 = some (.if_icmp .eq 9, 72, 0, [], none) := (L_45_0 63).trans rfl
theorem I_45_66 : ins 45 66 = some (.iload_n 2, 0, 0, [], some [2]) := (L_45_0 66).trans rfl
theorem I_45_67 : ins 45 67 = some (.bipush 115, 0, 0, [], none) := (L_45_0 67).trans rfl
theorem I_45_69 : ins 45 69 = some (.if_icmp .ne 7, 76, 0, [], none) := (L_45_0 69).trans rfl
theorem I_45_72 : ins 45 72 = some (.iconst 1, 0, 0, [], some []) := (L_45_0 72).trans rfl
theorem I_45_73 : ins 45 73 = some (.goto 4, 77, 0, [], none) := (L_45_0 73).trans rfl
theorem I_45_76 : ins 45 76 = some (.iconst 0, 0, 0, [], some []) := (L_45_0 76).trans rfl
theorem I_45_77 : ins 45 77 = some (.ireturn, 0, 0, [], some []) := (L_45_0 77).trans rfl
theorem I_45_78 : ins 45 78 = some (.iload_n 2, 0, 0, [], some [2]) := (L_45_0 78).trans rfl
theorem I_45_79 : ins 45 79 = some (.bipush 59, 0, 0, [], none) := (L_45_0 79).trans rfl
theorem I_45_81 : ins 45 81 = some (.if_icmp .ne 7, 88, 0, [], none) := (L_45_0 81).trans rfl
theorem I_45_84 : ins 45 84 = some (.iconst 1, 0, 0, [], some []) := (L_45_0 84).trans rfl
theorem I_45_85 : ins 45 85 = some (.goto 4, 89, 0, [], none) := (L_45_0 85).trans rfl
theorem I_45_88 : ins 45 88 = some (.iconst 0, 0, 0, [], some []) := (L_45_0 88).trans rfl
theorem I_45_89 : ins 45 89 = some (.ireturn, 0, 0, [], some []) := (L_45_0 89).trans rfl
