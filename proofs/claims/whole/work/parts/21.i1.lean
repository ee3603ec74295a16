/-! instructions -/
theorem L_46_0 (pc : Nat) : ins 46 pc = fnd iT46 pc := rfl
theorem I_46_0 : ins 46 0 = some (.aload_n 0, 0, 0, [], none) := (L_46_0 0).trans rfl
theorem I_46_1 : ins 46 1 = some (.getfield 19, 2, 0, [(7, 35)], none) := (L_46_0 1).trans rfl
theorem I_46_4 : ins 46 4 = some (.ifCond .eq 14, 18, 0, [], none) := (L_46_0 4).trans rfl
theorem I_46_7 : ins 46 7 = some (.aload_n 0, 0, 0, [], some [0]) := (L_46_0 7).trans rfl
theorem I_46_8 : ins 46 8 = some (.getfield 19, 2, 0, [(7, 35)], none) := (L_46_0 8).trans rfl
theorem I_46_11 : ins 46 11 = some (.iconst 1, 0, 0, [], none) := (L_46_0 11).trans rfl
theorem I_46_12 : ins 46 12 = some (.iadd, 0, 0, [], none) := (L_46_0 12).trans rfl
theorem I_46_13 : ins 46 13 = some (.iconst 5, 0, 0, [], none) := (L_46_0 13).trans rfl
theorem I_46_14 : ins 46 14 = some (.irem, 0, 0, [], none) := (L_46_0 14).trans rfl
theorem I_46_15 : ins 46 15 = some (.ifCond .ne 7, 22, 0, [], none) := (L_46_0 15).trans rfl
theorem I_46_18 : ins 46 18 = some (.iconst 1, 0, 0, [], some [0]) := (L_46_0 18).trans rfl
theorem I_46_19 : ins 46 19 = some (.goto 4, 23, 0, [], none) := (L_46_0 19).trans rfl
theorem I_46_22 : ins 46 22 = some (.iconst 0, 0, 0, [], some [0]) := (L_46_0 22).trans rfl
theorem I_46_23 : ins 46 23 = some (.istore_n 1, 0, 0, [], some [0]) := (L_46_0 23).trans rfl
theorem I_46_24 : ins 46 24 = some (.iload_n 1, 0, 0, [], none) := (L_46_0 24).trans rfl
theorem I_46_25 : ins 46 25 = some (.ifCond .eq 14, 39, 0, [], none) := (L_46_0 25).trans rfl
theorem I_46_28 : ins 46 28 = some (.aload_n 0, 0, 0, [], some [0]) := (L_46_0 28).trans rfl
theorem I_46_29 : ins 46 29 = some (.getfield 19, 2, 0, [(7, 35)], none) := (L_46_0 29).trans rfl
theorem I_46_32 : ins 46 32 = some (.iconst 1, 0, 0, [], none) := (L_46_0 32).trans rfl
theorem I_46_33 : ins 46 33 = some (.iadd, 0, 0, [], none) := (L_46_0 33).trans rfl
theorem I_46_34 : ins 46 34 = some (.iconst 5, 0, 0, [], none) := (L_46_0 34).trans rfl
theorem I_46_35 : ins 46 35 = some (.idiv, 0, 0, [], none) := (L_46_0 35).trans rfl
theorem I_46_36 : ins 46 36 = some (.goto 4, 40, 0, [], none) := (L_46_0 36).trans rfl
theorem I_46_39 : ins 46 39 = some (.iconst (-1), 0, 0, [], some []) := (L_46_0 39).trans rfl
theorem I_46_40 : ins 46 40 = some (.ireturn, 0, 0, [], some []) := (L_46_0 40).trans rfl
theorem L_47_0 (pc : Nat) : ins 47 pc = fnd iT47 pc := rfl
theorem I_47_0 : ins 47 0 = some (.aload_n 0, 0, 0, [], none) := (L_47_0 0).trans rfl
theorem I_47_1 : ins 47 1 = some (.iload_n 1, 0, 0, [], none) := (L_47_0 1).trans rfl
theorem I_47_2 : ins 47 2 = some (.iconst 5, 0, 0, [], none) := (L_47_0 2).trans rfl
theorem I_47_3 : ins 47 3 = some (.imul, 0, 0, [], none) := (L_47_0 3).trans rfl
theorem I_47_4 : ins 47 4 = some (.invokevirtual 23, 1, 0, [(7, 41)], none) := (L_47_0 4).trans rfl
theorem I_47_7 : ins 47 7 = some (.ireturn, 0, 0, [], none) := (L_47_0 7).trans rfl
theorem L_48_0 (pc : Nat) : ins 48 pc = fnd iT48 pc := rfl
theorem I_48_0 : ins 48 0 = some (.aload_n 0, 0, 0, [], none) := (L_48_0 0).trans rfl
theorem I_48_1 : ins 48 1 = some (.iload_n 1, 0, 0, [], none) := (L_48_0 1).trans rfl
theorem I_48_2 : ins 48 2 = some (.iconst 5, 0, 0, [], none) := (L_48_0 2).trans rfl
theorem I_48_3 : ins 48 3 = some (.imul, 0, 0, [], none) := (L_48_0 3).trans rfl
theorem I_48_4 : ins 48 4 = some (.iconst 1, 0, 0, [], none) := (L_48_0 4).trans rfl
theorem I_48_5 : ins 48 5 = some (.iadd, 0, 0, [], none) := (L_48_0 5).trans rfl
theorem I_48_6 : ins 48 6 = some (.invokevirtual 23, 1, 0, [(7, 41)], none) := (L_48_0 6).trans rfl
theorem I_48_9 : ins 48 9 = some (.ireturn, 0, 0, [], none) := (L_48_0 9).trans rfl
theorem L_49_0 (pc : Nat) : ins 49 pc = fnd iT49 pc := rfl
theorem I_49_0 : ins 49 0 = some (.aload_n 0, 0, 0, [], none) := (L_49_0 0).trans rfl
theorem I_49_1 : ins 49 1 = some (.iload_n 1, 0, 0, [], none) := (L_49_0 1).trans rfl
theorem I_49_2 : ins 49 2 = some (.iconst 5, 0, 0, [], none) := (L_49_0 2).trans rfl
theorem I_49_3 : ins 49 3 = some (.imul, 0, 0, [], none) := (L_49_0 3).trans rfl
theorem I_49_4 : ins 49 4 = some (.iconst 2, 0, 0, [], none) := (L_49_0 4).trans rfl
theorem I_49_5 : ins 49 5 = some (.iadd, 0, 0, [], none) := (L_49_0 5).trans rfl
theorem I_49_6 : ins 49 6 = some (.invokevirtual 23, 1, 0, [(7, 41)], none) := (L_49_0 6).trans rfl
theorem I_49_9 : ins 49 9 = some (.ireturn, 0, 0, [], none) := (L_49_0 9).trans rfl
theorem L_50_0 (pc : Nat) : ins 50 pc = fnd iT50 pc := rfl
theorem I_50_0 : ins 50 0 = some (.aload_n 0, 0, 0, [], none) := (L_50_0 0).trans rfl
theorem I_50_1 : ins 50 1 = some (.iload_n 1, 0, 0, [], none) := (L_50_0 1).trans rfl
theorem I_50_2 : ins 50 2 = some (.iconst 5, 0, 0, [], none) := (L_50_0 2).trans rfl
theorem I_50_3 : ins 50 3 = some (.imul, 0, 0, [], none) := (L_50_0 3).trans rfl
theorem I_50_4 : ins 50 4 = some (.iconst 3, 0, 0, [], none) := (L_50_0 4).trans rfl
theorem I_50_5 : ins 50 5 = some (.iadd, 0, 0, [], none) := (L_50_0 5).trans rfl
theorem I_50_6 : ins 50 6 = some (.invokevirtual 9, 1, 0, [(7, 39)], none) := (L_50_0 6).trans rfl
theorem I_50_9 : ins 50 9 = some (.bipush 110, 0, 0, [], none) := (L_50_0 9).trans rfl
theorem I_50_11 : ins 50 11 = some (.if_icmp .ne 7, 18, 0, [], none) := (L_50_0 11).trans rfl
theorem I_50_14 : ins 50 14 = some (.iconst 1, 0, 0, [], some []) := (L_50_0 14).trans rfl
theorem I_50_15 : ins 50 15 = some (.goto 4, 19, 0, [], none) := (L_50_0 15).trans rfl
theorem I_50_18 : ins 50 18 = some (.iconst 0, 0, 0, [], some []) := (L_50_0 18).trans rfl
theorem I_50_19 : ins 50 19 = some (.ireturn, 0, 0, [], some []) := (L_50_0 19).trans rfl
theorem L_52_0 (pc : Nat) : ins 52 pc = fnd iT52 pc := rfl
theorem I_52_0 : ins 52 0 = some (.aload_n 0, 0, 0, [], none) := (L_52_0 0).trans rfl
theorem I_52_1 : ins 52 1 = some (.getfield 22, 2, 0, [(7, 45), (1, 46), (5, 47)], none) := (L_52_0 1).trans rfl
theorem I_52_4 : ins 52 4 = some (.aload_n 0, 0, 0, [], none) := (L_52_0 4).trans rfl
theorem I_52_5 : ins 52 5 = some (.getfield 19, 1, 0, [(7, 42), (1, 43), (5, 44)], none) := (L_52_0 5).trans rfl
theorem I_52_8 : ins 52 8 = some (.if_icmp .ge 15, 23, 0, [], none) := (L_52_0 8).trans rfl
theorem I_52_11 : ins 52 11 = some (.aload_n 0, 0, 0, [], some [0]) := (L_52_0 11).trans rfl
theorem I_52_12 : ins 52 12 = some (.getfield 22, 2, 0, [(7, 45), (1, 46), (5, 47)], none) := (L_52_0 12).trans rfl
theorem I_52_15 : ins 52 15 = some (.aload_n 0, 0, 0, [], none) := (L_52_0 15).trans rfl
theorem I_52_16 : ins 52 16 = some (.getfield 11, 0, 0, [(7, 36), (1, 37), (5, 38)], none) := (L_52_0 16).trans rfl
theorem I_52_19 : ins 52 19 = some (.arraylength, 0, 0, [], none) := (L_52_0 19).trans rfl
theorem I_52_20 : ins 52 20 = some (.if_icmp .lt 7, 27, 0, [], none) := (L_52_0 20).trans rfl
theorem I_52_23 : ins 52 23 = some (.iconst 1, 0, 0, [], some []) := (L_52_0 23).trans rfl
theorem I_52_24 : ins 52 24 = some (.goto 4, 28, 0, [], none) := (L_52_0 24).trans rfl
theorem I_52_27 : ins 52 27 = some (.iconst 0, 0, 0, [], some []) := (L_52_0 27).trans rfl
theorem I_52_28 : ins 52 28 = some (.ireturn, 0, 0, [], some []) := (L_52_0 28).trans rfl
theorem L_53_0 (pc : Nat) : ins 53 pc = fnd iT53 pc := rfl
theorem I_53_0 : ins 53 0 = some (.iload_n 1, 0, 0, [], none) := (L_53_0 0).trans rfl
theorem I_53_1 : ins 53 1 = some (.ifCond .lt 15, 16, 0, [], none) := (L_53_0 1).trans rfl
theorem I_53_4 : ins 53 4 = some (.iload_n 1, 0, 0, [], some [0, 1]) := (L_53_0 4).trans rfl
theorem I_53_5 : ins 53 5 = some (.aload_n 0, 0, 0, [], none) := (L_53_0 5).trans rfl
theorem I_53_6 : ins 53 6 = some (.getfield 25, 4, 0, [(7, 48), (1, 49), (5, 50)], none) := (L_53_0 6).trans rfl
theorem I_53_9 : ins 53 9 = some (.if_icmp .ge 7, 16, 0, [], none) := (L_53_0 9).trans rfl
theorem I_53_12 : ins 53 12 = some (.iconst 1, 0, 0, [], some []) := (L_53_0 12).trans rfl
theorem I_53_13 : ins 53 13 = some (.goto 4, 17, 0, [], none) := (L_53_0 13).trans rfl
theorem I_53_16 : ins 53 16 = some (.iconst 0, 0, 0, [], some []) := (L_53_0 16).trans rfl
theorem I_53_17 : ins 53 17 = some (.ireturn, 0, 0, [], some []) := (L_53_0 17).trans rfl
theorem L_54_0 (pc : Nat) : ins 54 pc = fnd iT54 pc := rfl
theorem I_54_0 : ins 54 0 = some (.aload_n 0, 0, 0, [], none) := (L_54_0 0).trans rfl
theorem I_54_1 : ins 54 1 = some (.getfield 22, 2, 0, [(7, 45), (1, 46), (5, 47)], none) := (L_54_0 1).trans rfl
theorem I_54_4 : ins 54 4 = some (.aload_n 0, 0, 0, [], none) := (L_54_0 4).trans rfl
theorem I_54_5 : ins 54 5 = some (.getfield 11, 0, 0, [(7, 36), (1, 37), (5, 38)], none) := (L_54_0 5).trans rfl
theorem I_54_8 : ins 54 8 = some (.arraylength, 0, 0, [], none) := (L_54_0 8).trans rfl
theorem I_54_9 : ins 54 9 = some (.if_icmp .ge 23, 32, 0, [], none) := (L_54_0 9).trans rfl
theorem I_54_12 : ins 54 12 = some (.aload_n 0, 0, 0, [], some [0, 1]) := (L_54_0 12).trans rfl
theorem I_54_13 : ins 54 13 = some (.getfield 11, 0, 0, [(7, 36), (1, 37), (5, 38)], none) := (L_54_0 13).trans rfl
theorem I_54_16 : ins 54 16 = some (.aload_n 0, 0, 0, [], none) := (L_54_0 16).trans rfl
theorem I_54_17 : ins 54 17 = some (.getfield 22, 2, 0, [(7, 45), (1, 46), (5, 47)], none) := (L_54_0 17).trans rfl
theorem I_54_20 : ins 54 20 = some (.iload_n 1, 0, 0, [], none) := (L_54_0 20).trans rfl
theorem I_54_21 : ins 54 21 = some (.iastore, 0, 0, [], none) := (L_54_0 21).trans rfl
theorem I_54_22 : ins 54 22 = some (.aload_n 0, 0, 0, [], none) := (L_54_0 22).trans rfl
theorem I_54_23 : ins 54 23 = some (.dup, 0, 0, [], none) := (L_54_0 23).trans rfl
theorem I_54_24 : ins 54 24 = some (.getfield 22, 2, 0, [(7, 45), (1, 46), (5, 47)], none) := (L_54_0 24).trans rfl
theorem I_54_27 : ins 54 27 = some (.iconst 1, 0, 0, [], none) := (L_54_0 27).trans rfl
theorem I_54_28 : ins 54 28 = some (.iadd, 0, 0, [], none) := (L_54_0 28).trans rfl
theorem I_54_29 : ins 54 29 = some (.putfield 22, 2, 0, [(7, 45), (1, 46), (5, 47)], none) := (L_54_0 29).trans rfl
theorem I_54_32 : ins 54 32 = some (.aload_n 0, 0, 0, [], some [0]) := (L_54_0 32).trans rfl
theorem I_54_33 : ins 54 33 = some (.invokevirtual 28, 0, 0, [(7, 43), (1, 44), (5, 45)], none) := (L_54_0 33).trans rfl
theorem I_54_36 : ins 54 36 = some (.return_, 0, 0, [], none) := (L_54_0 36).trans rfl
theorem L_55_0 (pc : Nat) : ins 55 pc = fnd iT55 pc := rfl
theorem I_55_0 : ins 55 0 = some (.aload_n 0, 0, 0, [], none) := (L_55_0 0).trans rfl
theorem I_55_1 : ins 55 1 = some (.iconst 0, 0, 0, [], none) := (L_55_0 1).trans rfl
theorem I_55_2 : ins 55 2 = some (.iload_n 1, 0, 0, [], none) := (L_55_0 2).trans rfl
theorem I_55_3 : ins 55 3 = some (.aload_n 0, 0, 0, [], none) := (L_55_0 3).trans rfl
theorem I_55_4 : ins 55 4 = some (.getfield 22, 2, 0, [(7, 45), (1, 46), (5, 47)], none) := (L_55_0 4).trans rfl
theorem I_55_7 : ins 55 7 = some (.invokestatic 31, 2, 0, [(0, 46)], none) := (L_55_0 7).trans rfl
theorem I_55_10 : ins 55 10 = some (.invokestatic 37, 2, 0, [(0, 47)], none) := (L_55_0 10).trans rfl
theorem I_55_13 : ins 55 13 = some (.putfield 22, 2, 0, [(7, 45), (1, 46), (5, 47)], none) := (L_55_0 13).trans rfl
theorem I_55_16 : ins 55 16 = some (.aload_n 0, 0, 0, [], none) := (L_55_0 16).trans rfl
theorem I_55_17 : ins 55 17 = some (.invokevirtual 28, 0, 0, [(7, 43), (1, 44), (5, 45)], none) := (L_55_0 17).trans rfl
theorem I_55_20 : ins 55 20 = some (.return_, 0, 0, [], none) := (L_55_0 20).trans rfl
theorem L_56_0 (pc : Nat) : ins 56 pc = fnd iT56 pc := rfl
theorem I_56_0 : ins 56 0 = some (.iload_n 1, 0, 0, [], none) := (L_56_0 0).trans rfl
theorem I_56_1 : ins 56 1 = some (.ifCond .lt 29, 30, 0, [], none) := (L_56_0 1).trans rfl
theorem I_56_4 : ins 56 4 = some (.iload_n 1, 0, 0, [], some [0, 1]) := (L_56_0 4).trans rfl
theorem I_56_5 : ins 56 5 = some (.aload_n 0, 0, 0, [], none) := (L_56_0 5).trans rfl
theorem I_56_6 : ins 56 6 = some (.getfield 22, 2, 0, [(7, 45), (1, 46), (5, 47)], none) := (L_56_0 6).trans rfl
theorem I_56_9 : ins 56 9 = some (.if_icmp .ge 21, 30, 0, [], none) := (L_56_0 9).trans rfl
theorem I_56_12 : ins 56 12 = some (.iload_n 1, 0, 0, [], some [0, 1]) := (L_56_0 12).trans rfl
theorem I_56_13 : ins 56 13 = some (.aload_n 0, 0, 0, [], none) := (L_56_0 13).trans rfl
theorem I_56_14 : ins 56 14 = some (.getfield 11, 0, 0, [(7, 36), (1, 37), (5, 38)], none) := (L_56_0 14).trans rfl
theorem I_56_17 : ins 56 17 = some (.arraylength, 0, 0, [], none) := (L_56_0 17).trans rfl
theorem I_56_18 : ins 56 18 = some (.if_icmp .ge 12, 30, 0, [], none) := (L_56_0 18).trans rfl
theorem I_56_21 : ins 56 21 = some (.aload_n 0, 0, 0, [], some [0, 1]) := (L_56_0 21).trans rfl
theorem I_56_22 : ins 56 22 = some (.getfield 11, 0, 0, [(7, 36), (1, 37), (5, 38)], none) := (L_56_0 22).trans rfl
theorem I_56_25 : ins 56 25 = some (.iload_n 1, 0, 0, [], none) := (L_56_0 25).trans rfl
theorem I_56_26 : ins 56 26 = some (.iaload, 0, 0, [], none) := (L_56_0 26).trans rfl
theorem I_56_27 : ins 56 27 = some (.goto 4, 31, 0, [], none) := (L_56_0 27).trans rfl
theorem I_56_30 : ins 56 30 = some (.iconst (-1), 0, 0, [], some []) := (L_56_0 30).trans rfl
theorem I_56_31 : ins 56 31 = some (.ireturn, 0, 0, [], some []) := (L_56_0 31).trans rfl
theorem L_57_0 (pc : Nat) : ins 57 pc = fnd iT57 pc := rfl
theorem I_57_0 : ins 57 0 = some (.iload_n 1, 0, 0, [], none) := (L_57_0 0).trans rfl
theorem I_57_1 : ins 57 1 = some (.ifCond .lt 32, 33, 0, [], none) := (L_57_0 1).trans rfl
theorem I_57_4 : ins 57 4 = some (.iload_n 1, 0, 0, [], some [0, 1]) := (L_57_0 4).trans rfl
theorem I_57_5 : ins 57 5 = some (.aload_n 0, 0, 0, [], none) := (L_57_0 5).trans rfl
theorem I_57_6 : ins 57 6 = some (.getfield 22, 2, 0, [(7, 45), (1, 46), (5, 47)], none) := (L_57_0 6).trans rfl
theorem I_57_9 : ins 57 9 = some (.if_icmp .ge 24, 33, 0, [], none) := (L_57_0 9).trans rfl
theorem I_57_12 : ins 57 12 = some (.iload_n 1, 0, 0, [], some [0, 1]) := (L_57_0 12).trans rfl
theorem I_57_13 : ins 57 13 = some (.aload_n 0, 0, 0, [], none) := (L_57_0 13).trans rfl
theorem I_57_14 : ins 57 14 = some (.getfield 11, 0, 0, [(7, 36), (1, 37), (5, 38)], none) := (L_57_0 14).trans rfl
theorem I_57_17 : ins 57 17 = some (.arraylength, 0, 0, [], none) := (L_57_0 17).trans rfl
theorem I_57_18 : ins 57 18 = some (.if_icmp .ge 15, 33, 0, [], none) := (L_57_0 18).trans rfl
theorem I_57_21 : ins 57 21 = some (.aload_n 0, 0, 0, [], some [0, 1]) := (L_57_0 21).trans rfl
theorem I_57_22 : ins 57 22 = some (.getfield 11, 0, 0, [(7, 36), (1, 37), (5, 38)], none) := (L_57_0 22).trans rfl
theorem I_57_25 : ins 57 25 = some (.iload_n 1, 0, 0, [], none) := (L_57_0 25).trans rfl
theorem I_57_26 : ins 57 26 = some (.iaload, 0, 0, [], none) := (L_57_0 26).trans rfl
theorem I_57_27 : ins 57 27 = some (.bipush 48, 0, 0, [], none) := (L_57_0 27).trans rfl
theorem I_57_29 : ins 57 29 = some (.isub, 0, 0, [], none) := (L_57_0 29).trans rfl
theorem I_57_30 : ins 57 30 = some (.goto 4, 34, 0, [], none) := (L_57_0 30).trans rfl
theorem I_57_33 : ins 57 33 = some (.iconst 0, 0, 0, [], some []) := (L_57_0 33).trans rfl
theorem I_57_34 : ins 57 34 = some (.ireturn, 0, 0, [], some []) := (L_57_0 34).trans rfl
theorem L_58_0 (pc : Nat) : ins 58 pc = fnd iT58 pc := rfl
theorem I_58_0 : ins 58 0 = some (.aload_n 0, 0, 0, [], none) := (L_58_0 0).trans rfl
theorem I_58_1 : ins 58 1 = some (.iconst (-1), 0, 0, [], none) := (L_58_0 1).trans rfl
theorem I_58_2 : ins 58 2 = some (.putfield 15, 3, 0, [(7, 39), (1, 40), (5, 41)], none) := (L_58_0 2).trans rfl
theorem I_58_5 : ins 58 5 = some (.iconst 0, 0, 0, [], none) := (L_58_0 5).trans rfl
theorem I_58_6 : ins 58 6 = some (.istore_n 1, 0, 0, [], none) := (L_58_0 6).trans rfl
theorem I_58_7 : ins 58 7 = some (.iload_n 1, 0, 0, [], some [0, 1]) := (L_58_0 7).trans rfl
theorem I_58_8 : ins 58 8 = some (.aload_n 0, 0, 0, [], none) := (L_58_0 8).trans rfl
theorem I_58_9 : ins 58 9 = some (.getfield 22, 2, 0, [(7, 45), (1, 46), (5, 47)], none) := (L_58_0 9).trans rfl
theorem I_58_12 : ins 58 12 = some (.if_icmp .ge 30, 42, 0, [], none) := (L_58_0 12).trans rfl
theorem I_58_15 : ins 58 15 = some (.aload_n 0, 0, 0, [], some [0, 1]) := (L_58_0 15).trans rfl
theorem I_58_16 : ins 58 16 = some (.getfield 15, 3, 0, [(7, 39), (1, 40), (5, 41)], none) := (L_58_0 16).trans rfl
theorem I_58_19 : ins 58 19 = some (.iconst (-1), 0, 0, [], none) := (L_58_0 19).trans rfl
theorem I_58_20 : ins 58 20 = some (.if_icmp .ne 22, 42, 0, [], none) := (L_58_0 20).trans rfl
theorem I_58_23 : ins 58 23 = some (.aload_n 0, 0, 0, [], some [0, 1]) := (L_58_0 23).trans rfl
theorem I_58_24 : ins 58 24 = some (.iload_n 1, 0, 0, [], none) := (L_58_0 24).trans rfl
theorem I_58_25 : ins 58 25 = some (.invokevirtual 40, 1, 0, [(7, 48), (1, 49), (5, 50)], none) := (L_58_0 25).trans rfl
theorem I_58_28 : ins 58 28 = some (.ifCond .ne 8, 36, 0, [], none) := (L_58_0 28).trans rfl
theorem I_58_31 : ins 58 31 = some (.aload_n 0, 0, 0, [], some [0, 1]) := (L_58_0 31).trans rfl
theorem I_58_32 : ins 58 32 = some (.iload_n 1, 0, 0, [], none) := (L_58_0 32).trans rfl
theorem I_58_33 : ins 58 33 = some (.putfield 15, 3, 0, [(7, 39), (1, 40), (5, 41)], none) := (L_58_0 33).trans rfl
theorem I_58_36 : ins 58 36 = some (.iinc 1 1, 0, 0, [], some [0, 1]) := (L_58_0 36).trans rfl
theorem I_58_39 : ins 58 39 = some (.goto (-32), 7, 0, [], none) := (L_58_0 39).trans rfl
theorem I_58_42 : ins 58 42 = some (.aload_n 0, 0, 0, [], some [0]) := (L_58_0 42).trans rfl
theorem I_58_43 : ins 58 43 = some (.invokevirtual 44, 0, 0, [(7, 51), (1, 52), (5, 53)], none) := (L_58_0 43).trans rfl
theorem I_58_46 : ins 58 46 = some (.istore_n 1, 0, 0, [], none) := (L_58_0 46).trans rfl
theorem I_58_47 : ins 58 47 = some (.aload_n 0, 0, 0, [], none) := (L_58_0 47).trans rfl
theorem I_58_48 : ins 58 48 = some (.getfield 15, 3, 0, [(7, 39), (1, 40), (5, 41)], none) := (L_58_0 48).trans rfl
theorem I_58_51 : ins 58 51 = some (.iconst (-1), 0, 0, [], none) := (L_58_0 51).trans rfl
theorem I_58_52 : ins 58 52 = some (.if_icmp .ne 16, 68, 0, [], none) := (L_58_0 52).trans rfl
theorem I_58_55 : ins 58 55 = some (.iload_n 1, 0, 0, [], some [0, 1]) := (L_58_0 55).trans rfl
theorem I_58_56 : ins 58 56 = some (.iconst (-1), 0, 0, [], none) := (L_58_0 56).trans rfl
theorem I_58_57 : ins 58 57 = some (.if_icmp .ne 11, 68, 0, [], none) := (L_58_0 57).trans rfl
theorem I_58_60 : ins 58 60 = some (.aload_n 0, 0, 0, [], some [0, 1]) := (L_58_0 60).trans rfl
theorem I_58_61 : ins 58 61 = some (.aload_n 0, 0, 0, [], none) := (L_58_0 61).trans rfl
theorem I_58_62 : ins 58 62 = some (.getfield 22, 2, 0, [(7, 45), (1, 46), (5, 47)], none) := (L_58_0 62).trans rfl
theorem I_58_65 : ins 58 65 = some (.putfield 15, 3, 0, [(7, 39), (1, 40), (5, 41)], none) := (L_58_0 65).trans rfl
theorem I_58_68 : ins 58 68 = some (.aload_n 0, 0, 0, [], some [0, 1]) := (L_58_0 68).trans rfl
theorem I_58_69 : ins 58 69 = some (.aload_n 0, 0, 0, [], none) := (L_58_0 69).trans rfl
theorem I_58_70 : ins 58 70 = some (.getfield 15, 3, 0, [(7, 39), (1, 40), (5, 41)], none) := (L_58_0 70).trans rfl
theorem I_58_73 : ins 58 73 = some (.iconst (-1), 0, 0, [], none) := (L_58_0 73).trans rfl
theorem I_58_74 : ins 58 74 = some (.if_icmp .ne 7, 81, 0, [], none) := (L_58_0 74).trans rfl
theorem I_58_77 : ins 58 77 = some (.iload_n 1, 0, 0, [], some [1]) := (L_58_0 77).trans rfl
theorem I_58_78 : ins 58 78 = some (.goto 4, 82, 0, [], none) := (L_58_0 78).trans rfl
theorem I_58_81 : ins 58 81 = some (.iconst 0, 0, 0, [], some []) := (L_58_0 81).trans rfl
theorem I_58_82 : ins 58 82 = some (.putfield 25, 4, 0, [(7, 48), (1, 49), (5, 50)], some []) := (L_58_0 82).trans rfl
theorem I_58_85 : ins 58 85 = some (.return_, 0, 0, [], none) := (L_58_0 85).trans rfl
theorem L_59_0 (pc : Nat) : ins 59 pc = fnd iT59 pc := rfl
theorem I_59_0 : ins 59 0 = some (.iload_n 0, 0, 0, [], none) := (L_59_0 0).trans rfl
theorem I_59_1 : ins 59 1 = some (.bipush 48, 0, 0, [], none) := (L_59_0 1).trans rfl
theorem I_59_3 : ins 59 3 = some (.iload_n 1, 0, 0, [], none) := (L_59_0 3).trans rfl
theorem I_59_4 : ins 59 4 = some (.iadd, 0, 0, [], none) := (L_59_0 4).trans rfl
theorem I_59_5 : ins 59 5 = some (.if_icmp .lt 13, 18, 0, [], none) := (L_59_0 5).trans rfl
theorem I_59_8 : ins 59 8 = some (.iload_n 0, 0, 0, [], some [0]) := (L_59_0 8).trans rfl
theorem I_59_9 : ins 59 9 = some (.bipush 57, 0, 0, [], none) := (L_59_0 9).trans rfl
theorem I_59_11 : ins 59 11 = some (.if_icmp .gt 7, 18, 0, [], none) := (L_59_0 11).trans rfl
theorem I_59_14 : ins 59 14 = some (.iconst 1, 0, 0, [], some []) := (L_59_0 14).trans rfl
theorem I_59_15 : ins 59 15 = some (.goto 4, 19, 0, [], none) := (L_59_0 15).trans rfl
theorem I_59_18 : ins 59 18 = some (.iconst 0, 0, 0, [], some []) := (L_59_0 18).trans rfl
theorem I_59_19 : ins 59 19 = some (.ireturn, 0, 0, [], some []) := (L_59_0 19).trans rfl
theorem L_61_0 (pc : Nat) : ins 61 pc = fnd iT61 pc := rfl
theorem I_61_0 : ins 61 0 = some (.aload_n 0, 0, 0, [], none) := (L_61_0 0).trans rfl
theorem I_61_1 : ins 61 1 = some (.iconst 1, 0, 0, [], none) := (L_61_0 1).trans rfl
theorem I_61_2 : ins 61 2 = some (.putfield 32, 10, 0, [(8, 57)], none) := (L_61_0 2).trans rfl
theorem I_61_5 : ins 61 5 = some (.return_, 0, 0, [], none) := (L_61_0 5).trans rfl
theorem L_62_0 (pc : Nat) : ins 62 pc = fnd iT62 pc := rfl
theorem I_62_0 : ins 62 0 = some (.aload_n 0, 0, 0, [], none) := (L_62_0 0).trans rfl
theorem I_62_1 : ins 62 1 = some (.getfield 28, 8, 0, [(8, 56)], none) := (L_62_0 1).trans rfl
theorem I_62_4 : ins 62 4 = some (.istore_n 2, 0, 0, [], none) := (L_62_0 4).trans rfl
theorem I_62_5 : ins 62 5 = some (.aload_n 0, 0, 0, [], none) := (L_62_0 5).trans rfl
theorem I_62_6 : ins 62 6 = some (.iload_n 1, 0, 0, [], none) := (L_62_0 6).trans rfl
theorem I_62_7 : ins 62 7 = some (.putfield 28, 8, 0, [(8, 56)], none) := (L_62_0 7).trans rfl
theorem I_62_10 : ins 62 10 = some (.aload_n 0, 0, 0, [], none) := (L_62_0 10).trans rfl
theorem I_62_11 : ins 62 11 = some (.iconst 1, 0, 0, [], none) := (L_62_0 11).trans rfl
theorem I_62_12 : ins 62 12 = some (.putfield 32, 10, 0, [(8, 57)], none) := (L_62_0 12).trans rfl
theorem I_62_15 : ins 62 15 = some (.iload_n 2, 0, 0, [], none) := (L_62_0 15).trans rfl
theorem I_62_16 : ins 62 16 = some (.ireturn, 0, 0, [], none) := (L_62_0 16).trans rfl
theorem L_63_0 (pc : Nat) : ins 63 pc = fnd iT63 pc := rfl
theorem I_63_0 : ins 63 0 = some (.aload_n 0, 0, 0, [], none) := (L_63_0 0).trans rfl
theorem I_63_1 : ins 63 1 = some (.getfield 48, 9, 0, [(8, 61)], none) := (L_63_0 1).trans rfl
theorem I_63_4 : ins 63 4 = some (.istore_n 2, 0, 0, [], none) := (L_63_0 4).trans rfl
theorem I_63_5 : ins 63 5 = some (.aload_n 0, 0, 0, [], none) := (L_63_0 5).trans rfl
theorem I_63_6 : ins 63 6 = some (.iload_n 1, 0, 0, [], none) := (L_63_0 6).trans rfl
theorem I_63_7 : ins 63 7 = some (.putfield 48, 9, 0, [(8, 61)], none) := (L_63_0 7).trans rfl
theorem I_63_10 : ins 63 10 = some (.aload_n 0, 0, 0, [], none) := (L_63_0 10).trans rfl
theorem I_63_11 : ins 63 11 = some (.iconst 1, 0, 0, [], none) := (L_63_0 11).trans rfl
theorem I_63_12 : ins 63 12 = some (.putfield 32, 10, 0, [(8, 57)], none) := (L_63_0 12).trans rfl
theorem I_63_15 : ins 63 15 = some (.iload_n 2, 0, 0, [], none) := (L_63_0 15).trans rfl
theorem I_63_16 : ins 63 16 = some (.ireturn, 0, 0, [], none) := (L_63_0 16).trans rfl
theorem L_64_0 (pc : Nat) : ins 64 pc = fnd iT64 pc := rfl
theorem I_64_0 : ins 64 0 = some (.aload_n 0, 0, 0, [], none) := (L_64_0 0).trans rfl
theorem I_64_1 : ins 64 1 = some (.getfield 32, 10, 0, [(8, 57)], none) := (L_64_0 1).trans rfl
theorem I_64_4 : ins 64 4 = some (.ifCond .ne 4, 8, 0, [], none) := (L_64_0 4).trans rfl
theorem I_64_7 : ins 64 7 = some (.return_, 0, 0, [], some []) := (L_64_0 7).trans rfl
theorem I_64_8 : ins 64 8 = some (.aload_n 0, 0, 0, [], some [0]) := (L_64_0 8).trans rfl
theorem I_64_9 : ins 64 9 = some (.iconst 0, 0, 0, [], none) := (L_64_0 9).trans rfl
theorem I_64_10 : ins 64 10 = some (.putfield 32, 10, 0, [(8, 57)], none) := (L_64_0 10).trans rfl
theorem I_64_13 : ins 64 13 = some (.aload_n 0, 0, 0, [], none) := (L_64_0 13).trans rfl
theorem I_64_14 : ins 64 14 = some (.iconst 0, 0, 0, [], none) := (L_64_0 14).trans rfl
theorem I_64_15 : ins 64 15 = some (.invokevirtual 51, 1, 0, [(8, 55)], none) := (L_64_0 15).trans rfl
theorem I_64_18 : ins 64 18 = some (.aload_n 0, 0, 0, [], none) := (L_64_0 18).trans rfl
theorem I_64_19 : ins 64 19 = some (.iconst 0, 0, 0, [], none) := (L_64_0 19).trans rfl
theorem I_64_20 : ins 64 20 = some (.invokevirtual 55, 1, 0, [(8, 56)], none) := (L_64_0 20).trans rfl
theorem I_64_23 : ins 64 23 = some (.aload_n 0, 0, 0, [], none) := (L_64_0 23).trans rfl
theorem I_64_24 : ins 64 24 = some (.iconst 0, 0, 0, [], none) := (L_64_0 24).trans rfl
theorem I_64_25 : ins 64 25 = some (.invokevirtual 58, 1, 0, [(8, 57)], none) := (L_64_0 25).trans rfl
theorem I_64_28 : ins 64 28 = some (.pop, 0, 0, [], none) := (L_64_0 28).trans rfl
theorem I_64_29 : ins 64 29 = some (.iconst 0, 0, 0, [], none) := (L_64_0 29).trans rfl
theorem I_64_30 : ins 64 30 = some (.istore_n 1, 0, 0, [], none) := (L_64_0 30).trans rfl
theorem I_64_31 : ins 64 31 = some (.iload_n 1, 0, 0, [], some [0, 1]) := (L_64_0 31).trans rfl
theorem I_64_32 : ins 64 32 = some (.aload_n 0, 0, 0, [], none) := (L_64_0 32).trans rfl
theorem I_64_33 : ins 64 33 = some (.getfield 44, 2, 0, [(8, 60)], none) := (L_64_0 33).trans rfl
theorem I_64_36 : ins 64 36 = some (.getfield 62, 4, 0, [(5, 62)], none) := (L_64_0 36).trans rfl
theorem I_64_39 : ins 64 39 = some (.if_icmp .ge 46, 85, 0, [], none) := (L_64_0 39).trans rfl
theorem I_64_42 : ins 64 42 = some (.iload_n 1, 0, 0, [], some [0, 1]) := (L_64_0 42).trans rfl
theorem I_64_43 : ins 64 43 = some (.bipush 24, 0, 0, [], none) := (L_64_0 43).trans rfl
theorem I_64_45 : ins 64 45 = some (.if_icmp .ge 40, 85, 0, [], none) := (L_64_0 45).trans rfl
theorem I_64_48 : ins 64 48 = some (.aload_n 0, 0, 0, [], some [0, 1]) := (L_64_0 48).trans rfl
theorem I_64_49 : ins 64 49 = some (.iload_n 1, 0, 0, [], none) := (L_64_0 49).trans rfl
theorem I_64_50 : ins 64 50 = some (.iload_n 1, 0, 0, [], none) := (L_64_0 50).trans rfl
theorem I_64_51 : ins 64 51 = some (.iconst 1, 0, 0, [], none) := (L_64_0 51).trans rfl
theorem I_64_52 : ins 64 52 = some (.iadd, 0, 0, [], none) := (L_64_0 52).trans rfl
theorem I_64_53 : ins 64 53 = some (.aload_n 0, 0, 0, [], none) := (L_64_0 53).trans rfl
theorem I_64_54 : ins 64 54 = some (.getfield 44, 2, 0, [(8, 60)], none) := (L_64_0 54).trans rfl
theorem I_64_57 : ins 64 57 = some (.iload_n 1, 0, 0, [], none) := (L_64_0 57).trans rfl
theorem I_64_58 : ins 64 58 = some (.invokevirtual 67, 1, 0, [(5, 58)], none) := (L_64_0 58).trans rfl
theorem I_64_61 : ins 64 61 = some (.invokevirtual 70, 3, 0, [(8, 59)], none) := (L_64_0 61).trans rfl
theorem I_64_64 : ins 64 64 = some (.aload_n 0, 0, 0, [], none) := (L_64_0 64).trans rfl
theorem I_64_65 : ins 64 65 = some (.iload_n 1, 0, 0, [], none) := (L_64_0 65).trans rfl
theorem I_64_66 : ins 64 66 = some (.iconst 1, 0, 0, [], none) := (L_64_0 66).trans rfl
theorem I_64_67 : ins 64 67 = some (.iadd, 0, 0, [], none) := (L_64_0 67).trans rfl
theorem I_64_68 : ins 64 68 = some (.invokevirtual 55, 1, 0, [(8, 56)], none) := (L_64_0 68).trans rfl
theorem I_64_71 : ins 64 71 = some (.aload_n 0, 0, 0, [], none) := (L_64_0 71).trans rfl
theorem I_64_72 : ins 64 72 = some (.iload_n 1, 0, 0, [], none) := (L_64_0 72).trans rfl
theorem I_64_73 : ins 64 73 = some (.iconst 1, 0, 0, [], none) := (L_64_0 73).trans rfl
theorem I_64_74 : ins 64 74 = some (.iadd, 0, 0, [], none) := (L_64_0 74).trans rfl
theorem I_64_75 : ins 64 75 = some (.invokevirtual 58, 1, 0, [(8, 57)], none) := (L_64_0 75).trans rfl
theorem I_64_78 : ins 64 78 = some (.pop, 0, 0, [], none) := (L_64_0 78).trans rfl
theorem I_64_79 : ins 64 79 = some (.iinc 1 1, 0, 0, [], none) := (L_64_0 79).trans rfl
theorem I_64_82 : ins 64 82 = some (.goto (-51), 31, 0, [], none) := (L_64_0 82).trans rfl
theorem I_64_85 : ins 64 85 = some (.return_, 0, 0, [], some []) := (L_64_0 85).trans rfl
theorem L_65_0 (pc : Nat) : ins 65 pc = fnd iT65 pc := rfl
theorem I_65_0 : ins 65 0 = some (.iload_n 1, 0, 0, [], none) := (L_65_0 0).trans rfl
theorem I_65_1 : ins 65 1 = some (.iload_n 2, 0, 0, [], none) := (L_65_0 1).trans rfl
theorem I_65_2 : ins 65 2 = some (.invokestatic 74, 2, 0, [(0, 60)], none) := (L_65_0 2).trans rfl
theorem I_65_5 : ins 65 5 = some (.ifCond .eq 14, 19, 0, [], none) := (L_65_0 5).trans rfl
theorem I_65_8 : ins 65 8 = some (.aload_n 0, 0, 0, [], some [0, 1, 2]) := (L_65_0 8).trans rfl
theorem I_65_9 : ins 65 9 = some (.getfield 13, 3, 0, [(8, 51)], none) := (L_65_0 9).trans rfl
theorem I_65_12 : ins 65 12 = some (.iload_n 1, 0, 0, [], none) := (L_65_0 12).trans rfl
theorem I_65_13 : ins 65 13 = some (.aaload, 0, 0, [], none) := (L_65_0 13).trans rfl
theorem I_65_14 : ins 65 14 = some (.iload_n 2, 0, 0, [], none) := (L_65_0 14).trans rfl
theorem I_65_15 : ins 65 15 = some (.iaload, 0, 0, [], none) := (L_65_0 15).trans rfl
theorem I_65_16 : ins 65 16 = some (.goto 4, 20, 0, [], none) := (L_65_0 16).trans rfl
theorem I_65_19 : ins 65 19 = some (.iconst 0, 0, 0, [], some []) := (L_65_0 19).trans rfl
theorem I_65_20 : ins 65 20 = some (.ireturn, 0, 0, [], some []) := (L_65_0 20).trans rfl
theorem L_66_0 (pc : Nat) : ins 66 pc = fnd iT66 pc := rfl
theorem I_66_0 : ins 66 0 = some (.iload_n 1, 0, 0, [], none) := (L_66_0 0).trans rfl
theorem I_66_1 : ins 66 1 = some (.iload_n 2, 0, 0, [], none) := (L_66_0 1).trans rfl
theorem I_66_2 : ins 66 2 = some (.invokestatic 74, 2, 0, [(0, 60)], none) := (L_66_0 2).trans rfl
theorem I_66_5 : ins 66 5 = some (.ifCond .eq 14, 19, 0, [], none) := (L_66_0 5).trans rfl
theorem I_66_8 : ins 66 8 = some (.aload_n 0, 0, 0, [], some [0, 1, 2]) := (L_66_0 8).trans rfl
theorem I_66_9 : ins 66 9 = some (.getfield 16, 4, 0, [(8, 52)], none) := (L_66_0 9).trans rfl
theorem I_66_12 : ins 66 12 = some (.iload_n 1, 0, 0, [], none) := (L_66_0 12).trans rfl
theorem I_66_13 : ins 66 13 = some (.aaload, 0, 0, [], none) := (L_66_0 13).trans rfl
theorem I_66_14 : ins 66 14 = some (.iload_n 2, 0, 0, [], none) := (L_66_0 14).trans rfl
theorem I_66_15 : ins 66 15 = some (.iaload, 0, 0, [], none) := (L_66_0 15).trans rfl
theorem I_66_16 : ins 66 16 = some (.goto 4, 20, 0, [], none) := (L_66_0 16).trans rfl
theorem I_66_19 : ins 66 19 = some (.iconst 0, 0, 0, [], some []) := (L_66_0 19).trans rfl
theorem I_66_20 : ins 66 20 = some (.ireturn, 0, 0, [], some []) := (L_66_0 20).trans rfl
theorem L_67_0 (pc : Nat) : ins 67 pc = fnd iT67 pc := rfl
theorem I_67_0 : ins 67 0 = some (.iload_n 1, 0, 0, [], none) := (L_67_0 0).trans rfl
theorem I_67_1 : ins 67 1 = some (.iload_n 2, 0, 0, [], none) := (L_67_0 1).trans rfl
theorem I_67_2 : ins 67 2 = some (.invokestatic 74, 2, 0, [(0, 60)], none) := (L_67_0 2).trans rfl
theorem I_67_5 : ins 67 5 = some (.ifCond .eq 14, 19, 0, [], none) := (L_67_0 5).trans rfl
theorem I_67_8 : ins 67 8 = some (.aload_n 0, 0, 0, [], some [0, 1, 2]) := (L_67_0 8).trans rfl
theorem I_67_9 : ins 67 9 = some (.getfield 19, 5, 0, [(8, 53)], none) := (L_67_0 9).trans rfl
theorem I_67_12 : ins 67 12 = some (.iload_n 1, 0, 0, [], none) := (L_67_0 12).trans rfl
theorem I_67_13 : ins 67 13 = some (.aaload, 0, 0, [], none) := (L_67_0 13).trans rfl
theorem I_67_14 : ins 67 14 = some (.iload_n 2, 0, 0, [], none) := (L_67_0 14).trans rfl
theorem I_67_15 : ins 67 15 = some (.iaload, 0, 0, [], none) := (L_67_0 15).trans rfl
theorem I_67_16 : ins 67 16 = some (.goto 4, 20, 0, [], none) := (L_67_0 16).trans rfl
theorem I_67_19 : ins 67 19 = some (.iconst 0, 0, 0, [], some []) := (L_67_0 19).trans rfl
theorem I_67_20 : ins 67 20 = some (.ireturn, 0, 0, [], some []) := (L_67_0 20).trans rfl
theorem L_68_0 (pc : Nat) : ins 68 pc = fnd iT68 pc := rfl
theorem I_68_0 : ins 68 0 = some (.iload_n 1, 0, 0, [], none) := (L_68_0 0).trans rfl
theorem I_68_1 : ins 68 1 = some (.ifCond .lt 30, 31, 0, [], none) := (L_68_0 1).trans rfl
theorem I_68_4 : ins 68 4 = some (.iload_n 1, 0, 0, [], some [0, 1, 2]) := (L_68_0 4).trans rfl
theorem I_68_5 : ins 68 5 = some (.bipush 26, 0, 0, [], none) := (L_68_0 5).trans rfl
theorem I_68_7 : ins 68 7 = some (.if_icmp .ge 24, 31, 0, [], none) := (L_68_0 7).trans rfl
theorem I_68_10 : ins 68 10 = some (.iload_n 2, 0, 0, [], some [0, 1, 2]) := (L_68_0 10).trans rfl
theorem I_68_11 : ins 68 11 = some (.ifCond .lt 20, 31, 0, [], none) := (L_68_0 11).trans rfl
theorem I_68_14 : ins 68 14 = some (.iload_n 2, 0, 0, [], some [0, 1, 2]) := (L_68_0 14).trans rfl
theorem I_68_15 : ins 68 15 = some (.bipush 8, 0, 0, [], none) := (L_68_0 15).trans rfl
theorem I_68_17 : ins 68 17 = some (.if_icmp .ge 14, 31, 0, [], none) := (L_68_0 17).trans rfl
theorem I_68_20 : ins 68 20 = some (.aload_n 0, 0, 0, [], some [0, 1, 2]) := (L_68_0 20).trans rfl
theorem I_68_21 : ins 68 21 = some (.getfield 25, 7, 0, [(8, 55)], none) := (L_68_0 21).trans rfl
theorem I_68_24 : ins 68 24 = some (.iload_n 1, 0, 0, [], none) := (L_68_0 24).trans rfl
theorem I_68_25 : ins 68 25 = some (.aaload, 0, 0, [], none) := (L_68_0 25).trans rfl
theorem I_68_26 : ins 68 26 = some (.iload_n 2, 0, 0, [], none) := (L_68_0 26).trans rfl
theorem I_68_27 : ins 68 27 = some (.iaload, 0, 0, [], none) := (L_68_0 27).trans rfl
theorem I_68_28 : ins 68 28 = some (.goto 4, 32, 0, [], none) := (L_68_0 28).trans rfl
theorem I_68_31 : ins 68 31 = some (.iconst (-1), 0, 0, [], some []) := (L_68_0 31).trans rfl
theorem I_68_32 : ins 68 32 = some (.ireturn, 0, 0, [], some []) := (L_68_0 32).trans rfl
theorem L_69_0 (pc : Nat) : ins 69 pc = fnd iT69 pc := rfl
theorem I_69_0 : ins 69 0 = some (.iload_n 1, 0, 0, [], none) := (L_69_0 0).trans rfl
theorem I_69_1 : ins 69 1 = some (.iload_n 2, 0, 0, [], none) := (L_69_0 1).trans rfl
theorem I_69_2 : ins 69 2 = some (.invokestatic 74, 2, 0, [(0, 60)], none) := (L_69_0 2).trans rfl
theorem I_69_5 : ins 69 5 = some (.ifCond .eq 25, 30, 0, [], none) := (L_69_0 5).trans rfl
theorem I_69_8 : ins 69 8 = some (.aload_n 0, 0, 0, [], some [0, 1, 2]) := (L_69_0 8).trans rfl
theorem I_69_9 : ins 69 9 = some (.getfield 36, 0, 0, [(8, 58)], none) := (L_69_0 9).trans rfl
theorem I_69_12 : ins 69 12 = some (.iload_n 2, 0, 0, [], none) := (L_69_0 12).trans rfl
theorem I_69_13 : ins 69 13 = some (.invokevirtual 78, 1, 0, [(7, 61)], none) := (L_69_0 13).trans rfl
theorem I_69_16 : ins 69 16 = some (.ifCond .eq 14, 30, 0, [], none) := (L_69_0 16).trans rfl
theorem I_69_19 : ins 69 19 = some (.aload_n 0, 0, 0, [], some [0, 1, 2]) := (L_69_0 19).trans rfl
theorem I_69_20 : ins 69 20 = some (.getfield 22, 6, 0, [(8, 54)], none) := (L_69_0 20).trans rfl
theorem I_69_23 : ins 69 23 = some (.iload_n 1, 0, 0, [], none) := (L_69_0 23).trans rfl
theorem I_69_24 : ins 69 24 = some (.aaload, 0, 0, [], none) := (L_69_0 24).trans rfl
theorem I_69_25 : ins 69 25 = some (.iload_n 2, 0, 0, [], none) := (L_69_0 25).trans rfl
theorem I_69_26 : ins 69 26 = some (.iaload, 0, 0, [], none) := (L_69_0 26).trans rfl
theorem I_69_27 : ins 69 27 = some (.goto 4, 31, 0, [], none) := (L_69_0 27).trans rfl
theorem I_69_30 : ins 69 30 = some (.iconst 0, 0, 0, [], some []) := (L_69_0 30).trans rfl
theorem I_69_31 : ins 69 31 = some (.ireturn, 0, 0, [], some []) := (L_69_0 31).trans rfl
theorem L_70_0 (pc : Nat) : ins 70 pc = fnd iT70 pc := rfl
theorem I_70_0 : ins 70 0 = some (.iconst 0, 0, 0, [], none) := (L_70_0 0).trans rfl
theorem I_70_1 : ins 70 1 = some (.istore_n 3, 0, 0, [], none) := (L_70_0 1).trans rfl
theorem I_70_2 : ins 70 2 = some (.iconst 0, 0, 0, [], none) := (L_70_0 2).trans rfl
theorem I_70_3 : ins 70 3 = some (.istore 4, 0, 0, [], none) := (L_70_0 3).trans rfl
theorem I_70_5 : ins 70 5 = some (.iload 4, 0, 0, [], some [0, 1, 2, 3, 4]) := (L_70_0 5).trans rfl
theorem I_70_7 : ins 70 7 = some (.aload_n 0, 0, 0, [], none) := (L_70_0 7).trans rfl
theorem I_70_8 : ins 70 8 = some (.getfield 36, 0, 0, [(8, 58)], none) := (L_70_0 8).trans rfl
theorem I_70_11 : ins 70 11 = some (.getfield 84, 4, 0, [(7, 63)], none) := (L_70_0 11).trans rfl
theorem I_70_14 : ins 70 14 = some (.if_icmp .ge 30, 44, 0, [], none) := (L_70_0 14).trans rfl
theorem I_70_17 : ins 70 17 = some (.aload_n 0, 0, 0, [], some [0, 1, 2, 3, 4]) := (L_70_0 17).trans rfl
theorem I_70_18 : ins 70 18 = some (.iload_n 1, 0, 0, [], none) := (L_70_0 18).trans rfl
theorem I_70_19 : ins 70 19 = some (.iload 4, 0, 0, [], none) := (L_70_0 19).trans rfl
theorem I_70_21 : ins 70 21 = some (.invokevirtual 85, 2, 0, [(8, 62)], none) := (L_70_0 21).trans rfl
theorem I_70_24 : ins 70 24 = some (.iload_n 2, 0, 0, [], none) := (L_70_0 24).trans rfl
theorem I_70_25 : ins 70 25 = some (.ishr, 0, 0, [], none) := (L_70_0 25).trans rfl
theorem I_70_26 : ins 70 26 = some (.iconst 1, 0, 0, [], none) := (L_70_0 26).trans rfl
theorem I_70_27 : ins 70 27 = some (.iand, 0, 0, [], none) := (L_70_0 27).trans rfl
theorem I_70_28 : ins 70 28 = some (.ifCond .eq 10, 38, 0, [], none) := (L_70_0 28).trans rfl
theorem I_70_31 : ins 70 31 = some (.iload_n 3, 0, 0, [], some [0, 1, 2, 3, 4]) := (L_70_0 31).trans rfl
theorem I_70_32 : ins 70 32 = some (.iconst 1, 0, 0, [], none) := (L_70_0 32).trans rfl
theorem I_70_33 : ins 70 33 = some (.iload 4, 0, 0, [], none) := (L_70_0 33).trans rfl
theorem I_70_35 : ins 70 35 = some (.ishl, 0, 0, [], none) := (L_70_0 35).trans rfl
theorem I_70_36 : ins 70 36 = some (.ior, 0, 0, [], none) := (L_70_0 36).trans rfl
theorem I_70_37 : ins 70 37 = some (.istore_n 3, 0, 0, [], none) := (L_70_0 37).trans rfl
theorem I_70_38 : ins 70 38 = some (.iinc 4 1, 0, 0, [], some [0, 1, 2, 3, 4]) := (L_70_0 38).trans rfl
theorem I_70_41 : ins 70 41 = some (.goto (-36), 5, 0, [], none) := (L_70_0 41).trans rfl
theorem I_70_44 : ins 70 44 = some (.iload_n 3, 0, 0, [], some [3]) := (L_70_0 44).trans rfl
theorem I_70_45 : ins 70 45 = some (.ireturn, 0, 0, [], none) := (L_70_0 45).trans rfl
theorem L_71_0 (pc : Nat) : ins 71 pc = fnd iT71 pc := rfl
theorem I_71_0 : ins 71 0 = some (.iconst 0, 0, 0, [], none) := (L_71_0 0).trans rfl
theorem I_71_1 : ins 71 1 = some (.istore_n 2, 0, 0, [], none) := (L_71_0 1).trans rfl
theorem I_71_2 : ins 71 2 = some (.iconst 0, 0, 0, [], none) := (L_71_0 2).trans rfl
theorem I_71_3 : ins 71 3 = some (.istore_n 3, 0, 0, [], none) := (L_71_0 3).trans rfl
theorem I_71_4 : ins 71 4 = some (.iload_n 3, 0, 0, [], some [0, 1, 2, 3]) := (L_71_0 4).trans rfl
theorem I_71_5 : ins 71 5 = some (.aload_n 0, 0, 0, [], none) := (L_71_0 5).trans rfl
theorem I_71_6 : ins 71 6 = some (.getfield 36, 0, 0, [(8, 58)], none) := (L_71_0 6).trans rfl
theorem I_71_9 : ins 71 9 = some (.getfield 84, 4, 0, [(7, 63)], none) := (L_71_0 9).trans rfl
theorem I_71_12 : ins 71 12 = some (.if_icmp .ge 25, 37, 0, [], none) := (L_71_0 12).trans rfl
theorem I_71_15 : ins 71 15 = some (.aload_n 0, 0, 0, [], some [0, 1, 2, 3]) := (L_71_0 15).trans rfl
theorem I_71_16 : ins 71 16 = some (.iload_n 1, 0, 0, [], none) := (L_71_0 16).trans rfl
theorem I_71_17 : ins 71 17 = some (.iload_n 3, 0, 0, [], none) := (L_71_0 17).trans rfl
theorem I_71_18 : ins 71 18 = some (.invokevirtual 89, 2, 0, [(8, 63)], none) := (L_71_0 18).trans rfl
theorem I_71_21 : ins 71 21 = some (.iconst (-1), 0, 0, [], none) := (L_71_0 21).trans rfl
theorem I_71_22 : ins 71 22 = some (.if_icmp .ne 9, 31, 0, [], none) := (L_71_0 22).trans rfl
theorem I_71_25 : ins 71 25 = some (.iload_n 2, 0, 0, [], some [0, 1, 2, 3]) := (L_71_0 25).trans rfl
theorem I_71_26 : ins 71 26 = some (.iconst 1, 0, 0, [], none) := (L_71_0 26).trans rfl
theorem I_71_27 : ins 71 27 = some (.iload_n 3, 0, 0, [], none) := (L_71_0 27).trans rfl
theorem I_71_28 : ins 71 28 = some (.ishl, 0, 0, [], none) := (L_71_0 28).trans rfl
theorem I_71_29 : ins 71 29 = some (.ior, 0, 0, [], none) := (L_71_0 29).trans rfl
theorem I_71_30 : ins 71 30 = some (.istore_n 2, 0, 0, [], none) := (L_71_0 30).trans rfl
theorem I_71_31 : ins 71 31 = some (.iinc 3 1, 0, 0, [], some [0, 1, 2, 3]) := (L_71_0 31).trans rfl
theorem I_71_34 : ins 71 34 = some (.goto (-30), 4, 0, [], none) := (L_71_0 34).trans rfl
theorem I_71_37 : ins 71 37 = some (.iload_n 2, 0, 0, [], some [2]) := (L_71_0 37).trans rfl
theorem I_71_38 : ins 71 38 = some (.ireturn, 0, 0, [], none) := (L_71_0 38).trans rfl
theorem L_72_0 (pc : Nat) : ins 72 pc = fnd iT72 pc := rfl
theorem I_72_0 : ins 72 0 = some (.iconst 0, 0, 0, [], none) := (L_72_0 0).trans rfl
theorem I_72_1 : ins 72 1 = some (.istore_n 2, 0, 0, [], none) := (L_72_0 1).trans rfl
theorem I_72_2 : ins 72 2 = some (.iconst 0, 0, 0, [], none) := (L_72_0 2).trans rfl
theorem I_72_3 : ins 72 3 = some (.istore_n 3, 0, 0, [], none) := (L_72_0 3).trans rfl
theorem I_72_4 : ins 72 4 = some (.iload_n 3, 0, 0, [], some [0, 1, 2, 3]) := (L_72_0 4).trans rfl
theorem I_72_5 : ins 72 5 = some (.aload_n 0, 0, 0, [], none) := (L_72_0 5).trans rfl
theorem I_72_6 : ins 72 6 = some (.getfield 40, 1, 0, [(8, 59)], none) := (L_72_0 6).trans rfl
theorem I_72_9 : ins 72 9 = some (.getfield 92, 4, 0, [(1, 64)], none) := (L_72_0 9).trans rfl
theorem I_72_12 : ins 72 12 = some (.if_icmp .ge 24, 36, 0, [], none) := (L_72_0 12).trans rfl
theorem I_72_15 : ins 72 15 = some (.aload_n 0, 0, 0, [], some [0, 1, 2, 3]) := (L_72_0 15).trans rfl
theorem I_72_16 : ins 72 16 = some (.iload_n 1, 0, 0, [], none) := (L_72_0 16).trans rfl
theorem I_72_17 : ins 72 17 = some (.iload_n 3, 0, 0, [], none) := (L_72_0 17).trans rfl
theorem I_72_18 : ins 72 18 = some (.invokevirtual 95, 2, 0, [(8, 64)], none) := (L_72_0 18).trans rfl
theorem I_72_21 : ins 72 21 = some (.ifCond .ne 9, 30, 0, [], none) := (L_72_0 21).trans rfl
theorem I_72_24 : ins 72 24 = some (.iload_n 2, 0, 0, [], some [0, 1, 2, 3]) := (L_72_0 24).trans rfl
theorem I_72_25 : ins 72 25 = some (.iconst 1, 0, 0, [], none) := (L_72_0 25).trans rfl
theorem I_72_26 : ins 72 26 = some (.iload_n 3, 0, 0, [], none) := (L_72_0 26).trans rfl
theorem I_72_27 : ins 72 27 = some (.ishl, 0, 0, [], none) := (L_72_0 27).trans rfl
theorem I_72_28 : ins 72 28 = some (.ior, 0, 0, [], none) := (L_72_0 28).trans rfl
theorem I_72_29 : ins 72 29 = some (.istore_n 2, 0, 0, [], none) := (L_72_0 29).trans rfl
theorem I_72_30 : ins 72 30 = some (.iinc 3 1, 0, 0, [], some [0, 1, 2, 3]) := (L_72_0 30).trans rfl
theorem I_72_33 : ins 72 33 = some (.goto (-29), 4, 0, [], none) := (L_72_0 33).trans rfl
theorem I_72_36 : ins 72 36 = some (.iload_n 2, 0, 0, [], some [2]) := (L_72_0 36).trans rfl
theorem I_72_37 : ins 72 37 = some (.ireturn, 0, 0, [], none) := (L_72_0 37).trans rfl
theorem L_73_0 (pc : Nat) : ins 73 pc = fnd iT73 pc := rfl
theorem I_73_0 : ins 73 0 = some (.aload_n 0, 0, 0, [], none) := (L_73_0 0).trans rfl
theorem I_73_1 : ins 73 1 = some (.getfield 44, 2, 0, [(8, 60)], none) := (L_73_0 1).trans rfl
theorem I_73_4 : ins 73 4 = some (.iload_n 1, 0, 0, [], none) := (L_73_0 4).trans rfl
theorem I_73_5 : ins 73 5 = some (.invokevirtual 67, 1, 0, [(5, 58)], none) := (L_73_0 5).trans rfl
theorem I_73_8 : ins 73 8 = some (.iconst 2, 0, 0, [], none) := (L_73_0 8).trans rfl
theorem I_73_9 : ins 73 9 = some (.if_icmp .eq 5, 14, 0, [], none) := (L_73_0 9).trans rfl
theorem I_73_12 : ins 73 12 = some (.iconst 0, 0, 0, [], some []) := (L_73_0 12).trans rfl
theorem I_73_13 : ins 73 13 = some (.ireturn, 0, 0, [], none) := (L_73_0 13).trans rfl
theorem I_73_14 : ins 73 14 = some (.iconst 0, 0, 0, [], some [0, 1]) := (L_73_0 14).trans rfl
theorem I_73_15 : ins 73 15 = some (.istore_n 2, 0, 0, [], none) := (L_73_0 15).trans rfl
theorem I_73_16 : ins 73 16 = some (.iconst 0, 0, 0, [], none) := (L_73_0 16).trans rfl
theorem I_73_17 : ins 73 17 = some (.istore_n 3, 0, 0, [], none) := (L_73_0 17).trans rfl
theorem I_73_18 : ins 73 18 = some (.iload_n 3, 0, 0, [], some [0, 1, 2, 3]) := (L_73_0 18).trans rfl
theorem I_73_19 : ins 73 19 = some (.aload_n 0, 0, 0, [], none) := (L_73_0 19).trans rfl
theorem I_73_20 : ins 73 20 = some (.getfield 36, 0, 0, [(8, 58)], none) := (L_73_0 20).trans rfl
theorem I_73_23 : ins 73 23 = some (.getfield 84, 4, 0, [(7, 63)], none) := (L_73_0 23).trans rfl
theorem I_73_26 : ins 73 26 = some (.if_icmp .ge 38, 64, 0, [], none) := (L_73_0 26).trans rfl
theorem I_73_29 : ins 73 29 = some (.aload_n 0, 0, 0, [], some [0, 1, 2, 3]) := (L_73_0 29).trans rfl
theorem I_73_30 : ins 73 30 = some (.getfield 36, 0, 0, [(8, 58)], none) := (L_73_0 30).trans rfl
theorem I_73_33 : ins 73 33 = some (.iload_n 3, 0, 0, [], none) := (L_73_0 33).trans rfl
theorem I_73_34 : ins 73 34 = some (.invokevirtual 98, 1, 0, [(7, 65)], none) := (L_73_0 34).trans rfl
theorem I_73_37 : ins 73 37 = some (.ifCond .eq 21, 58, 0, [], none) := (L_73_0 37).trans rfl
theorem I_73_40 : ins 73 40 = some (.aload_n 0, 0, 0, [], some [0, 1, 2, 3]) := (L_73_0 40).trans rfl
theorem I_73_41 : ins 73 41 = some (.iload_n 1, 0, 0, [], none) := (L_73_0 41).trans rfl
theorem I_73_42 : ins 73 42 = some (.iconst 1, 0, 0, [], none) := (L_73_0 42).trans rfl
theorem I_73_43 : ins 73 43 = some (.iadd, 0, 0, [], none) := (L_73_0 43).trans rfl
theorem I_73_44 : ins 73 44 = some (.iload_n 3, 0, 0, [], none) := (L_73_0 44).trans rfl
theorem I_73_45 : ins 73 45 = some (.invokevirtual 89, 2, 0, [(8, 63)], none) := (L_73_0 45).trans rfl
theorem I_73_48 : ins 73 48 = some (.iconst (-1), 0, 0, [], none) := (L_73_0 48).trans rfl
theorem I_73_49 : ins 73 49 = some (.if_icmp .ne 9, 58, 0, [], none) := (L_73_0 49).trans rfl
theorem I_73_52 : ins 73 52 = some (.iload_n 2, 0, 0, [], some [0, 1, 2, 3]) := (L_73_0 52).trans rfl
theorem I_73_53 : ins 73 53 = some (.iconst 1, 0, 0, [], none) := (L_73_0 53).trans rfl
theorem I_73_54 : ins 73 54 = some (.iload_n 3, 0, 0, [], none) := (L_73_0 54).trans rfl
theorem I_73_55 : ins 73 55 = some (.ishl, 0, 0, [], none) := (L_73_0 55).trans rfl
theorem I_73_56 : ins 73 56 = some (.ior, 0, 0, [], none) := (L_73_0 56).trans rfl
theorem I_73_57 : ins 73 57 = some (.istore_n 2, 0, 0, [], none) := (L_73_0 57).trans rfl
theorem I_73_58 : ins 73 58 = some (.iinc 3 1, 0, 0, [], some [0, 1, 2, 3]) := (L_73_0 58).trans rfl
theorem I_73_61 : ins 73 61 = some (.goto (-43), 18, 0, [], none) := (L_73_0 61).trans rfl
theorem I_73_64 : ins 73 64 = some (.iload_n 2, 0, 0, [], some [2]) := (L_73_0 64).trans rfl
theorem I_73_65 : ins 73 65 = some (.ireturn, 0, 0, [], none) := (L_73_0 65).trans rfl
theorem L_74_0 (pc : Nat) : ins 74 pc = fnd iT74 pc := rfl
theorem I_74_0 : ins 74 0 = some (.iconst 0, 0, 0, [], none) := (L_74_0 0).trans rfl
theorem I_74_1 : ins 74 1 = some (.istore_n 1, 0, 0, [], none) := (L_74_0 1).trans rfl
theorem I_74_2 : ins 74 2 = some (.iload_n 1, 0, 0, [], some [0, 1]) := (L_74_0 2).trans rfl
theorem I_74_3 : ins 74 3 = some (.aload_n 0, 0, 0, [], none) := (L_74_0 3).trans rfl
theorem I_74_4 : ins 74 4 = some (.getfield 44, 2, 0, [(8, 60)], none) := (L_74_0 4).trans rfl
theorem I_74_7 : ins 74 7 = some (.getfield 62, 4, 0, [(5, 62)], none) := (L_74_0 7).trans rfl
theorem I_74_10 : ins 74 10 = some (.if_icmp .ge 19, 29, 0, [], none) := (L_74_0 10).trans rfl
theorem I_74_13 : ins 74 13 = some (.aload_n 0, 0, 0, [], some [0, 1]) := (L_74_0 13).trans rfl
theorem I_74_14 : ins 74 14 = some (.iload_n 1, 0, 0, [], none) := (L_74_0 14).trans rfl
theorem I_74_15 : ins 74 15 = some (.invokevirtual 101, 1, 0, [(8, 66)], none) := (L_74_0 15).trans rfl
theorem I_74_18 : ins 74 18 = some (.ifCond .eq 5, 23, 0, [], none) := (L_74_0 18).trans rfl
theorem I_74_21 : ins 74 21 = some (.iload_n 1, 0, 0, [], some [1]) := (L_74_0 21).trans rfl
theorem I_74_22 : ins 74 22 = some (.ireturn, 0, 0, [], none) := (L_74_0 22).trans rfl
theorem I_74_23 : ins 74 23 = some (.iinc 1 1, 0, 0, [], some [0, 1]) := (L_74_0 23).trans rfl
theorem I_74_26 : ins 74 26 = some (.goto (-24), 2, 0, [], none) := (L_74_0 26).trans rfl
theorem I_74_29 : ins 74 29 = some (.iconst (-1), 0, 0, [], some []) := (L_74_0 29).trans rfl
theorem I_74_30 : ins 74 30 = some (.ireturn, 0, 0, [], none) := (L_74_0 30).trans rfl
theorem L_75_0 (pc : Nat) : ins 75 pc = fnd iT75 pc := rfl
theorem I_75_0 : ins 75 0 = some (.iconst 0, 0, 0, [], none) := (L_75_0 0).trans rfl
theorem I_75_1 : ins 75 1 = some (.istore_n 2, 0, 0, [], none) := (L_75_0 1).trans rfl
theorem I_75_2 : ins 75 2 = some (.iconst 1, 0, 0, [], none) := (L_75_0 2).trans rfl
theorem I_75_3 : ins 75 3 = some (.istore_n 3, 0, 0, [], none) := (L_75_0 3).trans rfl
theorem I_75_4 : ins 75 4 = some (.iload_n 3, 0, 0, [], some [0, 1, 2, 3]) := (L_75_0 4).trans rfl
theorem I_75_5 : ins 75 5 = some (.aload_n 0, 0, 0, [], none) := (L_75_0 5).trans rfl
theorem I_75_6 : ins 75 6 = some (.getfield 44, 2, 0, [(8, 60)], none) := (L_75_0 6).trans rfl
theorem I_75_9 : ins 75 9 = some (.getfield 62, 4, 0, [(5, 62)], none) := (L_75_0 9).trans rfl
theorem I_75_12 : ins 75 12 = some (.if_icmp .gt 29, 41, 0, [], none) := (L_75_0 12).trans rfl
theorem I_75_15 : ins 75 15 = some (.aload_n 0, 0, 0, [], some [0, 1, 2, 3]) := (L_75_0 15).trans rfl
theorem I_75_16 : ins 75 16 = some (.iload_n 3, 0, 0, [], none) := (L_75_0 16).trans rfl
theorem I_75_17 : ins 75 17 = some (.iload_n 1, 0, 0, [], none) := (L_75_0 17).trans rfl
theorem I_75_18 : ins 75 18 = some (.invokevirtual 89, 2, 0, [(8, 63)], none) := (L_75_0 18).trans rfl
theorem I_75_21 : ins 75 21 = some (.aload_n 0, 0, 0, [], none) := (L_75_0 21).trans rfl
theorem I_75_22 : ins 75 22 = some (.iload_n 3, 0, 0, [], none) := (L_75_0 22).trans rfl
theorem I_75_23 : ins 75 23 = some (.iconst 1, 0, 0, [], none) := (L_75_0 23).trans rfl
theorem I_75_24 : ins 75 24 = some (.isub, 0, 0, [], none) := (L_75_0 24).trans rfl
theorem I_75_25 : ins 75 25 = some (.iload_n 1, 0, 0, [], none) := (L_75_0 25).trans rfl
theorem I_75_26 : ins 75 26 = some (.invokevirtual 89, 2, 0, [(8, 63)], none) := (L_75_0 26).trans rfl
theorem I_75_29 : ins 75 29 = some (.if_icmp .eq 6, 35, 0, [], none) := (L_75_0 29).trans rfl
theorem I_75_32 : ins 75 32 = some (.iinc 2 1, 0, 0, [], some [0, 1, 2, 3]) := (L_75_0 32).trans rfl
theorem I_75_35 : ins 75 35 = some (.iinc 3 1, 0, 0, [], some [0, 1, 2, 3]) := (L_75_0 35).trans rfl
theorem I_75_38 : ins 75 38 = some (.goto (-34), 4, 0, [], none) := (L_75_0 38).trans rfl
theorem I_75_41 : ins 75 41 = some (.iload_n 2, 0, 0, [], some [2]) := (L_75_0 41).trans rfl
theorem I_75_42 : ins 75 42 = some (.ireturn, 0, 0, [], none) := (L_75_0 42).trans rfl
theorem L_76_0 (pc : Nat) : ins 76 pc = fnd (iT76_0 ++ (iT76_1)) pc := rfl
theorem L_76_1 (pc : Nat) (h : Nat.ble 76 pc = true) : ins 76 pc = fnd (iT76_1) pc := (L_76_0 pc).trans (fnd_app (lo := 76) rfl (Nat.le_of_ble_eq_true h))
theorem I_76_0 : ins 76 0 = some (.iconst (-1), 0, 0, [], none) := (L_76_0 0).trans rfl
theorem I_76_1 : ins 76 1 = some (.istore_n 3, 0, 0, [], none) := (L_76_0 1).trans rfl
theorem I_76_2 : ins 76 2 = some (.iconst 0, 0, 0, [], none) := (L_76_0 2).trans rfl
theorem I_76_3 : ins 76 3 = some (.istore 4, 0, 0, [], none) := (L_76_0 3).trans rfl
theorem I_76_5 : ins 76 5 = some (.aload_n 0, 0, 0, [], none) := (L_76_0 5).trans rfl
theorem I_76_6 : ins 76 6 = some (.iload_n 1, 0, 0, [], none) := (L_76_0 6).trans rfl
theorem I_76_7 : ins 76 7 = some (.invokevirtual 104, 1, 0, [(8, 67)], none) := (L_76_0 7).trans rfl
theorem I_76_10 : ins 76 10 = some (.istore 5, 0, 0, [], none) := (L_76_0 10).trans rfl
theorem I_76_12 : ins 76 12 = some (.iconst 1, 0, 0, [], none) := (L_76_0 12).trans rfl
theorem I_76_13 : ins 76 13 = some (.istore 6, 0, 0, [], none) := (L_76_0 13).trans rfl
theorem I_76_15 : ins 76 15 = some (.iload 6, 0, 0, [], some [0, 1, 2, 3, 4, 5, 6]) := (L_76_0 15).trans rfl
theorem I_76_17 : ins 76 17 = some (.iconst 1, 0, 0, [], none) := (L_76_0 17).trans rfl
theorem I_76_18 : ins 76 18 = some (.aload_n 0, 0, 0, [], none) := (L_76_0 18).trans rfl
theorem I_76_19 : ins 76 19 = some (.getfield 40, 1, 0, [(8, 59)], none) := (L_76_0 19).trans rfl
theorem I_76_22 : ins 76 22 = some (.getfield 92, 4, 0, [(1, 64)], none) := (L_76_0 22).trans rfl
theorem I_76_25 : ins 76 25 = some (.ishl, 0, 0, [], none) := (L_76_0 25).trans rfl
theorem I_76_26 : ins 76 26 = some (.if_icmp .ge 90, 116, 0, [], none) := (L_76_0 26).trans rfl
theorem I_76_29 : ins 76 29 = some (.iload 6, 0, 0, [], some [0, 1, 2, 3, 4, 5, 6]) := (L_76_0 29).trans rfl
theorem I_76_31 : ins 76 31 = some (.iload 5, 0, 0, [], none) := (L_76_0 31).trans rfl
theorem I_76_33 : ins 76 33 = some (.iand, 0, 0, [], none) := (L_76_0 33).trans rfl
theorem I_76_34 : ins 76 34 = some (.ifCond .ne 76, 110, 0, [], none) := (L_76_0 34).trans rfl
theorem I_76_37 : ins 76 37 = some (.aload_n 0, 0, 0, [], some [0, 1, 2, 3, 4, 5, 6]) := (L_76_0 37).trans rfl
theorem I_76_38 : ins 76 38 = some (.iload_n 1, 0, 0, [], none) := (L_76_0 38).trans rfl
theorem I_76_39 : ins 76 39 = some (.iload 6, 0, 0, [], none) := (L_76_0 39).trans rfl
theorem I_76_41 : ins 76 41 = some (.invokevirtual 107, 2, 0, [(8, 68)], none) := (L_76_0 41).trans rfl
theorem I_76_44 : ins 76 44 = some (.iload_n 2, 0, 0, [], none) := (L_76_0 44).trans rfl
theorem I_76_45 : ins 76 45 = some (.if_icmp .ge 6, 51, 0, [], none) := (L_76_0 45).trans rfl
theorem I_76_48 : ins 76 48 = some (.goto 62, 110, 0, [], some [0, 1, 2, 3, 4, 5, 6]) := (L_76_0 48).trans rfl
theorem I_76_51 : ins 76 51 = some (.aload_n 0, 0, 0, [], some [0, 1, 2, 3, 4, 5, 6]) := (L_76_0 51).trans rfl
theorem I_76_52 : ins 76 52 = some (.iload_n 1, 0, 0, [], none) := (L_76_0 52).trans rfl
theorem I_76_53 : ins 76 53 = some (.iload 6, 0, 0, [], none) := (L_76_0 53).trans rfl
theorem I_76_55 : ins 76 55 = some (.invokevirtual 110, 2, 0, [(8, 69)], none) := (L_76_0 55).trans rfl
theorem I_76_58 : ins 76 58 = some (.istore 7, 0, 0, [], none) := (L_76_0 58).trans rfl
theorem I_76_60 : ins 76 60 = some (.iload 7, 0, 0, [], none) := (L_76_0 60).trans rfl
theorem I_76_62 : ins 76 62 = some (.iload 4, 0, 0, [], none) := (L_76_0 62).trans rfl
theorem I_76_64 : ins 76 64 = some (.if_icmp .ne 19, 83, 0, [], none) := (L_76_0 64).trans rfl
theorem I_76_67 : ins 76 67 = some (.iload 6, 0, 0, [], some [0, 1, 2, 3, 4, 5, 6, 7]) := (L_76_0 67).trans rfl
theorem I_76_69 : ins 76 69 = some (.invokestatic 113, 1, 0, [(0, 70)], none) := (L_76_0 69).trans rfl
theorem I_76_72 : ins 76 72 = some (.iload_n 3, 0, 0, [], none) := (L_76_0 72).trans rfl
theorem I_76_73 : ins 76 73 = some (.invokestatic 113, 1, 0, [(0, 70)], none) := (L_76_0 73).trans rfl
theorem I_76_76 : ins 76 76 = some (.if_icmp .ge 7, 83, 0, [], none) := (L_76_1 76 rfl).trans rfl
theorem I_76_79 : ins 76 79 = some (.iconst 1, 0, 0, [], some [0, 1, 2, 3, 4, 5, 6, 7]) := (L_76_1 79 rfl).trans rfl
theorem I_76_80 : ins 76 80 = some (.goto 4, 84, 0, [], none) := (L_76_1 80 rfl).trans rfl
theorem I_76_83 : ins 76 83 = some (.iconst 0, 0, 0, [], some [0, 1, 2, 3, 4, 5, 6, 7]) := (L_76_1 83 rfl).trans rfl
theorem I_76_84 : ins 76 84 = some (.istore 8, 0, 0, [], some [0, 1, 2, 3, 4, 5, 6, 7]) := (L_76_1 84 rfl).trans rfl
theorem I_76_86 : ins 76 86 = some (.iload_n 3, 0, 0, [], none) := (L_76_1 86 rfl).trans rfl
theorem I_76_87 : ins 76 87 = some (.iconst (-1), 0, 0, [], none) := (L_76_1 87 rfl).trans rfl
theorem I_76_88 : ins 76 88 = some (.if_icmp .eq 15, 103, 0, [], none) := (L_76_1 88 rfl).trans rfl
theorem I_76_91 : ins 76 91 = some (.iload 7, 0, 0, [], some [0, 1, 2, 3, 4, 5, 6, 7, 8]) := (L_76_1 91 rfl).trans rfl
theorem I_76_93 : ins 76 93 = some (.iload 4, 0, 0, [], none) := (L_76_1 93 rfl).trans rfl
theorem I_76_95 : ins 76 95 = some (.if_icmp .lt 8, 103, 0, [], none) := (L_76_1 95 rfl).trans rfl
theorem I_76_98 : ins 76 98 = some (.iload 8, 0, 0, [], some [0, 1, 2, 3, 4, 5, 6, 7, 8]) := (L_76_1 98 rfl).trans rfl
theorem I_76_100 : ins 76 100 = some (.ifCond .eq 10, 110, 0, [], none) := (L_76_1 100 rfl).trans rfl
theorem I_76_103 : ins 76 103 = some (.iload 6, 0, 0, [], some [0, 1, 2, 5, 6, 7]) := (L_76_1 103 rfl).trans rfl
theorem I_76_105 : ins 76 105 = some (.istore_n 3, 0, 0, [], none) := (L_76_1 105 rfl).trans rfl
theorem I_76_106 : ins 76 106 = some (.iload 7, 0, 0, [], none) := (L_76_1 106 rfl).trans rfl
theorem I_76_108 : ins 76 108 = some (.istore 4, 0, 0, [], none) := (L_76_1 108 rfl).trans rfl
theorem I_76_110 : ins 76 110 = some (.iinc 6 1, 0, 0, [], some [0, 1, 2, 3, 4, 5, 6]) := (L_76_1 110 rfl).trans rfl
theorem I_76_113 : ins 76 113 = some (.goto (-98), 15, 0, [], none) := (L_76_1 113 rfl).trans rfl
theorem I_76_116 : ins 76 116 = some (.iload_n 3, 0, 0, [], some [3]) := (L_76_1 116 rfl).trans rfl
theorem I_76_117 : ins 76 117 = some (.ireturn, 0, 0, [], none) := (L_76_1 117 rfl).trans rfl
theorem L_77_0 (pc : Nat) : ins 77 pc = fnd iT77 pc := rfl
theorem I_77_0 : ins 77 0 = some (.aload_n 0, 0, 0, [], none) := (L_77_0 0).trans rfl
theorem I_77_1 : ins 77 1 = some (.bipush 25, 0, 0, [], none) := (L_77_0 1).trans rfl
theorem I_77_3 : ins 77 3 = some (.invokevirtual 51, 1, 0, [(8, 55)], none) := (L_77_0 3).trans rfl
theorem I_77_6 : ins 77 6 = some (.iload_n 1, 0, 0, [], none) := (L_77_0 6).trans rfl
theorem I_77_7 : ins 77 7 = some (.istore_n 3, 0, 0, [], none) := (L_77_0 7).trans rfl
theorem I_77_8 : ins 77 8 = some (.iconst 0, 0, 0, [], none) := (L_77_0 8).trans rfl
theorem I_77_9 : ins 77 9 = some (.istore 4, 0, 0, [], none) := (L_77_0 9).trans rfl
theorem I_77_11 : ins 77 11 = some (.iload 4, 0, 0, [], some [0, 2, 3, 4]) := (L_77_0 11).trans rfl
theorem I_77_13 : ins 77 13 = some (.iload_n 2, 0, 0, [], none) := (L_77_0 13).trans rfl
theorem I_77_14 : ins 77 14 = some (.if_icmp .ge 32, 46, 0, [], none) := (L_77_0 14).trans rfl
theorem I_77_17 : ins 77 17 = some (.ldc 118, 861, 1103515245, [], some [0, 2, 3, 4]) := (L_77_0 17).trans rfl
theorem I_77_19 : ins 77 19 = some (.iload_n 3, 0, 0, [], none) := (L_77_0 19).trans rfl
theorem I_77_20 : ins 77 20 = some (.imul, 0, 0, [], none) := (L_77_0 20).trans rfl
theorem I_77_21 : ins 77 21 = some (.sipush 12345, 0, 0, [], none) := (L_77_0 21).trans rfl
theorem I_77_24 : ins 77 24 = some (.iadd, 0, 0, [], none) := (L_77_0 24).trans rfl
theorem I_77_25 : ins 77 25 = some (.istore_n 3, 0, 0, [], none) := (L_77_0 25).trans rfl
theorem I_77_26 : ins 77 26 = some (.aload_n 0, 0, 0, [], none) := (L_77_0 26).trans rfl
theorem I_77_27 : ins 77 27 = some (.bipush 25, 0, 0, [], none) := (L_77_0 27).trans rfl
theorem I_77_29 : ins 77 29 = some (.bipush 25, 0, 0, [], none) := (L_77_0 29).trans rfl
theorem I_77_31 : ins 77 31 = some (.iload_n 3, 0, 0, [], none) := (L_77_0 31).trans rfl
theorem I_77_32 : ins 77 32 = some (.bipush 16, 0, 0, [], none) := (L_77_0 32).trans rfl
theorem I_77_34 : ins 77 34 = some (.iushr, 0, 0, [], none) := (L_77_0 34).trans rfl
theorem I_77_35 : ins 77 35 = some (.iconst 5, 0, 0, [], none) := (L_77_0 35).trans rfl
theorem I_77_36 : ins 77 36 = some (.irem, 0, 0, [], none) := (L_77_0 36).trans rfl
theorem I_77_37 : ins 77 37 = some (.invokevirtual 70, 3, 0, [(8, 59)], none) := (L_77_0 37).trans rfl
theorem I_77_40 : ins 77 40 = some (.iinc 4 1, 0, 0, [], none) := (L_77_0 40).trans rfl
theorem I_77_43 : ins 77 43 = some (.goto (-32), 11, 0, [], none) := (L_77_0 43).trans rfl
theorem I_77_46 : ins 77 46 = some (.return_, 0, 0, [], some []) := (L_77_0 46).trans rfl
theorem L_78_0 (pc : Nat) : ins 78 pc = fnd iT78 pc := rfl
theorem I_78_0 : ins 78 0 = some (.aload_n 0, 0, 0, [], none) := (L_78_0 0).trans rfl
theorem I_78_1 : ins 78 1 = some (.bipush 25, 0, 0, [], none) := (L_78_0 1).trans rfl
theorem I_78_3 : ins 78 3 = some (.invokevirtual 55, 1, 0, [(8, 56)], none) := (L_78_0 3).trans rfl
theorem I_78_6 : ins 78 6 = some (.aload_n 0, 0, 0, [], none) := (L_78_0 6).trans rfl
theorem I_78_7 : ins 78 7 = some (.bipush 25, 0, 0, [], none) := (L_78_0 7).trans rfl
theorem I_78_9 : ins 78 9 = some (.invokevirtual 58, 1, 0, [(8, 57)], none) := (L_78_0 9).trans rfl
theorem I_78_12 : ins 78 12 = some (.ireturn, 0, 0, [], none) := (L_78_0 12).trans rfl
theorem L_79_0 (pc : Nat) : ins 79 pc = fnd iT79 pc := rfl
theorem I_79_0 : ins 79 0 = some (.aload_n 0, 0, 0, [], none) := (L_79_0 0).trans rfl
theorem I_79_1 : ins 79 1 = some (.bipush 25, 0, 0, [], none) := (L_79_0 1).trans rfl
theorem I_79_3 : ins 79 3 = some (.iload_n 1, 0, 0, [], none) := (L_79_0 3).trans rfl
theorem I_79_4 : ins 79 4 = some (.invokevirtual 119, 2, 0, [(8, 71)], none) := (L_79_0 4).trans rfl
theorem I_79_7 : ins 79 7 = some (.ireturn, 0, 0, [], none) := (L_79_0 7).trans rfl
theorem L_80_0 (pc : Nat) : ins 80 pc = fnd iT80 pc := rfl
theorem I_80_0 : ins 80 0 = some (.iload_n 0, 0, 0, [], none) := (L_80_0 0).trans rfl
theorem I_80_1 : ins 80 1 = some (.ifCond .lt 23, 24, 0, [], none) := (L_80_0 1).trans rfl
theorem I_80_4 : ins 80 4 = some (.iload_n 0, 0, 0, [], some [0, 1]) := (L_80_0 4).trans rfl
theorem I_80_5 : ins 80 5 = some (.bipush 26, 0, 0, [], none) := (L_80_0 5).trans rfl
theorem I_80_7 : ins 80 7 = some (.if_icmp .ge 17, 24, 0, [], none) := (L_80_0 7).trans rfl
theorem I_80_10 : ins 80 10 = some (.iload_n 1, 0, 0, [], some [1]) := (L_80_0 10).trans rfl
theorem I_80_11 : ins 80 11 = some (.ifCond .lt 13, 24, 0, [], none) := (L_80_0 11).trans rfl
theorem I_80_14 : ins 80 14 = some (.iload_n 1, 0, 0, [], some [1]) := (L_80_0 14).trans rfl
theorem I_80_15 : ins 80 15 = some (.bipush 8, 0, 0, [], none) := (L_80_0 15).trans rfl
theorem I_80_17 : ins 80 17 = some (.if_icmp .ge 7, 24, 0, [], none) := (L_80_0 17).trans rfl
theorem I_80_20 : ins 80 20 = some (.iconst 1, 0, 0, [], some []) := (L_80_0 20).trans rfl
theorem I_80_21 : ins 80 21 = some (.goto 4, 25, 0, [], none) := (L_80_0 21).trans rfl
theorem I_80_24 : ins 80 24 = some (.iconst 0, 0, 0, [], some []) := (L_80_0 24).trans rfl
theorem I_80_25 : ins 80 25 = some (.ireturn, 0, 0, [], some []) := (L_80_0 25).trans rfl
theorem L_81_0 (pc : Nat) : ins 81 pc = fnd iT81 pc := rfl
theorem I_81_0 : ins 81 0 = some (.iconst 0, 0, 0, [], none) := (L_81_0 0).trans rfl
theorem I_81_1 : ins 81 1 = some (.istore_n 3, 0, 0, [], none) := (L_81_0 1).trans rfl
theorem I_81_2 : ins 81 2 = some (.iconst 0, 0, 0, [], none) := (L_81_0 2).trans rfl
theorem I_81_3 : ins 81 3 = some (.istore 4, 0, 0, [], none) := (L_81_0 3).trans rfl
theorem I_81_5 : ins 81 5 = some (.iload 4, 0, 0, [], some [0, 1, 2, 3, 4]) := (L_81_0 5).trans rfl
theorem I_81_7 : ins 81 7 = some (.aload_n 0, 0, 0, [], none) := (L_81_0 7).trans rfl
theorem I_81_8 : ins 81 8 = some (.getfield 40, 1, 0, [(8, 59)], none) := (L_81_0 8).trans rfl
theorem I_81_11 : ins 81 11 = some (.getfield 92, 4, 0, [(1, 64)], none) := (L_81_0 11).trans rfl
theorem I_81_14 : ins 81 14 = some (.if_icmp .ge 26, 40, 0, [], none) := (L_81_0 14).trans rfl
theorem I_81_17 : ins 81 17 = some (.iload_n 3, 0, 0, [], some [0, 1, 2, 3, 4]) := (L_81_0 17).trans rfl
theorem I_81_18 : ins 81 18 = some (.iload_n 2, 0, 0, [], none) := (L_81_0 18).trans rfl
theorem I_81_19 : ins 81 19 = some (.iload 4, 0, 0, [], none) := (L_81_0 19).trans rfl
theorem I_81_21 : ins 81 21 = some (.ishr, 0, 0, [], none) := (L_81_0 21).trans rfl
theorem I_81_22 : ins 81 22 = some (.iconst 1, 0, 0, [], none) := (L_81_0 22).trans rfl
theorem I_81_23 : ins 81 23 = some (.iand, 0, 0, [], none) := (L_81_0 23).trans rfl
theorem I_81_24 : ins 81 24 = some (.aload_n 0, 0, 0, [], none) := (L_81_0 24).trans rfl
theorem I_81_25 : ins 81 25 = some (.iload_n 1, 0, 0, [], none) := (L_81_0 25).trans rfl
theorem I_81_26 : ins 81 26 = some (.iload 4, 0, 0, [], none) := (L_81_0 26).trans rfl
theorem I_81_28 : ins 81 28 = some (.invokevirtual 119, 2, 0, [(8, 71)], none) := (L_81_0 28).trans rfl
theorem I_81_31 : ins 81 31 = some (.imul, 0, 0, [], none) := (L_81_0 31).trans rfl
theorem I_81_32 : ins 81 32 = some (.iadd, 0, 0, [], none) := (L_81_0 32).trans rfl
theorem I_81_33 : ins 81 33 = some (.istore_n 3, 0, 0, [], none) := (L_81_0 33).trans rfl
theorem I_81_34 : ins 81 34 = some (.iinc 4 1, 0, 0, [], none) := (L_81_0 34).trans rfl
theorem I_81_37 : ins 81 37 = some (.goto (-32), 5, 0, [], none) := (L_81_0 37).trans rfl
theorem I_81_40 : ins 81 40 = some (.iload_n 3, 0, 0, [], some [3]) := (L_81_0 40).trans rfl
theorem I_81_41 : ins 81 41 = some (.ireturn, 0, 0, [], none) := (L_81_0 41).trans rfl
theorem L_82_0 (pc : Nat) : ins 82 pc = fnd iT82 pc := rfl
theorem I_82_0 : ins 82 0 = some (.iconst 0, 0, 0, [], none) := (L_82_0 0).trans rfl
theorem I_82_1 : ins 82 1 = some (.istore_n 3, 0, 0, [], none) := (L_82_0 1).trans rfl
theorem I_82_2 : ins 82 2 = some (.iconst 0, 0, 0, [], none) := (L_82_0 2).trans rfl
theorem I_82_3 : ins 82 3 = some (.istore 4, 0, 0, [], none) := (L_82_0 3).trans rfl
theorem I_82_5 : ins 82 5 = some (.iload 4, 0, 0, [], some [0, 1, 2, 3, 4]) := (L_82_0 5).trans rfl
theorem I_82_7 : ins 82 7 = some (.aload_n 0, 0, 0, [], none) := (L_82_0 7).trans rfl
theorem I_82_8 : ins 82 8 = some (.getfield 40, 1, 0, [(8, 59)], none) := (L_82_0 8).trans rfl
theorem I_82_11 : ins 82 11 = some (.getfield 92, 4, 0, [(1, 64)], none) := (L_82_0 11).trans rfl
theorem I_82_14 : ins 82 14 = some (.if_icmp .ge 26, 40, 0, [], none) := (L_82_0 14).trans rfl
theorem I_82_17 : ins 82 17 = some (.iload_n 3, 0, 0, [], some [0, 1, 2, 3, 4]) := (L_82_0 17).trans rfl
theorem I_82_18 : ins 82 18 = some (.iload_n 2, 0, 0, [], none) := (L_82_0 18).trans rfl
theorem I_82_19 : ins 82 19 = some (.iload 4, 0, 0, [], none) := (L_82_0 19).trans rfl
theorem I_82_21 : ins 82 21 = some (.ishr, 0, 0, [], none) := (L_82_0 21).trans rfl
theorem I_82_22 : ins 82 22 = some (.iconst 1, 0, 0, [], none) := (L_82_0 22).trans rfl
theorem I_82_23 : ins 82 23 = some (.iand, 0, 0, [], none) := (L_82_0 23).trans rfl
theorem I_82_24 : ins 82 24 = some (.aload_n 0, 0, 0, [], none) := (L_82_0 24).trans rfl
theorem I_82_25 : ins 82 25 = some (.iload_n 1, 0, 0, [], none) := (L_82_0 25).trans rfl
theorem I_82_26 : ins 82 26 = some (.iload 4, 0, 0, [], none) := (L_82_0 26).trans rfl
theorem I_82_28 : ins 82 28 = some (.invokevirtual 95, 2, 0, [(8, 64)], none) := (L_82_0 28).trans rfl
theorem I_82_31 : ins 82 31 = some (.imul, 0, 0, [], none) := (L_82_0 31).trans rfl
theorem I_82_32 : ins 82 32 = some (.iadd, 0, 0, [], none) := (L_82_0 32).trans rfl
theorem I_82_33 : ins 82 33 = some (.istore_n 3, 0, 0, [], none) := (L_82_0 33).trans rfl
theorem I_82_34 : ins 82 34 = some (.iinc 4 1, 0, 0, [], none) := (L_82_0 34).trans rfl
theorem I_82_37 : ins 82 37 = some (.goto (-32), 5, 0, [], none) := (L_82_0 37).trans rfl
theorem I_82_40 : ins 82 40 = some (.iload_n 3, 0, 0, [], some [3]) := (L_82_0 40).trans rfl
theorem I_82_41 : ins 82 41 = some (.ireturn, 0, 0, [], none) := (L_82_0 41).trans rfl
theorem L_83_0 (pc : Nat) : ins 83 pc = fnd iT83 pc := rfl
theorem I_83_0 : ins 83 0 = some (.iconst 0, 0, 0, [], none) := (L_83_0 0).trans rfl
theorem I_83_1 : ins 83 1 = some (.istore_n 2, 0, 0, [], none) := (L_83_0 1).trans rfl
theorem I_83_2 : ins 83 2 = some (.iload_n 2, 0, 0, [], some [0, 1, 2]) := (L_83_0 2).trans rfl
theorem I_83_3 : ins 83 3 = some (.aload_n 0, 0, 0, [], none) := (L_83_0 3).trans rfl
theorem I_83_4 : ins 83 4 = some (.getfield 40, 1, 0, [(8, 59)], none) := (L_83_0 4).trans rfl
theorem I_83_7 : ins 83 7 = some (.getfield 92, 4, 0, [(1, 64)], none) := (L_83_0 7).trans rfl
theorem I_83_10 : ins 83 10 = some (.if_icmp .ge 65, 75, 0, [], none) := (L_83_0 10).trans rfl
theorem I_83_13 : ins 83 13 = some (.iload_n 1, 0, 0, [], some [0, 1, 2]) := (L_83_0 13).trans rfl
theorem I_83_14 : ins 83 14 = some (.iload_n 2, 0, 0, [], none) := (L_83_0 14).trans rfl
theorem I_83_15 : ins 83 15 = some (.invokestatic 74, 2, 0, [(0, 60)], none) := (L_83_0 15).trans rfl
theorem I_83_18 : ins 83 18 = some (.ifCond .eq 51, 69, 0, [], none) := (L_83_0 18).trans rfl
theorem I_83_21 : ins 83 21 = some (.aload_n 0, 0, 0, [], some [0, 1, 2]) := (L_83_0 21).trans rfl
theorem I_83_22 : ins 83 22 = some (.getfield 13, 3, 0, [(8, 51)], none) := (L_83_0 22).trans rfl
theorem I_83_25 : ins 83 25 = some (.iload_n 1, 0, 0, [], none) := (L_83_0 25).trans rfl
theorem I_83_26 : ins 83 26 = some (.aaload, 0, 0, [], none) := (L_83_0 26).trans rfl
theorem I_83_27 : ins 83 27 = some (.iload_n 2, 0, 0, [], none) := (L_83_0 27).trans rfl
theorem I_83_28 : ins 83 28 = some (.aload_n 0, 0, 0, [], none) := (L_83_0 28).trans rfl
theorem I_83_29 : ins 83 29 = some (.getfield 40, 1, 0, [(8, 59)], none) := (L_83_0 29).trans rfl
theorem I_83_32 : ins 83 32 = some (.iload_n 2, 0, 0, [], none) := (L_83_0 32).trans rfl
theorem I_83_33 : ins 83 33 = some (.invokevirtual 122, 1, 0, [(1, 72)], none) := (L_83_0 33).trans rfl
theorem I_83_36 : ins 83 36 = some (.iastore, 0, 0, [], none) := (L_83_0 36).trans rfl
theorem I_83_37 : ins 83 37 = some (.aload_n 0, 0, 0, [], none) := (L_83_0 37).trans rfl
theorem I_83_38 : ins 83 38 = some (.getfield 16, 4, 0, [(8, 52)], none) := (L_83_0 38).trans rfl
theorem I_83_41 : ins 83 41 = some (.iload_n 1, 0, 0, [], none) := (L_83_0 41).trans rfl
theorem I_83_42 : ins 83 42 = some (.aaload, 0, 0, [], none) := (L_83_0 42).trans rfl
theorem I_83_43 : ins 83 43 = some (.iload_n 2, 0, 0, [], none) := (L_83_0 43).trans rfl
theorem I_83_44 : ins 83 44 = some (.aload_n 0, 0, 0, [], none) := (L_83_0 44).trans rfl
theorem I_83_45 : ins 83 45 = some (.getfield 40, 1, 0, [(8, 59)], none) := (L_83_0 45).trans rfl
theorem I_83_48 : ins 83 48 = some (.iload_n 2, 0, 0, [], none) := (L_83_0 48).trans rfl
theorem I_83_49 : ins 83 49 = some (.invokevirtual 125, 1, 0, [(1, 73)], none) := (L_83_0 49).trans rfl
theorem I_83_52 : ins 83 52 = some (.iastore, 0, 0, [], none) := (L_83_0 52).trans rfl
theorem I_83_53 : ins 83 53 = some (.aload_n 0, 0, 0, [], none) := (L_83_0 53).trans rfl
theorem I_83_54 : ins 83 54 = some (.getfield 19, 5, 0, [(8, 53)], none) := (L_83_0 54).trans rfl
theorem I_83_57 : ins 83 57 = some (.iload_n 1, 0, 0, [], none) := (L_83_0 57).trans rfl
theorem I_83_58 : ins 83 58 = some (.aaload, 0, 0, [], none) := (L_83_0 58).trans rfl
theorem I_83_59 : ins 83 59 = some (.iload_n 2, 0, 0, [], none) := (L_83_0 59).trans rfl
theorem I_83_60 : ins 83 60 = some (.aload_n 0, 0, 0, [], none) := (L_83_0 60).trans rfl
theorem I_83_61 : ins 83 61 = some (.getfield 40, 1, 0, [(8, 59)], none) := (L_83_0 61).trans rfl
theorem I_83_64 : ins 83 64 = some (.iload_n 2, 0, 0, [], none) := (L_83_0 64).trans rfl
theorem I_83_65 : ins 83 65 = some (.invokevirtual 128, 1, 0, [(1, 74)], none) := (L_83_0 65).trans rfl
theorem I_83_68 : ins 83 68 = some (.iastore, 0, 0, [], none) := (L_83_0 68).trans rfl
theorem I_83_69 : ins 83 69 = some (.iinc 2 1, 0, 0, [], some [0, 1, 2]) := (L_83_0 69).trans rfl
theorem I_83_72 : ins 83 72 = some (.goto (-70), 2, 0, [], none) := (L_83_0 72).trans rfl
theorem I_83_75 : ins 83 75 = some (.return_, 0, 0, [], some []) := (L_83_0 75).trans rfl
theorem L_84_0 (pc : Nat) : ins 84 pc = fnd (iT84_0 ++ (iT84_1 ++ (iT84_2))) pc := rfl
theorem L_84_1 (pc : Nat) (h : Nat.ble 82 pc = true) : ins 84 pc = fnd (iT84_1 ++ (iT84_2)) pc := (L_84_0 pc).trans (fnd_app (lo := 82) rfl (Nat.le_of_ble_eq_true h))
theorem L_84_2 (pc : Nat) (h : Nat.ble 154 pc = true) : ins 84 pc = fnd (iT84_2) pc := (L_84_1 pc (Nat.ble_eq.mpr (Nat.le_trans (Nat.le_of_ble_eq_true (rfl : Nat.ble 82 154 = true)) (Nat.le_of_ble_eq_true h)))).trans (fnd_app (lo := 154) rfl (Nat.le_of_ble_eq_true h))
theorem I_84_0 : ins 84 0 = some (.iconst 0, 0, 0, [], none) := (L_84_0 0).trans rfl
theorem I_84_1 : ins 84 1 = some (.istore 4, 0, 0, [], none) := (L_84_0 1).trans rfl
theorem I_84_3 : ins 84 3 = some (.iload 4, 0, 0, [], some [0, 1, 2, 3, 4]) := (L_84_0 3).trans rfl
theorem I_84_5 : ins 84 5 = some (.aload_n 0, 0, 0, [], none) := (L_84_0 5).trans rfl
theorem I_84_6 : ins 84 6 = some (.getfield 40, 1, 0, [(8, 59)], none) := (L_84_0 6).trans rfl
theorem I_84_9 : ins 84 9 = some (.getfield 92, 4, 0, [(1, 64)], none) := (L_84_0 9).trans rfl
theorem I_84_12 : ins 84 12 = some (.if_icmp .ge 200, 212, 0, [], none) := (L_84_0 12).trans rfl
theorem I_84_15 : ins 84 15 = some (.iload_n 1, 0, 0, [], some [0, 1, 2, 3, 4]) := (L_84_0 15).trans rfl
theorem I_84_16 : ins 84 16 = some (.iload 4, 0, 0, [], none) := (L_84_0 16).trans rfl
theorem I_84_18 : ins 84 18 = some (.invokestatic 74, 2, 0, [(0, 60)], none) := (L_84_0 18).trans rfl
theorem I_84_21 : ins 84 21 = some (.ifCond .eq 185, 206, 0, [], none) := (L_84_0 21).trans rfl
theorem I_84_24 : ins 84 24 = some (.iload_n 2, 0, 0, [], some [0, 1, 2, 3, 4]) := (L_84_0 24).trans rfl
theorem I_84_25 : ins 84 25 = some (.iload 4, 0, 0, [], none) := (L_84_0 25).trans rfl
theorem I_84_27 : ins 84 27 = some (.invokestatic 74, 2, 0, [(0, 60)], none) := (L_84_0 27).trans rfl
theorem I_84_30 : ins 84 30 = some (.ifCond .ne 6, 36, 0, [], none) := (L_84_0 30).trans rfl
theorem I_84_33 : ins 84 33 = some (.goto 173, 206, 0, [], some [0, 1, 2, 3, 4]) := (L_84_0 33).trans rfl
theorem I_84_36 : ins 84 36 = some (.aload_n 0, 0, 0, [], some [0, 1, 2, 3, 4]) := (L_84_0 36).trans rfl
theorem I_84_37 : ins 84 37 = some (.getfield 19, 5, 0, [(8, 53)], none) := (L_84_0 37).trans rfl
theorem I_84_40 : ins 84 40 = some (.iload_n 1, 0, 0, [], none) := (L_84_0 40).trans rfl
theorem I_84_41 : ins 84 41 = some (.aaload, 0, 0, [], none) := (L_84_0 41).trans rfl
theorem I_84_42 : ins 84 42 = some (.iload 4, 0, 0, [], none) := (L_84_0 42).trans rfl
theorem I_84_44 : ins 84 44 = some (.iaload, 0, 0, [], none) := (L_84_0 44).trans rfl
theorem I_84_45 : ins 84 45 = some (.ifCond .le 7, 52, 0, [], none) := (L_84_0 45).trans rfl
theorem I_84_48 : ins 84 48 = some (.iconst 1, 0, 0, [], some [0, 1, 2, 3, 4]) := (L_84_0 48).trans rfl
theorem I_84_49 : ins 84 49 = some (.goto 4, 53, 0, [], none) := (L_84_0 49).trans rfl
theorem I_84_52 : ins 84 52 = some (.iconst 0, 0, 0, [], some [0, 1, 2, 3, 4]) := (L_84_0 52).trans rfl
theorem I_84_53 : ins 84 53 = some (.istore 5, 0, 0, [], some [0, 1, 2, 3, 4]) := (L_84_0 53).trans rfl
theorem I_84_55 : ins 84 55 = some (.aload_n 0, 0, 0, [], none) := (L_84_0 55).trans rfl
theorem I_84_56 : ins 84 56 = some (.getfield 40, 1, 0, [(8, 59)], none) := (L_84_0 56).trans rfl
theorem I_84_59 : ins 84 59 = some (.iload 4, 0, 0, [], none) := (L_84_0 59).trans rfl
theorem I_84_61 : ins 84 61 = some (.invokevirtual 131, 1, 0, [(1, 75)], none) := (L_84_0 61).trans rfl
theorem I_84_64 : ins 84 64 = some (.istore 6, 0, 0, [], none) := (L_84_0 64).trans rfl
theorem I_84_66 : ins 84 66 = some (.iload 5, 0, 0, [], none) := (L_84_0 66).trans rfl
theorem I_84_68 : ins 84 68 = some (.ifCond .eq 25, 93, 0, [], none) := (L_84_0 68).trans rfl
theorem I_84_71 : ins 84 71 = some (.iload_n 3, 0, 0, [], some [0, 1, 2, 3, 4, 5, 6]) := (L_84_0 71).trans rfl
theorem I_84_72 : ins 84 72 = some (.iconst 1, 0, 0, [], none) := (L_84_0 72).trans rfl
theorem I_84_73 : ins 84 73 = some (.if_icmp .ne 20, 93, 0, [], none) := (L_84_0 73).trans rfl
theorem I_84_76 : ins 84 76 = some (.iload 6, 0, 0, [], some [0, 1, 2, 3, 4, 5, 6]) := (L_84_0 76).trans rfl
theorem I_84_78 : ins 84 78 = some (.aload_n 0, 0, 0, [], none) := (L_84_0 78).trans rfl
theorem I_84_79 : ins 84 79 = some (.getfield 13, 3, 0, [(8, 51)], none) := (L_84_0 79).trans rfl
theorem I_84_82 : ins 84 82 = some (.iload_n 1, 0, 0, [], none) := (L_84_1 82 rfl).trans rfl
theorem I_84_83 : ins 84 83 = some (.aaload, 0, 0, [], none) := (L_84_1 83 rfl).trans rfl
theorem I_84_84 : ins 84 84 = some (.iload 4, 0, 0, [], none) := (L_84_1 84 rfl).trans rfl
theorem I_84_86 : ins 84 86 = some (.iaload, 0, 0, [], none) := (L_84_1 86 rfl).trans rfl
theorem I_84_87 : ins 84 87 = some (.invokestatic 134, 2, 0, [(0, 76)], none) := (L_84_1 87 rfl).trans rfl
theorem I_84_90 : ins 84 90 = some (.goto 4, 94, 0, [], none) := (L_84_1 90 rfl).trans rfl
theorem I_84_93 : ins 84 93 = some (.iconst 0, 0, 0, [], some [0, 1, 2, 3, 4, 5, 6]) := (L_84_1 93 rfl).trans rfl
theorem I_84_94 : ins 84 94 = some (.istore 7, 0, 0, [], some [0, 1, 2, 3, 4, 5, 6]) := (L_84_1 94 rfl).trans rfl
theorem I_84_96 : ins 84 96 = some (.iload 5, 0, 0, [], none) := (L_84_1 96 rfl).trans rfl
theorem I_84_98 : ins 84 98 = some (.ifCond .eq 18, 116, 0, [], none) := (L_84_1 98 rfl).trans rfl
theorem I_84_101 : ins 84 101 = some (.iload_n 3, 0, 0, [], some [0, 1, 2, 3, 4, 6, 7]) := (L_84_1 101 rfl).trans rfl
theorem I_84_102 : ins 84 102 = some (.iconst 3, 0, 0, [], none) := (L_84_1 102 rfl).trans rfl
theorem I_84_103 : ins 84 103 = some (.if_icmp .ne 13, 116, 0, [], none) := (L_84_1 103 rfl).trans rfl
theorem I_84_106 : ins 84 106 = some (.iload 6, 0, 0, [], some [0, 1, 2, 3, 4, 6, 7]) := (L_84_1 106 rfl).trans rfl
theorem I_84_108 : ins 84 108 = some (.iconst 1, 0, 0, [], none) := (L_84_1 108 rfl).trans rfl
theorem I_84_109 : ins 84 109 = some (.if_icmp .ne 7, 116, 0, [], none) := (L_84_1 109 rfl).trans rfl
theorem I_84_112 : ins 84 112 = some (.iconst 1, 0, 0, [], some [0, 1, 2, 3, 4, 6, 7]) := (L_84_1 112 rfl).trans rfl
theorem I_84_113 : ins 84 113 = some (.goto 4, 117, 0, [], none) := (L_84_1 113 rfl).trans rfl
theorem I_84_116 : ins 84 116 = some (.iconst 0, 0, 0, [], some [0, 1, 2, 3, 4, 6, 7]) := (L_84_1 116 rfl).trans rfl
theorem I_84_117 : ins 84 117 = some (.istore 8, 0, 0, [], some [0, 1, 2, 3, 4, 6, 7]) := (L_84_1 117 rfl).trans rfl
theorem I_84_119 : ins 84 119 = some (.iload_n 3, 0, 0, [], none) := (L_84_1 119 rfl).trans rfl
theorem I_84_120 : ins 84 120 = some (.iconst 4, 0, 0, [], none) := (L_84_1 120 rfl).trans rfl
theorem I_84_121 : ins 84 121 = some (.if_icmp .ne 11, 132, 0, [], none) := (L_84_1 121 rfl).trans rfl
theorem I_84_124 : ins 84 124 = some (.iload 6, 0, 0, [], some [0, 1, 2, 3, 4, 6, 7, 8]) := (L_84_1 124 rfl).trans rfl
theorem I_84_126 : ins 84 126 = some (.invokestatic 137, 1, 0, [(0, 77)], none) := (L_84_1 126 rfl).trans rfl
theorem I_84_129 : ins 84 129 = some (.goto 4, 133, 0, [], none) := (L_84_1 129 rfl).trans rfl
theorem I_84_132 : ins 84 132 = some (.iconst 0, 0, 0, [], some [0, 1, 2, 3, 4, 7, 8]) := (L_84_1 132 rfl).trans rfl
theorem I_84_133 : ins 84 133 = some (.istore 9, 0, 0, [], some [0, 1, 2, 3, 4, 7, 8]) := (L_84_1 133 rfl).trans rfl
theorem I_84_135 : ins 84 135 = some (.aload_n 0, 0, 0, [], none) := (L_84_1 135 rfl).trans rfl
theorem I_84_136 : ins 84 136 = some (.getfield 13, 3, 0, [(8, 51)], none) := (L_84_1 136 rfl).trans rfl
theorem I_84_139 : ins 84 139 = some (.iload_n 2, 0, 0, [], none) := (L_84_1 139 rfl).trans rfl
theorem I_84_140 : ins 84 140 = some (.aaload, 0, 0, [], none) := (L_84_1 140 rfl).trans rfl
theorem I_84_141 : ins 84 141 = some (.iload 4, 0, 0, [], none) := (L_84_1 141 rfl).trans rfl
theorem I_84_143 : ins 84 143 = some (.aload_n 0, 0, 0, [], none) := (L_84_1 143 rfl).trans rfl
theorem I_84_144 : ins 84 144 = some (.getfield 13, 3, 0, [(8, 51)], none) := (L_84_1 144 rfl).trans rfl
theorem I_84_147 : ins 84 147 = some (.iload_n 1, 0, 0, [], none) := (L_84_1 147 rfl).trans rfl
theorem I_84_148 : ins 84 148 = some (.aaload, 0, 0, [], none) := (L_84_1 148 rfl).trans rfl
theorem I_84_149 : ins 84 149 = some (.iload 4, 0, 0, [], none) := (L_84_1 149 rfl).trans rfl
theorem I_84_151 : ins 84 151 = some (.iaload, 0, 0, [], none) := (L_84_1 151 rfl).trans rfl
theorem I_84_152 : ins 84 152 = some (.iload 7, 0, 0, [], none) := (L_84_1 152 rfl).trans rfl
theorem I_84_154 : ins 84 154 = some (.isub, 0, 0, [], none) := (L_84_2 154 rfl).trans rfl
theorem I_84_155 : ins 84 155 = some (.iastore, 0, 0, [], none) := (L_84_2 155 rfl).trans rfl
theorem I_84_156 : ins 84 156 = some (.aload_n 0, 0, 0, [], none) := (L_84_2 156 rfl).trans rfl
theorem I_84_157 : ins 84 157 = some (.getfield 16, 4, 0, [(8, 52)], none) := (L_84_2 157 rfl).trans rfl
theorem I_84_160 : ins 84 160 = some (.iload_n 2, 0, 0, [], none) := (L_84_2 160 rfl).trans rfl
theorem I_84_161 : ins 84 161 = some (.aaload, 0, 0, [], none) := (L_84_2 161 rfl).trans rfl
theorem I_84_162 : ins 84 162 = some (.iload 4, 0, 0, [], none) := (L_84_2 162 rfl).trans rfl
theorem I_84_164 : ins 84 164 = some (.iconst 0, 0, 0, [], none) := (L_84_2 164 rfl).trans rfl
theorem I_84_165 : ins 84 165 = some (.aload_n 0, 0, 0, [], none) := (L_84_2 165 rfl).trans rfl
theorem I_84_166 : ins 84 166 = some (.getfield 16, 4, 0, [(8, 52)], none) := (L_84_2 166 rfl).trans rfl
theorem I_84_169 : ins 84 169 = some (.iload_n 1, 0, 0, [], none) := (L_84_2 169 rfl).trans rfl
theorem I_84_170 : ins 84 170 = some (.aaload, 0, 0, [], none) := (L_84_2 170 rfl).trans rfl
theorem I_84_171 : ins 84 171 = some (.iload 4, 0, 0, [], none) := (L_84_2 171 rfl).trans rfl
theorem I_84_173 : ins 84 173 = some (.iaload, 0, 0, [], none) := (L_84_2 173 rfl).trans rfl
theorem I_84_174 : ins 84 174 = some (.iload 8, 0, 0, [], none) := (L_84_2 174 rfl).trans rfl
theorem I_84_176 : ins 84 176 = some (.isub, 0, 0, [], none) := (L_84_2 176 rfl).trans rfl
theorem I_84_177 : ins 84 177 = some (.invokestatic 140, 2, 0, [(0, 78)], none) := (L_84_2 177 rfl).trans rfl
theorem I_84_180 : ins 84 180 = some (.iastore, 0, 0, [], none) := (L_84_2 180 rfl).trans rfl
theorem I_84_181 : ins 84 181 = some (.aload_n 0, 0, 0, [], none) := (L_84_2 181 rfl).trans rfl
theorem I_84_182 : ins 84 182 = some (.getfield 19, 5, 0, [(8, 53)], none) := (L_84_2 182 rfl).trans rfl
theorem I_84_185 : ins 84 185 = some (.iload_n 2, 0, 0, [], none) := (L_84_2 185 rfl).trans rfl
theorem I_84_186 : ins 84 186 = some (.aaload, 0, 0, [], none) := (L_84_2 186 rfl).trans rfl
theorem I_84_187 : ins 84 187 = some (.iload 4, 0, 0, [], none) := (L_84_2 187 rfl).trans rfl
theorem I_84_189 : ins 84 189 = some (.iconst 0, 0, 0, [], none) := (L_84_2 189 rfl).trans rfl
theorem I_84_190 : ins 84 190 = some (.aload_n 0, 0, 0, [], none) := (L_84_2 190 rfl).trans rfl
theorem I_84_191 : ins 84 191 = some (.getfield 19, 5, 0, [(8, 53)], none) := (L_84_2 191 rfl).trans rfl
theorem I_84_194 : ins 84 194 = some (.iload_n 1, 0, 0, [], none) := (L_84_2 194 rfl).trans rfl
theorem I_84_195 : ins 84 195 = some (.aaload, 0, 0, [], none) := (L_84_2 195 rfl).trans rfl
theorem I_84_196 : ins 84 196 = some (.iload 4, 0, 0, [], none) := (L_84_2 196 rfl).trans rfl
theorem I_84_198 : ins 84 198 = some (.iaload, 0, 0, [], none) := (L_84_2 198 rfl).trans rfl
theorem I_84_199 : ins 84 199 = some (.iload 9, 0, 0, [], none) := (L_84_2 199 rfl).trans rfl
theorem I_84_201 : ins 84 201 = some (.isub, 0, 0, [], none) := (L_84_2 201 rfl).trans rfl
theorem I_84_202 : ins 84 202 = some (.invokestatic 140, 2, 0, [(0, 78)], none) := (L_84_2 202 rfl).trans rfl
theorem I_84_205 : ins 84 205 = some (.iastore, 0, 0, [], none) := (L_84_2 205 rfl).trans rfl
theorem I_84_206 : ins 84 206 = some (.iinc 4 1, 0, 0, [], some [0, 1, 2, 3, 4]) := (L_84_2 206 rfl).trans rfl
theorem I_84_209 : ins 84 209 = some (.goto (-206), 3, 0, [], none) := (L_84_2 209 rfl).trans rfl
theorem I_84_212 : ins 84 212 = some (.return_, 0, 0, [], some []) := (L_84_2 212 rfl).trans rfl
theorem L_85_0 (pc : Nat) : ins 85 pc = fnd iT85 pc := rfl
theorem I_85_0 : ins 85 0 = some (.iload_n 0, 0, 0, [], none) := (L_85_0 0).trans rfl
theorem I_85_1 : ins 85 1 = some (.lookupswitch 37 #[(0, 27), (2, 32)], 38, 0, [(0, 28), (2, 33)], none) := (L_85_0 1).trans rfl
theorem I_85_28 : ins 85 28 = some (.iload_n 1, 0, 0, [], some [1]) := (L_85_0 28).trans rfl
theorem I_85_29 : ins 85 29 = some (.bipush 10, 0, 0, [], none) := (L_85_0 29).trans rfl
theorem I_85_31 : ins 85 31 = some (.idiv, 0, 0, [], none) := (L_85_0 31).trans rfl
theorem I_85_32 : ins 85 32 = some (.ireturn, 0, 0, [], none) := (L_85_0 32).trans rfl
theorem I_85_33 : ins 85 33 = some (.iload_n 1, 0, 0, [], some [1]) := (L_85_0 33).trans rfl
theorem I_85_34 : ins 85 34 = some (.bipush 20, 0, 0, [], none) := (L_85_0 34).trans rfl
theorem I_85_36 : ins 85 36 = some (.idiv, 0, 0, [], none) := (L_85_0 36).trans rfl
theorem I_85_37 : ins 85 37 = some (.ireturn, 0, 0, [], none) := (L_85_0 37).trans rfl
theorem I_85_38 : ins 85 38 = some (.iconst 0, 0, 0, [], some []) := (L_85_0 38).trans rfl
theorem I_85_39 : ins 85 39 = some (.ireturn, 0, 0, [], none) := (L_85_0 39).trans rfl
theorem L_86_0 (pc : Nat) : ins 86 pc = fnd iT86 pc := rfl
theorem I_86_0 : ins 86 0 = some (.iload_n 0, 0, 0, [], none) := (L_86_0 0).trans rfl
theorem I_86_1 : ins 86 1 = some (.lookupswitch 31 #[(0, 27), (2, 29)], 32, 0, [(0, 28), (2, 30)], none) := (L_86_0 1).trans rfl
theorem I_86_28 : ins 86 28 = some (.iconst 2, 0, 0, [], some []) := (L_86_0 28).trans rfl
theorem I_86_29 : ins 86 29 = some (.ireturn, 0, 0, [], none) := (L_86_0 29).trans rfl
theorem I_86_30 : ins 86 30 = some (.iconst 1, 0, 0, [], some []) := (L_86_0 30).trans rfl
theorem I_86_31 : ins 86 31 = some (.ireturn, 0, 0, [], none) := (L_86_0 31).trans rfl
theorem I_86_32 : ins 86 32 = some (.iconst 0, 0, 0, [], some []) := (L_86_0 32).trans rfl
theorem I_86_33 : ins 86 33 = some (.ireturn, 0, 0, [], none) := (L_86_0 33).trans rfl
theorem L_87_0 (pc : Nat) : ins 87 pc = fnd (iT87_0 ++ (iT87_1 ++ (iT87_2))) pc := rfl
theorem L_87_1 (pc : Nat) (h : Nat.ble 77 pc = true) : ins 87 pc = fnd (iT87_1 ++ (iT87_2)) pc := (L_87_0 pc).trans (fnd_app (lo := 77) rfl (Nat.le_of_ble_eq_true h))
theorem L_87_2 (pc : Nat) (h : Nat.ble 146 pc = true) : ins 87 pc = fnd (iT87_2) pc := (L_87_1 pc (Nat.ble_eq.mpr (Nat.le_trans (Nat.le_of_ble_eq_true (rfl : Nat.ble 77 146 = true)) (Nat.le_of_ble_eq_true h)))).trans (fnd_app (lo := 146) rfl (Nat.le_of_ble_eq_true h))
theorem I_87_0 : ins 87 0 = some (.iconst 0, 0, 0, [], none) := (L_87_0 0).trans rfl
theorem I_87_1 : ins 87 1 = some (.istore_n 2, 0, 0, [], none) := (L_87_0 1).trans rfl
theorem I_87_2 : ins 87 2 = some (.iload_n 2, 0, 0, [], some [0, 1, 2]) := (L_87_0 2).trans rfl
theorem I_87_3 : ins 87 3 = some (.aload_n 0, 0, 0, [], none) := (L_87_0 3).trans rfl
theorem I_87_4 : ins 87 4 = some (.getfield 36, 0, 0, [(8, 58)], none) := (L_87_0 4).trans rfl
theorem I_87_7 : ins 87 7 = some (.getfield 84, 4, 0, [(7, 63)], none) := (L_87_0 7).trans rfl
theorem I_87_10 : ins 87 10 = some (.if_icmp .ge 161, 171, 0, [], none) := (L_87_0 10).trans rfl
theorem I_87_13 : ins 87 13 = some (.iload_n 1, 0, 0, [], some [0, 1, 2]) := (L_87_0 13).trans rfl
theorem I_87_14 : ins 87 14 = some (.iload_n 2, 0, 0, [], none) := (L_87_0 14).trans rfl
theorem I_87_15 : ins 87 15 = some (.invokestatic 74, 2, 0, [(0, 60)], none) := (L_87_0 15).trans rfl
theorem I_87_18 : ins 87 18 = some (.ifCond .ne 6, 24, 0, [], none) := (L_87_0 18).trans rfl
theorem I_87_21 : ins 87 21 = some (.goto 144, 165, 0, [], some [0, 1, 2]) := (L_87_0 21).trans rfl
theorem I_87_24 : ins 87 24 = some (.bipush 10, 0, 0, [], some [0, 1, 2]) := (L_87_0 24).trans rfl
theorem I_87_26 : ins 87 26 = some (.aload_n 0, 0, 0, [], none) := (L_87_0 26).trans rfl
theorem I_87_27 : ins 87 27 = some (.getfield 36, 0, 0, [(8, 58)], none) := (L_87_0 27).trans rfl
theorem I_87_30 : ins 87 30 = some (.iload_n 2, 0, 0, [], none) := (L_87_0 30).trans rfl
theorem I_87_31 : ins 87 31 = some (.invokevirtual 145, 1, 0, [(7, 79)], none) := (L_87_0 31).trans rfl
theorem I_87_34 : ins 87 34 = some (.imul, 0, 0, [], none) := (L_87_0 34).trans rfl
theorem I_87_35 : ins 87 35 = some (.istore_n 3, 0, 0, [], none) := (L_87_0 35).trans rfl
theorem I_87_36 : ins 87 36 = some (.aload_n 0, 0, 0, [], none) := (L_87_0 36).trans rfl
theorem I_87_37 : ins 87 37 = some (.getfield 36, 0, 0, [(8, 58)], none) := (L_87_0 37).trans rfl
theorem I_87_40 : ins 87 40 = some (.iload_n 2, 0, 0, [], none) := (L_87_0 40).trans rfl
theorem I_87_41 : ins 87 41 = some (.invokevirtual 148, 1, 0, [(7, 80)], none) := (L_87_0 41).trans rfl
theorem I_87_44 : ins 87 44 = some (.istore 4, 0, 0, [], none) := (L_87_0 44).trans rfl
theorem I_87_46 : ins 87 46 = some (.iconst 0, 0, 0, [], none) := (L_87_0 46).trans rfl
theorem I_87_47 : ins 87 47 = some (.istore 5, 0, 0, [], none) := (L_87_0 47).trans rfl
theorem I_87_49 : ins 87 49 = some (.iconst 0, 0, 0, [], none) := (L_87_0 49).trans rfl
theorem I_87_50 : ins 87 50 = some (.istore 6, 0, 0, [], none) := (L_87_0 50).trans rfl
theorem I_87_52 : ins 87 52 = some (.iload 6, 0, 0, [], some [0, 1, 2, 3, 4, 5, 6]) := (L_87_0 52).trans rfl
theorem I_87_54 : ins 87 54 = some (.aload_n 0, 0, 0, [], none) := (L_87_0 54).trans rfl
theorem I_87_55 : ins 87 55 = some (.getfield 40, 1, 0, [(8, 59)], none) := (L_87_0 55).trans rfl
theorem I_87_58 : ins 87 58 = some (.getfield 92, 4, 0, [(1, 64)], none) := (L_87_0 58).trans rfl
theorem I_87_61 : ins 87 61 = some (.if_icmp .ge 94, 155, 0, [], none) := (L_87_0 61).trans rfl
theorem I_87_64 : ins 87 64 = some (.iload 6, 0, 0, [], some [0, 1, 2, 3, 4, 5, 6]) := (L_87_0 64).trans rfl
theorem I_87_66 : ins 87 66 = some (.bipush 8, 0, 0, [], none) := (L_87_0 66).trans rfl
theorem I_87_68 : ins 87 68 = some (.if_icmp .ge 87, 155, 0, [], none) := (L_87_0 68).trans rfl
theorem I_87_71 : ins 87 71 = some (.aload_n 0, 0, 0, [], some [0, 1, 2, 3, 4, 5, 6]) := (L_87_0 71).trans rfl
theorem I_87_72 : ins 87 72 = some (.getfield 13, 3, 0, [(8, 51)], none) := (L_87_0 72).trans rfl
theorem I_87_75 : ins 87 75 = some (.iload_n 1, 0, 0, [], none) := (L_87_0 75).trans rfl
theorem I_87_76 : ins 87 76 = some (.aaload, 0, 0, [], none) := (L_87_0 76).trans rfl
theorem I_87_77 : ins 87 77 = some (.iload 6, 0, 0, [], none) := (L_87_1 77 rfl).trans rfl
theorem I_87_79 : ins 87 79 = some (.iaload, 0, 0, [], none) := (L_87_1 79 rfl).trans rfl
theorem I_87_80 : ins 87 80 = some (.iload_n 3, 0, 0, [], none) := (L_87_1 80 rfl).trans rfl
theorem I_87_81 : ins 87 81 = some (.if_icmp .lt 25, 106, 0, [], none) := (L_87_1 81 rfl).trans rfl
theorem I_87_84 : ins 87 84 = some (.aload_n 0, 0, 0, [], some [0, 1, 2, 3, 4, 5, 6]) := (L_87_1 84 rfl).trans rfl
theorem I_87_85 : ins 87 85 = some (.getfield 13, 3, 0, [(8, 51)], none) := (L_87_1 85 rfl).trans rfl
theorem I_87_88 : ins 87 88 = some (.iload_n 1, 0, 0, [], none) := (L_87_1 88 rfl).trans rfl
theorem I_87_89 : ins 87 89 = some (.aaload, 0, 0, [], none) := (L_87_1 89 rfl).trans rfl
theorem I_87_90 : ins 87 90 = some (.iload 6, 0, 0, [], none) := (L_87_1 90 rfl).trans rfl
theorem I_87_92 : ins 87 92 = some (.iaload, 0, 0, [], none) := (L_87_1 92 rfl).trans rfl
theorem I_87_93 : ins 87 93 = some (.iload_n 3, 0, 0, [], none) := (L_87_1 93 rfl).trans rfl
theorem I_87_94 : ins 87 94 = some (.aload_n 0, 0, 0, [], none) := (L_87_1 94 rfl).trans rfl
theorem I_87_95 : ins 87 95 = some (.getfield 28, 8, 0, [(8, 56)], none) := (L_87_1 95 rfl).trans rfl
theorem I_87_98 : ins 87 98 = some (.iadd, 0, 0, [], none) := (L_87_1 98 rfl).trans rfl
theorem I_87_99 : ins 87 99 = some (.if_icmp .gt 7, 106, 0, [], none) := (L_87_1 99 rfl).trans rfl
theorem I_87_102 : ins 87 102 = some (.iconst 1, 0, 0, [], some [0, 1, 2, 3, 4, 5, 6]) := (L_87_1 102 rfl).trans rfl
theorem I_87_103 : ins 87 103 = some (.goto 4, 107, 0, [], none) := (L_87_1 103 rfl).trans rfl
theorem I_87_106 : ins 87 106 = some (.iconst 0, 0, 0, [], some [0, 1, 2, 3, 4, 5, 6]) := (L_87_1 106 rfl).trans rfl
theorem I_87_107 : ins 87 107 = some (.istore 7, 0, 0, [], some [0, 1, 2, 3, 4, 5, 6]) := (L_87_1 107 rfl).trans rfl
theorem I_87_109 : ins 87 109 = some (.aload_n 0, 0, 0, [], none) := (L_87_1 109 rfl).trans rfl
theorem I_87_110 : ins 87 110 = some (.getfield 19, 5, 0, [(8, 53)], none) := (L_87_1 110 rfl).trans rfl
theorem I_87_113 : ins 87 113 = some (.iload_n 1, 0, 0, [], none) := (L_87_1 113 rfl).trans rfl
theorem I_87_114 : ins 87 114 = some (.aaload, 0, 0, [], none) := (L_87_1 114 rfl).trans rfl
theorem I_87_115 : ins 87 115 = some (.iload 6, 0, 0, [], none) := (L_87_1 115 rfl).trans rfl
theorem I_87_117 : ins 87 117 = some (.iaload, 0, 0, [], none) := (L_87_1 117 rfl).trans rfl
theorem I_87_118 : ins 87 118 = some (.ifCond .le 31, 149, 0, [], none) := (L_87_1 118 rfl).trans rfl
theorem I_87_121 : ins 87 121 = some (.iload 7, 0, 0, [], some [0, 1, 2, 3, 4, 5, 6, 7]) := (L_87_1 121 rfl).trans rfl
theorem I_87_123 : ins 87 123 = some (.ifCond .eq 26, 149, 0, [], none) := (L_87_1 123 rfl).trans rfl
theorem I_87_126 : ins 87 126 = some (.aload_n 0, 0, 0, [], some [0, 1, 2, 3, 4, 5, 6]) := (L_87_1 126 rfl).trans rfl
theorem I_87_127 : ins 87 127 = some (.getfield 16, 4, 0, [(8, 52)], none) := (L_87_1 127 rfl).trans rfl
theorem I_87_130 : ins 87 130 = some (.iload_n 1, 0, 0, [], none) := (L_87_1 130 rfl).trans rfl
theorem I_87_131 : ins 87 131 = some (.aaload, 0, 0, [], none) := (L_87_1 131 rfl).trans rfl
theorem I_87_132 : ins 87 132 = some (.iload 6, 0, 0, [], none) := (L_87_1 132 rfl).trans rfl
theorem I_87_134 : ins 87 134 = some (.iaload, 0, 0, [], none) := (L_87_1 134 rfl).trans rfl
theorem I_87_135 : ins 87 135 = some (.iload 4, 0, 0, [], none) := (L_87_1 135 rfl).trans rfl
theorem I_87_137 : ins 87 137 = some (.if_icmp .lt 12, 149, 0, [], none) := (L_87_1 137 rfl).trans rfl
theorem I_87_140 : ins 87 140 = some (.iload 5, 0, 0, [], some [0, 1, 2, 3, 4, 5, 6]) := (L_87_1 140 rfl).trans rfl
theorem I_87_142 : ins 87 142 = some (.iconst 1, 0, 0, [], none) := (L_87_1 142 rfl).trans rfl
theorem I_87_143 : ins 87 143 = some (.iload 6, 0, 0, [], none) := (L_87_1 143 rfl).trans rfl
theorem I_87_145 : ins 87 145 = some (.ishl, 0, 0, [], none) := (L_87_1 145 rfl).trans rfl
theorem I_87_146 : ins 87 146 = some (.ior, 0, 0, [], none) := (L_87_2 146 rfl).trans rfl
theorem I_87_147 : ins 87 147 = some (.istore 5, 0, 0, [], none) := (L_87_2 147 rfl).trans rfl
theorem I_87_149 : ins 87 149 = some (.iinc 6 1, 0, 0, [], some [0, 1, 2, 3, 4, 5, 6]) := (L_87_2 149 rfl).trans rfl
theorem I_87_152 : ins 87 152 = some (.goto (-100), 52, 0, [], none) := (L_87_2 152 rfl).trans rfl
theorem I_87_155 : ins 87 155 = some (.aload_n 0, 0, 0, [], some [0, 1, 2, 5]) := (L_87_2 155 rfl).trans rfl
theorem I_87_156 : ins 87 156 = some (.getfield 22, 6, 0, [(8, 54)], none) := (L_87_2 156 rfl).trans rfl
theorem I_87_159 : ins 87 159 = some (.iload_n 1, 0, 0, [], none) := (L_87_2 159 rfl).trans rfl
theorem I_87_160 : ins 87 160 = some (.aaload, 0, 0, [], none) := (L_87_2 160 rfl).trans rfl
theorem I_87_161 : ins 87 161 = some (.iload_n 2, 0, 0, [], none) := (L_87_2 161 rfl).trans rfl
theorem I_87_162 : ins 87 162 = some (.iload 5, 0, 0, [], none) := (L_87_2 162 rfl).trans rfl
theorem I_87_164 : ins 87 164 = some (.iastore, 0, 0, [], none) := (L_87_2 164 rfl).trans rfl
theorem I_87_165 : ins 87 165 = some (.iinc 2 1, 0, 0, [], some [0, 1, 2]) := (L_87_2 165 rfl).trans rfl
theorem I_87_168 : ins 87 168 = some (.goto (-166), 2, 0, [], none) := (L_87_2 168 rfl).trans rfl
theorem I_87_171 : ins 87 171 = some (.return_, 0, 0, [], some []) := (L_87_2 171 rfl).trans rfl
theorem L_88_0 (pc : Nat) : ins 88 pc = fnd iT88 pc := rfl
theorem I_88_0 : ins 88 0 = some (.iconst 0, 0, 0, [], none) := (L_88_0 0).trans rfl
theorem I_88_1 : ins 88 1 = some (.istore_n 2, 0, 0, [], none) := (L_88_0 1).trans rfl
theorem I_88_2 : ins 88 2 = some (.aload_n 0, 0, 0, [], none) := (L_88_0 2).trans rfl
theorem I_88_3 : ins 88 3 = some (.getfield 48, 9, 0, [(8, 61)], none) := (L_88_0 3).trans rfl
theorem I_88_6 : ins 88 6 = some (.ifCond .ne 37, 43, 0, [], none) := (L_88_0 6).trans rfl
theorem I_88_9 : ins 88 9 = some (.iconst 0, 0, 0, [], some [0, 1, 2]) := (L_88_0 9).trans rfl
theorem I_88_10 : ins 88 10 = some (.istore_n 3, 0, 0, [], none) := (L_88_0 10).trans rfl
theorem I_88_11 : ins 88 11 = some (.iload_n 3, 0, 0, [], some [0, 1, 2, 3]) := (L_88_0 11).trans rfl
theorem I_88_12 : ins 88 12 = some (.aload_n 0, 0, 0, [], none) := (L_88_0 12).trans rfl
theorem I_88_13 : ins 88 13 = some (.getfield 36, 0, 0, [(8, 58)], none) := (L_88_0 13).trans rfl
theorem I_88_16 : ins 88 16 = some (.getfield 84, 4, 0, [(7, 63)], none) := (L_88_0 16).trans rfl
theorem I_88_19 : ins 88 19 = some (.if_icmp .ge 19, 38, 0, [], none) := (L_88_0 19).trans rfl
theorem I_88_22 : ins 88 22 = some (.iload_n 2, 0, 0, [], some [0, 1, 2, 3]) := (L_88_0 22).trans rfl
theorem I_88_23 : ins 88 23 = some (.aload_n 0, 0, 0, [], none) := (L_88_0 23).trans rfl
theorem I_88_24 : ins 88 24 = some (.iload_n 1, 0, 0, [], none) := (L_88_0 24).trans rfl
theorem I_88_25 : ins 88 25 = some (.iload_n 3, 0, 0, [], none) := (L_88_0 25).trans rfl
theorem I_88_26 : ins 88 26 = some (.iload_n 2, 0, 0, [], none) := (L_88_0 26).trans rfl
theorem I_88_27 : ins 88 27 = some (.invokevirtual 149, 3, 0, [(8, 81)], none) := (L_88_0 27).trans rfl
theorem I_88_30 : ins 88 30 = some (.ior, 0, 0, [], none) := (L_88_0 30).trans rfl
theorem I_88_31 : ins 88 31 = some (.istore_n 2, 0, 0, [], none) := (L_88_0 31).trans rfl
theorem I_88_32 : ins 88 32 = some (.iinc 3 1, 0, 0, [], none) := (L_88_0 32).trans rfl
theorem I_88_35 : ins 88 35 = some (.goto (-24), 11, 0, [], none) := (L_88_0 35).trans rfl
theorem I_88_38 : ins 88 38 = some (.iload_n 2, 0, 0, [], some [2]) := (L_88_0 38).trans rfl
theorem I_88_39 : ins 88 39 = some (.invokestatic 113, 1, 0, [(0, 70)], none) := (L_88_0 39).trans rfl
theorem I_88_42 : ins 88 42 = some (.ireturn, 0, 0, [], none) := (L_88_0 42).trans rfl
theorem I_88_43 : ins 88 43 = some (.bipush 9, 0, 0, [], some [0, 1, 2]) := (L_88_0 43).trans rfl
theorem I_88_45 : ins 88 45 = some (.istore_n 3, 0, 0, [], none) := (L_88_0 45).trans rfl
theorem I_88_46 : ins 88 46 = some (.iload_n 3, 0, 0, [], some [0, 1, 2, 3]) := (L_88_0 46).trans rfl
theorem I_88_47 : ins 88 47 = some (.iconst 1, 0, 0, [], none) := (L_88_0 47).trans rfl
theorem I_88_48 : ins 88 48 = some (.if_icmp .lt 54, 102, 0, [], none) := (L_88_0 48).trans rfl
theorem I_88_51 : ins 88 51 = some (.iconst 0, 0, 0, [], some [0, 1, 2, 3]) := (L_88_0 51).trans rfl
theorem I_88_52 : ins 88 52 = some (.istore 4, 0, 0, [], none) := (L_88_0 52).trans rfl
theorem I_88_54 : ins 88 54 = some (.iload 4, 0, 0, [], some [0, 1, 2, 3, 4]) := (L_88_0 54).trans rfl
theorem I_88_56 : ins 88 56 = some (.aload_n 0, 0, 0, [], none) := (L_88_0 56).trans rfl
theorem I_88_57 : ins 88 57 = some (.getfield 36, 0, 0, [(8, 58)], none) := (L_88_0 57).trans rfl
theorem I_88_60 : ins 88 60 = some (.getfield 84, 4, 0, [(7, 63)], none) := (L_88_0 60).trans rfl
theorem I_88_63 : ins 88 63 = some (.if_icmp .ge 33, 96, 0, [], none) := (L_88_0 63).trans rfl
theorem I_88_66 : ins 88 66 = some (.aload_n 0, 0, 0, [], some [0, 1, 2, 3, 4]) := (L_88_0 66).trans rfl
theorem I_88_67 : ins 88 67 = some (.getfield 36, 0, 0, [(8, 58)], none) := (L_88_0 67).trans rfl
theorem I_88_70 : ins 88 70 = some (.iload 4, 0, 0, [], none) := (L_88_0 70).trans rfl
theorem I_88_72 : ins 88 72 = some (.invokevirtual 145, 1, 0, [(7, 79)], none) := (L_88_0 72).trans rfl
theorem I_88_75 : ins 88 75 = some (.iload_n 3, 0, 0, [], none) := (L_88_0 75).trans rfl
theorem I_88_76 : ins 88 76 = some (.if_icmp .ne 14, 90, 0, [], none) := (L_88_0 76).trans rfl
theorem I_88_79 : ins 88 79 = some (.iload_n 2, 0, 0, [], some [0, 1, 2, 3, 4]) := (L_88_0 79).trans rfl
theorem I_88_80 : ins 88 80 = some (.aload_n 0, 0, 0, [], none) := (L_88_0 80).trans rfl
theorem I_88_81 : ins 88 81 = some (.iload_n 1, 0, 0, [], none) := (L_88_0 81).trans rfl
theorem I_88_82 : ins 88 82 = some (.iload 4, 0, 0, [], none) := (L_88_0 82).trans rfl
theorem I_88_84 : ins 88 84 = some (.iload_n 2, 0, 0, [], none) := (L_88_0 84).trans rfl
theorem I_88_85 : ins 88 85 = some (.invokevirtual 149, 3, 0, [(8, 81)], none) := (L_88_0 85).trans rfl
theorem I_88_88 : ins 88 88 = some (.ior, 0, 0, [], none) := (L_88_0 88).trans rfl
theorem I_88_89 : ins 88 89 = some (.istore_n 2, 0, 0, [], none) := (L_88_0 89).trans rfl
theorem I_88_90 : ins 88 90 = some (.iinc 4 1, 0, 0, [], some [0, 1, 2, 3, 4]) := (L_88_0 90).trans rfl
theorem I_88_93 : ins 88 93 = some (.goto (-39), 54, 0, [], none) := (L_88_0 93).trans rfl
theorem I_88_96 : ins 88 96 = some (.iinc 3 (-1), 0, 0, [], some [0, 1, 2, 3]) := (L_88_0 96).trans rfl
theorem I_88_99 : ins 88 99 = some (.goto (-53), 46, 0, [], none) := (L_88_0 99).trans rfl
theorem I_88_102 : ins 88 102 = some (.iload_n 2, 0, 0, [], some [2]) := (L_88_0 102).trans rfl
theorem I_88_103 : ins 88 103 = some (.invokestatic 113, 1, 0, [(0, 70)], none) := (L_88_0 103).trans rfl
theorem I_88_106 : ins 88 106 = some (.ireturn, 0, 0, [], none) := (L_88_0 106).trans rfl
theorem L_89_0 (pc : Nat) : ins 89 pc = fnd (iT89_0 ++ (iT89_1)) pc := rfl
theorem L_89_1 (pc : Nat) (h : Nat.ble 64 pc = true) : ins 89 pc = fnd (iT89_1) pc := (L_89_0 pc).trans (fnd_app (lo := 64) rfl (Nat.le_of_ble_eq_true h))
theorem I_89_0 : ins 89 0 = some (.iload_n 1, 0, 0, [], none) := (L_89_0 0).trans rfl
theorem I_89_1 : ins 89 1 = some (.iload_n 2, 0, 0, [], none) := (L_89_0 1).trans rfl
theorem I_89_2 : ins 89 2 = some (.invokestatic 74, 2, 0, [(0, 60)], none) := (L_89_0 2).trans rfl
theorem I_89_5 : ins 89 5 = some (.ifCond .ne 5, 10, 0, [], none) := (L_89_0 5).trans rfl
theorem I_89_8 : ins 89 8 = some (.iconst 0, 0, 0, [], some []) := (L_89_0 8).trans rfl
theorem I_89_9 : ins 89 9 = some (.ireturn, 0, 0, [], none) := (L_89_0 9).trans rfl
theorem I_89_10 : ins 89 10 = some (.iconst (-1), 0, 0, [], some [0, 1, 2, 3]) := (L_89_0 10).trans rfl
theorem I_89_11 : ins 89 11 = some (.istore 4, 0, 0, [], none) := (L_89_0 11).trans rfl
theorem I_89_13 : ins 89 13 = some (.iconst 0, 0, 0, [], none) := (L_89_0 13).trans rfl
theorem I_89_14 : ins 89 14 = some (.istore 5, 0, 0, [], none) := (L_89_0 14).trans rfl
theorem I_89_16 : ins 89 16 = some (.aload_n 0, 0, 0, [], none) := (L_89_0 16).trans rfl
theorem I_89_17 : ins 89 17 = some (.getfield 22, 6, 0, [(8, 54)], none) := (L_89_0 17).trans rfl
theorem I_89_20 : ins 89 20 = some (.iload_n 1, 0, 0, [], none) := (L_89_0 20).trans rfl
theorem I_89_21 : ins 89 21 = some (.aaload, 0, 0, [], none) := (L_89_0 21).trans rfl
theorem I_89_22 : ins 89 22 = some (.iload_n 2, 0, 0, [], none) := (L_89_0 22).trans rfl
theorem I_89_23 : ins 89 23 = some (.iaload, 0, 0, [], none) := (L_89_0 23).trans rfl
theorem I_89_24 : ins 89 24 = some (.iload_n 3, 0, 0, [], none) := (L_89_0 24).trans rfl
theorem I_89_25 : ins 89 25 = some (.iconst (-1), 0, 0, [], none) := (L_89_0 25).trans rfl
theorem I_89_26 : ins 89 26 = some (.ixor, 0, 0, [], none) := (L_89_0 26).trans rfl
theorem I_89_27 : ins 89 27 = some (.iand, 0, 0, [], none) := (L_89_0 27).trans rfl
theorem I_89_28 : ins 89 28 = some (.istore 6, 0, 0, [], none) := (L_89_0 28).trans rfl
theorem I_89_30 : ins 89 30 = some (.iconst 0, 0, 0, [], none) := (L_89_0 30).trans rfl
theorem I_89_31 : ins 89 31 = some (.istore 7, 0, 0, [], none) := (L_89_0 31).trans rfl
theorem I_89_33 : ins 89 33 = some (.iload 7, 0, 0, [], some [0, 1, 2, 4, 5, 6, 7]) := (L_89_0 33).trans rfl
theorem I_89_35 : ins 89 35 = some (.bipush 8, 0, 0, [], none) := (L_89_0 35).trans rfl
theorem I_89_37 : ins 89 37 = some (.if_icmp .ge 54, 91, 0, [], none) := (L_89_0 37).trans rfl
theorem I_89_40 : ins 89 40 = some (.iload 6, 0, 0, [], some [0, 1, 2, 4, 5, 6, 7]) := (L_89_0 40).trans rfl
theorem I_89_42 : ins 89 42 = some (.iload 7, 0, 0, [], none) := (L_89_0 42).trans rfl
theorem I_89_44 : ins 89 44 = some (.ishr, 0, 0, [], none) := (L_89_0 44).trans rfl
theorem I_89_45 : ins 89 45 = some (.iconst 1, 0, 0, [], none) := (L_89_0 45).trans rfl
theorem I_89_46 : ins 89 46 = some (.iand, 0, 0, [], none) := (L_89_0 46).trans rfl
theorem I_89_47 : ins 89 47 = some (.ifCond .eq 38, 85, 0, [], none) := (L_89_0 47).trans rfl
theorem I_89_50 : ins 89 50 = some (.iload 4, 0, 0, [], some [0, 1, 2, 4, 5, 6, 7]) := (L_89_0 50).trans rfl
theorem I_89_52 : ins 89 52 = some (.iconst (-1), 0, 0, [], none) := (L_89_0 52).trans rfl
theorem I_89_53 : ins 89 53 = some (.if_icmp .eq 17, 70, 0, [], none) := (L_89_0 53).trans rfl
theorem I_89_56 : ins 89 56 = some (.aload_n 0, 0, 0, [], some [0, 1, 2, 4, 5, 6, 7]) := (L_89_0 56).trans rfl
theorem I_89_57 : ins 89 57 = some (.getfield 13, 3, 0, [(8, 51)], none) := (L_89_0 57).trans rfl
theorem I_89_60 : ins 89 60 = some (.iload_n 1, 0, 0, [], none) := (L_89_0 60).trans rfl
theorem I_89_61 : ins 89 61 = some (.aaload, 0, 0, [], none) := (L_89_0 61).trans rfl
theorem I_89_62 : ins 89 62 = some (.iload 7, 0, 0, [], none) := (L_89_0 62).trans rfl
theorem I_89_64 : ins 89 64 = some (.iaload, 0, 0, [], none) := (L_89_1 64 rfl).trans rfl
theorem I_89_65 : ins 89 65 = some (.iload 5, 0, 0, [], none) := (L_89_1 65 rfl).trans rfl
theorem I_89_67 : ins 89 67 = some (.if_icmp .ge 18, 85, 0, [], none) := (L_89_1 67 rfl).trans rfl
theorem I_89_70 : ins 89 70 = some (.iload 7, 0, 0, [], some [0, 1, 2, 6, 7]) := (L_89_1 70 rfl).trans rfl
theorem I_89_72 : ins 89 72 = some (.istore 4, 0, 0, [], none) := (L_89_1 72 rfl).trans rfl
theorem I_89_74 : ins 89 74 = some (.aload_n 0, 0, 0, [], none) := (L_89_1 74 rfl).trans rfl
theorem I_89_75 : ins 89 75 = some (.getfield 13, 3, 0, [(8, 51)], none) := (L_89_1 75 rfl).trans rfl
theorem I_89_78 : ins 89 78 = some (.iload_n 1, 0, 0, [], none) := (L_89_1 78 rfl).trans rfl
theorem I_89_79 : ins 89 79 = some (.aaload, 0, 0, [], none) := (L_89_1 79 rfl).trans rfl
theorem I_89_80 : ins 89 80 = some (.iload 7, 0, 0, [], none) := (L_89_1 80 rfl).trans rfl
theorem I_89_82 : ins 89 82 = some (.iaload, 0, 0, [], none) := (L_89_1 82 rfl).trans rfl
theorem I_89_83 : ins 89 83 = some (.istore 5, 0, 0, [], none) := (L_89_1 83 rfl).trans rfl
theorem I_89_85 : ins 89 85 = some (.iinc 7 1, 0, 0, [], some [0, 1, 2, 4, 5, 6, 7]) := (L_89_1 85 rfl).trans rfl
theorem I_89_88 : ins 89 88 = some (.goto (-55), 33, 0, [], none) := (L_89_1 88 rfl).trans rfl
theorem I_89_91 : ins 89 91 = some (.aload_n 0, 0, 0, [], some [0, 1, 2, 4]) := (L_89_1 91 rfl).trans rfl
theorem I_89_92 : ins 89 92 = some (.getfield 25, 7, 0, [(8, 55)], none) := (L_89_1 92 rfl).trans rfl
theorem I_89_95 : ins 89 95 = some (.iload_n 1, 0, 0, [], none) := (L_89_1 95 rfl).trans rfl
theorem I_89_96 : ins 89 96 = some (.aaload, 0, 0, [], none) := (L_89_1 96 rfl).trans rfl
theorem I_89_97 : ins 89 97 = some (.iload_n 2, 0, 0, [], none) := (L_89_1 97 rfl).trans rfl
theorem I_89_98 : ins 89 98 = some (.iload 4, 0, 0, [], none) := (L_89_1 98 rfl).trans rfl
theorem I_89_100 : ins 89 100 = some (.iastore, 0, 0, [], none) := (L_89_1 100 rfl).trans rfl
theorem I_89_101 : ins 89 101 = some (.iload 4, 0, 0, [], none) := (L_89_1 101 rfl).trans rfl
theorem I_89_103 : ins 89 103 = some (.iconst (-1), 0, 0, [], none) := (L_89_1 103 rfl).trans rfl
theorem I_89_104 : ins 89 104 = some (.if_icmp .ne 7, 111, 0, [], none) := (L_89_1 104 rfl).trans rfl
theorem I_89_107 : ins 89 107 = some (.iconst 0, 0, 0, [], some []) := (L_89_1 107 rfl).trans rfl
theorem I_89_108 : ins 89 108 = some (.goto 7, 115, 0, [], none) := (L_89_1 108 rfl).trans rfl
theorem I_89_111 : ins 89 111 = some (.iconst 1, 0, 0, [], some [4]) := (L_89_1 111 rfl).trans rfl
theorem I_89_112 : ins 89 112 = some (.iload 4, 0, 0, [], none) := (L_89_1 112 rfl).trans rfl
theorem I_89_114 : ins 89 114 = some (.ishl, 0, 0, [], none) := (L_89_1 114 rfl).trans rfl
theorem I_89_115 : ins 89 115 = some (.ireturn, 0, 0, [], some []) := (L_89_1 115 rfl).trans rfl
