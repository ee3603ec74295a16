/-! instructions -/
theorem L_91_0 (pc : Nat) : ins 91 pc = fnd iT91 pc := rfl
theorem I_91_0 : ins 91 0 = some (.aload_n 0, 0, 0, [], none) := (L_91_0 0).trans rfl
theorem I_91_1 : ins 91 1 = some (.iload_n 1, 0, 0, [], none) := (L_91_0 1).trans rfl
theorem I_91_2 : ins 91 2 = some (.invokevirtual 88, 1, 0, [(9, 92)], none) := (L_91_0 2).trans rfl
theorem I_91_5 : ins 91 5 = some (.astore_n 3, 0, 0, [], none) := (L_91_0 5).trans rfl
theorem I_91_6 : ins 91 6 = some (.aload_n 3, 0, 0, [], none) := (L_91_0 6).trans rfl
theorem I_91_7 : ins 91 7 = some (.ifnull 14, 21, 0, [], none) := (L_91_0 7).trans rfl
theorem I_91_10 : ins 91 10 = some (.iload_n 2, 0, 0, [], some [0, 2, 3]) := (L_91_0 10).trans rfl
theorem I_91_11 : ins 91 11 = some (.ifCond .lt 10, 21, 0, [], none) := (L_91_0 11).trans rfl
theorem I_91_14 : ins 91 14 = some (.iload_n 2, 0, 0, [], some [0, 2, 3]) := (L_91_0 14).trans rfl
theorem I_91_15 : ins 91 15 = some (.sipush 255, 0, 0, [], none) := (L_91_0 15).trans rfl
theorem I_91_18 : ins 91 18 = some (.if_icmp .le 6, 24, 0, [], none) := (L_91_0 18).trans rfl
theorem I_91_21 : ins 91 21 = some (.bipush (-2), 0, 0, [], some []) := (L_91_0 21).trans rfl
theorem I_91_23 : ins 91 23 = some (.ireturn, 0, 0, [], none) := (L_91_0 23).trans rfl
theorem I_91_24 : ins 91 24 = some (.aload_n 3, 0, 0, [], some [0, 2, 3]) := (L_91_0 24).trans rfl
theorem I_91_25 : ins 91 25 = some (.invokevirtual 92, 0, 0, [(7, 93), (1, 94), (5, 95)], none) := (L_91_0 25).trans rfl
theorem I_91_28 : ins 91 28 = some (.ifCond .eq 6, 34, 0, [], none) := (L_91_0 28).trans rfl
theorem I_91_31 : ins 91 31 = some (.bipush (-4), 0, 0, [], some []) := (L_91_0 31).trans rfl
theorem I_91_33 : ins 91 33 = some (.ireturn, 0, 0, [], none) := (L_91_0 33).trans rfl
theorem I_91_34 : ins 91 34 = some (.aload_n 3, 0, 0, [], some [0, 2, 3]) := (L_91_0 34).trans rfl
theorem I_91_35 : ins 91 35 = some (.iload_n 2, 0, 0, [], none) := (L_91_0 35).trans rfl
theorem I_91_36 : ins 91 36 = some (.invokevirtual 96, 1, 0, [(7, 96), (1, 97), (5, 98)], none) := (L_91_0 36).trans rfl
theorem I_91_39 : ins 91 39 = some (.aload_n 0, 0, 0, [], none) := (L_91_0 39).trans rfl
theorem I_91_40 : ins 91 40 = some (.getfield 41, 4, 0, [(9, 69)], none) := (L_91_0 40).trans rfl
theorem I_91_43 : ins 91 43 = some (.invokevirtual 100, 0, 0, [(8, 99)], none) := (L_91_0 43).trans rfl
theorem I_91_46 : ins 91 46 = some (.aload_n 3, 0, 0, [], none) := (L_91_0 46).trans rfl
theorem I_91_47 : ins 91 47 = some (.getfield 103, 2, 0, [(7, 75), (1, 76), (5, 77)], none) := (L_91_0 47).trans rfl
theorem I_91_50 : ins 91 50 = some (.ireturn, 0, 0, [], none) := (L_91_0 50).trans rfl
theorem L_92_0 (pc : Nat) : ins 92 pc = fnd iT92 pc := rfl
theorem I_92_0 : ins 92 0 = some (.aload_n 0, 0, 0, [], none) := (L_92_0 0).trans rfl
theorem I_92_1 : ins 92 1 = some (.iload_n 1, 0, 0, [], none) := (L_92_0 1).trans rfl
theorem I_92_2 : ins 92 2 = some (.invokevirtual 88, 1, 0, [(9, 92)], none) := (L_92_0 2).trans rfl
theorem I_92_5 : ins 92 5 = some (.astore_n 2, 0, 0, [], none) := (L_92_0 5).trans rfl
theorem I_92_6 : ins 92 6 = some (.aload_n 2, 0, 0, [], none) := (L_92_0 6).trans rfl
theorem I_92_7 : ins 92 7 = some (.ifnonnull 6, 13, 0, [], none) := (L_92_0 7).trans rfl
theorem I_92_10 : ins 92 10 = some (.bipush (-2), 0, 0, [], some []) := (L_92_0 10).trans rfl
theorem I_92_12 : ins 92 12 = some (.ireturn, 0, 0, [], none) := (L_92_0 12).trans rfl
theorem I_92_13 : ins 92 13 = some (.aload_n 2, 0, 0, [], some [0, 2]) := (L_92_0 13).trans rfl
theorem I_92_14 : ins 92 14 = some (.getfield 103, 2, 0, [(7, 75), (1, 76), (5, 77)], none) := (L_92_0 14).trans rfl
theorem I_92_17 : ins 92 17 = some (.istore_n 3, 0, 0, [], none) := (L_92_0 17).trans rfl
theorem I_92_18 : ins 92 18 = some (.aload_n 2, 0, 0, [], none) := (L_92_0 18).trans rfl
theorem I_92_19 : ins 92 19 = some (.iconst 0, 0, 0, [], none) := (L_92_0 19).trans rfl
theorem I_92_20 : ins 92 20 = some (.invokevirtual 107, 1, 0, [(7, 100), (1, 101), (5, 102)], none) := (L_92_0 20).trans rfl
theorem I_92_23 : ins 92 23 = some (.aload_n 0, 0, 0, [], none) := (L_92_0 23).trans rfl
theorem I_92_24 : ins 92 24 = some (.getfield 41, 4, 0, [(9, 69)], none) := (L_92_0 24).trans rfl
theorem I_92_27 : ins 92 27 = some (.invokevirtual 100, 0, 0, [(8, 99)], none) := (L_92_0 27).trans rfl
theorem I_92_30 : ins 92 30 = some (.iload_n 3, 0, 0, [], none) := (L_92_0 30).trans rfl
theorem I_92_31 : ins 92 31 = some (.ireturn, 0, 0, [], none) := (L_92_0 31).trans rfl
theorem L_93_0 (pc : Nat) : ins 93 pc = fnd iT93 pc := rfl
theorem I_93_0 : ins 93 0 = some (.aload_n 0, 0, 0, [], none) := (L_93_0 0).trans rfl
theorem I_93_1 : ins 93 1 = some (.iload_n 1, 0, 0, [], none) := (L_93_0 1).trans rfl
theorem I_93_2 : ins 93 2 = some (.invokevirtual 88, 1, 0, [(9, 92)], none) := (L_93_0 2).trans rfl
theorem I_93_5 : ins 93 5 = some (.astore_n 2, 0, 0, [], none) := (L_93_0 5).trans rfl
theorem I_93_6 : ins 93 6 = some (.aload_n 2, 0, 0, [], none) := (L_93_0 6).trans rfl
theorem I_93_7 : ins 93 7 = some (.ifnonnull 6, 13, 0, [], none) := (L_93_0 7).trans rfl
theorem I_93_10 : ins 93 10 = some (.bipush (-2), 0, 0, [], some []) := (L_93_0 10).trans rfl
theorem I_93_12 : ins 93 12 = some (.ireturn, 0, 0, [], none) := (L_93_0 12).trans rfl
theorem I_93_13 : ins 93 13 = some (.aload_n 2, 0, 0, [], some [0, 2]) := (L_93_0 13).trans rfl
theorem I_93_14 : ins 93 14 = some (.getfield 103, 2, 0, [(7, 75), (1, 76), (5, 77)], none) := (L_93_0 14).trans rfl
theorem I_93_17 : ins 93 17 = some (.ifCond .ne 6, 23, 0, [], none) := (L_93_0 17).trans rfl
theorem I_93_20 : ins 93 20 = some (.bipush (-3), 0, 0, [], some []) := (L_93_0 20).trans rfl
theorem I_93_22 : ins 93 22 = some (.ireturn, 0, 0, [], none) := (L_93_0 22).trans rfl
theorem I_93_23 : ins 93 23 = some (.aload_n 2, 0, 0, [], some [0, 2]) := (L_93_0 23).trans rfl
theorem I_93_24 : ins 93 24 = some (.aload_n 2, 0, 0, [], none) := (L_93_0 24).trans rfl
theorem I_93_25 : ins 93 25 = some (.getfield 103, 2, 0, [(7, 75), (1, 76), (5, 77)], none) := (L_93_0 25).trans rfl
theorem I_93_28 : ins 93 28 = some (.iconst 1, 0, 0, [], none) := (L_93_0 28).trans rfl
theorem I_93_29 : ins 93 29 = some (.isub, 0, 0, [], none) := (L_93_0 29).trans rfl
theorem I_93_30 : ins 93 30 = some (.invokevirtual 107, 1, 0, [(7, 100), (1, 101), (5, 102)], none) := (L_93_0 30).trans rfl
theorem I_93_33 : ins 93 33 = some (.aload_n 0, 0, 0, [], none) := (L_93_0 33).trans rfl
theorem I_93_34 : ins 93 34 = some (.getfield 41, 4, 0, [(9, 69)], none) := (L_93_0 34).trans rfl
theorem I_93_37 : ins 93 37 = some (.invokevirtual 100, 0, 0, [(8, 99)], none) := (L_93_0 37).trans rfl
theorem I_93_40 : ins 93 40 = some (.aload_n 2, 0, 0, [], none) := (L_93_0 40).trans rfl
theorem I_93_41 : ins 93 41 = some (.getfield 103, 2, 0, [(7, 75), (1, 76), (5, 77)], none) := (L_93_0 41).trans rfl
theorem I_93_44 : ins 93 44 = some (.ireturn, 0, 0, [], none) := (L_93_0 44).trans rfl
theorem L_94_0 (pc : Nat) : ins 94 pc = fnd iT94 pc := rfl
theorem I_94_0 : ins 94 0 = some (.aload_n 0, 0, 0, [], none) := (L_94_0 0).trans rfl
theorem I_94_1 : ins 94 1 = some (.iload_n 1, 0, 0, [], none) := (L_94_0 1).trans rfl
theorem I_94_2 : ins 94 2 = some (.invokevirtual 88, 1, 0, [(9, 92)], none) := (L_94_0 2).trans rfl
theorem I_94_5 : ins 94 5 = some (.astore_n 2, 0, 0, [], none) := (L_94_0 5).trans rfl
theorem I_94_6 : ins 94 6 = some (.aload_n 2, 0, 0, [], none) := (L_94_0 6).trans rfl
theorem I_94_7 : ins 94 7 = some (.ifnonnull 8, 15, 0, [], none) := (L_94_0 7).trans rfl
theorem I_94_10 : ins 94 10 = some (.bipush (-2), 0, 0, [], some []) := (L_94_0 10).trans rfl
theorem I_94_12 : ins 94 12 = some (.goto 7, 19, 0, [], none) := (L_94_0 12).trans rfl
theorem I_94_15 : ins 94 15 = some (.aload_n 2, 0, 0, [], some [2]) := (L_94_0 15).trans rfl
theorem I_94_16 : ins 94 16 = some (.getfield 110, 3, 0, [(7, 78), (1, 79), (5, 80)], none) := (L_94_0 16).trans rfl
theorem I_94_19 : ins 94 19 = some (.ireturn, 0, 0, [], some []) := (L_94_0 19).trans rfl
theorem L_95_0 (pc : Nat) : ins 95 pc = fnd iT95 pc := rfl
theorem I_95_0 : ins 95 0 = some (.aload_n 0, 0, 0, [], none) := (L_95_0 0).trans rfl
theorem I_95_1 : ins 95 1 = some (.getfield 10, 0, 0, [(9, 65)], none) := (L_95_0 1).trans rfl
theorem I_95_4 : ins 95 4 = some (.iload_n 1, 0, 0, [], none) := (L_95_0 4).trans rfl
theorem I_95_5 : ins 95 5 = some (.invokevirtual 113, 1, 0, [(7, 103)], none) := (L_95_0 5).trans rfl
theorem I_95_8 : ins 95 8 = some (.ifCond .ne 6, 14, 0, [], none) := (L_95_0 8).trans rfl
theorem I_95_11 : ins 95 11 = some (.bipush (-2), 0, 0, [], some []) := (L_95_0 11).trans rfl
theorem I_95_13 : ins 95 13 = some (.ireturn, 0, 0, [], none) := (L_95_0 13).trans rfl
theorem I_95_14 : ins 95 14 = some (.iload_n 2, 0, 0, [], some [0, 1, 2]) := (L_95_0 14).trans rfl
theorem I_95_15 : ins 95 15 = some (.tableswitch 73 0 3 #[29, 38, 47, 56], 88, 0, [(0, 44), (1, 53), (2, 62), (3, 71)], none) := (L_95_0 15).trans rfl
theorem I_95_44 : ins 95 44 = some (.aload_n 0, 0, 0, [], some [0, 1]) := (L_95_0 44).trans rfl
theorem I_95_45 : ins 95 45 = some (.getfield 10, 0, 0, [(9, 65)], none) := (L_95_0 45).trans rfl
theorem I_95_48 : ins 95 48 = some (.iload_n 1, 0, 0, [], none) := (L_95_0 48).trans rfl
theorem I_95_49 : ins 95 49 = some (.invokevirtual 117, 1, 0, [(7, 104)], none) := (L_95_0 49).trans rfl
theorem I_95_52 : ins 95 52 = some (.ireturn, 0, 0, [], none) := (L_95_0 52).trans rfl
theorem I_95_53 : ins 95 53 = some (.aload_n 0, 0, 0, [], some [0, 1]) := (L_95_0 53).trans rfl
theorem I_95_54 : ins 95 54 = some (.getfield 10, 0, 0, [(9, 65)], none) := (L_95_0 54).trans rfl
theorem I_95_57 : ins 95 57 = some (.iload_n 1, 0, 0, [], none) := (L_95_0 57).trans rfl
theorem I_95_58 : ins 95 58 = some (.invokevirtual 121, 1, 0, [(7, 105)], none) := (L_95_0 58).trans rfl
theorem I_95_61 : ins 95 61 = some (.ireturn, 0, 0, [], none) := (L_95_0 61).trans rfl
theorem I_95_62 : ins 95 62 = some (.aload_n 0, 0, 0, [], some [0, 1]) := (L_95_0 62).trans rfl
theorem I_95_63 : ins 95 63 = some (.getfield 10, 0, 0, [(9, 65)], none) := (L_95_0 63).trans rfl
theorem I_95_66 : ins 95 66 = some (.iload_n 1, 0, 0, [], none) := (L_95_0 66).trans rfl
theorem I_95_67 : ins 95 67 = some (.invokevirtual 124, 1, 0, [(7, 106)], none) := (L_95_0 67).trans rfl
theorem I_95_70 : ins 95 70 = some (.ireturn, 0, 0, [], none) := (L_95_0 70).trans rfl
theorem I_95_71 : ins 95 71 = some (.aload_n 0, 0, 0, [], some [0, 1]) := (L_95_0 71).trans rfl
theorem I_95_72 : ins 95 72 = some (.getfield 10, 0, 0, [(9, 65)], none) := (L_95_0 72).trans rfl
theorem I_95_75 : ins 95 75 = some (.iload_n 1, 0, 0, [], none) := (L_95_0 75).trans rfl
theorem I_95_76 : ins 95 76 = some (.invokevirtual 127, 1, 0, [(7, 107)], none) := (L_95_0 76).trans rfl
theorem I_95_79 : ins 95 79 = some (.ifCond .eq 7, 86, 0, [], none) := (L_95_0 79).trans rfl
theorem I_95_82 : ins 95 82 = some (.iconst 1, 0, 0, [], some []) := (L_95_0 82).trans rfl
theorem I_95_83 : ins 95 83 = some (.goto 4, 87, 0, [], none) := (L_95_0 83).trans rfl
theorem I_95_86 : ins 95 86 = some (.iconst 0, 0, 0, [], some []) := (L_95_0 86).trans rfl
theorem I_95_87 : ins 95 87 = some (.ireturn, 0, 0, [], some []) := (L_95_0 87).trans rfl
theorem I_95_88 : ins 95 88 = some (.bipush (-2), 0, 0, [], some []) := (L_95_0 88).trans rfl
theorem I_95_90 : ins 95 90 = some (.ireturn, 0, 0, [], none) := (L_95_0 90).trans rfl
theorem L_96_0 (pc : Nat) : ins 96 pc = fnd iT96 pc := rfl
theorem I_96_0 : ins 96 0 = some (.aload_n 0, 0, 0, [], none) := (L_96_0 0).trans rfl
theorem I_96_1 : ins 96 1 = some (.getfield 19, 1, 0, [(9, 66)], none) := (L_96_0 1).trans rfl
theorem I_96_4 : ins 96 4 = some (.iload_n 1, 0, 0, [], none) := (L_96_0 4).trans rfl
theorem I_96_5 : ins 96 5 = some (.invokevirtual 130, 1, 0, [(1, 108)], none) := (L_96_0 5).trans rfl
theorem I_96_8 : ins 96 8 = some (.ifCond .ne 6, 14, 0, [], none) := (L_96_0 8).trans rfl
theorem I_96_11 : ins 96 11 = some (.bipush (-2), 0, 0, [], some []) := (L_96_0 11).trans rfl
theorem I_96_13 : ins 96 13 = some (.ireturn, 0, 0, [], none) := (L_96_0 13).trans rfl
theorem I_96_14 : ins 96 14 = some (.iload_n 2, 0, 0, [], some [0, 1, 2]) := (L_96_0 14).trans rfl
theorem I_96_15 : ins 96 15 = some (.tableswitch 65 0 3 #[29, 38, 47, 56], 80, 0, [(0, 44), (1, 53), (2, 62), (3, 71)], none) := (L_96_0 15).trans rfl
theorem I_96_44 : ins 96 44 = some (.aload_n 0, 0, 0, [], some [0, 1]) := (L_96_0 44).trans rfl
theorem I_96_45 : ins 96 45 = some (.getfield 19, 1, 0, [(9, 66)], none) := (L_96_0 45).trans rfl
theorem I_96_48 : ins 96 48 = some (.iload_n 1, 0, 0, [], none) := (L_96_0 48).trans rfl
theorem I_96_49 : ins 96 49 = some (.invokevirtual 131, 1, 0, [(1, 109)], none) := (L_96_0 49).trans rfl
theorem I_96_52 : ins 96 52 = some (.ireturn, 0, 0, [], none) := (L_96_0 52).trans rfl
theorem I_96_53 : ins 96 53 = some (.aload_n 0, 0, 0, [], some [0, 1]) := (L_96_0 53).trans rfl
theorem I_96_54 : ins 96 54 = some (.getfield 19, 1, 0, [(9, 66)], none) := (L_96_0 54).trans rfl
theorem I_96_57 : ins 96 57 = some (.iload_n 1, 0, 0, [], none) := (L_96_0 57).trans rfl
theorem I_96_58 : ins 96 58 = some (.invokevirtual 134, 1, 0, [(1, 110)], none) := (L_96_0 58).trans rfl
theorem I_96_61 : ins 96 61 = some (.ireturn, 0, 0, [], none) := (L_96_0 61).trans rfl
theorem I_96_62 : ins 96 62 = some (.aload_n 0, 0, 0, [], some [0, 1]) := (L_96_0 62).trans rfl
theorem I_96_63 : ins 96 63 = some (.getfield 19, 1, 0, [(9, 66)], none) := (L_96_0 63).trans rfl
theorem I_96_66 : ins 96 66 = some (.iload_n 1, 0, 0, [], none) := (L_96_0 66).trans rfl
theorem I_96_67 : ins 96 67 = some (.invokevirtual 137, 1, 0, [(1, 111)], none) := (L_96_0 67).trans rfl
theorem I_96_70 : ins 96 70 = some (.ireturn, 0, 0, [], none) := (L_96_0 70).trans rfl
theorem I_96_71 : ins 96 71 = some (.aload_n 0, 0, 0, [], some [0, 1]) := (L_96_0 71).trans rfl
theorem I_96_72 : ins 96 72 = some (.getfield 19, 1, 0, [(9, 66)], none) := (L_96_0 72).trans rfl
theorem I_96_75 : ins 96 75 = some (.iload_n 1, 0, 0, [], none) := (L_96_0 75).trans rfl
theorem I_96_76 : ins 96 76 = some (.invokevirtual 138, 1, 0, [(1, 112)], none) := (L_96_0 76).trans rfl
theorem I_96_79 : ins 96 79 = some (.ireturn, 0, 0, [], none) := (L_96_0 79).trans rfl
theorem I_96_80 : ins 96 80 = some (.bipush (-2), 0, 0, [], some []) := (L_96_0 80).trans rfl
theorem I_96_82 : ins 96 82 = some (.ireturn, 0, 0, [], none) := (L_96_0 82).trans rfl
theorem L_97_0 (pc : Nat) : ins 97 pc = fnd iT97 pc := rfl
theorem I_97_0 : ins 97 0 = some (.iload_n 1, 0, 0, [], none) := (L_97_0 0).trans rfl
theorem I_97_1 : ins 97 1 = some (.ifCond .lt 9, 10, 0, [], none) := (L_97_0 1).trans rfl
theorem I_97_4 : ins 97 4 = some (.iload_n 1, 0, 0, [], some [0, 1]) := (L_97_0 4).trans rfl
theorem I_97_5 : ins 97 5 = some (.bipush 24, 0, 0, [], none) := (L_97_0 5).trans rfl
theorem I_97_7 : ins 97 7 = some (.if_icmp .lt 6, 13, 0, [], none) := (L_97_0 7).trans rfl
theorem I_97_10 : ins 97 10 = some (.bipush (-2), 0, 0, [], some []) := (L_97_0 10).trans rfl
theorem I_97_12 : ins 97 12 = some (.ireturn, 0, 0, [], none) := (L_97_0 12).trans rfl
theorem I_97_13 : ins 97 13 = some (.aload_n 0, 0, 0, [], some [0, 1]) := (L_97_0 13).trans rfl
theorem I_97_14 : ins 97 14 = some (.getfield 26, 2, 0, [(9, 67)], none) := (L_97_0 14).trans rfl
theorem I_97_17 : ins 97 17 = some (.iload_n 1, 0, 0, [], none) := (L_97_0 17).trans rfl
theorem I_97_18 : ins 97 18 = some (.invokevirtual 141, 1, 0, [(5, 113)], none) := (L_97_0 18).trans rfl
theorem I_97_21 : ins 97 21 = some (.ifCond .eq 14, 35, 0, [], none) := (L_97_0 21).trans rfl
theorem I_97_24 : ins 97 24 = some (.aload_n 0, 0, 0, [], some [0, 1]) := (L_97_0 24).trans rfl
theorem I_97_25 : ins 97 25 = some (.getfield 26, 2, 0, [(9, 67)], none) := (L_97_0 25).trans rfl
theorem I_97_28 : ins 97 28 = some (.iload_n 1, 0, 0, [], none) := (L_97_0 28).trans rfl
theorem I_97_29 : ins 97 29 = some (.invokevirtual 142, 1, 0, [(5, 114)], none) := (L_97_0 29).trans rfl
theorem I_97_32 : ins 97 32 = some (.goto 4, 36, 0, [], none) := (L_97_0 32).trans rfl
theorem I_97_35 : ins 97 35 = some (.iconst (-1), 0, 0, [], some []) := (L_97_0 35).trans rfl
theorem I_97_36 : ins 97 36 = some (.ireturn, 0, 0, [], some []) := (L_97_0 36).trans rfl
theorem L_98_0 (pc : Nat) : ins 98 pc = fnd iT98 pc := rfl
theorem I_98_0 : ins 98 0 = some (.iload_n 1, 0, 0, [], none) := (L_98_0 0).trans rfl
theorem I_98_1 : ins 98 1 = some (.ifCond .ne 22, 23, 0, [], none) := (L_98_0 1).trans rfl
theorem I_98_4 : ins 98 4 = some (.iload_n 2, 0, 0, [], some [0, 1, 2]) := (L_98_0 4).trans rfl
theorem I_98_5 : ins 98 5 = some (.ifCond .lt 18, 23, 0, [], none) := (L_98_0 5).trans rfl
theorem I_98_8 : ins 98 8 = some (.iload_n 2, 0, 0, [], some [0, 1, 2]) := (L_98_0 8).trans rfl
theorem I_98_9 : ins 98 9 = some (.bipush 40, 0, 0, [], none) := (L_98_0 9).trans rfl
theorem I_98_11 : ins 98 11 = some (.if_icmp .gt 12, 23, 0, [], none) := (L_98_0 11).trans rfl
theorem I_98_14 : ins 98 14 = some (.aload_n 0, 0, 0, [], some [0, 2]) := (L_98_0 14).trans rfl
theorem I_98_15 : ins 98 15 = some (.getfield 41, 4, 0, [(9, 69)], none) := (L_98_0 15).trans rfl
theorem I_98_18 : ins 98 18 = some (.iload_n 2, 0, 0, [], none) := (L_98_0 18).trans rfl
theorem I_98_19 : ins 98 19 = some (.invokevirtual 145, 1, 0, [(8, 115)], none) := (L_98_0 19).trans rfl
theorem I_98_22 : ins 98 22 = some (.ireturn, 0, 0, [], none) := (L_98_0 22).trans rfl
theorem I_98_23 : ins 98 23 = some (.iload_n 1, 0, 0, [], some [0, 1, 2]) := (L_98_0 23).trans rfl
theorem I_98_24 : ins 98 24 = some (.iconst 1, 0, 0, [], none) := (L_98_0 24).trans rfl
theorem I_98_25 : ins 98 25 = some (.if_icmp .ne 21, 46, 0, [], none) := (L_98_0 25).trans rfl
theorem I_98_28 : ins 98 28 = some (.iload_n 2, 0, 0, [], some [0, 2]) := (L_98_0 28).trans rfl
theorem I_98_29 : ins 98 29 = some (.ifCond .lt 17, 46, 0, [], none) := (L_98_0 29).trans rfl
theorem I_98_32 : ins 98 32 = some (.iload_n 2, 0, 0, [], some [0, 2]) := (L_98_0 32).trans rfl
theorem I_98_33 : ins 98 33 = some (.iconst 1, 0, 0, [], none) := (L_98_0 33).trans rfl
theorem I_98_34 : ins 98 34 = some (.if_icmp .gt 12, 46, 0, [], none) := (L_98_0 34).trans rfl
theorem I_98_37 : ins 98 37 = some (.aload_n 0, 0, 0, [], some [0, 2]) := (L_98_0 37).trans rfl
theorem I_98_38 : ins 98 38 = some (.getfield 41, 4, 0, [(9, 69)], none) := (L_98_0 38).trans rfl
theorem I_98_41 : ins 98 41 = some (.iload_n 2, 0, 0, [], none) := (L_98_0 41).trans rfl
theorem I_98_42 : ins 98 42 = some (.invokevirtual 148, 1, 0, [(8, 116)], none) := (L_98_0 42).trans rfl
theorem I_98_45 : ins 98 45 = some (.ireturn, 0, 0, [], none) := (L_98_0 45).trans rfl
theorem I_98_46 : ins 98 46 = some (.bipush (-2), 0, 0, [], some []) := (L_98_0 46).trans rfl
theorem I_98_48 : ins 98 48 = some (.ireturn, 0, 0, [], none) := (L_98_0 48).trans rfl
theorem L_99_0 (pc : Nat) : ins 99 pc = fnd iT99 pc := rfl
theorem I_99_0 : ins 99 0 = some (.aload_n 0, 0, 0, [], none) := (L_99_0 0).trans rfl
theorem I_99_1 : ins 99 1 = some (.iload_n 1, 0, 0, [], none) := (L_99_0 1).trans rfl
theorem I_99_2 : ins 99 2 = some (.invokevirtual 151, 1, 0, [(9, 117)], none) := (L_99_0 2).trans rfl
theorem I_99_5 : ins 99 5 = some (.ifCond .eq 14, 19, 0, [], none) := (L_99_0 5).trans rfl
theorem I_99_8 : ins 99 8 = some (.aload_n 0, 0, 0, [], some [0, 1, 2, 3]) := (L_99_0 8).trans rfl
theorem I_99_9 : ins 99 9 = some (.getfield 19, 1, 0, [(9, 66)], none) := (L_99_0 9).trans rfl
theorem I_99_12 : ins 99 12 = some (.iload_n 2, 0, 0, [], none) := (L_99_0 12).trans rfl
theorem I_99_13 : ins 99 13 = some (.invokevirtual 130, 1, 0, [(1, 108)], none) := (L_99_0 13).trans rfl
theorem I_99_16 : ins 99 16 = some (.ifCond .ne 6, 22, 0, [], none) := (L_99_0 16).trans rfl
theorem I_99_19 : ins 99 19 = some (.bipush (-2), 0, 0, [], some []) := (L_99_0 19).trans rfl
theorem I_99_21 : ins 99 21 = some (.ireturn, 0, 0, [], none) := (L_99_0 21).trans rfl
theorem I_99_22 : ins 99 22 = some (.aload_n 0, 0, 0, [], some [0, 1, 2, 3]) := (L_99_0 22).trans rfl
theorem I_99_23 : ins 99 23 = some (.getfield 41, 4, 0, [(9, 69)], none) := (L_99_0 23).trans rfl
theorem I_99_26 : ins 99 26 = some (.invokevirtual 154, 0, 0, [(8, 118)], none) := (L_99_0 26).trans rfl
theorem I_99_29 : ins 99 29 = some (.iload_n 3, 0, 0, [], none) := (L_99_0 29).trans rfl
theorem I_99_30 : ins 99 30 = some (.tableswitch 56 0 2 #[26, 36, 46], 86, 0, [(0, 56), (1, 66), (2, 76)], none) := (L_99_0 30).trans rfl
theorem I_99_56 : ins 99 56 = some (.aload_n 0, 0, 0, [], some [0, 1, 2]) := (L_99_0 56).trans rfl
theorem I_99_57 : ins 99 57 = some (.getfield 41, 4, 0, [(9, 69)], none) := (L_99_0 57).trans rfl
theorem I_99_60 : ins 99 60 = some (.iload_n 1, 0, 0, [], none) := (L_99_0 60).trans rfl
theorem I_99_61 : ins 99 61 = some (.iload_n 2, 0, 0, [], none) := (L_99_0 61).trans rfl
theorem I_99_62 : ins 99 62 = some (.invokevirtual 157, 2, 0, [(8, 119)], none) := (L_99_0 62).trans rfl
theorem I_99_65 : ins 99 65 = some (.ireturn, 0, 0, [], none) := (L_99_0 65).trans rfl
theorem I_99_66 : ins 99 66 = some (.aload_n 0, 0, 0, [], some [0, 1, 2]) := (L_99_0 66).trans rfl
theorem I_99_67 : ins 99 67 = some (.getfield 41, 4, 0, [(9, 69)], none) := (L_99_0 67).trans rfl
theorem I_99_70 : ins 99 70 = some (.iload_n 1, 0, 0, [], none) := (L_99_0 70).trans rfl
theorem I_99_71 : ins 99 71 = some (.iload_n 2, 0, 0, [], none) := (L_99_0 71).trans rfl
theorem I_99_72 : ins 99 72 = some (.invokevirtual 161, 2, 0, [(8, 120)], none) := (L_99_0 72).trans rfl
theorem I_99_75 : ins 99 75 = some (.ireturn, 0, 0, [], none) := (L_99_0 75).trans rfl
theorem I_99_76 : ins 99 76 = some (.aload_n 0, 0, 0, [], some [0, 1, 2]) := (L_99_0 76).trans rfl
theorem I_99_77 : ins 99 77 = some (.getfield 41, 4, 0, [(9, 69)], none) := (L_99_0 77).trans rfl
theorem I_99_80 : ins 99 80 = some (.iload_n 1, 0, 0, [], none) := (L_99_0 80).trans rfl
theorem I_99_81 : ins 99 81 = some (.iload_n 2, 0, 0, [], none) := (L_99_0 81).trans rfl
theorem I_99_82 : ins 99 82 = some (.invokevirtual 164, 2, 0, [(8, 121)], none) := (L_99_0 82).trans rfl
theorem I_99_85 : ins 99 85 = some (.ireturn, 0, 0, [], none) := (L_99_0 85).trans rfl
theorem I_99_86 : ins 99 86 = some (.bipush (-2), 0, 0, [], some []) := (L_99_0 86).trans rfl
theorem I_99_88 : ins 99 88 = some (.ireturn, 0, 0, [], none) := (L_99_0 88).trans rfl
theorem L_100_0 (pc : Nat) : ins 100 pc = fnd iT100 pc := rfl
theorem I_100_0 : ins 100 0 = some (.aload_n 0, 0, 0, [], none) := (L_100_0 0).trans rfl
theorem I_100_1 : ins 100 1 = some (.iload_n 1, 0, 0, [], none) := (L_100_0 1).trans rfl
theorem I_100_2 : ins 100 2 = some (.invokevirtual 151, 1, 0, [(9, 117)], none) := (L_100_0 2).trans rfl
theorem I_100_5 : ins 100 5 = some (.ifCond .eq 14, 19, 0, [], none) := (L_100_0 5).trans rfl
theorem I_100_8 : ins 100 8 = some (.aload_n 0, 0, 0, [], some [0, 1, 2]) := (L_100_0 8).trans rfl
theorem I_100_9 : ins 100 9 = some (.getfield 19, 1, 0, [(9, 66)], none) := (L_100_0 9).trans rfl
theorem I_100_12 : ins 100 12 = some (.iload_n 2, 0, 0, [], none) := (L_100_0 12).trans rfl
theorem I_100_13 : ins 100 13 = some (.invokevirtual 130, 1, 0, [(1, 108)], none) := (L_100_0 13).trans rfl
theorem I_100_16 : ins 100 16 = some (.ifCond .ne 6, 22, 0, [], none) := (L_100_0 16).trans rfl
theorem I_100_19 : ins 100 19 = some (.bipush (-2), 0, 0, [], some []) := (L_100_0 19).trans rfl
theorem I_100_21 : ins 100 21 = some (.ireturn, 0, 0, [], none) := (L_100_0 21).trans rfl
theorem I_100_22 : ins 100 22 = some (.aload_n 0, 0, 0, [], some [0, 1, 2]) := (L_100_0 22).trans rfl
theorem I_100_23 : ins 100 23 = some (.getfield 41, 4, 0, [(9, 69)], none) := (L_100_0 23).trans rfl
theorem I_100_26 : ins 100 26 = some (.invokevirtual 154, 0, 0, [(8, 118)], none) := (L_100_0 26).trans rfl
theorem I_100_29 : ins 100 29 = some (.aload_n 0, 0, 0, [], none) := (L_100_0 29).trans rfl
theorem I_100_30 : ins 100 30 = some (.getfield 41, 4, 0, [(9, 69)], none) := (L_100_0 30).trans rfl
theorem I_100_33 : ins 100 33 = some (.iload_n 1, 0, 0, [], none) := (L_100_0 33).trans rfl
theorem I_100_34 : ins 100 34 = some (.iload_n 2, 0, 0, [], none) := (L_100_0 34).trans rfl
theorem I_100_35 : ins 100 35 = some (.invokevirtual 167, 2, 0, [(8, 122)], none) := (L_100_0 35).trans rfl
theorem I_100_38 : ins 100 38 = some (.ireturn, 0, 0, [], none) := (L_100_0 38).trans rfl
theorem L_101_0 (pc : Nat) : ins 101 pc = fnd iT101 pc := rfl
theorem I_101_0 : ins 101 0 = some (.aload_n 0, 0, 0, [], none) := (L_101_0 0).trans rfl
theorem I_101_1 : ins 101 1 = some (.iload_n 1, 0, 0, [], none) := (L_101_0 1).trans rfl
theorem I_101_2 : ins 101 2 = some (.invokevirtual 151, 1, 0, [(9, 117)], none) := (L_101_0 2).trans rfl
theorem I_101_5 : ins 101 5 = some (.ifCond .eq 14, 19, 0, [], none) := (L_101_0 5).trans rfl
theorem I_101_8 : ins 101 8 = some (.aload_n 0, 0, 0, [], some [0, 1, 2]) := (L_101_0 8).trans rfl
theorem I_101_9 : ins 101 9 = some (.getfield 10, 0, 0, [(9, 65)], none) := (L_101_0 9).trans rfl
theorem I_101_12 : ins 101 12 = some (.iload_n 2, 0, 0, [], none) := (L_101_0 12).trans rfl
theorem I_101_13 : ins 101 13 = some (.invokevirtual 113, 1, 0, [(7, 103)], none) := (L_101_0 13).trans rfl
theorem I_101_16 : ins 101 16 = some (.ifCond .ne 6, 22, 0, [], none) := (L_101_0 16).trans rfl
theorem I_101_19 : ins 101 19 = some (.bipush (-2), 0, 0, [], some []) := (L_101_0 19).trans rfl
theorem I_101_21 : ins 101 21 = some (.ireturn, 0, 0, [], none) := (L_101_0 21).trans rfl
theorem I_101_22 : ins 101 22 = some (.aload_n 0, 0, 0, [], some [0, 1, 2]) := (L_101_0 22).trans rfl
theorem I_101_23 : ins 101 23 = some (.getfield 41, 4, 0, [(9, 69)], none) := (L_101_0 23).trans rfl
theorem I_101_26 : ins 101 26 = some (.invokevirtual 154, 0, 0, [(8, 118)], none) := (L_101_0 26).trans rfl
theorem I_101_29 : ins 101 29 = some (.aload_n 0, 0, 0, [], none) := (L_101_0 29).trans rfl
theorem I_101_30 : ins 101 30 = some (.getfield 41, 4, 0, [(9, 69)], none) := (L_101_0 30).trans rfl
theorem I_101_33 : ins 101 33 = some (.iload_n 1, 0, 0, [], none) := (L_101_0 33).trans rfl
theorem I_101_34 : ins 101 34 = some (.iload_n 2, 0, 0, [], none) := (L_101_0 34).trans rfl
theorem I_101_35 : ins 101 35 = some (.invokevirtual 170, 2, 0, [(8, 123)], none) := (L_101_0 35).trans rfl
theorem I_101_38 : ins 101 38 = some (.ireturn, 0, 0, [], none) := (L_101_0 38).trans rfl
theorem L_102_0 (pc : Nat) : ins 102 pc = fnd iT102 pc := rfl
theorem I_102_0 : ins 102 0 = some (.aload_n 0, 0, 0, [], none) := (L_102_0 0).trans rfl
theorem I_102_1 : ins 102 1 = some (.iload_n 1, 0, 0, [], none) := (L_102_0 1).trans rfl
theorem I_102_2 : ins 102 2 = some (.invokevirtual 151, 1, 0, [(9, 117)], none) := (L_102_0 2).trans rfl
theorem I_102_5 : ins 102 5 = some (.ifCond .eq 12, 17, 0, [], none) := (L_102_0 5).trans rfl
theorem I_102_8 : ins 102 8 = some (.iload_n 2, 0, 0, [], some [0, 1, 2]) := (L_102_0 8).trans rfl
theorem I_102_9 : ins 102 9 = some (.ifCond .lt 8, 17, 0, [], none) := (L_102_0 9).trans rfl
theorem I_102_12 : ins 102 12 = some (.iload_n 2, 0, 0, [], some [0, 1, 2]) := (L_102_0 12).trans rfl
theorem I_102_13 : ins 102 13 = some (.iconst 1, 0, 0, [], none) := (L_102_0 13).trans rfl
theorem I_102_14 : ins 102 14 = some (.if_icmp .le 6, 20, 0, [], none) := (L_102_0 14).trans rfl
theorem I_102_17 : ins 102 17 = some (.bipush (-2), 0, 0, [], some []) := (L_102_0 17).trans rfl
theorem I_102_19 : ins 102 19 = some (.ireturn, 0, 0, [], none) := (L_102_0 19).trans rfl
theorem I_102_20 : ins 102 20 = some (.aload_n 0, 0, 0, [], some [0, 1, 2]) := (L_102_0 20).trans rfl
theorem I_102_21 : ins 102 21 = some (.getfield 41, 4, 0, [(9, 69)], none) := (L_102_0 21).trans rfl
theorem I_102_24 : ins 102 24 = some (.invokevirtual 154, 0, 0, [(8, 118)], none) := (L_102_0 24).trans rfl
theorem I_102_27 : ins 102 27 = some (.iload_n 2, 0, 0, [], none) := (L_102_0 27).trans rfl
theorem I_102_28 : ins 102 28 = some (.ifCond .ne 14, 42, 0, [], none) := (L_102_0 28).trans rfl
theorem I_102_31 : ins 102 31 = some (.aload_n 0, 0, 0, [], some [0, 1]) := (L_102_0 31).trans rfl
theorem I_102_32 : ins 102 32 = some (.getfield 41, 4, 0, [(9, 69)], none) := (L_102_0 32).trans rfl
theorem I_102_35 : ins 102 35 = some (.iload_n 1, 0, 0, [], none) := (L_102_0 35).trans rfl
theorem I_102_36 : ins 102 36 = some (.invokevirtual 173, 1, 0, [(8, 124)], none) := (L_102_0 36).trans rfl
theorem I_102_39 : ins 102 39 = some (.goto 11, 50, 0, [], none) := (L_102_0 39).trans rfl
theorem I_102_42 : ins 102 42 = some (.aload_n 0, 0, 0, [], some [0, 1]) := (L_102_0 42).trans rfl
theorem I_102_43 : ins 102 43 = some (.getfield 41, 4, 0, [(9, 69)], none) := (L_102_0 43).trans rfl
theorem I_102_46 : ins 102 46 = some (.iload_n 1, 0, 0, [], none) := (L_102_0 46).trans rfl
theorem I_102_47 : ins 102 47 = some (.invokevirtual 176, 1, 0, [(8, 125)], none) := (L_102_0 47).trans rfl
theorem I_102_50 : ins 102 50 = some (.ireturn, 0, 0, [], some []) := (L_102_0 50).trans rfl
theorem L_103_0 (pc : Nat) : ins 103 pc = fnd iT103 pc := rfl
theorem I_103_0 : ins 103 0 = some (.iload_n 1, 0, 0, [], none) := (L_103_0 0).trans rfl
theorem I_103_1 : ins 103 1 = some (.ifCond .lt 8, 9, 0, [], none) := (L_103_0 1).trans rfl
theorem I_103_4 : ins 103 4 = some (.iload_n 1, 0, 0, [], some [0, 1]) := (L_103_0 4).trans rfl
theorem I_103_5 : ins 103 5 = some (.iconst 1, 0, 0, [], none) := (L_103_0 5).trans rfl
theorem I_103_6 : ins 103 6 = some (.if_icmp .le 6, 12, 0, [], none) := (L_103_0 6).trans rfl
theorem I_103_9 : ins 103 9 = some (.bipush (-2), 0, 0, [], some []) := (L_103_0 9).trans rfl
theorem I_103_11 : ins 103 11 = some (.ireturn, 0, 0, [], none) := (L_103_0 11).trans rfl
theorem I_103_12 : ins 103 12 = some (.aload_n 0, 0, 0, [], some [0, 1]) := (L_103_0 12).trans rfl
theorem I_103_13 : ins 103 13 = some (.getfield 41, 4, 0, [(9, 69)], none) := (L_103_0 13).trans rfl
theorem I_103_16 : ins 103 16 = some (.invokevirtual 154, 0, 0, [(8, 118)], none) := (L_103_0 16).trans rfl
theorem I_103_19 : ins 103 19 = some (.aload_n 0, 0, 0, [], none) := (L_103_0 19).trans rfl
theorem I_103_20 : ins 103 20 = some (.getfield 41, 4, 0, [(9, 69)], none) := (L_103_0 20).trans rfl
theorem I_103_23 : ins 103 23 = some (.invokevirtual 179, 0, 0, [(8, 126)], none) := (L_103_0 23).trans rfl
theorem I_103_26 : ins 103 26 = some (.istore_n 2, 0, 0, [], none) := (L_103_0 26).trans rfl
theorem I_103_27 : ins 103 27 = some (.iload_n 1, 0, 0, [], none) := (L_103_0 27).trans rfl
theorem I_103_28 : ins 103 28 = some (.ifCond .eq 8, 36, 0, [], none) := (L_103_0 28).trans rfl
theorem I_103_31 : ins 103 31 = some (.iload_n 2, 0, 0, [], some [0, 2]) := (L_103_0 31).trans rfl
theorem I_103_32 : ins 103 32 = some (.iconst (-1), 0, 0, [], none) := (L_103_0 32).trans rfl
theorem I_103_33 : ins 103 33 = some (.if_icmp .ne 7, 40, 0, [], none) := (L_103_0 33).trans rfl
theorem I_103_36 : ins 103 36 = some (.iload_n 2, 0, 0, [], some [2]) := (L_103_0 36).trans rfl
theorem I_103_37 : ins 103 37 = some (.goto 14, 51, 0, [], none) := (L_103_0 37).trans rfl
theorem I_103_40 : ins 103 40 = some (.aload_n 0, 0, 0, [], some [0, 2]) := (L_103_0 40).trans rfl
theorem I_103_41 : ins 103 41 = some (.getfield 41, 4, 0, [(9, 69)], none) := (L_103_0 41).trans rfl
theorem I_103_44 : ins 103 44 = some (.iload_n 2, 0, 0, [], none) := (L_103_0 44).trans rfl
theorem I_103_45 : ins 103 45 = some (.invokevirtual 183, 1, 0, [(8, 127)], none) := (L_103_0 45).trans rfl
theorem I_103_48 : ins 103 48 = some (.invokestatic 186, 1, 0, [(0, 128)], none) := (L_103_0 48).trans rfl
theorem I_103_51 : ins 103 51 = some (.ireturn, 0, 0, [], some []) := (L_103_0 51).trans rfl
theorem L_104_0 (pc : Nat) : ins 104 pc = fnd iT104 pc := rfl
theorem I_104_0 : ins 104 0 = some (.aload_n 0, 0, 0, [], none) := (L_104_0 0).trans rfl
theorem I_104_1 : ins 104 1 = some (.getfield 10, 0, 0, [(9, 65)], none) := (L_104_0 1).trans rfl
theorem I_104_4 : ins 104 4 = some (.iload_n 1, 0, 0, [], none) := (L_104_0 4).trans rfl
theorem I_104_5 : ins 104 5 = some (.invokevirtual 113, 1, 0, [(7, 103)], none) := (L_104_0 5).trans rfl
theorem I_104_8 : ins 104 8 = some (.ifCond .ne 6, 14, 0, [], none) := (L_104_0 8).trans rfl
theorem I_104_11 : ins 104 11 = some (.bipush (-2), 0, 0, [], some []) := (L_104_0 11).trans rfl
theorem I_104_13 : ins 104 13 = some (.ireturn, 0, 0, [], none) := (L_104_0 13).trans rfl
theorem I_104_14 : ins 104 14 = some (.aload_n 0, 0, 0, [], some [0, 1]) := (L_104_0 14).trans rfl
theorem I_104_15 : ins 104 15 = some (.getfield 41, 4, 0, [(9, 69)], none) := (L_104_0 15).trans rfl
theorem I_104_18 : ins 104 18 = some (.invokevirtual 154, 0, 0, [(8, 118)], none) := (L_104_0 18).trans rfl
theorem I_104_21 : ins 104 21 = some (.aload_n 0, 0, 0, [], none) := (L_104_0 21).trans rfl
theorem I_104_22 : ins 104 22 = some (.getfield 41, 4, 0, [(9, 69)], none) := (L_104_0 22).trans rfl
theorem I_104_25 : ins 104 25 = some (.iload_n 1, 0, 0, [], none) := (L_104_0 25).trans rfl
theorem I_104_26 : ins 104 26 = some (.invokevirtual 189, 1, 0, [(8, 129)], none) := (L_104_0 26).trans rfl
theorem I_104_29 : ins 104 29 = some (.ireturn, 0, 0, [], none) := (L_104_0 29).trans rfl
theorem L_105_0 (pc : Nat) : ins 105 pc = fnd iT105 pc := rfl
theorem I_105_0 : ins 105 0 = some (.aload_n 0, 0, 0, [], none) := (L_105_0 0).trans rfl
theorem I_105_1 : ins 105 1 = some (.iload_n 1, 0, 0, [], none) := (L_105_0 1).trans rfl
theorem I_105_2 : ins 105 2 = some (.invokevirtual 151, 1, 0, [(9, 117)], none) := (L_105_0 2).trans rfl
theorem I_105_5 : ins 105 5 = some (.ifCond .eq 14, 19, 0, [], none) := (L_105_0 5).trans rfl
theorem I_105_8 : ins 105 8 = some (.iload_n 2, 0, 0, [], some [0, 1, 2]) := (L_105_0 8).trans rfl
theorem I_105_9 : ins 105 9 = some (.iconst (-1), 0, 0, [], none) := (L_105_0 9).trans rfl
theorem I_105_10 : ins 105 10 = some (.if_icmp .lt 9, 19, 0, [], none) := (L_105_0 10).trans rfl
theorem I_105_13 : ins 105 13 = some (.iload_n 2, 0, 0, [], some [0, 1, 2]) := (L_105_0 13).trans rfl
theorem I_105_14 : ins 105 14 = some (.bipush 8, 0, 0, [], none) := (L_105_0 14).trans rfl
theorem I_105_16 : ins 105 16 = some (.if_icmp .lt 6, 22, 0, [], none) := (L_105_0 16).trans rfl
theorem I_105_19 : ins 105 19 = some (.bipush (-2), 0, 0, [], some []) := (L_105_0 19).trans rfl
theorem I_105_21 : ins 105 21 = some (.ireturn, 0, 0, [], none) := (L_105_0 21).trans rfl
theorem I_105_22 : ins 105 22 = some (.aload_n 0, 0, 0, [], some [0, 1, 2]) := (L_105_0 22).trans rfl
theorem I_105_23 : ins 105 23 = some (.getfield 41, 4, 0, [(9, 69)], none) := (L_105_0 23).trans rfl
theorem I_105_26 : ins 105 26 = some (.invokevirtual 154, 0, 0, [(8, 118)], none) := (L_105_0 26).trans rfl
theorem I_105_29 : ins 105 29 = some (.aload_n 0, 0, 0, [], none) := (L_105_0 29).trans rfl
theorem I_105_30 : ins 105 30 = some (.getfield 50, 5, 0, [(9, 70)], none) := (L_105_0 30).trans rfl
theorem I_105_33 : ins 105 33 = some (.iload_n 1, 0, 0, [], none) := (L_105_0 33).trans rfl
theorem I_105_34 : ins 105 34 = some (.invokevirtual 192, 1, 0, [(2, 130)], none) := (L_105_0 34).trans rfl
theorem I_105_37 : ins 105 37 = some (.iload_n 2, 0, 0, [], none) := (L_105_0 37).trans rfl
theorem I_105_38 : ins 105 38 = some (.iconst (-1), 0, 0, [], none) := (L_105_0 38).trans rfl
theorem I_105_39 : ins 105 39 = some (.if_icmp .ne 13, 52, 0, [], none) := (L_105_0 39).trans rfl
theorem I_105_42 : ins 105 42 = some (.aload_n 0, 0, 0, [], some [0]) := (L_105_0 42).trans rfl
theorem I_105_43 : ins 105 43 = some (.getfield 50, 5, 0, [(9, 70)], none) := (L_105_0 43).trans rfl
theorem I_105_46 : ins 105 46 = some (.invokevirtual 195, 0, 0, [(2, 131)], none) := (L_105_0 46).trans rfl
theorem I_105_49 : ins 105 49 = some (.goto 11, 60, 0, [], none) := (L_105_0 49).trans rfl
theorem I_105_52 : ins 105 52 = some (.aload_n 0, 0, 0, [], some [0, 2]) := (L_105_0 52).trans rfl
theorem I_105_53 : ins 105 53 = some (.getfield 50, 5, 0, [(9, 70)], none) := (L_105_0 53).trans rfl
theorem I_105_56 : ins 105 56 = some (.iload_n 2, 0, 0, [], none) := (L_105_0 56).trans rfl
theorem I_105_57 : ins 105 57 = some (.invokevirtual 198, 1, 0, [(2, 132)], none) := (L_105_0 57).trans rfl
theorem I_105_60 : ins 105 60 = some (.ireturn, 0, 0, [], some []) := (L_105_0 60).trans rfl
theorem L_106_0 (pc : Nat) : ins 106 pc = fnd iT106 pc := rfl
theorem I_106_0 : ins 106 0 = some (.iload_n 1, 0, 0, [], none) := (L_106_0 0).trans rfl
theorem I_106_1 : ins 106 1 = some (.bipush 6, 0, 0, [], none) := (L_106_0 1).trans rfl
theorem I_106_3 : ins 106 3 = some (.if_icmp .ge 18, 21, 0, [], none) := (L_106_0 3).trans rfl
theorem I_106_6 : ins 106 6 = some (.aload_n 0, 0, 0, [], some [0, 1, 2, 3]) := (L_106_0 6).trans rfl
theorem I_106_7 : ins 106 7 = some (.getfield 10, 0, 0, [(9, 65)], none) := (L_106_0 7).trans rfl
theorem I_106_10 : ins 106 10 = some (.iload_n 1, 0, 0, [], none) := (L_106_0 10).trans rfl
theorem I_106_11 : ins 106 11 = some (.invokevirtual 113, 1, 0, [(7, 103)], none) := (L_106_0 11).trans rfl
theorem I_106_14 : ins 106 14 = some (.ifCond .eq 7, 21, 0, [], none) := (L_106_0 14).trans rfl
theorem I_106_17 : ins 106 17 = some (.iconst 1, 0, 0, [], some [0, 1, 2, 3]) := (L_106_0 17).trans rfl
theorem I_106_18 : ins 106 18 = some (.goto 4, 22, 0, [], none) := (L_106_0 18).trans rfl
theorem I_106_21 : ins 106 21 = some (.iconst 0, 0, 0, [], some [0, 1, 2, 3]) := (L_106_0 21).trans rfl
theorem I_106_22 : ins 106 22 = some (.istore 4, 0, 0, [], some [0, 1, 2, 3]) := (L_106_0 22).trans rfl
theorem I_106_24 : ins 106 24 = some (.iload 4, 0, 0, [], none) := (L_106_0 24).trans rfl
theorem I_106_26 : ins 106 26 = some (.ifCond .eq 24, 50, 0, [], none) := (L_106_0 26).trans rfl
theorem I_106_29 : ins 106 29 = some (.iload_n 2, 0, 0, [], some [0, 1, 2, 3]) := (L_106_0 29).trans rfl
theorem I_106_30 : ins 106 30 = some (.ifCond .lt 20, 50, 0, [], none) := (L_106_0 30).trans rfl
theorem I_106_33 : ins 106 33 = some (.iload_n 2, 0, 0, [], some [0, 1, 2, 3]) := (L_106_0 33).trans rfl
theorem I_106_34 : ins 106 34 = some (.bipush 99, 0, 0, [], none) := (L_106_0 34).trans rfl
theorem I_106_36 : ins 106 36 = some (.if_icmp .gt 14, 50, 0, [], none) := (L_106_0 36).trans rfl
theorem I_106_39 : ins 106 39 = some (.iload_n 3, 0, 0, [], some [0, 1, 2, 3]) := (L_106_0 39).trans rfl
theorem I_106_40 : ins 106 40 = some (.iconst (-1), 0, 0, [], none) := (L_106_0 40).trans rfl
theorem I_106_41 : ins 106 41 = some (.if_icmp .lt 9, 50, 0, [], none) := (L_106_0 41).trans rfl
theorem I_106_44 : ins 106 44 = some (.iload_n 3, 0, 0, [], some [0, 1, 2, 3]) := (L_106_0 44).trans rfl
theorem I_106_45 : ins 106 45 = some (.bipush 6, 0, 0, [], none) := (L_106_0 45).trans rfl
theorem I_106_47 : ins 106 47 = some (.if_icmp .lt 6, 53, 0, [], none) := (L_106_0 47).trans rfl
theorem I_106_50 : ins 106 50 = some (.bipush (-2), 0, 0, [], some []) := (L_106_0 50).trans rfl
theorem I_106_52 : ins 106 52 = some (.ireturn, 0, 0, [], none) := (L_106_0 52).trans rfl
theorem I_106_53 : ins 106 53 = some (.aload_n 0, 0, 0, [], some [0, 1, 2, 3]) := (L_106_0 53).trans rfl
theorem I_106_54 : ins 106 54 = some (.getfield 59, 6, 0, [(9, 71)], none) := (L_106_0 54).trans rfl
theorem I_106_57 : ins 106 57 = some (.iload_n 1, 0, 0, [], none) := (L_106_0 57).trans rfl
theorem I_106_58 : ins 106 58 = some (.iload_n 2, 0, 0, [], none) := (L_106_0 58).trans rfl
theorem I_106_59 : ins 106 59 = some (.invokevirtual 201, 2, 0, [(3, 133)], none) := (L_106_0 59).trans rfl
theorem I_106_62 : ins 106 62 = some (.istore 5, 0, 0, [], none) := (L_106_0 62).trans rfl
theorem I_106_64 : ins 106 64 = some (.iload_n 3, 0, 0, [], none) := (L_106_0 64).trans rfl
theorem I_106_65 : ins 106 65 = some (.iconst (-1), 0, 0, [], none) := (L_106_0 65).trans rfl
theorem I_106_66 : ins 106 66 = some (.if_icmp .eq 9, 75, 0, [], none) := (L_106_0 66).trans rfl
theorem I_106_69 : ins 106 69 = some (.iload 5, 0, 0, [], some [0, 3, 5]) := (L_106_0 69).trans rfl
theorem I_106_71 : ins 106 71 = some (.iconst (-1), 0, 0, [], none) := (L_106_0 71).trans rfl
theorem I_106_72 : ins 106 72 = some (.if_icmp .ne 8, 80, 0, [], none) := (L_106_0 72).trans rfl
theorem I_106_75 : ins 106 75 = some (.iload 5, 0, 0, [], some [5]) := (L_106_0 75).trans rfl
theorem I_106_77 : ins 106 77 = some (.goto 11, 88, 0, [], none) := (L_106_0 77).trans rfl
theorem I_106_80 : ins 106 80 = some (.aload_n 0, 0, 0, [], some [0, 3]) := (L_106_0 80).trans rfl
theorem I_106_81 : ins 106 81 = some (.getfield 59, 6, 0, [(9, 71)], none) := (L_106_0 81).trans rfl
theorem I_106_84 : ins 106 84 = some (.iload_n 3, 0, 0, [], none) := (L_106_0 84).trans rfl
theorem I_106_85 : ins 106 85 = some (.invokevirtual 203, 1, 0, [(3, 134)], none) := (L_106_0 85).trans rfl
theorem I_106_88 : ins 106 88 = some (.ireturn, 0, 0, [], some []) := (L_106_0 88).trans rfl
theorem L_107_0 (pc : Nat) : ins 107 pc = fnd iT107 pc := rfl
theorem I_107_0 : ins 107 0 = some (.aload_n 0, 0, 0, [], none) := (L_107_0 0).trans rfl
theorem I_107_1 : ins 107 1 = some (.iload_n 1, 0, 0, [], none) := (L_107_0 1).trans rfl
theorem I_107_2 : ins 107 2 = some (.invokevirtual 151, 1, 0, [(9, 117)], none) := (L_107_0 2).trans rfl
theorem I_107_5 : ins 107 5 = some (.ifCond .eq 16, 21, 0, [], none) := (L_107_0 5).trans rfl
theorem I_107_8 : ins 107 8 = some (.iload_n 2, 0, 0, [], some [0, 1, 2]) := (L_107_0 8).trans rfl
theorem I_107_9 : ins 107 9 = some (.bipush 10, 0, 0, [], none) := (L_107_0 9).trans rfl
theorem I_107_11 : ins 107 11 = some (.if_icmp .lt 10, 21, 0, [], none) := (L_107_0 11).trans rfl
theorem I_107_14 : ins 107 14 = some (.iload_n 2, 0, 0, [], some [0, 1, 2]) := (L_107_0 14).trans rfl
theorem I_107_15 : ins 107 15 = some (.sipush 400, 0, 0, [], none) := (L_107_0 15).trans rfl
theorem I_107_18 : ins 107 18 = some (.if_icmp .le 6, 24, 0, [], none) := (L_107_0 18).trans rfl
theorem I_107_21 : ins 107 21 = some (.bipush (-2), 0, 0, [], some []) := (L_107_0 21).trans rfl
theorem I_107_23 : ins 107 23 = some (.ireturn, 0, 0, [], none) := (L_107_0 23).trans rfl
theorem I_107_24 : ins 107 24 = some (.aload_n 0, 0, 0, [], some [0, 1, 2]) := (L_107_0 24).trans rfl
theorem I_107_25 : ins 107 25 = some (.getfield 41, 4, 0, [(9, 69)], none) := (L_107_0 25).trans rfl
theorem I_107_28 : ins 107 28 = some (.invokevirtual 154, 0, 0, [(8, 118)], none) := (L_107_0 28).trans rfl
theorem I_107_31 : ins 107 31 = some (.aload_n 0, 0, 0, [], none) := (L_107_0 31).trans rfl
theorem I_107_32 : ins 107 32 = some (.getfield 41, 4, 0, [(9, 69)], none) := (L_107_0 32).trans rfl
theorem I_107_35 : ins 107 35 = some (.iload_n 1, 0, 0, [], none) := (L_107_0 35).trans rfl
theorem I_107_36 : ins 107 36 = some (.iload_n 2, 0, 0, [], none) := (L_107_0 36).trans rfl
theorem I_107_37 : ins 107 37 = some (.invokevirtual 206, 2, 0, [(8, 135)], none) := (L_107_0 37).trans rfl
theorem I_107_40 : ins 107 40 = some (.ireturn, 0, 0, [], none) := (L_107_0 40).trans rfl
theorem L_108_0 (pc : Nat) : ins 108 pc = fnd iT108 pc := rfl
theorem I_108_0 : ins 108 0 = some (.aload_n 0, 0, 0, [], none) := (L_108_0 0).trans rfl
theorem I_108_1 : ins 108 1 = some (.getfield 68, 7, 0, [(9, 72)], none) := (L_108_0 1).trans rfl
theorem I_108_4 : ins 108 4 = some (.iload_n 1, 0, 0, [], none) := (L_108_0 4).trans rfl
theorem I_108_5 : ins 108 5 = some (.iload_n 2, 0, 0, [], none) := (L_108_0 5).trans rfl
theorem I_108_6 : ins 108 6 = some (.iload_n 3, 0, 0, [], none) := (L_108_0 6).trans rfl
theorem I_108_7 : ins 108 7 = some (.invokevirtual 209, 3, 0, [(4, 136)], none) := (L_108_0 7).trans rfl
theorem I_108_10 : ins 108 10 = some (.ifCond .ne 6, 16, 0, [], none) := (L_108_0 10).trans rfl
theorem I_108_13 : ins 108 13 = some (.bipush (-2), 0, 0, [], some []) := (L_108_0 13).trans rfl
theorem I_108_15 : ins 108 15 = some (.ireturn, 0, 0, [], none) := (L_108_0 15).trans rfl
theorem I_108_16 : ins 108 16 = some (.aload_n 0, 0, 0, [], some [0, 1, 2, 3]) := (L_108_0 16).trans rfl
theorem I_108_17 : ins 108 17 = some (.getfield 68, 7, 0, [(9, 72)], none) := (L_108_0 17).trans rfl
theorem I_108_20 : ins 108 20 = some (.invokevirtual 213, 0, 0, [(4, 137)], none) := (L_108_0 20).trans rfl
theorem I_108_23 : ins 108 23 = some (.ifCond .eq 6, 29, 0, [], none) := (L_108_0 23).trans rfl
theorem I_108_26 : ins 108 26 = some (.bipush (-4), 0, 0, [], some []) := (L_108_0 26).trans rfl
theorem I_108_28 : ins 108 28 = some (.ireturn, 0, 0, [], none) := (L_108_0 28).trans rfl
theorem I_108_29 : ins 108 29 = some (.aload_n 0, 0, 0, [], some [0, 1, 2, 3]) := (L_108_0 29).trans rfl
theorem I_108_30 : ins 108 30 = some (.getfield 68, 7, 0, [(9, 72)], none) := (L_108_0 30).trans rfl
theorem I_108_33 : ins 108 33 = some (.iload_n 1, 0, 0, [], none) := (L_108_0 33).trans rfl
theorem I_108_34 : ins 108 34 = some (.iload_n 2, 0, 0, [], none) := (L_108_0 34).trans rfl
theorem I_108_35 : ins 108 35 = some (.iload_n 3, 0, 0, [], none) := (L_108_0 35).trans rfl
theorem I_108_36 : ins 108 36 = some (.invokevirtual 214, 3, 0, [(4, 138)], none) := (L_108_0 36).trans rfl
theorem I_108_39 : ins 108 39 = some (.aload_n 0, 0, 0, [], none) := (L_108_0 39).trans rfl
theorem I_108_40 : ins 108 40 = some (.getfield 68, 7, 0, [(9, 72)], none) := (L_108_0 40).trans rfl
theorem I_108_43 : ins 108 43 = some (.getfield 218, 8, 0, [(4, 81)], none) := (L_108_0 43).trans rfl
theorem I_108_46 : ins 108 46 = some (.ireturn, 0, 0, [], none) := (L_108_0 46).trans rfl
theorem L_109_0 (pc : Nat) : ins 109 pc = fnd iT109 pc := rfl
theorem I_109_0 : ins 109 0 = some (.aload_n 0, 0, 0, [], none) := (L_109_0 0).trans rfl
theorem I_109_1 : ins 109 1 = some (.getfield 68, 7, 0, [(9, 72)], none) := (L_109_0 1).trans rfl
theorem I_109_4 : ins 109 4 = some (.getfield 218, 8, 0, [(4, 81)], none) := (L_109_0 4).trans rfl
theorem I_109_7 : ins 109 7 = some (.istore_n 1, 0, 0, [], none) := (L_109_0 7).trans rfl
theorem I_109_8 : ins 109 8 = some (.aload_n 0, 0, 0, [], none) := (L_109_0 8).trans rfl
theorem I_109_9 : ins 109 9 = some (.getfield 68, 7, 0, [(9, 72)], none) := (L_109_0 9).trans rfl
theorem I_109_12 : ins 109 12 = some (.iconst 0, 0, 0, [], none) := (L_109_0 12).trans rfl
theorem I_109_13 : ins 109 13 = some (.putfield 218, 8, 0, [(4, 81)], none) := (L_109_0 13).trans rfl
theorem I_109_16 : ins 109 16 = some (.iload_n 1, 0, 0, [], none) := (L_109_0 16).trans rfl
theorem I_109_17 : ins 109 17 = some (.ireturn, 0, 0, [], none) := (L_109_0 17).trans rfl
theorem L_110_0 (pc : Nat) : ins 110 pc = fnd (iT110_0 ++ (iT110_1)) pc := rfl
theorem L_110_1 (pc : Nat) (h : Nat.ble 71 pc = true) : ins 110 pc = fnd (iT110_1) pc := (L_110_0 pc).trans (fnd_app (lo := 71) rfl (Nat.le_of_ble_eq_true h))
theorem I_110_0 : ins 110 0 = some (.aload_n 0, 0, 0, [], none) := (L_110_0 0).trans rfl
theorem I_110_1 : ins 110 1 = some (.iload_n 1, 0, 0, [], none) := (L_110_0 1).trans rfl
theorem I_110_2 : ins 110 2 = some (.invokevirtual 221, 1, 0, [(9, 139)], none) := (L_110_0 2).trans rfl
theorem I_110_5 : ins 110 5 = some (.astore_n 2, 0, 0, [], none) := (L_110_0 5).trans rfl
theorem I_110_6 : ins 110 6 = some (.aload_n 2, 0, 0, [], none) := (L_110_0 6).trans rfl
theorem I_110_7 : ins 110 7 = some (.ifnonnull 6, 13, 0, [], none) := (L_110_0 7).trans rfl
theorem I_110_10 : ins 110 10 = some (.bipush (-2), 0, 0, [], some []) := (L_110_0 10).trans rfl
theorem I_110_12 : ins 110 12 = some (.ireturn, 0, 0, [], none) := (L_110_0 12).trans rfl
theorem I_110_13 : ins 110 13 = some (.aload_n 2, 0, 0, [], some [0, 2]) := (L_110_0 13).trans rfl
theorem I_110_14 : ins 110 14 = some (.invokevirtual 225, 0, 0, [(6, 140)], none) := (L_110_0 14).trans rfl
theorem I_110_17 : ins 110 17 = some (.ifCond .eq 9, 26, 0, [], none) := (L_110_0 17).trans rfl
theorem I_110_20 : ins 110 20 = some (.aload_n 0, 0, 0, [], some [0]) := (L_110_0 20).trans rfl
theorem I_110_21 : ins 110 21 = some (.iconst 1, 0, 0, [], none) := (L_110_0 21).trans rfl
theorem I_110_22 : ins 110 22 = some (.invokevirtual 228, 1, 0, [(9, 141)], none) := (L_110_0 22).trans rfl
theorem I_110_25 : ins 110 25 = some (.ireturn, 0, 0, [], none) := (L_110_0 25).trans rfl
theorem I_110_26 : ins 110 26 = some (.iconst 0, 0, 0, [], some [0, 2]) := (L_110_0 26).trans rfl
theorem I_110_27 : ins 110 27 = some (.istore_n 3, 0, 0, [], none) := (L_110_0 27).trans rfl
theorem I_110_28 : ins 110 28 = some (.iconst 0, 0, 0, [], none) := (L_110_0 28).trans rfl
theorem I_110_29 : ins 110 29 = some (.istore 4, 0, 0, [], none) := (L_110_0 29).trans rfl
theorem I_110_31 : ins 110 31 = some (.iload 4, 0, 0, [], some [0, 2, 3, 4]) := (L_110_0 31).trans rfl
theorem I_110_33 : ins 110 33 = some (.iconst 2, 0, 0, [], none) := (L_110_0 33).trans rfl
theorem I_110_34 : ins 110 34 = some (.iadd, 0, 0, [], none) := (L_110_0 34).trans rfl
theorem I_110_35 : ins 110 35 = some (.aload_n 2, 0, 0, [], none) := (L_110_0 35).trans rfl
theorem I_110_36 : ins 110 36 = some (.getfield 231, 2, 0, [(6, 82)], none) := (L_110_0 36).trans rfl
theorem I_110_39 : ins 110 39 = some (.if_icmp .ge 82, 121, 0, [], none) := (L_110_0 39).trans rfl
theorem I_110_42 : ins 110 42 = some (.aload_n 0, 0, 0, [], some [0, 2, 3, 4]) := (L_110_0 42).trans rfl
theorem I_110_43 : ins 110 43 = some (.getfield 68, 7, 0, [(9, 72)], none) := (L_110_0 43).trans rfl
theorem I_110_46 : ins 110 46 = some (.invokevirtual 213, 0, 0, [(4, 137)], none) := (L_110_0 46).trans rfl
theorem I_110_49 : ins 110 49 = some (.ifCond .ne 72, 121, 0, [], none) := (L_110_0 49).trans rfl
theorem I_110_52 : ins 110 52 = some (.aload_n 2, 0, 0, [], some [0, 2, 3, 4]) := (L_110_0 52).trans rfl
theorem I_110_53 : ins 110 53 = some (.iload 4, 0, 0, [], none) := (L_110_0 53).trans rfl
theorem I_110_55 : ins 110 55 = some (.invokevirtual 234, 1, 0, [(6, 142)], none) := (L_110_0 55).trans rfl
theorem I_110_58 : ins 110 58 = some (.istore 5, 0, 0, [], none) := (L_110_0 58).trans rfl
theorem I_110_60 : ins 110 60 = some (.aload_n 2, 0, 0, [], none) := (L_110_0 60).trans rfl
theorem I_110_61 : ins 110 61 = some (.iload 4, 0, 0, [], none) := (L_110_0 61).trans rfl
theorem I_110_63 : ins 110 63 = some (.iconst 1, 0, 0, [], none) := (L_110_0 63).trans rfl
theorem I_110_64 : ins 110 64 = some (.iadd, 0, 0, [], none) := (L_110_0 64).trans rfl
theorem I_110_65 : ins 110 65 = some (.invokevirtual 234, 1, 0, [(6, 142)], none) := (L_110_0 65).trans rfl
theorem I_110_68 : ins 110 68 = some (.istore 6, 0, 0, [], none) := (L_110_0 68).trans rfl
theorem I_110_70 : ins 110 70 = some (.aload_n 2, 0, 0, [], none) := (L_110_0 70).trans rfl
theorem I_110_71 : ins 110 71 = some (.iload 4, 0, 0, [], none) := (L_110_1 71 rfl).trans rfl
theorem I_110_73 : ins 110 73 = some (.iconst 2, 0, 0, [], none) := (L_110_1 73 rfl).trans rfl
theorem I_110_74 : ins 110 74 = some (.iadd, 0, 0, [], none) := (L_110_1 74 rfl).trans rfl
theorem I_110_75 : ins 110 75 = some (.invokevirtual 234, 1, 0, [(6, 142)], none) := (L_110_1 75 rfl).trans rfl
theorem I_110_78 : ins 110 78 = some (.istore 7, 0, 0, [], none) := (L_110_1 78 rfl).trans rfl
theorem I_110_80 : ins 110 80 = some (.aload_n 0, 0, 0, [], none) := (L_110_1 80 rfl).trans rfl
theorem I_110_81 : ins 110 81 = some (.getfield 68, 7, 0, [(9, 72)], none) := (L_110_1 81 rfl).trans rfl
theorem I_110_84 : ins 110 84 = some (.iload 5, 0, 0, [], none) := (L_110_1 84 rfl).trans rfl
theorem I_110_86 : ins 110 86 = some (.iload 6, 0, 0, [], none) := (L_110_1 86 rfl).trans rfl
theorem I_110_88 : ins 110 88 = some (.iload 7, 0, 0, [], none) := (L_110_1 88 rfl).trans rfl
theorem I_110_90 : ins 110 90 = some (.invokevirtual 209, 3, 0, [(4, 136)], none) := (L_110_1 90 rfl).trans rfl
theorem I_110_93 : ins 110 93 = some (.ifCond .ne 6, 99, 0, [], none) := (L_110_1 93 rfl).trans rfl
theorem I_110_96 : ins 110 96 = some (.goto 25, 121, 0, [], some [3]) := (L_110_1 96 rfl).trans rfl
theorem I_110_99 : ins 110 99 = some (.aload_n 0, 0, 0, [], some [0, 2, 3, 4, 5, 6, 7]) := (L_110_1 99 rfl).trans rfl
theorem I_110_100 : ins 110 100 = some (.getfield 68, 7, 0, [(9, 72)], none) := (L_110_1 100 rfl).trans rfl
theorem I_110_103 : ins 110 103 = some (.iload 5, 0, 0, [], none) := (L_110_1 103 rfl).trans rfl
theorem I_110_105 : ins 110 105 = some (.iload 6, 0, 0, [], none) := (L_110_1 105 rfl).trans rfl
theorem I_110_107 : ins 110 107 = some (.iload 7, 0, 0, [], none) := (L_110_1 107 rfl).trans rfl
theorem I_110_109 : ins 110 109 = some (.invokevirtual 214, 3, 0, [(4, 138)], none) := (L_110_1 109 rfl).trans rfl
theorem I_110_112 : ins 110 112 = some (.iinc 3 1, 0, 0, [], none) := (L_110_1 112 rfl).trans rfl
theorem I_110_115 : ins 110 115 = some (.iinc 4 3, 0, 0, [], none) := (L_110_1 115 rfl).trans rfl
theorem I_110_118 : ins 110 118 = some (.goto (-87), 31, 0, [], none) := (L_110_1 118 rfl).trans rfl
theorem I_110_121 : ins 110 121 = some (.iload_n 3, 0, 0, [], some [3]) := (L_110_1 121 rfl).trans rfl
theorem I_110_122 : ins 110 122 = some (.ireturn, 0, 0, [], none) := (L_110_1 122 rfl).trans rfl
theorem L_111_0 (pc : Nat) : ins 111 pc = fnd iT111 pc := rfl
theorem I_111_0 : ins 111 0 = some (.iload_n 1, 0, 0, [], none) := (L_111_0 0).trans rfl
theorem I_111_1 : ins 111 1 = some (.ifCond .lt 8, 9, 0, [], none) := (L_111_0 1).trans rfl
theorem I_111_4 : ins 111 4 = some (.iload_n 1, 0, 0, [], some [0, 1]) := (L_111_0 4).trans rfl
theorem I_111_5 : ins 111 5 = some (.iconst 1, 0, 0, [], none) := (L_111_0 5).trans rfl
theorem I_111_6 : ins 111 6 = some (.if_icmp .le 6, 12, 0, [], none) := (L_111_0 6).trans rfl
theorem I_111_9 : ins 111 9 = some (.bipush (-2), 0, 0, [], some []) := (L_111_0 9).trans rfl
theorem I_111_11 : ins 111 11 = some (.ireturn, 0, 0, [], none) := (L_111_0 11).trans rfl
theorem I_111_12 : ins 111 12 = some (.aload_n 0, 0, 0, [], some [0, 1]) := (L_111_0 12).trans rfl
theorem I_111_13 : ins 111 13 = some (.getfield 41, 4, 0, [(9, 69)], none) := (L_111_0 13).trans rfl
theorem I_111_16 : ins 111 16 = some (.invokevirtual 154, 0, 0, [(8, 118)], none) := (L_111_0 16).trans rfl
theorem I_111_19 : ins 111 19 = some (.aload_n 0, 0, 0, [], none) := (L_111_0 19).trans rfl
theorem I_111_20 : ins 111 20 = some (.getfield 68, 7, 0, [(9, 72)], none) := (L_111_0 20).trans rfl
theorem I_111_23 : ins 111 23 = some (.invokevirtual 237, 0, 0, [(4, 143)], none) := (L_111_0 23).trans rfl
theorem I_111_26 : ins 111 26 = some (.iload_n 1, 0, 0, [], none) := (L_111_0 26).trans rfl
theorem I_111_27 : ins 111 27 = some (.ifCond .ne 13, 40, 0, [], none) := (L_111_0 27).trans rfl
theorem I_111_30 : ins 111 30 = some (.aload_n 0, 0, 0, [], some [0]) := (L_111_0 30).trans rfl
theorem I_111_31 : ins 111 31 = some (.getfield 68, 7, 0, [(9, 72)], none) := (L_111_0 31).trans rfl
theorem I_111_34 : ins 111 34 = some (.getfield 240, 9, 0, [(4, 83)], none) := (L_111_0 34).trans rfl
theorem I_111_37 : ins 111 37 = some (.goto 10, 47, 0, [], none) := (L_111_0 37).trans rfl
theorem I_111_40 : ins 111 40 = some (.aload_n 0, 0, 0, [], some [0]) := (L_111_0 40).trans rfl
theorem I_111_41 : ins 111 41 = some (.getfield 68, 7, 0, [(9, 72)], none) := (L_111_0 41).trans rfl
theorem I_111_44 : ins 111 44 = some (.invokevirtual 243, 0, 0, [(4, 144)], none) := (L_111_0 44).trans rfl
theorem I_111_47 : ins 111 47 = some (.ireturn, 0, 0, [], some []) := (L_111_0 47).trans rfl
theorem L_112_0 (pc : Nat) : ins 112 pc = fnd iT112 pc := rfl
theorem I_112_0 : ins 112 0 = some (.aload_n 0, 0, 0, [], none) := (L_112_0 0).trans rfl
theorem I_112_1 : ins 112 1 = some (.getfield 10, 0, 0, [(9, 65)], none) := (L_112_0 1).trans rfl
theorem I_112_4 : ins 112 4 = some (.iload_n 1, 0, 0, [], none) := (L_112_0 4).trans rfl
theorem I_112_5 : ins 112 5 = some (.invokevirtual 113, 1, 0, [(7, 103)], none) := (L_112_0 5).trans rfl
theorem I_112_8 : ins 112 8 = some (.ifCond .ne 6, 14, 0, [], none) := (L_112_0 8).trans rfl
theorem I_112_11 : ins 112 11 = some (.bipush (-2), 0, 0, [], some []) := (L_112_0 11).trans rfl
theorem I_112_13 : ins 112 13 = some (.ireturn, 0, 0, [], none) := (L_112_0 13).trans rfl
theorem I_112_14 : ins 112 14 = some (.aload_n 0, 0, 0, [], some [0, 1]) := (L_112_0 14).trans rfl
theorem I_112_15 : ins 112 15 = some (.getfield 41, 4, 0, [(9, 69)], none) := (L_112_0 15).trans rfl
theorem I_112_18 : ins 112 18 = some (.invokevirtual 154, 0, 0, [(8, 118)], none) := (L_112_0 18).trans rfl
theorem I_112_21 : ins 112 21 = some (.aload_n 0, 0, 0, [], none) := (L_112_0 21).trans rfl
theorem I_112_22 : ins 112 22 = some (.getfield 68, 7, 0, [(9, 72)], none) := (L_112_0 22).trans rfl
theorem I_112_25 : ins 112 25 = some (.invokevirtual 237, 0, 0, [(4, 143)], none) := (L_112_0 25).trans rfl
theorem I_112_28 : ins 112 28 = some (.aload_n 0, 0, 0, [], none) := (L_112_0 28).trans rfl
theorem I_112_29 : ins 112 29 = some (.getfield 68, 7, 0, [(9, 72)], none) := (L_112_0 29).trans rfl
theorem I_112_32 : ins 112 32 = some (.iload_n 1, 0, 0, [], none) := (L_112_0 32).trans rfl
theorem I_112_33 : ins 112 33 = some (.invokevirtual 246, 1, 0, [(4, 145)], none) := (L_112_0 33).trans rfl
theorem I_112_36 : ins 112 36 = some (.ireturn, 0, 0, [], none) := (L_112_0 36).trans rfl
theorem L_113_0 (pc : Nat) : ins 113 pc = fnd iT113 pc := rfl
theorem I_113_0 : ins 113 0 = some (.aload_n 0, 0, 0, [], none) := (L_113_0 0).trans rfl
theorem I_113_1 : ins 113 1 = some (.iload_n 3, 0, 0, [], none) := (L_113_0 1).trans rfl
theorem I_113_2 : ins 113 2 = some (.invokevirtual 151, 1, 0, [(9, 117)], none) := (L_113_0 2).trans rfl
theorem I_113_5 : ins 113 5 = some (.ifCond .eq 13, 18, 0, [], none) := (L_113_0 5).trans rfl
theorem I_113_8 : ins 113 8 = some (.iload_n 3, 0, 0, [], some [0, 1, 2, 3, 4]) := (L_113_0 8).trans rfl
theorem I_113_9 : ins 113 9 = some (.bipush 12, 0, 0, [], none) := (L_113_0 9).trans rfl
theorem I_113_11 : ins 113 11 = some (.if_icmp .gt 7, 18, 0, [], none) := (L_113_0 11).trans rfl
theorem I_113_14 : ins 113 14 = some (.iconst 1, 0, 0, [], some [0, 1, 2, 3, 4]) := (L_113_0 14).trans rfl
theorem I_113_15 : ins 113 15 = some (.goto 4, 19, 0, [], none) := (L_113_0 15).trans rfl
theorem I_113_18 : ins 113 18 = some (.iconst 0, 0, 0, [], some [0, 1, 2, 3, 4]) := (L_113_0 18).trans rfl
theorem I_113_19 : ins 113 19 = some (.istore 5, 0, 0, [], some [0, 1, 2, 3, 4]) := (L_113_0 19).trans rfl
theorem I_113_21 : ins 113 21 = some (.iload_n 1, 0, 0, [], none) := (L_113_0 21).trans rfl
theorem I_113_22 : ins 113 22 = some (.ifCond .lt 36, 58, 0, [], none) := (L_113_0 22).trans rfl
theorem I_113_25 : ins 113 25 = some (.iload_n 1, 0, 0, [], some [0, 1, 2, 3, 4, 5]) := (L_113_0 25).trans rfl
theorem I_113_26 : ins 113 26 = some (.bipush 16, 0, 0, [], none) := (L_113_0 26).trans rfl
theorem I_113_28 : ins 113 28 = some (.if_icmp .gt 30, 58, 0, [], none) := (L_113_0 28).trans rfl
theorem I_113_31 : ins 113 31 = some (.aload_n 0, 0, 0, [], some [0, 1, 2, 3, 4, 5]) := (L_113_0 31).trans rfl
theorem I_113_32 : ins 113 32 = some (.getfield 19, 1, 0, [(9, 66)], none) := (L_113_0 32).trans rfl
theorem I_113_35 : ins 113 35 = some (.iload_n 2, 0, 0, [], none) := (L_113_0 35).trans rfl
theorem I_113_36 : ins 113 36 = some (.invokevirtual 130, 1, 0, [(1, 108)], none) := (L_113_0 36).trans rfl
theorem I_113_39 : ins 113 39 = some (.ifCond .eq 19, 58, 0, [], none) := (L_113_0 39).trans rfl
theorem I_113_42 : ins 113 42 = some (.iload 5, 0, 0, [], some [0, 1, 2, 3, 4, 5]) := (L_113_0 42).trans rfl
theorem I_113_44 : ins 113 44 = some (.ifCond .eq 14, 58, 0, [], none) := (L_113_0 44).trans rfl
theorem I_113_47 : ins 113 47 = some (.iload 4, 0, 0, [], some [0, 1, 2, 3, 4]) := (L_113_0 47).trans rfl
theorem I_113_49 : ins 113 49 = some (.ifCond .lt 9, 58, 0, [], none) := (L_113_0 49).trans rfl
theorem I_113_52 : ins 113 52 = some (.iload 4, 0, 0, [], some [0, 1, 2, 3, 4]) := (L_113_0 52).trans rfl
theorem I_113_54 : ins 113 54 = some (.iconst 1, 0, 0, [], none) := (L_113_0 54).trans rfl
theorem I_113_55 : ins 113 55 = some (.if_icmp .le 7, 62, 0, [], none) := (L_113_0 55).trans rfl
theorem I_113_58 : ins 113 58 = some (.ldc2_w 249, 829, (-9223372036854775806), [], some []) := (L_113_0 58).trans rfl
theorem I_113_61 : ins 113 61 = some (.lreturn, 0, 0, [], none) := (L_113_0 61).trans rfl
theorem I_113_62 : ins 113 62 = some (.aload_n 0, 0, 0, [], some [0, 1, 2, 3, 4]) := (L_113_0 62).trans rfl
theorem I_113_63 : ins 113 63 = some (.getfield 77, 8, 0, [(9, 73)], none) := (L_113_0 63).trans rfl
theorem I_113_66 : ins 113 66 = some (.iload_n 1, 0, 0, [], none) := (L_113_0 66).trans rfl
theorem I_113_67 : ins 113 67 = some (.iload_n 2, 0, 0, [], none) := (L_113_0 67).trans rfl
theorem I_113_68 : ins 113 68 = some (.iload_n 3, 0, 0, [], none) := (L_113_0 68).trans rfl
theorem I_113_69 : ins 113 69 = some (.invokevirtual 251, 3, 0, [(0, 146)], none) := (L_113_0 69).trans rfl
theorem I_113_72 : ins 113 72 = some (.iload 4, 0, 0, [], none) := (L_113_0 72).trans rfl
theorem I_113_74 : ins 113 74 = some (.ifCond .ne 13, 87, 0, [], none) := (L_113_0 74).trans rfl
theorem I_113_77 : ins 113 77 = some (.aload_n 0, 0, 0, [], some [0]) := (L_113_0 77).trans rfl
theorem I_113_78 : ins 113 78 = some (.getfield 77, 8, 0, [(9, 73)], none) := (L_113_0 78).trans rfl
theorem I_113_81 : ins 113 81 = some (.getfield 254, 3, 0, [(0, 84)], none) := (L_113_0 81).trans rfl
theorem I_113_84 : ins 113 84 = some (.goto 10, 94, 0, [], none) := (L_113_0 84).trans rfl
theorem I_113_87 : ins 113 87 = some (.aload_n 0, 0, 0, [], some [0]) := (L_113_0 87).trans rfl
theorem I_113_88 : ins 113 88 = some (.getfield 77, 8, 0, [(9, 73)], none) := (L_113_0 88).trans rfl
theorem I_113_91 : ins 113 91 = some (.getfield 258, 4, 0, [(0, 85)], none) := (L_113_0 91).trans rfl
theorem I_113_94 : ins 113 94 = some (.lreturn, 0, 0, [], some []) := (L_113_0 94).trans rfl
theorem L_114_0 (pc : Nat) : ins 114 pc = fnd iT114 pc := rfl
theorem I_114_0 : ins 114 0 = some (.iload_n 2, 0, 0, [], none) := (L_114_0 0).trans rfl
theorem I_114_1 : ins 114 1 = some (.iconst 1, 0, 0, [], none) := (L_114_0 1).trans rfl
theorem I_114_2 : ins 114 2 = some (.if_icmp .lt 25, 27, 0, [], none) := (L_114_0 2).trans rfl
theorem I_114_5 : ins 114 5 = some (.iload_n 2, 0, 0, [], some [0, 1, 2, 3]) := (L_114_0 5).trans rfl
theorem I_114_6 : ins 114 6 = some (.bipush 40, 0, 0, [], none) := (L_114_0 6).trans rfl
theorem I_114_8 : ins 114 8 = some (.if_icmp .gt 19, 27, 0, [], none) := (L_114_0 8).trans rfl
theorem I_114_11 : ins 114 11 = some (.iload_n 3, 0, 0, [], some [0, 1, 2, 3]) := (L_114_0 11).trans rfl
theorem I_114_12 : ins 114 12 = some (.iconst (-1), 0, 0, [], none) := (L_114_0 12).trans rfl
theorem I_114_13 : ins 114 13 = some (.if_icmp .eq 17, 30, 0, [], none) := (L_114_0 13).trans rfl
theorem I_114_16 : ins 114 16 = some (.aload_n 0, 0, 0, [], some [0, 1, 2, 3]) := (L_114_0 16).trans rfl
theorem I_114_17 : ins 114 17 = some (.getfield 19, 1, 0, [(9, 66)], none) := (L_114_0 17).trans rfl
theorem I_114_20 : ins 114 20 = some (.iload_n 3, 0, 0, [], none) := (L_114_0 20).trans rfl
theorem I_114_21 : ins 114 21 = some (.invokevirtual 130, 1, 0, [(1, 108)], none) := (L_114_0 21).trans rfl
theorem I_114_24 : ins 114 24 = some (.ifCond .ne 6, 30, 0, [], none) := (L_114_0 24).trans rfl
theorem I_114_27 : ins 114 27 = some (.bipush (-2), 0, 0, [], some []) := (L_114_0 27).trans rfl
theorem I_114_29 : ins 114 29 = some (.ireturn, 0, 0, [], none) := (L_114_0 29).trans rfl
theorem I_114_30 : ins 114 30 = some (.aload_n 0, 0, 0, [], some [0, 1, 2, 3]) := (L_114_0 30).trans rfl
theorem I_114_31 : ins 114 31 = some (.getfield 41, 4, 0, [(9, 69)], none) := (L_114_0 31).trans rfl
theorem I_114_34 : ins 114 34 = some (.iload_n 1, 0, 0, [], none) := (L_114_0 34).trans rfl
theorem I_114_35 : ins 114 35 = some (.iload_n 2, 0, 0, [], none) := (L_114_0 35).trans rfl
theorem I_114_36 : ins 114 36 = some (.invokevirtual 261, 2, 0, [(8, 147)], none) := (L_114_0 36).trans rfl
theorem I_114_39 : ins 114 39 = some (.iload_n 3, 0, 0, [], none) := (L_114_0 39).trans rfl
theorem I_114_40 : ins 114 40 = some (.iconst (-1), 0, 0, [], none) := (L_114_0 40).trans rfl
theorem I_114_41 : ins 114 41 = some (.if_icmp .ne 13, 54, 0, [], none) := (L_114_0 41).trans rfl
theorem I_114_44 : ins 114 44 = some (.aload_n 0, 0, 0, [], some [0]) := (L_114_0 44).trans rfl
theorem I_114_45 : ins 114 45 = some (.getfield 41, 4, 0, [(9, 69)], none) := (L_114_0 45).trans rfl
theorem I_114_48 : ins 114 48 = some (.invokevirtual 265, 0, 0, [(8, 148)], none) := (L_114_0 48).trans rfl
theorem I_114_51 : ins 114 51 = some (.goto 11, 62, 0, [], none) := (L_114_0 51).trans rfl
theorem I_114_54 : ins 114 54 = some (.aload_n 0, 0, 0, [], some [0, 3]) := (L_114_0 54).trans rfl
theorem I_114_55 : ins 114 55 = some (.getfield 41, 4, 0, [(9, 69)], none) := (L_114_0 55).trans rfl
theorem I_114_58 : ins 114 58 = some (.iload_n 3, 0, 0, [], none) := (L_114_0 58).trans rfl
theorem I_114_59 : ins 114 59 = some (.invokevirtual 268, 1, 0, [(8, 149)], none) := (L_114_0 59).trans rfl
theorem I_114_62 : ins 114 62 = some (.ireturn, 0, 0, [], some []) := (L_114_0 62).trans rfl
theorem L_115_0 (pc : Nat) : ins 115 pc = fnd iT115 pc := rfl
theorem I_115_0 : ins 115 0 = some (.aload_n 0, 0, 0, [], none) := (L_115_0 0).trans rfl
theorem I_115_1 : ins 115 1 = some (.iload_n 1, 0, 0, [], none) := (L_115_0 1).trans rfl
theorem I_115_2 : ins 115 2 = some (.invokevirtual 221, 1, 0, [(9, 139)], none) := (L_115_0 2).trans rfl
theorem I_115_5 : ins 115 5 = some (.astore 4, 0, 0, [], none) := (L_115_0 5).trans rfl
theorem I_115_7 : ins 115 7 = some (.aload 4, 0, 0, [], none) := (L_115_0 7).trans rfl
theorem I_115_9 : ins 115 9 = some (.ifnull 16, 25, 0, [], none) := (L_115_0 9).trans rfl
theorem I_115_12 : ins 115 12 = some (.iload_n 2, 0, 0, [], some [0, 2, 3, 4]) := (L_115_0 12).trans rfl
theorem I_115_13 : ins 115 13 = some (.invokestatic 271, 1, 0, [(0, 150)], none) := (L_115_0 13).trans rfl
theorem I_115_16 : ins 115 16 = some (.ifCond .eq 9, 25, 0, [], none) := (L_115_0 16).trans rfl
theorem I_115_19 : ins 115 19 = some (.iload_n 3, 0, 0, [], some [0, 2, 3, 4]) := (L_115_0 19).trans rfl
theorem I_115_20 : ins 115 20 = some (.bipush 60, 0, 0, [], none) := (L_115_0 20).trans rfl
theorem I_115_22 : ins 115 22 = some (.if_icmp .le 6, 28, 0, [], none) := (L_115_0 22).trans rfl
theorem I_115_25 : ins 115 25 = some (.bipush (-2), 0, 0, [], some []) := (L_115_0 25).trans rfl
theorem I_115_27 : ins 115 27 = some (.ireturn, 0, 0, [], none) := (L_115_0 27).trans rfl
theorem I_115_28 : ins 115 28 = some (.iload_n 3, 0, 0, [], some [0, 2, 3, 4]) := (L_115_0 28).trans rfl
theorem I_115_29 : ins 115 29 = some (.ifCond .ge 9, 38, 0, [], none) := (L_115_0 29).trans rfl
theorem I_115_32 : ins 115 32 = some (.aload_n 0, 0, 0, [], some [0]) := (L_115_0 32).trans rfl
theorem I_115_33 : ins 115 33 = some (.iconst 5, 0, 0, [], none) := (L_115_0 33).trans rfl
theorem I_115_34 : ins 115 34 = some (.invokevirtual 228, 1, 0, [(9, 141)], none) := (L_115_0 34).trans rfl
theorem I_115_37 : ins 115 37 = some (.ireturn, 0, 0, [], none) := (L_115_0 37).trans rfl
theorem I_115_38 : ins 115 38 = some (.aload 4, 0, 0, [], some [2, 3, 4]) := (L_115_0 38).trans rfl
theorem I_115_40 : ins 115 40 = some (.iload_n 2, 0, 0, [], none) := (L_115_0 40).trans rfl
theorem I_115_41 : ins 115 41 = some (.iload_n 3, 0, 0, [], none) := (L_115_0 41).trans rfl
theorem I_115_42 : ins 115 42 = some (.invokevirtual 274, 2, 0, [(6, 151)], none) := (L_115_0 42).trans rfl
theorem I_115_45 : ins 115 45 = some (.iload_n 3, 0, 0, [], none) := (L_115_0 45).trans rfl
theorem I_115_46 : ins 115 46 = some (.ireturn, 0, 0, [], none) := (L_115_0 46).trans rfl
theorem L_116_0 (pc : Nat) : ins 116 pc = fnd iT116 pc := rfl
theorem I_116_0 : ins 116 0 = some (.aload_n 0, 0, 0, [], none) := (L_116_0 0).trans rfl
theorem I_116_1 : ins 116 1 = some (.iload_n 1, 0, 0, [], none) := (L_116_0 1).trans rfl
theorem I_116_2 : ins 116 2 = some (.invokevirtual 221, 1, 0, [(9, 139)], none) := (L_116_0 2).trans rfl
theorem I_116_5 : ins 116 5 = some (.astore_n 2, 0, 0, [], none) := (L_116_0 5).trans rfl
theorem I_116_6 : ins 116 6 = some (.aload_n 2, 0, 0, [], none) := (L_116_0 6).trans rfl
theorem I_116_7 : ins 116 7 = some (.ifnonnull 6, 13, 0, [], none) := (L_116_0 7).trans rfl
theorem I_116_10 : ins 116 10 = some (.bipush (-2), 0, 0, [], some []) := (L_116_0 10).trans rfl
theorem I_116_12 : ins 116 12 = some (.ireturn, 0, 0, [], none) := (L_116_0 12).trans rfl
theorem I_116_13 : ins 116 13 = some (.aload_n 2, 0, 0, [], some [0, 2]) := (L_116_0 13).trans rfl
theorem I_116_14 : ins 116 14 = some (.invokevirtual 225, 0, 0, [(6, 140)], none) := (L_116_0 14).trans rfl
theorem I_116_17 : ins 116 17 = some (.ifCond .eq 9, 26, 0, [], none) := (L_116_0 17).trans rfl
theorem I_116_20 : ins 116 20 = some (.aload_n 0, 0, 0, [], some [0]) := (L_116_0 20).trans rfl
theorem I_116_21 : ins 116 21 = some (.iconst 1, 0, 0, [], none) := (L_116_0 21).trans rfl
theorem I_116_22 : ins 116 22 = some (.invokevirtual 228, 1, 0, [(9, 141)], none) := (L_116_0 22).trans rfl
theorem I_116_25 : ins 116 25 = some (.ireturn, 0, 0, [], none) := (L_116_0 25).trans rfl
theorem I_116_26 : ins 116 26 = some (.aload_n 2, 0, 0, [], some [2]) := (L_116_0 26).trans rfl
theorem I_116_27 : ins 116 27 = some (.getfield 231, 2, 0, [(6, 82)], none) := (L_116_0 27).trans rfl
theorem I_116_30 : ins 116 30 = some (.istore_n 3, 0, 0, [], none) := (L_116_0 30).trans rfl
theorem I_116_31 : ins 116 31 = some (.aload_n 2, 0, 0, [], none) := (L_116_0 31).trans rfl
theorem I_116_32 : ins 116 32 = some (.invokevirtual 277, 0, 0, [(6, 152)], none) := (L_116_0 32).trans rfl
theorem I_116_35 : ins 116 35 = some (.iload_n 3, 0, 0, [], none) := (L_116_0 35).trans rfl
theorem I_116_36 : ins 116 36 = some (.ireturn, 0, 0, [], none) := (L_116_0 36).trans rfl
theorem L_117_0 (pc : Nat) : ins 117 pc = fnd iT117 pc := rfl
theorem I_117_0 : ins 117 0 = some (.aload_n 0, 0, 0, [], none) := (L_117_0 0).trans rfl
theorem I_117_1 : ins 117 1 = some (.iload_n 1, 0, 0, [], none) := (L_117_0 1).trans rfl
theorem I_117_2 : ins 117 2 = some (.invokevirtual 221, 1, 0, [(9, 139)], none) := (L_117_0 2).trans rfl
theorem I_117_5 : ins 117 5 = some (.astore 5, 0, 0, [], none) := (L_117_0 5).trans rfl
theorem I_117_7 : ins 117 7 = some (.aload 5, 0, 0, [], none) := (L_117_0 7).trans rfl
theorem I_117_9 : ins 117 9 = some (.ifnull 10, 19, 0, [], none) := (L_117_0 9).trans rfl
theorem I_117_12 : ins 117 12 = some (.iload_n 2, 0, 0, [], some [0, 2, 3, 4, 5]) := (L_117_0 12).trans rfl
theorem I_117_13 : ins 117 13 = some (.invokestatic 271, 1, 0, [(0, 150)], none) := (L_117_0 13).trans rfl
theorem I_117_16 : ins 117 16 = some (.ifCond .ne 6, 22, 0, [], none) := (L_117_0 16).trans rfl
theorem I_117_19 : ins 117 19 = some (.bipush (-2), 0, 0, [], some []) := (L_117_0 19).trans rfl
theorem I_117_21 : ins 117 21 = some (.ireturn, 0, 0, [], none) := (L_117_0 21).trans rfl
theorem I_117_22 : ins 117 22 = some (.aload 5, 0, 0, [], some [0, 2, 3, 4, 5]) := (L_117_0 22).trans rfl
theorem I_117_24 : ins 117 24 = some (.iload_n 2, 0, 0, [], none) := (L_117_0 24).trans rfl
theorem I_117_25 : ins 117 25 = some (.iload_n 3, 0, 0, [], none) := (L_117_0 25).trans rfl
theorem I_117_26 : ins 117 26 = some (.invokestatic 280, 3, 0, [(0, 153)], none) := (L_117_0 26).trans rfl
theorem I_117_29 : ins 117 29 = some (.istore 6, 0, 0, [], none) := (L_117_0 29).trans rfl
theorem I_117_31 : ins 117 31 = some (.iload 6, 0, 0, [], none) := (L_117_0 31).trans rfl
theorem I_117_33 : ins 117 33 = some (.ifCond .eq 10, 43, 0, [], none) := (L_117_0 33).trans rfl
theorem I_117_36 : ins 117 36 = some (.aload_n 0, 0, 0, [], some [0, 6]) := (L_117_0 36).trans rfl
theorem I_117_37 : ins 117 37 = some (.iload 6, 0, 0, [], none) := (L_117_0 37).trans rfl
theorem I_117_39 : ins 117 39 = some (.invokevirtual 228, 1, 0, [(9, 141)], none) := (L_117_0 39).trans rfl
theorem I_117_42 : ins 117 42 = some (.ireturn, 0, 0, [], none) := (L_117_0 42).trans rfl
theorem I_117_43 : ins 117 43 = some (.aload 5, 0, 0, [], some [3, 4, 5]) := (L_117_0 43).trans rfl
theorem I_117_45 : ins 117 45 = some (.iload_n 3, 0, 0, [], none) := (L_117_0 45).trans rfl
theorem I_117_46 : ins 117 46 = some (.iload 4, 0, 0, [], none) := (L_117_0 46).trans rfl
theorem I_117_48 : ins 117 48 = some (.invokevirtual 284, 2, 0, [(6, 154)], none) := (L_117_0 48).trans rfl
theorem I_117_51 : ins 117 51 = some (.iconst 1, 0, 0, [], none) := (L_117_0 51).trans rfl
theorem I_117_52 : ins 117 52 = some (.ireturn, 0, 0, [], none) := (L_117_0 52).trans rfl
theorem L_118_0 (pc : Nat) : ins 118 pc = fnd iT118 pc := rfl
theorem I_118_0 : ins 118 0 = some (.aload_n 0, 0, 0, [], none) := (L_118_0 0).trans rfl
theorem I_118_1 : ins 118 1 = some (.iload_n 1, 0, 0, [], none) := (L_118_0 1).trans rfl
theorem I_118_2 : ins 118 2 = some (.invokevirtual 221, 1, 0, [(9, 139)], none) := (L_118_0 2).trans rfl
theorem I_118_5 : ins 118 5 = some (.astore 4, 0, 0, [], none) := (L_118_0 5).trans rfl
theorem I_118_7 : ins 118 7 = some (.aload 4, 0, 0, [], none) := (L_118_0 7).trans rfl
theorem I_118_9 : ins 118 9 = some (.ifnull 10, 19, 0, [], none) := (L_118_0 9).trans rfl
theorem I_118_12 : ins 118 12 = some (.iload_n 2, 0, 0, [], some [0, 2, 3, 4]) := (L_118_0 12).trans rfl
theorem I_118_13 : ins 118 13 = some (.invokestatic 271, 1, 0, [(0, 150)], none) := (L_118_0 13).trans rfl
theorem I_118_16 : ins 118 16 = some (.ifCond .ne 7, 23, 0, [], none) := (L_118_0 16).trans rfl
theorem I_118_19 : ins 118 19 = some (.ldc_w 287, 907, (-2147483648), [], some []) := (L_118_0 19).trans rfl
theorem I_118_22 : ins 118 22 = some (.ireturn, 0, 0, [], none) := (L_118_0 22).trans rfl
theorem I_118_23 : ins 118 23 = some (.aload 4, 0, 0, [], some [0, 2, 3, 4]) := (L_118_0 23).trans rfl
theorem I_118_25 : ins 118 25 = some (.iload_n 2, 0, 0, [], none) := (L_118_0 25).trans rfl
theorem I_118_26 : ins 118 26 = some (.iload_n 3, 0, 0, [], none) := (L_118_0 26).trans rfl
theorem I_118_27 : ins 118 27 = some (.invokestatic 280, 3, 0, [(0, 153)], none) := (L_118_0 27).trans rfl
theorem I_118_30 : ins 118 30 = some (.istore 5, 0, 0, [], none) := (L_118_0 30).trans rfl
theorem I_118_32 : ins 118 32 = some (.iload 5, 0, 0, [], none) := (L_118_0 32).trans rfl
theorem I_118_34 : ins 118 34 = some (.ifCond .eq 13, 47, 0, [], none) := (L_118_0 34).trans rfl
theorem I_118_37 : ins 118 37 = some (.aload_n 0, 0, 0, [], some [0, 5]) := (L_118_0 37).trans rfl
theorem I_118_38 : ins 118 38 = some (.iload 5, 0, 0, [], none) := (L_118_0 38).trans rfl
theorem I_118_40 : ins 118 40 = some (.putfield 288, 10, 0, [(9, 86)], none) := (L_118_0 40).trans rfl
theorem I_118_43 : ins 118 43 = some (.ldc_w 287, 907, (-2147483648), [], none) := (L_118_0 43).trans rfl
theorem I_118_46 : ins 118 46 = some (.ireturn, 0, 0, [], none) := (L_118_0 46).trans rfl
theorem I_118_47 : ins 118 47 = some (.aload 4, 0, 0, [], some [3, 4]) := (L_118_0 47).trans rfl
theorem I_118_49 : ins 118 49 = some (.iload_n 3, 0, 0, [], none) := (L_118_0 49).trans rfl
theorem I_118_50 : ins 118 50 = some (.invokevirtual 234, 1, 0, [(6, 142)], none) := (L_118_0 50).trans rfl
theorem I_118_53 : ins 118 53 = some (.ireturn, 0, 0, [], none) := (L_118_0 53).trans rfl
theorem L_119_0 (pc : Nat) : ins 119 pc = fnd iT119 pc := rfl
theorem I_119_0 : ins 119 0 = some (.aload_n 0, 0, 0, [], none) := (L_119_0 0).trans rfl
theorem I_119_1 : ins 119 1 = some (.iload_n 1, 0, 0, [], none) := (L_119_0 1).trans rfl
theorem I_119_2 : ins 119 2 = some (.invokevirtual 221, 1, 0, [(9, 139)], none) := (L_119_0 2).trans rfl
theorem I_119_5 : ins 119 5 = some (.astore 6, 0, 0, [], none) := (L_119_0 5).trans rfl
theorem I_119_7 : ins 119 7 = some (.aload_n 0, 0, 0, [], none) := (L_119_0 7).trans rfl
theorem I_119_8 : ins 119 8 = some (.iload_n 3, 0, 0, [], none) := (L_119_0 8).trans rfl
theorem I_119_9 : ins 119 9 = some (.invokevirtual 221, 1, 0, [(9, 139)], none) := (L_119_0 9).trans rfl
theorem I_119_12 : ins 119 12 = some (.astore 7, 0, 0, [], none) := (L_119_0 12).trans rfl
theorem I_119_14 : ins 119 14 = some (.aload 6, 0, 0, [], none) := (L_119_0 14).trans rfl
theorem I_119_16 : ins 119 16 = some (.ifnull 8, 24, 0, [], none) := (L_119_0 16).trans rfl
theorem I_119_19 : ins 119 19 = some (.aload 7, 0, 0, [], some [0, 2, 4, 5, 6, 7]) := (L_119_0 19).trans rfl
theorem I_119_21 : ins 119 21 = some (.ifnonnull 6, 27, 0, [], none) := (L_119_0 21).trans rfl
theorem I_119_24 : ins 119 24 = some (.bipush (-2), 0, 0, [], some []) := (L_119_0 24).trans rfl
theorem I_119_26 : ins 119 26 = some (.ireturn, 0, 0, [], none) := (L_119_0 26).trans rfl
theorem I_119_27 : ins 119 27 = some (.aload 6, 0, 0, [], some [0, 2, 4, 5, 6, 7]) := (L_119_0 27).trans rfl
theorem I_119_29 : ins 119 29 = some (.invokevirtual 225, 0, 0, [(6, 140)], none) := (L_119_0 29).trans rfl
theorem I_119_32 : ins 119 32 = some (.ifCond .ne 11, 43, 0, [], none) := (L_119_0 32).trans rfl
theorem I_119_35 : ins 119 35 = some (.aload 7, 0, 0, [], some [0, 2, 4, 5, 6, 7]) := (L_119_0 35).trans rfl
theorem I_119_37 : ins 119 37 = some (.invokevirtual 225, 0, 0, [(6, 140)], none) := (L_119_0 37).trans rfl
theorem I_119_40 : ins 119 40 = some (.ifCond .eq 9, 49, 0, [], none) := (L_119_0 40).trans rfl
theorem I_119_43 : ins 119 43 = some (.aload_n 0, 0, 0, [], some [0]) := (L_119_0 43).trans rfl
theorem I_119_44 : ins 119 44 = some (.iconst 1, 0, 0, [], none) := (L_119_0 44).trans rfl
theorem I_119_45 : ins 119 45 = some (.invokevirtual 228, 1, 0, [(9, 141)], none) := (L_119_0 45).trans rfl
theorem I_119_48 : ins 119 48 = some (.ireturn, 0, 0, [], none) := (L_119_0 48).trans rfl
theorem I_119_49 : ins 119 49 = some (.aload 6, 0, 0, [], some [0, 2, 4, 5, 6, 7]) := (L_119_0 49).trans rfl
theorem I_119_51 : ins 119 51 = some (.getfield 291, 1, 0, [(6, 87)], none) := (L_119_0 51).trans rfl
theorem I_119_54 : ins 119 54 = some (.aload 7, 0, 0, [], none) := (L_119_0 54).trans rfl
theorem I_119_56 : ins 119 56 = some (.getfield 291, 1, 0, [(6, 87)], none) := (L_119_0 56).trans rfl
theorem I_119_59 : ins 119 59 = some (.if_icmp .eq 9, 68, 0, [], none) := (L_119_0 59).trans rfl
theorem I_119_62 : ins 119 62 = some (.aload_n 0, 0, 0, [], some [0]) := (L_119_0 62).trans rfl
theorem I_119_63 : ins 119 63 = some (.iconst 4, 0, 0, [], none) := (L_119_0 63).trans rfl
theorem I_119_64 : ins 119 64 = some (.invokevirtual 228, 1, 0, [(9, 141)], none) := (L_119_0 64).trans rfl
theorem I_119_67 : ins 119 67 = some (.ireturn, 0, 0, [], none) := (L_119_0 67).trans rfl
theorem I_119_68 : ins 119 68 = some (.aload 6, 0, 0, [], some [0, 2, 4, 5, 6, 7]) := (L_119_0 68).trans rfl
theorem I_119_70 : ins 119 70 = some (.iload_n 2, 0, 0, [], none) := (L_119_0 70).trans rfl
theorem I_119_71 : ins 119 71 = some (.iload 5, 0, 0, [], none) := (L_119_0 71).trans rfl
theorem I_119_73 : ins 119 73 = some (.invokevirtual 294, 2, 0, [(6, 155)], none) := (L_119_0 73).trans rfl
theorem I_119_76 : ins 119 76 = some (.ifCond .eq 15, 91, 0, [], none) := (L_119_0 76).trans rfl
theorem I_119_79 : ins 119 79 = some (.aload 7, 0, 0, [], some [0, 2, 4, 5, 6, 7]) := (L_119_0 79).trans rfl
theorem I_119_81 : ins 119 81 = some (.iload 4, 0, 0, [], none) := (L_119_0 81).trans rfl
theorem I_119_83 : ins 119 83 = some (.iload 5, 0, 0, [], none) := (L_119_0 83).trans rfl
theorem I_119_85 : ins 119 85 = some (.invokevirtual 294, 2, 0, [(6, 155)], none) := (L_119_0 85).trans rfl
theorem I_119_88 : ins 119 88 = some (.ifCond .ne 9, 97, 0, [], none) := (L_119_0 88).trans rfl
theorem I_119_91 : ins 119 91 = some (.aload_n 0, 0, 0, [], some [0]) := (L_119_0 91).trans rfl
theorem I_119_92 : ins 119 92 = some (.iconst 2, 0, 0, [], none) := (L_119_0 92).trans rfl
theorem I_119_93 : ins 119 93 = some (.invokevirtual 228, 1, 0, [(9, 141)], none) := (L_119_0 93).trans rfl
theorem I_119_96 : ins 119 96 = some (.ireturn, 0, 0, [], none) := (L_119_0 96).trans rfl
theorem I_119_97 : ins 119 97 = some (.aload 6, 0, 0, [], some [2, 4, 5, 6, 7]) := (L_119_0 97).trans rfl
theorem I_119_99 : ins 119 99 = some (.getfield 298, 0, 0, [(6, 88)], none) := (L_119_0 99).trans rfl
theorem I_119_102 : ins 119 102 = some (.iload_n 2, 0, 0, [], none) := (L_119_0 102).trans rfl
theorem I_119_103 : ins 119 103 = some (.aload 7, 0, 0, [], none) := (L_119_0 103).trans rfl
theorem I_119_105 : ins 119 105 = some (.getfield 298, 0, 0, [(6, 88)], none) := (L_119_0 105).trans rfl
theorem I_119_108 : ins 119 108 = some (.iload 4, 0, 0, [], none) := (L_119_0 108).trans rfl
theorem I_119_110 : ins 119 110 = some (.iload 5, 0, 0, [], none) := (L_119_0 110).trans rfl
theorem I_119_112 : ins 119 112 = some (.invokestatic 302, 5, 0, [(0, 156)], none) := (L_119_0 112).trans rfl
theorem I_119_115 : ins 119 115 = some (.iconst 1, 0, 0, [], none) := (L_119_0 115).trans rfl
theorem I_119_116 : ins 119 116 = some (.ireturn, 0, 0, [], none) := (L_119_0 116).trans rfl
theorem L_120_0 (pc : Nat) : ins 120 pc = fnd iT120 pc := rfl
theorem I_120_0 : ins 120 0 = some (.aload_n 0, 0, 0, [], none) := (L_120_0 0).trans rfl
theorem I_120_1 : ins 120 1 = some (.iload_n 2, 0, 0, [], none) := (L_120_0 1).trans rfl
theorem I_120_2 : ins 120 2 = some (.invokevirtual 221, 1, 0, [(9, 139)], none) := (L_120_0 2).trans rfl
theorem I_120_5 : ins 120 5 = some (.astore_n 3, 0, 0, [], none) := (L_120_0 5).trans rfl
theorem I_120_6 : ins 120 6 = some (.aload_n 0, 0, 0, [], none) := (L_120_0 6).trans rfl
theorem I_120_7 : ins 120 7 = some (.iload_n 1, 0, 0, [], none) := (L_120_0 7).trans rfl
theorem I_120_8 : ins 120 8 = some (.invokevirtual 151, 1, 0, [(9, 117)], none) := (L_120_0 8).trans rfl
theorem I_120_11 : ins 120 11 = some (.ifCond .eq 7, 18, 0, [], none) := (L_120_0 11).trans rfl
theorem I_120_14 : ins 120 14 = some (.aload_n 3, 0, 0, [], some [0, 1, 3]) := (L_120_0 14).trans rfl
theorem I_120_15 : ins 120 15 = some (.ifnonnull 6, 21, 0, [], none) := (L_120_0 15).trans rfl
theorem I_120_18 : ins 120 18 = some (.bipush (-2), 0, 0, [], some []) := (L_120_0 18).trans rfl
theorem I_120_20 : ins 120 20 = some (.ireturn, 0, 0, [], none) := (L_120_0 20).trans rfl
theorem I_120_21 : ins 120 21 = some (.aload_n 3, 0, 0, [], some [0, 1, 3]) := (L_120_0 21).trans rfl
theorem I_120_22 : ins 120 22 = some (.invokevirtual 225, 0, 0, [(6, 140)], none) := (L_120_0 22).trans rfl
theorem I_120_25 : ins 120 25 = some (.ifCond .eq 9, 34, 0, [], none) := (L_120_0 25).trans rfl
theorem I_120_28 : ins 120 28 = some (.aload_n 0, 0, 0, [], some [0]) := (L_120_0 28).trans rfl
theorem I_120_29 : ins 120 29 = some (.iconst 1, 0, 0, [], none) := (L_120_0 29).trans rfl
theorem I_120_30 : ins 120 30 = some (.invokevirtual 228, 1, 0, [(9, 141)], none) := (L_120_0 30).trans rfl
theorem I_120_33 : ins 120 33 = some (.ireturn, 0, 0, [], none) := (L_120_0 33).trans rfl
theorem I_120_34 : ins 120 34 = some (.aload_n 0, 0, 0, [], some [0, 1, 3]) := (L_120_0 34).trans rfl
theorem I_120_35 : ins 120 35 = some (.getfield 41, 4, 0, [(9, 69)], none) := (L_120_0 35).trans rfl
theorem I_120_38 : ins 120 38 = some (.invokevirtual 154, 0, 0, [(8, 118)], none) := (L_120_0 38).trans rfl
theorem I_120_41 : ins 120 41 = some (.aload_n 3, 0, 0, [], none) := (L_120_0 41).trans rfl
theorem I_120_42 : ins 120 42 = some (.getfield 231, 2, 0, [(6, 82)], none) := (L_120_0 42).trans rfl
theorem I_120_45 : ins 120 45 = some (.aload_n 0, 0, 0, [], none) := (L_120_0 45).trans rfl
theorem I_120_46 : ins 120 46 = some (.getfield 10, 0, 0, [(9, 65)], none) := (L_120_0 46).trans rfl
theorem I_120_49 : ins 120 49 = some (.getfield 308, 4, 0, [(7, 89)], none) := (L_120_0 49).trans rfl
theorem I_120_52 : ins 120 52 = some (.invokestatic 311, 2, 0, [(0, 157)], none) := (L_120_0 52).trans rfl
theorem I_120_55 : ins 120 55 = some (.istore 4, 0, 0, [], none) := (L_120_0 55).trans rfl
theorem I_120_57 : ins 120 57 = some (.iconst 0, 0, 0, [], none) := (L_120_0 57).trans rfl
theorem I_120_58 : ins 120 58 = some (.istore 5, 0, 0, [], none) := (L_120_0 58).trans rfl
theorem I_120_60 : ins 120 60 = some (.iload 5, 0, 0, [], some [0, 1, 3, 4, 5]) := (L_120_0 60).trans rfl
theorem I_120_62 : ins 120 62 = some (.iload 4, 0, 0, [], none) := (L_120_0 62).trans rfl
theorem I_120_64 : ins 120 64 = some (.if_icmp .ge 25, 89, 0, [], none) := (L_120_0 64).trans rfl
theorem I_120_67 : ins 120 67 = some (.aload_n 3, 0, 0, [], some [0, 1, 3, 4, 5]) := (L_120_0 67).trans rfl
theorem I_120_68 : ins 120 68 = some (.iload 5, 0, 0, [], none) := (L_120_0 68).trans rfl
theorem I_120_70 : ins 120 70 = some (.aload_n 0, 0, 0, [], none) := (L_120_0 70).trans rfl
theorem I_120_71 : ins 120 71 = some (.getfield 41, 4, 0, [(9, 69)], none) := (L_120_0 71).trans rfl
theorem I_120_74 : ins 120 74 = some (.iload_n 1, 0, 0, [], none) := (L_120_0 74).trans rfl
theorem I_120_75 : ins 120 75 = some (.iload 5, 0, 0, [], none) := (L_120_0 75).trans rfl
theorem I_120_77 : ins 120 77 = some (.invokevirtual 170, 2, 0, [(8, 123)], none) := (L_120_0 77).trans rfl
theorem I_120_80 : ins 120 80 = some (.invokevirtual 284, 2, 0, [(6, 154)], none) := (L_120_0 80).trans rfl
theorem I_120_83 : ins 120 83 = some (.iinc 5 1, 0, 0, [], none) := (L_120_0 83).trans rfl
theorem I_120_86 : ins 120 86 = some (.goto (-26), 60, 0, [], none) := (L_120_0 86).trans rfl
theorem I_120_89 : ins 120 89 = some (.iload 4, 0, 0, [], some [4]) := (L_120_0 89).trans rfl
theorem I_120_91 : ins 120 91 = some (.ireturn, 0, 0, [], none) := (L_120_0 91).trans rfl
theorem L_121_0 (pc : Nat) : ins 121 pc = fnd iT121 pc := rfl
theorem I_121_0 : ins 121 0 = some (.iload_n 1, 0, 0, [], none) := (L_121_0 0).trans rfl
theorem I_121_1 : ins 121 1 = some (.tableswitch 120 0 8 #[51, 59, 67, 75, 83, 91, 99, 107, 115], 121, 0, [(0, 52), (1, 60), (2, 68), (3, 76), (4, 84), (5, 92), (6, 100), (7, 108), (8, 116)], none) := (L_121_0 1).trans rfl
theorem I_121_52 : ins 121 52 = some (.aload_n 0, 0, 0, [], some [0]) := (L_121_0 52).trans rfl
theorem I_121_53 : ins 121 53 = some (.getfield 10, 0, 0, [(9, 65)], none) := (L_121_0 53).trans rfl
theorem I_121_56 : ins 121 56 = some (.getfield 308, 4, 0, [(7, 89)], none) := (L_121_0 56).trans rfl
theorem I_121_59 : ins 121 59 = some (.ireturn, 0, 0, [], none) := (L_121_0 59).trans rfl
theorem I_121_60 : ins 121 60 = some (.aload_n 0, 0, 0, [], some [0]) := (L_121_0 60).trans rfl
theorem I_121_61 : ins 121 61 = some (.getfield 19, 1, 0, [(9, 66)], none) := (L_121_0 61).trans rfl
theorem I_121_64 : ins 121 64 = some (.getfield 316, 4, 0, [(1, 90)], none) := (L_121_0 64).trans rfl
theorem I_121_67 : ins 121 67 = some (.ireturn, 0, 0, [], none) := (L_121_0 67).trans rfl
theorem I_121_68 : ins 121 68 = some (.aload_n 0, 0, 0, [], some [0]) := (L_121_0 68).trans rfl
theorem I_121_69 : ins 121 69 = some (.getfield 26, 2, 0, [(9, 67)], none) := (L_121_0 69).trans rfl
theorem I_121_72 : ins 121 72 = some (.getfield 317, 4, 0, [(5, 91)], none) := (L_121_0 72).trans rfl
theorem I_121_75 : ins 121 75 = some (.ireturn, 0, 0, [], none) := (L_121_0 75).trans rfl
theorem I_121_76 : ins 121 76 = some (.aload_n 0, 0, 0, [], some [0]) := (L_121_0 76).trans rfl
theorem I_121_77 : ins 121 77 = some (.getfield 10, 0, 0, [(9, 65)], none) := (L_121_0 77).trans rfl
theorem I_121_80 : ins 121 80 = some (.getfield 318, 2, 0, [(7, 92)], none) := (L_121_0 80).trans rfl
theorem I_121_83 : ins 121 83 = some (.ireturn, 0, 0, [], none) := (L_121_0 83).trans rfl
theorem I_121_84 : ins 121 84 = some (.aload_n 0, 0, 0, [], some [0]) := (L_121_0 84).trans rfl
theorem I_121_85 : ins 121 85 = some (.getfield 19, 1, 0, [(9, 66)], none) := (L_121_0 85).trans rfl
theorem I_121_88 : ins 121 88 = some (.getfield 319, 2, 0, [(1, 93)], none) := (L_121_0 88).trans rfl
theorem I_121_91 : ins 121 91 = some (.ireturn, 0, 0, [], none) := (L_121_0 91).trans rfl
theorem I_121_92 : ins 121 92 = some (.aload_n 0, 0, 0, [], some [0]) := (L_121_0 92).trans rfl
theorem I_121_93 : ins 121 93 = some (.getfield 26, 2, 0, [(9, 67)], none) := (L_121_0 93).trans rfl
theorem I_121_96 : ins 121 96 = some (.getfield 320, 2, 0, [(5, 94)], none) := (L_121_0 96).trans rfl
theorem I_121_99 : ins 121 99 = some (.ireturn, 0, 0, [], none) := (L_121_0 99).trans rfl
theorem I_121_100 : ins 121 100 = some (.aload_n 0, 0, 0, [], some [0]) := (L_121_0 100).trans rfl
theorem I_121_101 : ins 121 101 = some (.getfield 41, 4, 0, [(9, 69)], none) := (L_121_0 101).trans rfl
theorem I_121_104 : ins 121 104 = some (.getfield 321, 8, 0, [(8, 95)], none) := (L_121_0 104).trans rfl
theorem I_121_107 : ins 121 107 = some (.ireturn, 0, 0, [], none) := (L_121_0 107).trans rfl
theorem I_121_108 : ins 121 108 = some (.aload_n 0, 0, 0, [], some [0]) := (L_121_0 108).trans rfl
theorem I_121_109 : ins 121 109 = some (.getfield 68, 7, 0, [(9, 72)], none) := (L_121_0 109).trans rfl
theorem I_121_112 : ins 121 112 = some (.getfield 218, 8, 0, [(4, 81)], none) := (L_121_0 112).trans rfl
theorem I_121_115 : ins 121 115 = some (.ireturn, 0, 0, [], none) := (L_121_0 115).trans rfl
theorem I_121_116 : ins 121 116 = some (.aload_n 0, 0, 0, [], some [0]) := (L_121_0 116).trans rfl
theorem I_121_117 : ins 121 117 = some (.getfield 288, 10, 0, [(9, 86)], none) := (L_121_0 117).trans rfl
theorem I_121_120 : ins 121 120 = some (.ireturn, 0, 0, [], none) := (L_121_0 120).trans rfl
theorem I_121_121 : ins 121 121 = some (.bipush (-2), 0, 0, [], some []) := (L_121_0 121).trans rfl
theorem I_121_123 : ins 121 123 = some (.ireturn, 0, 0, [], none) := (L_121_0 123).trans rfl
theorem L_122_0 (pc : Nat) : ins 122 pc = fnd (iT122_0 ++ (iT122_1 ++ (iT122_2 ++ (iT122_3)))) pc := rfl
theorem L_122_1 (pc : Nat) (h : Nat.ble 67 pc = true) : ins 122 pc = fnd (iT122_1 ++ (iT122_2 ++ (iT122_3))) pc := (L_122_0 pc).trans (fnd_app (lo := 67) rfl (Nat.le_of_ble_eq_true h))
theorem L_122_2 (pc : Nat) (h : Nat.ble 128 pc = true) : ins 122 pc = fnd (iT122_2 ++ (iT122_3)) pc := (L_122_1 pc (Nat.ble_eq.mpr (Nat.le_trans (Nat.le_of_ble_eq_true (rfl : Nat.ble 67 128 = true)) (Nat.le_of_ble_eq_true h)))).trans (fnd_app (lo := 128) rfl (Nat.le_of_ble_eq_true h))
theorem L_122_3 (pc : Nat) (h : Nat.ble 187 pc = true) : ins 122 pc = fnd (iT122_3) pc := (L_122_2 pc (Nat.ble_eq.mpr (Nat.le_trans (Nat.le_of_ble_eq_true (rfl : Nat.ble 128 187 = true)) (Nat.le_of_ble_eq_true h)))).trans (fnd_app (lo := 187) rfl (Nat.le_of_ble_eq_true h))
theorem I_122_0 : ins 122 0 = some (.ldc2_w 324, 930, 17, [], none) := (L_122_0 0).trans rfl
theorem I_122_3 : ins 122 3 = some (.lstore_n 1, 0, 0, [], none) := (L_122_0 3).trans rfl
theorem I_122_4 : ins 122 4 = some (.iconst 0, 0, 0, [], none) := (L_122_0 4).trans rfl
theorem I_122_5 : ins 122 5 = some (.istore_n 3, 0, 0, [], none) := (L_122_0 5).trans rfl
theorem I_122_6 : ins 122 6 = some (.iload_n 3, 0, 0, [], some [0, 1, 3]) := (L_122_0 6).trans rfl
theorem I_122_7 : ins 122 7 = some (.bipush 7, 0, 0, [], none) := (L_122_0 7).trans rfl
theorem I_122_9 : ins 122 9 = some (.if_icmp .gt 22, 31, 0, [], none) := (L_122_0 9).trans rfl
theorem I_122_12 : ins 122 12 = some (.ldc2_w 326, 931, 31, [], some [0, 1, 3]) := (L_122_0 12).trans rfl
theorem I_122_15 : ins 122 15 = some (.lload_n 1, 0, 0, [], none) := (L_122_0 15).trans rfl
theorem I_122_16 : ins 122 16 = some (.lmul, 0, 0, [], none) := (L_122_0 16).trans rfl
theorem I_122_17 : ins 122 17 = some (.aload_n 0, 0, 0, [], none) := (L_122_0 17).trans rfl
theorem I_122_18 : ins 122 18 = some (.iload_n 3, 0, 0, [], none) := (L_122_0 18).trans rfl
theorem I_122_19 : ins 122 19 = some (.invokevirtual 328, 1, 0, [(9, 158)], none) := (L_122_0 19).trans rfl
theorem I_122_22 : ins 122 22 = some (.i2l, 0, 0, [], none) := (L_122_0 22).trans rfl
theorem I_122_23 : ins 122 23 = some (.ladd, 0, 0, [], none) := (L_122_0 23).trans rfl
theorem I_122_24 : ins 122 24 = some (.lstore_n 1, 0, 0, [], none) := (L_122_0 24).trans rfl
theorem I_122_25 : ins 122 25 = some (.iinc 3 1, 0, 0, [], none) := (L_122_0 25).trans rfl
theorem I_122_28 : ins 122 28 = some (.goto (-22), 6, 0, [], none) := (L_122_0 28).trans rfl
theorem I_122_31 : ins 122 31 = some (.iconst 0, 0, 0, [], some [0, 1]) := (L_122_0 31).trans rfl
theorem I_122_32 : ins 122 32 = some (.istore_n 3, 0, 0, [], none) := (L_122_0 32).trans rfl
theorem I_122_33 : ins 122 33 = some (.iload_n 3, 0, 0, [], some [0, 1, 3]) := (L_122_0 33).trans rfl
theorem I_122_34 : ins 122 34 = some (.aload_n 0, 0, 0, [], none) := (L_122_0 34).trans rfl
theorem I_122_35 : ins 122 35 = some (.getfield 32, 3, 0, [(9, 68)], none) := (L_122_0 35).trans rfl
theorem I_122_38 : ins 122 38 = some (.arraylength, 0, 0, [], none) := (L_122_0 38).trans rfl
theorem I_122_39 : ins 122 39 = some (.if_icmp .ge 22, 61, 0, [], none) := (L_122_0 39).trans rfl
theorem I_122_42 : ins 122 42 = some (.ldc2_w 326, 931, 31, [], some [0, 1, 3]) := (L_122_0 42).trans rfl
theorem I_122_45 : ins 122 45 = some (.lload_n 1, 0, 0, [], none) := (L_122_0 45).trans rfl
theorem I_122_46 : ins 122 46 = some (.lmul, 0, 0, [], none) := (L_122_0 46).trans rfl
theorem I_122_47 : ins 122 47 = some (.aload_n 0, 0, 0, [], none) := (L_122_0 47).trans rfl
theorem I_122_48 : ins 122 48 = some (.iload_n 3, 0, 0, [], none) := (L_122_0 48).trans rfl
theorem I_122_49 : ins 122 49 = some (.invokevirtual 331, 1, 0, [(9, 159)], none) := (L_122_0 49).trans rfl
theorem I_122_52 : ins 122 52 = some (.i2l, 0, 0, [], none) := (L_122_0 52).trans rfl
theorem I_122_53 : ins 122 53 = some (.ladd, 0, 0, [], none) := (L_122_0 53).trans rfl
theorem I_122_54 : ins 122 54 = some (.lstore_n 1, 0, 0, [], none) := (L_122_0 54).trans rfl
theorem I_122_55 : ins 122 55 = some (.iinc 3 1, 0, 0, [], none) := (L_122_0 55).trans rfl
theorem I_122_58 : ins 122 58 = some (.goto (-25), 33, 0, [], none) := (L_122_0 58).trans rfl
theorem I_122_61 : ins 122 61 = some (.aload_n 0, 0, 0, [], some [0, 1]) := (L_122_0 61).trans rfl
theorem I_122_62 : ins 122 62 = some (.lload_n 1, 0, 0, [], none) := (L_122_0 62).trans rfl
theorem I_122_63 : ins 122 63 = some (.invokevirtual 334, 1, 0, [(9, 160)], none) := (L_122_0 63).trans rfl
theorem I_122_66 : ins 122 66 = some (.lstore_n 1, 0, 0, [], none) := (L_122_0 66).trans rfl
theorem I_122_67 : ins 122 67 = some (.aload_n 0, 0, 0, [], none) := (L_122_1 67 rfl).trans rfl
theorem I_122_68 : ins 122 68 = some (.lload_n 1, 0, 0, [], none) := (L_122_1 68 rfl).trans rfl
theorem I_122_69 : ins 122 69 = some (.invokevirtual 338, 1, 0, [(9, 161)], none) := (L_122_1 69 rfl).trans rfl
theorem I_122_72 : ins 122 72 = some (.lstore_n 1, 0, 0, [], none) := (L_122_1 72 rfl).trans rfl
theorem I_122_73 : ins 122 73 = some (.aload_n 0, 0, 0, [], none) := (L_122_1 73 rfl).trans rfl
theorem I_122_74 : ins 122 74 = some (.lload_n 1, 0, 0, [], none) := (L_122_1 74 rfl).trans rfl
theorem I_122_75 : ins 122 75 = some (.iconst 0, 0, 0, [], none) := (L_122_1 75 rfl).trans rfl
theorem I_122_76 : ins 122 76 = some (.invokevirtual 341, 2, 0, [(9, 162)], none) := (L_122_1 76 rfl).trans rfl
theorem I_122_79 : ins 122 79 = some (.lstore_n 1, 0, 0, [], none) := (L_122_1 79 rfl).trans rfl
theorem I_122_80 : ins 122 80 = some (.aload_n 0, 0, 0, [], none) := (L_122_1 80 rfl).trans rfl
theorem I_122_81 : ins 122 81 = some (.lload_n 1, 0, 0, [], none) := (L_122_1 81 rfl).trans rfl
theorem I_122_82 : ins 122 82 = some (.aload_n 0, 0, 0, [], none) := (L_122_1 82 rfl).trans rfl
theorem I_122_83 : ins 122 83 = some (.getfield 26, 2, 0, [(9, 67)], none) := (L_122_1 83 rfl).trans rfl
theorem I_122_86 : ins 122 86 = some (.getfield 317, 4, 0, [(5, 91)], none) := (L_122_1 86 rfl).trans rfl
theorem I_122_89 : ins 122 89 = some (.invokevirtual 341, 2, 0, [(9, 162)], none) := (L_122_1 89 rfl).trans rfl
theorem I_122_92 : ins 122 92 = some (.lstore_n 1, 0, 0, [], none) := (L_122_1 92 rfl).trans rfl
theorem I_122_93 : ins 122 93 = some (.ldc2_w 326, 931, 31, [], none) := (L_122_1 93 rfl).trans rfl
theorem I_122_96 : ins 122 96 = some (.lload_n 1, 0, 0, [], none) := (L_122_1 96 rfl).trans rfl
theorem I_122_97 : ins 122 97 = some (.lmul, 0, 0, [], none) := (L_122_1 97 rfl).trans rfl
theorem I_122_98 : ins 122 98 = some (.aload_n 0, 0, 0, [], none) := (L_122_1 98 rfl).trans rfl
theorem I_122_99 : ins 122 99 = some (.iconst 0, 0, 0, [], none) := (L_122_1 99 rfl).trans rfl
theorem I_122_100 : ins 122 100 = some (.invokevirtual 345, 1, 0, [(9, 163)], none) := (L_122_1 100 rfl).trans rfl
theorem I_122_103 : ins 122 103 = some (.i2l, 0, 0, [], none) := (L_122_1 103 rfl).trans rfl
theorem I_122_104 : ins 122 104 = some (.ladd, 0, 0, [], none) := (L_122_1 104 rfl).trans rfl
theorem I_122_105 : ins 122 105 = some (.lstore_n 1, 0, 0, [], none) := (L_122_1 105 rfl).trans rfl
theorem I_122_106 : ins 122 106 = some (.ldc2_w 326, 931, 31, [], none) := (L_122_1 106 rfl).trans rfl
theorem I_122_109 : ins 122 109 = some (.lload_n 1, 0, 0, [], none) := (L_122_1 109 rfl).trans rfl
theorem I_122_110 : ins 122 110 = some (.lmul, 0, 0, [], none) := (L_122_1 110 rfl).trans rfl
theorem I_122_111 : ins 122 111 = some (.aload_n 0, 0, 0, [], none) := (L_122_1 111 rfl).trans rfl
theorem I_122_112 : ins 122 112 = some (.iconst 1, 0, 0, [], none) := (L_122_1 112 rfl).trans rfl
theorem I_122_113 : ins 122 113 = some (.invokevirtual 345, 1, 0, [(9, 163)], none) := (L_122_1 113 rfl).trans rfl
theorem I_122_116 : ins 122 116 = some (.i2l, 0, 0, [], none) := (L_122_1 116 rfl).trans rfl
theorem I_122_117 : ins 122 117 = some (.ladd, 0, 0, [], none) := (L_122_1 117 rfl).trans rfl
theorem I_122_118 : ins 122 118 = some (.lstore_n 1, 0, 0, [], none) := (L_122_1 118 rfl).trans rfl
theorem I_122_119 : ins 122 119 = some (.ldc2_w 326, 931, 31, [], none) := (L_122_1 119 rfl).trans rfl
theorem I_122_122 : ins 122 122 = some (.lload_n 1, 0, 0, [], none) := (L_122_1 122 rfl).trans rfl
theorem I_122_123 : ins 122 123 = some (.lmul, 0, 0, [], none) := (L_122_1 123 rfl).trans rfl
theorem I_122_124 : ins 122 124 = some (.aload_n 0, 0, 0, [], none) := (L_122_1 124 rfl).trans rfl
theorem I_122_125 : ins 122 125 = some (.iconst 0, 0, 0, [], none) := (L_122_1 125 rfl).trans rfl
theorem I_122_126 : ins 122 126 = some (.bipush 20, 0, 0, [], none) := (L_122_1 126 rfl).trans rfl
theorem I_122_128 : ins 122 128 = some (.iconst (-1), 0, 0, [], none) := (L_122_2 128 rfl).trans rfl
theorem I_122_129 : ins 122 129 = some (.invokevirtual 348, 3, 0, [(9, 164)], none) := (L_122_2 129 rfl).trans rfl
theorem I_122_132 : ins 122 132 = some (.i2l, 0, 0, [], none) := (L_122_2 132 rfl).trans rfl
theorem I_122_133 : ins 122 133 = some (.ladd, 0, 0, [], none) := (L_122_2 133 rfl).trans rfl
theorem I_122_134 : ins 122 134 = some (.lstore_n 1, 0, 0, [], none) := (L_122_2 134 rfl).trans rfl
theorem I_122_135 : ins 122 135 = some (.ldc2_w 326, 931, 31, [], none) := (L_122_2 135 rfl).trans rfl
theorem I_122_138 : ins 122 138 = some (.lload_n 1, 0, 0, [], none) := (L_122_2 138 rfl).trans rfl
theorem I_122_139 : ins 122 139 = some (.lmul, 0, 0, [], none) := (L_122_2 139 rfl).trans rfl
theorem I_122_140 : ins 122 140 = some (.aload_n 0, 0, 0, [], none) := (L_122_2 140 rfl).trans rfl
theorem I_122_141 : ins 122 141 = some (.iconst 0, 0, 0, [], none) := (L_122_2 141 rfl).trans rfl
theorem I_122_142 : ins 122 142 = some (.bipush 20, 0, 0, [], none) := (L_122_2 142 rfl).trans rfl
theorem I_122_144 : ins 122 144 = some (.iconst 0, 0, 0, [], none) := (L_122_2 144 rfl).trans rfl
theorem I_122_145 : ins 122 145 = some (.invokevirtual 348, 3, 0, [(9, 164)], none) := (L_122_2 145 rfl).trans rfl
theorem I_122_148 : ins 122 148 = some (.i2l, 0, 0, [], none) := (L_122_2 148 rfl).trans rfl
theorem I_122_149 : ins 122 149 = some (.ladd, 0, 0, [], none) := (L_122_2 149 rfl).trans rfl
theorem I_122_150 : ins 122 150 = some (.lstore_n 1, 0, 0, [], none) := (L_122_2 150 rfl).trans rfl
theorem I_122_151 : ins 122 151 = some (.ldc2_w 326, 931, 31, [], none) := (L_122_2 151 rfl).trans rfl
theorem I_122_154 : ins 122 154 = some (.lload_n 1, 0, 0, [], none) := (L_122_2 154 rfl).trans rfl
theorem I_122_155 : ins 122 155 = some (.lmul, 0, 0, [], none) := (L_122_2 155 rfl).trans rfl
theorem I_122_156 : ins 122 156 = some (.aload_n 0, 0, 0, [], none) := (L_122_2 156 rfl).trans rfl
theorem I_122_157 : ins 122 157 = some (.iconst 0, 0, 0, [], none) := (L_122_2 157 rfl).trans rfl
theorem I_122_158 : ins 122 158 = some (.invokevirtual 352, 1, 0, [(9, 165)], none) := (L_122_2 158 rfl).trans rfl
theorem I_122_161 : ins 122 161 = some (.i2l, 0, 0, [], none) := (L_122_2 161 rfl).trans rfl
theorem I_122_162 : ins 122 162 = some (.ladd, 0, 0, [], none) := (L_122_2 162 rfl).trans rfl
theorem I_122_163 : ins 122 163 = some (.lstore_n 1, 0, 0, [], none) := (L_122_2 163 rfl).trans rfl
theorem I_122_164 : ins 122 164 = some (.ldc2_w 326, 931, 31, [], none) := (L_122_2 164 rfl).trans rfl
theorem I_122_167 : ins 122 167 = some (.lload_n 1, 0, 0, [], none) := (L_122_2 167 rfl).trans rfl
theorem I_122_168 : ins 122 168 = some (.lmul, 0, 0, [], none) := (L_122_2 168 rfl).trans rfl
theorem I_122_169 : ins 122 169 = some (.aload_n 0, 0, 0, [], none) := (L_122_2 169 rfl).trans rfl
theorem I_122_170 : ins 122 170 = some (.iconst 1, 0, 0, [], none) := (L_122_2 170 rfl).trans rfl
theorem I_122_171 : ins 122 171 = some (.invokevirtual 352, 1, 0, [(9, 165)], none) := (L_122_2 171 rfl).trans rfl
theorem I_122_174 : ins 122 174 = some (.i2l, 0, 0, [], none) := (L_122_2 174 rfl).trans rfl
theorem I_122_175 : ins 122 175 = some (.ladd, 0, 0, [], none) := (L_122_2 175 rfl).trans rfl
theorem I_122_176 : ins 122 176 = some (.lstore_n 1, 0, 0, [], none) := (L_122_2 176 rfl).trans rfl
theorem I_122_177 : ins 122 177 = some (.ldc2_w 326, 931, 31, [], none) := (L_122_2 177 rfl).trans rfl
theorem I_122_180 : ins 122 180 = some (.lload_n 1, 0, 0, [], none) := (L_122_2 180 rfl).trans rfl
theorem I_122_181 : ins 122 181 = some (.lmul, 0, 0, [], none) := (L_122_2 181 rfl).trans rfl
theorem I_122_182 : ins 122 182 = some (.aload_n 0, 0, 0, [], none) := (L_122_2 182 rfl).trans rfl
theorem I_122_183 : ins 122 183 = some (.bipush 7, 0, 0, [], none) := (L_122_2 183 rfl).trans rfl
theorem I_122_185 : ins 122 185 = some (.bipush 9, 0, 0, [], none) := (L_122_2 185 rfl).trans rfl
theorem I_122_187 : ins 122 187 = some (.iconst (-1), 0, 0, [], none) := (L_122_3 187 rfl).trans rfl
theorem I_122_188 : ins 122 188 = some (.invokevirtual 355, 3, 0, [(9, 166)], none) := (L_122_3 188 rfl).trans rfl
theorem I_122_191 : ins 122 191 = some (.i2l, 0, 0, [], none) := (L_122_3 191 rfl).trans rfl
theorem I_122_192 : ins 122 192 = some (.ladd, 0, 0, [], none) := (L_122_3 192 rfl).trans rfl
theorem I_122_193 : ins 122 193 = some (.lreturn, 0, 0, [], none) := (L_122_3 193 rfl).trans rfl
theorem L_123_0 (pc : Nat) : ins 123 pc = fnd iT123 pc := rfl
theorem I_123_0 : ins 123 0 = some (.lload_n 1, 0, 0, [], none) := (L_123_0 0).trans rfl
theorem I_123_1 : ins 123 1 = some (.lstore_n 3, 0, 0, [], none) := (L_123_0 1).trans rfl
theorem I_123_2 : ins 123 2 = some (.iconst 0, 0, 0, [], none) := (L_123_0 2).trans rfl
theorem I_123_3 : ins 123 3 = some (.istore 5, 0, 0, [], none) := (L_123_0 3).trans rfl
theorem I_123_5 : ins 123 5 = some (.iload 5, 0, 0, [], some [0, 3, 5]) := (L_123_0 5).trans rfl
theorem I_123_7 : ins 123 7 = some (.aload_n 0, 0, 0, [], none) := (L_123_0 7).trans rfl
theorem I_123_8 : ins 123 8 = some (.getfield 10, 0, 0, [(9, 65)], none) := (L_123_0 8).trans rfl
theorem I_123_11 : ins 123 11 = some (.getfield 308, 4, 0, [(7, 89)], none) := (L_123_0 11).trans rfl
theorem I_123_14 : ins 123 14 = some (.if_icmp .ge 68, 82, 0, [], none) := (L_123_0 14).trans rfl
theorem I_123_17 : ins 123 17 = some (.iconst 0, 0, 0, [], some [0, 3, 5]) := (L_123_0 17).trans rfl
theorem I_123_18 : ins 123 18 = some (.istore 6, 0, 0, [], none) := (L_123_0 18).trans rfl
theorem I_123_20 : ins 123 20 = some (.iload 6, 0, 0, [], some [0, 3, 5, 6]) := (L_123_0 20).trans rfl
theorem I_123_22 : ins 123 22 = some (.iconst 3, 0, 0, [], none) := (L_123_0 22).trans rfl
theorem I_123_23 : ins 123 23 = some (.if_icmp .gt 25, 48, 0, [], none) := (L_123_0 23).trans rfl
theorem I_123_26 : ins 123 26 = some (.ldc2_w 326, 931, 31, [], some [0, 3, 5, 6]) := (L_123_0 26).trans rfl
theorem I_123_29 : ins 123 29 = some (.lload_n 3, 0, 0, [], none) := (L_123_0 29).trans rfl
theorem I_123_30 : ins 123 30 = some (.lmul, 0, 0, [], none) := (L_123_0 30).trans rfl
theorem I_123_31 : ins 123 31 = some (.aload_n 0, 0, 0, [], none) := (L_123_0 31).trans rfl
theorem I_123_32 : ins 123 32 = some (.iload 5, 0, 0, [], none) := (L_123_0 32).trans rfl
theorem I_123_34 : ins 123 34 = some (.iload 6, 0, 0, [], none) := (L_123_0 34).trans rfl
theorem I_123_36 : ins 123 36 = some (.invokevirtual 358, 2, 0, [(9, 167)], none) := (L_123_0 36).trans rfl
theorem I_123_39 : ins 123 39 = some (.i2l, 0, 0, [], none) := (L_123_0 39).trans rfl
theorem I_123_40 : ins 123 40 = some (.ladd, 0, 0, [], none) := (L_123_0 40).trans rfl
theorem I_123_41 : ins 123 41 = some (.lstore_n 3, 0, 0, [], none) := (L_123_0 41).trans rfl
theorem I_123_42 : ins 123 42 = some (.iinc 6 1, 0, 0, [], none) := (L_123_0 42).trans rfl
theorem I_123_45 : ins 123 45 = some (.goto (-25), 20, 0, [], none) := (L_123_0 45).trans rfl
theorem I_123_48 : ins 123 48 = some (.ldc2_w 326, 931, 31, [], some [0, 3, 5]) := (L_123_0 48).trans rfl
theorem I_123_51 : ins 123 51 = some (.lload_n 3, 0, 0, [], none) := (L_123_0 51).trans rfl
theorem I_123_52 : ins 123 52 = some (.lmul, 0, 0, [], none) := (L_123_0 52).trans rfl
theorem I_123_53 : ins 123 53 = some (.aload_n 0, 0, 0, [], none) := (L_123_0 53).trans rfl
theorem I_123_54 : ins 123 54 = some (.iload 5, 0, 0, [], none) := (L_123_0 54).trans rfl
theorem I_123_56 : ins 123 56 = some (.invokevirtual 361, 1, 0, [(9, 168)], none) := (L_123_0 56).trans rfl
theorem I_123_59 : ins 123 59 = some (.i2l, 0, 0, [], none) := (L_123_0 59).trans rfl
theorem I_123_60 : ins 123 60 = some (.ladd, 0, 0, [], none) := (L_123_0 60).trans rfl
theorem I_123_61 : ins 123 61 = some (.lstore_n 3, 0, 0, [], none) := (L_123_0 61).trans rfl
theorem I_123_62 : ins 123 62 = some (.ldc2_w 326, 931, 31, [], none) := (L_123_0 62).trans rfl
theorem I_123_65 : ins 123 65 = some (.lload_n 3, 0, 0, [], none) := (L_123_0 65).trans rfl
theorem I_123_66 : ins 123 66 = some (.lmul, 0, 0, [], none) := (L_123_0 66).trans rfl
theorem I_123_67 : ins 123 67 = some (.aload_n 0, 0, 0, [], none) := (L_123_0 67).trans rfl
theorem I_123_68 : ins 123 68 = some (.iload 5, 0, 0, [], none) := (L_123_0 68).trans rfl
theorem I_123_70 : ins 123 70 = some (.invokevirtual 364, 1, 0, [(9, 169)], none) := (L_123_0 70).trans rfl
theorem I_123_73 : ins 123 73 = some (.i2l, 0, 0, [], none) := (L_123_0 73).trans rfl
theorem I_123_74 : ins 123 74 = some (.ladd, 0, 0, [], none) := (L_123_0 74).trans rfl
theorem I_123_75 : ins 123 75 = some (.lstore_n 3, 0, 0, [], none) := (L_123_0 75).trans rfl
theorem I_123_76 : ins 123 76 = some (.iinc 5 1, 0, 0, [], none) := (L_123_0 76).trans rfl
theorem I_123_79 : ins 123 79 = some (.goto (-74), 5, 0, [], none) := (L_123_0 79).trans rfl
theorem I_123_82 : ins 123 82 = some (.lload_n 3, 0, 0, [], some [3]) := (L_123_0 82).trans rfl
theorem I_123_83 : ins 123 83 = some (.lreturn, 0, 0, [], none) := (L_123_0 83).trans rfl
