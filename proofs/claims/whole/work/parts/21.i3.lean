/-! instructions -/
theorem L_124_0 (pc : Nat) : ins 124 pc = fnd (iT124_0 ++ (iT124_1)) pc := rfl
theorem L_124_1 (pc : Nat) (h : Nat.ble 73 pc = true) : ins 124 pc = fnd (iT124_1) pc := (L_124_0 pc).trans (fnd_app (lo := 73) rfl (Nat.le_of_ble_eq_true h))
theorem I_124_0 : ins 124 0 = some (.lload_n 1, 0, 0, [], none) := (L_124_0 0).trans rfl
theorem I_124_1 : ins 124 1 = some (.lstore_n 3, 0, 0, [], none) := (L_124_0 1).trans rfl
theorem I_124_2 : ins 124 2 = some (.iconst 0, 0, 0, [], none) := (L_124_0 2).trans rfl
theorem I_124_3 : ins 124 3 = some (.istore 5, 0, 0, [], none) := (L_124_0 3).trans rfl
theorem I_124_5 : ins 124 5 = some (.iload 5, 0, 0, [], some [0, 3, 5]) := (L_124_0 5).trans rfl
theorem I_124_7 : ins 124 7 = some (.aload_n 0, 0, 0, [], none) := (L_124_0 7).trans rfl
theorem I_124_8 : ins 124 8 = some (.getfield 19, 1, 0, [(9, 66)], none) := (L_124_0 8).trans rfl
theorem I_124_11 : ins 124 11 = some (.getfield 316, 4, 0, [(1, 90)], none) := (L_124_0 11).trans rfl
theorem I_124_14 : ins 124 14 = some (.if_icmp .ge 102, 116, 0, [], none) := (L_124_0 14).trans rfl
theorem I_124_17 : ins 124 17 = some (.iconst 0, 0, 0, [], some [0, 3, 5]) := (L_124_0 17).trans rfl
theorem I_124_18 : ins 124 18 = some (.istore 6, 0, 0, [], none) := (L_124_0 18).trans rfl
theorem I_124_20 : ins 124 20 = some (.iload 6, 0, 0, [], some [0, 3, 5, 6]) := (L_124_0 20).trans rfl
theorem I_124_22 : ins 124 22 = some (.iconst 3, 0, 0, [], none) := (L_124_0 22).trans rfl
theorem I_124_23 : ins 124 23 = some (.if_icmp .gt 25, 48, 0, [], none) := (L_124_0 23).trans rfl
theorem I_124_26 : ins 124 26 = some (.ldc2_w 326, 931, 31, [], some [0, 3, 5, 6]) := (L_124_0 26).trans rfl
theorem I_124_29 : ins 124 29 = some (.lload_n 3, 0, 0, [], none) := (L_124_0 29).trans rfl
theorem I_124_30 : ins 124 30 = some (.lmul, 0, 0, [], none) := (L_124_0 30).trans rfl
theorem I_124_31 : ins 124 31 = some (.aload_n 0, 0, 0, [], none) := (L_124_0 31).trans rfl
theorem I_124_32 : ins 124 32 = some (.iload 5, 0, 0, [], none) := (L_124_0 32).trans rfl
theorem I_124_34 : ins 124 34 = some (.iload 6, 0, 0, [], none) := (L_124_0 34).trans rfl
theorem I_124_36 : ins 124 36 = some (.invokevirtual 367, 2, 0, [(9, 170)], none) := (L_124_0 36).trans rfl
theorem I_124_39 : ins 124 39 = some (.i2l, 0, 0, [], none) := (L_124_0 39).trans rfl
theorem I_124_40 : ins 124 40 = some (.ladd, 0, 0, [], none) := (L_124_0 40).trans rfl
theorem I_124_41 : ins 124 41 = some (.lstore_n 3, 0, 0, [], none) := (L_124_0 41).trans rfl
theorem I_124_42 : ins 124 42 = some (.iinc 6 1, 0, 0, [], none) := (L_124_0 42).trans rfl
theorem I_124_45 : ins 124 45 = some (.goto (-25), 20, 0, [], none) := (L_124_0 45).trans rfl
theorem I_124_48 : ins 124 48 = some (.ldc2_w 326, 931, 31, [], some [0, 3, 5]) := (L_124_0 48).trans rfl
theorem I_124_51 : ins 124 51 = some (.lload_n 3, 0, 0, [], none) := (L_124_0 51).trans rfl
theorem I_124_52 : ins 124 52 = some (.lmul, 0, 0, [], none) := (L_124_0 52).trans rfl
theorem I_124_53 : ins 124 53 = some (.aload_n 0, 0, 0, [], none) := (L_124_0 53).trans rfl
theorem I_124_54 : ins 124 54 = some (.iconst 5, 0, 0, [], none) := (L_124_0 54).trans rfl
theorem I_124_55 : ins 124 55 = some (.iload 5, 0, 0, [], none) := (L_124_0 55).trans rfl
theorem I_124_57 : ins 124 57 = some (.aload_n 0, 0, 0, [], none) := (L_124_0 57).trans rfl
theorem I_124_58 : ins 124 58 = some (.getfield 26, 2, 0, [(9, 67)], none) := (L_124_0 58).trans rfl
theorem I_124_61 : ins 124 61 = some (.getfield 317, 4, 0, [(5, 91)], none) := (L_124_0 61).trans rfl
theorem I_124_64 : ins 124 64 = some (.iconst 0, 0, 0, [], none) := (L_124_0 64).trans rfl
theorem I_124_65 : ins 124 65 = some (.invokevirtual 370, 4, 0, [(9, 171)], none) := (L_124_0 65).trans rfl
theorem I_124_68 : ins 124 68 = some (.ladd, 0, 0, [], none) := (L_124_0 68).trans rfl
theorem I_124_69 : ins 124 69 = some (.lstore_n 3, 0, 0, [], none) := (L_124_0 69).trans rfl
theorem I_124_70 : ins 124 70 = some (.ldc2_w 326, 931, 31, [], none) := (L_124_0 70).trans rfl
theorem I_124_73 : ins 124 73 = some (.lload_n 3, 0, 0, [], none) := (L_124_1 73 rfl).trans rfl
theorem I_124_74 : ins 124 74 = some (.lmul, 0, 0, [], none) := (L_124_1 74 rfl).trans rfl
theorem I_124_75 : ins 124 75 = some (.aload_n 0, 0, 0, [], none) := (L_124_1 75 rfl).trans rfl
theorem I_124_76 : ins 124 76 = some (.iconst 5, 0, 0, [], none) := (L_124_1 76 rfl).trans rfl
theorem I_124_77 : ins 124 77 = some (.iload 5, 0, 0, [], none) := (L_124_1 77 rfl).trans rfl
theorem I_124_79 : ins 124 79 = some (.aload_n 0, 0, 0, [], none) := (L_124_1 79 rfl).trans rfl
theorem I_124_80 : ins 124 80 = some (.getfield 26, 2, 0, [(9, 67)], none) := (L_124_1 80 rfl).trans rfl
theorem I_124_83 : ins 124 83 = some (.getfield 317, 4, 0, [(5, 91)], none) := (L_124_1 83 rfl).trans rfl
theorem I_124_86 : ins 124 86 = some (.iconst 1, 0, 0, [], none) := (L_124_1 86 rfl).trans rfl
theorem I_124_87 : ins 124 87 = some (.invokevirtual 370, 4, 0, [(9, 171)], none) := (L_124_1 87 rfl).trans rfl
theorem I_124_90 : ins 124 90 = some (.ladd, 0, 0, [], none) := (L_124_1 90 rfl).trans rfl
theorem I_124_91 : ins 124 91 = some (.lstore_n 3, 0, 0, [], none) := (L_124_1 91 rfl).trans rfl
theorem I_124_92 : ins 124 92 = some (.ldc2_w 326, 931, 31, [], none) := (L_124_1 92 rfl).trans rfl
theorem I_124_95 : ins 124 95 = some (.lload_n 3, 0, 0, [], none) := (L_124_1 95 rfl).trans rfl
theorem I_124_96 : ins 124 96 = some (.lmul, 0, 0, [], none) := (L_124_1 96 rfl).trans rfl
theorem I_124_97 : ins 124 97 = some (.aload_n 0, 0, 0, [], none) := (L_124_1 97 rfl).trans rfl
theorem I_124_98 : ins 124 98 = some (.bipush 7, 0, 0, [], none) := (L_124_1 98 rfl).trans rfl
theorem I_124_100 : ins 124 100 = some (.bipush 9, 0, 0, [], none) := (L_124_1 100 rfl).trans rfl
theorem I_124_102 : ins 124 102 = some (.iload 5, 0, 0, [], none) := (L_124_1 102 rfl).trans rfl
theorem I_124_104 : ins 124 104 = some (.invokevirtual 355, 3, 0, [(9, 166)], none) := (L_124_1 104 rfl).trans rfl
theorem I_124_107 : ins 124 107 = some (.i2l, 0, 0, [], none) := (L_124_1 107 rfl).trans rfl
theorem I_124_108 : ins 124 108 = some (.ladd, 0, 0, [], none) := (L_124_1 108 rfl).trans rfl
theorem I_124_109 : ins 124 109 = some (.lstore_n 3, 0, 0, [], none) := (L_124_1 109 rfl).trans rfl
theorem I_124_110 : ins 124 110 = some (.iinc 5 1, 0, 0, [], none) := (L_124_1 110 rfl).trans rfl
theorem I_124_113 : ins 124 113 = some (.goto (-108), 5, 0, [], none) := (L_124_1 113 rfl).trans rfl
theorem I_124_116 : ins 124 116 = some (.lload_n 3, 0, 0, [], some [3]) := (L_124_1 116 rfl).trans rfl
theorem I_124_117 : ins 124 117 = some (.lreturn, 0, 0, [], none) := (L_124_1 117 rfl).trans rfl
theorem L_125_0 (pc : Nat) : ins 125 pc = fnd (iT125_0 ++ (iT125_1 ++ (iT125_2))) pc := rfl
theorem L_125_1 (pc : Nat) (h : Nat.ble 77 pc = true) : ins 125 pc = fnd (iT125_1 ++ (iT125_2)) pc := (L_125_0 pc).trans (fnd_app (lo := 77) rfl (Nat.le_of_ble_eq_true h))
theorem L_125_2 (pc : Nat) (h : Nat.ble 150 pc = true) : ins 125 pc = fnd (iT125_2) pc := (L_125_1 pc (Nat.ble_eq.mpr (Nat.le_trans (Nat.le_of_ble_eq_true (rfl : Nat.ble 77 150 = true)) (Nat.le_of_ble_eq_true h)))).trans (fnd_app (lo := 150) rfl (Nat.le_of_ble_eq_true h))
theorem I_125_0 : ins 125 0 = some (.lload_n 1, 0, 0, [], none) := (L_125_0 0).trans rfl
theorem I_125_1 : ins 125 1 = some (.lstore 4, 0, 0, [], none) := (L_125_0 1).trans rfl
theorem I_125_3 : ins 125 3 = some (.iconst 0, 0, 0, [], none) := (L_125_0 3).trans rfl
theorem I_125_4 : ins 125 4 = some (.istore 6, 0, 0, [], none) := (L_125_0 4).trans rfl
theorem I_125_6 : ins 125 6 = some (.iload 6, 0, 0, [], some [0, 3, 4, 6]) := (L_125_0 6).trans rfl
theorem I_125_8 : ins 125 8 = some (.aload_n 0, 0, 0, [], none) := (L_125_0 8).trans rfl
theorem I_125_9 : ins 125 9 = some (.getfield 10, 0, 0, [(9, 65)], none) := (L_125_0 9).trans rfl
theorem I_125_12 : ins 125 12 = some (.getfield 308, 4, 0, [(7, 89)], none) := (L_125_0 12).trans rfl
theorem I_125_15 : ins 125 15 = some (.if_icmp .ge 26, 41, 0, [], none) := (L_125_0 15).trans rfl
theorem I_125_18 : ins 125 18 = some (.ldc2_w 326, 931, 31, [], some [0, 3, 4, 6]) := (L_125_0 18).trans rfl
theorem I_125_21 : ins 125 21 = some (.lload 4, 0, 0, [], none) := (L_125_0 21).trans rfl
theorem I_125_23 : ins 125 23 = some (.lmul, 0, 0, [], none) := (L_125_0 23).trans rfl
theorem I_125_24 : ins 125 24 = some (.aload_n 0, 0, 0, [], none) := (L_125_0 24).trans rfl
theorem I_125_25 : ins 125 25 = some (.iload_n 3, 0, 0, [], none) := (L_125_0 25).trans rfl
theorem I_125_26 : ins 125 26 = some (.iload 6, 0, 0, [], none) := (L_125_0 26).trans rfl
theorem I_125_28 : ins 125 28 = some (.invokevirtual 374, 2, 0, [(9, 172)], none) := (L_125_0 28).trans rfl
theorem I_125_31 : ins 125 31 = some (.i2l, 0, 0, [], none) := (L_125_0 31).trans rfl
theorem I_125_32 : ins 125 32 = some (.ladd, 0, 0, [], none) := (L_125_0 32).trans rfl
theorem I_125_33 : ins 125 33 = some (.lstore 4, 0, 0, [], none) := (L_125_0 33).trans rfl
theorem I_125_35 : ins 125 35 = some (.iinc 6 1, 0, 0, [], none) := (L_125_0 35).trans rfl
theorem I_125_38 : ins 125 38 = some (.goto (-32), 6, 0, [], none) := (L_125_0 38).trans rfl
theorem I_125_41 : ins 125 41 = some (.iconst 0, 0, 0, [], some [0, 3, 4]) := (L_125_0 41).trans rfl
theorem I_125_42 : ins 125 42 = some (.istore 6, 0, 0, [], none) := (L_125_0 42).trans rfl
theorem I_125_44 : ins 125 44 = some (.iload 6, 0, 0, [], some [0, 3, 4, 6]) := (L_125_0 44).trans rfl
theorem I_125_46 : ins 125 46 = some (.aload_n 0, 0, 0, [], none) := (L_125_0 46).trans rfl
theorem I_125_47 : ins 125 47 = some (.getfield 19, 1, 0, [(9, 66)], none) := (L_125_0 47).trans rfl
theorem I_125_50 : ins 125 50 = some (.getfield 316, 4, 0, [(1, 90)], none) := (L_125_0 50).trans rfl
theorem I_125_53 : ins 125 53 = some (.if_icmp .ge 60, 113, 0, [], none) := (L_125_0 53).trans rfl
theorem I_125_56 : ins 125 56 = some (.iconst 0, 0, 0, [], some [0, 3, 4, 6]) := (L_125_0 56).trans rfl
theorem I_125_57 : ins 125 57 = some (.istore 7, 0, 0, [], none) := (L_125_0 57).trans rfl
theorem I_125_59 : ins 125 59 = some (.iload 7, 0, 0, [], some [0, 3, 4, 6, 7]) := (L_125_0 59).trans rfl
theorem I_125_61 : ins 125 61 = some (.iconst 2, 0, 0, [], none) := (L_125_0 61).trans rfl
theorem I_125_62 : ins 125 62 = some (.if_icmp .gt 28, 90, 0, [], none) := (L_125_0 62).trans rfl
theorem I_125_65 : ins 125 65 = some (.ldc2_w 326, 931, 31, [], some [0, 3, 4, 6, 7]) := (L_125_0 65).trans rfl
theorem I_125_68 : ins 125 68 = some (.lload 4, 0, 0, [], none) := (L_125_0 68).trans rfl
theorem I_125_70 : ins 125 70 = some (.lmul, 0, 0, [], none) := (L_125_0 70).trans rfl
theorem I_125_71 : ins 125 71 = some (.aload_n 0, 0, 0, [], none) := (L_125_0 71).trans rfl
theorem I_125_72 : ins 125 72 = some (.iload_n 3, 0, 0, [], none) := (L_125_0 72).trans rfl
theorem I_125_73 : ins 125 73 = some (.iload 6, 0, 0, [], none) := (L_125_0 73).trans rfl
theorem I_125_75 : ins 125 75 = some (.iload 7, 0, 0, [], none) := (L_125_0 75).trans rfl
theorem I_125_77 : ins 125 77 = some (.invokevirtual 377, 3, 0, [(9, 173)], none) := (L_125_1 77 rfl).trans rfl
theorem I_125_80 : ins 125 80 = some (.i2l, 0, 0, [], none) := (L_125_1 80 rfl).trans rfl
theorem I_125_81 : ins 125 81 = some (.ladd, 0, 0, [], none) := (L_125_1 81 rfl).trans rfl
theorem I_125_82 : ins 125 82 = some (.lstore 4, 0, 0, [], none) := (L_125_1 82 rfl).trans rfl
theorem I_125_84 : ins 125 84 = some (.iinc 7 1, 0, 0, [], none) := (L_125_1 84 rfl).trans rfl
theorem I_125_87 : ins 125 87 = some (.goto (-28), 59, 0, [], none) := (L_125_1 87 rfl).trans rfl
theorem I_125_90 : ins 125 90 = some (.ldc2_w 326, 931, 31, [], some [0, 3, 4, 6]) := (L_125_1 90 rfl).trans rfl
theorem I_125_93 : ins 125 93 = some (.lload 4, 0, 0, [], none) := (L_125_1 93 rfl).trans rfl
theorem I_125_95 : ins 125 95 = some (.lmul, 0, 0, [], none) := (L_125_1 95 rfl).trans rfl
theorem I_125_96 : ins 125 96 = some (.aload_n 0, 0, 0, [], none) := (L_125_1 96 rfl).trans rfl
theorem I_125_97 : ins 125 97 = some (.iload_n 3, 0, 0, [], none) := (L_125_1 97 rfl).trans rfl
theorem I_125_98 : ins 125 98 = some (.iload 6, 0, 0, [], none) := (L_125_1 98 rfl).trans rfl
theorem I_125_100 : ins 125 100 = some (.invokevirtual 380, 2, 0, [(9, 174)], none) := (L_125_1 100 rfl).trans rfl
theorem I_125_103 : ins 125 103 = some (.i2l, 0, 0, [], none) := (L_125_1 103 rfl).trans rfl
theorem I_125_104 : ins 125 104 = some (.ladd, 0, 0, [], none) := (L_125_1 104 rfl).trans rfl
theorem I_125_105 : ins 125 105 = some (.lstore 4, 0, 0, [], none) := (L_125_1 105 rfl).trans rfl
theorem I_125_107 : ins 125 107 = some (.iinc 6 1, 0, 0, [], none) := (L_125_1 107 rfl).trans rfl
theorem I_125_110 : ins 125 110 = some (.goto (-66), 44, 0, [], none) := (L_125_1 110 rfl).trans rfl
theorem I_125_113 : ins 125 113 = some (.ldc2_w 326, 931, 31, [], some [0, 3, 4]) := (L_125_1 113 rfl).trans rfl
theorem I_125_116 : ins 125 116 = some (.lload 4, 0, 0, [], none) := (L_125_1 116 rfl).trans rfl
theorem I_125_118 : ins 125 118 = some (.lmul, 0, 0, [], none) := (L_125_1 118 rfl).trans rfl
theorem I_125_119 : ins 125 119 = some (.aload_n 0, 0, 0, [], none) := (L_125_1 119 rfl).trans rfl
theorem I_125_120 : ins 125 120 = some (.iload_n 3, 0, 0, [], none) := (L_125_1 120 rfl).trans rfl
theorem I_125_121 : ins 125 121 = some (.iconst 0, 0, 0, [], none) := (L_125_1 121 rfl).trans rfl
theorem I_125_122 : ins 125 122 = some (.invokevirtual 383, 2, 0, [(9, 175)], none) := (L_125_1 122 rfl).trans rfl
theorem I_125_125 : ins 125 125 = some (.i2l, 0, 0, [], none) := (L_125_1 125 rfl).trans rfl
theorem I_125_126 : ins 125 126 = some (.ladd, 0, 0, [], none) := (L_125_1 126 rfl).trans rfl
theorem I_125_127 : ins 125 127 = some (.lstore 4, 0, 0, [], none) := (L_125_1 127 rfl).trans rfl
theorem I_125_129 : ins 125 129 = some (.ldc2_w 326, 931, 31, [], none) := (L_125_1 129 rfl).trans rfl
theorem I_125_132 : ins 125 132 = some (.lload 4, 0, 0, [], none) := (L_125_1 132 rfl).trans rfl
theorem I_125_134 : ins 125 134 = some (.lmul, 0, 0, [], none) := (L_125_1 134 rfl).trans rfl
theorem I_125_135 : ins 125 135 = some (.aload_n 0, 0, 0, [], none) := (L_125_1 135 rfl).trans rfl
theorem I_125_136 : ins 125 136 = some (.iload_n 3, 0, 0, [], none) := (L_125_1 136 rfl).trans rfl
theorem I_125_137 : ins 125 137 = some (.iconst 1, 0, 0, [], none) := (L_125_1 137 rfl).trans rfl
theorem I_125_138 : ins 125 138 = some (.invokevirtual 383, 2, 0, [(9, 175)], none) := (L_125_1 138 rfl).trans rfl
theorem I_125_141 : ins 125 141 = some (.i2l, 0, 0, [], none) := (L_125_1 141 rfl).trans rfl
theorem I_125_142 : ins 125 142 = some (.ladd, 0, 0, [], none) := (L_125_1 142 rfl).trans rfl
theorem I_125_143 : ins 125 143 = some (.lstore 4, 0, 0, [], none) := (L_125_1 143 rfl).trans rfl
theorem I_125_145 : ins 125 145 = some (.ldc2_w 326, 931, 31, [], none) := (L_125_1 145 rfl).trans rfl
theorem I_125_148 : ins 125 148 = some (.lload 4, 0, 0, [], none) := (L_125_1 148 rfl).trans rfl
theorem I_125_150 : ins 125 150 = some (.lmul, 0, 0, [], none) := (L_125_2 150 rfl).trans rfl
theorem I_125_151 : ins 125 151 = some (.aload_n 0, 0, 0, [], none) := (L_125_2 151 rfl).trans rfl
theorem I_125_152 : ins 125 152 = some (.iload_n 3, 0, 0, [], none) := (L_125_2 152 rfl).trans rfl
theorem I_125_153 : ins 125 153 = some (.iconst (-1), 0, 0, [], none) := (L_125_2 153 rfl).trans rfl
theorem I_125_154 : ins 125 154 = some (.invokevirtual 386, 2, 0, [(9, 176)], none) := (L_125_2 154 rfl).trans rfl
theorem I_125_157 : ins 125 157 = some (.i2l, 0, 0, [], none) := (L_125_2 157 rfl).trans rfl
theorem I_125_158 : ins 125 158 = some (.ladd, 0, 0, [], none) := (L_125_2 158 rfl).trans rfl
theorem I_125_159 : ins 125 159 = some (.lstore 4, 0, 0, [], none) := (L_125_2 159 rfl).trans rfl
theorem I_125_161 : ins 125 161 = some (.ldc2_w 326, 931, 31, [], none) := (L_125_2 161 rfl).trans rfl
theorem I_125_164 : ins 125 164 = some (.lload 4, 0, 0, [], none) := (L_125_2 164 rfl).trans rfl
theorem I_125_166 : ins 125 166 = some (.lmul, 0, 0, [], none) := (L_125_2 166 rfl).trans rfl
theorem I_125_167 : ins 125 167 = some (.aload_n 0, 0, 0, [], none) := (L_125_2 167 rfl).trans rfl
theorem I_125_168 : ins 125 168 = some (.iload_n 3, 0, 0, [], none) := (L_125_2 168 rfl).trans rfl
theorem I_125_169 : ins 125 169 = some (.iconst 0, 0, 0, [], none) := (L_125_2 169 rfl).trans rfl
theorem I_125_170 : ins 125 170 = some (.invokevirtual 386, 2, 0, [(9, 176)], none) := (L_125_2 170 rfl).trans rfl
theorem I_125_173 : ins 125 173 = some (.i2l, 0, 0, [], none) := (L_125_2 173 rfl).trans rfl
theorem I_125_174 : ins 125 174 = some (.ladd, 0, 0, [], none) := (L_125_2 174 rfl).trans rfl
theorem I_125_175 : ins 125 175 = some (.lstore 4, 0, 0, [], none) := (L_125_2 175 rfl).trans rfl
theorem I_125_177 : ins 125 177 = some (.ldc2_w 326, 931, 31, [], none) := (L_125_2 177 rfl).trans rfl
theorem I_125_180 : ins 125 180 = some (.lload 4, 0, 0, [], none) := (L_125_2 180 rfl).trans rfl
theorem I_125_182 : ins 125 182 = some (.lmul, 0, 0, [], none) := (L_125_2 182 rfl).trans rfl
theorem I_125_183 : ins 125 183 = some (.aload_n 0, 0, 0, [], none) := (L_125_2 183 rfl).trans rfl
theorem I_125_184 : ins 125 184 = some (.iload_n 3, 0, 0, [], none) := (L_125_2 184 rfl).trans rfl
theorem I_125_185 : ins 125 185 = some (.bipush 60, 0, 0, [], none) := (L_125_2 185 rfl).trans rfl
theorem I_125_187 : ins 125 187 = some (.invokevirtual 389, 2, 0, [(9, 177)], none) := (L_125_2 187 rfl).trans rfl
theorem I_125_190 : ins 125 190 = some (.i2l, 0, 0, [], none) := (L_125_2 190 rfl).trans rfl
theorem I_125_191 : ins 125 191 = some (.ladd, 0, 0, [], none) := (L_125_2 191 rfl).trans rfl
theorem I_125_192 : ins 125 192 = some (.lreturn, 0, 0, [], none) := (L_125_2 192 rfl).trans rfl
theorem L_126_0 (pc : Nat) : ins 126 pc = fnd iT126 pc := rfl
theorem I_126_0 : ins 126 0 = some (.iload_n 1, 0, 0, [], none) := (L_126_0 0).trans rfl
theorem I_126_1 : ins 126 1 = some (.ifCond .lt 21, 22, 0, [], none) := (L_126_0 1).trans rfl
theorem I_126_4 : ins 126 4 = some (.iload_n 1, 0, 0, [], some [0, 1]) := (L_126_0 4).trans rfl
theorem I_126_5 : ins 126 5 = some (.aload_n 0, 0, 0, [], none) := (L_126_0 5).trans rfl
theorem I_126_6 : ins 126 6 = some (.getfield 32, 3, 0, [(9, 68)], none) := (L_126_0 6).trans rfl
theorem I_126_9 : ins 126 9 = some (.arraylength, 0, 0, [], none) := (L_126_0 9).trans rfl
theorem I_126_10 : ins 126 10 = some (.if_icmp .ge 12, 22, 0, [], none) := (L_126_0 10).trans rfl
theorem I_126_13 : ins 126 13 = some (.aload_n 0, 0, 0, [], some [0, 1]) := (L_126_0 13).trans rfl
theorem I_126_14 : ins 126 14 = some (.getfield 32, 3, 0, [(9, 68)], none) := (L_126_0 14).trans rfl
theorem I_126_17 : ins 126 17 = some (.iload_n 1, 0, 0, [], none) := (L_126_0 17).trans rfl
theorem I_126_18 : ins 126 18 = some (.aaload, 0, 0, [], none) := (L_126_0 18).trans rfl
theorem I_126_19 : ins 126 19 = some (.goto 4, 23, 0, [], none) := (L_126_0 19).trans rfl
theorem I_126_22 : ins 126 22 = some (.aconst_null, 0, 0, [], some []) := (L_126_0 22).trans rfl
theorem I_126_23 : ins 126 23 = some (.areturn, 0, 0, [], some []) := (L_126_0 23).trans rfl
theorem L_127_0 (pc : Nat) : ins 127 pc = fnd iT127 pc := rfl
theorem I_127_0 : ins 127 0 = some (.iload_n 1, 0, 0, [], none) := (L_127_0 0).trans rfl
theorem I_127_1 : ins 127 1 = some (.ifCond .lt 21, 22, 0, [], none) := (L_127_0 1).trans rfl
theorem I_127_4 : ins 127 4 = some (.iload_n 1, 0, 0, [], some [0, 1]) := (L_127_0 4).trans rfl
theorem I_127_5 : ins 127 5 = some (.aload_n 0, 0, 0, [], none) := (L_127_0 5).trans rfl
theorem I_127_6 : ins 127 6 = some (.getfield 84, 9, 0, [(9, 74)], none) := (L_127_0 6).trans rfl
theorem I_127_9 : ins 127 9 = some (.arraylength, 0, 0, [], none) := (L_127_0 9).trans rfl
theorem I_127_10 : ins 127 10 = some (.if_icmp .ge 12, 22, 0, [], none) := (L_127_0 10).trans rfl
theorem I_127_13 : ins 127 13 = some (.aload_n 0, 0, 0, [], some [0, 1]) := (L_127_0 13).trans rfl
theorem I_127_14 : ins 127 14 = some (.getfield 84, 9, 0, [(9, 74)], none) := (L_127_0 14).trans rfl
theorem I_127_17 : ins 127 17 = some (.iload_n 1, 0, 0, [], none) := (L_127_0 17).trans rfl
theorem I_127_18 : ins 127 18 = some (.aaload, 0, 0, [], none) := (L_127_0 18).trans rfl
theorem I_127_19 : ins 127 19 = some (.goto 4, 23, 0, [], none) := (L_127_0 19).trans rfl
theorem I_127_22 : ins 127 22 = some (.aconst_null, 0, 0, [], some []) := (L_127_0 22).trans rfl
theorem I_127_23 : ins 127 23 = some (.areturn, 0, 0, [], some []) := (L_127_0 23).trans rfl
theorem L_128_0 (pc : Nat) : ins 128 pc = fnd iT128 pc := rfl
theorem I_128_0 : ins 128 0 = some (.iload_n 1, 0, 0, [], none) := (L_128_0 0).trans rfl
theorem I_128_1 : ins 128 1 = some (.ifCond .lt 18, 19, 0, [], none) := (L_128_0 1).trans rfl
theorem I_128_4 : ins 128 4 = some (.iload_n 1, 0, 0, [], some [0, 1]) := (L_128_0 4).trans rfl
theorem I_128_5 : ins 128 5 = some (.aload_n 0, 0, 0, [], none) := (L_128_0 5).trans rfl
theorem I_128_6 : ins 128 6 = some (.getfield 26, 2, 0, [(9, 67)], none) := (L_128_0 6).trans rfl
theorem I_128_9 : ins 128 9 = some (.getfield 317, 4, 0, [(5, 91)], none) := (L_128_0 9).trans rfl
theorem I_128_12 : ins 128 12 = some (.if_icmp .gt 7, 19, 0, [], none) := (L_128_0 12).trans rfl
theorem I_128_15 : ins 128 15 = some (.iconst 1, 0, 0, [], some []) := (L_128_0 15).trans rfl
theorem I_128_16 : ins 128 16 = some (.goto 4, 20, 0, [], none) := (L_128_0 16).trans rfl
theorem I_128_19 : ins 128 19 = some (.iconst 0, 0, 0, [], some []) := (L_128_0 19).trans rfl
theorem I_128_20 : ins 128 20 = some (.ireturn, 0, 0, [], some []) := (L_128_0 20).trans rfl
theorem L_129_0 (pc : Nat) : ins 129 pc = fnd iT129 pc := rfl
theorem I_129_0 : ins 129 0 = some (.iload_n 0, 0, 0, [], none) := (L_129_0 0).trans rfl
theorem I_129_1 : ins 129 1 = some (.ifCond .lt 12, 13, 0, [], none) := (L_129_0 1).trans rfl
theorem I_129_4 : ins 129 4 = some (.iload_n 0, 0, 0, [], some [0]) := (L_129_0 4).trans rfl
theorem I_129_5 : ins 129 5 = some (.iconst 3, 0, 0, [], none) := (L_129_0 5).trans rfl
theorem I_129_6 : ins 129 6 = some (.if_icmp .ge 7, 13, 0, [], none) := (L_129_0 6).trans rfl
theorem I_129_9 : ins 129 9 = some (.iconst 1, 0, 0, [], some []) := (L_129_0 9).trans rfl
theorem I_129_10 : ins 129 10 = some (.goto 4, 14, 0, [], none) := (L_129_0 10).trans rfl
theorem I_129_13 : ins 129 13 = some (.iconst 0, 0, 0, [], some []) := (L_129_0 13).trans rfl
theorem I_129_14 : ins 129 14 = some (.ireturn, 0, 0, [], some []) := (L_129_0 14).trans rfl
theorem L_130_0 (pc : Nat) : ins 130 pc = fnd iT130 pc := rfl
theorem I_130_0 : ins 130 0 = some (.iconst 0, 0, 0, [], none) := (L_130_0 0).trans rfl
theorem I_130_1 : ins 130 1 = some (.istore_n 1, 0, 0, [], none) := (L_130_0 1).trans rfl
theorem I_130_2 : ins 130 2 = some (.iload_n 1, 0, 0, [], some [0, 1]) := (L_130_0 2).trans rfl
theorem I_130_3 : ins 130 3 = some (.bipush 8, 0, 0, [], none) := (L_130_0 3).trans rfl
theorem I_130_5 : ins 130 5 = some (.if_icmp .ge 19, 24, 0, [], none) := (L_130_0 5).trans rfl
theorem I_130_8 : ins 130 8 = some (.iload_n 0, 0, 0, [], some [0, 1]) := (L_130_0 8).trans rfl
theorem I_130_9 : ins 130 9 = some (.iload_n 1, 0, 0, [], none) := (L_130_0 9).trans rfl
theorem I_130_10 : ins 130 10 = some (.ishr, 0, 0, [], none) := (L_130_0 10).trans rfl
theorem I_130_11 : ins 130 11 = some (.iconst 1, 0, 0, [], none) := (L_130_0 11).trans rfl
theorem I_130_12 : ins 130 12 = some (.iand, 0, 0, [], none) := (L_130_0 12).trans rfl
theorem I_130_13 : ins 130 13 = some (.ifCond .eq 5, 18, 0, [], none) := (L_130_0 13).trans rfl
theorem I_130_16 : ins 130 16 = some (.iload_n 1, 0, 0, [], some [1]) := (L_130_0 16).trans rfl
theorem I_130_17 : ins 130 17 = some (.ireturn, 0, 0, [], none) := (L_130_0 17).trans rfl
theorem I_130_18 : ins 130 18 = some (.iinc 1 1, 0, 0, [], some [0, 1]) := (L_130_0 18).trans rfl
theorem I_130_21 : ins 130 21 = some (.goto (-19), 2, 0, [], none) := (L_130_0 21).trans rfl
theorem I_130_24 : ins 130 24 = some (.iconst (-1), 0, 0, [], some []) := (L_130_0 24).trans rfl
theorem I_130_25 : ins 130 25 = some (.ireturn, 0, 0, [], none) := (L_130_0 25).trans rfl
theorem L_131_0 (pc : Nat) : ins 131 pc = fnd iT131 pc := rfl
theorem I_131_0 : ins 131 0 = some (.aload_n 0, 0, 0, [], none) := (L_131_0 0).trans rfl
theorem I_131_1 : ins 131 1 = some (.iload_n 1, 0, 0, [], none) := (L_131_0 1).trans rfl
theorem I_131_2 : ins 131 2 = some (.putfield 288, 10, 0, [(9, 86)], none) := (L_131_0 2).trans rfl
theorem I_131_5 : ins 131 5 = some (.bipush (-10), 0, 0, [], none) := (L_131_0 5).trans rfl
theorem I_131_7 : ins 131 7 = some (.iload_n 1, 0, 0, [], none) := (L_131_0 7).trans rfl
theorem I_131_8 : ins 131 8 = some (.isub, 0, 0, [], none) := (L_131_0 8).trans rfl
theorem I_131_9 : ins 131 9 = some (.ireturn, 0, 0, [], none) := (L_131_0 9).trans rfl
theorem L_132_0 (pc : Nat) : ins 132 pc = fnd iT132 pc := rfl
theorem I_132_0 : ins 132 0 = some (.aload_n 0, 0, 0, [], none) := (L_132_0 0).trans rfl
theorem I_132_1 : ins 132 1 = some (.invokevirtual 225, 0, 0, [(6, 140)], none) := (L_132_0 1).trans rfl
theorem I_132_4 : ins 132 4 = some (.ifCond .eq 5, 9, 0, [], none) := (L_132_0 4).trans rfl
theorem I_132_7 : ins 132 7 = some (.iconst 1, 0, 0, [], some []) := (L_132_0 7).trans rfl
theorem I_132_8 : ins 132 8 = some (.ireturn, 0, 0, [], none) := (L_132_0 8).trans rfl
theorem I_132_9 : ins 132 9 = some (.aload_n 0, 0, 0, [], some [0, 1, 2]) := (L_132_0 9).trans rfl
theorem I_132_10 : ins 132 10 = some (.getfield 291, 1, 0, [(6, 87)], none) := (L_132_0 10).trans rfl
theorem I_132_13 : ins 132 13 = some (.iload_n 1, 0, 0, [], none) := (L_132_0 13).trans rfl
theorem I_132_14 : ins 132 14 = some (.if_icmp .eq 5, 19, 0, [], none) := (L_132_0 14).trans rfl
theorem I_132_17 : ins 132 17 = some (.iconst 3, 0, 0, [], some []) := (L_132_0 17).trans rfl
theorem I_132_18 : ins 132 18 = some (.ireturn, 0, 0, [], none) := (L_132_0 18).trans rfl
theorem I_132_19 : ins 132 19 = some (.aload_n 0, 0, 0, [], some [0, 2]) := (L_132_0 19).trans rfl
theorem I_132_20 : ins 132 20 = some (.iload_n 2, 0, 0, [], none) := (L_132_0 20).trans rfl
theorem I_132_21 : ins 132 21 = some (.invokevirtual 392, 1, 0, [(6, 178)], none) := (L_132_0 21).trans rfl
theorem I_132_24 : ins 132 24 = some (.ifCond .eq 7, 31, 0, [], none) := (L_132_0 24).trans rfl
theorem I_132_27 : ins 132 27 = some (.iconst 0, 0, 0, [], some []) := (L_132_0 27).trans rfl
theorem I_132_28 : ins 132 28 = some (.goto 4, 32, 0, [], none) := (L_132_0 28).trans rfl
theorem I_132_31 : ins 132 31 = some (.iconst 2, 0, 0, [], some []) := (L_132_0 31).trans rfl
theorem I_132_32 : ins 132 32 = some (.ireturn, 0, 0, [], some []) := (L_132_0 32).trans rfl
theorem L_134_0 (pc : Nat) : ins 134 pc = fnd iT134 pc := rfl
theorem I_134_0 : ins 134 0 = some (.lload_n 0, 0, 0, [], none) := (L_134_0 0).trans rfl
theorem I_134_1 : ins 134 1 = some (.lload_n 2, 0, 0, [], none) := (L_134_0 1).trans rfl
theorem I_134_2 : ins 134 2 = some (.lcmp, 0, 0, [], none) := (L_134_0 2).trans rfl
theorem I_134_3 : ins 134 3 = some (.ifCond .lt 14, 17, 0, [], none) := (L_134_0 3).trans rfl
theorem I_134_6 : ins 134 6 = some (.lload_n 0, 0, 0, [], some [0, 4]) := (L_134_0 6).trans rfl
theorem I_134_7 : ins 134 7 = some (.lload 4, 0, 0, [], none) := (L_134_0 7).trans rfl
theorem I_134_9 : ins 134 9 = some (.lcmp, 0, 0, [], none) := (L_134_0 9).trans rfl
theorem I_134_10 : ins 134 10 = some (.ifCond .gt 7, 17, 0, [], none) := (L_134_0 10).trans rfl
theorem I_134_13 : ins 134 13 = some (.iconst 1, 0, 0, [], some []) := (L_134_0 13).trans rfl
theorem I_134_14 : ins 134 14 = some (.goto 4, 18, 0, [], none) := (L_134_0 14).trans rfl
theorem I_134_17 : ins 134 17 = some (.iconst 0, 0, 0, [], some []) := (L_134_0 17).trans rfl
theorem I_134_18 : ins 134 18 = some (.ireturn, 0, 0, [], some []) := (L_134_0 18).trans rfl
theorem L_135_0 (pc : Nat) : ins 135 pc = fnd iT135 pc := rfl
theorem I_135_0 : ins 135 0 = some (.ldc2_w 67, 1350, (-9223372036854775808), [], none) := (L_135_0 0).trans rfl
theorem I_135_3 : ins 135 3 = some (.iload_n 0, 0, 0, [], none) := (L_135_0 3).trans rfl
theorem I_135_4 : ins 135 4 = some (.i2l, 0, 0, [], none) := (L_135_0 4).trans rfl
theorem I_135_5 : ins 135 5 = some (.lsub, 0, 0, [], none) := (L_135_0 5).trans rfl
theorem I_135_6 : ins 135 6 = some (.lreturn, 0, 0, [], none) := (L_135_0 6).trans rfl
theorem L_136_0 (pc : Nat) : ins 136 pc = fnd iT136 pc := rfl
theorem I_136_0 : ins 136 0 = some (.iload_n 0, 0, 0, [], none) := (L_136_0 0).trans rfl
theorem I_136_1 : ins 136 1 = some (.i2l, 0, 0, [], none) := (L_136_0 1).trans rfl
theorem I_136_2 : ins 136 2 = some (.lconst 0, 0, 0, [], none) := (L_136_0 2).trans rfl
theorem I_136_3 : ins 136 3 = some (.lconst 1, 0, 0, [], none) := (L_136_0 3).trans rfl
theorem I_136_4 : ins 136 4 = some (.invokestatic 69, 3, 0, [(0, 180)], none) := (L_136_0 4).trans rfl
theorem I_136_7 : ins 136 7 = some (.ireturn, 0, 0, [], none) := (L_136_0 7).trans rfl
theorem L_137_0 (pc : Nat) : ins 137 pc = fnd iT137 pc := rfl
theorem I_137_0 : ins 137 0 = some (.iload_n 0, 0, 0, [], none) := (L_137_0 0).trans rfl
theorem I_137_1 : ins 137 1 = some (.iload_n 1, 0, 0, [], none) := (L_137_0 1).trans rfl
theorem I_137_2 : ins 137 2 = some (.ishr, 0, 0, [], none) := (L_137_0 2).trans rfl
theorem I_137_3 : ins 137 3 = some (.iconst 1, 0, 0, [], none) := (L_137_0 3).trans rfl
theorem I_137_4 : ins 137 4 = some (.iand, 0, 0, [], none) := (L_137_0 4).trans rfl
theorem I_137_5 : ins 137 5 = some (.iconst 1, 0, 0, [], none) := (L_137_0 5).trans rfl
theorem I_137_6 : ins 137 6 = some (.if_icmp .ne 7, 13, 0, [], none) := (L_137_0 6).trans rfl
theorem I_137_9 : ins 137 9 = some (.iconst 1, 0, 0, [], some []) := (L_137_0 9).trans rfl
theorem I_137_10 : ins 137 10 = some (.goto 4, 14, 0, [], none) := (L_137_0 10).trans rfl
theorem I_137_13 : ins 137 13 = some (.iconst 0, 0, 0, [], some []) := (L_137_0 13).trans rfl
theorem I_137_14 : ins 137 14 = some (.ireturn, 0, 0, [], some []) := (L_137_0 14).trans rfl
theorem L_138_0 (pc : Nat) : ins 138 pc = fnd iT138 pc := rfl
theorem I_138_0 : ins 138 0 = some (.iconst 0, 0, 0, [], none) := (L_138_0 0).trans rfl
theorem I_138_1 : ins 138 1 = some (.istore_n 1, 0, 0, [], none) := (L_138_0 1).trans rfl
theorem I_138_2 : ins 138 2 = some (.iload_n 0, 0, 0, [], none) := (L_138_0 2).trans rfl
theorem I_138_3 : ins 138 3 = some (.istore_n 2, 0, 0, [], none) := (L_138_0 3).trans rfl
theorem I_138_4 : ins 138 4 = some (.iload_n 2, 0, 0, [], some [1, 2]) := (L_138_0 4).trans rfl
theorem I_138_5 : ins 138 5 = some (.ifCond .eq 15, 20, 0, [], none) := (L_138_0 5).trans rfl
theorem I_138_8 : ins 138 8 = some (.iinc 1 1, 0, 0, [], some [1, 2]) := (L_138_0 8).trans rfl
theorem I_138_11 : ins 138 11 = some (.iload_n 2, 0, 0, [], none) := (L_138_0 11).trans rfl
theorem I_138_12 : ins 138 12 = some (.iload_n 2, 0, 0, [], none) := (L_138_0 12).trans rfl
theorem I_138_13 : ins 138 13 = some (.iconst 1, 0, 0, [], none) := (L_138_0 13).trans rfl
theorem I_138_14 : ins 138 14 = some (.isub, 0, 0, [], none) := (L_138_0 14).trans rfl
theorem I_138_15 : ins 138 15 = some (.iand, 0, 0, [], none) := (L_138_0 15).trans rfl
theorem I_138_16 : ins 138 16 = some (.istore_n 2, 0, 0, [], none) := (L_138_0 16).trans rfl
theorem I_138_17 : ins 138 17 = some (.goto (-13), 4, 0, [], none) := (L_138_0 17).trans rfl
theorem I_138_20 : ins 138 20 = some (.iload_n 1, 0, 0, [], some [1]) := (L_138_0 20).trans rfl
theorem I_138_21 : ins 138 21 = some (.ireturn, 0, 0, [], none) := (L_138_0 21).trans rfl
theorem L_139_0 (pc : Nat) : ins 139 pc = fnd iT139 pc := rfl
theorem I_139_0 : ins 139 0 = some (.iload_n 0, 0, 0, [], none) := (L_139_0 0).trans rfl
theorem I_139_1 : ins 139 1 = some (.iload_n 1, 0, 0, [], none) := (L_139_0 1).trans rfl
theorem I_139_2 : ins 139 2 = some (.if_icmp .ge 7, 9, 0, [], none) := (L_139_0 2).trans rfl
theorem I_139_5 : ins 139 5 = some (.iload_n 0, 0, 0, [], some [0]) := (L_139_0 5).trans rfl
theorem I_139_6 : ins 139 6 = some (.goto 4, 10, 0, [], none) := (L_139_0 6).trans rfl
theorem I_139_9 : ins 139 9 = some (.iload_n 1, 0, 0, [], some [1]) := (L_139_0 9).trans rfl
theorem I_139_10 : ins 139 10 = some (.ireturn, 0, 0, [], some []) := (L_139_0 10).trans rfl
theorem L_140_0 (pc : Nat) : ins 140 pc = fnd iT140 pc := rfl
theorem I_140_0 : ins 140 0 = some (.iload_n 0, 0, 0, [], none) := (L_140_0 0).trans rfl
theorem I_140_1 : ins 140 1 = some (.ifCond .ge 8, 9, 0, [], none) := (L_140_0 1).trans rfl
theorem I_140_4 : ins 140 4 = some (.iload_n 0, 0, 0, [], some [0]) := (L_140_0 4).trans rfl
theorem I_140_5 : ins 140 5 = some (.ineg, 0, 0, [], none) := (L_140_0 5).trans rfl
theorem I_140_6 : ins 140 6 = some (.goto 4, 10, 0, [], none) := (L_140_0 6).trans rfl
theorem I_140_9 : ins 140 9 = some (.iload_n 0, 0, 0, [], some [0]) := (L_140_0 9).trans rfl
theorem I_140_10 : ins 140 10 = some (.ireturn, 0, 0, [], some []) := (L_140_0 10).trans rfl
theorem L_141_0 (pc : Nat) : ins 141 pc = fnd iT141 pc := rfl
theorem I_141_0 : ins 141 0 = some (.lload_n 0, 0, 0, [], none) := (L_141_0 0).trans rfl
theorem I_141_1 : ins 141 1 = some (.lstore 5, 0, 0, [], none) := (L_141_0 1).trans rfl
theorem I_141_3 : ins 141 3 = some (.lload_n 2, 0, 0, [], none) := (L_141_0 3).trans rfl
theorem I_141_4 : ins 141 4 = some (.lstore 7, 0, 0, [], none) := (L_141_0 4).trans rfl
theorem I_141_6 : ins 141 6 = some (.lload 7, 0, 0, [], some [0, 2, 4, 5, 7]) := (L_141_0 6).trans rfl
theorem I_141_8 : ins 141 8 = some (.lconst 0, 0, 0, [], none) := (L_141_0 8).trans rfl
theorem I_141_9 : ins 141 9 = some (.lcmp, 0, 0, [], none) := (L_141_0 9).trans rfl
theorem I_141_10 : ins 141 10 = some (.ifCond .eq 21, 31, 0, [], none) := (L_141_0 10).trans rfl
theorem I_141_13 : ins 141 13 = some (.lload 5, 0, 0, [], some [0, 2, 4, 5, 7]) := (L_141_0 13).trans rfl
theorem I_141_15 : ins 141 15 = some (.lload 7, 0, 0, [], none) := (L_141_0 15).trans rfl
theorem I_141_17 : ins 141 17 = some (.lrem, 0, 0, [], none) := (L_141_0 17).trans rfl
theorem I_141_18 : ins 141 18 = some (.lstore 9, 0, 0, [], none) := (L_141_0 18).trans rfl
theorem I_141_20 : ins 141 20 = some (.lload 7, 0, 0, [], none) := (L_141_0 20).trans rfl
theorem I_141_22 : ins 141 22 = some (.lstore 5, 0, 0, [], none) := (L_141_0 22).trans rfl
theorem I_141_24 : ins 141 24 = some (.lload 9, 0, 0, [], none) := (L_141_0 24).trans rfl
theorem I_141_26 : ins 141 26 = some (.lstore 7, 0, 0, [], none) := (L_141_0 26).trans rfl
theorem I_141_28 : ins 141 28 = some (.goto (-22), 6, 0, [], none) := (L_141_0 28).trans rfl
theorem I_141_31 : ins 141 31 = some (.iload 4, 0, 0, [], some [0, 2, 4, 5]) := (L_141_0 31).trans rfl
theorem I_141_33 : ins 141 33 = some (.ifCond .ne 7, 40, 0, [], none) := (L_141_0 33).trans rfl
theorem I_141_36 : ins 141 36 = some (.lload_n 0, 0, 0, [], some [0, 5]) := (L_141_0 36).trans rfl
theorem I_141_37 : ins 141 37 = some (.goto 4, 41, 0, [], none) := (L_141_0 37).trans rfl
theorem I_141_40 : ins 141 40 = some (.lload_n 2, 0, 0, [], some [2, 5]) := (L_141_0 40).trans rfl
theorem I_141_41 : ins 141 41 = some (.lload 5, 0, 0, [], some [5]) := (L_141_0 41).trans rfl
theorem I_141_43 : ins 141 43 = some (.ldiv, 0, 0, [], none) := (L_141_0 43).trans rfl
theorem I_141_44 : ins 141 44 = some (.lreturn, 0, 0, [], none) := (L_141_0 44).trans rfl
theorem L_142_0 (pc : Nat) : ins 142 pc = fnd iT142 pc := rfl
theorem I_142_0 : ins 142 0 = some (.aload_n 0, 0, 0, [], none) := (L_142_0 0).trans rfl
theorem I_142_1 : ins 142 1 = some (.iload_n 1, 0, 0, [], none) := (L_142_0 1).trans rfl
theorem I_142_2 : ins 142 2 = some (.putfield 73, 4, 0, [(10, 115)], none) := (L_142_0 2).trans rfl
theorem I_142_5 : ins 142 5 = some (.bipush (-10), 0, 0, [], none) := (L_142_0 5).trans rfl
theorem I_142_7 : ins 142 7 = some (.iload_n 1, 0, 0, [], none) := (L_142_0 7).trans rfl
theorem I_142_8 : ins 142 8 = some (.isub, 0, 0, [], none) := (L_142_0 8).trans rfl
theorem I_142_9 : ins 142 9 = some (.ireturn, 0, 0, [], none) := (L_142_0 9).trans rfl
theorem L_143_0 (pc : Nat) : ins 143 pc = fnd iT143 pc := rfl
theorem I_143_0 : ins 143 0 = some (.iload_n 0, 0, 0, [], none) := (L_143_0 0).trans rfl
theorem I_143_1 : ins 143 1 = some (.i2l, 0, 0, [], none) := (L_143_0 1).trans rfl
theorem I_143_2 : ins 143 2 = some (.lconst 0, 0, 0, [], none) := (L_143_0 2).trans rfl
theorem I_143_3 : ins 143 3 = some (.ldc2_w 77, 1041, 3, [], none) := (L_143_0 3).trans rfl
theorem I_143_6 : ins 143 6 = some (.invokestatic 69, 3, 0, [(0, 180)], none) := (L_143_0 6).trans rfl
theorem I_143_9 : ins 143 9 = some (.ireturn, 0, 0, [], none) := (L_143_0 9).trans rfl
theorem L_144_0 (pc : Nat) : ins 144 pc = fnd iT144 pc := rfl
theorem I_144_0 : ins 144 0 = some (.iload_n 1, 0, 0, [], none) := (L_144_0 0).trans rfl
theorem I_144_1 : ins 144 1 = some (.invokestatic 79, 1, 0, [(0, 181)], none) := (L_144_0 1).trans rfl
theorem I_144_4 : ins 144 4 = some (.ifCond .eq 21, 25, 0, [], none) := (L_144_0 4).trans rfl
theorem I_144_7 : ins 144 7 = some (.iload_n 2, 0, 0, [], some [0, 1, 2, 3]) := (L_144_0 7).trans rfl
theorem I_144_8 : ins 144 8 = some (.i2l, 0, 0, [], none) := (L_144_0 8).trans rfl
theorem I_144_9 : ins 144 9 = some (.lconst 0, 0, 0, [], none) := (L_144_0 9).trans rfl
theorem I_144_10 : ins 144 10 = some (.ldc2_w 83, 1045, 2, [], none) := (L_144_0 10).trans rfl
theorem I_144_13 : ins 144 13 = some (.invokestatic 69, 3, 0, [(0, 180)], none) := (L_144_0 13).trans rfl
theorem I_144_16 : ins 144 16 = some (.ifCond .eq 9, 25, 0, [], none) := (L_144_0 16).trans rfl
theorem I_144_19 : ins 144 19 = some (.iload_n 3, 0, 0, [], some [0, 1, 2, 3]) := (L_144_0 19).trans rfl
theorem I_144_20 : ins 144 20 = some (.bipush 60, 0, 0, [], none) := (L_144_0 20).trans rfl
theorem I_144_22 : ins 144 22 = some (.if_icmp .le 6, 28, 0, [], none) := (L_144_0 22).trans rfl
theorem I_144_25 : ins 144 25 = some (.bipush (-2), 0, 0, [], some []) := (L_144_0 25).trans rfl
theorem I_144_27 : ins 144 27 = some (.ireturn, 0, 0, [], none) := (L_144_0 27).trans rfl
theorem I_144_28 : ins 144 28 = some (.iload_n 3, 0, 0, [], some [0, 1, 2, 3]) := (L_144_0 28).trans rfl
theorem I_144_29 : ins 144 29 = some (.ifCond .ge 9, 38, 0, [], none) := (L_144_0 29).trans rfl
theorem I_144_32 : ins 144 32 = some (.aload_n 0, 0, 0, [], some [0]) := (L_144_0 32).trans rfl
theorem I_144_33 : ins 144 33 = some (.iconst 5, 0, 0, [], none) := (L_144_0 33).trans rfl
theorem I_144_34 : ins 144 34 = some (.invokevirtual 85, 1, 0, [(10, 182)], none) := (L_144_0 34).trans rfl
theorem I_144_37 : ins 144 37 = some (.ireturn, 0, 0, [], none) := (L_144_0 37).trans rfl
theorem I_144_38 : ins 144 38 = some (.aload_n 0, 0, 0, [], some [0, 1, 2, 3]) := (L_144_0 38).trans rfl
theorem I_144_39 : ins 144 39 = some (.getfield 7, 0, 0, [(10, 96)], none) := (L_144_0 39).trans rfl
theorem I_144_42 : ins 144 42 = some (.iload_n 1, 0, 0, [], none) := (L_144_0 42).trans rfl
theorem I_144_43 : ins 144 43 = some (.iload_n 2, 0, 0, [], none) := (L_144_0 43).trans rfl
theorem I_144_44 : ins 144 44 = some (.iastore, 0, 0, [], none) := (L_144_0 44).trans rfl
theorem I_144_45 : ins 144 45 = some (.aload_n 0, 0, 0, [], none) := (L_144_0 45).trans rfl
theorem I_144_46 : ins 144 46 = some (.getfield 13, 1, 0, [(10, 97)], none) := (L_144_0 46).trans rfl
theorem I_144_49 : ins 144 49 = some (.iload_n 1, 0, 0, [], none) := (L_144_0 49).trans rfl
theorem I_144_50 : ins 144 50 = some (.iload_n 3, 0, 0, [], none) := (L_144_0 50).trans rfl
theorem I_144_51 : ins 144 51 = some (.iastore, 0, 0, [], none) := (L_144_0 51).trans rfl
theorem I_144_52 : ins 144 52 = some (.iconst 0, 0, 0, [], none) := (L_144_0 52).trans rfl
theorem I_144_53 : ins 144 53 = some (.istore 4, 0, 0, [], none) := (L_144_0 53).trans rfl
theorem I_144_55 : ins 144 55 = some (.iload 4, 0, 0, [], some [0, 1, 3, 4]) := (L_144_0 55).trans rfl
theorem I_144_57 : ins 144 57 = some (.iload_n 3, 0, 0, [], none) := (L_144_0 57).trans rfl
theorem I_144_58 : ins 144 58 = some (.if_icmp .ge 22, 80, 0, [], none) := (L_144_0 58).trans rfl
theorem I_144_61 : ins 144 61 = some (.aload_n 0, 0, 0, [], some [0, 1, 3, 4]) := (L_144_0 61).trans rfl
theorem I_144_62 : ins 144 62 = some (.getfield 16, 2, 0, [(10, 98)], none) := (L_144_0 62).trans rfl
theorem I_144_65 : ins 144 65 = some (.bipush 60, 0, 0, [], none) := (L_144_0 65).trans rfl
theorem I_144_67 : ins 144 67 = some (.iload_n 1, 0, 0, [], none) := (L_144_0 67).trans rfl
theorem I_144_68 : ins 144 68 = some (.imul, 0, 0, [], none) := (L_144_0 68).trans rfl
theorem I_144_69 : ins 144 69 = some (.iload 4, 0, 0, [], none) := (L_144_0 69).trans rfl
theorem I_144_71 : ins 144 71 = some (.iadd, 0, 0, [], none) := (L_144_0 71).trans rfl
theorem I_144_72 : ins 144 72 = some (.iconst 0, 0, 0, [], none) := (L_144_0 72).trans rfl
theorem I_144_73 : ins 144 73 = some (.iastore, 0, 0, [], none) := (L_144_0 73).trans rfl
theorem I_144_74 : ins 144 74 = some (.iinc 4 1, 0, 0, [], none) := (L_144_0 74).trans rfl
theorem I_144_77 : ins 144 77 = some (.goto (-22), 55, 0, [], none) := (L_144_0 77).trans rfl
theorem I_144_80 : ins 144 80 = some (.iload_n 3, 0, 0, [], some [3]) := (L_144_0 80).trans rfl
theorem I_144_81 : ins 144 81 = some (.ireturn, 0, 0, [], none) := (L_144_0 81).trans rfl
theorem L_145_0 (pc : Nat) : ins 145 pc = fnd iT145 pc := rfl
theorem I_145_0 : ins 145 0 = some (.iload_n 1, 0, 0, [], none) := (L_145_0 0).trans rfl
theorem I_145_1 : ins 145 1 = some (.invokestatic 79, 1, 0, [(0, 181)], none) := (L_145_0 1).trans rfl
theorem I_145_4 : ins 145 4 = some (.ifCond .ne 6, 10, 0, [], none) := (L_145_0 4).trans rfl
theorem I_145_7 : ins 145 7 = some (.bipush (-2), 0, 0, [], some []) := (L_145_0 7).trans rfl
theorem I_145_9 : ins 145 9 = some (.ireturn, 0, 0, [], none) := (L_145_0 9).trans rfl
theorem I_145_10 : ins 145 10 = some (.aload_n 0, 0, 0, [], some [0, 1]) := (L_145_0 10).trans rfl
theorem I_145_11 : ins 145 11 = some (.getfield 7, 0, 0, [(10, 96)], none) := (L_145_0 11).trans rfl
theorem I_145_14 : ins 145 14 = some (.iload_n 1, 0, 0, [], none) := (L_145_0 14).trans rfl
theorem I_145_15 : ins 145 15 = some (.iaload, 0, 0, [], none) := (L_145_0 15).trans rfl
theorem I_145_16 : ins 145 16 = some (.ifCond .ge 9, 25, 0, [], none) := (L_145_0 16).trans rfl
theorem I_145_19 : ins 145 19 = some (.aload_n 0, 0, 0, [], some [0]) := (L_145_0 19).trans rfl
theorem I_145_20 : ins 145 20 = some (.iconst 1, 0, 0, [], none) := (L_145_0 20).trans rfl
theorem I_145_21 : ins 145 21 = some (.invokevirtual 85, 1, 0, [(10, 182)], none) := (L_145_0 21).trans rfl
theorem I_145_24 : ins 145 24 = some (.ireturn, 0, 0, [], none) := (L_145_0 24).trans rfl
theorem I_145_25 : ins 145 25 = some (.aload_n 0, 0, 0, [], some [0, 1]) := (L_145_0 25).trans rfl
theorem I_145_26 : ins 145 26 = some (.getfield 7, 0, 0, [(10, 96)], none) := (L_145_0 26).trans rfl
theorem I_145_29 : ins 145 29 = some (.iload_n 1, 0, 0, [], none) := (L_145_0 29).trans rfl
theorem I_145_30 : ins 145 30 = some (.iconst (-1), 0, 0, [], none) := (L_145_0 30).trans rfl
theorem I_145_31 : ins 145 31 = some (.iastore, 0, 0, [], none) := (L_145_0 31).trans rfl
theorem I_145_32 : ins 145 32 = some (.aload_n 0, 0, 0, [], none) := (L_145_0 32).trans rfl
theorem I_145_33 : ins 145 33 = some (.getfield 13, 1, 0, [(10, 97)], none) := (L_145_0 33).trans rfl
theorem I_145_36 : ins 145 36 = some (.iload_n 1, 0, 0, [], none) := (L_145_0 36).trans rfl
theorem I_145_37 : ins 145 37 = some (.iaload, 0, 0, [], none) := (L_145_0 37).trans rfl
theorem I_145_38 : ins 145 38 = some (.ireturn, 0, 0, [], none) := (L_145_0 38).trans rfl
theorem L_146_0 (pc : Nat) : ins 146 pc = fnd iT146 pc := rfl
theorem I_146_0 : ins 146 0 = some (.aload_n 0, 0, 0, [], none) := (L_146_0 0).trans rfl
theorem I_146_1 : ins 146 1 = some (.getfield 7, 0, 0, [(10, 96)], none) := (L_146_0 1).trans rfl
theorem I_146_4 : ins 146 4 = some (.iload_n 1, 0, 0, [], none) := (L_146_0 4).trans rfl
theorem I_146_5 : ins 146 5 = some (.iaload, 0, 0, [], none) := (L_146_0 5).trans rfl
theorem I_146_6 : ins 146 6 = some (.ifCond .ge 9, 15, 0, [], none) := (L_146_0 6).trans rfl
theorem I_146_9 : ins 146 9 = some (.aload_n 0, 0, 0, [], some [0]) := (L_146_0 9).trans rfl
theorem I_146_10 : ins 146 10 = some (.iconst 1, 0, 0, [], none) := (L_146_0 10).trans rfl
theorem I_146_11 : ins 146 11 = some (.invokevirtual 85, 1, 0, [(10, 182)], none) := (L_146_0 11).trans rfl
theorem I_146_14 : ins 146 14 = some (.ireturn, 0, 0, [], none) := (L_146_0 14).trans rfl
theorem I_146_15 : ins 146 15 = some (.aload_n 0, 0, 0, [], some [0, 1, 2, 3]) := (L_146_0 15).trans rfl
theorem I_146_16 : ins 146 16 = some (.getfield 7, 0, 0, [(10, 96)], none) := (L_146_0 16).trans rfl
theorem I_146_19 : ins 146 19 = some (.iload_n 1, 0, 0, [], none) := (L_146_0 19).trans rfl
theorem I_146_20 : ins 146 20 = some (.iaload, 0, 0, [], none) := (L_146_0 20).trans rfl
theorem I_146_21 : ins 146 21 = some (.iload_n 2, 0, 0, [], none) := (L_146_0 21).trans rfl
theorem I_146_22 : ins 146 22 = some (.if_icmp .eq 9, 31, 0, [], none) := (L_146_0 22).trans rfl
theorem I_146_25 : ins 146 25 = some (.aload_n 0, 0, 0, [], some [0]) := (L_146_0 25).trans rfl
theorem I_146_26 : ins 146 26 = some (.iconst 3, 0, 0, [], none) := (L_146_0 26).trans rfl
theorem I_146_27 : ins 146 27 = some (.invokevirtual 85, 1, 0, [(10, 182)], none) := (L_146_0 27).trans rfl
theorem I_146_30 : ins 146 30 = some (.ireturn, 0, 0, [], none) := (L_146_0 30).trans rfl
theorem I_146_31 : ins 146 31 = some (.iload_n 3, 0, 0, [], some [0, 1, 3]) := (L_146_0 31).trans rfl
theorem I_146_32 : ins 146 32 = some (.i2l, 0, 0, [], none) := (L_146_0 32).trans rfl
theorem I_146_33 : ins 146 33 = some (.lconst 0, 0, 0, [], none) := (L_146_0 33).trans rfl
theorem I_146_34 : ins 146 34 = some (.aload_n 0, 0, 0, [], none) := (L_146_0 34).trans rfl
theorem I_146_35 : ins 146 35 = some (.getfield 13, 1, 0, [(10, 97)], none) := (L_146_0 35).trans rfl
theorem I_146_38 : ins 146 38 = some (.iload_n 1, 0, 0, [], none) := (L_146_0 38).trans rfl
theorem I_146_39 : ins 146 39 = some (.iaload, 0, 0, [], none) := (L_146_0 39).trans rfl
theorem I_146_40 : ins 146 40 = some (.iconst 1, 0, 0, [], none) := (L_146_0 40).trans rfl
theorem I_146_41 : ins 146 41 = some (.isub, 0, 0, [], none) := (L_146_0 41).trans rfl
theorem I_146_42 : ins 146 42 = some (.i2l, 0, 0, [], none) := (L_146_0 42).trans rfl
theorem I_146_43 : ins 146 43 = some (.invokestatic 69, 3, 0, [(0, 180)], none) := (L_146_0 43).trans rfl
theorem I_146_46 : ins 146 46 = some (.ifCond .eq 7, 53, 0, [], none) := (L_146_0 46).trans rfl
theorem I_146_49 : ins 146 49 = some (.iconst 0, 0, 0, [], some []) := (L_146_0 49).trans rfl
theorem I_146_50 : ins 146 50 = some (.goto 8, 58, 0, [], none) := (L_146_0 50).trans rfl
theorem I_146_53 : ins 146 53 = some (.aload_n 0, 0, 0, [], some [0]) := (L_146_0 53).trans rfl
theorem I_146_54 : ins 146 54 = some (.iconst 2, 0, 0, [], none) := (L_146_0 54).trans rfl
theorem I_146_55 : ins 146 55 = some (.invokevirtual 85, 1, 0, [(10, 182)], none) := (L_146_0 55).trans rfl
theorem I_146_58 : ins 146 58 = some (.ireturn, 0, 0, [], some []) := (L_146_0 58).trans rfl
theorem L_147_0 (pc : Nat) : ins 147 pc = fnd iT147 pc := rfl
theorem I_147_0 : ins 147 0 = some (.iload_n 0, 0, 0, [], none) := (L_147_0 0).trans rfl
theorem I_147_1 : ins 147 1 = some (.ifCond .ne 8, 9, 0, [], none) := (L_147_0 1).trans rfl
theorem I_147_4 : ins 147 4 = some (.iload_n 1, 0, 0, [], some [1]) := (L_147_0 4).trans rfl
theorem I_147_5 : ins 147 5 = some (.i2b, 0, 0, [], none) := (L_147_0 5).trans rfl
theorem I_147_6 : ins 147 6 = some (.goto 14, 20, 0, [], none) := (L_147_0 6).trans rfl
theorem I_147_9 : ins 147 9 = some (.iload_n 0, 0, 0, [], some [0, 1]) := (L_147_0 9).trans rfl
theorem I_147_10 : ins 147 10 = some (.iconst 1, 0, 0, [], none) := (L_147_0 10).trans rfl
theorem I_147_11 : ins 147 11 = some (.if_icmp .ne 8, 19, 0, [], none) := (L_147_0 11).trans rfl
theorem I_147_14 : ins 147 14 = some (.iload_n 1, 0, 0, [], some [1]) := (L_147_0 14).trans rfl
theorem I_147_15 : ins 147 15 = some (.i2s, 0, 0, [], none) := (L_147_0 15).trans rfl
theorem I_147_16 : ins 147 16 = some (.goto 4, 20, 0, [], none) := (L_147_0 16).trans rfl
theorem I_147_19 : ins 147 19 = some (.iload_n 1, 0, 0, [], some [1]) := (L_147_0 19).trans rfl
theorem I_147_20 : ins 147 20 = some (.ireturn, 0, 0, [], some []) := (L_147_0 20).trans rfl
theorem L_148_0 (pc : Nat) : ins 148 pc = fnd iT148 pc := rfl
theorem I_148_0 : ins 148 0 = some (.iload_n 1, 0, 0, [], none) := (L_148_0 0).trans rfl
theorem I_148_1 : ins 148 1 = some (.invokestatic 79, 1, 0, [(0, 181)], none) := (L_148_0 1).trans rfl
theorem I_148_4 : ins 148 4 = some (.ifCond .eq 15, 19, 0, [], none) := (L_148_0 4).trans rfl
theorem I_148_7 : ins 148 7 = some (.iload_n 2, 0, 0, [], some [0, 1, 2, 3, 4]) := (L_148_0 7).trans rfl
theorem I_148_8 : ins 148 8 = some (.i2l, 0, 0, [], none) := (L_148_0 8).trans rfl
theorem I_148_9 : ins 148 9 = some (.lconst 0, 0, 0, [], none) := (L_148_0 9).trans rfl
theorem I_148_10 : ins 148 10 = some (.ldc2_w 83, 1045, 2, [], none) := (L_148_0 10).trans rfl
theorem I_148_13 : ins 148 13 = some (.invokestatic 69, 3, 0, [(0, 180)], none) := (L_148_0 13).trans rfl
theorem I_148_16 : ins 148 16 = some (.ifCond .ne 6, 22, 0, [], none) := (L_148_0 16).trans rfl
theorem I_148_19 : ins 148 19 = some (.bipush (-2), 0, 0, [], some []) := (L_148_0 19).trans rfl
theorem I_148_21 : ins 148 21 = some (.ireturn, 0, 0, [], none) := (L_148_0 21).trans rfl
theorem I_148_22 : ins 148 22 = some (.aload_n 0, 0, 0, [], some [0, 1, 2, 3, 4]) := (L_148_0 22).trans rfl
theorem I_148_23 : ins 148 23 = some (.iload_n 1, 0, 0, [], none) := (L_148_0 23).trans rfl
theorem I_148_24 : ins 148 24 = some (.iload_n 2, 0, 0, [], none) := (L_148_0 24).trans rfl
theorem I_148_25 : ins 148 25 = some (.iload_n 3, 0, 0, [], none) := (L_148_0 25).trans rfl
theorem I_148_26 : ins 148 26 = some (.invokevirtual 89, 3, 0, [(10, 183)], none) := (L_148_0 26).trans rfl
theorem I_148_29 : ins 148 29 = some (.istore 5, 0, 0, [], none) := (L_148_0 29).trans rfl
theorem I_148_31 : ins 148 31 = some (.iload 5, 0, 0, [], none) := (L_148_0 31).trans rfl
theorem I_148_33 : ins 148 33 = some (.ifCond .eq 6, 39, 0, [], none) := (L_148_0 33).trans rfl
theorem I_148_36 : ins 148 36 = some (.iload 5, 0, 0, [], some [5]) := (L_148_0 36).trans rfl
theorem I_148_38 : ins 148 38 = some (.ireturn, 0, 0, [], none) := (L_148_0 38).trans rfl
theorem I_148_39 : ins 148 39 = some (.aload_n 0, 0, 0, [], some [0, 1, 2, 3, 4]) := (L_148_0 39).trans rfl
theorem I_148_40 : ins 148 40 = some (.getfield 16, 2, 0, [(10, 98)], none) := (L_148_0 40).trans rfl
theorem I_148_43 : ins 148 43 = some (.bipush 60, 0, 0, [], none) := (L_148_0 43).trans rfl
theorem I_148_45 : ins 148 45 = some (.iload_n 1, 0, 0, [], none) := (L_148_0 45).trans rfl
theorem I_148_46 : ins 148 46 = some (.imul, 0, 0, [], none) := (L_148_0 46).trans rfl
theorem I_148_47 : ins 148 47 = some (.iload_n 3, 0, 0, [], none) := (L_148_0 47).trans rfl
theorem I_148_48 : ins 148 48 = some (.iadd, 0, 0, [], none) := (L_148_0 48).trans rfl
theorem I_148_49 : ins 148 49 = some (.iload_n 2, 0, 0, [], none) := (L_148_0 49).trans rfl
theorem I_148_50 : ins 148 50 = some (.iload 4, 0, 0, [], none) := (L_148_0 50).trans rfl
theorem I_148_52 : ins 148 52 = some (.invokestatic 93, 2, 0, [(0, 184)], none) := (L_148_0 52).trans rfl
theorem I_148_55 : ins 148 55 = some (.iastore, 0, 0, [], none) := (L_148_0 55).trans rfl
theorem I_148_56 : ins 148 56 = some (.iconst 1, 0, 0, [], none) := (L_148_0 56).trans rfl
theorem I_148_57 : ins 148 57 = some (.ireturn, 0, 0, [], none) := (L_148_0 57).trans rfl
theorem L_149_0 (pc : Nat) : ins 149 pc = fnd iT149 pc := rfl
theorem I_149_0 : ins 149 0 = some (.iload_n 1, 0, 0, [], none) := (L_149_0 0).trans rfl
theorem I_149_1 : ins 149 1 = some (.invokestatic 79, 1, 0, [(0, 181)], none) := (L_149_0 1).trans rfl
theorem I_149_4 : ins 149 4 = some (.ifCond .eq 25, 29, 0, [], none) := (L_149_0 4).trans rfl
theorem I_149_7 : ins 149 7 = some (.iload_n 2, 0, 0, [], some [0, 1, 2, 3]) := (L_149_0 7).trans rfl
theorem I_149_8 : ins 149 8 = some (.i2l, 0, 0, [], none) := (L_149_0 8).trans rfl
theorem I_149_9 : ins 149 9 = some (.lconst 0, 0, 0, [], none) := (L_149_0 9).trans rfl
theorem I_149_10 : ins 149 10 = some (.ldc2_w 83, 1045, 2, [], none) := (L_149_0 10).trans rfl
theorem I_149_13 : ins 149 13 = some (.invokestatic 69, 3, 0, [(0, 180)], none) := (L_149_0 13).trans rfl
theorem I_149_16 : ins 149 16 = some (.ifCond .eq 13, 29, 0, [], none) := (L_149_0 16).trans rfl
theorem I_149_19 : ins 149 19 = some (.aload_n 0, 0, 0, [], some [0, 1, 2, 3]) := (L_149_0 19).trans rfl
theorem I_149_20 : ins 149 20 = some (.iload_n 1, 0, 0, [], none) := (L_149_0 20).trans rfl
theorem I_149_21 : ins 149 21 = some (.iload_n 2, 0, 0, [], none) := (L_149_0 21).trans rfl
theorem I_149_22 : ins 149 22 = some (.iload_n 3, 0, 0, [], none) := (L_149_0 22).trans rfl
theorem I_149_23 : ins 149 23 = some (.invokevirtual 89, 3, 0, [(10, 183)], none) := (L_149_0 23).trans rfl
theorem I_149_26 : ins 149 26 = some (.ifCond .eq 6, 32, 0, [], none) := (L_149_0 26).trans rfl
theorem I_149_29 : ins 149 29 = some (.ldc 97, 1069, (-2147483648), [], some []) := (L_149_0 29).trans rfl
theorem I_149_31 : ins 149 31 = some (.ireturn, 0, 0, [], none) := (L_149_0 31).trans rfl
theorem I_149_32 : ins 149 32 = some (.aload_n 0, 0, 0, [], some [0, 1, 3]) := (L_149_0 32).trans rfl
theorem I_149_33 : ins 149 33 = some (.getfield 16, 2, 0, [(10, 98)], none) := (L_149_0 33).trans rfl
theorem I_149_36 : ins 149 36 = some (.bipush 60, 0, 0, [], none) := (L_149_0 36).trans rfl
theorem I_149_38 : ins 149 38 = some (.iload_n 1, 0, 0, [], none) := (L_149_0 38).trans rfl
theorem I_149_39 : ins 149 39 = some (.imul, 0, 0, [], none) := (L_149_0 39).trans rfl
theorem I_149_40 : ins 149 40 = some (.iload_n 3, 0, 0, [], none) := (L_149_0 40).trans rfl
theorem I_149_41 : ins 149 41 = some (.iadd, 0, 0, [], none) := (L_149_0 41).trans rfl
theorem I_149_42 : ins 149 42 = some (.iaload, 0, 0, [], none) := (L_149_0 42).trans rfl
theorem I_149_43 : ins 149 43 = some (.ireturn, 0, 0, [], none) := (L_149_0 43).trans rfl
theorem L_150_0 (pc : Nat) : ins 150 pc = fnd (iT150_0 ++ (iT150_1 ++ (iT150_2))) pc := rfl
theorem L_150_1 (pc : Nat) (h : Nat.ble 73 pc = true) : ins 150 pc = fnd (iT150_1 ++ (iT150_2)) pc := (L_150_0 pc).trans (fnd_app (lo := 73) rfl (Nat.le_of_ble_eq_true h))
theorem L_150_2 (pc : Nat) (h : Nat.ble 139 pc = true) : ins 150 pc = fnd (iT150_2) pc := (L_150_1 pc (Nat.ble_eq.mpr (Nat.le_trans (Nat.le_of_ble_eq_true (rfl : Nat.ble 73 139 = true)) (Nat.le_of_ble_eq_true h)))).trans (fnd_app (lo := 139) rfl (Nat.le_of_ble_eq_true h))
theorem I_150_0 : ins 150 0 = some (.iload_n 1, 0, 0, [], none) := (L_150_0 0).trans rfl
theorem I_150_1 : ins 150 1 = some (.invokestatic 79, 1, 0, [(0, 181)], none) := (L_150_0 1).trans rfl
theorem I_150_4 : ins 150 4 = some (.ifCond .eq 10, 14, 0, [], none) := (L_150_0 4).trans rfl
theorem I_150_7 : ins 150 7 = some (.iload_n 3, 0, 0, [], some [0, 1, 2, 3, 4, 5]) := (L_150_0 7).trans rfl
theorem I_150_8 : ins 150 8 = some (.invokestatic 79, 1, 0, [(0, 181)], none) := (L_150_0 8).trans rfl
theorem I_150_11 : ins 150 11 = some (.ifCond .ne 6, 17, 0, [], none) := (L_150_0 11).trans rfl
theorem I_150_14 : ins 150 14 = some (.bipush (-2), 0, 0, [], some []) := (L_150_0 14).trans rfl
theorem I_150_16 : ins 150 16 = some (.ireturn, 0, 0, [], none) := (L_150_0 16).trans rfl
theorem I_150_17 : ins 150 17 = some (.aload_n 0, 0, 0, [], some [0, 1, 2, 3, 4, 5]) := (L_150_0 17).trans rfl
theorem I_150_18 : ins 150 18 = some (.getfield 7, 0, 0, [(10, 96)], none) := (L_150_0 18).trans rfl
theorem I_150_21 : ins 150 21 = some (.iload_n 1, 0, 0, [], none) := (L_150_0 21).trans rfl
theorem I_150_22 : ins 150 22 = some (.iaload, 0, 0, [], none) := (L_150_0 22).trans rfl
theorem I_150_23 : ins 150 23 = some (.ifCond .lt 12, 35, 0, [], none) := (L_150_0 23).trans rfl
theorem I_150_26 : ins 150 26 = some (.aload_n 0, 0, 0, [], some [0, 1, 2, 3, 4, 5]) := (L_150_0 26).trans rfl
theorem I_150_27 : ins 150 27 = some (.getfield 7, 0, 0, [(10, 96)], none) := (L_150_0 27).trans rfl
theorem I_150_30 : ins 150 30 = some (.iload_n 3, 0, 0, [], none) := (L_150_0 30).trans rfl
theorem I_150_31 : ins 150 31 = some (.iaload, 0, 0, [], none) := (L_150_0 31).trans rfl
theorem I_150_32 : ins 150 32 = some (.ifCond .ge 9, 41, 0, [], none) := (L_150_0 32).trans rfl
theorem I_150_35 : ins 150 35 = some (.aload_n 0, 0, 0, [], some [0]) := (L_150_0 35).trans rfl
theorem I_150_36 : ins 150 36 = some (.iconst 1, 0, 0, [], none) := (L_150_0 36).trans rfl
theorem I_150_37 : ins 150 37 = some (.invokevirtual 85, 1, 0, [(10, 182)], none) := (L_150_0 37).trans rfl
theorem I_150_40 : ins 150 40 = some (.ireturn, 0, 0, [], none) := (L_150_0 40).trans rfl
theorem I_150_41 : ins 150 41 = some (.aload_n 0, 0, 0, [], some [0, 1, 2, 3, 4, 5]) := (L_150_0 41).trans rfl
theorem I_150_42 : ins 150 42 = some (.getfield 7, 0, 0, [(10, 96)], none) := (L_150_0 42).trans rfl
theorem I_150_45 : ins 150 45 = some (.iload_n 1, 0, 0, [], none) := (L_150_0 45).trans rfl
theorem I_150_46 : ins 150 46 = some (.iaload, 0, 0, [], none) := (L_150_0 46).trans rfl
theorem I_150_47 : ins 150 47 = some (.aload_n 0, 0, 0, [], none) := (L_150_0 47).trans rfl
theorem I_150_48 : ins 150 48 = some (.getfield 7, 0, 0, [(10, 96)], none) := (L_150_0 48).trans rfl
theorem I_150_51 : ins 150 51 = some (.iload_n 3, 0, 0, [], none) := (L_150_0 51).trans rfl
theorem I_150_52 : ins 150 52 = some (.iaload, 0, 0, [], none) := (L_150_0 52).trans rfl
theorem I_150_53 : ins 150 53 = some (.if_icmp .eq 9, 62, 0, [], none) := (L_150_0 53).trans rfl
theorem I_150_56 : ins 150 56 = some (.aload_n 0, 0, 0, [], some [0]) := (L_150_0 56).trans rfl
theorem I_150_57 : ins 150 57 = some (.iconst 4, 0, 0, [], none) := (L_150_0 57).trans rfl
theorem I_150_58 : ins 150 58 = some (.invokevirtual 85, 1, 0, [(10, 182)], none) := (L_150_0 58).trans rfl
theorem I_150_61 : ins 150 61 = some (.ireturn, 0, 0, [], none) := (L_150_0 61).trans rfl
theorem I_150_62 : ins 150 62 = some (.iload_n 2, 0, 0, [], some [0, 1, 2, 3, 4, 5]) := (L_150_0 62).trans rfl
theorem I_150_63 : ins 150 63 = some (.ifCond .lt 48, 111, 0, [], none) := (L_150_0 63).trans rfl
theorem I_150_66 : ins 150 66 = some (.iload 4, 0, 0, [], some [0, 1, 2, 3, 4, 5]) := (L_150_0 66).trans rfl
theorem I_150_68 : ins 150 68 = some (.ifCond .lt 43, 111, 0, [], none) := (L_150_0 68).trans rfl
theorem I_150_71 : ins 150 71 = some (.iload 5, 0, 0, [], some [0, 1, 2, 3, 4, 5]) := (L_150_0 71).trans rfl
theorem I_150_73 : ins 150 73 = some (.ifCond .lt 38, 111, 0, [], none) := (L_150_1 73 rfl).trans rfl
theorem I_150_76 : ins 150 76 = some (.iload_n 2, 0, 0, [], some [0, 1, 2, 3, 4, 5]) := (L_150_1 76 rfl).trans rfl
theorem I_150_77 : ins 150 77 = some (.i2l, 0, 0, [], none) := (L_150_1 77 rfl).trans rfl
theorem I_150_78 : ins 150 78 = some (.iload 5, 0, 0, [], none) := (L_150_1 78 rfl).trans rfl
theorem I_150_80 : ins 150 80 = some (.i2l, 0, 0, [], none) := (L_150_1 80 rfl).trans rfl
theorem I_150_81 : ins 150 81 = some (.ladd, 0, 0, [], none) := (L_150_1 81 rfl).trans rfl
theorem I_150_82 : ins 150 82 = some (.aload_n 0, 0, 0, [], none) := (L_150_1 82 rfl).trans rfl
theorem I_150_83 : ins 150 83 = some (.getfield 13, 1, 0, [(10, 97)], none) := (L_150_1 83 rfl).trans rfl
theorem I_150_86 : ins 150 86 = some (.iload_n 1, 0, 0, [], none) := (L_150_1 86 rfl).trans rfl
theorem I_150_87 : ins 150 87 = some (.iaload, 0, 0, [], none) := (L_150_1 87 rfl).trans rfl
theorem I_150_88 : ins 150 88 = some (.i2l, 0, 0, [], none) := (L_150_1 88 rfl).trans rfl
theorem I_150_89 : ins 150 89 = some (.lcmp, 0, 0, [], none) := (L_150_1 89 rfl).trans rfl
theorem I_150_90 : ins 150 90 = some (.ifCond .gt 21, 111, 0, [], none) := (L_150_1 90 rfl).trans rfl
theorem I_150_93 : ins 150 93 = some (.iload 4, 0, 0, [], some [0, 1, 2, 3, 4, 5]) := (L_150_1 93 rfl).trans rfl
theorem I_150_95 : ins 150 95 = some (.i2l, 0, 0, [], none) := (L_150_1 95 rfl).trans rfl
theorem I_150_96 : ins 150 96 = some (.iload 5, 0, 0, [], none) := (L_150_1 96 rfl).trans rfl
theorem I_150_98 : ins 150 98 = some (.i2l, 0, 0, [], none) := (L_150_1 98 rfl).trans rfl
theorem I_150_99 : ins 150 99 = some (.ladd, 0, 0, [], none) := (L_150_1 99 rfl).trans rfl
theorem I_150_100 : ins 150 100 = some (.aload_n 0, 0, 0, [], none) := (L_150_1 100 rfl).trans rfl
theorem I_150_101 : ins 150 101 = some (.getfield 13, 1, 0, [(10, 97)], none) := (L_150_1 101 rfl).trans rfl
theorem I_150_104 : ins 150 104 = some (.iload_n 3, 0, 0, [], none) := (L_150_1 104 rfl).trans rfl
theorem I_150_105 : ins 150 105 = some (.iaload, 0, 0, [], none) := (L_150_1 105 rfl).trans rfl
theorem I_150_106 : ins 150 106 = some (.i2l, 0, 0, [], none) := (L_150_1 106 rfl).trans rfl
theorem I_150_107 : ins 150 107 = some (.lcmp, 0, 0, [], none) := (L_150_1 107 rfl).trans rfl
theorem I_150_108 : ins 150 108 = some (.ifCond .le 9, 117, 0, [], none) := (L_150_1 108 rfl).trans rfl
theorem I_150_111 : ins 150 111 = some (.aload_n 0, 0, 0, [], some [0]) := (L_150_1 111 rfl).trans rfl
theorem I_150_112 : ins 150 112 = some (.iconst 2, 0, 0, [], none) := (L_150_1 112 rfl).trans rfl
theorem I_150_113 : ins 150 113 = some (.invokevirtual 85, 1, 0, [(10, 182)], none) := (L_150_1 113 rfl).trans rfl
theorem I_150_116 : ins 150 116 = some (.ireturn, 0, 0, [], none) := (L_150_1 116 rfl).trans rfl
theorem I_150_117 : ins 150 117 = some (.iconst 0, 0, 0, [], some [0, 1, 2, 3, 4, 5]) := (L_150_1 117 rfl).trans rfl
theorem I_150_118 : ins 150 118 = some (.istore 6, 0, 0, [], none) := (L_150_1 118 rfl).trans rfl
theorem I_150_120 : ins 150 120 = some (.iload 6, 0, 0, [], some [0, 1, 2, 3, 4, 5, 6]) := (L_150_1 120 rfl).trans rfl
theorem I_150_122 : ins 150 122 = some (.iload 5, 0, 0, [], none) := (L_150_1 122 rfl).trans rfl
theorem I_150_124 : ins 150 124 = some (.if_icmp .ge 30, 154, 0, [], none) := (L_150_1 124 rfl).trans rfl
theorem I_150_127 : ins 150 127 = some (.aload_n 0, 0, 0, [], some [0, 1, 2, 3, 4, 5, 6]) := (L_150_1 127 rfl).trans rfl
theorem I_150_128 : ins 150 128 = some (.getfield 19, 3, 0, [(10, 99)], none) := (L_150_1 128 rfl).trans rfl
theorem I_150_131 : ins 150 131 = some (.iload 6, 0, 0, [], none) := (L_150_1 131 rfl).trans rfl
theorem I_150_133 : ins 150 133 = some (.aload_n 0, 0, 0, [], none) := (L_150_1 133 rfl).trans rfl
theorem I_150_134 : ins 150 134 = some (.getfield 16, 2, 0, [(10, 98)], none) := (L_150_1 134 rfl).trans rfl
theorem I_150_137 : ins 150 137 = some (.bipush 60, 0, 0, [], none) := (L_150_1 137 rfl).trans rfl
theorem I_150_139 : ins 150 139 = some (.iload_n 1, 0, 0, [], none) := (L_150_2 139 rfl).trans rfl
theorem I_150_140 : ins 150 140 = some (.imul, 0, 0, [], none) := (L_150_2 140 rfl).trans rfl
theorem I_150_141 : ins 150 141 = some (.iload_n 2, 0, 0, [], none) := (L_150_2 141 rfl).trans rfl
theorem I_150_142 : ins 150 142 = some (.iadd, 0, 0, [], none) := (L_150_2 142 rfl).trans rfl
theorem I_150_143 : ins 150 143 = some (.iload 6, 0, 0, [], none) := (L_150_2 143 rfl).trans rfl
theorem I_150_145 : ins 150 145 = some (.iadd, 0, 0, [], none) := (L_150_2 145 rfl).trans rfl
theorem I_150_146 : ins 150 146 = some (.iaload, 0, 0, [], none) := (L_150_2 146 rfl).trans rfl
theorem I_150_147 : ins 150 147 = some (.iastore, 0, 0, [], none) := (L_150_2 147 rfl).trans rfl
theorem I_150_148 : ins 150 148 = some (.iinc 6 1, 0, 0, [], none) := (L_150_2 148 rfl).trans rfl
theorem I_150_151 : ins 150 151 = some (.goto (-31), 120, 0, [], none) := (L_150_2 151 rfl).trans rfl
theorem I_150_154 : ins 150 154 = some (.iconst 0, 0, 0, [], some [0, 3, 4, 5]) := (L_150_2 154 rfl).trans rfl
theorem I_150_155 : ins 150 155 = some (.istore 6, 0, 0, [], none) := (L_150_2 155 rfl).trans rfl
theorem I_150_157 : ins 150 157 = some (.iload 6, 0, 0, [], some [0, 3, 4, 5, 6]) := (L_150_2 157 rfl).trans rfl
theorem I_150_159 : ins 150 159 = some (.iload 5, 0, 0, [], none) := (L_150_2 159 rfl).trans rfl
theorem I_150_161 : ins 150 161 = some (.if_icmp .ge 31, 192, 0, [], none) := (L_150_2 161 rfl).trans rfl
theorem I_150_164 : ins 150 164 = some (.aload_n 0, 0, 0, [], some [0, 3, 4, 5, 6]) := (L_150_2 164 rfl).trans rfl
theorem I_150_165 : ins 150 165 = some (.getfield 16, 2, 0, [(10, 98)], none) := (L_150_2 165 rfl).trans rfl
theorem I_150_168 : ins 150 168 = some (.bipush 60, 0, 0, [], none) := (L_150_2 168 rfl).trans rfl
theorem I_150_170 : ins 150 170 = some (.iload_n 3, 0, 0, [], none) := (L_150_2 170 rfl).trans rfl
theorem I_150_171 : ins 150 171 = some (.imul, 0, 0, [], none) := (L_150_2 171 rfl).trans rfl
theorem I_150_172 : ins 150 172 = some (.iload 4, 0, 0, [], none) := (L_150_2 172 rfl).trans rfl
theorem I_150_174 : ins 150 174 = some (.iadd, 0, 0, [], none) := (L_150_2 174 rfl).trans rfl
theorem I_150_175 : ins 150 175 = some (.iload 6, 0, 0, [], none) := (L_150_2 175 rfl).trans rfl
theorem I_150_177 : ins 150 177 = some (.iadd, 0, 0, [], none) := (L_150_2 177 rfl).trans rfl
theorem I_150_178 : ins 150 178 = some (.aload_n 0, 0, 0, [], none) := (L_150_2 178 rfl).trans rfl
theorem I_150_179 : ins 150 179 = some (.getfield 19, 3, 0, [(10, 99)], none) := (L_150_2 179 rfl).trans rfl
theorem I_150_182 : ins 150 182 = some (.iload 6, 0, 0, [], none) := (L_150_2 182 rfl).trans rfl
theorem I_150_184 : ins 150 184 = some (.iaload, 0, 0, [], none) := (L_150_2 184 rfl).trans rfl
theorem I_150_185 : ins 150 185 = some (.iastore, 0, 0, [], none) := (L_150_2 185 rfl).trans rfl
theorem I_150_186 : ins 150 186 = some (.iinc 6 1, 0, 0, [], none) := (L_150_2 186 rfl).trans rfl
theorem I_150_189 : ins 150 189 = some (.goto (-32), 157, 0, [], none) := (L_150_2 189 rfl).trans rfl
theorem I_150_192 : ins 150 192 = some (.iconst 1, 0, 0, [], some []) := (L_150_2 192 rfl).trans rfl
theorem I_150_193 : ins 150 193 = some (.ireturn, 0, 0, [], none) := (L_150_2 193 rfl).trans rfl
theorem L_151_0 (pc : Nat) : ins 151 pc = fnd iT151 pc := rfl
theorem I_151_0 : ins 151 0 = some (.iload_n 0, 0, 0, [], none) := (L_151_0 0).trans rfl
theorem I_151_1 : ins 151 1 = some (.i2l, 0, 0, [], none) := (L_151_0 1).trans rfl
theorem I_151_2 : ins 151 2 = some (.lconst 0, 0, 0, [], none) := (L_151_0 2).trans rfl
theorem I_151_3 : ins 151 3 = some (.ldc2_w 83, 1045, 2, [], none) := (L_151_0 3).trans rfl
theorem I_151_6 : ins 151 6 = some (.invokestatic 69, 3, 0, [(0, 180)], none) := (L_151_0 6).trans rfl
theorem I_151_9 : ins 151 9 = some (.ireturn, 0, 0, [], none) := (L_151_0 9).trans rfl
theorem L_152_0 (pc : Nat) : ins 152 pc = fnd iT152 pc := rfl
theorem I_152_0 : ins 152 0 = some (.iload_n 1, 0, 0, [], none) := (L_152_0 0).trans rfl
theorem I_152_1 : ins 152 1 = some (.invokestatic 98, 1, 0, [(0, 185)], none) := (L_152_0 1).trans rfl
theorem I_152_4 : ins 152 4 = some (.ifCond .eq 15, 19, 0, [], none) := (L_152_0 4).trans rfl
theorem I_152_7 : ins 152 7 = some (.iload_n 2, 0, 0, [], some [0, 1, 2]) := (L_152_0 7).trans rfl
theorem I_152_8 : ins 152 8 = some (.i2l, 0, 0, [], none) := (L_152_0 8).trans rfl
theorem I_152_9 : ins 152 9 = some (.lconst 0, 0, 0, [], none) := (L_152_0 9).trans rfl
theorem I_152_10 : ins 152 10 = some (.ldc2_w 101, 1081, 255, [], none) := (L_152_0 10).trans rfl
theorem I_152_13 : ins 152 13 = some (.invokestatic 69, 3, 0, [(0, 180)], none) := (L_152_0 13).trans rfl
theorem I_152_16 : ins 152 16 = some (.ifCond .ne 6, 22, 0, [], none) := (L_152_0 16).trans rfl
theorem I_152_19 : ins 152 19 = some (.bipush (-2), 0, 0, [], some []) := (L_152_0 19).trans rfl
theorem I_152_21 : ins 152 21 = some (.ireturn, 0, 0, [], none) := (L_152_0 21).trans rfl
theorem I_152_22 : ins 152 22 = some (.aload_n 0, 0, 0, [], some [0, 1, 2]) := (L_152_0 22).trans rfl
theorem I_152_23 : ins 152 23 = some (.getfield 25, 6, 0, [(10, 101)], none) := (L_152_0 23).trans rfl
theorem I_152_26 : ins 152 26 = some (.iload_n 1, 0, 0, [], none) := (L_152_0 26).trans rfl
theorem I_152_27 : ins 152 27 = some (.iaload, 0, 0, [], none) := (L_152_0 27).trans rfl
theorem I_152_28 : ins 152 28 = some (.iload_n 1, 0, 0, [], none) := (L_152_0 28).trans rfl
theorem I_152_29 : ins 152 29 = some (.ifCond .ne 8, 37, 0, [], none) := (L_152_0 29).trans rfl
theorem I_152_32 : ins 152 32 = some (.bipush 39, 0, 0, [], some [0, 1, 2]) := (L_152_0 32).trans rfl
theorem I_152_34 : ins 152 34 = some (.goto 15, 49, 0, [], none) := (L_152_0 34).trans rfl
theorem I_152_37 : ins 152 37 = some (.iload_n 1, 0, 0, [], some [0, 1, 2]) := (L_152_0 37).trans rfl
theorem I_152_38 : ins 152 38 = some (.iconst 1, 0, 0, [], none) := (L_152_0 38).trans rfl
theorem I_152_39 : ins 152 39 = some (.if_icmp .ne 8, 47, 0, [], none) := (L_152_0 39).trans rfl
theorem I_152_42 : ins 152 42 = some (.bipush 47, 0, 0, [], some [0, 1, 2]) := (L_152_0 42).trans rfl
theorem I_152_44 : ins 152 44 = some (.goto 5, 49, 0, [], none) := (L_152_0 44).trans rfl
theorem I_152_47 : ins 152 47 = some (.bipush 24, 0, 0, [], some [0, 1, 2]) := (L_152_0 47).trans rfl
theorem I_152_49 : ins 152 49 = some (.if_icmp .ne 6, 55, 0, [], some [0, 1, 2]) := (L_152_0 49).trans rfl
theorem I_152_52 : ins 152 52 = some (.bipush (-4), 0, 0, [], some []) := (L_152_0 52).trans rfl
theorem I_152_54 : ins 152 54 = some (.ireturn, 0, 0, [], none) := (L_152_0 54).trans rfl
theorem I_152_55 : ins 152 55 = some (.aload_n 0, 0, 0, [], some [0, 1, 2]) := (L_152_0 55).trans rfl
theorem I_152_56 : ins 152 56 = some (.getfield 22, 5, 0, [(10, 100)], none) := (L_152_0 56).trans rfl
theorem I_152_59 : ins 152 59 = some (.bipush 48, 0, 0, [], none) := (L_152_0 59).trans rfl
theorem I_152_61 : ins 152 61 = some (.iload_n 1, 0, 0, [], none) := (L_152_0 61).trans rfl
theorem I_152_62 : ins 152 62 = some (.imul, 0, 0, [], none) := (L_152_0 62).trans rfl
theorem I_152_63 : ins 152 63 = some (.aload_n 0, 0, 0, [], none) := (L_152_0 63).trans rfl
theorem I_152_64 : ins 152 64 = some (.getfield 25, 6, 0, [(10, 101)], none) := (L_152_0 64).trans rfl
theorem I_152_67 : ins 152 67 = some (.iload_n 1, 0, 0, [], none) := (L_152_0 67).trans rfl
theorem I_152_68 : ins 152 68 = some (.iaload, 0, 0, [], none) := (L_152_0 68).trans rfl
theorem I_152_69 : ins 152 69 = some (.iadd, 0, 0, [], none) := (L_152_0 69).trans rfl
theorem I_152_70 : ins 152 70 = some (.iload_n 2, 0, 0, [], none) := (L_152_0 70).trans rfl
theorem I_152_71 : ins 152 71 = some (.iastore, 0, 0, [], none) := (L_152_0 71).trans rfl
theorem I_152_72 : ins 152 72 = some (.aload_n 0, 0, 0, [], none) := (L_152_0 72).trans rfl
theorem I_152_73 : ins 152 73 = some (.getfield 25, 6, 0, [(10, 101)], none) := (L_152_0 73).trans rfl
theorem I_152_76 : ins 152 76 = some (.iload_n 1, 0, 0, [], none) := (L_152_0 76).trans rfl
theorem I_152_77 : ins 152 77 = some (.dup2, 0, 0, [], none) := (L_152_0 77).trans rfl
theorem I_152_78 : ins 152 78 = some (.iaload, 0, 0, [], none) := (L_152_0 78).trans rfl
theorem I_152_79 : ins 152 79 = some (.iconst 1, 0, 0, [], none) := (L_152_0 79).trans rfl
theorem I_152_80 : ins 152 80 = some (.iadd, 0, 0, [], none) := (L_152_0 80).trans rfl
theorem I_152_81 : ins 152 81 = some (.iastore, 0, 0, [], none) := (L_152_0 81).trans rfl
theorem I_152_82 : ins 152 82 = some (.aload_n 0, 0, 0, [], none) := (L_152_0 82).trans rfl
theorem I_152_83 : ins 152 83 = some (.getfield 25, 6, 0, [(10, 101)], none) := (L_152_0 83).trans rfl
theorem I_152_86 : ins 152 86 = some (.iload_n 1, 0, 0, [], none) := (L_152_0 86).trans rfl
theorem I_152_87 : ins 152 87 = some (.iaload, 0, 0, [], none) := (L_152_0 87).trans rfl
theorem I_152_88 : ins 152 88 = some (.ireturn, 0, 0, [], none) := (L_152_0 88).trans rfl
theorem L_153_0 (pc : Nat) : ins 153 pc = fnd iT153 pc := rfl
theorem I_153_0 : ins 153 0 = some (.iload_n 1, 0, 0, [], none) := (L_153_0 0).trans rfl
theorem I_153_1 : ins 153 1 = some (.invokestatic 98, 1, 0, [(0, 185)], none) := (L_153_0 1).trans rfl
theorem I_153_4 : ins 153 4 = some (.ifCond .ne 6, 10, 0, [], none) := (L_153_0 4).trans rfl
theorem I_153_7 : ins 153 7 = some (.bipush (-2), 0, 0, [], some []) := (L_153_0 7).trans rfl
theorem I_153_9 : ins 153 9 = some (.ireturn, 0, 0, [], none) := (L_153_0 9).trans rfl
theorem I_153_10 : ins 153 10 = some (.aload_n 0, 0, 0, [], some [0, 1]) := (L_153_0 10).trans rfl
theorem I_153_11 : ins 153 11 = some (.getfield 25, 6, 0, [(10, 101)], none) := (L_153_0 11).trans rfl
theorem I_153_14 : ins 153 14 = some (.iload_n 1, 0, 0, [], none) := (L_153_0 14).trans rfl
theorem I_153_15 : ins 153 15 = some (.iaload, 0, 0, [], none) := (L_153_0 15).trans rfl
theorem I_153_16 : ins 153 16 = some (.istore_n 2, 0, 0, [], none) := (L_153_0 16).trans rfl
theorem I_153_17 : ins 153 17 = some (.aload_n 0, 0, 0, [], none) := (L_153_0 17).trans rfl
theorem I_153_18 : ins 153 18 = some (.getfield 25, 6, 0, [(10, 101)], none) := (L_153_0 18).trans rfl
theorem I_153_21 : ins 153 21 = some (.iload_n 1, 0, 0, [], none) := (L_153_0 21).trans rfl
theorem I_153_22 : ins 153 22 = some (.iconst 0, 0, 0, [], none) := (L_153_0 22).trans rfl
theorem I_153_23 : ins 153 23 = some (.iastore, 0, 0, [], none) := (L_153_0 23).trans rfl
theorem I_153_24 : ins 153 24 = some (.iload_n 2, 0, 0, [], none) := (L_153_0 24).trans rfl
theorem I_153_25 : ins 153 25 = some (.ireturn, 0, 0, [], none) := (L_153_0 25).trans rfl
theorem L_154_0 (pc : Nat) : ins 154 pc = fnd iT154 pc := rfl
theorem I_154_0 : ins 154 0 = some (.iload_n 1, 0, 0, [], none) := (L_154_0 0).trans rfl
theorem I_154_1 : ins 154 1 = some (.invokestatic 98, 1, 0, [(0, 185)], none) := (L_154_0 1).trans rfl
theorem I_154_4 : ins 154 4 = some (.ifCond .ne 6, 10, 0, [], none) := (L_154_0 4).trans rfl
theorem I_154_7 : ins 154 7 = some (.bipush (-2), 0, 0, [], some []) := (L_154_0 7).trans rfl
theorem I_154_9 : ins 154 9 = some (.ireturn, 0, 0, [], none) := (L_154_0 9).trans rfl
theorem I_154_10 : ins 154 10 = some (.aload_n 0, 0, 0, [], some [0, 1]) := (L_154_0 10).trans rfl
theorem I_154_11 : ins 154 11 = some (.getfield 25, 6, 0, [(10, 101)], none) := (L_154_0 11).trans rfl
theorem I_154_14 : ins 154 14 = some (.iload_n 1, 0, 0, [], none) := (L_154_0 14).trans rfl
theorem I_154_15 : ins 154 15 = some (.iaload, 0, 0, [], none) := (L_154_0 15).trans rfl
theorem I_154_16 : ins 154 16 = some (.ifCond .ne 6, 22, 0, [], none) := (L_154_0 16).trans rfl
theorem I_154_19 : ins 154 19 = some (.bipush (-3), 0, 0, [], some []) := (L_154_0 19).trans rfl
theorem I_154_21 : ins 154 21 = some (.ireturn, 0, 0, [], none) := (L_154_0 21).trans rfl
theorem I_154_22 : ins 154 22 = some (.aload_n 0, 0, 0, [], some [0, 1]) := (L_154_0 22).trans rfl
theorem I_154_23 : ins 154 23 = some (.getfield 25, 6, 0, [(10, 101)], none) := (L_154_0 23).trans rfl
theorem I_154_26 : ins 154 26 = some (.iload_n 1, 0, 0, [], none) := (L_154_0 26).trans rfl
theorem I_154_27 : ins 154 27 = some (.dup2, 0, 0, [], none) := (L_154_0 27).trans rfl
theorem I_154_28 : ins 154 28 = some (.iaload, 0, 0, [], none) := (L_154_0 28).trans rfl
theorem I_154_29 : ins 154 29 = some (.iconst 1, 0, 0, [], none) := (L_154_0 29).trans rfl
theorem I_154_30 : ins 154 30 = some (.isub, 0, 0, [], none) := (L_154_0 30).trans rfl
theorem I_154_31 : ins 154 31 = some (.iastore, 0, 0, [], none) := (L_154_0 31).trans rfl
theorem I_154_32 : ins 154 32 = some (.aload_n 0, 0, 0, [], none) := (L_154_0 32).trans rfl
theorem I_154_33 : ins 154 33 = some (.getfield 25, 6, 0, [(10, 101)], none) := (L_154_0 33).trans rfl
theorem I_154_36 : ins 154 36 = some (.iload_n 1, 0, 0, [], none) := (L_154_0 36).trans rfl
theorem I_154_37 : ins 154 37 = some (.iaload, 0, 0, [], none) := (L_154_0 37).trans rfl
theorem I_154_38 : ins 154 38 = some (.ireturn, 0, 0, [], none) := (L_154_0 38).trans rfl
theorem L_155_0 (pc : Nat) : ins 155 pc = fnd iT155 pc := rfl
theorem I_155_0 : ins 155 0 = some (.iload_n 0, 0, 0, [], none) := (L_155_0 0).trans rfl
theorem I_155_1 : ins 155 1 = some (.i2l, 0, 0, [], none) := (L_155_0 1).trans rfl
theorem I_155_2 : ins 155 2 = some (.bipush 48, 0, 0, [], none) := (L_155_0 2).trans rfl
theorem I_155_4 : ins 155 4 = some (.iload_n 1, 0, 0, [], none) := (L_155_0 4).trans rfl
theorem I_155_5 : ins 155 5 = some (.iadd, 0, 0, [], none) := (L_155_0 5).trans rfl
theorem I_155_6 : ins 155 6 = some (.i2l, 0, 0, [], none) := (L_155_0 6).trans rfl
theorem I_155_7 : ins 155 7 = some (.ldc2_w 103, 1116, 57, [], none) := (L_155_0 7).trans rfl
theorem I_155_10 : ins 155 10 = some (.invokestatic 69, 3, 0, [(0, 180)], none) := (L_155_0 10).trans rfl
theorem I_155_13 : ins 155 13 = some (.ifCond .eq 10, 23, 0, [], none) := (L_155_0 13).trans rfl
theorem I_155_16 : ins 155 16 = some (.iload_n 0, 0, 0, [], some [0]) := (L_155_0 16).trans rfl
theorem I_155_17 : ins 155 17 = some (.bipush 48, 0, 0, [], none) := (L_155_0 17).trans rfl
theorem I_155_19 : ins 155 19 = some (.isub, 0, 0, [], none) := (L_155_0 19).trans rfl
theorem I_155_20 : ins 155 20 = some (.goto 5, 25, 0, [], none) := (L_155_0 20).trans rfl
theorem I_155_23 : ins 155 23 = some (.bipush (-9), 0, 0, [], some []) := (L_155_0 23).trans rfl
theorem I_155_25 : ins 155 25 = some (.ireturn, 0, 0, [], some []) := (L_155_0 25).trans rfl
theorem L_156_0 (pc : Nat) : ins 156 pc = fnd iT156 pc := rfl
theorem I_156_0 : ins 156 0 = some (.iload_n 0, 0, 0, [], none) := (L_156_0 0).trans rfl
theorem I_156_1 : ins 156 1 = some (.iconst 3, 0, 0, [], none) := (L_156_0 1).trans rfl
theorem I_156_2 : ins 156 2 = some (.if_icmp .ne 28, 30, 0, [], none) := (L_156_0 2).trans rfl
theorem I_156_5 : ins 156 5 = some (.iload_n 1, 0, 0, [], some [1]) := (L_156_0 5).trans rfl
theorem I_156_6 : ins 156 6 = some (.bipush 110, 0, 0, [], none) := (L_156_0 6).trans rfl
theorem I_156_8 : ins 156 8 = some (.if_icmp .ne 7, 15, 0, [], none) := (L_156_0 8).trans rfl
theorem I_156_11 : ins 156 11 = some (.iconst 1, 0, 0, [], some []) := (L_156_0 11).trans rfl
theorem I_156_12 : ins 156 12 = some (.goto 31, 43, 0, [], none) := (L_156_0 12).trans rfl
theorem I_156_15 : ins 156 15 = some (.iload_n 1, 0, 0, [], some [1]) := (L_156_0 15).trans rfl
theorem I_156_16 : ins 156 16 = some (.bipush 115, 0, 0, [], none) := (L_156_0 16).trans rfl
theorem I_156_18 : ins 156 18 = some (.if_icmp .ne 7, 25, 0, [], none) := (L_156_0 18).trans rfl
theorem I_156_21 : ins 156 21 = some (.iconst 0, 0, 0, [], some []) := (L_156_0 21).trans rfl
theorem I_156_22 : ins 156 22 = some (.goto 21, 43, 0, [], none) := (L_156_0 22).trans rfl
theorem I_156_25 : ins 156 25 = some (.bipush (-9), 0, 0, [], some []) := (L_156_0 25).trans rfl
theorem I_156_27 : ins 156 27 = some (.goto 16, 43, 0, [], none) := (L_156_0 27).trans rfl
theorem I_156_30 : ins 156 30 = some (.iload_n 1, 0, 0, [], some [0, 1]) := (L_156_0 30).trans rfl
theorem I_156_31 : ins 156 31 = some (.iload_n 0, 0, 0, [], none) := (L_156_0 31).trans rfl
theorem I_156_32 : ins 156 32 = some (.ifCond .ne 7, 39, 0, [], none) := (L_156_0 32).trans rfl
theorem I_156_35 : ins 156 35 = some (.iconst 1, 0, 0, [], some []) := (L_156_0 35).trans rfl
theorem I_156_36 : ins 156 36 = some (.goto 4, 40, 0, [], none) := (L_156_0 36).trans rfl
theorem I_156_39 : ins 156 39 = some (.iconst 0, 0, 0, [], some []) := (L_156_0 39).trans rfl
theorem I_156_40 : ins 156 40 = some (.invokestatic 105, 2, 0, [(0, 186)], some []) := (L_156_0 40).trans rfl
theorem I_156_43 : ins 156 43 = some (.ireturn, 0, 0, [], some []) := (L_156_0 43).trans rfl
theorem L_157_0 (pc : Nat) : ins 157 pc = fnd iT157 pc := rfl
theorem I_157_0 : ins 157 0 = some (.iload_n 0, 0, 0, [], none) := (L_157_0 0).trans rfl
theorem I_157_1 : ins 157 1 = some (.bipush 119, 0, 0, [], none) := (L_157_0 1).trans rfl
theorem I_157_3 : ins 157 3 = some (.if_icmp .ne 7, 10, 0, [], none) := (L_157_0 3).trans rfl
theorem I_157_6 : ins 157 6 = some (.iconst 0, 0, 0, [], some []) := (L_157_0 6).trans rfl
theorem I_157_7 : ins 157 7 = some (.goto 25, 32, 0, [], none) := (L_157_0 7).trans rfl
theorem I_157_10 : ins 157 10 = some (.iload_n 0, 0, 0, [], some [0]) := (L_157_0 10).trans rfl
theorem I_157_11 : ins 157 11 = some (.bipush 108, 0, 0, [], none) := (L_157_0 11).trans rfl
theorem I_157_13 : ins 157 13 = some (.if_icmp .ne 7, 20, 0, [], none) := (L_157_0 13).trans rfl
theorem I_157_16 : ins 157 16 = some (.iconst 1, 0, 0, [], some []) := (L_157_0 16).trans rfl
theorem I_157_17 : ins 157 17 = some (.goto 15, 32, 0, [], none) := (L_157_0 17).trans rfl
theorem I_157_20 : ins 157 20 = some (.iload_n 0, 0, 0, [], some [0]) := (L_157_0 20).trans rfl
theorem I_157_21 : ins 157 21 = some (.bipush 104, 0, 0, [], none) := (L_157_0 21).trans rfl
theorem I_157_23 : ins 157 23 = some (.if_icmp .ne 7, 30, 0, [], none) := (L_157_0 23).trans rfl
theorem I_157_26 : ins 157 26 = some (.iconst 2, 0, 0, [], some []) := (L_157_0 26).trans rfl
theorem I_157_27 : ins 157 27 = some (.goto 5, 32, 0, [], none) := (L_157_0 27).trans rfl
theorem I_157_30 : ins 157 30 = some (.bipush (-9), 0, 0, [], some []) := (L_157_0 30).trans rfl
theorem I_157_32 : ins 157 32 = some (.ireturn, 0, 0, [], some []) := (L_157_0 32).trans rfl
theorem L_158_0 (pc : Nat) : ins 158 pc = fnd iT158 pc := rfl
theorem I_158_0 : ins 158 0 = some (.iconst 0, 0, 0, [], none) := (L_158_0 0).trans rfl
theorem I_158_1 : ins 158 1 = some (.istore_n 1, 0, 0, [], none) := (L_158_0 1).trans rfl
theorem I_158_2 : ins 158 2 = some (.iload_n 1, 0, 0, [], some [0, 1]) := (L_158_0 2).trans rfl
theorem I_158_3 : ins 158 3 = some (.iconst 4, 0, 0, [], none) := (L_158_0 3).trans rfl
theorem I_158_4 : ins 158 4 = some (.if_icmp .ge 75, 79, 0, [], none) := (L_158_0 4).trans rfl
theorem I_158_7 : ins 158 7 = some (.aload_n 0, 0, 0, [], some [0, 1]) := (L_158_0 7).trans rfl
theorem I_158_8 : ins 158 8 = some (.getfield 108, 7, 0, [(10, 116)], none) := (L_158_0 8).trans rfl
theorem I_158_11 : ins 158 11 = some (.aload_n 0, 0, 0, [], none) := (L_158_0 11).trans rfl
theorem I_158_12 : ins 158 12 = some (.getfield 25, 6, 0, [(10, 101)], none) := (L_158_0 12).trans rfl
theorem I_158_15 : ins 158 15 = some (.iconst 0, 0, 0, [], none) := (L_158_0 15).trans rfl
theorem I_158_16 : ins 158 16 = some (.iaload, 0, 0, [], none) := (L_158_0 16).trans rfl
theorem I_158_17 : ins 158 17 = some (.if_icmp .ge 19, 36, 0, [], none) := (L_158_0 17).trans rfl
theorem I_158_20 : ins 158 20 = some (.iload_n 1, 0, 0, [], some [0, 1]) := (L_158_0 20).trans rfl
theorem I_158_21 : ins 158 21 = some (.aload_n 0, 0, 0, [], none) := (L_158_0 21).trans rfl
theorem I_158_22 : ins 158 22 = some (.getfield 22, 5, 0, [(10, 100)], none) := (L_158_0 22).trans rfl
theorem I_158_25 : ins 158 25 = some (.aload_n 0, 0, 0, [], none) := (L_158_0 25).trans rfl
theorem I_158_26 : ins 158 26 = some (.getfield 108, 7, 0, [(10, 116)], none) := (L_158_0 26).trans rfl
theorem I_158_29 : ins 158 29 = some (.iaload, 0, 0, [], none) := (L_158_0 29).trans rfl
theorem I_158_30 : ins 158 30 = some (.invokestatic 111, 2, 0, [(0, 187)], none) := (L_158_0 30).trans rfl
theorem I_158_33 : ins 158 33 = some (.goto 5, 38, 0, [], none) := (L_158_0 33).trans rfl
theorem I_158_36 : ins 158 36 = some (.bipush (-9), 0, 0, [], some [0, 1]) := (L_158_0 36).trans rfl
theorem I_158_38 : ins 158 38 = some (.istore_n 2, 0, 0, [], some [0, 1]) := (L_158_0 38).trans rfl
theorem I_158_39 : ins 158 39 = some (.iload_n 2, 0, 0, [], none) := (L_158_0 39).trans rfl
theorem I_158_40 : ins 158 40 = some (.bipush (-9), 0, 0, [], none) := (L_158_0 40).trans rfl
theorem I_158_42 : ins 158 42 = some (.if_icmp .ne 5, 47, 0, [], none) := (L_158_0 42).trans rfl
theorem I_158_45 : ins 158 45 = some (.iconst 0, 0, 0, [], some []) := (L_158_0 45).trans rfl
theorem I_158_46 : ins 158 46 = some (.ireturn, 0, 0, [], none) := (L_158_0 46).trans rfl
theorem I_158_47 : ins 158 47 = some (.aload_n 0, 0, 0, [], some [0, 1, 2]) := (L_158_0 47).trans rfl
theorem I_158_48 : ins 158 48 = some (.getfield 31, 9, 0, [(10, 103)], none) := (L_158_0 48).trans rfl
theorem I_158_51 : ins 158 51 = some (.iconst 4, 0, 0, [], none) := (L_158_0 51).trans rfl
theorem I_158_52 : ins 158 52 = some (.aload_n 0, 0, 0, [], none) := (L_158_0 52).trans rfl
theorem I_158_53 : ins 158 53 = some (.getfield 28, 8, 0, [(10, 102)], none) := (L_158_0 53).trans rfl
theorem I_158_56 : ins 158 56 = some (.iconst 0, 0, 0, [], none) := (L_158_0 56).trans rfl
theorem I_158_57 : ins 158 57 = some (.iaload, 0, 0, [], none) := (L_158_0 57).trans rfl
theorem I_158_58 : ins 158 58 = some (.imul, 0, 0, [], none) := (L_158_0 58).trans rfl
theorem I_158_59 : ins 158 59 = some (.iload_n 1, 0, 0, [], none) := (L_158_0 59).trans rfl
theorem I_158_60 : ins 158 60 = some (.iadd, 0, 0, [], none) := (L_158_0 60).trans rfl
theorem I_158_61 : ins 158 61 = some (.iload_n 2, 0, 0, [], none) := (L_158_0 61).trans rfl
theorem I_158_62 : ins 158 62 = some (.iastore, 0, 0, [], none) := (L_158_0 62).trans rfl
theorem I_158_63 : ins 158 63 = some (.aload_n 0, 0, 0, [], none) := (L_158_0 63).trans rfl
theorem I_158_64 : ins 158 64 = some (.dup, 0, 0, [], none) := (L_158_0 64).trans rfl
theorem I_158_65 : ins 158 65 = some (.getfield 108, 7, 0, [(10, 116)], none) := (L_158_0 65).trans rfl
theorem I_158_68 : ins 158 68 = some (.iconst 1, 0, 0, [], none) := (L_158_0 68).trans rfl
theorem I_158_69 : ins 158 69 = some (.iadd, 0, 0, [], none) := (L_158_0 69).trans rfl
theorem I_158_70 : ins 158 70 = some (.putfield 108, 7, 0, [(10, 116)], none) := (L_158_0 70).trans rfl
theorem I_158_73 : ins 158 73 = some (.iinc 1 1, 0, 0, [], none) := (L_158_0 73).trans rfl
theorem I_158_76 : ins 158 76 = some (.goto (-74), 2, 0, [], none) := (L_158_0 76).trans rfl
theorem I_158_79 : ins 158 79 = some (.iconst 1, 0, 0, [], some []) := (L_158_0 79).trans rfl
theorem I_158_80 : ins 158 80 = some (.ireturn, 0, 0, [], none) := (L_158_0 80).trans rfl
theorem L_159_0 (pc : Nat) : ins 159 pc = fnd (iT159_0 ++ (iT159_1 ++ (iT159_2))) pc := rfl
theorem L_159_1 (pc : Nat) (h : Nat.ble 70 pc = true) : ins 159 pc = fnd (iT159_1 ++ (iT159_2)) pc := (L_159_0 pc).trans (fnd_app (lo := 70) rfl (Nat.le_of_ble_eq_true h))
theorem L_159_2 (pc : Nat) (h : Nat.ble 133 pc = true) : ins 159 pc = fnd (iT159_2) pc := (L_159_1 pc (Nat.ble_eq.mpr (Nat.le_trans (Nat.le_of_ble_eq_true (rfl : Nat.ble 70 133 = true)) (Nat.le_of_ble_eq_true h)))).trans (fnd_app (lo := 133) rfl (Nat.le_of_ble_eq_true h))
theorem I_159_0 : ins 159 0 = some (.iconst 0, 0, 0, [], none) := (L_159_0 0).trans rfl
theorem I_159_1 : ins 159 1 = some (.istore_n 1, 0, 0, [], none) := (L_159_0 1).trans rfl
theorem I_159_2 : ins 159 2 = some (.iconst 0, 0, 0, [], none) := (L_159_0 2).trans rfl
theorem I_159_3 : ins 159 3 = some (.istore_n 2, 0, 0, [], none) := (L_159_0 3).trans rfl
theorem I_159_4 : ins 159 4 = some (.iload_n 2, 0, 0, [], some [0, 1, 2]) := (L_159_0 4).trans rfl
theorem I_159_5 : ins 159 5 = some (.iconst 5, 0, 0, [], none) := (L_159_0 5).trans rfl
theorem I_159_6 : ins 159 6 = some (.if_icmp .ge 150, 156, 0, [], none) := (L_159_0 6).trans rfl
theorem I_159_9 : ins 159 9 = some (.aload_n 0, 0, 0, [], some [0, 1, 2]) := (L_159_0 9).trans rfl
theorem I_159_10 : ins 159 10 = some (.getfield 108, 7, 0, [(10, 116)], none) := (L_159_0 10).trans rfl
theorem I_159_13 : ins 159 13 = some (.aload_n 0, 0, 0, [], none) := (L_159_0 13).trans rfl
theorem I_159_14 : ins 159 14 = some (.getfield 25, 6, 0, [(10, 101)], none) := (L_159_0 14).trans rfl
theorem I_159_17 : ins 159 17 = some (.iconst 1, 0, 0, [], none) := (L_159_0 17).trans rfl
theorem I_159_18 : ins 159 18 = some (.iaload, 0, 0, [], none) := (L_159_0 18).trans rfl
theorem I_159_19 : ins 159 19 = some (.if_icmp .ge 18, 37, 0, [], none) := (L_159_0 19).trans rfl
theorem I_159_22 : ins 159 22 = some (.aload_n 0, 0, 0, [], some [0, 1, 2]) := (L_159_0 22).trans rfl
theorem I_159_23 : ins 159 23 = some (.getfield 22, 5, 0, [(10, 100)], none) := (L_159_0 23).trans rfl
theorem I_159_26 : ins 159 26 = some (.bipush 48, 0, 0, [], none) := (L_159_0 26).trans rfl
theorem I_159_28 : ins 159 28 = some (.aload_n 0, 0, 0, [], none) := (L_159_0 28).trans rfl
theorem I_159_29 : ins 159 29 = some (.getfield 108, 7, 0, [(10, 116)], none) := (L_159_0 29).trans rfl
theorem I_159_32 : ins 159 32 = some (.iadd, 0, 0, [], none) := (L_159_0 32).trans rfl
theorem I_159_33 : ins 159 33 = some (.iaload, 0, 0, [], none) := (L_159_0 33).trans rfl
theorem I_159_34 : ins 159 34 = some (.goto 5, 39, 0, [], none) := (L_159_0 34).trans rfl
theorem I_159_37 : ins 159 37 = some (.bipush (-9), 0, 0, [], some [0, 1, 2]) := (L_159_0 37).trans rfl
theorem I_159_39 : ins 159 39 = some (.istore_n 3, 0, 0, [], some [0, 1, 2]) := (L_159_0 39).trans rfl
theorem I_159_40 : ins 159 40 = some (.iload_n 2, 0, 0, [], none) := (L_159_0 40).trans rfl
theorem I_159_41 : ins 159 41 = some (.iconst 2, 0, 0, [], none) := (L_159_0 41).trans rfl
theorem I_159_42 : ins 159 42 = some (.if_icmp .ne 10, 52, 0, [], none) := (L_159_0 42).trans rfl
theorem I_159_45 : ins 159 45 = some (.iload_n 3, 0, 0, [], some [0, 1, 2, 3]) := (L_159_0 45).trans rfl
theorem I_159_46 : ins 159 46 = some (.invokestatic 114, 1, 0, [(0, 188)], none) := (L_159_0 46).trans rfl
theorem I_159_49 : ins 159 49 = some (.goto 17, 66, 0, [], none) := (L_159_0 49).trans rfl
theorem I_159_52 : ins 159 52 = some (.iload_n 3, 0, 0, [], some [0, 1, 2, 3]) := (L_159_0 52).trans rfl
theorem I_159_53 : ins 159 53 = some (.iload_n 2, 0, 0, [], none) := (L_159_0 53).trans rfl
theorem I_159_54 : ins 159 54 = some (.iconst 4, 0, 0, [], none) := (L_159_0 54).trans rfl
theorem I_159_55 : ins 159 55 = some (.if_icmp .ne 7, 62, 0, [], none) := (L_159_0 55).trans rfl
theorem I_159_58 : ins 159 58 = some (.iconst 1, 0, 0, [], some [0, 1, 2]) := (L_159_0 58).trans rfl
theorem I_159_59 : ins 159 59 = some (.goto 4, 63, 0, [], none) := (L_159_0 59).trans rfl
theorem I_159_62 : ins 159 62 = some (.iconst 0, 0, 0, [], some [0, 1, 2]) := (L_159_0 62).trans rfl
theorem I_159_63 : ins 159 63 = some (.invokestatic 105, 2, 0, [(0, 186)], some [0, 1, 2]) := (L_159_0 63).trans rfl
theorem I_159_66 : ins 159 66 = some (.istore 4, 0, 0, [], some [0, 1, 2]) := (L_159_0 66).trans rfl
theorem I_159_68 : ins 159 68 = some (.iload 4, 0, 0, [], none) := (L_159_0 68).trans rfl
theorem I_159_70 : ins 159 70 = some (.bipush (-9), 0, 0, [], none) := (L_159_1 70 rfl).trans rfl
theorem I_159_72 : ins 159 72 = some (.if_icmp .eq 12, 84, 0, [], none) := (L_159_1 72 rfl).trans rfl
theorem I_159_75 : ins 159 75 = some (.iload_n 2, 0, 0, [], some [0, 1, 2, 4]) := (L_159_1 75 rfl).trans rfl
theorem I_159_76 : ins 159 76 = some (.iconst 1, 0, 0, [], none) := (L_159_1 76 rfl).trans rfl
theorem I_159_77 : ins 159 77 = some (.if_icmp .ne 9, 86, 0, [], none) := (L_159_1 77 rfl).trans rfl
theorem I_159_80 : ins 159 80 = some (.iload_n 1, 0, 0, [], some [0, 1, 2, 4]) := (L_159_1 80 rfl).trans rfl
theorem I_159_81 : ins 159 81 = some (.ifCond .ne 5, 86, 0, [], none) := (L_159_1 81 rfl).trans rfl
theorem I_159_84 : ins 159 84 = some (.iconst 0, 0, 0, [], some []) := (L_159_1 84 rfl).trans rfl
theorem I_159_85 : ins 159 85 = some (.ireturn, 0, 0, [], none) := (L_159_1 85 rfl).trans rfl
theorem I_159_86 : ins 159 86 = some (.iload_n 2, 0, 0, [], some [0, 1, 2, 4]) := (L_159_1 86 rfl).trans rfl
theorem I_159_87 : ins 159 87 = some (.iconst 2, 0, 0, [], none) := (L_159_1 87 rfl).trans rfl
theorem I_159_88 : ins 159 88 = some (.if_icmp .ge 13, 101, 0, [], none) := (L_159_1 88 rfl).trans rfl
theorem I_159_91 : ins 159 91 = some (.bipush 10, 0, 0, [], some [0, 1, 2, 4]) := (L_159_1 91 rfl).trans rfl
theorem I_159_93 : ins 159 93 = some (.iload_n 1, 0, 0, [], none) := (L_159_1 93 rfl).trans rfl
theorem I_159_94 : ins 159 94 = some (.imul, 0, 0, [], none) := (L_159_1 94 rfl).trans rfl
theorem I_159_95 : ins 159 95 = some (.iload 4, 0, 0, [], none) := (L_159_1 95 rfl).trans rfl
theorem I_159_97 : ins 159 97 = some (.iadd, 0, 0, [], none) := (L_159_1 97 rfl).trans rfl
theorem I_159_98 : ins 159 98 = some (.goto 4, 102, 0, [], none) := (L_159_1 98 rfl).trans rfl
theorem I_159_101 : ins 159 101 = some (.iload_n 1, 0, 0, [], some [0, 1, 2, 4]) := (L_159_1 101 rfl).trans rfl
theorem I_159_102 : ins 159 102 = some (.istore_n 1, 0, 0, [], some [0, 2, 4]) := (L_159_1 102 rfl).trans rfl
theorem I_159_103 : ins 159 103 = some (.aload_n 0, 0, 0, [], none) := (L_159_1 103 rfl).trans rfl
theorem I_159_104 : ins 159 104 = some (.getfield 34, 10, 0, [(10, 104)], none) := (L_159_1 104 rfl).trans rfl
theorem I_159_107 : ins 159 107 = some (.iconst 4, 0, 0, [], none) := (L_159_1 107 rfl).trans rfl
theorem I_159_108 : ins 159 108 = some (.aload_n 0, 0, 0, [], none) := (L_159_1 108 rfl).trans rfl
theorem I_159_109 : ins 159 109 = some (.getfield 28, 8, 0, [(10, 102)], none) := (L_159_1 109 rfl).trans rfl
theorem I_159_112 : ins 159 112 = some (.iconst 1, 0, 0, [], none) := (L_159_1 112 rfl).trans rfl
theorem I_159_113 : ins 159 113 = some (.iaload, 0, 0, [], none) := (L_159_1 113 rfl).trans rfl
theorem I_159_114 : ins 159 114 = some (.imul, 0, 0, [], none) := (L_159_1 114 rfl).trans rfl
theorem I_159_115 : ins 159 115 = some (.iload_n 2, 0, 0, [], none) := (L_159_1 115 rfl).trans rfl
theorem I_159_116 : ins 159 116 = some (.iconst 1, 0, 0, [], none) := (L_159_1 116 rfl).trans rfl
theorem I_159_117 : ins 159 117 = some (.if_icmp .ge 7, 124, 0, [], none) := (L_159_1 117 rfl).trans rfl
theorem I_159_120 : ins 159 120 = some (.iconst 0, 0, 0, [], some [0, 1, 2, 4]) := (L_159_1 120 rfl).trans rfl
theorem I_159_121 : ins 159 121 = some (.goto 6, 127, 0, [], none) := (L_159_1 121 rfl).trans rfl
theorem I_159_124 : ins 159 124 = some (.iload_n 2, 0, 0, [], some [0, 1, 2, 4]) := (L_159_1 124 rfl).trans rfl
theorem I_159_125 : ins 159 125 = some (.iconst 1, 0, 0, [], none) := (L_159_1 125 rfl).trans rfl
theorem I_159_126 : ins 159 126 = some (.isub, 0, 0, [], none) := (L_159_1 126 rfl).trans rfl
theorem I_159_127 : ins 159 127 = some (.iadd, 0, 0, [], some [0, 1, 2, 4]) := (L_159_1 127 rfl).trans rfl
theorem I_159_128 : ins 159 128 = some (.iload_n 2, 0, 0, [], none) := (L_159_1 128 rfl).trans rfl
theorem I_159_129 : ins 159 129 = some (.iconst 2, 0, 0, [], none) := (L_159_1 129 rfl).trans rfl
theorem I_159_130 : ins 159 130 = some (.if_icmp .ge 7, 137, 0, [], none) := (L_159_1 130 rfl).trans rfl
theorem I_159_133 : ins 159 133 = some (.iload_n 1, 0, 0, [], some [0, 1, 2]) := (L_159_2 133 rfl).trans rfl
theorem I_159_134 : ins 159 134 = some (.goto 5, 139, 0, [], none) := (L_159_2 134 rfl).trans rfl
theorem I_159_137 : ins 159 137 = some (.iload 4, 0, 0, [], some [0, 1, 2, 4]) := (L_159_2 137 rfl).trans rfl
theorem I_159_139 : ins 159 139 = some (.iastore, 0, 0, [], some [0, 1, 2]) := (L_159_2 139 rfl).trans rfl
theorem I_159_140 : ins 159 140 = some (.aload_n 0, 0, 0, [], none) := (L_159_2 140 rfl).trans rfl
theorem I_159_141 : ins 159 141 = some (.dup, 0, 0, [], none) := (L_159_2 141 rfl).trans rfl
theorem I_159_142 : ins 159 142 = some (.getfield 108, 7, 0, [(10, 116)], none) := (L_159_2 142 rfl).trans rfl
theorem I_159_145 : ins 159 145 = some (.iconst 1, 0, 0, [], none) := (L_159_2 145 rfl).trans rfl
theorem I_159_146 : ins 159 146 = some (.iadd, 0, 0, [], none) := (L_159_2 146 rfl).trans rfl
theorem I_159_147 : ins 159 147 = some (.putfield 108, 7, 0, [(10, 116)], none) := (L_159_2 147 rfl).trans rfl
theorem I_159_150 : ins 159 150 = some (.iinc 2 1, 0, 0, [], none) := (L_159_2 150 rfl).trans rfl
theorem I_159_153 : ins 159 153 = some (.goto (-149), 4, 0, [], none) := (L_159_2 153 rfl).trans rfl
theorem I_159_156 : ins 159 156 = some (.iconst 1, 0, 0, [], some []) := (L_159_2 156 rfl).trans rfl
theorem I_159_157 : ins 159 157 = some (.ireturn, 0, 0, [], none) := (L_159_2 157 rfl).trans rfl
theorem L_160_0 (pc : Nat) : ins 160 pc = fnd iT160 pc := rfl
theorem I_160_0 : ins 160 0 = some (.aload_n 0, 0, 0, [], none) := (L_160_0 0).trans rfl
theorem I_160_1 : ins 160 1 = some (.getfield 28, 8, 0, [(10, 102)], none) := (L_160_0 1).trans rfl
theorem I_160_4 : ins 160 4 = some (.iload_n 1, 0, 0, [], none) := (L_160_0 4).trans rfl
theorem I_160_5 : ins 160 5 = some (.iaload, 0, 0, [], none) := (L_160_0 5).trans rfl
theorem I_160_6 : ins 160 6 = some (.bipush 8, 0, 0, [], none) := (L_160_0 6).trans rfl
theorem I_160_8 : ins 160 8 = some (.if_icmp .ge 28, 36, 0, [], none) := (L_160_0 8).trans rfl
theorem I_160_11 : ins 160 11 = some (.iload_n 1, 0, 0, [], some [0, 1]) := (L_160_0 11).trans rfl
theorem I_160_12 : ins 160 12 = some (.ifCond .ne 13, 25, 0, [], none) := (L_160_0 12).trans rfl
theorem I_160_15 : ins 160 15 = some (.aload_n 0, 0, 0, [], some [0, 1]) := (L_160_0 15).trans rfl
theorem I_160_16 : ins 160 16 = some (.invokevirtual 117, 0, 0, [(10, 189)], none) := (L_160_0 16).trans rfl
theorem I_160_19 : ins 160 19 = some (.ifCond .eq 17, 36, 0, [], none) := (L_160_0 19).trans rfl
theorem I_160_22 : ins 160 22 = some (.goto 10, 32, 0, [], some [0, 1]) := (L_160_0 22).trans rfl
theorem I_160_25 : ins 160 25 = some (.aload_n 0, 0, 0, [], some [0, 1]) := (L_160_0 25).trans rfl
theorem I_160_26 : ins 160 26 = some (.invokevirtual 121, 0, 0, [(10, 190)], none) := (L_160_0 26).trans rfl
theorem I_160_29 : ins 160 29 = some (.ifCond .eq 7, 36, 0, [], none) := (L_160_0 29).trans rfl
theorem I_160_32 : ins 160 32 = some (.iconst 1, 0, 0, [], some [0, 1]) := (L_160_0 32).trans rfl
theorem I_160_33 : ins 160 33 = some (.goto 4, 37, 0, [], none) := (L_160_0 33).trans rfl
theorem I_160_36 : ins 160 36 = some (.iconst 0, 0, 0, [], some [0, 1]) := (L_160_0 36).trans rfl
theorem I_160_37 : ins 160 37 = some (.istore_n 2, 0, 0, [], some [0, 1]) := (L_160_0 37).trans rfl
theorem I_160_38 : ins 160 38 = some (.aload_n 0, 0, 0, [], none) := (L_160_0 38).trans rfl
theorem I_160_39 : ins 160 39 = some (.getfield 28, 8, 0, [(10, 102)], none) := (L_160_0 39).trans rfl
theorem I_160_42 : ins 160 42 = some (.iload_n 1, 0, 0, [], none) := (L_160_0 42).trans rfl
theorem I_160_43 : ins 160 43 = some (.dup2, 0, 0, [], none) := (L_160_0 43).trans rfl
theorem I_160_44 : ins 160 44 = some (.iaload, 0, 0, [], none) := (L_160_0 44).trans rfl
theorem I_160_45 : ins 160 45 = some (.iload_n 2, 0, 0, [], none) := (L_160_0 45).trans rfl
theorem I_160_46 : ins 160 46 = some (.ifCond .eq 7, 53, 0, [], none) := (L_160_0 46).trans rfl
theorem I_160_49 : ins 160 49 = some (.iconst 1, 0, 0, [], some [2]) := (L_160_0 49).trans rfl
theorem I_160_50 : ins 160 50 = some (.goto 4, 54, 0, [], none) := (L_160_0 50).trans rfl
theorem I_160_53 : ins 160 53 = some (.iconst 0, 0, 0, [], some [2]) := (L_160_0 53).trans rfl
theorem I_160_54 : ins 160 54 = some (.iadd, 0, 0, [], some [2]) := (L_160_0 54).trans rfl
theorem I_160_55 : ins 160 55 = some (.iastore, 0, 0, [], none) := (L_160_0 55).trans rfl
theorem I_160_56 : ins 160 56 = some (.iload_n 2, 0, 0, [], none) := (L_160_0 56).trans rfl
theorem I_160_57 : ins 160 57 = some (.ireturn, 0, 0, [], none) := (L_160_0 57).trans rfl
theorem L_161_0 (pc : Nat) : ins 161 pc = fnd (iT161_0 ++ (iT161_1)) pc := rfl
theorem L_161_1 (pc : Nat) (h : Nat.ble 69 pc = true) : ins 161 pc = fnd (iT161_1) pc := (L_161_0 pc).trans (fnd_app (lo := 69) rfl (Nat.le_of_ble_eq_true h))
theorem I_161_0 : ins 161 0 = some (.aload_n 0, 0, 0, [], none) := (L_161_0 0).trans rfl
theorem I_161_1 : ins 161 1 = some (.getfield 28, 8, 0, [(10, 102)], none) := (L_161_0 1).trans rfl
theorem I_161_4 : ins 161 4 = some (.iconst 2, 0, 0, [], none) := (L_161_0 4).trans rfl
theorem I_161_5 : ins 161 5 = some (.iconst 0, 0, 0, [], none) := (L_161_0 5).trans rfl
theorem I_161_6 : ins 161 6 = some (.iastore, 0, 0, [], none) := (L_161_0 6).trans rfl
theorem I_161_7 : ins 161 7 = some (.iconst 0, 0, 0, [], none) := (L_161_0 7).trans rfl
theorem I_161_8 : ins 161 8 = some (.istore_n 1, 0, 0, [], none) := (L_161_0 8).trans rfl
theorem I_161_9 : ins 161 9 = some (.iload_n 1, 0, 0, [], some [0, 1]) := (L_161_0 9).trans rfl
theorem I_161_10 : ins 161 10 = some (.aload_n 0, 0, 0, [], none) := (L_161_0 10).trans rfl
theorem I_161_11 : ins 161 11 = some (.getfield 25, 6, 0, [(10, 101)], none) := (L_161_0 11).trans rfl
theorem I_161_14 : ins 161 14 = some (.iconst 2, 0, 0, [], none) := (L_161_0 14).trans rfl
theorem I_161_15 : ins 161 15 = some (.iaload, 0, 0, [], none) := (L_161_0 15).trans rfl
theorem I_161_16 : ins 161 16 = some (.if_icmp .ge 104, 120, 0, [], none) := (L_161_0 16).trans rfl
theorem I_161_19 : ins 161 19 = some (.aload_n 0, 0, 0, [], some [0, 1]) := (L_161_0 19).trans rfl
theorem I_161_20 : ins 161 20 = some (.getfield 22, 5, 0, [(10, 100)], none) := (L_161_0 20).trans rfl
theorem I_161_23 : ins 161 23 = some (.bipush 96, 0, 0, [], none) := (L_161_0 23).trans rfl
theorem I_161_25 : ins 161 25 = some (.iload_n 1, 0, 0, [], none) := (L_161_0 25).trans rfl
theorem I_161_26 : ins 161 26 = some (.iadd, 0, 0, [], none) := (L_161_0 26).trans rfl
theorem I_161_27 : ins 161 27 = some (.iaload, 0, 0, [], none) := (L_161_0 27).trans rfl
theorem I_161_28 : ins 161 28 = some (.istore_n 2, 0, 0, [], none) := (L_161_0 28).trans rfl
theorem I_161_29 : ins 161 29 = some (.iload_n 2, 0, 0, [], none) := (L_161_0 29).trans rfl
theorem I_161_30 : ins 161 30 = some (.bipush 46, 0, 0, [], none) := (L_161_0 30).trans rfl
theorem I_161_32 : ins 161 32 = some (.if_icmp .ne 7, 39, 0, [], none) := (L_161_0 32).trans rfl
theorem I_161_35 : ins 161 35 = some (.iconst 0, 0, 0, [], some [0, 1]) := (L_161_0 35).trans rfl
theorem I_161_36 : ins 161 36 = some (.goto 45, 81, 0, [], none) := (L_161_0 36).trans rfl
theorem I_161_39 : ins 161 39 = some (.iload_n 2, 0, 0, [], some [0, 1, 2]) := (L_161_0 39).trans rfl
theorem I_161_40 : ins 161 40 = some (.bipush 114, 0, 0, [], none) := (L_161_0 40).trans rfl
theorem I_161_42 : ins 161 42 = some (.if_icmp .ne 7, 49, 0, [], none) := (L_161_0 42).trans rfl
theorem I_161_45 : ins 161 45 = some (.iconst 1, 0, 0, [], some [0, 1]) := (L_161_0 45).trans rfl
theorem I_161_46 : ins 161 46 = some (.goto 35, 81, 0, [], none) := (L_161_0 46).trans rfl
theorem I_161_49 : ins 161 49 = some (.iload_n 2, 0, 0, [], some [0, 1, 2]) := (L_161_0 49).trans rfl
theorem I_161_50 : ins 161 50 = some (.bipush 102, 0, 0, [], none) := (L_161_0 50).trans rfl
theorem I_161_52 : ins 161 52 = some (.if_icmp .ne 7, 59, 0, [], none) := (L_161_0 52).trans rfl
theorem I_161_55 : ins 161 55 = some (.iconst 2, 0, 0, [], some [0, 1]) := (L_161_0 55).trans rfl
theorem I_161_56 : ins 161 56 = some (.goto 25, 81, 0, [], none) := (L_161_0 56).trans rfl
theorem I_161_59 : ins 161 59 = some (.iload_n 2, 0, 0, [], some [0, 1, 2]) := (L_161_0 59).trans rfl
theorem I_161_60 : ins 161 60 = some (.bipush 115, 0, 0, [], none) := (L_161_0 60).trans rfl
theorem I_161_62 : ins 161 62 = some (.if_icmp .ne 7, 69, 0, [], none) := (L_161_0 62).trans rfl
theorem I_161_65 : ins 161 65 = some (.iconst 3, 0, 0, [], some [0, 1]) := (L_161_0 65).trans rfl
theorem I_161_66 : ins 161 66 = some (.goto 15, 81, 0, [], none) := (L_161_0 66).trans rfl
theorem I_161_69 : ins 161 69 = some (.iload_n 2, 0, 0, [], some [0, 1, 2]) := (L_161_1 69 rfl).trans rfl
theorem I_161_70 : ins 161 70 = some (.bipush 109, 0, 0, [], none) := (L_161_1 70 rfl).trans rfl
theorem I_161_72 : ins 161 72 = some (.if_icmp .ne 7, 79, 0, [], none) := (L_161_1 72 rfl).trans rfl
theorem I_161_75 : ins 161 75 = some (.iconst 4, 0, 0, [], some [0, 1]) := (L_161_1 75 rfl).trans rfl
theorem I_161_76 : ins 161 76 = some (.goto 5, 81, 0, [], none) := (L_161_1 76 rfl).trans rfl
theorem I_161_79 : ins 161 79 = some (.bipush (-9), 0, 0, [], some [0, 1]) := (L_161_1 79 rfl).trans rfl
theorem I_161_81 : ins 161 81 = some (.istore_n 3, 0, 0, [], some [0, 1]) := (L_161_1 81 rfl).trans rfl
theorem I_161_82 : ins 161 82 = some (.iload_n 3, 0, 0, [], none) := (L_161_1 82 rfl).trans rfl
theorem I_161_83 : ins 161 83 = some (.bipush (-9), 0, 0, [], none) := (L_161_1 83 rfl).trans rfl
theorem I_161_85 : ins 161 85 = some (.if_icmp .ne 12, 97, 0, [], none) := (L_161_1 85 rfl).trans rfl
theorem I_161_88 : ins 161 88 = some (.aload_n 0, 0, 0, [], some [0, 1]) := (L_161_1 88 rfl).trans rfl
theorem I_161_89 : ins 161 89 = some (.getfield 28, 8, 0, [(10, 102)], none) := (L_161_1 89 rfl).trans rfl
theorem I_161_92 : ins 161 92 = some (.iconst 2, 0, 0, [], none) := (L_161_1 92 rfl).trans rfl
theorem I_161_93 : ins 161 93 = some (.iconst 0, 0, 0, [], none) := (L_161_1 93 rfl).trans rfl
theorem I_161_94 : ins 161 94 = some (.iastore, 0, 0, [], none) := (L_161_1 94 rfl).trans rfl
theorem I_161_95 : ins 161 95 = some (.iload_n 1, 0, 0, [], none) := (L_161_1 95 rfl).trans rfl
theorem I_161_96 : ins 161 96 = some (.ireturn, 0, 0, [], none) := (L_161_1 96 rfl).trans rfl
theorem I_161_97 : ins 161 97 = some (.aload_n 0, 0, 0, [], some [0, 1, 3]) := (L_161_1 97 rfl).trans rfl
theorem I_161_98 : ins 161 98 = some (.getfield 37, 11, 0, [(10, 105)], none) := (L_161_1 98 rfl).trans rfl
theorem I_161_101 : ins 161 101 = some (.iload_n 1, 0, 0, [], none) := (L_161_1 101 rfl).trans rfl
theorem I_161_102 : ins 161 102 = some (.iload_n 3, 0, 0, [], none) := (L_161_1 102 rfl).trans rfl
theorem I_161_103 : ins 161 103 = some (.iastore, 0, 0, [], none) := (L_161_1 103 rfl).trans rfl
theorem I_161_104 : ins 161 104 = some (.aload_n 0, 0, 0, [], none) := (L_161_1 104 rfl).trans rfl
theorem I_161_105 : ins 161 105 = some (.getfield 28, 8, 0, [(10, 102)], none) := (L_161_1 105 rfl).trans rfl
theorem I_161_108 : ins 161 108 = some (.iconst 2, 0, 0, [], none) := (L_161_1 108 rfl).trans rfl
theorem I_161_109 : ins 161 109 = some (.dup2, 0, 0, [], none) := (L_161_1 109 rfl).trans rfl
theorem I_161_110 : ins 161 110 = some (.iaload, 0, 0, [], none) := (L_161_1 110 rfl).trans rfl
theorem I_161_111 : ins 161 111 = some (.iconst 1, 0, 0, [], none) := (L_161_1 111 rfl).trans rfl
theorem I_161_112 : ins 161 112 = some (.iadd, 0, 0, [], none) := (L_161_1 112 rfl).trans rfl
theorem I_161_113 : ins 161 113 = some (.iastore, 0, 0, [], none) := (L_161_1 113 rfl).trans rfl
theorem I_161_114 : ins 161 114 = some (.iinc 1 1, 0, 0, [], none) := (L_161_1 114 rfl).trans rfl
theorem I_161_117 : ins 161 117 = some (.goto (-108), 9, 0, [], none) := (L_161_1 117 rfl).trans rfl
theorem I_161_120 : ins 161 120 = some (.iconst (-1), 0, 0, [], some []) := (L_161_1 120 rfl).trans rfl
theorem I_161_121 : ins 161 121 = some (.ireturn, 0, 0, [], none) := (L_161_1 121 rfl).trans rfl
