/-! instructions -/
theorem L_211_0 (pc : Nat) : ins 211 pc = fnd (iT211_0 ++ (iT211_1 ++ (iT211_2))) pc := rfl
theorem L_211_1 (pc : Nat) (h : Nat.ble 74 pc = true) : ins 211 pc = fnd (iT211_1 ++ (iT211_2)) pc := (L_211_0 pc).trans (fnd_app (lo := 74) rfl (Nat.le_of_ble_eq_true h))
theorem L_211_2 (pc : Nat) (h : Nat.ble 139 pc = true) : ins 211 pc = fnd (iT211_2) pc := (L_211_1 pc (Nat.ble_eq.mpr (Nat.le_trans (Nat.le_of_ble_eq_true (rfl : Nat.ble 74 139 = true)) (Nat.le_of_ble_eq_true h)))).trans (fnd_app (lo := 139) rfl (Nat.le_of_ble_eq_true h))
theorem I_211_0 : ins 211 0 = some (.iconst 0, 0, 0, [], none) := (L_211_0 0).trans rfl
theorem I_211_1 : ins 211 1 = some (.istore 5, 0, 0, [], none) := (L_211_0 1).trans rfl
theorem I_211_3 : ins 211 3 = some (.iconst 0, 0, 0, [], none) := (L_211_0 3).trans rfl
theorem I_211_4 : ins 211 4 = some (.istore 6, 0, 0, [], none) := (L_211_0 4).trans rfl
theorem I_211_6 : ins 211 6 = some (.iload 6, 0, 0, [], some [0, 1, 2, 3, 4, 5, 6]) := (L_211_0 6).trans rfl
theorem I_211_8 : ins 211 8 = some (.iload_n 3, 0, 0, [], none) := (L_211_0 8).trans rfl
theorem I_211_9 : ins 211 9 = some (.if_icmp .ge 30, 39, 0, [], none) := (L_211_0 9).trans rfl
theorem I_211_12 : ins 211 12 = some (.iload 5, 0, 0, [], some [0, 1, 2, 3, 4, 5, 6]) := (L_211_0 12).trans rfl
theorem I_211_14 : ins 211 14 = some (.aload_n 0, 0, 0, [], none) := (L_211_0 14).trans rfl
theorem I_211_15 : ins 211 15 = some (.getfield 37, 11, 0, [(10, 105)], none) := (L_211_0 15).trans rfl
theorem I_211_18 : ins 211 18 = some (.iload 6, 0, 0, [], none) := (L_211_0 18).trans rfl
theorem I_211_20 : ins 211 20 = some (.iaload, 0, 0, [], none) := (L_211_0 20).trans rfl
theorem I_211_21 : ins 211 21 = some (.iconst 4, 0, 0, [], none) := (L_211_0 21).trans rfl
theorem I_211_22 : ins 211 22 = some (.if_icmp .ne 7, 29, 0, [], none) := (L_211_0 22).trans rfl
theorem I_211_25 : ins 211 25 = some (.iconst 1, 0, 0, [], some [0, 1, 2, 3, 4, 6]) := (L_211_0 25).trans rfl
theorem I_211_26 : ins 211 26 = some (.goto 4, 30, 0, [], none) := (L_211_0 26).trans rfl
theorem I_211_29 : ins 211 29 = some (.iconst 0, 0, 0, [], some [0, 1, 2, 3, 4, 6]) := (L_211_0 29).trans rfl
theorem I_211_30 : ins 211 30 = some (.iadd, 0, 0, [], some [0, 1, 2, 3, 4, 6]) := (L_211_0 30).trans rfl
theorem I_211_31 : ins 211 31 = some (.istore 5, 0, 0, [], none) := (L_211_0 31).trans rfl
theorem I_211_33 : ins 211 33 = some (.iinc 6 1, 0, 0, [], none) := (L_211_0 33).trans rfl
theorem I_211_36 : ins 211 36 = some (.goto (-30), 6, 0, [], none) := (L_211_0 36).trans rfl
theorem I_211_39 : ins 211 39 = some (.lconst 0, 0, 0, [], some [0, 1, 2, 4, 5]) := (L_211_0 39).trans rfl
theorem I_211_40 : ins 211 40 = some (.lstore 6, 0, 0, [], none) := (L_211_0 40).trans rfl
theorem I_211_42 : ins 211 42 = some (.lconst 1, 0, 0, [], none) := (L_211_0 42).trans rfl
theorem I_211_43 : ins 211 43 = some (.lstore 8, 0, 0, [], none) := (L_211_0 43).trans rfl
theorem I_211_45 : ins 211 45 = some (.lconst 1, 0, 0, [], none) := (L_211_0 45).trans rfl
theorem I_211_46 : ins 211 46 = some (.lstore 10, 0, 0, [], none) := (L_211_0 46).trans rfl
theorem I_211_48 : ins 211 48 = some (.iconst 0, 0, 0, [], none) := (L_211_0 48).trans rfl
theorem I_211_49 : ins 211 49 = some (.istore 12, 0, 0, [], none) := (L_211_0 49).trans rfl
theorem I_211_51 : ins 211 51 = some (.iload 12, 0, 0, [], some [0, 1, 2, 4, 5, 6, 8, 10, 12]) := (L_211_0 51).trans rfl
theorem I_211_53 : ins 211 53 = some (.iload 5, 0, 0, [], none) := (L_211_0 53).trans rfl
theorem I_211_55 : ins 211 55 = some (.if_icmp .gt 128, 183, 0, [], none) := (L_211_0 55).trans rfl
theorem I_211_58 : ins 211 58 = some (.lload 10, 0, 0, [], some [0, 1, 2, 4, 5, 6, 8, 10, 12]) := (L_211_0 58).trans rfl
theorem I_211_60 : ins 211 60 = some (.lstore 13, 0, 0, [], none) := (L_211_0 60).trans rfl
theorem I_211_62 : ins 211 62 = some (.iconst 0, 0, 0, [], none) := (L_211_0 62).trans rfl
theorem I_211_63 : ins 211 63 = some (.istore 15, 0, 0, [], none) := (L_211_0 63).trans rfl
theorem I_211_65 : ins 211 65 = some (.iload 15, 0, 0, [], some [0, 1, 2, 4, 5, 6, 8, 10, 12, 13, 15]) := (L_211_0 65).trans rfl
theorem I_211_67 : ins 211 67 = some (.iload 5, 0, 0, [], none) := (L_211_0 67).trans rfl
theorem I_211_69 : ins 211 69 = some (.if_icmp .ge 31, 100, 0, [], none) := (L_211_0 69).trans rfl
theorem I_211_72 : ins 211 72 = some (.lload 13, 0, 0, [], some [0, 1, 2, 4, 5, 6, 8, 10, 12, 13, 15]) := (L_211_0 72).trans rfl
theorem I_211_74 : ins 211 74 = some (.iload 15, 0, 0, [], none) := (L_211_1 74 rfl).trans rfl
theorem I_211_76 : ins 211 76 = some (.iload 12, 0, 0, [], none) := (L_211_1 76 rfl).trans rfl
theorem I_211_78 : ins 211 78 = some (.if_icmp .ge 8, 86, 0, [], none) := (L_211_1 78 rfl).trans rfl
theorem I_211_81 : ins 211 81 = some (.iload_n 1, 0, 0, [], some [0, 1, 2, 4, 5, 6, 8, 10, 12, 15]) := (L_211_1 81 rfl).trans rfl
theorem I_211_82 : ins 211 82 = some (.i2l, 0, 0, [], none) := (L_211_1 82 rfl).trans rfl
theorem I_211_83 : ins 211 83 = some (.goto 8, 91, 0, [], none) := (L_211_1 83 rfl).trans rfl
theorem I_211_86 : ins 211 86 = some (.bipush 16, 0, 0, [], some [0, 1, 2, 4, 5, 6, 8, 10, 12, 15]) := (L_211_1 86 rfl).trans rfl
theorem I_211_88 : ins 211 88 = some (.iload_n 1, 0, 0, [], none) := (L_211_1 88 rfl).trans rfl
theorem I_211_89 : ins 211 89 = some (.isub, 0, 0, [], none) := (L_211_1 89 rfl).trans rfl
theorem I_211_90 : ins 211 90 = some (.i2l, 0, 0, [], none) := (L_211_1 90 rfl).trans rfl
theorem I_211_91 : ins 211 91 = some (.lmul, 0, 0, [], some [0, 1, 2, 4, 5, 6, 8, 10, 12, 15]) := (L_211_1 91 rfl).trans rfl
theorem I_211_92 : ins 211 92 = some (.lstore 13, 0, 0, [], none) := (L_211_1 92 rfl).trans rfl
theorem I_211_94 : ins 211 94 = some (.iinc 15 1, 0, 0, [], none) := (L_211_1 94 rfl).trans rfl
theorem I_211_97 : ins 211 97 = some (.goto (-32), 65, 0, [], none) := (L_211_1 97 rfl).trans rfl
theorem I_211_100 : ins 211 100 = some (.lload 6, 0, 0, [], some [0, 1, 2, 4, 5, 6, 8, 10, 12, 13]) := (L_211_1 100 rfl).trans rfl
theorem I_211_102 : ins 211 102 = some (.aload_n 0, 0, 0, [], none) := (L_211_1 102 rfl).trans rfl
theorem I_211_103 : ins 211 103 = some (.getfield 34, 10, 0, [(10, 104)], none) := (L_211_1 103 rfl).trans rfl
theorem I_211_106 : ins 211 106 = some (.iconst 4, 0, 0, [], none) := (L_211_1 106 rfl).trans rfl
theorem I_211_107 : ins 211 107 = some (.iload_n 2, 0, 0, [], none) := (L_211_1 107 rfl).trans rfl
theorem I_211_108 : ins 211 108 = some (.imul, 0, 0, [], none) := (L_211_1 108 rfl).trans rfl
theorem I_211_109 : ins 211 109 = some (.iconst 3, 0, 0, [], none) := (L_211_1 109 rfl).trans rfl
theorem I_211_110 : ins 211 110 = some (.iadd, 0, 0, [], none) := (L_211_1 110 rfl).trans rfl
theorem I_211_111 : ins 211 111 = some (.iaload, 0, 0, [], none) := (L_211_1 111 rfl).trans rfl
theorem I_211_112 : ins 211 112 = some (.iload 12, 0, 0, [], none) := (L_211_1 112 rfl).trans rfl
theorem I_211_114 : ins 211 114 = some (.aload_n 0, 0, 0, [], none) := (L_211_1 114 rfl).trans rfl
theorem I_211_115 : ins 211 115 = some (.getfield 34, 10, 0, [(10, 104)], none) := (L_211_1 115 rfl).trans rfl
theorem I_211_118 : ins 211 118 = some (.iconst 4, 0, 0, [], none) := (L_211_1 118 rfl).trans rfl
theorem I_211_119 : ins 211 119 = some (.iload_n 2, 0, 0, [], none) := (L_211_1 119 rfl).trans rfl
theorem I_211_120 : ins 211 120 = some (.imul, 0, 0, [], none) := (L_211_1 120 rfl).trans rfl
theorem I_211_121 : ins 211 121 = some (.iconst 1, 0, 0, [], none) := (L_211_1 121 rfl).trans rfl
theorem I_211_122 : ins 211 122 = some (.iadd, 0, 0, [], none) := (L_211_1 122 rfl).trans rfl
theorem I_211_123 : ins 211 123 = some (.iaload, 0, 0, [], none) := (L_211_1 123 rfl).trans rfl
theorem I_211_124 : ins 211 124 = some (.invokestatic 150, 1, 0, [(0, 198)], none) := (L_211_1 124 rfl).trans rfl
theorem I_211_127 : ins 211 127 = some (.imul, 0, 0, [], none) := (L_211_1 127 rfl).trans rfl
theorem I_211_128 : ins 211 128 = some (.isub, 0, 0, [], none) := (L_211_1 128 rfl).trans rfl
theorem I_211_129 : ins 211 129 = some (.ifCond .le 8, 137, 0, [], none) := (L_211_1 129 rfl).trans rfl
theorem I_211_132 : ins 211 132 = some (.lload 13, 0, 0, [], some [0, 1, 2, 4, 5, 8, 10, 12, 13]) := (L_211_1 132 rfl).trans rfl
theorem I_211_134 : ins 211 134 = some (.goto 4, 138, 0, [], none) := (L_211_1 134 rfl).trans rfl
theorem I_211_137 : ins 211 137 = some (.lconst 0, 0, 0, [], some [0, 1, 2, 4, 5, 8, 10, 12]) := (L_211_1 137 rfl).trans rfl
theorem I_211_138 : ins 211 138 = some (.ladd, 0, 0, [], some [0, 1, 2, 4, 5, 8, 10, 12]) := (L_211_1 138 rfl).trans rfl
theorem I_211_139 : ins 211 139 = some (.lstore 6, 0, 0, [], none) := (L_211_2 139 rfl).trans rfl
theorem I_211_141 : ins 211 141 = some (.lload 8, 0, 0, [], none) := (L_211_2 141 rfl).trans rfl
theorem I_211_143 : ins 211 143 = some (.iload 12, 0, 0, [], none) := (L_211_2 143 rfl).trans rfl
theorem I_211_145 : ins 211 145 = some (.iload 5, 0, 0, [], none) := (L_211_2 145 rfl).trans rfl
theorem I_211_147 : ins 211 147 = some (.if_icmp .ge 9, 156, 0, [], none) := (L_211_2 147 rfl).trans rfl
theorem I_211_150 : ins 211 150 = some (.ldc2_w 263, 1339, 16, [], some [0, 1, 2, 4, 5, 6, 10, 12]) := (L_211_2 150 rfl).trans rfl
theorem I_211_153 : ins 211 153 = some (.goto 4, 157, 0, [], none) := (L_211_2 153 rfl).trans rfl
theorem I_211_156 : ins 211 156 = some (.lconst 1, 0, 0, [], some [0, 1, 2, 4, 5, 6, 10, 12]) := (L_211_2 156 rfl).trans rfl
theorem I_211_157 : ins 211 157 = some (.lmul, 0, 0, [], some [0, 1, 2, 4, 5, 6, 10, 12]) := (L_211_2 157 rfl).trans rfl
theorem I_211_158 : ins 211 158 = some (.lstore 8, 0, 0, [], none) := (L_211_2 158 rfl).trans rfl
theorem I_211_160 : ins 211 160 = some (.lload 10, 0, 0, [], none) := (L_211_2 160 rfl).trans rfl
theorem I_211_162 : ins 211 162 = some (.iload 5, 0, 0, [], none) := (L_211_2 162 rfl).trans rfl
theorem I_211_164 : ins 211 164 = some (.iload 12, 0, 0, [], none) := (L_211_2 164 rfl).trans rfl
theorem I_211_166 : ins 211 166 = some (.isub, 0, 0, [], none) := (L_211_2 166 rfl).trans rfl
theorem I_211_167 : ins 211 167 = some (.i2l, 0, 0, [], none) := (L_211_2 167 rfl).trans rfl
theorem I_211_168 : ins 211 168 = some (.lmul, 0, 0, [], none) := (L_211_2 168 rfl).trans rfl
theorem I_211_169 : ins 211 169 = some (.iload 12, 0, 0, [], none) := (L_211_2 169 rfl).trans rfl
theorem I_211_171 : ins 211 171 = some (.iconst 1, 0, 0, [], none) := (L_211_2 171 rfl).trans rfl
theorem I_211_172 : ins 211 172 = some (.iadd, 0, 0, [], none) := (L_211_2 172 rfl).trans rfl
theorem I_211_173 : ins 211 173 = some (.i2l, 0, 0, [], none) := (L_211_2 173 rfl).trans rfl
theorem I_211_174 : ins 211 174 = some (.ldiv, 0, 0, [], none) := (L_211_2 174 rfl).trans rfl
theorem I_211_175 : ins 211 175 = some (.lstore 10, 0, 0, [], none) := (L_211_2 175 rfl).trans rfl
theorem I_211_177 : ins 211 177 = some (.iinc 12 1, 0, 0, [], none) := (L_211_2 177 rfl).trans rfl
theorem I_211_180 : ins 211 180 = some (.goto (-129), 51, 0, [], none) := (L_211_2 180 rfl).trans rfl
theorem I_211_183 : ins 211 183 = some (.lload 6, 0, 0, [], some [4, 6, 8]) := (L_211_2 183 rfl).trans rfl
theorem I_211_185 : ins 211 185 = some (.lload 8, 0, 0, [], none) := (L_211_2 185 rfl).trans rfl
theorem I_211_187 : ins 211 187 = some (.iload 4, 0, 0, [], none) := (L_211_2 187 rfl).trans rfl
theorem I_211_189 : ins 211 189 = some (.invokestatic 265, 3, 0, [(0, 229)], none) := (L_211_2 189 rfl).trans rfl
theorem I_211_192 : ins 211 192 = some (.lreturn, 0, 0, [], none) := (L_211_2 192 rfl).trans rfl
theorem L_212_0 (pc : Nat) : ins 212 pc = fnd iT212 pc := rfl
theorem I_212_0 : ins 212 0 = some (.aload_n 0, 0, 0, [], none) := (L_212_0 0).trans rfl
theorem I_212_1 : ins 212 1 = some (.invokevirtual 134, 0, 0, [(10, 194)], none) := (L_212_0 1).trans rfl
theorem I_212_4 : ins 212 4 = some (.iload_n 1, 0, 0, [], none) := (L_212_0 4).trans rfl
theorem I_212_5 : ins 212 5 = some (.i2l, 0, 0, [], none) := (L_212_0 5).trans rfl
theorem I_212_6 : ins 212 6 = some (.lconst 0, 0, 0, [], none) := (L_212_0 6).trans rfl
theorem I_212_7 : ins 212 7 = some (.ldc2_w 263, 1339, 16, [], none) := (L_212_0 7).trans rfl
theorem I_212_10 : ins 212 10 = some (.invokestatic 69, 3, 0, [(0, 180)], none) := (L_212_0 10).trans rfl
theorem I_212_13 : ins 212 13 = some (.ifCond .eq 45, 58, 0, [], none) := (L_212_0 13).trans rfl
theorem I_212_16 : ins 212 16 = some (.aload_n 0, 0, 0, [], some [0, 1, 2, 3, 4]) := (L_212_0 16).trans rfl
theorem I_212_17 : ins 212 17 = some (.iload_n 2, 0, 0, [], none) := (L_212_0 17).trans rfl
theorem I_212_18 : ins 212 18 = some (.invokevirtual 140, 1, 0, [(10, 196)], none) := (L_212_0 18).trans rfl
theorem I_212_21 : ins 212 21 = some (.ifCond .eq 37, 58, 0, [], none) := (L_212_0 21).trans rfl
theorem I_212_24 : ins 212 24 = some (.aload_n 0, 0, 0, [], some [0, 1, 2, 3, 4]) := (L_212_0 24).trans rfl
theorem I_212_25 : ins 212 25 = some (.iload_n 3, 0, 0, [], none) := (L_212_0 25).trans rfl
theorem I_212_26 : ins 212 26 = some (.invokevirtual 180, 1, 0, [(10, 207)], none) := (L_212_0 26).trans rfl
theorem I_212_29 : ins 212 29 = some (.ifCond .eq 29, 58, 0, [], none) := (L_212_0 29).trans rfl
theorem I_212_32 : ins 212 32 = some (.iload_n 3, 0, 0, [], some [0, 1, 2, 3, 4]) := (L_212_0 32).trans rfl
theorem I_212_33 : ins 212 33 = some (.bipush 13, 0, 0, [], none) := (L_212_0 33).trans rfl
theorem I_212_35 : ins 212 35 = some (.if_icmp .ge 23, 58, 0, [], none) := (L_212_0 35).trans rfl
theorem I_212_38 : ins 212 38 = some (.iload 4, 0, 0, [], some [0, 1, 2, 3, 4]) := (L_212_0 38).trans rfl
theorem I_212_40 : ins 212 40 = some (.invokestatic 145, 1, 0, [(0, 197)], none) := (L_212_0 40).trans rfl
theorem I_212_43 : ins 212 43 = some (.ifCond .eq 15, 58, 0, [], none) := (L_212_0 43).trans rfl
theorem I_212_46 : ins 212 46 = some (.aload_n 0, 0, 0, [], some [0, 1, 2, 3, 4]) := (L_212_0 46).trans rfl
theorem I_212_47 : ins 212 47 = some (.iload_n 1, 0, 0, [], none) := (L_212_0 47).trans rfl
theorem I_212_48 : ins 212 48 = some (.iload_n 2, 0, 0, [], none) := (L_212_0 48).trans rfl
theorem I_212_49 : ins 212 49 = some (.iload_n 3, 0, 0, [], none) := (L_212_0 49).trans rfl
theorem I_212_50 : ins 212 50 = some (.iload 4, 0, 0, [], none) := (L_212_0 50).trans rfl
theorem I_212_52 : ins 212 52 = some (.invokevirtual 269, 4, 0, [(10, 230)], none) := (L_212_0 52).trans rfl
theorem I_212_55 : ins 212 55 = some (.goto 8, 63, 0, [], none) := (L_212_0 55).trans rfl
theorem I_212_58 : ins 212 58 = some (.bipush (-2), 0, 0, [], some []) := (L_212_0 58).trans rfl
theorem I_212_60 : ins 212 60 = some (.invokestatic 273, 1, 0, [(0, 231)], none) := (L_212_0 60).trans rfl
theorem I_212_63 : ins 212 63 = some (.lreturn, 0, 0, [], some []) := (L_212_0 63).trans rfl
theorem L_213_0 (pc : Nat) : ins 213 pc = fnd iT213 pc := rfl
theorem I_213_0 : ins 213 0 = some (.iload_n 1, 0, 0, [], none) := (L_213_0 0).trans rfl
theorem I_213_1 : ins 213 1 = some (.istore 4, 0, 0, [], none) := (L_213_0 1).trans rfl
theorem I_213_3 : ins 213 3 = some (.aload_n 0, 0, 0, [], none) := (L_213_0 3).trans rfl
theorem I_213_4 : ins 213 4 = some (.invokevirtual 167, 0, 0, [(10, 203)], none) := (L_213_0 4).trans rfl
theorem I_213_7 : ins 213 7 = some (.iconst 0, 0, 0, [], none) := (L_213_0 7).trans rfl
theorem I_213_8 : ins 213 8 = some (.istore 5, 0, 0, [], none) := (L_213_0 8).trans rfl
theorem I_213_10 : ins 213 10 = some (.iload 5, 0, 0, [], some [0, 2, 3, 4, 5]) := (L_213_0 10).trans rfl
theorem I_213_12 : ins 213 12 = some (.iload_n 2, 0, 0, [], none) := (L_213_0 12).trans rfl
theorem I_213_13 : ins 213 13 = some (.if_icmp .ge 32, 45, 0, [], none) := (L_213_0 13).trans rfl
theorem I_213_16 : ins 213 16 = some (.ldc_w 277, 1359, 1103515245, [], some [0, 2, 3, 4, 5]) := (L_213_0 16).trans rfl
theorem I_213_19 : ins 213 19 = some (.iload 4, 0, 0, [], none) := (L_213_0 19).trans rfl
theorem I_213_21 : ins 213 21 = some (.imul, 0, 0, [], none) := (L_213_0 21).trans rfl
theorem I_213_22 : ins 213 22 = some (.sipush 12345, 0, 0, [], none) := (L_213_0 22).trans rfl
theorem I_213_25 : ins 213 25 = some (.iadd, 0, 0, [], none) := (L_213_0 25).trans rfl
theorem I_213_26 : ins 213 26 = some (.istore 4, 0, 0, [], none) := (L_213_0 26).trans rfl
theorem I_213_28 : ins 213 28 = some (.aload_n 0, 0, 0, [], none) := (L_213_0 28).trans rfl
theorem I_213_29 : ins 213 29 = some (.iload 4, 0, 0, [], none) := (L_213_0 29).trans rfl
theorem I_213_31 : ins 213 31 = some (.bipush 16, 0, 0, [], none) := (L_213_0 31).trans rfl
theorem I_213_33 : ins 213 33 = some (.iushr, 0, 0, [], none) := (L_213_0 33).trans rfl
theorem I_213_34 : ins 213 34 = some (.iconst 5, 0, 0, [], none) := (L_213_0 34).trans rfl
theorem I_213_35 : ins 213 35 = some (.irem, 0, 0, [], none) := (L_213_0 35).trans rfl
theorem I_213_36 : ins 213 36 = some (.invokevirtual 170, 1, 0, [(10, 204)], none) := (L_213_0 36).trans rfl
theorem I_213_39 : ins 213 39 = some (.iinc 5 1, 0, 0, [], none) := (L_213_0 39).trans rfl
theorem I_213_42 : ins 213 42 = some (.goto (-32), 10, 0, [], none) := (L_213_0 42).trans rfl
theorem I_213_45 : ins 213 45 = some (.aload_n 0, 0, 0, [], some [0, 3]) := (L_213_0 45).trans rfl
theorem I_213_46 : ins 213 46 = some (.invokevirtual 174, 0, 0, [(10, 205)], none) := (L_213_0 46).trans rfl
theorem I_213_49 : ins 213 49 = some (.iload_n 3, 0, 0, [], none) := (L_213_0 49).trans rfl
theorem I_213_50 : ins 213 50 = some (.iconst (-1), 0, 0, [], none) := (L_213_0 50).trans rfl
theorem I_213_51 : ins 213 51 = some (.if_icmp .ne 20, 71, 0, [], none) := (L_213_0 51).trans rfl
theorem I_213_54 : ins 213 54 = some (.aload_n 0, 0, 0, [], some [0]) := (L_213_0 54).trans rfl
theorem I_213_55 : ins 213 55 = some (.getfield 28, 8, 0, [(10, 102)], none) := (L_213_0 55).trans rfl
theorem I_213_58 : ins 213 58 = some (.iconst 0, 0, 0, [], none) := (L_213_0 58).trans rfl
theorem I_213_59 : ins 213 59 = some (.iaload, 0, 0, [], none) := (L_213_0 59).trans rfl
theorem I_213_60 : ins 213 60 = some (.aload_n 0, 0, 0, [], none) := (L_213_0 60).trans rfl
theorem I_213_61 : ins 213 61 = some (.invokevirtual 192, 0, 0, [(10, 211)], none) := (L_213_0 61).trans rfl
theorem I_213_64 : ins 213 64 = some (.invokestatic 227, 1, 0, [(0, 220)], none) := (L_213_0 64).trans rfl
theorem I_213_67 : ins 213 67 = some (.isub, 0, 0, [], none) := (L_213_0 67).trans rfl
theorem I_213_68 : ins 213 68 = some (.goto 11, 79, 0, [], none) := (L_213_0 68).trans rfl
theorem I_213_71 : ins 213 71 = some (.aload_n 0, 0, 0, [], some [0, 3]) := (L_213_0 71).trans rfl
theorem I_213_72 : ins 213 72 = some (.getfield 43, 13, 0, [(10, 107)], none) := (L_213_0 72).trans rfl
theorem I_213_75 : ins 213 75 = some (.iconst 3, 0, 0, [], none) := (L_213_0 75).trans rfl
theorem I_213_76 : ins 213 76 = some (.iload_n 3, 0, 0, [], none) := (L_213_0 76).trans rfl
theorem I_213_77 : ins 213 77 = some (.imul, 0, 0, [], none) := (L_213_0 77).trans rfl
theorem I_213_78 : ins 213 78 = some (.iaload, 0, 0, [], none) := (L_213_0 78).trans rfl
theorem I_213_79 : ins 213 79 = some (.ireturn, 0, 0, [], some []) := (L_213_0 79).trans rfl
theorem L_214_0 (pc : Nat) : ins 214 pc = fnd iT214 pc := rfl
theorem I_214_0 : ins 214 0 = some (.aload_n 0, 0, 0, [], none) := (L_214_0 0).trans rfl
theorem I_214_1 : ins 214 1 = some (.invokevirtual 134, 0, 0, [(10, 194)], none) := (L_214_0 1).trans rfl
theorem I_214_4 : ins 214 4 = some (.iload_n 2, 0, 0, [], none) := (L_214_0 4).trans rfl
theorem I_214_5 : ins 214 5 = some (.i2l, 0, 0, [], none) := (L_214_0 5).trans rfl
theorem I_214_6 : ins 214 6 = some (.lconst 1, 0, 0, [], none) := (L_214_0 6).trans rfl
theorem I_214_7 : ins 214 7 = some (.ldc2_w 148, 1156, 40, [], none) := (L_214_0 7).trans rfl
theorem I_214_10 : ins 214 10 = some (.invokestatic 69, 3, 0, [(0, 180)], none) := (L_214_0 10).trans rfl
theorem I_214_13 : ins 214 13 = some (.ifCond .eq 26, 39, 0, [], none) := (L_214_0 13).trans rfl
theorem I_214_16 : ins 214 16 = some (.iload_n 3, 0, 0, [], some [0, 1, 2, 3]) := (L_214_0 16).trans rfl
theorem I_214_17 : ins 214 17 = some (.iconst (-1), 0, 0, [], none) := (L_214_0 17).trans rfl
theorem I_214_18 : ins 214 18 = some (.if_icmp .eq 11, 29, 0, [], none) := (L_214_0 18).trans rfl
theorem I_214_21 : ins 214 21 = some (.aload_n 0, 0, 0, [], some [0, 1, 2, 3]) := (L_214_0 21).trans rfl
theorem I_214_22 : ins 214 22 = some (.iload_n 3, 0, 0, [], none) := (L_214_0 22).trans rfl
theorem I_214_23 : ins 214 23 = some (.invokevirtual 140, 1, 0, [(10, 196)], none) := (L_214_0 23).trans rfl
theorem I_214_26 : ins 214 26 = some (.ifCond .eq 13, 39, 0, [], none) := (L_214_0 26).trans rfl
theorem I_214_29 : ins 214 29 = some (.aload_n 0, 0, 0, [], some [0, 1, 2, 3]) := (L_214_0 29).trans rfl
theorem I_214_30 : ins 214 30 = some (.iload_n 1, 0, 0, [], none) := (L_214_0 30).trans rfl
theorem I_214_31 : ins 214 31 = some (.iload_n 2, 0, 0, [], none) := (L_214_0 31).trans rfl
theorem I_214_32 : ins 214 32 = some (.iload_n 3, 0, 0, [], none) := (L_214_0 32).trans rfl
theorem I_214_33 : ins 214 33 = some (.invokevirtual 278, 3, 0, [(10, 232)], none) := (L_214_0 33).trans rfl
theorem I_214_36 : ins 214 36 = some (.goto 5, 41, 0, [], none) := (L_214_0 36).trans rfl
theorem I_214_39 : ins 214 39 = some (.bipush (-2), 0, 0, [], some []) := (L_214_0 39).trans rfl
theorem I_214_41 : ins 214 41 = some (.ireturn, 0, 0, [], some []) := (L_214_0 41).trans rfl
theorem L_215_0 (pc : Nat) : ins 215 pc = fnd iT215 pc := rfl
theorem I_215_0 : ins 215 0 = some (.aload_n 0, 0, 0, [], none) := (L_215_0 0).trans rfl
theorem I_215_1 : ins 215 1 = some (.invokevirtual 134, 0, 0, [(10, 194)], none) := (L_215_0 1).trans rfl
theorem I_215_4 : ins 215 4 = some (.aload_n 0, 0, 0, [], none) := (L_215_0 4).trans rfl
theorem I_215_5 : ins 215 5 = some (.iload_n 1, 0, 0, [], none) := (L_215_0 5).trans rfl
theorem I_215_6 : ins 215 6 = some (.invokevirtual 180, 1, 0, [(10, 207)], none) := (L_215_0 6).trans rfl
theorem I_215_9 : ins 215 9 = some (.ifCond .eq 10, 19, 0, [], none) := (L_215_0 9).trans rfl
theorem I_215_12 : ins 215 12 = some (.iload_n 2, 0, 0, [], some [0, 1, 2]) := (L_215_0 12).trans rfl
theorem I_215_13 : ins 215 13 = some (.invokestatic 79, 1, 0, [(0, 181)], none) := (L_215_0 13).trans rfl
theorem I_215_16 : ins 215 16 = some (.ifCond .ne 6, 22, 0, [], none) := (L_215_0 16).trans rfl
theorem I_215_19 : ins 215 19 = some (.bipush (-2), 0, 0, [], some []) := (L_215_0 19).trans rfl
theorem I_215_21 : ins 215 21 = some (.ireturn, 0, 0, [], none) := (L_215_0 21).trans rfl
theorem I_215_22 : ins 215 22 = some (.aload_n 0, 0, 0, [], some [0, 1, 2]) := (L_215_0 22).trans rfl
theorem I_215_23 : ins 215 23 = some (.getfield 7, 0, 0, [(10, 96)], none) := (L_215_0 23).trans rfl
theorem I_215_26 : ins 215 26 = some (.iload_n 2, 0, 0, [], none) := (L_215_0 26).trans rfl
theorem I_215_27 : ins 215 27 = some (.iaload, 0, 0, [], none) := (L_215_0 27).trans rfl
theorem I_215_28 : ins 215 28 = some (.ifCond .ge 9, 37, 0, [], none) := (L_215_0 28).trans rfl
theorem I_215_31 : ins 215 31 = some (.aload_n 0, 0, 0, [], some [0]) := (L_215_0 31).trans rfl
theorem I_215_32 : ins 215 32 = some (.iconst 1, 0, 0, [], none) := (L_215_0 32).trans rfl
theorem I_215_33 : ins 215 33 = some (.invokevirtual 85, 1, 0, [(10, 182)], none) := (L_215_0 33).trans rfl
theorem I_215_36 : ins 215 36 = some (.ireturn, 0, 0, [], none) := (L_215_0 36).trans rfl
theorem I_215_37 : ins 215 37 = some (.aload_n 0, 0, 0, [], some [0, 1, 2]) := (L_215_0 37).trans rfl
theorem I_215_38 : ins 215 38 = some (.iload_n 1, 0, 0, [], none) := (L_215_0 38).trans rfl
theorem I_215_39 : ins 215 39 = some (.invokevirtual 177, 1, 0, [(10, 206)], none) := (L_215_0 39).trans rfl
theorem I_215_42 : ins 215 42 = some (.aload_n 0, 0, 0, [], none) := (L_215_0 42).trans rfl
theorem I_215_43 : ins 215 43 = some (.getfield 13, 1, 0, [(10, 97)], none) := (L_215_0 43).trans rfl
theorem I_215_46 : ins 215 46 = some (.iload_n 2, 0, 0, [], none) := (L_215_0 46).trans rfl
theorem I_215_47 : ins 215 47 = some (.iaload, 0, 0, [], none) := (L_215_0 47).trans rfl
theorem I_215_48 : ins 215 48 = some (.aload_n 0, 0, 0, [], none) := (L_215_0 48).trans rfl
theorem I_215_49 : ins 215 49 = some (.getfield 28, 8, 0, [(10, 102)], none) := (L_215_0 49).trans rfl
theorem I_215_52 : ins 215 52 = some (.iconst 0, 0, 0, [], none) := (L_215_0 52).trans rfl
theorem I_215_53 : ins 215 53 = some (.iaload, 0, 0, [], none) := (L_215_0 53).trans rfl
theorem I_215_54 : ins 215 54 = some (.invokestatic 211, 2, 0, [(0, 216)], none) := (L_215_0 54).trans rfl
theorem I_215_57 : ins 215 57 = some (.istore_n 3, 0, 0, [], none) := (L_215_0 57).trans rfl
theorem I_215_58 : ins 215 58 = some (.iconst 0, 0, 0, [], none) := (L_215_0 58).trans rfl
theorem I_215_59 : ins 215 59 = some (.istore 4, 0, 0, [], none) := (L_215_0 59).trans rfl
theorem I_215_61 : ins 215 61 = some (.iload 4, 0, 0, [], some [0, 2, 3, 4]) := (L_215_0 61).trans rfl
theorem I_215_63 : ins 215 63 = some (.iload_n 3, 0, 0, [], none) := (L_215_0 63).trans rfl
theorem I_215_64 : ins 215 64 = some (.if_icmp .ge 37, 101, 0, [], none) := (L_215_0 64).trans rfl
theorem I_215_67 : ins 215 67 = some (.aload_n 0, 0, 0, [], some [0, 2, 3, 4]) := (L_215_0 67).trans rfl
theorem I_215_68 : ins 215 68 = some (.getfield 16, 2, 0, [(10, 98)], none) := (L_215_0 68).trans rfl
theorem I_215_71 : ins 215 71 = some (.bipush 60, 0, 0, [], none) := (L_215_0 71).trans rfl
theorem I_215_73 : ins 215 73 = some (.iload_n 2, 0, 0, [], none) := (L_215_0 73).trans rfl
theorem I_215_74 : ins 215 74 = some (.imul, 0, 0, [], none) := (L_215_0 74).trans rfl
theorem I_215_75 : ins 215 75 = some (.iload 4, 0, 0, [], none) := (L_215_0 75).trans rfl
theorem I_215_77 : ins 215 77 = some (.iadd, 0, 0, [], none) := (L_215_0 77).trans rfl
theorem I_215_78 : ins 215 78 = some (.aload_n 0, 0, 0, [], none) := (L_215_0 78).trans rfl
theorem I_215_79 : ins 215 79 = some (.getfield 7, 0, 0, [(10, 96)], none) := (L_215_0 79).trans rfl
theorem I_215_82 : ins 215 82 = some (.iload_n 2, 0, 0, [], none) := (L_215_0 82).trans rfl
theorem I_215_83 : ins 215 83 = some (.iaload, 0, 0, [], none) := (L_215_0 83).trans rfl
theorem I_215_84 : ins 215 84 = some (.aload_n 0, 0, 0, [], none) := (L_215_0 84).trans rfl
theorem I_215_85 : ins 215 85 = some (.getfield 46, 14, 0, [(10, 108)], none) := (L_215_0 85).trans rfl
theorem I_215_88 : ins 215 88 = some (.iload 4, 0, 0, [], none) := (L_215_0 88).trans rfl
theorem I_215_90 : ins 215 90 = some (.iaload, 0, 0, [], none) := (L_215_0 90).trans rfl
theorem I_215_91 : ins 215 91 = some (.invokestatic 93, 2, 0, [(0, 184)], none) := (L_215_0 91).trans rfl
theorem I_215_94 : ins 215 94 = some (.iastore, 0, 0, [], none) := (L_215_0 94).trans rfl
theorem I_215_95 : ins 215 95 = some (.iinc 4 1, 0, 0, [], none) := (L_215_0 95).trans rfl
theorem I_215_98 : ins 215 98 = some (.goto (-37), 61, 0, [], none) := (L_215_0 98).trans rfl
theorem I_215_101 : ins 215 101 = some (.iload_n 3, 0, 0, [], some [3]) := (L_215_0 101).trans rfl
theorem I_215_102 : ins 215 102 = some (.ireturn, 0, 0, [], none) := (L_215_0 102).trans rfl
theorem L_216_0 (pc : Nat) : ins 216 pc = fnd iT216 pc := rfl
theorem I_216_0 : ins 216 0 = some (.aload_n 0, 0, 0, [], none) := (L_216_0 0).trans rfl
theorem I_216_1 : ins 216 1 = some (.invokevirtual 134, 0, 0, [(10, 194)], none) := (L_216_0 1).trans rfl
theorem I_216_4 : ins 216 4 = some (.iload_n 1, 0, 0, [], none) := (L_216_0 4).trans rfl
theorem I_216_5 : ins 216 5 = some (.tableswitch 84 0 8 #[51, 51, 51, 58, 58, 58, 67, 74, 79], 89, 0, [(0, 56), (1, 56), (2, 56), (3, 63), (4, 63), (5, 63), (6, 72), (7, 79), (8, 84)], none) := (L_216_0 5).trans rfl
theorem I_216_56 : ins 216 56 = some (.aload_n 0, 0, 0, [], some [0, 1]) := (L_216_0 56).trans rfl
theorem I_216_57 : ins 216 57 = some (.getfield 28, 8, 0, [(10, 102)], none) := (L_216_0 57).trans rfl
theorem I_216_60 : ins 216 60 = some (.iload_n 1, 0, 0, [], none) := (L_216_0 60).trans rfl
theorem I_216_61 : ins 216 61 = some (.iaload, 0, 0, [], none) := (L_216_0 61).trans rfl
theorem I_216_62 : ins 216 62 = some (.ireturn, 0, 0, [], none) := (L_216_0 62).trans rfl
theorem I_216_63 : ins 216 63 = some (.aload_n 0, 0, 0, [], some [0, 1]) := (L_216_0 63).trans rfl
theorem I_216_64 : ins 216 64 = some (.getfield 25, 6, 0, [(10, 101)], none) := (L_216_0 64).trans rfl
theorem I_216_67 : ins 216 67 = some (.iload_n 1, 0, 0, [], none) := (L_216_0 67).trans rfl
theorem I_216_68 : ins 216 68 = some (.iconst 3, 0, 0, [], none) := (L_216_0 68).trans rfl
theorem I_216_69 : ins 216 69 = some (.isub, 0, 0, [], none) := (L_216_0 69).trans rfl
theorem I_216_70 : ins 216 70 = some (.iaload, 0, 0, [], none) := (L_216_0 70).trans rfl
theorem I_216_71 : ins 216 71 = some (.ireturn, 0, 0, [], none) := (L_216_0 71).trans rfl
theorem I_216_72 : ins 216 72 = some (.aload_n 0, 0, 0, [], some [0]) := (L_216_0 72).trans rfl
theorem I_216_73 : ins 216 73 = some (.getfield 40, 12, 0, [(10, 106)], none) := (L_216_0 73).trans rfl
theorem I_216_76 : ins 216 76 = some (.iconst 0, 0, 0, [], none) := (L_216_0 76).trans rfl
theorem I_216_77 : ins 216 77 = some (.iaload, 0, 0, [], none) := (L_216_0 77).trans rfl
theorem I_216_78 : ins 216 78 = some (.ireturn, 0, 0, [], none) := (L_216_0 78).trans rfl
theorem I_216_79 : ins 216 79 = some (.aload_n 0, 0, 0, [], some [0]) := (L_216_0 79).trans rfl
theorem I_216_80 : ins 216 80 = some (.getfield 239, 18, 0, [(10, 117)], none) := (L_216_0 80).trans rfl
theorem I_216_83 : ins 216 83 = some (.ireturn, 0, 0, [], none) := (L_216_0 83).trans rfl
theorem I_216_84 : ins 216 84 = some (.aload_n 0, 0, 0, [], some [0]) := (L_216_0 84).trans rfl
theorem I_216_85 : ins 216 85 = some (.getfield 73, 4, 0, [(10, 115)], none) := (L_216_0 85).trans rfl
theorem I_216_88 : ins 216 88 = some (.ireturn, 0, 0, [], none) := (L_216_0 88).trans rfl
theorem I_216_89 : ins 216 89 = some (.bipush (-2), 0, 0, [], some []) := (L_216_0 89).trans rfl
theorem I_216_91 : ins 216 91 = some (.ireturn, 0, 0, [], none) := (L_216_0 91).trans rfl
theorem L_217_0 (pc : Nat) : ins 217 pc = fnd (iT217_0 ++ (iT217_1 ++ (iT217_2))) pc := rfl
theorem L_217_1 (pc : Nat) (h : Nat.ble 71 pc = true) : ins 217 pc = fnd (iT217_1 ++ (iT217_2)) pc := (L_217_0 pc).trans (fnd_app (lo := 71) rfl (Nat.le_of_ble_eq_true h))
theorem L_217_2 (pc : Nat) (h : Nat.ble 143 pc = true) : ins 217 pc = fnd (iT217_2) pc := (L_217_1 pc (Nat.ble_eq.mpr (Nat.le_trans (Nat.le_of_ble_eq_true (rfl : Nat.ble 71 143 = true)) (Nat.le_of_ble_eq_true h)))).trans (fnd_app (lo := 143) rfl (Nat.le_of_ble_eq_true h))
theorem I_217_0 : ins 217 0 = some (.lload_n 1, 0, 0, [], none) := (L_217_0 0).trans rfl
theorem I_217_1 : ins 217 1 = some (.lstore 4, 0, 0, [], none) := (L_217_0 1).trans rfl
theorem I_217_3 : ins 217 3 = some (.iconst 0, 0, 0, [], none) := (L_217_0 3).trans rfl
theorem I_217_4 : ins 217 4 = some (.istore 6, 0, 0, [], none) := (L_217_0 4).trans rfl
theorem I_217_6 : ins 217 6 = some (.iload 6, 0, 0, [], some [0, 3, 4, 6]) := (L_217_0 6).trans rfl
theorem I_217_8 : ins 217 8 = some (.aload_n 0, 0, 0, [], none) := (L_217_0 8).trans rfl
theorem I_217_9 : ins 217 9 = some (.getfield 28, 8, 0, [(10, 102)], none) := (L_217_0 9).trans rfl
theorem I_217_12 : ins 217 12 = some (.iconst 0, 0, 0, [], none) := (L_217_0 12).trans rfl
theorem I_217_13 : ins 217 13 = some (.iaload, 0, 0, [], none) := (L_217_0 13).trans rfl
theorem I_217_14 : ins 217 14 = some (.if_icmp .ge 26, 40, 0, [], none) := (L_217_0 14).trans rfl
theorem I_217_17 : ins 217 17 = some (.ldc2_w 281, 1373, 31, [], some [0, 3, 4, 6]) := (L_217_0 17).trans rfl
theorem I_217_20 : ins 217 20 = some (.lload 4, 0, 0, [], none) := (L_217_0 20).trans rfl
theorem I_217_22 : ins 217 22 = some (.lmul, 0, 0, [], none) := (L_217_0 22).trans rfl
theorem I_217_23 : ins 217 23 = some (.aload_n 0, 0, 0, [], none) := (L_217_0 23).trans rfl
theorem I_217_24 : ins 217 24 = some (.iload_n 3, 0, 0, [], none) := (L_217_0 24).trans rfl
theorem I_217_25 : ins 217 25 = some (.iload 6, 0, 0, [], none) := (L_217_0 25).trans rfl
theorem I_217_27 : ins 217 27 = some (.invokevirtual 189, 2, 0, [(10, 210)], none) := (L_217_0 27).trans rfl
theorem I_217_30 : ins 217 30 = some (.i2l, 0, 0, [], none) := (L_217_0 30).trans rfl
theorem I_217_31 : ins 217 31 = some (.ladd, 0, 0, [], none) := (L_217_0 31).trans rfl
theorem I_217_32 : ins 217 32 = some (.lstore 4, 0, 0, [], none) := (L_217_0 32).trans rfl
theorem I_217_34 : ins 217 34 = some (.iinc 6 1, 0, 0, [], none) := (L_217_0 34).trans rfl
theorem I_217_37 : ins 217 37 = some (.goto (-31), 6, 0, [], none) := (L_217_0 37).trans rfl
theorem I_217_40 : ins 217 40 = some (.iconst 0, 0, 0, [], some [0, 3, 4]) := (L_217_0 40).trans rfl
theorem I_217_41 : ins 217 41 = some (.istore 6, 0, 0, [], none) := (L_217_0 41).trans rfl
theorem I_217_43 : ins 217 43 = some (.iload 6, 0, 0, [], some [0, 3, 4, 6]) := (L_217_0 43).trans rfl
theorem I_217_45 : ins 217 45 = some (.aload_n 0, 0, 0, [], none) := (L_217_0 45).trans rfl
theorem I_217_46 : ins 217 46 = some (.getfield 28, 8, 0, [(10, 102)], none) := (L_217_0 46).trans rfl
theorem I_217_49 : ins 217 49 = some (.iconst 1, 0, 0, [], none) := (L_217_0 49).trans rfl
theorem I_217_50 : ins 217 50 = some (.iaload, 0, 0, [], none) := (L_217_0 50).trans rfl
theorem I_217_51 : ins 217 51 = some (.if_icmp .ge 60, 111, 0, [], none) := (L_217_0 51).trans rfl
theorem I_217_54 : ins 217 54 = some (.iconst 0, 0, 0, [], some [0, 3, 4, 6]) := (L_217_0 54).trans rfl
theorem I_217_55 : ins 217 55 = some (.istore 7, 0, 0, [], none) := (L_217_0 55).trans rfl
theorem I_217_57 : ins 217 57 = some (.iload 7, 0, 0, [], some [0, 3, 4, 6, 7]) := (L_217_0 57).trans rfl
theorem I_217_59 : ins 217 59 = some (.iconst 3, 0, 0, [], none) := (L_217_0 59).trans rfl
theorem I_217_60 : ins 217 60 = some (.if_icmp .ge 28, 88, 0, [], none) := (L_217_0 60).trans rfl
theorem I_217_63 : ins 217 63 = some (.ldc2_w 281, 1373, 31, [], some [0, 3, 4, 6, 7]) := (L_217_0 63).trans rfl
theorem I_217_66 : ins 217 66 = some (.lload 4, 0, 0, [], none) := (L_217_0 66).trans rfl
theorem I_217_68 : ins 217 68 = some (.lmul, 0, 0, [], none) := (L_217_0 68).trans rfl
theorem I_217_69 : ins 217 69 = some (.aload_n 0, 0, 0, [], none) := (L_217_0 69).trans rfl
theorem I_217_70 : ins 217 70 = some (.iload_n 3, 0, 0, [], none) := (L_217_0 70).trans rfl
theorem I_217_71 : ins 217 71 = some (.iload 6, 0, 0, [], none) := (L_217_1 71 rfl).trans rfl
theorem I_217_73 : ins 217 73 = some (.iload 7, 0, 0, [], none) := (L_217_1 73 rfl).trans rfl
theorem I_217_75 : ins 217 75 = some (.invokevirtual 183, 3, 0, [(10, 208)], none) := (L_217_1 75 rfl).trans rfl
theorem I_217_78 : ins 217 78 = some (.i2l, 0, 0, [], none) := (L_217_1 78 rfl).trans rfl
theorem I_217_79 : ins 217 79 = some (.ladd, 0, 0, [], none) := (L_217_1 79 rfl).trans rfl
theorem I_217_80 : ins 217 80 = some (.lstore 4, 0, 0, [], none) := (L_217_1 80 rfl).trans rfl
theorem I_217_82 : ins 217 82 = some (.iinc 7 1, 0, 0, [], none) := (L_217_1 82 rfl).trans rfl
theorem I_217_85 : ins 217 85 = some (.goto (-28), 57, 0, [], none) := (L_217_1 85 rfl).trans rfl
theorem I_217_88 : ins 217 88 = some (.ldc2_w 281, 1373, 31, [], some [0, 3, 4, 6]) := (L_217_1 88 rfl).trans rfl
theorem I_217_91 : ins 217 91 = some (.lload 4, 0, 0, [], none) := (L_217_1 91 rfl).trans rfl
theorem I_217_93 : ins 217 93 = some (.lmul, 0, 0, [], none) := (L_217_1 93 rfl).trans rfl
theorem I_217_94 : ins 217 94 = some (.aload_n 0, 0, 0, [], none) := (L_217_1 94 rfl).trans rfl
theorem I_217_95 : ins 217 95 = some (.iload_n 3, 0, 0, [], none) := (L_217_1 95 rfl).trans rfl
theorem I_217_96 : ins 217 96 = some (.iload 6, 0, 0, [], none) := (L_217_1 96 rfl).trans rfl
theorem I_217_98 : ins 217 98 = some (.invokevirtual 186, 2, 0, [(10, 209)], none) := (L_217_1 98 rfl).trans rfl
theorem I_217_101 : ins 217 101 = some (.i2l, 0, 0, [], none) := (L_217_1 101 rfl).trans rfl
theorem I_217_102 : ins 217 102 = some (.ladd, 0, 0, [], none) := (L_217_1 102 rfl).trans rfl
theorem I_217_103 : ins 217 103 = some (.lstore 4, 0, 0, [], none) := (L_217_1 103 rfl).trans rfl
theorem I_217_105 : ins 217 105 = some (.iinc 6 1, 0, 0, [], none) := (L_217_1 105 rfl).trans rfl
theorem I_217_108 : ins 217 108 = some (.goto (-65), 43, 0, [], none) := (L_217_1 108 rfl).trans rfl
theorem I_217_111 : ins 217 111 = some (.ldc2_w 281, 1373, 31, [], some [0, 3, 4]) := (L_217_1 111 rfl).trans rfl
theorem I_217_114 : ins 217 114 = some (.lload 4, 0, 0, [], none) := (L_217_1 114 rfl).trans rfl
theorem I_217_116 : ins 217 116 = some (.lmul, 0, 0, [], none) := (L_217_1 116 rfl).trans rfl
theorem I_217_117 : ins 217 117 = some (.aload_n 0, 0, 0, [], none) := (L_217_1 117 rfl).trans rfl
theorem I_217_118 : ins 217 118 = some (.iload_n 3, 0, 0, [], none) := (L_217_1 118 rfl).trans rfl
theorem I_217_119 : ins 217 119 = some (.iconst 0, 0, 0, [], none) := (L_217_1 119 rfl).trans rfl
theorem I_217_120 : ins 217 120 = some (.invokevirtual 195, 2, 0, [(10, 212)], none) := (L_217_1 120 rfl).trans rfl
theorem I_217_123 : ins 217 123 = some (.i2l, 0, 0, [], none) := (L_217_1 123 rfl).trans rfl
theorem I_217_124 : ins 217 124 = some (.ladd, 0, 0, [], none) := (L_217_1 124 rfl).trans rfl
theorem I_217_125 : ins 217 125 = some (.lstore 4, 0, 0, [], none) := (L_217_1 125 rfl).trans rfl
theorem I_217_127 : ins 217 127 = some (.ldc2_w 281, 1373, 31, [], none) := (L_217_1 127 rfl).trans rfl
theorem I_217_130 : ins 217 130 = some (.lload 4, 0, 0, [], none) := (L_217_1 130 rfl).trans rfl
theorem I_217_132 : ins 217 132 = some (.lmul, 0, 0, [], none) := (L_217_1 132 rfl).trans rfl
theorem I_217_133 : ins 217 133 = some (.aload_n 0, 0, 0, [], none) := (L_217_1 133 rfl).trans rfl
theorem I_217_134 : ins 217 134 = some (.iload_n 3, 0, 0, [], none) := (L_217_1 134 rfl).trans rfl
theorem I_217_135 : ins 217 135 = some (.iconst 1, 0, 0, [], none) := (L_217_1 135 rfl).trans rfl
theorem I_217_136 : ins 217 136 = some (.invokevirtual 195, 2, 0, [(10, 212)], none) := (L_217_1 136 rfl).trans rfl
theorem I_217_139 : ins 217 139 = some (.i2l, 0, 0, [], none) := (L_217_1 139 rfl).trans rfl
theorem I_217_140 : ins 217 140 = some (.ladd, 0, 0, [], none) := (L_217_1 140 rfl).trans rfl
theorem I_217_141 : ins 217 141 = some (.lstore 4, 0, 0, [], none) := (L_217_1 141 rfl).trans rfl
theorem I_217_143 : ins 217 143 = some (.ldc2_w 281, 1373, 31, [], none) := (L_217_2 143 rfl).trans rfl
theorem I_217_146 : ins 217 146 = some (.lload 4, 0, 0, [], none) := (L_217_2 146 rfl).trans rfl
theorem I_217_148 : ins 217 148 = some (.lmul, 0, 0, [], none) := (L_217_2 148 rfl).trans rfl
theorem I_217_149 : ins 217 149 = some (.aload_n 0, 0, 0, [], none) := (L_217_2 149 rfl).trans rfl
theorem I_217_150 : ins 217 150 = some (.iload_n 3, 0, 0, [], none) := (L_217_2 150 rfl).trans rfl
theorem I_217_151 : ins 217 151 = some (.iconst (-1), 0, 0, [], none) := (L_217_2 151 rfl).trans rfl
theorem I_217_152 : ins 217 152 = some (.invokevirtual 208, 2, 0, [(10, 215)], none) := (L_217_2 152 rfl).trans rfl
theorem I_217_155 : ins 217 155 = some (.i2l, 0, 0, [], none) := (L_217_2 155 rfl).trans rfl
theorem I_217_156 : ins 217 156 = some (.ladd, 0, 0, [], none) := (L_217_2 156 rfl).trans rfl
theorem I_217_157 : ins 217 157 = some (.lstore 4, 0, 0, [], none) := (L_217_2 157 rfl).trans rfl
theorem I_217_159 : ins 217 159 = some (.ldc2_w 281, 1373, 31, [], none) := (L_217_2 159 rfl).trans rfl
theorem I_217_162 : ins 217 162 = some (.lload 4, 0, 0, [], none) := (L_217_2 162 rfl).trans rfl
theorem I_217_164 : ins 217 164 = some (.lmul, 0, 0, [], none) := (L_217_2 164 rfl).trans rfl
theorem I_217_165 : ins 217 165 = some (.aload_n 0, 0, 0, [], none) := (L_217_2 165 rfl).trans rfl
theorem I_217_166 : ins 217 166 = some (.iload_n 3, 0, 0, [], none) := (L_217_2 166 rfl).trans rfl
theorem I_217_167 : ins 217 167 = some (.iconst 0, 0, 0, [], none) := (L_217_2 167 rfl).trans rfl
theorem I_217_168 : ins 217 168 = some (.invokevirtual 208, 2, 0, [(10, 215)], none) := (L_217_2 168 rfl).trans rfl
theorem I_217_171 : ins 217 171 = some (.i2l, 0, 0, [], none) := (L_217_2 171 rfl).trans rfl
theorem I_217_172 : ins 217 172 = some (.ladd, 0, 0, [], none) := (L_217_2 172 rfl).trans rfl
theorem I_217_173 : ins 217 173 = some (.lstore 4, 0, 0, [], none) := (L_217_2 173 rfl).trans rfl
theorem I_217_175 : ins 217 175 = some (.ldc2_w 281, 1373, 31, [], none) := (L_217_2 175 rfl).trans rfl
theorem I_217_178 : ins 217 178 = some (.lload 4, 0, 0, [], none) := (L_217_2 178 rfl).trans rfl
theorem I_217_180 : ins 217 180 = some (.lmul, 0, 0, [], none) := (L_217_2 180 rfl).trans rfl
theorem I_217_181 : ins 217 181 = some (.aload_n 0, 0, 0, [], none) := (L_217_2 181 rfl).trans rfl
theorem I_217_182 : ins 217 182 = some (.iload_n 3, 0, 0, [], none) := (L_217_2 182 rfl).trans rfl
theorem I_217_183 : ins 217 183 = some (.bipush 60, 0, 0, [], none) := (L_217_2 183 rfl).trans rfl
theorem I_217_185 : ins 217 185 = some (.invokevirtual 234, 2, 0, [(10, 221)], none) := (L_217_2 185 rfl).trans rfl
theorem I_217_188 : ins 217 188 = some (.i2l, 0, 0, [], none) := (L_217_2 188 rfl).trans rfl
theorem I_217_189 : ins 217 189 = some (.ladd, 0, 0, [], none) := (L_217_2 189 rfl).trans rfl
theorem I_217_190 : ins 217 190 = some (.lreturn, 0, 0, [], none) := (L_217_2 190 rfl).trans rfl
theorem L_218_0 (pc : Nat) : ins 218 pc = fnd (iT218_0 ++ (iT218_1 ++ (iT218_2 ++ (iT218_3 ++ (iT218_4 ++ (iT218_5)))))) pc := rfl
theorem L_218_1 (pc : Nat) (h : Nat.ble 65 pc = true) : ins 218 pc = fnd (iT218_1 ++ (iT218_2 ++ (iT218_3 ++ (iT218_4 ++ (iT218_5))))) pc := (L_218_0 pc).trans (fnd_app (lo := 65) rfl (Nat.le_of_ble_eq_true h))
theorem L_218_2 (pc : Nat) (h : Nat.ble 128 pc = true) : ins 218 pc = fnd (iT218_2 ++ (iT218_3 ++ (iT218_4 ++ (iT218_5)))) pc := (L_218_1 pc (Nat.ble_eq.mpr (Nat.le_trans (Nat.le_of_ble_eq_true (rfl : Nat.ble 65 128 = true)) (Nat.le_of_ble_eq_true h)))).trans (fnd_app (lo := 128) rfl (Nat.le_of_ble_eq_true h))
theorem L_218_3 (pc : Nat) (h : Nat.ble 193 pc = true) : ins 218 pc = fnd (iT218_3 ++ (iT218_4 ++ (iT218_5))) pc := (L_218_2 pc (Nat.ble_eq.mpr (Nat.le_trans (Nat.le_of_ble_eq_true (rfl : Nat.ble 128 193 = true)) (Nat.le_of_ble_eq_true h)))).trans (fnd_app (lo := 193) rfl (Nat.le_of_ble_eq_true h))
theorem L_218_4 (pc : Nat) (h : Nat.ble 255 pc = true) : ins 218 pc = fnd (iT218_4 ++ (iT218_5)) pc := (L_218_3 pc (Nat.ble_eq.mpr (Nat.le_trans (Nat.le_of_ble_eq_true (rfl : Nat.ble 193 255 = true)) (Nat.le_of_ble_eq_true h)))).trans (fnd_app (lo := 255) rfl (Nat.le_of_ble_eq_true h))
theorem L_218_5 (pc : Nat) (h : Nat.ble 313 pc = true) : ins 218 pc = fnd (iT218_5) pc := (L_218_4 pc (Nat.ble_eq.mpr (Nat.le_trans (Nat.le_of_ble_eq_true (rfl : Nat.ble 255 313 = true)) (Nat.le_of_ble_eq_true h)))).trans (fnd_app (lo := 313) rfl (Nat.le_of_ble_eq_true h))
theorem I_218_0 : ins 218 0 = some (.ldc2_w 283, 1372, 17, [], none) := (L_218_0 0).trans rfl
theorem I_218_3 : ins 218 3 = some (.lstore_n 1, 0, 0, [], none) := (L_218_0 3).trans rfl
theorem I_218_4 : ins 218 4 = some (.iconst 0, 0, 0, [], none) := (L_218_0 4).trans rfl
theorem I_218_5 : ins 218 5 = some (.istore_n 3, 0, 0, [], none) := (L_218_0 5).trans rfl
theorem I_218_6 : ins 218 6 = some (.iload_n 3, 0, 0, [], some [0, 1, 3]) := (L_218_0 6).trans rfl
theorem I_218_7 : ins 218 7 = some (.bipush 8, 0, 0, [], none) := (L_218_0 7).trans rfl
theorem I_218_9 : ins 218 9 = some (.if_icmp .ge 22, 31, 0, [], none) := (L_218_0 9).trans rfl
theorem I_218_12 : ins 218 12 = some (.ldc2_w 281, 1373, 31, [], some [0, 1, 3]) := (L_218_0 12).trans rfl
theorem I_218_15 : ins 218 15 = some (.lload_n 1, 0, 0, [], none) := (L_218_0 15).trans rfl
theorem I_218_16 : ins 218 16 = some (.lmul, 0, 0, [], none) := (L_218_0 16).trans rfl
theorem I_218_17 : ins 218 17 = some (.aload_n 0, 0, 0, [], none) := (L_218_0 17).trans rfl
theorem I_218_18 : ins 218 18 = some (.iload_n 3, 0, 0, [], none) := (L_218_0 18).trans rfl
theorem I_218_19 : ins 218 19 = some (.invokevirtual 285, 1, 0, [(10, 233)], none) := (L_218_0 19).trans rfl
theorem I_218_22 : ins 218 22 = some (.i2l, 0, 0, [], none) := (L_218_0 22).trans rfl
theorem I_218_23 : ins 218 23 = some (.ladd, 0, 0, [], none) := (L_218_0 23).trans rfl
theorem I_218_24 : ins 218 24 = some (.lstore_n 1, 0, 0, [], none) := (L_218_0 24).trans rfl
theorem I_218_25 : ins 218 25 = some (.iinc 3 1, 0, 0, [], none) := (L_218_0 25).trans rfl
theorem I_218_28 : ins 218 28 = some (.goto (-22), 6, 0, [], none) := (L_218_0 28).trans rfl
theorem I_218_31 : ins 218 31 = some (.iconst 0, 0, 0, [], some [0, 1]) := (L_218_0 31).trans rfl
theorem I_218_32 : ins 218 32 = some (.istore_n 3, 0, 0, [], none) := (L_218_0 32).trans rfl
theorem I_218_33 : ins 218 33 = some (.iload_n 3, 0, 0, [], some [0, 1, 3]) := (L_218_0 33).trans rfl
theorem I_218_34 : ins 218 34 = some (.iconst 3, 0, 0, [], none) := (L_218_0 34).trans rfl
theorem I_218_35 : ins 218 35 = some (.if_icmp .ge 22, 57, 0, [], none) := (L_218_0 35).trans rfl
theorem I_218_38 : ins 218 38 = some (.ldc2_w 281, 1373, 31, [], some [0, 1, 3]) := (L_218_0 38).trans rfl
theorem I_218_41 : ins 218 41 = some (.lload_n 1, 0, 0, [], none) := (L_218_0 41).trans rfl
theorem I_218_42 : ins 218 42 = some (.lmul, 0, 0, [], none) := (L_218_0 42).trans rfl
theorem I_218_43 : ins 218 43 = some (.aload_n 0, 0, 0, [], none) := (L_218_0 43).trans rfl
theorem I_218_44 : ins 218 44 = some (.iload_n 3, 0, 0, [], none) := (L_218_0 44).trans rfl
theorem I_218_45 : ins 218 45 = some (.invokevirtual 131, 1, 0, [(10, 193)], none) := (L_218_0 45).trans rfl
theorem I_218_48 : ins 218 48 = some (.i2l, 0, 0, [], none) := (L_218_0 48).trans rfl
theorem I_218_49 : ins 218 49 = some (.ladd, 0, 0, [], none) := (L_218_0 49).trans rfl
theorem I_218_50 : ins 218 50 = some (.lstore_n 1, 0, 0, [], none) := (L_218_0 50).trans rfl
theorem I_218_51 : ins 218 51 = some (.iinc 3 1, 0, 0, [], none) := (L_218_0 51).trans rfl
theorem I_218_54 : ins 218 54 = some (.goto (-21), 33, 0, [], none) := (L_218_0 54).trans rfl
theorem I_218_57 : ins 218 57 = some (.iconst 0, 0, 0, [], some [0, 1]) := (L_218_0 57).trans rfl
theorem I_218_58 : ins 218 58 = some (.istore_n 3, 0, 0, [], none) := (L_218_0 58).trans rfl
theorem I_218_59 : ins 218 59 = some (.iload_n 3, 0, 0, [], some [0, 1, 3]) := (L_218_0 59).trans rfl
theorem I_218_60 : ins 218 60 = some (.aload_n 0, 0, 0, [], none) := (L_218_0 60).trans rfl
theorem I_218_61 : ins 218 61 = some (.getfield 28, 8, 0, [(10, 102)], none) := (L_218_0 61).trans rfl
theorem I_218_64 : ins 218 64 = some (.iconst 0, 0, 0, [], none) := (L_218_0 64).trans rfl
theorem I_218_65 : ins 218 65 = some (.iaload, 0, 0, [], none) := (L_218_1 65 rfl).trans rfl
theorem I_218_66 : ins 218 66 = some (.if_icmp .ge 69, 135, 0, [], none) := (L_218_1 66 rfl).trans rfl
theorem I_218_69 : ins 218 69 = some (.iconst 0, 0, 0, [], some [0, 1, 3]) := (L_218_1 69 rfl).trans rfl
theorem I_218_70 : ins 218 70 = some (.istore 4, 0, 0, [], none) := (L_218_1 70 rfl).trans rfl
theorem I_218_72 : ins 218 72 = some (.iload 4, 0, 0, [], some [0, 1, 3, 4]) := (L_218_1 72 rfl).trans rfl
theorem I_218_74 : ins 218 74 = some (.iconst 4, 0, 0, [], none) := (L_218_1 74 rfl).trans rfl
theorem I_218_75 : ins 218 75 = some (.if_icmp .ge 28, 103, 0, [], none) := (L_218_1 75 rfl).trans rfl
theorem I_218_78 : ins 218 78 = some (.ldc2_w 281, 1373, 31, [], some [0, 1, 3, 4]) := (L_218_1 78 rfl).trans rfl
theorem I_218_81 : ins 218 81 = some (.lload_n 1, 0, 0, [], none) := (L_218_1 81 rfl).trans rfl
theorem I_218_82 : ins 218 82 = some (.lmul, 0, 0, [], none) := (L_218_1 82 rfl).trans rfl
theorem I_218_83 : ins 218 83 = some (.aload_n 0, 0, 0, [], none) := (L_218_1 83 rfl).trans rfl
theorem I_218_84 : ins 218 84 = some (.getfield 31, 9, 0, [(10, 103)], none) := (L_218_1 84 rfl).trans rfl
theorem I_218_87 : ins 218 87 = some (.iconst 4, 0, 0, [], none) := (L_218_1 87 rfl).trans rfl
theorem I_218_88 : ins 218 88 = some (.iload_n 3, 0, 0, [], none) := (L_218_1 88 rfl).trans rfl
theorem I_218_89 : ins 218 89 = some (.imul, 0, 0, [], none) := (L_218_1 89 rfl).trans rfl
theorem I_218_90 : ins 218 90 = some (.iload 4, 0, 0, [], none) := (L_218_1 90 rfl).trans rfl
theorem I_218_92 : ins 218 92 = some (.iadd, 0, 0, [], none) := (L_218_1 92 rfl).trans rfl
theorem I_218_93 : ins 218 93 = some (.iaload, 0, 0, [], none) := (L_218_1 93 rfl).trans rfl
theorem I_218_94 : ins 218 94 = some (.i2l, 0, 0, [], none) := (L_218_1 94 rfl).trans rfl
theorem I_218_95 : ins 218 95 = some (.ladd, 0, 0, [], none) := (L_218_1 95 rfl).trans rfl
theorem I_218_96 : ins 218 96 = some (.lstore_n 1, 0, 0, [], none) := (L_218_1 96 rfl).trans rfl
theorem I_218_97 : ins 218 97 = some (.iinc 4 1, 0, 0, [], none) := (L_218_1 97 rfl).trans rfl
theorem I_218_100 : ins 218 100 = some (.goto (-28), 72, 0, [], none) := (L_218_1 100 rfl).trans rfl
theorem I_218_103 : ins 218 103 = some (.ldc2_w 281, 1373, 31, [], some [0, 1, 3]) := (L_218_1 103 rfl).trans rfl
theorem I_218_106 : ins 218 106 = some (.lload_n 1, 0, 0, [], none) := (L_218_1 106 rfl).trans rfl
theorem I_218_107 : ins 218 107 = some (.lmul, 0, 0, [], none) := (L_218_1 107 rfl).trans rfl
theorem I_218_108 : ins 218 108 = some (.aload_n 0, 0, 0, [], none) := (L_218_1 108 rfl).trans rfl
theorem I_218_109 : ins 218 109 = some (.iload_n 3, 0, 0, [], none) := (L_218_1 109 rfl).trans rfl
theorem I_218_110 : ins 218 110 = some (.invokevirtual 201, 1, 0, [(10, 214)], none) := (L_218_1 110 rfl).trans rfl
theorem I_218_113 : ins 218 113 = some (.i2l, 0, 0, [], none) := (L_218_1 113 rfl).trans rfl
theorem I_218_114 : ins 218 114 = some (.ladd, 0, 0, [], none) := (L_218_1 114 rfl).trans rfl
theorem I_218_115 : ins 218 115 = some (.lstore_n 1, 0, 0, [], none) := (L_218_1 115 rfl).trans rfl
theorem I_218_116 : ins 218 116 = some (.ldc2_w 281, 1373, 31, [], none) := (L_218_1 116 rfl).trans rfl
theorem I_218_119 : ins 218 119 = some (.lload_n 1, 0, 0, [], none) := (L_218_1 119 rfl).trans rfl
theorem I_218_120 : ins 218 120 = some (.lmul, 0, 0, [], none) := (L_218_1 120 rfl).trans rfl
theorem I_218_121 : ins 218 121 = some (.aload_n 0, 0, 0, [], none) := (L_218_1 121 rfl).trans rfl
theorem I_218_122 : ins 218 122 = some (.iload_n 3, 0, 0, [], none) := (L_218_1 122 rfl).trans rfl
theorem I_218_123 : ins 218 123 = some (.invokevirtual 260, 1, 0, [(10, 228)], none) := (L_218_1 123 rfl).trans rfl
theorem I_218_126 : ins 218 126 = some (.i2l, 0, 0, [], none) := (L_218_1 126 rfl).trans rfl
theorem I_218_127 : ins 218 127 = some (.ladd, 0, 0, [], none) := (L_218_1 127 rfl).trans rfl
theorem I_218_128 : ins 218 128 = some (.lstore_n 1, 0, 0, [], none) := (L_218_2 128 rfl).trans rfl
theorem I_218_129 : ins 218 129 = some (.iinc 3 1, 0, 0, [], none) := (L_218_2 129 rfl).trans rfl
theorem I_218_132 : ins 218 132 = some (.goto (-73), 59, 0, [], none) := (L_218_2 132 rfl).trans rfl
theorem I_218_135 : ins 218 135 = some (.iconst 0, 0, 0, [], some [0, 1]) := (L_218_2 135 rfl).trans rfl
theorem I_218_136 : ins 218 136 = some (.istore_n 3, 0, 0, [], none) := (L_218_2 136 rfl).trans rfl
theorem I_218_137 : ins 218 137 = some (.iload_n 3, 0, 0, [], some [0, 1, 3]) := (L_218_2 137 rfl).trans rfl
theorem I_218_138 : ins 218 138 = some (.aload_n 0, 0, 0, [], none) := (L_218_2 138 rfl).trans rfl
theorem I_218_139 : ins 218 139 = some (.getfield 28, 8, 0, [(10, 102)], none) := (L_218_2 139 rfl).trans rfl
theorem I_218_142 : ins 218 142 = some (.iconst 1, 0, 0, [], none) := (L_218_2 142 rfl).trans rfl
theorem I_218_143 : ins 218 143 = some (.iaload, 0, 0, [], none) := (L_218_2 143 rfl).trans rfl
theorem I_218_144 : ins 218 144 = some (.if_icmp .ge 100, 244, 0, [], none) := (L_218_2 144 rfl).trans rfl
theorem I_218_147 : ins 218 147 = some (.iconst 0, 0, 0, [], some [0, 1, 3]) := (L_218_2 147 rfl).trans rfl
theorem I_218_148 : ins 218 148 = some (.istore 4, 0, 0, [], none) := (L_218_2 148 rfl).trans rfl
theorem I_218_150 : ins 218 150 = some (.iload 4, 0, 0, [], some [0, 1, 3, 4]) := (L_218_2 150 rfl).trans rfl
theorem I_218_152 : ins 218 152 = some (.iconst 4, 0, 0, [], none) := (L_218_2 152 rfl).trans rfl
theorem I_218_153 : ins 218 153 = some (.if_icmp .ge 28, 181, 0, [], none) := (L_218_2 153 rfl).trans rfl
theorem I_218_156 : ins 218 156 = some (.ldc2_w 281, 1373, 31, [], some [0, 1, 3, 4]) := (L_218_2 156 rfl).trans rfl
theorem I_218_159 : ins 218 159 = some (.lload_n 1, 0, 0, [], none) := (L_218_2 159 rfl).trans rfl
theorem I_218_160 : ins 218 160 = some (.lmul, 0, 0, [], none) := (L_218_2 160 rfl).trans rfl
theorem I_218_161 : ins 218 161 = some (.aload_n 0, 0, 0, [], none) := (L_218_2 161 rfl).trans rfl
theorem I_218_162 : ins 218 162 = some (.getfield 34, 10, 0, [(10, 104)], none) := (L_218_2 162 rfl).trans rfl
theorem I_218_165 : ins 218 165 = some (.iconst 4, 0, 0, [], none) := (L_218_2 165 rfl).trans rfl
theorem I_218_166 : ins 218 166 = some (.iload_n 3, 0, 0, [], none) := (L_218_2 166 rfl).trans rfl
theorem I_218_167 : ins 218 167 = some (.imul, 0, 0, [], none) := (L_218_2 167 rfl).trans rfl
theorem I_218_168 : ins 218 168 = some (.iload 4, 0, 0, [], none) := (L_218_2 168 rfl).trans rfl
theorem I_218_170 : ins 218 170 = some (.iadd, 0, 0, [], none) := (L_218_2 170 rfl).trans rfl
theorem I_218_171 : ins 218 171 = some (.iaload, 0, 0, [], none) := (L_218_2 171 rfl).trans rfl
theorem I_218_172 : ins 218 172 = some (.i2l, 0, 0, [], none) := (L_218_2 172 rfl).trans rfl
theorem I_218_173 : ins 218 173 = some (.ladd, 0, 0, [], none) := (L_218_2 173 rfl).trans rfl
theorem I_218_174 : ins 218 174 = some (.lstore_n 1, 0, 0, [], none) := (L_218_2 174 rfl).trans rfl
theorem I_218_175 : ins 218 175 = some (.iinc 4 1, 0, 0, [], none) := (L_218_2 175 rfl).trans rfl
theorem I_218_178 : ins 218 178 = some (.goto (-28), 150, 0, [], none) := (L_218_2 178 rfl).trans rfl
theorem I_218_181 : ins 218 181 = some (.ldc2_w 281, 1373, 31, [], some [0, 1, 3]) := (L_218_2 181 rfl).trans rfl
theorem I_218_184 : ins 218 184 = some (.lload_n 1, 0, 0, [], none) := (L_218_2 184 rfl).trans rfl
theorem I_218_185 : ins 218 185 = some (.lmul, 0, 0, [], none) := (L_218_2 185 rfl).trans rfl
theorem I_218_186 : ins 218 186 = some (.aload_n 0, 0, 0, [], none) := (L_218_2 186 rfl).trans rfl
theorem I_218_187 : ins 218 187 = some (.iconst 5, 0, 0, [], none) := (L_218_2 187 rfl).trans rfl
theorem I_218_188 : ins 218 188 = some (.iload_n 3, 0, 0, [], none) := (L_218_2 188 rfl).trans rfl
theorem I_218_189 : ins 218 189 = some (.aload_n 0, 0, 0, [], none) := (L_218_2 189 rfl).trans rfl
theorem I_218_190 : ins 218 190 = some (.getfield 28, 8, 0, [(10, 102)], none) := (L_218_2 190 rfl).trans rfl
theorem I_218_193 : ins 218 193 = some (.iconst 2, 0, 0, [], none) := (L_218_3 193 rfl).trans rfl
theorem I_218_194 : ins 218 194 = some (.iaload, 0, 0, [], none) := (L_218_3 194 rfl).trans rfl
theorem I_218_195 : ins 218 195 = some (.iconst 0, 0, 0, [], none) := (L_218_3 195 rfl).trans rfl
theorem I_218_196 : ins 218 196 = some (.invokevirtual 288, 4, 0, [(10, 234)], none) := (L_218_3 196 rfl).trans rfl
theorem I_218_199 : ins 218 199 = some (.ladd, 0, 0, [], none) := (L_218_3 199 rfl).trans rfl
theorem I_218_200 : ins 218 200 = some (.lstore_n 1, 0, 0, [], none) := (L_218_3 200 rfl).trans rfl
theorem I_218_201 : ins 218 201 = some (.ldc2_w 281, 1373, 31, [], none) := (L_218_3 201 rfl).trans rfl
theorem I_218_204 : ins 218 204 = some (.lload_n 1, 0, 0, [], none) := (L_218_3 204 rfl).trans rfl
theorem I_218_205 : ins 218 205 = some (.lmul, 0, 0, [], none) := (L_218_3 205 rfl).trans rfl
theorem I_218_206 : ins 218 206 = some (.aload_n 0, 0, 0, [], none) := (L_218_3 206 rfl).trans rfl
theorem I_218_207 : ins 218 207 = some (.iconst 5, 0, 0, [], none) := (L_218_3 207 rfl).trans rfl
theorem I_218_208 : ins 218 208 = some (.iload_n 3, 0, 0, [], none) := (L_218_3 208 rfl).trans rfl
theorem I_218_209 : ins 218 209 = some (.aload_n 0, 0, 0, [], none) := (L_218_3 209 rfl).trans rfl
theorem I_218_210 : ins 218 210 = some (.getfield 28, 8, 0, [(10, 102)], none) := (L_218_3 210 rfl).trans rfl
theorem I_218_213 : ins 218 213 = some (.iconst 2, 0, 0, [], none) := (L_218_3 213 rfl).trans rfl
theorem I_218_214 : ins 218 214 = some (.iaload, 0, 0, [], none) := (L_218_3 214 rfl).trans rfl
theorem I_218_215 : ins 218 215 = some (.iconst 1, 0, 0, [], none) := (L_218_3 215 rfl).trans rfl
theorem I_218_216 : ins 218 216 = some (.invokevirtual 288, 4, 0, [(10, 234)], none) := (L_218_3 216 rfl).trans rfl
theorem I_218_219 : ins 218 219 = some (.ladd, 0, 0, [], none) := (L_218_3 219 rfl).trans rfl
theorem I_218_220 : ins 218 220 = some (.lstore_n 1, 0, 0, [], none) := (L_218_3 220 rfl).trans rfl
theorem I_218_221 : ins 218 221 = some (.ldc2_w 281, 1373, 31, [], none) := (L_218_3 221 rfl).trans rfl
theorem I_218_224 : ins 218 224 = some (.lload_n 1, 0, 0, [], none) := (L_218_3 224 rfl).trans rfl
theorem I_218_225 : ins 218 225 = some (.lmul, 0, 0, [], none) := (L_218_3 225 rfl).trans rfl
theorem I_218_226 : ins 218 226 = some (.aload_n 0, 0, 0, [], none) := (L_218_3 226 rfl).trans rfl
theorem I_218_227 : ins 218 227 = some (.bipush 7, 0, 0, [], none) := (L_218_3 227 rfl).trans rfl
theorem I_218_229 : ins 218 229 = some (.bipush 9, 0, 0, [], none) := (L_218_3 229 rfl).trans rfl
theorem I_218_231 : ins 218 231 = some (.iload_n 3, 0, 0, [], none) := (L_218_3 231 rfl).trans rfl
theorem I_218_232 : ins 218 232 = some (.invokevirtual 278, 3, 0, [(10, 232)], none) := (L_218_3 232 rfl).trans rfl
theorem I_218_235 : ins 218 235 = some (.i2l, 0, 0, [], none) := (L_218_3 235 rfl).trans rfl
theorem I_218_236 : ins 218 236 = some (.ladd, 0, 0, [], none) := (L_218_3 236 rfl).trans rfl
theorem I_218_237 : ins 218 237 = some (.lstore_n 1, 0, 0, [], none) := (L_218_3 237 rfl).trans rfl
theorem I_218_238 : ins 218 238 = some (.iinc 3 1, 0, 0, [], none) := (L_218_3 238 rfl).trans rfl
theorem I_218_241 : ins 218 241 = some (.goto (-104), 137, 0, [], none) := (L_218_3 241 rfl).trans rfl
theorem I_218_244 : ins 218 244 = some (.aload_n 0, 0, 0, [], some [0, 1]) := (L_218_3 244 rfl).trans rfl
theorem I_218_245 : ins 218 245 = some (.aload_n 0, 0, 0, [], none) := (L_218_3 245 rfl).trans rfl
theorem I_218_246 : ins 218 246 = some (.lload_n 1, 0, 0, [], none) := (L_218_3 246 rfl).trans rfl
theorem I_218_247 : ins 218 247 = some (.iconst 0, 0, 0, [], none) := (L_218_3 247 rfl).trans rfl
theorem I_218_248 : ins 218 248 = some (.invokevirtual 291, 2, 0, [(10, 235)], none) := (L_218_3 248 rfl).trans rfl
theorem I_218_251 : ins 218 251 = some (.aload_n 0, 0, 0, [], none) := (L_218_3 251 rfl).trans rfl
theorem I_218_252 : ins 218 252 = some (.getfield 28, 8, 0, [(10, 102)], none) := (L_218_3 252 rfl).trans rfl
theorem I_218_255 : ins 218 255 = some (.iconst 2, 0, 0, [], none) := (L_218_4 255 rfl).trans rfl
theorem I_218_256 : ins 218 256 = some (.iaload, 0, 0, [], none) := (L_218_4 256 rfl).trans rfl
theorem I_218_257 : ins 218 257 = some (.invokevirtual 291, 2, 0, [(10, 235)], none) := (L_218_4 257 rfl).trans rfl
theorem I_218_260 : ins 218 260 = some (.lstore_n 1, 0, 0, [], none) := (L_218_4 260 rfl).trans rfl
theorem I_218_261 : ins 218 261 = some (.ldc2_w 281, 1373, 31, [], none) := (L_218_4 261 rfl).trans rfl
theorem I_218_264 : ins 218 264 = some (.lload_n 1, 0, 0, [], none) := (L_218_4 264 rfl).trans rfl
theorem I_218_265 : ins 218 265 = some (.lmul, 0, 0, [], none) := (L_218_4 265 rfl).trans rfl
theorem I_218_266 : ins 218 266 = some (.aload_n 0, 0, 0, [], none) := (L_218_4 266 rfl).trans rfl
theorem I_218_267 : ins 218 267 = some (.iconst 0, 0, 0, [], none) := (L_218_4 267 rfl).trans rfl
theorem I_218_268 : ins 218 268 = some (.invokevirtual 198, 1, 0, [(10, 213)], none) := (L_218_4 268 rfl).trans rfl
theorem I_218_271 : ins 218 271 = some (.i2l, 0, 0, [], none) := (L_218_4 271 rfl).trans rfl
theorem I_218_272 : ins 218 272 = some (.ladd, 0, 0, [], none) := (L_218_4 272 rfl).trans rfl
theorem I_218_273 : ins 218 273 = some (.lstore_n 1, 0, 0, [], none) := (L_218_4 273 rfl).trans rfl
theorem I_218_274 : ins 218 274 = some (.ldc2_w 281, 1373, 31, [], none) := (L_218_4 274 rfl).trans rfl
theorem I_218_277 : ins 218 277 = some (.lload_n 1, 0, 0, [], none) := (L_218_4 277 rfl).trans rfl
theorem I_218_278 : ins 218 278 = some (.lmul, 0, 0, [], none) := (L_218_4 278 rfl).trans rfl
theorem I_218_279 : ins 218 279 = some (.aload_n 0, 0, 0, [], none) := (L_218_4 279 rfl).trans rfl
theorem I_218_280 : ins 218 280 = some (.iconst 1, 0, 0, [], none) := (L_218_4 280 rfl).trans rfl
theorem I_218_281 : ins 218 281 = some (.invokevirtual 198, 1, 0, [(10, 213)], none) := (L_218_4 281 rfl).trans rfl
theorem I_218_284 : ins 218 284 = some (.i2l, 0, 0, [], none) := (L_218_4 284 rfl).trans rfl
theorem I_218_285 : ins 218 285 = some (.ladd, 0, 0, [], none) := (L_218_4 285 rfl).trans rfl
theorem I_218_286 : ins 218 286 = some (.lstore_n 1, 0, 0, [], none) := (L_218_4 286 rfl).trans rfl
theorem I_218_287 : ins 218 287 = some (.ldc2_w 281, 1373, 31, [], none) := (L_218_4 287 rfl).trans rfl
theorem I_218_290 : ins 218 290 = some (.lload_n 1, 0, 0, [], none) := (L_218_4 290 rfl).trans rfl
theorem I_218_291 : ins 218 291 = some (.lmul, 0, 0, [], none) := (L_218_4 291 rfl).trans rfl
theorem I_218_292 : ins 218 292 = some (.aload_n 0, 0, 0, [], none) := (L_218_4 292 rfl).trans rfl
theorem I_218_293 : ins 218 293 = some (.iconst 0, 0, 0, [], none) := (L_218_4 293 rfl).trans rfl
theorem I_218_294 : ins 218 294 = some (.bipush 20, 0, 0, [], none) := (L_218_4 294 rfl).trans rfl
theorem I_218_296 : ins 218 296 = some (.iconst (-1), 0, 0, [], none) := (L_218_4 296 rfl).trans rfl
theorem I_218_297 : ins 218 297 = some (.invokevirtual 295, 3, 0, [(10, 236)], none) := (L_218_4 297 rfl).trans rfl
theorem I_218_300 : ins 218 300 = some (.i2l, 0, 0, [], none) := (L_218_4 300 rfl).trans rfl
theorem I_218_301 : ins 218 301 = some (.ladd, 0, 0, [], none) := (L_218_4 301 rfl).trans rfl
theorem I_218_302 : ins 218 302 = some (.lstore_n 1, 0, 0, [], none) := (L_218_4 302 rfl).trans rfl
theorem I_218_303 : ins 218 303 = some (.ldc2_w 281, 1373, 31, [], none) := (L_218_4 303 rfl).trans rfl
theorem I_218_306 : ins 218 306 = some (.lload_n 1, 0, 0, [], none) := (L_218_4 306 rfl).trans rfl
theorem I_218_307 : ins 218 307 = some (.lmul, 0, 0, [], none) := (L_218_4 307 rfl).trans rfl
theorem I_218_308 : ins 218 308 = some (.aload_n 0, 0, 0, [], none) := (L_218_4 308 rfl).trans rfl
theorem I_218_309 : ins 218 309 = some (.iconst 0, 0, 0, [], none) := (L_218_4 309 rfl).trans rfl
theorem I_218_310 : ins 218 310 = some (.bipush 20, 0, 0, [], none) := (L_218_4 310 rfl).trans rfl
theorem I_218_312 : ins 218 312 = some (.iconst 0, 0, 0, [], none) := (L_218_4 312 rfl).trans rfl
theorem I_218_313 : ins 218 313 = some (.invokevirtual 295, 3, 0, [(10, 236)], none) := (L_218_5 313 rfl).trans rfl
theorem I_218_316 : ins 218 316 = some (.i2l, 0, 0, [], none) := (L_218_5 316 rfl).trans rfl
theorem I_218_317 : ins 218 317 = some (.ladd, 0, 0, [], none) := (L_218_5 317 rfl).trans rfl
theorem I_218_318 : ins 218 318 = some (.lstore_n 1, 0, 0, [], none) := (L_218_5 318 rfl).trans rfl
theorem I_218_319 : ins 218 319 = some (.ldc2_w 281, 1373, 31, [], none) := (L_218_5 319 rfl).trans rfl
theorem I_218_322 : ins 218 322 = some (.lload_n 1, 0, 0, [], none) := (L_218_5 322 rfl).trans rfl
theorem I_218_323 : ins 218 323 = some (.lmul, 0, 0, [], none) := (L_218_5 323 rfl).trans rfl
theorem I_218_324 : ins 218 324 = some (.aload_n 0, 0, 0, [], none) := (L_218_5 324 rfl).trans rfl
theorem I_218_325 : ins 218 325 = some (.iconst 0, 0, 0, [], none) := (L_218_5 325 rfl).trans rfl
theorem I_218_326 : ins 218 326 = some (.invokevirtual 254, 1, 0, [(10, 226)], none) := (L_218_5 326 rfl).trans rfl
theorem I_218_329 : ins 218 329 = some (.i2l, 0, 0, [], none) := (L_218_5 329 rfl).trans rfl
theorem I_218_330 : ins 218 330 = some (.ladd, 0, 0, [], none) := (L_218_5 330 rfl).trans rfl
theorem I_218_331 : ins 218 331 = some (.lstore_n 1, 0, 0, [], none) := (L_218_5 331 rfl).trans rfl
theorem I_218_332 : ins 218 332 = some (.ldc2_w 281, 1373, 31, [], none) := (L_218_5 332 rfl).trans rfl
theorem I_218_335 : ins 218 335 = some (.lload_n 1, 0, 0, [], none) := (L_218_5 335 rfl).trans rfl
theorem I_218_336 : ins 218 336 = some (.lmul, 0, 0, [], none) := (L_218_5 336 rfl).trans rfl
theorem I_218_337 : ins 218 337 = some (.aload_n 0, 0, 0, [], none) := (L_218_5 337 rfl).trans rfl
theorem I_218_338 : ins 218 338 = some (.iconst 1, 0, 0, [], none) := (L_218_5 338 rfl).trans rfl
theorem I_218_339 : ins 218 339 = some (.invokevirtual 254, 1, 0, [(10, 226)], none) := (L_218_5 339 rfl).trans rfl
theorem I_218_342 : ins 218 342 = some (.i2l, 0, 0, [], none) := (L_218_5 342 rfl).trans rfl
theorem I_218_343 : ins 218 343 = some (.ladd, 0, 0, [], none) := (L_218_5 343 rfl).trans rfl
theorem I_218_344 : ins 218 344 = some (.lstore_n 1, 0, 0, [], none) := (L_218_5 344 rfl).trans rfl
theorem I_218_345 : ins 218 345 = some (.ldc2_w 281, 1373, 31, [], none) := (L_218_5 345 rfl).trans rfl
theorem I_218_348 : ins 218 348 = some (.lload_n 1, 0, 0, [], none) := (L_218_5 348 rfl).trans rfl
theorem I_218_349 : ins 218 349 = some (.lmul, 0, 0, [], none) := (L_218_5 349 rfl).trans rfl
theorem I_218_350 : ins 218 350 = some (.aload_n 0, 0, 0, [], none) := (L_218_5 350 rfl).trans rfl
theorem I_218_351 : ins 218 351 = some (.bipush 7, 0, 0, [], none) := (L_218_5 351 rfl).trans rfl
theorem I_218_353 : ins 218 353 = some (.bipush 9, 0, 0, [], none) := (L_218_5 353 rfl).trans rfl
theorem I_218_355 : ins 218 355 = some (.iconst (-1), 0, 0, [], none) := (L_218_5 355 rfl).trans rfl
theorem I_218_356 : ins 218 356 = some (.invokevirtual 278, 3, 0, [(10, 232)], none) := (L_218_5 356 rfl).trans rfl
theorem I_218_359 : ins 218 359 = some (.i2l, 0, 0, [], none) := (L_218_5 359 rfl).trans rfl
theorem I_218_360 : ins 218 360 = some (.ladd, 0, 0, [], none) := (L_218_5 360 rfl).trans rfl
theorem I_218_361 : ins 218 361 = some (.lreturn, 0, 0, [], none) := (L_218_5 361 rfl).trans rfl
theorem L_219_0 (pc : Nat) : ins 219 pc = fnd iT219 pc := rfl
theorem I_219_0 : ins 219 0 = some (.iload_n 0, 0, 0, [], none) := (L_219_0 0).trans rfl
theorem I_219_1 : ins 219 1 = some (.iload_n 0, 0, 0, [], none) := (L_219_0 1).trans rfl
theorem I_219_2 : ins 219 2 = some (.iconst 1, 0, 0, [], none) := (L_219_0 2).trans rfl
theorem I_219_3 : ins 219 3 = some (.iushr, 0, 0, [], none) := (L_219_0 3).trans rfl
theorem I_219_4 : ins 219 4 = some (.ldc_w 265, 590, 1431655765, [], none) := (L_219_0 4).trans rfl
theorem I_219_7 : ins 219 7 = some (.iand, 0, 0, [], none) := (L_219_0 7).trans rfl
theorem I_219_8 : ins 219 8 = some (.isub, 0, 0, [], none) := (L_219_0 8).trans rfl
theorem I_219_9 : ins 219 9 = some (.istore_n 0, 0, 0, [], none) := (L_219_0 9).trans rfl
theorem I_219_10 : ins 219 10 = some (.iload_n 0, 0, 0, [], none) := (L_219_0 10).trans rfl
theorem I_219_11 : ins 219 11 = some (.ldc_w 266, 591, 858993459, [], none) := (L_219_0 11).trans rfl
theorem I_219_14 : ins 219 14 = some (.iand, 0, 0, [], none) := (L_219_0 14).trans rfl
theorem I_219_15 : ins 219 15 = some (.iload_n 0, 0, 0, [], none) := (L_219_0 15).trans rfl
theorem I_219_16 : ins 219 16 = some (.iconst 2, 0, 0, [], none) := (L_219_0 16).trans rfl
theorem I_219_17 : ins 219 17 = some (.iushr, 0, 0, [], none) := (L_219_0 17).trans rfl
theorem I_219_18 : ins 219 18 = some (.ldc_w 266, 591, 858993459, [], none) := (L_219_0 18).trans rfl
theorem I_219_21 : ins 219 21 = some (.iand, 0, 0, [], none) := (L_219_0 21).trans rfl
theorem I_219_22 : ins 219 22 = some (.iadd, 0, 0, [], none) := (L_219_0 22).trans rfl
theorem I_219_23 : ins 219 23 = some (.istore_n 0, 0, 0, [], none) := (L_219_0 23).trans rfl
theorem I_219_24 : ins 219 24 = some (.iload_n 0, 0, 0, [], none) := (L_219_0 24).trans rfl
theorem I_219_25 : ins 219 25 = some (.iload_n 0, 0, 0, [], none) := (L_219_0 25).trans rfl
theorem I_219_26 : ins 219 26 = some (.iconst 4, 0, 0, [], none) := (L_219_0 26).trans rfl
theorem I_219_27 : ins 219 27 = some (.iushr, 0, 0, [], none) := (L_219_0 27).trans rfl
theorem I_219_28 : ins 219 28 = some (.iadd, 0, 0, [], none) := (L_219_0 28).trans rfl
theorem I_219_29 : ins 219 29 = some (.ldc_w 267, 592, 252645135, [], none) := (L_219_0 29).trans rfl
theorem I_219_32 : ins 219 32 = some (.iand, 0, 0, [], none) := (L_219_0 32).trans rfl
theorem I_219_33 : ins 219 33 = some (.istore_n 0, 0, 0, [], none) := (L_219_0 33).trans rfl
theorem I_219_34 : ins 219 34 = some (.iload_n 0, 0, 0, [], none) := (L_219_0 34).trans rfl
theorem I_219_35 : ins 219 35 = some (.iload_n 0, 0, 0, [], none) := (L_219_0 35).trans rfl
theorem I_219_36 : ins 219 36 = some (.bipush 8, 0, 0, [], none) := (L_219_0 36).trans rfl
theorem I_219_38 : ins 219 38 = some (.iushr, 0, 0, [], none) := (L_219_0 38).trans rfl
theorem I_219_39 : ins 219 39 = some (.iadd, 0, 0, [], none) := (L_219_0 39).trans rfl
theorem I_219_40 : ins 219 40 = some (.istore_n 0, 0, 0, [], none) := (L_219_0 40).trans rfl
theorem I_219_41 : ins 219 41 = some (.iload_n 0, 0, 0, [], none) := (L_219_0 41).trans rfl
theorem I_219_42 : ins 219 42 = some (.iload_n 0, 0, 0, [], none) := (L_219_0 42).trans rfl
theorem I_219_43 : ins 219 43 = some (.bipush 16, 0, 0, [], none) := (L_219_0 43).trans rfl
theorem I_219_45 : ins 219 45 = some (.iushr, 0, 0, [], none) := (L_219_0 45).trans rfl
theorem I_219_46 : ins 219 46 = some (.iadd, 0, 0, [], none) := (L_219_0 46).trans rfl
theorem I_219_47 : ins 219 47 = some (.istore_n 0, 0, 0, [], none) := (L_219_0 47).trans rfl
theorem I_219_48 : ins 219 48 = some (.iload_n 0, 0, 0, [], none) := (L_219_0 48).trans rfl
theorem I_219_49 : ins 219 49 = some (.bipush 63, 0, 0, [], none) := (L_219_0 49).trans rfl
theorem I_219_51 : ins 219 51 = some (.iand, 0, 0, [], none) := (L_219_0 51).trans rfl
theorem I_219_52 : ins 219 52 = some (.ireturn, 0, 0, [], none) := (L_219_0 52).trans rfl
