/-! instructions -/
theorem L_193_0 (pc : Nat) : ins 193 pc = fnd (iT193_0 ++ (iT193_1 ++ (iT193_2 ++ (iT193_3 ++ (iT193_4 ++ (iT193_5)))))) pc := rfl
theorem L_193_1 (pc : Nat) (h : Nat.ble 68 pc = true) : ins 193 pc = fnd (iT193_1 ++ (iT193_2 ++ (iT193_3 ++ (iT193_4 ++ (iT193_5))))) pc := (L_193_0 pc).trans (fnd_app (lo := 68) rfl (Nat.le_of_ble_eq_true h))
theorem L_193_2 (pc : Nat) (h : Nat.ble 139 pc = true) : ins 193 pc = fnd (iT193_2 ++ (iT193_3 ++ (iT193_4 ++ (iT193_5)))) pc := (L_193_1 pc (Nat.ble_eq.mpr (Nat.le_trans (Nat.le_of_ble_eq_true (rfl : Nat.ble 68 139 = true)) (Nat.le_of_ble_eq_true h)))).trans (fnd_app (lo := 139) rfl (Nat.le_of_ble_eq_true h))
theorem L_193_3 (pc : Nat) (h : Nat.ble 214 pc = true) : ins 193 pc = fnd (iT193_3 ++ (iT193_4 ++ (iT193_5))) pc := (L_193_2 pc (Nat.ble_eq.mpr (Nat.le_trans (Nat.le_of_ble_eq_true (rfl : Nat.ble 139 214 = true)) (Nat.le_of_ble_eq_true h)))).trans (fnd_app (lo := 214) rfl (Nat.le_of_ble_eq_true h))
theorem L_193_4 (pc : Nat) (h : Nat.ble 286 pc = true) : ins 193 pc = fnd (iT193_4 ++ (iT193_5)) pc := (L_193_3 pc (Nat.ble_eq.mpr (Nat.le_trans (Nat.le_of_ble_eq_true (rfl : Nat.ble 214 286 = true)) (Nat.le_of_ble_eq_true h)))).trans (fnd_app (lo := 286) rfl (Nat.le_of_ble_eq_true h))
theorem L_193_5 (pc : Nat) (h : Nat.ble 360 pc = true) : ins 193 pc = fnd (iT193_5) pc := (L_193_4 pc (Nat.ble_eq.mpr (Nat.le_trans (Nat.le_of_ble_eq_true (rfl : Nat.ble 286 360 = true)) (Nat.le_of_ble_eq_true h)))).trans (fnd_app (lo := 360) rfl (Nat.le_of_ble_eq_true h))
theorem I_193_0 : ins 193 0 = some (.aload_n 0, 0, 0, [], none) := (L_193_0 0).trans rfl
theorem I_193_1 : ins 193 1 = some (.iload_n 1, 0, 0, [], none) := (L_193_0 1).trans rfl
theorem I_193_2 : ins 193 2 = some (.invokevirtual 177, 1, 0, [(10, 206)], none) := (L_193_0 2).trans rfl
theorem I_193_5 : ins 193 5 = some (.aload_n 0, 0, 0, [], none) := (L_193_0 5).trans rfl
theorem I_193_6 : ins 193 6 = some (.getfield 28, 8, 0, [(10, 102)], none) := (L_193_0 6).trans rfl
theorem I_193_9 : ins 193 9 = some (.iconst 0, 0, 0, [], none) := (L_193_0 9).trans rfl
theorem I_193_10 : ins 193 10 = some (.iaload, 0, 0, [], none) := (L_193_0 10).trans rfl
theorem I_193_11 : ins 193 11 = some (.istore_n 3, 0, 0, [], none) := (L_193_0 11).trans rfl
theorem I_193_12 : ins 193 12 = some (.iload_n 3, 0, 0, [], some [0, 2, 3]) := (L_193_0 12).trans rfl
theorem I_193_13 : ins 193 13 = some (.ifCond .lt 166, 179, 0, [], none) := (L_193_0 13).trans rfl
theorem I_193_16 : ins 193 16 = some (.iconst 0, 0, 0, [], some [0, 2, 3]) := (L_193_0 16).trans rfl
theorem I_193_17 : ins 193 17 = some (.istore 4, 0, 0, [], none) := (L_193_0 17).trans rfl
theorem I_193_19 : ins 193 19 = some (.iload 4, 0, 0, [], some [0, 2, 3, 4]) := (L_193_0 19).trans rfl
theorem I_193_21 : ins 193 21 = some (.sipush 256, 0, 0, [], none) := (L_193_0 21).trans rfl
theorem I_193_24 : ins 193 24 = some (.if_icmp .ge 149, 173, 0, [], none) := (L_193_0 24).trans rfl
theorem I_193_27 : ins 193 27 = some (.iload_n 3, 0, 0, [], some [0, 2, 3, 4]) := (L_193_0 27).trans rfl
theorem I_193_28 : ins 193 28 = some (.aload_n 0, 0, 0, [], none) := (L_193_0 28).trans rfl
theorem I_193_29 : ins 193 29 = some (.getfield 28, 8, 0, [(10, 102)], none) := (L_193_0 29).trans rfl
theorem I_193_32 : ins 193 32 = some (.iconst 0, 0, 0, [], none) := (L_193_0 32).trans rfl
theorem I_193_33 : ins 193 33 = some (.iaload, 0, 0, [], none) := (L_193_0 33).trans rfl
theorem I_193_34 : ins 193 34 = some (.if_icmp .ne 7, 41, 0, [], none) := (L_193_0 34).trans rfl
theorem I_193_37 : ins 193 37 = some (.iconst 0, 0, 0, [], some [0, 2, 3, 4]) := (L_193_0 37).trans rfl
theorem I_193_38 : ins 193 38 = some (.goto 18, 56, 0, [], none) := (L_193_0 38).trans rfl
theorem I_193_41 : ins 193 41 = some (.aload_n 0, 0, 0, [], some [0, 2, 3, 4]) := (L_193_0 41).trans rfl
theorem I_193_42 : ins 193 42 = some (.getfield 49, 15, 0, [(10, 109)], none) := (L_193_0 42).trans rfl
theorem I_193_45 : ins 193 45 = some (.sipush 256, 0, 0, [], none) := (L_193_0 45).trans rfl
theorem I_193_48 : ins 193 48 = some (.iload_n 3, 0, 0, [], none) := (L_193_0 48).trans rfl
theorem I_193_49 : ins 193 49 = some (.iconst 1, 0, 0, [], none) := (L_193_0 49).trans rfl
theorem I_193_50 : ins 193 50 = some (.iadd, 0, 0, [], none) := (L_193_0 50).trans rfl
theorem I_193_51 : ins 193 51 = some (.imul, 0, 0, [], none) := (L_193_0 51).trans rfl
theorem I_193_52 : ins 193 52 = some (.iload 4, 0, 0, [], none) := (L_193_0 52).trans rfl
theorem I_193_54 : ins 193 54 = some (.iadd, 0, 0, [], none) := (L_193_0 54).trans rfl
theorem I_193_55 : ins 193 55 = some (.iaload, 0, 0, [], none) := (L_193_0 55).trans rfl
theorem I_193_56 : ins 193 56 = some (.istore 5, 0, 0, [], some [0, 2, 3, 4]) := (L_193_0 56).trans rfl
theorem I_193_58 : ins 193 58 = some (.iconst 0, 0, 0, [], none) := (L_193_0 58).trans rfl
theorem I_193_59 : ins 193 59 = some (.istore 6, 0, 0, [], none) := (L_193_0 59).trans rfl
theorem I_193_61 : ins 193 61 = some (.iload 6, 0, 0, [], some [0, 2, 3, 4, 5, 6]) := (L_193_0 61).trans rfl
theorem I_193_63 : ins 193 63 = some (.aload_n 0, 0, 0, [], none) := (L_193_0 63).trans rfl
theorem I_193_64 : ins 193 64 = some (.getfield 28, 8, 0, [(10, 102)], none) := (L_193_0 64).trans rfl
theorem I_193_67 : ins 193 67 = some (.iconst 1, 0, 0, [], none) := (L_193_0 67).trans rfl
theorem I_193_68 : ins 193 68 = some (.iaload, 0, 0, [], none) := (L_193_1 68 rfl).trans rfl
theorem I_193_69 : ins 193 69 = some (.if_icmp .ge 83, 152, 0, [], none) := (L_193_1 69 rfl).trans rfl
theorem I_193_72 : ins 193 72 = some (.iload_n 3, 0, 0, [], some [0, 2, 3, 4, 5, 6]) := (L_193_1 72 rfl).trans rfl
theorem I_193_73 : ins 193 73 = some (.aload_n 0, 0, 0, [], none) := (L_193_1 73 rfl).trans rfl
theorem I_193_74 : ins 193 74 = some (.getfield 28, 8, 0, [(10, 102)], none) := (L_193_1 74 rfl).trans rfl
theorem I_193_77 : ins 193 77 = some (.iconst 0, 0, 0, [], none) := (L_193_1 77 rfl).trans rfl
theorem I_193_78 : ins 193 78 = some (.iaload, 0, 0, [], none) := (L_193_1 78 rfl).trans rfl
theorem I_193_79 : ins 193 79 = some (.if_icmp .ge 73, 152, 0, [], none) := (L_193_1 79 rfl).trans rfl
theorem I_193_82 : ins 193 82 = some (.iload 4, 0, 0, [], some [0, 2, 3, 4, 5, 6]) := (L_193_1 82 rfl).trans rfl
theorem I_193_84 : ins 193 84 = some (.iload 6, 0, 0, [], none) := (L_193_1 84 rfl).trans rfl
theorem I_193_86 : ins 193 86 = some (.invokestatic 157, 2, 0, [(0, 200)], none) := (L_193_1 86 rfl).trans rfl
theorem I_193_89 : ins 193 89 = some (.ifCond .ne 38, 127, 0, [], none) := (L_193_1 89 rfl).trans rfl
theorem I_193_92 : ins 193 92 = some (.aload_n 0, 0, 0, [], some [0, 2, 3, 4, 5, 6]) := (L_193_1 92 rfl).trans rfl
theorem I_193_93 : ins 193 93 = some (.iload 6, 0, 0, [], none) := (L_193_1 93 rfl).trans rfl
theorem I_193_95 : ins 193 95 = some (.iload_n 3, 0, 0, [], none) := (L_193_1 95 rfl).trans rfl
theorem I_193_96 : ins 193 96 = some (.invokevirtual 161, 2, 0, [(10, 201)], none) := (L_193_1 96 rfl).trans rfl
theorem I_193_99 : ins 193 99 = some (.ifCond .eq 28, 127, 0, [], none) := (L_193_1 99 rfl).trans rfl
theorem I_193_102 : ins 193 102 = some (.iconst 1, 0, 0, [], some [0, 2, 3, 4, 5, 6]) := (L_193_1 102 rfl).trans rfl
theorem I_193_103 : ins 193 103 = some (.aload_n 0, 0, 0, [], none) := (L_193_1 103 rfl).trans rfl
theorem I_193_104 : ins 193 104 = some (.getfield 49, 15, 0, [(10, 109)], none) := (L_193_1 104 rfl).trans rfl
theorem I_193_107 : ins 193 107 = some (.sipush 256, 0, 0, [], none) := (L_193_1 107 rfl).trans rfl
theorem I_193_110 : ins 193 110 = some (.iload_n 3, 0, 0, [], none) := (L_193_1 110 rfl).trans rfl
theorem I_193_111 : ins 193 111 = some (.iconst 1, 0, 0, [], none) := (L_193_1 111 rfl).trans rfl
theorem I_193_112 : ins 193 112 = some (.iadd, 0, 0, [], none) := (L_193_1 112 rfl).trans rfl
theorem I_193_113 : ins 193 113 = some (.imul, 0, 0, [], none) := (L_193_1 113 rfl).trans rfl
theorem I_193_114 : ins 193 114 = some (.iload 4, 0, 0, [], none) := (L_193_1 114 rfl).trans rfl
theorem I_193_116 : ins 193 116 = some (.iconst 1, 0, 0, [], none) := (L_193_1 116 rfl).trans rfl
theorem I_193_117 : ins 193 117 = some (.iload 6, 0, 0, [], none) := (L_193_1 117 rfl).trans rfl
theorem I_193_119 : ins 193 119 = some (.ishl, 0, 0, [], none) := (L_193_1 119 rfl).trans rfl
theorem I_193_120 : ins 193 120 = some (.ior, 0, 0, [], none) := (L_193_1 120 rfl).trans rfl
theorem I_193_121 : ins 193 121 = some (.iadd, 0, 0, [], none) := (L_193_1 121 rfl).trans rfl
theorem I_193_122 : ins 193 122 = some (.iaload, 0, 0, [], none) := (L_193_1 122 rfl).trans rfl
theorem I_193_123 : ins 193 123 = some (.iadd, 0, 0, [], none) := (L_193_1 123 rfl).trans rfl
theorem I_193_124 : ins 193 124 = some (.goto 4, 128, 0, [], none) := (L_193_1 124 rfl).trans rfl
theorem I_193_127 : ins 193 127 = some (.iconst 0, 0, 0, [], some [0, 2, 3, 4, 5, 6]) := (L_193_1 127 rfl).trans rfl
theorem I_193_128 : ins 193 128 = some (.istore 7, 0, 0, [], some [0, 2, 3, 4, 5, 6]) := (L_193_1 128 rfl).trans rfl
theorem I_193_130 : ins 193 130 = some (.iload 7, 0, 0, [], none) := (L_193_1 130 rfl).trans rfl
theorem I_193_132 : ins 193 132 = some (.iload 5, 0, 0, [], none) := (L_193_1 132 rfl).trans rfl
theorem I_193_134 : ins 193 134 = some (.if_icmp .le 8, 142, 0, [], none) := (L_193_1 134 rfl).trans rfl
theorem I_193_137 : ins 193 137 = some (.iload 7, 0, 0, [], some [0, 2, 3, 4, 6, 7]) := (L_193_1 137 rfl).trans rfl
theorem I_193_139 : ins 193 139 = some (.goto 5, 144, 0, [], none) := (L_193_2 139 rfl).trans rfl
theorem I_193_142 : ins 193 142 = some (.iload 5, 0, 0, [], some [0, 2, 3, 4, 5, 6]) := (L_193_2 142 rfl).trans rfl
theorem I_193_144 : ins 193 144 = some (.istore 5, 0, 0, [], some [0, 2, 3, 4, 6]) := (L_193_2 144 rfl).trans rfl
theorem I_193_146 : ins 193 146 = some (.iinc 6 1, 0, 0, [], none) := (L_193_2 146 rfl).trans rfl
theorem I_193_149 : ins 193 149 = some (.goto (-88), 61, 0, [], none) := (L_193_2 149 rfl).trans rfl
theorem I_193_152 : ins 193 152 = some (.aload_n 0, 0, 0, [], some [0, 2, 3, 4, 5]) := (L_193_2 152 rfl).trans rfl
theorem I_193_153 : ins 193 153 = some (.getfield 49, 15, 0, [(10, 109)], none) := (L_193_2 153 rfl).trans rfl
theorem I_193_156 : ins 193 156 = some (.sipush 256, 0, 0, [], none) := (L_193_2 156 rfl).trans rfl
theorem I_193_159 : ins 193 159 = some (.iload_n 3, 0, 0, [], none) := (L_193_2 159 rfl).trans rfl
theorem I_193_160 : ins 193 160 = some (.imul, 0, 0, [], none) := (L_193_2 160 rfl).trans rfl
theorem I_193_161 : ins 193 161 = some (.iload 4, 0, 0, [], none) := (L_193_2 161 rfl).trans rfl
theorem I_193_163 : ins 193 163 = some (.iadd, 0, 0, [], none) := (L_193_2 163 rfl).trans rfl
theorem I_193_164 : ins 193 164 = some (.iload 5, 0, 0, [], none) := (L_193_2 164 rfl).trans rfl
theorem I_193_166 : ins 193 166 = some (.iastore, 0, 0, [], none) := (L_193_2 166 rfl).trans rfl
theorem I_193_167 : ins 193 167 = some (.iinc 4 1, 0, 0, [], none) := (L_193_2 167 rfl).trans rfl
theorem I_193_170 : ins 193 170 = some (.goto (-151), 19, 0, [], none) := (L_193_2 170 rfl).trans rfl
theorem I_193_173 : ins 193 173 = some (.iinc 3 (-1), 0, 0, [], some [0, 2, 3]) := (L_193_2 173 rfl).trans rfl
theorem I_193_176 : ins 193 176 = some (.goto (-164), 12, 0, [], none) := (L_193_2 176 rfl).trans rfl
theorem I_193_179 : ins 193 179 = some (.iconst 0, 0, 0, [], some [0, 2]) := (L_193_2 179 rfl).trans rfl
theorem I_193_180 : ins 193 180 = some (.istore_n 3, 0, 0, [], none) := (L_193_2 180 rfl).trans rfl
theorem I_193_181 : ins 193 181 = some (.iconst (-1), 0, 0, [], none) := (L_193_2 181 rfl).trans rfl
theorem I_193_182 : ins 193 182 = some (.istore 4, 0, 0, [], none) := (L_193_2 182 rfl).trans rfl
theorem I_193_184 : ins 193 184 = some (.iconst 0, 0, 0, [], none) := (L_193_2 184 rfl).trans rfl
theorem I_193_185 : ins 193 185 = some (.istore 5, 0, 0, [], none) := (L_193_2 185 rfl).trans rfl
theorem I_193_187 : ins 193 187 = some (.iload 5, 0, 0, [], some [0, 2, 3, 4, 5]) := (L_193_2 187 rfl).trans rfl
theorem I_193_189 : ins 193 189 = some (.iload_n 2, 0, 0, [], none) := (L_193_2 189 rfl).trans rfl
theorem I_193_190 : ins 193 190 = some (.if_icmp .gt 140, 330, 0, [], none) := (L_193_2 190 rfl).trans rfl
theorem I_193_193 : ins 193 193 = some (.iload 5, 0, 0, [], some [0, 2, 3, 4, 5]) := (L_193_2 193 rfl).trans rfl
theorem I_193_195 : ins 193 195 = some (.aload_n 0, 0, 0, [], none) := (L_193_2 195 rfl).trans rfl
theorem I_193_196 : ins 193 196 = some (.getfield 28, 8, 0, [(10, 102)], none) := (L_193_2 196 rfl).trans rfl
theorem I_193_199 : ins 193 199 = some (.iconst 0, 0, 0, [], none) := (L_193_2 199 rfl).trans rfl
theorem I_193_200 : ins 193 200 = some (.iaload, 0, 0, [], none) := (L_193_2 200 rfl).trans rfl
theorem I_193_201 : ins 193 201 = some (.if_icmp .ge 129, 330, 0, [], none) := (L_193_2 201 rfl).trans rfl
theorem I_193_204 : ins 193 204 = some (.iconst (-1), 0, 0, [], some [0, 2, 3, 5]) := (L_193_2 204 rfl).trans rfl
theorem I_193_205 : ins 193 205 = some (.istore 4, 0, 0, [], none) := (L_193_2 205 rfl).trans rfl
theorem I_193_207 : ins 193 207 = some (.aload_n 0, 0, 0, [], none) := (L_193_2 207 rfl).trans rfl
theorem I_193_208 : ins 193 208 = some (.getfield 28, 8, 0, [(10, 102)], none) := (L_193_2 208 rfl).trans rfl
theorem I_193_211 : ins 193 211 = some (.iconst 1, 0, 0, [], none) := (L_193_2 211 rfl).trans rfl
theorem I_193_212 : ins 193 212 = some (.iaload, 0, 0, [], none) := (L_193_2 212 rfl).trans rfl
theorem I_193_213 : ins 193 213 = some (.iconst 1, 0, 0, [], none) := (L_193_2 213 rfl).trans rfl
theorem I_193_214 : ins 193 214 = some (.isub, 0, 0, [], none) := (L_193_3 214 rfl).trans rfl
theorem I_193_215 : ins 193 215 = some (.istore 6, 0, 0, [], none) := (L_193_3 215 rfl).trans rfl
theorem I_193_217 : ins 193 217 = some (.iload 6, 0, 0, [], some [0, 2, 3, 4, 5, 6]) := (L_193_3 217 rfl).trans rfl
theorem I_193_219 : ins 193 219 = some (.ifCond .lt 88, 307, 0, [], none) := (L_193_3 219 rfl).trans rfl
theorem I_193_222 : ins 193 222 = some (.iload_n 3, 0, 0, [], some [0, 2, 3, 4, 5, 6]) := (L_193_3 222 rfl).trans rfl
theorem I_193_223 : ins 193 223 = some (.iload 6, 0, 0, [], none) := (L_193_3 223 rfl).trans rfl
theorem I_193_225 : ins 193 225 = some (.invokestatic 157, 2, 0, [(0, 200)], none) := (L_193_3 225 rfl).trans rfl
theorem I_193_228 : ins 193 228 = some (.ifCond .ne 18, 246, 0, [], none) := (L_193_3 228 rfl).trans rfl
theorem I_193_231 : ins 193 231 = some (.aload_n 0, 0, 0, [], some [0, 2, 3, 4, 5, 6]) := (L_193_3 231 rfl).trans rfl
theorem I_193_232 : ins 193 232 = some (.iload 6, 0, 0, [], none) := (L_193_3 232 rfl).trans rfl
theorem I_193_234 : ins 193 234 = some (.iload 5, 0, 0, [], none) := (L_193_3 234 rfl).trans rfl
theorem I_193_236 : ins 193 236 = some (.invokevirtual 161, 2, 0, [(10, 201)], none) := (L_193_3 236 rfl).trans rfl
theorem I_193_239 : ins 193 239 = some (.ifCond .eq 7, 246, 0, [], none) := (L_193_3 239 rfl).trans rfl
theorem I_193_242 : ins 193 242 = some (.iconst 1, 0, 0, [], some [0, 2, 3, 4, 5, 6]) := (L_193_3 242 rfl).trans rfl
theorem I_193_243 : ins 193 243 = some (.goto 4, 247, 0, [], none) := (L_193_3 243 rfl).trans rfl
theorem I_193_246 : ins 193 246 = some (.iconst 0, 0, 0, [], some [0, 2, 3, 4, 5, 6]) := (L_193_3 246 rfl).trans rfl
theorem I_193_247 : ins 193 247 = some (.istore 7, 0, 0, [], some [0, 2, 3, 4, 5, 6]) := (L_193_3 247 rfl).trans rfl
theorem I_193_249 : ins 193 249 = some (.iload 7, 0, 0, [], none) := (L_193_3 249 rfl).trans rfl
theorem I_193_251 : ins 193 251 = some (.ifCond .eq 46, 297, 0, [], none) := (L_193_3 251 rfl).trans rfl
theorem I_193_254 : ins 193 254 = some (.iconst 1, 0, 0, [], some [0, 2, 3, 4, 5, 6]) := (L_193_3 254 rfl).trans rfl
theorem I_193_255 : ins 193 255 = some (.aload_n 0, 0, 0, [], none) := (L_193_3 255 rfl).trans rfl
theorem I_193_256 : ins 193 256 = some (.getfield 49, 15, 0, [(10, 109)], none) := (L_193_3 256 rfl).trans rfl
theorem I_193_259 : ins 193 259 = some (.sipush 256, 0, 0, [], none) := (L_193_3 259 rfl).trans rfl
theorem I_193_262 : ins 193 262 = some (.iload 5, 0, 0, [], none) := (L_193_3 262 rfl).trans rfl
theorem I_193_264 : ins 193 264 = some (.iconst 1, 0, 0, [], none) := (L_193_3 264 rfl).trans rfl
theorem I_193_265 : ins 193 265 = some (.iadd, 0, 0, [], none) := (L_193_3 265 rfl).trans rfl
theorem I_193_266 : ins 193 266 = some (.imul, 0, 0, [], none) := (L_193_3 266 rfl).trans rfl
theorem I_193_267 : ins 193 267 = some (.iload_n 3, 0, 0, [], none) := (L_193_3 267 rfl).trans rfl
theorem I_193_268 : ins 193 268 = some (.iconst 1, 0, 0, [], none) := (L_193_3 268 rfl).trans rfl
theorem I_193_269 : ins 193 269 = some (.iload 6, 0, 0, [], none) := (L_193_3 269 rfl).trans rfl
theorem I_193_271 : ins 193 271 = some (.ishl, 0, 0, [], none) := (L_193_3 271 rfl).trans rfl
theorem I_193_272 : ins 193 272 = some (.ior, 0, 0, [], none) := (L_193_3 272 rfl).trans rfl
theorem I_193_273 : ins 193 273 = some (.iadd, 0, 0, [], none) := (L_193_3 273 rfl).trans rfl
theorem I_193_274 : ins 193 274 = some (.iaload, 0, 0, [], none) := (L_193_3 274 rfl).trans rfl
theorem I_193_275 : ins 193 275 = some (.iadd, 0, 0, [], none) := (L_193_3 275 rfl).trans rfl
theorem I_193_276 : ins 193 276 = some (.aload_n 0, 0, 0, [], none) := (L_193_3 276 rfl).trans rfl
theorem I_193_277 : ins 193 277 = some (.getfield 49, 15, 0, [(10, 109)], none) := (L_193_3 277 rfl).trans rfl
theorem I_193_280 : ins 193 280 = some (.sipush 256, 0, 0, [], none) := (L_193_3 280 rfl).trans rfl
theorem I_193_283 : ins 193 283 = some (.iload 5, 0, 0, [], none) := (L_193_3 283 rfl).trans rfl
theorem I_193_285 : ins 193 285 = some (.imul, 0, 0, [], none) := (L_193_3 285 rfl).trans rfl
theorem I_193_286 : ins 193 286 = some (.iload_n 3, 0, 0, [], none) := (L_193_4 286 rfl).trans rfl
theorem I_193_287 : ins 193 287 = some (.iadd, 0, 0, [], none) := (L_193_4 287 rfl).trans rfl
theorem I_193_288 : ins 193 288 = some (.iaload, 0, 0, [], none) := (L_193_4 288 rfl).trans rfl
theorem I_193_289 : ins 193 289 = some (.if_icmp .ne 8, 297, 0, [], none) := (L_193_4 289 rfl).trans rfl
theorem I_193_292 : ins 193 292 = some (.iload 6, 0, 0, [], some [0, 2, 3, 5, 6]) := (L_193_4 292 rfl).trans rfl
theorem I_193_294 : ins 193 294 = some (.goto 5, 299, 0, [], none) := (L_193_4 294 rfl).trans rfl
theorem I_193_297 : ins 193 297 = some (.iload 4, 0, 0, [], some [0, 2, 3, 4, 5, 6]) := (L_193_4 297 rfl).trans rfl
theorem I_193_299 : ins 193 299 = some (.istore 4, 0, 0, [], some [0, 2, 3, 5, 6]) := (L_193_4 299 rfl).trans rfl
theorem I_193_301 : ins 193 301 = some (.iinc 6 (-1), 0, 0, [], none) := (L_193_4 301 rfl).trans rfl
theorem I_193_304 : ins 193 304 = some (.goto (-87), 217, 0, [], none) := (L_193_4 304 rfl).trans rfl
theorem I_193_307 : ins 193 307 = some (.iload_n 3, 0, 0, [], some [0, 2, 3, 4, 5]) := (L_193_4 307 rfl).trans rfl
theorem I_193_308 : ins 193 308 = some (.iload 4, 0, 0, [], none) := (L_193_4 308 rfl).trans rfl
theorem I_193_310 : ins 193 310 = some (.iconst (-1), 0, 0, [], none) := (L_193_4 310 rfl).trans rfl
theorem I_193_311 : ins 193 311 = some (.if_icmp .ne 7, 318, 0, [], none) := (L_193_4 311 rfl).trans rfl
theorem I_193_314 : ins 193 314 = some (.iconst 0, 0, 0, [], some [0, 2, 4, 5]) := (L_193_4 314 rfl).trans rfl
theorem I_193_315 : ins 193 315 = some (.goto 7, 322, 0, [], none) := (L_193_4 315 rfl).trans rfl
theorem I_193_318 : ins 193 318 = some (.iconst 1, 0, 0, [], some [0, 2, 4, 5]) := (L_193_4 318 rfl).trans rfl
theorem I_193_319 : ins 193 319 = some (.iload 4, 0, 0, [], none) := (L_193_4 319 rfl).trans rfl
theorem I_193_321 : ins 193 321 = some (.ishl, 0, 0, [], none) := (L_193_4 321 rfl).trans rfl
theorem I_193_322 : ins 193 322 = some (.ior, 0, 0, [], some [0, 2, 4, 5]) := (L_193_4 322 rfl).trans rfl
theorem I_193_323 : ins 193 323 = some (.istore_n 3, 0, 0, [], none) := (L_193_4 323 rfl).trans rfl
theorem I_193_324 : ins 193 324 = some (.iinc 5 1, 0, 0, [], none) := (L_193_4 324 rfl).trans rfl
theorem I_193_327 : ins 193 327 = some (.goto (-140), 187, 0, [], none) := (L_193_4 327 rfl).trans rfl
theorem I_193_330 : ins 193 330 = some (.iload_n 2, 0, 0, [], some [0, 2, 4]) := (L_193_4 330 rfl).trans rfl
theorem I_193_331 : ins 193 331 = some (.iconst (-1), 0, 0, [], none) := (L_193_4 331 rfl).trans rfl
theorem I_193_332 : ins 193 332 = some (.if_icmp .ne 12, 344, 0, [], none) := (L_193_4 332 rfl).trans rfl
theorem I_193_335 : ins 193 335 = some (.aload_n 0, 0, 0, [], some [0]) := (L_193_4 335 rfl).trans rfl
theorem I_193_336 : ins 193 336 = some (.getfield 49, 15, 0, [(10, 109)], none) := (L_193_4 336 rfl).trans rfl
theorem I_193_339 : ins 193 339 = some (.iconst 0, 0, 0, [], none) := (L_193_4 339 rfl).trans rfl
theorem I_193_340 : ins 193 340 = some (.iaload, 0, 0, [], none) := (L_193_4 340 rfl).trans rfl
theorem I_193_341 : ins 193 341 = some (.goto 19, 360, 0, [], none) := (L_193_4 341 rfl).trans rfl
theorem I_193_344 : ins 193 344 = some (.iload_n 2, 0, 0, [], some [0, 2, 4]) := (L_193_4 344 rfl).trans rfl
theorem I_193_345 : ins 193 345 = some (.aload_n 0, 0, 0, [], none) := (L_193_4 345 rfl).trans rfl
theorem I_193_346 : ins 193 346 = some (.getfield 28, 8, 0, [(10, 102)], none) := (L_193_4 346 rfl).trans rfl
theorem I_193_349 : ins 193 349 = some (.iconst 0, 0, 0, [], none) := (L_193_4 349 rfl).trans rfl
theorem I_193_350 : ins 193 350 = some (.iaload, 0, 0, [], none) := (L_193_4 350 rfl).trans rfl
theorem I_193_351 : ins 193 351 = some (.if_icmp .ge 8, 359, 0, [], none) := (L_193_4 351 rfl).trans rfl
theorem I_193_354 : ins 193 354 = some (.iload 4, 0, 0, [], some [4]) := (L_193_4 354 rfl).trans rfl
theorem I_193_356 : ins 193 356 = some (.goto 4, 360, 0, [], none) := (L_193_4 356 rfl).trans rfl
theorem I_193_359 : ins 193 359 = some (.iconst (-1), 0, 0, [], some []) := (L_193_4 359 rfl).trans rfl
theorem I_193_360 : ins 193 360 = some (.ireturn, 0, 0, [], some []) := (L_193_5 360 rfl).trans rfl
theorem L_194_0 (pc : Nat) : ins 194 pc = fnd iT194 pc := rfl
theorem I_194_0 : ins 194 0 = some (.aload_n 0, 0, 0, [], none) := (L_194_0 0).trans rfl
theorem I_194_1 : ins 194 1 = some (.invokevirtual 134, 0, 0, [(10, 194)], none) := (L_194_0 1).trans rfl
theorem I_194_4 : ins 194 4 = some (.aload_n 0, 0, 0, [], none) := (L_194_0 4).trans rfl
theorem I_194_5 : ins 194 5 = some (.iload_n 1, 0, 0, [], none) := (L_194_0 5).trans rfl
theorem I_194_6 : ins 194 6 = some (.invokevirtual 180, 1, 0, [(10, 207)], none) := (L_194_0 6).trans rfl
theorem I_194_9 : ins 194 9 = some (.ifCond .eq 26, 35, 0, [], none) := (L_194_0 9).trans rfl
theorem I_194_12 : ins 194 12 = some (.iload_n 2, 0, 0, [], some [0, 1, 2]) := (L_194_0 12).trans rfl
theorem I_194_13 : ins 194 13 = some (.i2l, 0, 0, [], none) := (L_194_0 13).trans rfl
theorem I_194_14 : ins 194 14 = some (.ldc2_w 204, 1251, (-1), [], none) := (L_194_0 14).trans rfl
theorem I_194_17 : ins 194 17 = some (.ldc2_w 206, 1252, 7, [], none) := (L_194_0 17).trans rfl
theorem I_194_20 : ins 194 20 = some (.invokestatic 69, 3, 0, [(0, 180)], none) := (L_194_0 20).trans rfl
theorem I_194_23 : ins 194 23 = some (.ifCond .eq 12, 35, 0, [], none) := (L_194_0 23).trans rfl
theorem I_194_26 : ins 194 26 = some (.aload_n 0, 0, 0, [], some [0, 1, 2]) := (L_194_0 26).trans rfl
theorem I_194_27 : ins 194 27 = some (.iload_n 1, 0, 0, [], none) := (L_194_0 27).trans rfl
theorem I_194_28 : ins 194 28 = some (.iload_n 2, 0, 0, [], none) := (L_194_0 28).trans rfl
theorem I_194_29 : ins 194 29 = some (.invokevirtual 208, 2, 0, [(10, 215)], none) := (L_194_0 29).trans rfl
theorem I_194_32 : ins 194 32 = some (.goto 5, 37, 0, [], none) := (L_194_0 32).trans rfl
theorem I_194_35 : ins 194 35 = some (.bipush (-2), 0, 0, [], some []) := (L_194_0 35).trans rfl
theorem I_194_37 : ins 194 37 = some (.ireturn, 0, 0, [], some []) := (L_194_0 37).trans rfl
theorem L_195_0 (pc : Nat) : ins 195 pc = fnd (iT195_0 ++ (iT195_1)) pc := rfl
theorem L_195_1 (pc : Nat) (h : Nat.ble 64 pc = true) : ins 195 pc = fnd (iT195_1) pc := (L_195_0 pc).trans (fnd_app (lo := 64) rfl (Nat.le_of_ble_eq_true h))
theorem I_195_0 : ins 195 0 = some (.iload_n 2, 0, 0, [], none) := (L_195_0 0).trans rfl
theorem I_195_1 : ins 195 1 = some (.istore_n 3, 0, 0, [], none) := (L_195_0 1).trans rfl
theorem I_195_2 : ins 195 2 = some (.iload_n 1, 0, 0, [], none) := (L_195_0 2).trans rfl
theorem I_195_3 : ins 195 3 = some (.iconst 1, 0, 0, [], none) := (L_195_0 3).trans rfl
theorem I_195_4 : ins 195 4 = some (.isub, 0, 0, [], none) := (L_195_0 4).trans rfl
theorem I_195_5 : ins 195 5 = some (.istore 4, 0, 0, [], none) := (L_195_0 5).trans rfl
theorem I_195_7 : ins 195 7 = some (.iload 4, 0, 0, [], some [0, 1, 3, 4]) := (L_195_0 7).trans rfl
theorem I_195_9 : ins 195 9 = some (.ifCond .lt 29, 38, 0, [], none) := (L_195_0 9).trans rfl
theorem I_195_12 : ins 195 12 = some (.aload_n 0, 0, 0, [], some [0, 1, 3, 4]) := (L_195_0 12).trans rfl
theorem I_195_13 : ins 195 13 = some (.getfield 52, 16, 0, [(10, 110)], none) := (L_195_0 13).trans rfl
theorem I_195_16 : ins 195 16 = some (.iload 4, 0, 0, [], none) := (L_195_0 16).trans rfl
theorem I_195_18 : ins 195 18 = some (.iload_n 3, 0, 0, [], none) := (L_195_0 18).trans rfl
theorem I_195_19 : ins 195 19 = some (.iload_n 1, 0, 0, [], none) := (L_195_0 19).trans rfl
theorem I_195_20 : ins 195 20 = some (.iload 4, 0, 0, [], none) := (L_195_0 20).trans rfl
theorem I_195_22 : ins 195 22 = some (.isub, 0, 0, [], none) := (L_195_0 22).trans rfl
theorem I_195_23 : ins 195 23 = some (.irem, 0, 0, [], none) := (L_195_0 23).trans rfl
theorem I_195_24 : ins 195 24 = some (.iastore, 0, 0, [], none) := (L_195_0 24).trans rfl
theorem I_195_25 : ins 195 25 = some (.iload_n 3, 0, 0, [], none) := (L_195_0 25).trans rfl
theorem I_195_26 : ins 195 26 = some (.iload_n 1, 0, 0, [], none) := (L_195_0 26).trans rfl
theorem I_195_27 : ins 195 27 = some (.iload 4, 0, 0, [], none) := (L_195_0 27).trans rfl
theorem I_195_29 : ins 195 29 = some (.isub, 0, 0, [], none) := (L_195_0 29).trans rfl
theorem I_195_30 : ins 195 30 = some (.idiv, 0, 0, [], none) := (L_195_0 30).trans rfl
theorem I_195_31 : ins 195 31 = some (.istore_n 3, 0, 0, [], none) := (L_195_0 31).trans rfl
theorem I_195_32 : ins 195 32 = some (.iinc 4 (-1), 0, 0, [], none) := (L_195_0 32).trans rfl
theorem I_195_35 : ins 195 35 = some (.goto (-28), 7, 0, [], none) := (L_195_0 35).trans rfl
theorem I_195_38 : ins 195 38 = some (.iload_n 1, 0, 0, [], some [0, 1]) := (L_195_0 38).trans rfl
theorem I_195_39 : ins 195 39 = some (.iconst 1, 0, 0, [], none) := (L_195_0 39).trans rfl
theorem I_195_40 : ins 195 40 = some (.isub, 0, 0, [], none) := (L_195_0 40).trans rfl
theorem I_195_41 : ins 195 41 = some (.istore 4, 0, 0, [], none) := (L_195_0 41).trans rfl
theorem I_195_43 : ins 195 43 = some (.iload 4, 0, 0, [], some [0, 1, 4]) := (L_195_0 43).trans rfl
theorem I_195_45 : ins 195 45 = some (.ifCond .lt 59, 104, 0, [], none) := (L_195_0 45).trans rfl
theorem I_195_48 : ins 195 48 = some (.iload 4, 0, 0, [], some [0, 1, 4]) := (L_195_0 48).trans rfl
theorem I_195_50 : ins 195 50 = some (.iconst 1, 0, 0, [], none) := (L_195_0 50).trans rfl
theorem I_195_51 : ins 195 51 = some (.iadd, 0, 0, [], none) := (L_195_0 51).trans rfl
theorem I_195_52 : ins 195 52 = some (.istore 5, 0, 0, [], none) := (L_195_0 52).trans rfl
theorem I_195_54 : ins 195 54 = some (.iload 5, 0, 0, [], some [0, 1, 4, 5]) := (L_195_0 54).trans rfl
theorem I_195_56 : ins 195 56 = some (.iload_n 1, 0, 0, [], none) := (L_195_0 56).trans rfl
theorem I_195_57 : ins 195 57 = some (.if_icmp .ge 41, 98, 0, [], none) := (L_195_0 57).trans rfl
theorem I_195_60 : ins 195 60 = some (.aload_n 0, 0, 0, [], some [0, 1, 4, 5]) := (L_195_0 60).trans rfl
theorem I_195_61 : ins 195 61 = some (.getfield 52, 16, 0, [(10, 110)], none) := (L_195_0 61).trans rfl
theorem I_195_64 : ins 195 64 = some (.iload 5, 0, 0, [], none) := (L_195_1 64 rfl).trans rfl
theorem I_195_66 : ins 195 66 = some (.dup2, 0, 0, [], none) := (L_195_1 66 rfl).trans rfl
theorem I_195_67 : ins 195 67 = some (.iaload, 0, 0, [], none) := (L_195_1 67 rfl).trans rfl
theorem I_195_68 : ins 195 68 = some (.aload_n 0, 0, 0, [], none) := (L_195_1 68 rfl).trans rfl
theorem I_195_69 : ins 195 69 = some (.getfield 52, 16, 0, [(10, 110)], none) := (L_195_1 69 rfl).trans rfl
theorem I_195_72 : ins 195 72 = some (.iload 5, 0, 0, [], none) := (L_195_1 72 rfl).trans rfl
theorem I_195_74 : ins 195 74 = some (.iaload, 0, 0, [], none) := (L_195_1 74 rfl).trans rfl
theorem I_195_75 : ins 195 75 = some (.aload_n 0, 0, 0, [], none) := (L_195_1 75 rfl).trans rfl
theorem I_195_76 : ins 195 76 = some (.getfield 52, 16, 0, [(10, 110)], none) := (L_195_1 76 rfl).trans rfl
theorem I_195_79 : ins 195 79 = some (.iload 4, 0, 0, [], none) := (L_195_1 79 rfl).trans rfl
theorem I_195_81 : ins 195 81 = some (.iaload, 0, 0, [], none) := (L_195_1 81 rfl).trans rfl
theorem I_195_82 : ins 195 82 = some (.if_icmp .lt 7, 89, 0, [], none) := (L_195_1 82 rfl).trans rfl
theorem I_195_85 : ins 195 85 = some (.iconst 1, 0, 0, [], some [0, 1, 4, 5]) := (L_195_1 85 rfl).trans rfl
theorem I_195_86 : ins 195 86 = some (.goto 4, 90, 0, [], none) := (L_195_1 86 rfl).trans rfl
theorem I_195_89 : ins 195 89 = some (.iconst 0, 0, 0, [], some [0, 1, 4, 5]) := (L_195_1 89 rfl).trans rfl
theorem I_195_90 : ins 195 90 = some (.iadd, 0, 0, [], some [0, 1, 4, 5]) := (L_195_1 90 rfl).trans rfl
theorem I_195_91 : ins 195 91 = some (.iastore, 0, 0, [], none) := (L_195_1 91 rfl).trans rfl
theorem I_195_92 : ins 195 92 = some (.iinc 5 1, 0, 0, [], none) := (L_195_1 92 rfl).trans rfl
theorem I_195_95 : ins 195 95 = some (.goto (-41), 54, 0, [], none) := (L_195_1 95 rfl).trans rfl
theorem I_195_98 : ins 195 98 = some (.iinc 4 (-1), 0, 0, [], some [0, 1, 4]) := (L_195_1 98 rfl).trans rfl
theorem I_195_101 : ins 195 101 = some (.goto (-58), 43, 0, [], none) := (L_195_1 101 rfl).trans rfl
theorem I_195_104 : ins 195 104 = some (.return_, 0, 0, [], some []) := (L_195_1 104 rfl).trans rfl
theorem L_196_0 (pc : Nat) : ins 196 pc = fnd (iT196_0 ++ (iT196_1 ++ (iT196_2 ++ (iT196_3)))) pc := rfl
theorem L_196_1 (pc : Nat) (h : Nat.ble 73 pc = true) : ins 196 pc = fnd (iT196_1 ++ (iT196_2 ++ (iT196_3))) pc := (L_196_0 pc).trans (fnd_app (lo := 73) rfl (Nat.le_of_ble_eq_true h))
theorem L_196_2 (pc : Nat) (h : Nat.ble 144 pc = true) : ins 196 pc = fnd (iT196_2 ++ (iT196_3)) pc := (L_196_1 pc (Nat.ble_eq.mpr (Nat.le_trans (Nat.le_of_ble_eq_true (rfl : Nat.ble 73 144 = true)) (Nat.le_of_ble_eq_true h)))).trans (fnd_app (lo := 144) rfl (Nat.le_of_ble_eq_true h))
theorem L_196_3 (pc : Nat) (h : Nat.ble 229 pc = true) : ins 196 pc = fnd (iT196_3) pc := (L_196_2 pc (Nat.ble_eq.mpr (Nat.le_trans (Nat.le_of_ble_eq_true (rfl : Nat.ble 144 229 = true)) (Nat.le_of_ble_eq_true h)))).trans (fnd_app (lo := 229) rfl (Nat.le_of_ble_eq_true h))
theorem I_196_0 : ins 196 0 = some (.aload_n 0, 0, 0, [], none) := (L_196_0 0).trans rfl
theorem I_196_1 : ins 196 1 = some (.getfield 28, 8, 0, [(10, 102)], none) := (L_196_0 1).trans rfl
theorem I_196_4 : ins 196 4 = some (.iconst 0, 0, 0, [], none) := (L_196_0 4).trans rfl
theorem I_196_5 : ins 196 5 = some (.iaload, 0, 0, [], none) := (L_196_0 5).trans rfl
theorem I_196_6 : ins 196 6 = some (.bipush 6, 0, 0, [], none) := (L_196_0 6).trans rfl
theorem I_196_8 : ins 196 8 = some (.invokestatic 211, 2, 0, [(0, 216)], none) := (L_196_0 8).trans rfl
theorem I_196_11 : ins 196 11 = some (.istore 4, 0, 0, [], none) := (L_196_0 11).trans rfl
theorem I_196_13 : ins 196 13 = some (.iconst 1, 0, 0, [], none) := (L_196_0 13).trans rfl
theorem I_196_14 : ins 196 14 = some (.istore 5, 0, 0, [], none) := (L_196_0 14).trans rfl
theorem I_196_16 : ins 196 16 = some (.iconst 2, 0, 0, [], none) := (L_196_0 16).trans rfl
theorem I_196_17 : ins 196 17 = some (.istore 6, 0, 0, [], none) := (L_196_0 17).trans rfl
theorem I_196_19 : ins 196 19 = some (.iload 6, 0, 0, [], some [0, 1, 2, 3, 4, 5, 6]) := (L_196_0 19).trans rfl
theorem I_196_21 : ins 196 21 = some (.iload 4, 0, 0, [], none) := (L_196_0 21).trans rfl
theorem I_196_23 : ins 196 23 = some (.if_icmp .gt 16, 39, 0, [], none) := (L_196_0 23).trans rfl
theorem I_196_26 : ins 196 26 = some (.iload 5, 0, 0, [], some [0, 1, 2, 3, 4, 5, 6]) := (L_196_0 26).trans rfl
theorem I_196_28 : ins 196 28 = some (.iload 6, 0, 0, [], none) := (L_196_0 28).trans rfl
theorem I_196_30 : ins 196 30 = some (.imul, 0, 0, [], none) := (L_196_0 30).trans rfl
theorem I_196_31 : ins 196 31 = some (.istore 5, 0, 0, [], none) := (L_196_0 31).trans rfl
theorem I_196_33 : ins 196 33 = some (.iinc 6 1, 0, 0, [], none) := (L_196_0 33).trans rfl
theorem I_196_36 : ins 196 36 = some (.goto (-17), 19, 0, [], none) := (L_196_0 36).trans rfl
theorem I_196_39 : ins 196 39 = some (.iconst (-1), 0, 0, [], some [0, 1, 2, 3, 4, 5]) := (L_196_0 39).trans rfl
theorem I_196_40 : ins 196 40 = some (.istore 6, 0, 0, [], none) := (L_196_0 40).trans rfl
theorem I_196_42 : ins 196 42 = some (.iconst 0, 0, 0, [], none) := (L_196_0 42).trans rfl
theorem I_196_43 : ins 196 43 = some (.istore 7, 0, 0, [], none) := (L_196_0 43).trans rfl
theorem I_196_45 : ins 196 45 = some (.iload 7, 0, 0, [], some [0, 1, 2, 3, 4, 5, 6, 7]) := (L_196_0 45).trans rfl
theorem I_196_47 : ins 196 47 = some (.iload 5, 0, 0, [], none) := (L_196_0 47).trans rfl
theorem I_196_49 : ins 196 49 = some (.if_icmp .ge 170, 219, 0, [], none) := (L_196_0 49).trans rfl
theorem I_196_52 : ins 196 52 = some (.aload_n 0, 0, 0, [], some [0, 1, 2, 3, 4, 5, 6, 7]) := (L_196_0 52).trans rfl
theorem I_196_53 : ins 196 53 = some (.iload 4, 0, 0, [], none) := (L_196_0 53).trans rfl
theorem I_196_55 : ins 196 55 = some (.iload 7, 0, 0, [], none) := (L_196_0 55).trans rfl
theorem I_196_57 : ins 196 57 = some (.invokevirtual 214, 2, 0, [(10, 217)], none) := (L_196_0 57).trans rfl
theorem I_196_60 : ins 196 60 = some (.iconst 0, 0, 0, [], none) := (L_196_0 60).trans rfl
theorem I_196_61 : ins 196 61 = some (.istore 8, 0, 0, [], none) := (L_196_0 61).trans rfl
theorem I_196_63 : ins 196 63 = some (.iconst 0, 0, 0, [], none) := (L_196_0 63).trans rfl
theorem I_196_64 : ins 196 64 = some (.istore 9, 0, 0, [], none) := (L_196_0 64).trans rfl
theorem I_196_66 : ins 196 66 = some (.iconst 0, 0, 0, [], none) := (L_196_0 66).trans rfl
theorem I_196_67 : ins 196 67 = some (.istore 10, 0, 0, [], none) := (L_196_0 67).trans rfl
theorem I_196_69 : ins 196 69 = some (.iconst 1, 0, 0, [], none) := (L_196_0 69).trans rfl
theorem I_196_70 : ins 196 70 = some (.istore 11, 0, 0, [], none) := (L_196_0 70).trans rfl
theorem I_196_72 : ins 196 72 = some (.iconst 0, 0, 0, [], none) := (L_196_0 72).trans rfl
theorem I_196_73 : ins 196 73 = some (.istore 12, 0, 0, [], none) := (L_196_1 73 rfl).trans rfl
theorem I_196_75 : ins 196 75 = some (.iload 12, 0, 0, [], some [0, 1, 2, 3, 4, 5, 6, 7, 8, 9, 10, 11, 12]) := (L_196_1 75 rfl).trans rfl
theorem I_196_77 : ins 196 77 = some (.iload 4, 0, 0, [], none) := (L_196_1 77 rfl).trans rfl
theorem I_196_79 : ins 196 79 = some (.if_icmp .ge 82, 161, 0, [], none) := (L_196_1 79 rfl).trans rfl
theorem I_196_82 : ins 196 82 = some (.aload_n 0, 0, 0, [], some [0, 1, 2, 3, 4, 5, 6, 7, 8, 9, 10, 11, 12]) := (L_196_1 82 rfl).trans rfl
theorem I_196_83 : ins 196 83 = some (.getfield 31, 9, 0, [(10, 103)], none) := (L_196_1 83 rfl).trans rfl
theorem I_196_86 : ins 196 86 = some (.iconst 4, 0, 0, [], none) := (L_196_1 86 rfl).trans rfl
theorem I_196_87 : ins 196 87 = some (.aload_n 0, 0, 0, [], none) := (L_196_1 87 rfl).trans rfl
theorem I_196_88 : ins 196 88 = some (.getfield 52, 16, 0, [(10, 110)], none) := (L_196_1 88 rfl).trans rfl
theorem I_196_91 : ins 196 91 = some (.iload 12, 0, 0, [], none) := (L_196_1 91 rfl).trans rfl
theorem I_196_93 : ins 196 93 = some (.iaload, 0, 0, [], none) := (L_196_1 93 rfl).trans rfl
theorem I_196_94 : ins 196 94 = some (.imul, 0, 0, [], none) := (L_196_1 94 rfl).trans rfl
theorem I_196_95 : ins 196 95 = some (.iconst 1, 0, 0, [], none) := (L_196_1 95 rfl).trans rfl
theorem I_196_96 : ins 196 96 = some (.iadd, 0, 0, [], none) := (L_196_1 96 rfl).trans rfl
theorem I_196_97 : ins 196 97 = some (.iaload, 0, 0, [], none) := (L_196_1 97 rfl).trans rfl
theorem I_196_98 : ins 196 98 = some (.istore 13, 0, 0, [], none) := (L_196_1 98 rfl).trans rfl
theorem I_196_100 : ins 196 100 = some (.iload 8, 0, 0, [], none) := (L_196_1 100 rfl).trans rfl
theorem I_196_102 : ins 196 102 = some (.iload 13, 0, 0, [], none) := (L_196_1 102 rfl).trans rfl
theorem I_196_104 : ins 196 104 = some (.iload 9, 0, 0, [], none) := (L_196_1 104 rfl).trans rfl
theorem I_196_106 : ins 196 106 = some (.isub, 0, 0, [], none) := (L_196_1 106 rfl).trans rfl
theorem I_196_107 : ins 196 107 = some (.invokestatic 217, 1, 0, [(0, 218)], none) := (L_196_1 107 rfl).trans rfl
theorem I_196_110 : ins 196 110 = some (.iconst 1, 0, 0, [], none) := (L_196_1 110 rfl).trans rfl
theorem I_196_111 : ins 196 111 = some (.iadd, 0, 0, [], none) := (L_196_1 111 rfl).trans rfl
theorem I_196_112 : ins 196 112 = some (.iadd, 0, 0, [], none) := (L_196_1 112 rfl).trans rfl
theorem I_196_113 : ins 196 113 = some (.istore 8, 0, 0, [], none) := (L_196_1 113 rfl).trans rfl
theorem I_196_115 : ins 196 115 = some (.iload 13, 0, 0, [], none) := (L_196_1 115 rfl).trans rfl
theorem I_196_117 : ins 196 117 = some (.istore 9, 0, 0, [], none) := (L_196_1 117 rfl).trans rfl
theorem I_196_119 : ins 196 119 = some (.iload 10, 0, 0, [], none) := (L_196_1 119 rfl).trans rfl
theorem I_196_121 : ins 196 121 = some (.iload 8, 0, 0, [], none) := (L_196_1 121 rfl).trans rfl
theorem I_196_123 : ins 196 123 = some (.iadd, 0, 0, [], none) := (L_196_1 123 rfl).trans rfl
theorem I_196_124 : ins 196 124 = some (.istore 10, 0, 0, [], none) := (L_196_1 124 rfl).trans rfl
theorem I_196_126 : ins 196 126 = some (.iload 11, 0, 0, [], none) := (L_196_1 126 rfl).trans rfl
theorem I_196_128 : ins 196 128 = some (.ifCond .eq 24, 152, 0, [], none) := (L_196_1 128 rfl).trans rfl
theorem I_196_131 : ins 196 131 = some (.aload_n 0, 0, 0, [], some [0, 1, 2, 3, 4, 5, 6, 7, 8, 9, 10, 12]) := (L_196_1 131 rfl).trans rfl
theorem I_196_132 : ins 196 132 = some (.getfield 52, 16, 0, [(10, 110)], none) := (L_196_1 132 rfl).trans rfl
theorem I_196_135 : ins 196 135 = some (.iload 12, 0, 0, [], none) := (L_196_1 135 rfl).trans rfl
theorem I_196_137 : ins 196 137 = some (.iaload, 0, 0, [], none) := (L_196_1 137 rfl).trans rfl
theorem I_196_138 : ins 196 138 = some (.iload_n 1, 0, 0, [], none) := (L_196_1 138 rfl).trans rfl
theorem I_196_139 : ins 196 139 = some (.if_icmp .ne 9, 148, 0, [], none) := (L_196_1 139 rfl).trans rfl
theorem I_196_142 : ins 196 142 = some (.iload 8, 0, 0, [], some [0, 1, 2, 3, 4, 5, 6, 7, 8, 9, 10, 12]) := (L_196_1 142 rfl).trans rfl
theorem I_196_144 : ins 196 144 = some (.iload_n 2, 0, 0, [], none) := (L_196_2 144 rfl).trans rfl
theorem I_196_145 : ins 196 145 = some (.if_icmp .gt 7, 152, 0, [], none) := (L_196_2 145 rfl).trans rfl
theorem I_196_148 : ins 196 148 = some (.iconst 1, 0, 0, [], some [0, 1, 2, 3, 4, 5, 6, 7, 8, 9, 10, 12]) := (L_196_2 148 rfl).trans rfl
theorem I_196_149 : ins 196 149 = some (.goto 4, 153, 0, [], none) := (L_196_2 149 rfl).trans rfl
theorem I_196_152 : ins 196 152 = some (.iconst 0, 0, 0, [], some [0, 1, 2, 3, 4, 5, 6, 7, 8, 9, 10, 12]) := (L_196_2 152 rfl).trans rfl
theorem I_196_153 : ins 196 153 = some (.istore 11, 0, 0, [], some [0, 1, 2, 3, 4, 5, 6, 7, 8, 9, 10, 12]) := (L_196_2 153 rfl).trans rfl
theorem I_196_155 : ins 196 155 = some (.iinc 12 1, 0, 0, [], none) := (L_196_2 155 rfl).trans rfl
theorem I_196_158 : ins 196 158 = some (.goto (-83), 75, 0, [], none) := (L_196_2 158 rfl).trans rfl
theorem I_196_161 : ins 196 161 = some (.iload 11, 0, 0, [], some [0, 1, 2, 3, 4, 5, 6, 7, 10, 11]) := (L_196_2 161 rfl).trans rfl
theorem I_196_163 : ins 196 163 = some (.ifCond .eq 50, 213, 0, [], none) := (L_196_2 163 rfl).trans rfl
theorem I_196_166 : ins 196 166 = some (.iload 6, 0, 0, [], some [0, 1, 2, 3, 4, 5, 6, 7, 10]) := (L_196_2 166 rfl).trans rfl
theorem I_196_168 : ins 196 168 = some (.iconst (-1), 0, 0, [], none) := (L_196_2 168 rfl).trans rfl
theorem I_196_169 : ins 196 169 = some (.if_icmp .eq 10, 179, 0, [], none) := (L_196_2 169 rfl).trans rfl
theorem I_196_172 : ins 196 172 = some (.iload 10, 0, 0, [], some [0, 1, 2, 3, 4, 5, 6, 7, 10]) := (L_196_2 172 rfl).trans rfl
theorem I_196_174 : ins 196 174 = some (.iload 6, 0, 0, [], none) := (L_196_2 174 rfl).trans rfl
theorem I_196_176 : ins 196 176 = some (.if_icmp .ge 37, 213, 0, [], none) := (L_196_2 176 rfl).trans rfl
theorem I_196_179 : ins 196 179 = some (.iload 10, 0, 0, [], some [0, 1, 2, 3, 4, 5, 7, 10]) := (L_196_2 179 rfl).trans rfl
theorem I_196_181 : ins 196 181 = some (.istore 6, 0, 0, [], none) := (L_196_2 181 rfl).trans rfl
theorem I_196_183 : ins 196 183 = some (.iconst 0, 0, 0, [], none) := (L_196_2 183 rfl).trans rfl
theorem I_196_184 : ins 196 184 = some (.istore 12, 0, 0, [], none) := (L_196_2 184 rfl).trans rfl
theorem I_196_186 : ins 196 186 = some (.iload 12, 0, 0, [], some [0, 1, 2, 3, 4, 5, 6, 7, 12]) := (L_196_2 186 rfl).trans rfl
theorem I_196_188 : ins 196 188 = some (.iload 4, 0, 0, [], none) := (L_196_2 188 rfl).trans rfl
theorem I_196_190 : ins 196 190 = some (.if_icmp .ge 23, 213, 0, [], none) := (L_196_2 190 rfl).trans rfl
theorem I_196_193 : ins 196 193 = some (.aload_n 0, 0, 0, [], some [0, 1, 2, 3, 4, 5, 6, 7, 12]) := (L_196_2 193 rfl).trans rfl
theorem I_196_194 : ins 196 194 = some (.getfield 55, 17, 0, [(10, 111)], none) := (L_196_2 194 rfl).trans rfl
theorem I_196_197 : ins 196 197 = some (.iload 12, 0, 0, [], none) := (L_196_2 197 rfl).trans rfl
theorem I_196_199 : ins 196 199 = some (.aload_n 0, 0, 0, [], none) := (L_196_2 199 rfl).trans rfl
theorem I_196_200 : ins 196 200 = some (.getfield 52, 16, 0, [(10, 110)], none) := (L_196_2 200 rfl).trans rfl
theorem I_196_203 : ins 196 203 = some (.iload 12, 0, 0, [], none) := (L_196_2 203 rfl).trans rfl
theorem I_196_205 : ins 196 205 = some (.iaload, 0, 0, [], none) := (L_196_2 205 rfl).trans rfl
theorem I_196_206 : ins 196 206 = some (.iastore, 0, 0, [], none) := (L_196_2 206 rfl).trans rfl
theorem I_196_207 : ins 196 207 = some (.iinc 12 1, 0, 0, [], none) := (L_196_2 207 rfl).trans rfl
theorem I_196_210 : ins 196 210 = some (.goto (-24), 186, 0, [], none) := (L_196_2 210 rfl).trans rfl
theorem I_196_213 : ins 196 213 = some (.iinc 7 1, 0, 0, [], some [0, 1, 2, 3, 4, 5, 6, 7]) := (L_196_2 213 rfl).trans rfl
theorem I_196_216 : ins 196 216 = some (.goto (-171), 45, 0, [], none) := (L_196_2 216 rfl).trans rfl
theorem I_196_219 : ins 196 219 = some (.iload 6, 0, 0, [], some [0, 3, 4, 6]) := (L_196_2 219 rfl).trans rfl
theorem I_196_221 : ins 196 221 = some (.iconst (-1), 0, 0, [], none) := (L_196_2 221 rfl).trans rfl
theorem I_196_222 : ins 196 222 = some (.if_icmp .ne 7, 229, 0, [], none) := (L_196_2 222 rfl).trans rfl
theorem I_196_225 : ins 196 225 = some (.iconst (-1), 0, 0, [], some []) := (L_196_2 225 rfl).trans rfl
theorem I_196_226 : ins 196 226 = some (.goto 29, 255, 0, [], none) := (L_196_2 226 rfl).trans rfl
theorem I_196_229 : ins 196 229 = some (.iload_n 3, 0, 0, [], some [0, 3, 4, 6]) := (L_196_3 229 rfl).trans rfl
theorem I_196_230 : ins 196 230 = some (.iconst (-1), 0, 0, [], none) := (L_196_3 230 rfl).trans rfl
theorem I_196_231 : ins 196 231 = some (.if_icmp .ne 8, 239, 0, [], none) := (L_196_3 231 rfl).trans rfl
theorem I_196_234 : ins 196 234 = some (.iload 6, 0, 0, [], some [6]) := (L_196_3 234 rfl).trans rfl
theorem I_196_236 : ins 196 236 = some (.goto 19, 255, 0, [], none) := (L_196_3 236 rfl).trans rfl
theorem I_196_239 : ins 196 239 = some (.iload_n 3, 0, 0, [], some [0, 3, 4]) := (L_196_3 239 rfl).trans rfl
theorem I_196_240 : ins 196 240 = some (.iload 4, 0, 0, [], none) := (L_196_3 240 rfl).trans rfl
theorem I_196_242 : ins 196 242 = some (.if_icmp .ge 12, 254, 0, [], none) := (L_196_3 242 rfl).trans rfl
theorem I_196_245 : ins 196 245 = some (.aload_n 0, 0, 0, [], some [0, 3]) := (L_196_3 245 rfl).trans rfl
theorem I_196_246 : ins 196 246 = some (.getfield 55, 17, 0, [(10, 111)], none) := (L_196_3 246 rfl).trans rfl
theorem I_196_249 : ins 196 249 = some (.iload_n 3, 0, 0, [], none) := (L_196_3 249 rfl).trans rfl
theorem I_196_250 : ins 196 250 = some (.iaload, 0, 0, [], none) := (L_196_3 250 rfl).trans rfl
theorem I_196_251 : ins 196 251 = some (.goto 4, 255, 0, [], none) := (L_196_3 251 rfl).trans rfl
theorem I_196_254 : ins 196 254 = some (.iconst (-1), 0, 0, [], some []) := (L_196_3 254 rfl).trans rfl
theorem I_196_255 : ins 196 255 = some (.ireturn, 0, 0, [], some []) := (L_196_3 255 rfl).trans rfl
theorem L_197_0 (pc : Nat) : ins 197 pc = fnd iT197 pc := rfl
theorem I_197_0 : ins 197 0 = some (.aload_n 0, 0, 0, [], none) := (L_197_0 0).trans rfl
theorem I_197_1 : ins 197 1 = some (.invokevirtual 134, 0, 0, [(10, 194)], none) := (L_197_0 1).trans rfl
theorem I_197_4 : ins 197 4 = some (.aload_n 0, 0, 0, [], none) := (L_197_0 4).trans rfl
theorem I_197_5 : ins 197 5 = some (.iload_n 1, 0, 0, [], none) := (L_197_0 5).trans rfl
theorem I_197_6 : ins 197 6 = some (.invokevirtual 137, 1, 0, [(10, 195)], none) := (L_197_0 6).trans rfl
theorem I_197_9 : ins 197 9 = some (.ifCond .eq 45, 54, 0, [], none) := (L_197_0 9).trans rfl
theorem I_197_12 : ins 197 12 = some (.iload_n 1, 0, 0, [], some [0, 1, 2, 3]) := (L_197_0 12).trans rfl
theorem I_197_13 : ins 197 13 = some (.bipush 6, 0, 0, [], none) := (L_197_0 13).trans rfl
theorem I_197_15 : ins 197 15 = some (.if_icmp .ge 39, 54, 0, [], none) := (L_197_0 15).trans rfl
theorem I_197_18 : ins 197 18 = some (.iload_n 2, 0, 0, [], some [0, 1, 2, 3]) := (L_197_0 18).trans rfl
theorem I_197_19 : ins 197 19 = some (.i2l, 0, 0, [], none) := (L_197_0 19).trans rfl
theorem I_197_20 : ins 197 20 = some (.lconst 0, 0, 0, [], none) := (L_197_0 20).trans rfl
theorem I_197_21 : ins 197 21 = some (.ldc2_w 220, 1261, 99, [], none) := (L_197_0 21).trans rfl
theorem I_197_24 : ins 197 24 = some (.invokestatic 69, 3, 0, [(0, 180)], none) := (L_197_0 24).trans rfl
theorem I_197_27 : ins 197 27 = some (.ifCond .eq 27, 54, 0, [], none) := (L_197_0 27).trans rfl
theorem I_197_30 : ins 197 30 = some (.iload_n 3, 0, 0, [], some [0, 1, 2, 3]) := (L_197_0 30).trans rfl
theorem I_197_31 : ins 197 31 = some (.i2l, 0, 0, [], none) := (L_197_0 31).trans rfl
theorem I_197_32 : ins 197 32 = some (.ldc2_w 204, 1251, (-1), [], none) := (L_197_0 32).trans rfl
theorem I_197_35 : ins 197 35 = some (.ldc2_w 222, 1262, 5, [], none) := (L_197_0 35).trans rfl
theorem I_197_38 : ins 197 38 = some (.invokestatic 69, 3, 0, [(0, 180)], none) := (L_197_0 38).trans rfl
theorem I_197_41 : ins 197 41 = some (.ifCond .eq 13, 54, 0, [], none) := (L_197_0 41).trans rfl
theorem I_197_44 : ins 197 44 = some (.aload_n 0, 0, 0, [], some [0, 1, 2, 3]) := (L_197_0 44).trans rfl
theorem I_197_45 : ins 197 45 = some (.iload_n 1, 0, 0, [], none) := (L_197_0 45).trans rfl
theorem I_197_46 : ins 197 46 = some (.iload_n 2, 0, 0, [], none) := (L_197_0 46).trans rfl
theorem I_197_47 : ins 197 47 = some (.iload_n 3, 0, 0, [], none) := (L_197_0 47).trans rfl
theorem I_197_48 : ins 197 48 = some (.invokevirtual 224, 3, 0, [(10, 219)], none) := (L_197_0 48).trans rfl
theorem I_197_51 : ins 197 51 = some (.goto 5, 56, 0, [], none) := (L_197_0 51).trans rfl
theorem I_197_54 : ins 197 54 = some (.bipush (-2), 0, 0, [], some []) := (L_197_0 54).trans rfl
theorem I_197_56 : ins 197 56 = some (.ireturn, 0, 0, [], some []) := (L_197_0 56).trans rfl
theorem L_198_0 (pc : Nat) : ins 198 pc = fnd (iT198_0 ++ (iT198_1 ++ (iT198_2))) pc := rfl
theorem L_198_1 (pc : Nat) (h : Nat.ble 68 pc = true) : ins 198 pc = fnd (iT198_1 ++ (iT198_2)) pc := (L_198_0 pc).trans (fnd_app (lo := 68) rfl (Nat.le_of_ble_eq_true h))
theorem L_198_2 (pc : Nat) (h : Nat.ble 140 pc = true) : ins 198 pc = fnd (iT198_2) pc := (L_198_1 pc (Nat.ble_eq.mpr (Nat.le_trans (Nat.le_of_ble_eq_true (rfl : Nat.ble 68 140 = true)) (Nat.le_of_ble_eq_true h)))).trans (fnd_app (lo := 140) rfl (Nat.le_of_ble_eq_true h))
theorem I_198_0 : ins 198 0 = some (.aload_n 0, 0, 0, [], none) := (L_198_0 0).trans rfl
theorem I_198_1 : ins 198 1 = some (.iload_n 1, 0, 0, [], none) := (L_198_0 1).trans rfl
theorem I_198_2 : ins 198 2 = some (.invokevirtual 177, 1, 0, [(10, 206)], none) := (L_198_0 2).trans rfl
theorem I_198_5 : ins 198 5 = some (.iconst (-1), 0, 0, [], none) := (L_198_0 5).trans rfl
theorem I_198_6 : ins 198 6 = some (.istore_n 3, 0, 0, [], none) := (L_198_0 6).trans rfl
theorem I_198_7 : ins 198 7 = some (.iconst 0, 0, 0, [], none) := (L_198_0 7).trans rfl
theorem I_198_8 : ins 198 8 = some (.istore 4, 0, 0, [], none) := (L_198_0 8).trans rfl
theorem I_198_10 : ins 198 10 = some (.iconst 0, 0, 0, [], none) := (L_198_0 10).trans rfl
theorem I_198_11 : ins 198 11 = some (.istore 5, 0, 0, [], none) := (L_198_0 11).trans rfl
theorem I_198_13 : ins 198 13 = some (.iload 5, 0, 0, [], some [0, 2, 3, 4, 5]) := (L_198_0 13).trans rfl
theorem I_198_15 : ins 198 15 = some (.iconst 1, 0, 0, [], none) := (L_198_0 15).trans rfl
theorem I_198_16 : ins 198 16 = some (.aload_n 0, 0, 0, [], none) := (L_198_0 16).trans rfl
theorem I_198_17 : ins 198 17 = some (.getfield 28, 8, 0, [(10, 102)], none) := (L_198_0 17).trans rfl
theorem I_198_20 : ins 198 20 = some (.iconst 1, 0, 0, [], none) := (L_198_0 20).trans rfl
theorem I_198_21 : ins 198 21 = some (.iaload, 0, 0, [], none) := (L_198_0 21).trans rfl
theorem I_198_22 : ins 198 22 = some (.ishl, 0, 0, [], none) := (L_198_0 22).trans rfl
theorem I_198_23 : ins 198 23 = some (.if_icmp .ge 193, 216, 0, [], none) := (L_198_0 23).trans rfl
theorem I_198_26 : ins 198 26 = some (.iconst 0, 0, 0, [], some [0, 2, 3, 4, 5]) := (L_198_0 26).trans rfl
theorem I_198_27 : ins 198 27 = some (.istore 6, 0, 0, [], none) := (L_198_0 27).trans rfl
theorem I_198_29 : ins 198 29 = some (.iconst 0, 0, 0, [], none) := (L_198_0 29).trans rfl
theorem I_198_30 : ins 198 30 = some (.istore 7, 0, 0, [], none) := (L_198_0 30).trans rfl
theorem I_198_32 : ins 198 32 = some (.iconst 1, 0, 0, [], none) := (L_198_0 32).trans rfl
theorem I_198_33 : ins 198 33 = some (.istore 8, 0, 0, [], none) := (L_198_0 33).trans rfl
theorem I_198_35 : ins 198 35 = some (.iconst 0, 0, 0, [], none) := (L_198_0 35).trans rfl
theorem I_198_36 : ins 198 36 = some (.istore 9, 0, 0, [], none) := (L_198_0 36).trans rfl
theorem I_198_38 : ins 198 38 = some (.iload 9, 0, 0, [], some [0, 2, 3, 4, 5, 6, 7, 8, 9]) := (L_198_0 38).trans rfl
theorem I_198_40 : ins 198 40 = some (.aload_n 0, 0, 0, [], none) := (L_198_0 40).trans rfl
theorem I_198_41 : ins 198 41 = some (.getfield 28, 8, 0, [(10, 102)], none) := (L_198_0 41).trans rfl
theorem I_198_44 : ins 198 44 = some (.iconst 1, 0, 0, [], none) := (L_198_0 44).trans rfl
theorem I_198_45 : ins 198 45 = some (.iaload, 0, 0, [], none) := (L_198_0 45).trans rfl
theorem I_198_46 : ins 198 46 = some (.if_icmp .ge 103, 149, 0, [], none) := (L_198_0 46).trans rfl
theorem I_198_49 : ins 198 49 = some (.iload 6, 0, 0, [], some [0, 2, 3, 4, 5, 6, 7, 8, 9]) := (L_198_0 49).trans rfl
theorem I_198_51 : ins 198 51 = some (.iload 5, 0, 0, [], none) := (L_198_0 51).trans rfl
theorem I_198_53 : ins 198 53 = some (.iload 9, 0, 0, [], none) := (L_198_0 53).trans rfl
theorem I_198_55 : ins 198 55 = some (.invokestatic 157, 2, 0, [(0, 200)], none) := (L_198_0 55).trans rfl
theorem I_198_58 : ins 198 58 = some (.ifCond .eq 15, 73, 0, [], none) := (L_198_0 58).trans rfl
theorem I_198_61 : ins 198 61 = some (.aload_n 0, 0, 0, [], some [0, 2, 3, 4, 5, 7, 8, 9]) := (L_198_0 61).trans rfl
theorem I_198_62 : ins 198 62 = some (.getfield 43, 13, 0, [(10, 107)], none) := (L_198_0 62).trans rfl
theorem I_198_65 : ins 198 65 = some (.iconst 3, 0, 0, [], none) := (L_198_0 65).trans rfl
theorem I_198_66 : ins 198 66 = some (.iload 9, 0, 0, [], none) := (L_198_0 66).trans rfl
theorem I_198_68 : ins 198 68 = some (.imul, 0, 0, [], none) := (L_198_1 68 rfl).trans rfl
theorem I_198_69 : ins 198 69 = some (.iaload, 0, 0, [], none) := (L_198_1 69 rfl).trans rfl
theorem I_198_70 : ins 198 70 = some (.goto 4, 74, 0, [], none) := (L_198_1 70 rfl).trans rfl
theorem I_198_73 : ins 198 73 = some (.iconst 0, 0, 0, [], some [0, 2, 3, 4, 5, 7, 8, 9]) := (L_198_1 73 rfl).trans rfl
theorem I_198_74 : ins 198 74 = some (.iadd, 0, 0, [], some [0, 2, 3, 4, 5, 7, 8, 9]) := (L_198_1 74 rfl).trans rfl
theorem I_198_75 : ins 198 75 = some (.istore 6, 0, 0, [], none) := (L_198_1 75 rfl).trans rfl
theorem I_198_77 : ins 198 77 = some (.iload 7, 0, 0, [], none) := (L_198_1 77 rfl).trans rfl
theorem I_198_79 : ins 198 79 = some (.iload 5, 0, 0, [], none) := (L_198_1 79 rfl).trans rfl
theorem I_198_81 : ins 198 81 = some (.iload 9, 0, 0, [], none) := (L_198_1 81 rfl).trans rfl
theorem I_198_83 : ins 198 83 = some (.invokestatic 157, 2, 0, [(0, 200)], none) := (L_198_1 83 rfl).trans rfl
theorem I_198_86 : ins 198 86 = some (.ifCond .eq 17, 103, 0, [], none) := (L_198_1 86 rfl).trans rfl
theorem I_198_89 : ins 198 89 = some (.aload_n 0, 0, 0, [], some [0, 2, 3, 4, 5, 6, 8, 9]) := (L_198_1 89 rfl).trans rfl
theorem I_198_90 : ins 198 90 = some (.getfield 43, 13, 0, [(10, 107)], none) := (L_198_1 90 rfl).trans rfl
theorem I_198_93 : ins 198 93 = some (.iconst 3, 0, 0, [], none) := (L_198_1 93 rfl).trans rfl
theorem I_198_94 : ins 198 94 = some (.iload 9, 0, 0, [], none) := (L_198_1 94 rfl).trans rfl
theorem I_198_96 : ins 198 96 = some (.imul, 0, 0, [], none) := (L_198_1 96 rfl).trans rfl
theorem I_198_97 : ins 198 97 = some (.iconst 2, 0, 0, [], none) := (L_198_1 97 rfl).trans rfl
theorem I_198_98 : ins 198 98 = some (.iadd, 0, 0, [], none) := (L_198_1 98 rfl).trans rfl
theorem I_198_99 : ins 198 99 = some (.iaload, 0, 0, [], none) := (L_198_1 99 rfl).trans rfl
theorem I_198_100 : ins 198 100 = some (.goto 4, 104, 0, [], none) := (L_198_1 100 rfl).trans rfl
theorem I_198_103 : ins 198 103 = some (.iconst 0, 0, 0, [], some [0, 2, 3, 4, 5, 6, 8, 9]) := (L_198_1 103 rfl).trans rfl
theorem I_198_104 : ins 198 104 = some (.iadd, 0, 0, [], some [0, 2, 3, 4, 5, 6, 8, 9]) := (L_198_1 104 rfl).trans rfl
theorem I_198_105 : ins 198 105 = some (.istore 7, 0, 0, [], none) := (L_198_1 105 rfl).trans rfl
theorem I_198_107 : ins 198 107 = some (.iload 8, 0, 0, [], none) := (L_198_1 107 rfl).trans rfl
theorem I_198_109 : ins 198 109 = some (.ifCond .eq 31, 140, 0, [], none) := (L_198_1 109 rfl).trans rfl
theorem I_198_112 : ins 198 112 = some (.iload 5, 0, 0, [], some [0, 2, 3, 4, 5, 6, 7, 9]) := (L_198_1 112 rfl).trans rfl
theorem I_198_114 : ins 198 114 = some (.iload 9, 0, 0, [], none) := (L_198_1 114 rfl).trans rfl
theorem I_198_116 : ins 198 116 = some (.invokestatic 157, 2, 0, [(0, 200)], none) := (L_198_1 116 rfl).trans rfl
theorem I_198_119 : ins 198 119 = some (.ifCond .eq 17, 136, 0, [], none) := (L_198_1 119 rfl).trans rfl
theorem I_198_122 : ins 198 122 = some (.aload_n 0, 0, 0, [], some [0, 2, 3, 4, 5, 6, 7, 9]) := (L_198_1 122 rfl).trans rfl
theorem I_198_123 : ins 198 123 = some (.getfield 43, 13, 0, [(10, 107)], none) := (L_198_1 123 rfl).trans rfl
theorem I_198_126 : ins 198 126 = some (.iconst 3, 0, 0, [], none) := (L_198_1 126 rfl).trans rfl
theorem I_198_127 : ins 198 127 = some (.iload 9, 0, 0, [], none) := (L_198_1 127 rfl).trans rfl
theorem I_198_129 : ins 198 129 = some (.imul, 0, 0, [], none) := (L_198_1 129 rfl).trans rfl
theorem I_198_130 : ins 198 130 = some (.iconst 2, 0, 0, [], none) := (L_198_1 130 rfl).trans rfl
theorem I_198_131 : ins 198 131 = some (.iadd, 0, 0, [], none) := (L_198_1 131 rfl).trans rfl
theorem I_198_132 : ins 198 132 = some (.iaload, 0, 0, [], none) := (L_198_1 132 rfl).trans rfl
theorem I_198_133 : ins 198 133 = some (.ifCond .le 7, 140, 0, [], none) := (L_198_1 133 rfl).trans rfl
theorem I_198_136 : ins 198 136 = some (.iconst 1, 0, 0, [], some [0, 2, 3, 4, 5, 6, 7, 9]) := (L_198_1 136 rfl).trans rfl
theorem I_198_137 : ins 198 137 = some (.goto 4, 141, 0, [], none) := (L_198_1 137 rfl).trans rfl
theorem I_198_140 : ins 198 140 = some (.iconst 0, 0, 0, [], some [0, 2, 3, 4, 5, 6, 7, 9]) := (L_198_2 140 rfl).trans rfl
theorem I_198_141 : ins 198 141 = some (.istore 8, 0, 0, [], some [0, 2, 3, 4, 5, 6, 7, 9]) := (L_198_2 141 rfl).trans rfl
theorem I_198_143 : ins 198 143 = some (.iinc 9 1, 0, 0, [], none) := (L_198_2 143 rfl).trans rfl
theorem I_198_146 : ins 198 146 = some (.goto (-108), 38, 0, [], none) := (L_198_2 146 rfl).trans rfl
theorem I_198_149 : ins 198 149 = some (.iload_n 3, 0, 0, [], some [0, 2, 3, 4, 5, 6, 7, 8]) := (L_198_2 149 rfl).trans rfl
theorem I_198_150 : ins 198 150 = some (.iconst (-1), 0, 0, [], none) := (L_198_2 150 rfl).trans rfl
theorem I_198_151 : ins 198 151 = some (.if_icmp .eq 29, 180, 0, [], none) := (L_198_2 151 rfl).trans rfl
theorem I_198_154 : ins 198 154 = some (.iload 7, 0, 0, [], some [0, 2, 3, 4, 5, 6, 7, 8]) := (L_198_2 154 rfl).trans rfl
theorem I_198_156 : ins 198 156 = some (.iload 4, 0, 0, [], none) := (L_198_2 156 rfl).trans rfl
theorem I_198_158 : ins 198 158 = some (.if_icmp .lt 22, 180, 0, [], none) := (L_198_2 158 rfl).trans rfl
theorem I_198_161 : ins 198 161 = some (.iload 7, 0, 0, [], some [0, 2, 3, 4, 5, 6, 7, 8]) := (L_198_2 161 rfl).trans rfl
theorem I_198_163 : ins 198 163 = some (.iload 4, 0, 0, [], none) := (L_198_2 163 rfl).trans rfl
theorem I_198_165 : ins 198 165 = some (.if_icmp .ne 19, 184, 0, [], none) := (L_198_2 165 rfl).trans rfl
theorem I_198_168 : ins 198 168 = some (.iload 5, 0, 0, [], some [0, 2, 3, 4, 5, 6, 7, 8]) := (L_198_2 168 rfl).trans rfl
theorem I_198_170 : ins 198 170 = some (.invokestatic 227, 1, 0, [(0, 220)], none) := (L_198_2 170 rfl).trans rfl
theorem I_198_173 : ins 198 173 = some (.iload_n 3, 0, 0, [], none) := (L_198_2 173 rfl).trans rfl
theorem I_198_174 : ins 198 174 = some (.invokestatic 227, 1, 0, [(0, 220)], none) := (L_198_2 174 rfl).trans rfl
theorem I_198_177 : ins 198 177 = some (.if_icmp .ge 7, 184, 0, [], none) := (L_198_2 177 rfl).trans rfl
theorem I_198_180 : ins 198 180 = some (.iconst 1, 0, 0, [], some [0, 2, 3, 4, 5, 6, 7, 8]) := (L_198_2 180 rfl).trans rfl
theorem I_198_181 : ins 198 181 = some (.goto 4, 185, 0, [], none) := (L_198_2 181 rfl).trans rfl
theorem I_198_184 : ins 198 184 = some (.iconst 0, 0, 0, [], some [0, 2, 3, 4, 5, 6, 7, 8]) := (L_198_2 184 rfl).trans rfl
theorem I_198_185 : ins 198 185 = some (.istore 9, 0, 0, [], some [0, 2, 3, 4, 5, 6, 7, 8]) := (L_198_2 185 rfl).trans rfl
theorem I_198_187 : ins 198 187 = some (.iload 8, 0, 0, [], none) := (L_198_2 187 rfl).trans rfl
theorem I_198_189 : ins 198 189 = some (.ifCond .eq 21, 210, 0, [], none) := (L_198_2 189 rfl).trans rfl
theorem I_198_192 : ins 198 192 = some (.iload 6, 0, 0, [], some [0, 2, 3, 4, 5, 6, 7, 9]) := (L_198_2 192 rfl).trans rfl
theorem I_198_194 : ins 198 194 = some (.iload_n 2, 0, 0, [], none) := (L_198_2 194 rfl).trans rfl
theorem I_198_195 : ins 198 195 = some (.if_icmp .lt 15, 210, 0, [], none) := (L_198_2 195 rfl).trans rfl
theorem I_198_198 : ins 198 198 = some (.iload 9, 0, 0, [], some [0, 2, 3, 4, 5, 7, 9]) := (L_198_2 198 rfl).trans rfl
theorem I_198_200 : ins 198 200 = some (.ifCond .eq 10, 210, 0, [], none) := (L_198_2 200 rfl).trans rfl
theorem I_198_203 : ins 198 203 = some (.iload 5, 0, 0, [], some [0, 2, 5, 7]) := (L_198_2 203 rfl).trans rfl
theorem I_198_205 : ins 198 205 = some (.istore_n 3, 0, 0, [], none) := (L_198_2 205 rfl).trans rfl
theorem I_198_206 : ins 198 206 = some (.iload 7, 0, 0, [], none) := (L_198_2 206 rfl).trans rfl
theorem I_198_208 : ins 198 208 = some (.istore 4, 0, 0, [], none) := (L_198_2 208 rfl).trans rfl
theorem I_198_210 : ins 198 210 = some (.iinc 5 1, 0, 0, [], some [0, 2, 3, 4, 5]) := (L_198_2 210 rfl).trans rfl
theorem I_198_213 : ins 198 213 = some (.goto (-200), 13, 0, [], none) := (L_198_2 213 rfl).trans rfl
theorem I_198_216 : ins 198 216 = some (.iload_n 3, 0, 0, [], some [3]) := (L_198_2 216 rfl).trans rfl
theorem I_198_217 : ins 198 217 = some (.ireturn, 0, 0, [], none) := (L_198_2 217 rfl).trans rfl
theorem L_199_0 (pc : Nat) : ins 199 pc = fnd iT199 pc := rfl
theorem I_199_0 : ins 199 0 = some (.aload_n 0, 0, 0, [], none) := (L_199_0 0).trans rfl
theorem I_199_1 : ins 199 1 = some (.invokevirtual 134, 0, 0, [(10, 194)], none) := (L_199_0 1).trans rfl
theorem I_199_4 : ins 199 4 = some (.aload_n 0, 0, 0, [], none) := (L_199_0 4).trans rfl
theorem I_199_5 : ins 199 5 = some (.iload_n 1, 0, 0, [], none) := (L_199_0 5).trans rfl
theorem I_199_6 : ins 199 6 = some (.invokevirtual 180, 1, 0, [(10, 207)], none) := (L_199_0 6).trans rfl
theorem I_199_9 : ins 199 9 = some (.ifCond .eq 26, 35, 0, [], none) := (L_199_0 9).trans rfl
theorem I_199_12 : ins 199 12 = some (.iload_n 2, 0, 0, [], some [0, 1, 2]) := (L_199_0 12).trans rfl
theorem I_199_13 : ins 199 13 = some (.i2l, 0, 0, [], none) := (L_199_0 13).trans rfl
theorem I_199_14 : ins 199 14 = some (.ldc2_w 230, 1281, 10, [], none) := (L_199_0 14).trans rfl
theorem I_199_17 : ins 199 17 = some (.ldc2_w 232, 1282, 400, [], none) := (L_199_0 17).trans rfl
theorem I_199_20 : ins 199 20 = some (.invokestatic 69, 3, 0, [(0, 180)], none) := (L_199_0 20).trans rfl
theorem I_199_23 : ins 199 23 = some (.ifCond .eq 12, 35, 0, [], none) := (L_199_0 23).trans rfl
theorem I_199_26 : ins 199 26 = some (.aload_n 0, 0, 0, [], some [0, 1, 2]) := (L_199_0 26).trans rfl
theorem I_199_27 : ins 199 27 = some (.iload_n 1, 0, 0, [], none) := (L_199_0 27).trans rfl
theorem I_199_28 : ins 199 28 = some (.iload_n 2, 0, 0, [], none) := (L_199_0 28).trans rfl
theorem I_199_29 : ins 199 29 = some (.invokevirtual 234, 2, 0, [(10, 221)], none) := (L_199_0 29).trans rfl
theorem I_199_32 : ins 199 32 = some (.goto 5, 37, 0, [], none) := (L_199_0 32).trans rfl
theorem I_199_35 : ins 199 35 = some (.bipush (-2), 0, 0, [], some []) := (L_199_0 35).trans rfl
theorem I_199_37 : ins 199 37 = some (.ireturn, 0, 0, [], some []) := (L_199_0 37).trans rfl
theorem L_200_0 (pc : Nat) : ins 200 pc = fnd (iT200_0 ++ (iT200_1)) pc := rfl
theorem L_200_1 (pc : Nat) (h : Nat.ble 75 pc = true) : ins 200 pc = fnd (iT200_1) pc := (L_200_0 pc).trans (fnd_app (lo := 75) rfl (Nat.le_of_ble_eq_true h))
theorem I_200_0 : ins 200 0 = some (.iload_n 1, 0, 0, [], none) := (L_200_0 0).trans rfl
theorem I_200_1 : ins 200 1 = some (.i2l, 0, 0, [], none) := (L_200_0 1).trans rfl
theorem I_200_2 : ins 200 2 = some (.lconst 0, 0, 0, [], none) := (L_200_0 2).trans rfl
theorem I_200_3 : ins 200 3 = some (.ldc2_w 237, 1294, 24, [], none) := (L_200_0 3).trans rfl
theorem I_200_6 : ins 200 6 = some (.invokestatic 69, 3, 0, [(0, 180)], none) := (L_200_0 6).trans rfl
theorem I_200_9 : ins 200 9 = some (.ifCond .eq 29, 38, 0, [], none) := (L_200_0 9).trans rfl
theorem I_200_12 : ins 200 12 = some (.iload_n 2, 0, 0, [], some [0, 1, 2, 3]) := (L_200_0 12).trans rfl
theorem I_200_13 : ins 200 13 = some (.i2l, 0, 0, [], none) := (L_200_0 13).trans rfl
theorem I_200_14 : ins 200 14 = some (.lconst 0, 0, 0, [], none) := (L_200_0 14).trans rfl
theorem I_200_15 : ins 200 15 = some (.ldc2_w 206, 1252, 7, [], none) := (L_200_0 15).trans rfl
theorem I_200_18 : ins 200 18 = some (.invokestatic 69, 3, 0, [(0, 180)], none) := (L_200_0 18).trans rfl
theorem I_200_21 : ins 200 21 = some (.ifCond .eq 17, 38, 0, [], none) := (L_200_0 21).trans rfl
theorem I_200_24 : ins 200 24 = some (.iload_n 3, 0, 0, [], some [0, 1, 2, 3]) := (L_200_0 24).trans rfl
theorem I_200_25 : ins 200 25 = some (.i2l, 0, 0, [], none) := (L_200_0 25).trans rfl
theorem I_200_26 : ins 200 26 = some (.ldc2_w 204, 1251, (-1), [], none) := (L_200_0 26).trans rfl
theorem I_200_29 : ins 200 29 = some (.ldc2_w 206, 1252, 7, [], none) := (L_200_0 29).trans rfl
theorem I_200_32 : ins 200 32 = some (.invokestatic 69, 3, 0, [(0, 180)], none) := (L_200_0 32).trans rfl
theorem I_200_35 : ins 200 35 = some (.ifCond .ne 6, 41, 0, [], none) := (L_200_0 35).trans rfl
theorem I_200_38 : ins 200 38 = some (.bipush (-2), 0, 0, [], some []) := (L_200_0 38).trans rfl
theorem I_200_40 : ins 200 40 = some (.ireturn, 0, 0, [], none) := (L_200_0 40).trans rfl
theorem I_200_41 : ins 200 41 = some (.aload_n 0, 0, 0, [], some [0, 1, 2, 3]) := (L_200_0 41).trans rfl
theorem I_200_42 : ins 200 42 = some (.getfield 239, 18, 0, [(10, 117)], none) := (L_200_0 42).trans rfl
theorem I_200_45 : ins 200 45 = some (.bipush 8, 0, 0, [], none) := (L_200_0 45).trans rfl
theorem I_200_47 : ins 200 47 = some (.if_icmp .ne 6, 53, 0, [], none) := (L_200_0 47).trans rfl
theorem I_200_50 : ins 200 50 = some (.bipush (-4), 0, 0, [], some []) := (L_200_0 50).trans rfl
theorem I_200_52 : ins 200 52 = some (.ireturn, 0, 0, [], none) := (L_200_0 52).trans rfl
theorem I_200_53 : ins 200 53 = some (.aload_n 0, 0, 0, [], some [0, 1, 2, 3]) := (L_200_0 53).trans rfl
theorem I_200_54 : ins 200 54 = some (.getfield 58, 19, 0, [(10, 112)], none) := (L_200_0 54).trans rfl
theorem I_200_57 : ins 200 57 = some (.iconst 3, 0, 0, [], none) := (L_200_0 57).trans rfl
theorem I_200_58 : ins 200 58 = some (.aload_n 0, 0, 0, [], none) := (L_200_0 58).trans rfl
theorem I_200_59 : ins 200 59 = some (.getfield 239, 18, 0, [(10, 117)], none) := (L_200_0 59).trans rfl
theorem I_200_62 : ins 200 62 = some (.imul, 0, 0, [], none) := (L_200_0 62).trans rfl
theorem I_200_63 : ins 200 63 = some (.iload_n 1, 0, 0, [], none) := (L_200_0 63).trans rfl
theorem I_200_64 : ins 200 64 = some (.iastore, 0, 0, [], none) := (L_200_0 64).trans rfl
theorem I_200_65 : ins 200 65 = some (.aload_n 0, 0, 0, [], none) := (L_200_0 65).trans rfl
theorem I_200_66 : ins 200 66 = some (.getfield 58, 19, 0, [(10, 112)], none) := (L_200_0 66).trans rfl
theorem I_200_69 : ins 200 69 = some (.iconst 3, 0, 0, [], none) := (L_200_0 69).trans rfl
theorem I_200_70 : ins 200 70 = some (.aload_n 0, 0, 0, [], none) := (L_200_0 70).trans rfl
theorem I_200_71 : ins 200 71 = some (.getfield 239, 18, 0, [(10, 117)], none) := (L_200_0 71).trans rfl
theorem I_200_74 : ins 200 74 = some (.imul, 0, 0, [], none) := (L_200_0 74).trans rfl
theorem I_200_75 : ins 200 75 = some (.iconst 1, 0, 0, [], none) := (L_200_1 75 rfl).trans rfl
theorem I_200_76 : ins 200 76 = some (.iadd, 0, 0, [], none) := (L_200_1 76 rfl).trans rfl
theorem I_200_77 : ins 200 77 = some (.iload_n 2, 0, 0, [], none) := (L_200_1 77 rfl).trans rfl
theorem I_200_78 : ins 200 78 = some (.iastore, 0, 0, [], none) := (L_200_1 78 rfl).trans rfl
theorem I_200_79 : ins 200 79 = some (.aload_n 0, 0, 0, [], none) := (L_200_1 79 rfl).trans rfl
theorem I_200_80 : ins 200 80 = some (.getfield 58, 19, 0, [(10, 112)], none) := (L_200_1 80 rfl).trans rfl
theorem I_200_83 : ins 200 83 = some (.iconst 3, 0, 0, [], none) := (L_200_1 83 rfl).trans rfl
theorem I_200_84 : ins 200 84 = some (.aload_n 0, 0, 0, [], none) := (L_200_1 84 rfl).trans rfl
theorem I_200_85 : ins 200 85 = some (.getfield 239, 18, 0, [(10, 117)], none) := (L_200_1 85 rfl).trans rfl
theorem I_200_88 : ins 200 88 = some (.imul, 0, 0, [], none) := (L_200_1 88 rfl).trans rfl
theorem I_200_89 : ins 200 89 = some (.iconst 2, 0, 0, [], none) := (L_200_1 89 rfl).trans rfl
theorem I_200_90 : ins 200 90 = some (.iadd, 0, 0, [], none) := (L_200_1 90 rfl).trans rfl
theorem I_200_91 : ins 200 91 = some (.iload_n 3, 0, 0, [], none) := (L_200_1 91 rfl).trans rfl
theorem I_200_92 : ins 200 92 = some (.iastore, 0, 0, [], none) := (L_200_1 92 rfl).trans rfl
theorem I_200_93 : ins 200 93 = some (.aload_n 0, 0, 0, [], none) := (L_200_1 93 rfl).trans rfl
theorem I_200_94 : ins 200 94 = some (.dup, 0, 0, [], none) := (L_200_1 94 rfl).trans rfl
theorem I_200_95 : ins 200 95 = some (.getfield 239, 18, 0, [(10, 117)], none) := (L_200_1 95 rfl).trans rfl
theorem I_200_98 : ins 200 98 = some (.iconst 1, 0, 0, [], none) := (L_200_1 98 rfl).trans rfl
theorem I_200_99 : ins 200 99 = some (.iadd, 0, 0, [], none) := (L_200_1 99 rfl).trans rfl
theorem I_200_100 : ins 200 100 = some (.putfield 239, 18, 0, [(10, 117)], none) := (L_200_1 100 rfl).trans rfl
theorem I_200_103 : ins 200 103 = some (.aload_n 0, 0, 0, [], none) := (L_200_1 103 rfl).trans rfl
theorem I_200_104 : ins 200 104 = some (.getfield 239, 18, 0, [(10, 117)], none) := (L_200_1 104 rfl).trans rfl
theorem I_200_107 : ins 200 107 = some (.ireturn, 0, 0, [], none) := (L_200_1 107 rfl).trans rfl
theorem L_201_0 (pc : Nat) : ins 201 pc = fnd iT201 pc := rfl
theorem I_201_0 : ins 201 0 = some (.aload_n 0, 0, 0, [], none) := (L_201_0 0).trans rfl
theorem I_201_1 : ins 201 1 = some (.getfield 239, 18, 0, [(10, 117)], none) := (L_201_0 1).trans rfl
theorem I_201_4 : ins 201 4 = some (.istore_n 1, 0, 0, [], none) := (L_201_0 4).trans rfl
theorem I_201_5 : ins 201 5 = some (.aload_n 0, 0, 0, [], none) := (L_201_0 5).trans rfl
theorem I_201_6 : ins 201 6 = some (.iconst 0, 0, 0, [], none) := (L_201_0 6).trans rfl
theorem I_201_7 : ins 201 7 = some (.putfield 239, 18, 0, [(10, 117)], none) := (L_201_0 7).trans rfl
theorem I_201_10 : ins 201 10 = some (.iload_n 1, 0, 0, [], none) := (L_201_0 10).trans rfl
theorem I_201_11 : ins 201 11 = some (.ireturn, 0, 0, [], none) := (L_201_0 11).trans rfl
theorem L_202_0 (pc : Nat) : ins 202 pc = fnd (iT202_0 ++ (iT202_1)) pc := rfl
theorem L_202_1 (pc : Nat) (h : Nat.ble 59 pc = true) : ins 202 pc = fnd (iT202_1) pc := (L_202_0 pc).trans (fnd_app (lo := 59) rfl (Nat.le_of_ble_eq_true h))
theorem I_202_0 : ins 202 0 = some (.iload_n 1, 0, 0, [], none) := (L_202_0 0).trans rfl
theorem I_202_1 : ins 202 1 = some (.invokestatic 79, 1, 0, [(0, 181)], none) := (L_202_0 1).trans rfl
theorem I_202_4 : ins 202 4 = some (.ifCond .ne 6, 10, 0, [], none) := (L_202_0 4).trans rfl
theorem I_202_7 : ins 202 7 = some (.bipush (-2), 0, 0, [], some []) := (L_202_0 7).trans rfl
theorem I_202_9 : ins 202 9 = some (.ireturn, 0, 0, [], none) := (L_202_0 9).trans rfl
theorem I_202_10 : ins 202 10 = some (.aload_n 0, 0, 0, [], some [0, 1]) := (L_202_0 10).trans rfl
theorem I_202_11 : ins 202 11 = some (.getfield 7, 0, 0, [(10, 96)], none) := (L_202_0 11).trans rfl
theorem I_202_14 : ins 202 14 = some (.iload_n 1, 0, 0, [], none) := (L_202_0 14).trans rfl
theorem I_202_15 : ins 202 15 = some (.iaload, 0, 0, [], none) := (L_202_0 15).trans rfl
theorem I_202_16 : ins 202 16 = some (.ifCond .ge 9, 25, 0, [], none) := (L_202_0 16).trans rfl
theorem I_202_19 : ins 202 19 = some (.aload_n 0, 0, 0, [], some [0]) := (L_202_0 19).trans rfl
theorem I_202_20 : ins 202 20 = some (.iconst 1, 0, 0, [], none) := (L_202_0 20).trans rfl
theorem I_202_21 : ins 202 21 = some (.invokevirtual 85, 1, 0, [(10, 182)], none) := (L_202_0 21).trans rfl
theorem I_202_24 : ins 202 24 = some (.ireturn, 0, 0, [], none) := (L_202_0 24).trans rfl
theorem I_202_25 : ins 202 25 = some (.iconst 0, 0, 0, [], some [0, 1]) := (L_202_0 25).trans rfl
theorem I_202_26 : ins 202 26 = some (.istore_n 2, 0, 0, [], none) := (L_202_0 26).trans rfl
theorem I_202_27 : ins 202 27 = some (.iconst 1, 0, 0, [], none) := (L_202_0 27).trans rfl
theorem I_202_28 : ins 202 28 = some (.istore_n 3, 0, 0, [], none) := (L_202_0 28).trans rfl
theorem I_202_29 : ins 202 29 = some (.iload_n 3, 0, 0, [], some [0, 1, 2, 3]) := (L_202_0 29).trans rfl
theorem I_202_30 : ins 202 30 = some (.ifCond .eq 80, 110, 0, [], none) := (L_202_0 30).trans rfl
theorem I_202_33 : ins 202 33 = some (.iconst 3, 0, 0, [], some [0, 1, 2]) := (L_202_0 33).trans rfl
theorem I_202_34 : ins 202 34 = some (.iload_n 2, 0, 0, [], none) := (L_202_0 34).trans rfl
theorem I_202_35 : ins 202 35 = some (.imul, 0, 0, [], none) := (L_202_0 35).trans rfl
theorem I_202_36 : ins 202 36 = some (.iconst 3, 0, 0, [], none) := (L_202_0 36).trans rfl
theorem I_202_37 : ins 202 37 = some (.iadd, 0, 0, [], none) := (L_202_0 37).trans rfl
theorem I_202_38 : ins 202 38 = some (.aload_n 0, 0, 0, [], none) := (L_202_0 38).trans rfl
theorem I_202_39 : ins 202 39 = some (.getfield 13, 1, 0, [(10, 97)], none) := (L_202_0 39).trans rfl
theorem I_202_42 : ins 202 42 = some (.iload_n 1, 0, 0, [], none) := (L_202_0 42).trans rfl
theorem I_202_43 : ins 202 43 = some (.iaload, 0, 0, [], none) := (L_202_0 43).trans rfl
theorem I_202_44 : ins 202 44 = some (.if_icmp .gt 66, 110, 0, [], none) := (L_202_0 44).trans rfl
theorem I_202_47 : ins 202 47 = some (.bipush 60, 0, 0, [], some [0, 1, 2]) := (L_202_0 47).trans rfl
theorem I_202_49 : ins 202 49 = some (.iload_n 1, 0, 0, [], none) := (L_202_0 49).trans rfl
theorem I_202_50 : ins 202 50 = some (.imul, 0, 0, [], none) := (L_202_0 50).trans rfl
theorem I_202_51 : ins 202 51 = some (.iconst 3, 0, 0, [], none) := (L_202_0 51).trans rfl
theorem I_202_52 : ins 202 52 = some (.iload_n 2, 0, 0, [], none) := (L_202_0 52).trans rfl
theorem I_202_53 : ins 202 53 = some (.imul, 0, 0, [], none) := (L_202_0 53).trans rfl
theorem I_202_54 : ins 202 54 = some (.iadd, 0, 0, [], none) := (L_202_0 54).trans rfl
theorem I_202_55 : ins 202 55 = some (.istore 4, 0, 0, [], none) := (L_202_0 55).trans rfl
theorem I_202_57 : ins 202 57 = some (.aload_n 0, 0, 0, [], none) := (L_202_0 57).trans rfl
theorem I_202_58 : ins 202 58 = some (.aload_n 0, 0, 0, [], none) := (L_202_0 58).trans rfl
theorem I_202_59 : ins 202 59 = some (.getfield 16, 2, 0, [(10, 98)], none) := (L_202_1 59 rfl).trans rfl
theorem I_202_62 : ins 202 62 = some (.iload 4, 0, 0, [], none) := (L_202_1 62 rfl).trans rfl
theorem I_202_64 : ins 202 64 = some (.iaload, 0, 0, [], none) := (L_202_1 64 rfl).trans rfl
theorem I_202_65 : ins 202 65 = some (.aload_n 0, 0, 0, [], none) := (L_202_1 65 rfl).trans rfl
theorem I_202_66 : ins 202 66 = some (.getfield 16, 2, 0, [(10, 98)], none) := (L_202_1 66 rfl).trans rfl
theorem I_202_69 : ins 202 69 = some (.iload 4, 0, 0, [], none) := (L_202_1 69 rfl).trans rfl
theorem I_202_71 : ins 202 71 = some (.iconst 1, 0, 0, [], none) := (L_202_1 71 rfl).trans rfl
theorem I_202_72 : ins 202 72 = some (.iadd, 0, 0, [], none) := (L_202_1 72 rfl).trans rfl
theorem I_202_73 : ins 202 73 = some (.iaload, 0, 0, [], none) := (L_202_1 73 rfl).trans rfl
theorem I_202_74 : ins 202 74 = some (.aload_n 0, 0, 0, [], none) := (L_202_1 74 rfl).trans rfl
theorem I_202_75 : ins 202 75 = some (.getfield 16, 2, 0, [(10, 98)], none) := (L_202_1 75 rfl).trans rfl
theorem I_202_78 : ins 202 78 = some (.iload 4, 0, 0, [], none) := (L_202_1 78 rfl).trans rfl
theorem I_202_80 : ins 202 80 = some (.iconst 2, 0, 0, [], none) := (L_202_1 80 rfl).trans rfl
theorem I_202_81 : ins 202 81 = some (.iadd, 0, 0, [], none) := (L_202_1 81 rfl).trans rfl
theorem I_202_82 : ins 202 82 = some (.iaload, 0, 0, [], none) := (L_202_1 82 rfl).trans rfl
theorem I_202_83 : ins 202 83 = some (.invokevirtual 242, 3, 0, [(10, 222)], none) := (L_202_1 83 rfl).trans rfl
theorem I_202_86 : ins 202 86 = some (.ifCond .lt 7, 93, 0, [], none) := (L_202_1 86 rfl).trans rfl
theorem I_202_89 : ins 202 89 = some (.iconst 1, 0, 0, [], some [0, 1, 2]) := (L_202_1 89 rfl).trans rfl
theorem I_202_90 : ins 202 90 = some (.goto 4, 94, 0, [], none) := (L_202_1 90 rfl).trans rfl
theorem I_202_93 : ins 202 93 = some (.iconst 0, 0, 0, [], some [0, 1, 2]) := (L_202_1 93 rfl).trans rfl
theorem I_202_94 : ins 202 94 = some (.istore_n 3, 0, 0, [], some [0, 1, 2]) := (L_202_1 94 rfl).trans rfl
theorem I_202_95 : ins 202 95 = some (.iload_n 2, 0, 0, [], none) := (L_202_1 95 rfl).trans rfl
theorem I_202_96 : ins 202 96 = some (.iload_n 3, 0, 0, [], none) := (L_202_1 96 rfl).trans rfl
theorem I_202_97 : ins 202 97 = some (.ifCond .eq 7, 104, 0, [], none) := (L_202_1 97 rfl).trans rfl
theorem I_202_100 : ins 202 100 = some (.iconst 1, 0, 0, [], some [0, 1, 3]) := (L_202_1 100 rfl).trans rfl
theorem I_202_101 : ins 202 101 = some (.goto 4, 105, 0, [], none) := (L_202_1 101 rfl).trans rfl
theorem I_202_104 : ins 202 104 = some (.iconst 0, 0, 0, [], some [0, 1, 3]) := (L_202_1 104 rfl).trans rfl
theorem I_202_105 : ins 202 105 = some (.iadd, 0, 0, [], some [0, 1, 3]) := (L_202_1 105 rfl).trans rfl
theorem I_202_106 : ins 202 106 = some (.istore_n 2, 0, 0, [], none) := (L_202_1 106 rfl).trans rfl
theorem I_202_107 : ins 202 107 = some (.goto (-78), 29, 0, [], none) := (L_202_1 107 rfl).trans rfl
theorem I_202_110 : ins 202 110 = some (.iload_n 2, 0, 0, [], some [2]) := (L_202_1 110 rfl).trans rfl
theorem I_202_111 : ins 202 111 = some (.ireturn, 0, 0, [], none) := (L_202_1 111 rfl).trans rfl
theorem L_203_0 (pc : Nat) : ins 203 pc = fnd iT203 pc := rfl
theorem I_203_0 : ins 203 0 = some (.iconst 0, 0, 0, [], none) := (L_203_0 0).trans rfl
theorem I_203_1 : ins 203 1 = some (.istore_n 1, 0, 0, [], none) := (L_203_0 1).trans rfl
theorem I_203_2 : ins 203 2 = some (.iload_n 1, 0, 0, [], some [0, 1]) := (L_203_0 2).trans rfl
theorem I_203_3 : ins 203 3 = some (.aload_n 0, 0, 0, [], none) := (L_203_0 3).trans rfl
theorem I_203_4 : ins 203 4 = some (.getfield 28, 8, 0, [(10, 102)], none) := (L_203_0 4).trans rfl
theorem I_203_7 : ins 203 7 = some (.iconst 2, 0, 0, [], none) := (L_203_0 7).trans rfl
theorem I_203_8 : ins 203 8 = some (.iaload, 0, 0, [], none) := (L_203_0 8).trans rfl
theorem I_203_9 : ins 203 9 = some (.if_icmp .gt 49, 58, 0, [], none) := (L_203_0 9).trans rfl
theorem I_203_12 : ins 203 12 = some (.aload_n 0, 0, 0, [], some [0, 1]) := (L_203_0 12).trans rfl
theorem I_203_13 : ins 203 13 = some (.iload_n 1, 0, 0, [], none) := (L_203_0 13).trans rfl
theorem I_203_14 : ins 203 14 = some (.invokevirtual 177, 1, 0, [(10, 206)], none) := (L_203_0 14).trans rfl
theorem I_203_17 : ins 203 17 = some (.iconst 0, 0, 0, [], none) := (L_203_0 17).trans rfl
theorem I_203_18 : ins 203 18 = some (.istore_n 2, 0, 0, [], none) := (L_203_0 18).trans rfl
theorem I_203_19 : ins 203 19 = some (.iload_n 2, 0, 0, [], some [0, 1, 2]) := (L_203_0 19).trans rfl
theorem I_203_20 : ins 203 20 = some (.aload_n 0, 0, 0, [], none) := (L_203_0 20).trans rfl
theorem I_203_21 : ins 203 21 = some (.getfield 28, 8, 0, [(10, 102)], none) := (L_203_0 21).trans rfl
theorem I_203_24 : ins 203 24 = some (.iconst 0, 0, 0, [], none) := (L_203_0 24).trans rfl
theorem I_203_25 : ins 203 25 = some (.iaload, 0, 0, [], none) := (L_203_0 25).trans rfl
theorem I_203_26 : ins 203 26 = some (.if_icmp .ge 26, 52, 0, [], none) := (L_203_0 26).trans rfl
theorem I_203_29 : ins 203 29 = some (.aload_n 0, 0, 0, [], some [0, 1, 2]) := (L_203_0 29).trans rfl
theorem I_203_30 : ins 203 30 = some (.getfield 61, 20, 0, [(10, 113)], none) := (L_203_0 30).trans rfl
theorem I_203_33 : ins 203 33 = some (.bipush 8, 0, 0, [], none) := (L_203_0 33).trans rfl
theorem I_203_35 : ins 203 35 = some (.iload_n 1, 0, 0, [], none) := (L_203_0 35).trans rfl
theorem I_203_36 : ins 203 36 = some (.imul, 0, 0, [], none) := (L_203_0 36).trans rfl
theorem I_203_37 : ins 203 37 = some (.iload_n 2, 0, 0, [], none) := (L_203_0 37).trans rfl
theorem I_203_38 : ins 203 38 = some (.iadd, 0, 0, [], none) := (L_203_0 38).trans rfl
theorem I_203_39 : ins 203 39 = some (.aload_n 0, 0, 0, [], none) := (L_203_0 39).trans rfl
theorem I_203_40 : ins 203 40 = some (.getfield 46, 14, 0, [(10, 108)], none) := (L_203_0 40).trans rfl
theorem I_203_43 : ins 203 43 = some (.iload_n 2, 0, 0, [], none) := (L_203_0 43).trans rfl
theorem I_203_44 : ins 203 44 = some (.iaload, 0, 0, [], none) := (L_203_0 44).trans rfl
theorem I_203_45 : ins 203 45 = some (.iastore, 0, 0, [], none) := (L_203_0 45).trans rfl
theorem I_203_46 : ins 203 46 = some (.iinc 2 1, 0, 0, [], none) := (L_203_0 46).trans rfl
theorem I_203_49 : ins 203 49 = some (.goto (-30), 19, 0, [], none) := (L_203_0 49).trans rfl
theorem I_203_52 : ins 203 52 = some (.iinc 1 1, 0, 0, [], some [0, 1]) := (L_203_0 52).trans rfl
theorem I_203_55 : ins 203 55 = some (.goto (-53), 2, 0, [], none) := (L_203_0 55).trans rfl
theorem I_203_58 : ins 203 58 = some (.return_, 0, 0, [], some []) := (L_203_0 58).trans rfl
theorem L_204_0 (pc : Nat) : ins 204 pc = fnd iT204 pc := rfl
theorem I_204_0 : ins 204 0 = some (.iload_n 0, 0, 0, [], none) := (L_204_0 0).trans rfl
theorem I_204_1 : ins 204 1 = some (.iload_n 1, 0, 0, [], none) := (L_204_0 1).trans rfl
theorem I_204_2 : ins 204 2 = some (.if_icmp .ne 7, 9, 0, [], none) := (L_204_0 2).trans rfl
theorem I_204_5 : ins 204 5 = some (.iload_n 2, 0, 0, [], some [2]) := (L_204_0 5).trans rfl
theorem I_204_6 : ins 204 6 = some (.goto 13, 19, 0, [], none) := (L_204_0 6).trans rfl
theorem I_204_9 : ins 204 9 = some (.iload_n 0, 0, 0, [], some [0, 1, 2]) := (L_204_0 9).trans rfl
theorem I_204_10 : ins 204 10 = some (.iload_n 2, 0, 0, [], none) := (L_204_0 10).trans rfl
theorem I_204_11 : ins 204 11 = some (.if_icmp .ne 7, 18, 0, [], none) := (L_204_0 11).trans rfl
theorem I_204_14 : ins 204 14 = some (.iload_n 1, 0, 0, [], some [1]) := (L_204_0 14).trans rfl
theorem I_204_15 : ins 204 15 = some (.goto 4, 19, 0, [], none) := (L_204_0 15).trans rfl
theorem I_204_18 : ins 204 18 = some (.iload_n 0, 0, 0, [], some [0]) := (L_204_0 18).trans rfl
theorem I_204_19 : ins 204 19 = some (.ireturn, 0, 0, [], some []) := (L_204_0 19).trans rfl
theorem L_205_0 (pc : Nat) : ins 205 pc = fnd (iT205_0 ++ (iT205_1)) pc := rfl
theorem L_205_1 (pc : Nat) (h : Nat.ble 71 pc = true) : ins 205 pc = fnd (iT205_1) pc := (L_205_0 pc).trans (fnd_app (lo := 71) rfl (Nat.le_of_ble_eq_true h))
theorem I_205_0 : ins 205 0 = some (.iconst 1, 0, 0, [], none) := (L_205_0 0).trans rfl
theorem I_205_1 : ins 205 1 = some (.istore_n 3, 0, 0, [], none) := (L_205_0 1).trans rfl
theorem I_205_2 : ins 205 2 = some (.iconst 0, 0, 0, [], none) := (L_205_0 2).trans rfl
theorem I_205_3 : ins 205 3 = some (.istore 4, 0, 0, [], none) := (L_205_0 3).trans rfl
theorem I_205_5 : ins 205 5 = some (.iload 4, 0, 0, [], some [0, 1, 2, 3, 4]) := (L_205_0 5).trans rfl
theorem I_205_7 : ins 205 7 = some (.aload_n 0, 0, 0, [], none) := (L_205_0 7).trans rfl
theorem I_205_8 : ins 205 8 = some (.getfield 239, 18, 0, [(10, 117)], none) := (L_205_0 8).trans rfl
theorem I_205_11 : ins 205 11 = some (.if_icmp .ge 93, 104, 0, [], none) := (L_205_0 11).trans rfl
theorem I_205_14 : ins 205 14 = some (.iload_n 3, 0, 0, [], some [0, 1, 2, 3, 4]) := (L_205_0 14).trans rfl
theorem I_205_15 : ins 205 15 = some (.ifCond .eq 89, 104, 0, [], none) := (L_205_0 15).trans rfl
theorem I_205_18 : ins 205 18 = some (.aload_n 0, 0, 0, [], some [0, 1, 2, 4]) := (L_205_0 18).trans rfl
theorem I_205_19 : ins 205 19 = some (.getfield 58, 19, 0, [(10, 112)], none) := (L_205_0 19).trans rfl
theorem I_205_22 : ins 205 22 = some (.iconst 3, 0, 0, [], none) := (L_205_0 22).trans rfl
theorem I_205_23 : ins 205 23 = some (.iload 4, 0, 0, [], none) := (L_205_0 23).trans rfl
theorem I_205_25 : ins 205 25 = some (.imul, 0, 0, [], none) := (L_205_0 25).trans rfl
theorem I_205_26 : ins 205 26 = some (.iaload, 0, 0, [], none) := (L_205_0 26).trans rfl
theorem I_205_27 : ins 205 27 = some (.istore 5, 0, 0, [], none) := (L_205_0 27).trans rfl
theorem I_205_29 : ins 205 29 = some (.aload_n 0, 0, 0, [], none) := (L_205_0 29).trans rfl
theorem I_205_30 : ins 205 30 = some (.getfield 58, 19, 0, [(10, 112)], none) := (L_205_0 30).trans rfl
theorem I_205_33 : ins 205 33 = some (.iconst 3, 0, 0, [], none) := (L_205_0 33).trans rfl
theorem I_205_34 : ins 205 34 = some (.iload 4, 0, 0, [], none) := (L_205_0 34).trans rfl
theorem I_205_36 : ins 205 36 = some (.imul, 0, 0, [], none) := (L_205_0 36).trans rfl
theorem I_205_37 : ins 205 37 = some (.iconst 1, 0, 0, [], none) := (L_205_0 37).trans rfl
theorem I_205_38 : ins 205 38 = some (.iadd, 0, 0, [], none) := (L_205_0 38).trans rfl
theorem I_205_39 : ins 205 39 = some (.iaload, 0, 0, [], none) := (L_205_0 39).trans rfl
theorem I_205_40 : ins 205 40 = some (.istore 6, 0, 0, [], none) := (L_205_0 40).trans rfl
theorem I_205_42 : ins 205 42 = some (.aload_n 0, 0, 0, [], none) := (L_205_0 42).trans rfl
theorem I_205_43 : ins 205 43 = some (.iload 5, 0, 0, [], none) := (L_205_0 43).trans rfl
theorem I_205_45 : ins 205 45 = some (.invokevirtual 180, 1, 0, [(10, 207)], none) := (L_205_0 45).trans rfl
theorem I_205_48 : ins 205 48 = some (.ifCond .eq 48, 96, 0, [], none) := (L_205_0 48).trans rfl
theorem I_205_51 : ins 205 51 = some (.aload_n 0, 0, 0, [], some [0, 1, 2, 4, 5, 6]) := (L_205_0 51).trans rfl
theorem I_205_52 : ins 205 52 = some (.iload 6, 0, 0, [], none) := (L_205_0 52).trans rfl
theorem I_205_54 : ins 205 54 = some (.invokevirtual 137, 1, 0, [(10, 195)], none) := (L_205_0 54).trans rfl
theorem I_205_57 : ins 205 57 = some (.ifCond .eq 39, 96, 0, [], none) := (L_205_0 57).trans rfl
theorem I_205_60 : ins 205 60 = some (.aload_n 0, 0, 0, [], some [0, 1, 2, 4, 5, 6]) := (L_205_0 60).trans rfl
theorem I_205_61 : ins 205 61 = some (.getfield 61, 20, 0, [(10, 113)], none) := (L_205_0 61).trans rfl
theorem I_205_64 : ins 205 64 = some (.bipush 8, 0, 0, [], none) := (L_205_0 64).trans rfl
theorem I_205_66 : ins 205 66 = some (.iload 5, 0, 0, [], none) := (L_205_0 66).trans rfl
theorem I_205_68 : ins 205 68 = some (.imul, 0, 0, [], none) := (L_205_0 68).trans rfl
theorem I_205_69 : ins 205 69 = some (.iload 6, 0, 0, [], none) := (L_205_0 69).trans rfl
theorem I_205_71 : ins 205 71 = some (.iload_n 1, 0, 0, [], none) := (L_205_1 71 rfl).trans rfl
theorem I_205_72 : ins 205 72 = some (.iload_n 2, 0, 0, [], none) := (L_205_1 72 rfl).trans rfl
theorem I_205_73 : ins 205 73 = some (.invokestatic 245, 3, 0, [(0, 223)], none) := (L_205_1 73 rfl).trans rfl
theorem I_205_76 : ins 205 76 = some (.iadd, 0, 0, [], none) := (L_205_1 76 rfl).trans rfl
theorem I_205_77 : ins 205 77 = some (.iaload, 0, 0, [], none) := (L_205_1 77 rfl).trans rfl
theorem I_205_78 : ins 205 78 = some (.aload_n 0, 0, 0, [], none) := (L_205_1 78 rfl).trans rfl
theorem I_205_79 : ins 205 79 = some (.getfield 58, 19, 0, [(10, 112)], none) := (L_205_1 79 rfl).trans rfl
theorem I_205_82 : ins 205 82 = some (.iconst 3, 0, 0, [], none) := (L_205_1 82 rfl).trans rfl
theorem I_205_83 : ins 205 83 = some (.iload 4, 0, 0, [], none) := (L_205_1 83 rfl).trans rfl
theorem I_205_85 : ins 205 85 = some (.imul, 0, 0, [], none) := (L_205_1 85 rfl).trans rfl
theorem I_205_86 : ins 205 86 = some (.iconst 2, 0, 0, [], none) := (L_205_1 86 rfl).trans rfl
theorem I_205_87 : ins 205 87 = some (.iadd, 0, 0, [], none) := (L_205_1 87 rfl).trans rfl
theorem I_205_88 : ins 205 88 = some (.iaload, 0, 0, [], none) := (L_205_1 88 rfl).trans rfl
theorem I_205_89 : ins 205 89 = some (.if_icmp .ne 7, 96, 0, [], none) := (L_205_1 89 rfl).trans rfl
theorem I_205_92 : ins 205 92 = some (.iconst 1, 0, 0, [], some [0, 1, 2, 4]) := (L_205_1 92 rfl).trans rfl
theorem I_205_93 : ins 205 93 = some (.goto 4, 97, 0, [], none) := (L_205_1 93 rfl).trans rfl
theorem I_205_96 : ins 205 96 = some (.iconst 0, 0, 0, [], some [0, 1, 2, 4]) := (L_205_1 96 rfl).trans rfl
theorem I_205_97 : ins 205 97 = some (.istore_n 3, 0, 0, [], some [0, 1, 2, 4]) := (L_205_1 97 rfl).trans rfl
theorem I_205_98 : ins 205 98 = some (.iinc 4 1, 0, 0, [], none) := (L_205_1 98 rfl).trans rfl
theorem I_205_101 : ins 205 101 = some (.goto (-96), 5, 0, [], none) := (L_205_1 101 rfl).trans rfl
theorem I_205_104 : ins 205 104 = some (.iload_n 3, 0, 0, [], some [3]) := (L_205_1 104 rfl).trans rfl
theorem I_205_105 : ins 205 105 = some (.ireturn, 0, 0, [], none) := (L_205_1 105 rfl).trans rfl
theorem L_206_0 (pc : Nat) : ins 206 pc = fnd iT206 pc := rfl
theorem I_206_0 : ins 206 0 = some (.aload_n 0, 0, 0, [], none) := (L_206_0 0).trans rfl
theorem I_206_1 : ins 206 1 = some (.invokevirtual 248, 0, 0, [(10, 224)], none) := (L_206_0 1).trans rfl
theorem I_206_4 : ins 206 4 = some (.iconst 0, 0, 0, [], none) := (L_206_0 4).trans rfl
theorem I_206_5 : ins 206 5 = some (.istore_n 2, 0, 0, [], none) := (L_206_0 5).trans rfl
theorem I_206_6 : ins 206 6 = some (.iconst (-1), 0, 0, [], none) := (L_206_0 6).trans rfl
theorem I_206_7 : ins 206 7 = some (.istore_n 3, 0, 0, [], none) := (L_206_0 7).trans rfl
theorem I_206_8 : ins 206 8 = some (.iconst 0, 0, 0, [], none) := (L_206_0 8).trans rfl
theorem I_206_9 : ins 206 9 = some (.istore 4, 0, 0, [], none) := (L_206_0 9).trans rfl
theorem I_206_11 : ins 206 11 = some (.iload 4, 0, 0, [], some [0, 1, 2, 3, 4]) := (L_206_0 11).trans rfl
theorem I_206_13 : ins 206 13 = some (.aload_n 0, 0, 0, [], none) := (L_206_0 13).trans rfl
theorem I_206_14 : ins 206 14 = some (.getfield 28, 8, 0, [(10, 102)], none) := (L_206_0 14).trans rfl
theorem I_206_17 : ins 206 17 = some (.iconst 0, 0, 0, [], none) := (L_206_0 17).trans rfl
theorem I_206_18 : ins 206 18 = some (.iaload, 0, 0, [], none) := (L_206_0 18).trans rfl
theorem I_206_19 : ins 206 19 = some (.if_icmp .ge 63, 82, 0, [], none) := (L_206_0 19).trans rfl
theorem I_206_22 : ins 206 22 = some (.iload 4, 0, 0, [], some [0, 1, 2, 3, 4]) := (L_206_0 22).trans rfl
theorem I_206_24 : ins 206 24 = some (.iconst 1, 0, 0, [], none) := (L_206_0 24).trans rfl
theorem I_206_25 : ins 206 25 = some (.iadd, 0, 0, [], none) := (L_206_0 25).trans rfl
theorem I_206_26 : ins 206 26 = some (.istore 5, 0, 0, [], none) := (L_206_0 26).trans rfl
theorem I_206_28 : ins 206 28 = some (.iload 5, 0, 0, [], some [0, 1, 2, 3, 4, 5]) := (L_206_0 28).trans rfl
theorem I_206_30 : ins 206 30 = some (.aload_n 0, 0, 0, [], none) := (L_206_0 30).trans rfl
theorem I_206_31 : ins 206 31 = some (.getfield 28, 8, 0, [(10, 102)], none) := (L_206_0 31).trans rfl
theorem I_206_34 : ins 206 34 = some (.iconst 0, 0, 0, [], none) := (L_206_0 34).trans rfl
theorem I_206_35 : ins 206 35 = some (.iaload, 0, 0, [], none) := (L_206_0 35).trans rfl
theorem I_206_36 : ins 206 36 = some (.if_icmp .ge 40, 76, 0, [], none) := (L_206_0 36).trans rfl
theorem I_206_39 : ins 206 39 = some (.aload_n 0, 0, 0, [], some [0, 1, 2, 3, 4, 5]) := (L_206_0 39).trans rfl
theorem I_206_40 : ins 206 40 = some (.iload 4, 0, 0, [], none) := (L_206_0 40).trans rfl
theorem I_206_42 : ins 206 42 = some (.iload 5, 0, 0, [], none) := (L_206_0 42).trans rfl
theorem I_206_44 : ins 206 44 = some (.invokevirtual 251, 2, 0, [(10, 225)], none) := (L_206_0 44).trans rfl
theorem I_206_47 : ins 206 47 = some (.ifCond .eq 23, 70, 0, [], none) := (L_206_0 47).trans rfl
theorem I_206_50 : ins 206 50 = some (.iload_n 2, 0, 0, [], some [0, 1, 2, 3, 4, 5]) := (L_206_0 50).trans rfl
theorem I_206_51 : ins 206 51 = some (.ifCond .ne 14, 65, 0, [], none) := (L_206_0 51).trans rfl
theorem I_206_54 : ins 206 54 = some (.bipush 8, 0, 0, [], some [0, 1, 2, 4, 5]) := (L_206_0 54).trans rfl
theorem I_206_56 : ins 206 56 = some (.iload 4, 0, 0, [], none) := (L_206_0 56).trans rfl
theorem I_206_58 : ins 206 58 = some (.imul, 0, 0, [], none) := (L_206_0 58).trans rfl
theorem I_206_59 : ins 206 59 = some (.iload 5, 0, 0, [], none) := (L_206_0 59).trans rfl
theorem I_206_61 : ins 206 61 = some (.iadd, 0, 0, [], none) := (L_206_0 61).trans rfl
theorem I_206_62 : ins 206 62 = some (.goto 4, 66, 0, [], none) := (L_206_0 62).trans rfl
theorem I_206_65 : ins 206 65 = some (.iload_n 3, 0, 0, [], some [0, 1, 2, 3, 4, 5]) := (L_206_0 65).trans rfl
theorem I_206_66 : ins 206 66 = some (.istore_n 3, 0, 0, [], some [0, 1, 2, 4, 5]) := (L_206_0 66).trans rfl
theorem I_206_67 : ins 206 67 = some (.iinc 2 1, 0, 0, [], none) := (L_206_0 67).trans rfl
theorem I_206_70 : ins 206 70 = some (.iinc 5 1, 0, 0, [], some [0, 1, 2, 3, 4, 5]) := (L_206_0 70).trans rfl
theorem I_206_73 : ins 206 73 = some (.goto (-45), 28, 0, [], none) := (L_206_0 73).trans rfl
theorem I_206_76 : ins 206 76 = some (.iinc 4 1, 0, 0, [], some [0, 1, 2, 3, 4]) := (L_206_0 76).trans rfl
theorem I_206_79 : ins 206 79 = some (.goto (-68), 11, 0, [], none) := (L_206_0 79).trans rfl
theorem I_206_82 : ins 206 82 = some (.iload_n 1, 0, 0, [], some [1, 2, 3]) := (L_206_0 82).trans rfl
theorem I_206_83 : ins 206 83 = some (.ifCond .ne 7, 90, 0, [], none) := (L_206_0 83).trans rfl
theorem I_206_86 : ins 206 86 = some (.iload_n 2, 0, 0, [], some [2]) := (L_206_0 86).trans rfl
theorem I_206_87 : ins 206 87 = some (.goto 4, 91, 0, [], none) := (L_206_0 87).trans rfl
theorem I_206_90 : ins 206 90 = some (.iload_n 3, 0, 0, [], some [3]) := (L_206_0 90).trans rfl
theorem I_206_91 : ins 206 91 = some (.ireturn, 0, 0, [], some []) := (L_206_0 91).trans rfl
theorem L_207_0 (pc : Nat) : ins 207 pc = fnd iT207 pc := rfl
theorem I_207_0 : ins 207 0 = some (.aload_n 0, 0, 0, [], none) := (L_207_0 0).trans rfl
theorem I_207_1 : ins 207 1 = some (.invokevirtual 134, 0, 0, [(10, 194)], none) := (L_207_0 1).trans rfl
theorem I_207_4 : ins 207 4 = some (.iload_n 1, 0, 0, [], none) := (L_207_0 4).trans rfl
theorem I_207_5 : ins 207 5 = some (.invokestatic 145, 1, 0, [(0, 197)], none) := (L_207_0 5).trans rfl
theorem I_207_8 : ins 207 8 = some (.ifCond .eq 11, 19, 0, [], none) := (L_207_0 8).trans rfl
theorem I_207_11 : ins 207 11 = some (.aload_n 0, 0, 0, [], some [0, 1]) := (L_207_0 11).trans rfl
theorem I_207_12 : ins 207 12 = some (.iload_n 1, 0, 0, [], none) := (L_207_0 12).trans rfl
theorem I_207_13 : ins 207 13 = some (.invokevirtual 254, 1, 0, [(10, 226)], none) := (L_207_0 13).trans rfl
theorem I_207_16 : ins 207 16 = some (.goto 5, 21, 0, [], none) := (L_207_0 16).trans rfl
theorem I_207_19 : ins 207 19 = some (.bipush (-2), 0, 0, [], some []) := (L_207_0 19).trans rfl
theorem I_207_21 : ins 207 21 = some (.ireturn, 0, 0, [], some []) := (L_207_0 21).trans rfl
theorem L_208_0 (pc : Nat) : ins 208 pc = fnd (iT208_0 ++ (iT208_1)) pc := rfl
theorem L_208_1 (pc : Nat) (h : Nat.ble 71 pc = true) : ins 208 pc = fnd (iT208_1) pc := (L_208_0 pc).trans (fnd_app (lo := 71) rfl (Nat.le_of_ble_eq_true h))
theorem I_208_0 : ins 208 0 = some (.iconst 0, 0, 0, [], none) := (L_208_0 0).trans rfl
theorem I_208_1 : ins 208 1 = some (.istore_n 3, 0, 0, [], none) := (L_208_0 1).trans rfl
theorem I_208_2 : ins 208 2 = some (.iload_n 3, 0, 0, [], some [0, 1, 2, 3]) := (L_208_0 2).trans rfl
theorem I_208_3 : ins 208 3 = some (.bipush 9, 0, 0, [], none) := (L_208_0 3).trans rfl
theorem I_208_5 : ins 208 5 = some (.if_icmp .ge 16, 21, 0, [], none) := (L_208_0 5).trans rfl
theorem I_208_8 : ins 208 8 = some (.aload_n 0, 0, 0, [], some [0, 1, 2, 3]) := (L_208_0 8).trans rfl
theorem I_208_9 : ins 208 9 = some (.getfield 64, 21, 0, [(10, 114)], none) := (L_208_0 9).trans rfl
theorem I_208_12 : ins 208 12 = some (.iload_n 3, 0, 0, [], none) := (L_208_0 12).trans rfl
theorem I_208_13 : ins 208 13 = some (.iconst 0, 0, 0, [], none) := (L_208_0 13).trans rfl
theorem I_208_14 : ins 208 14 = some (.iastore, 0, 0, [], none) := (L_208_0 14).trans rfl
theorem I_208_15 : ins 208 15 = some (.iinc 3 1, 0, 0, [], none) := (L_208_0 15).trans rfl
theorem I_208_18 : ins 208 18 = some (.goto (-16), 2, 0, [], none) := (L_208_0 18).trans rfl
theorem I_208_21 : ins 208 21 = some (.iconst 0, 0, 0, [], some [0, 1, 2]) := (L_208_0 21).trans rfl
theorem I_208_22 : ins 208 22 = some (.istore_n 3, 0, 0, [], none) := (L_208_0 22).trans rfl
theorem I_208_23 : ins 208 23 = some (.iconst 0, 0, 0, [], none) := (L_208_0 23).trans rfl
theorem I_208_24 : ins 208 24 = some (.istore 4, 0, 0, [], none) := (L_208_0 24).trans rfl
theorem I_208_26 : ins 208 26 = some (.iload 4, 0, 0, [], some [0, 1, 2, 3, 4]) := (L_208_0 26).trans rfl
theorem I_208_28 : ins 208 28 = some (.aload_n 0, 0, 0, [], none) := (L_208_0 28).trans rfl
theorem I_208_29 : ins 208 29 = some (.getfield 28, 8, 0, [(10, 102)], none) := (L_208_0 29).trans rfl
theorem I_208_32 : ins 208 32 = some (.iconst 0, 0, 0, [], none) := (L_208_0 32).trans rfl
theorem I_208_33 : ins 208 33 = some (.iaload, 0, 0, [], none) := (L_208_0 33).trans rfl
theorem I_208_34 : ins 208 34 = some (.if_icmp .ge 99, 133, 0, [], none) := (L_208_0 34).trans rfl
theorem I_208_37 : ins 208 37 = some (.iload 4, 0, 0, [], some [0, 1, 2, 3, 4]) := (L_208_0 37).trans rfl
theorem I_208_39 : ins 208 39 = some (.iconst 1, 0, 0, [], none) := (L_208_0 39).trans rfl
theorem I_208_40 : ins 208 40 = some (.iadd, 0, 0, [], none) := (L_208_0 40).trans rfl
theorem I_208_41 : ins 208 41 = some (.istore 5, 0, 0, [], none) := (L_208_0 41).trans rfl
theorem I_208_43 : ins 208 43 = some (.iload 5, 0, 0, [], some [0, 1, 2, 3, 4, 5]) := (L_208_0 43).trans rfl
theorem I_208_45 : ins 208 45 = some (.aload_n 0, 0, 0, [], none) := (L_208_0 45).trans rfl
theorem I_208_46 : ins 208 46 = some (.getfield 28, 8, 0, [(10, 102)], none) := (L_208_0 46).trans rfl
theorem I_208_49 : ins 208 49 = some (.iconst 0, 0, 0, [], none) := (L_208_0 49).trans rfl
theorem I_208_50 : ins 208 50 = some (.iaload, 0, 0, [], none) := (L_208_0 50).trans rfl
theorem I_208_51 : ins 208 51 = some (.if_icmp .ge 76, 127, 0, [], none) := (L_208_0 51).trans rfl
theorem I_208_54 : ins 208 54 = some (.aload_n 0, 0, 0, [], some [0, 1, 2, 3, 4, 5]) := (L_208_0 54).trans rfl
theorem I_208_55 : ins 208 55 = some (.iload 4, 0, 0, [], none) := (L_208_0 55).trans rfl
theorem I_208_57 : ins 208 57 = some (.iload 5, 0, 0, [], none) := (L_208_0 57).trans rfl
theorem I_208_59 : ins 208 59 = some (.invokevirtual 251, 2, 0, [(10, 225)], none) := (L_208_0 59).trans rfl
theorem I_208_62 : ins 208 62 = some (.ifCond .eq 59, 121, 0, [], none) := (L_208_0 62).trans rfl
theorem I_208_65 : ins 208 65 = some (.aload_n 0, 0, 0, [], some [0, 1, 2, 3, 4, 5]) := (L_208_0 65).trans rfl
theorem I_208_66 : ins 208 66 = some (.getfield 61, 20, 0, [(10, 113)], none) := (L_208_0 66).trans rfl
theorem I_208_69 : ins 208 69 = some (.bipush 8, 0, 0, [], none) := (L_208_0 69).trans rfl
theorem I_208_71 : ins 208 71 = some (.iload_n 1, 0, 0, [], none) := (L_208_1 71 rfl).trans rfl
theorem I_208_72 : ins 208 72 = some (.imul, 0, 0, [], none) := (L_208_1 72 rfl).trans rfl
theorem I_208_73 : ins 208 73 = some (.iload_n 2, 0, 0, [], none) := (L_208_1 73 rfl).trans rfl
theorem I_208_74 : ins 208 74 = some (.iload 4, 0, 0, [], none) := (L_208_1 74 rfl).trans rfl
theorem I_208_76 : ins 208 76 = some (.iload 5, 0, 0, [], none) := (L_208_1 76 rfl).trans rfl
theorem I_208_78 : ins 208 78 = some (.invokestatic 245, 3, 0, [(0, 223)], none) := (L_208_1 78 rfl).trans rfl
theorem I_208_81 : ins 208 81 = some (.iadd, 0, 0, [], none) := (L_208_1 81 rfl).trans rfl
theorem I_208_82 : ins 208 82 = some (.iaload, 0, 0, [], none) := (L_208_1 82 rfl).trans rfl
theorem I_208_83 : ins 208 83 = some (.iconst 1, 0, 0, [], none) := (L_208_1 83 rfl).trans rfl
theorem I_208_84 : ins 208 84 = some (.iadd, 0, 0, [], none) := (L_208_1 84 rfl).trans rfl
theorem I_208_85 : ins 208 85 = some (.istore 6, 0, 0, [], none) := (L_208_1 85 rfl).trans rfl
theorem I_208_87 : ins 208 87 = some (.aload_n 0, 0, 0, [], none) := (L_208_1 87 rfl).trans rfl
theorem I_208_88 : ins 208 88 = some (.getfield 64, 21, 0, [(10, 114)], none) := (L_208_1 88 rfl).trans rfl
theorem I_208_91 : ins 208 91 = some (.iload 6, 0, 0, [], none) := (L_208_1 91 rfl).trans rfl
theorem I_208_93 : ins 208 93 = some (.dup2, 0, 0, [], none) := (L_208_1 93 rfl).trans rfl
theorem I_208_94 : ins 208 94 = some (.iaload, 0, 0, [], none) := (L_208_1 94 rfl).trans rfl
theorem I_208_95 : ins 208 95 = some (.iconst 1, 0, 0, [], none) := (L_208_1 95 rfl).trans rfl
theorem I_208_96 : ins 208 96 = some (.iadd, 0, 0, [], none) := (L_208_1 96 rfl).trans rfl
theorem I_208_97 : ins 208 97 = some (.iastore, 0, 0, [], none) := (L_208_1 97 rfl).trans rfl
theorem I_208_98 : ins 208 98 = some (.aload_n 0, 0, 0, [], none) := (L_208_1 98 rfl).trans rfl
theorem I_208_99 : ins 208 99 = some (.getfield 64, 21, 0, [(10, 114)], none) := (L_208_1 99 rfl).trans rfl
theorem I_208_102 : ins 208 102 = some (.iload 6, 0, 0, [], none) := (L_208_1 102 rfl).trans rfl
theorem I_208_104 : ins 208 104 = some (.iaload, 0, 0, [], none) := (L_208_1 104 rfl).trans rfl
theorem I_208_105 : ins 208 105 = some (.iload_n 3, 0, 0, [], none) := (L_208_1 105 rfl).trans rfl
theorem I_208_106 : ins 208 106 = some (.if_icmp .le 13, 119, 0, [], none) := (L_208_1 106 rfl).trans rfl
theorem I_208_109 : ins 208 109 = some (.aload_n 0, 0, 0, [], some [0, 1, 2, 4, 5, 6]) := (L_208_1 109 rfl).trans rfl
theorem I_208_110 : ins 208 110 = some (.getfield 64, 21, 0, [(10, 114)], none) := (L_208_1 110 rfl).trans rfl
theorem I_208_113 : ins 208 113 = some (.iload 6, 0, 0, [], none) := (L_208_1 113 rfl).trans rfl
theorem I_208_115 : ins 208 115 = some (.iaload, 0, 0, [], none) := (L_208_1 115 rfl).trans rfl
theorem I_208_116 : ins 208 116 = some (.goto 4, 120, 0, [], none) := (L_208_1 116 rfl).trans rfl
theorem I_208_119 : ins 208 119 = some (.iload_n 3, 0, 0, [], some [0, 1, 2, 3, 4, 5]) := (L_208_1 119 rfl).trans rfl
theorem I_208_120 : ins 208 120 = some (.istore_n 3, 0, 0, [], some [0, 1, 2, 4, 5]) := (L_208_1 120 rfl).trans rfl
theorem I_208_121 : ins 208 121 = some (.iinc 5 1, 0, 0, [], some [0, 1, 2, 3, 4, 5]) := (L_208_1 121 rfl).trans rfl
theorem I_208_124 : ins 208 124 = some (.goto (-81), 43, 0, [], none) := (L_208_1 124 rfl).trans rfl
theorem I_208_127 : ins 208 127 = some (.iinc 4 1, 0, 0, [], some [0, 1, 2, 3, 4]) := (L_208_1 127 rfl).trans rfl
theorem I_208_130 : ins 208 130 = some (.goto (-104), 26, 0, [], none) := (L_208_1 130 rfl).trans rfl
theorem I_208_133 : ins 208 133 = some (.iload_n 3, 0, 0, [], some [3]) := (L_208_1 133 rfl).trans rfl
theorem I_208_134 : ins 208 134 = some (.ireturn, 0, 0, [], none) := (L_208_1 134 rfl).trans rfl
theorem L_209_0 (pc : Nat) : ins 209 pc = fnd iT209 pc := rfl
theorem I_209_0 : ins 209 0 = some (.aload_n 0, 0, 0, [], none) := (L_209_0 0).trans rfl
theorem I_209_1 : ins 209 1 = some (.invokevirtual 248, 0, 0, [(10, 224)], none) := (L_209_0 1).trans rfl
theorem I_209_4 : ins 209 4 = some (.iconst 0, 0, 0, [], none) := (L_209_0 4).trans rfl
theorem I_209_5 : ins 209 5 = some (.istore_n 2, 0, 0, [], none) := (L_209_0 5).trans rfl
theorem I_209_6 : ins 209 6 = some (.aload_n 0, 0, 0, [], none) := (L_209_0 6).trans rfl
theorem I_209_7 : ins 209 7 = some (.iconst 0, 0, 0, [], none) := (L_209_0 7).trans rfl
theorem I_209_8 : ins 209 8 = some (.iload_n 1, 0, 0, [], none) := (L_209_0 8).trans rfl
theorem I_209_9 : ins 209 9 = some (.invokevirtual 257, 2, 0, [(10, 227)], none) := (L_209_0 9).trans rfl
theorem I_209_12 : ins 209 12 = some (.istore_n 3, 0, 0, [], none) := (L_209_0 12).trans rfl
theorem I_209_13 : ins 209 13 = some (.iconst 1, 0, 0, [], none) := (L_209_0 13).trans rfl
theorem I_209_14 : ins 209 14 = some (.istore 4, 0, 0, [], none) := (L_209_0 14).trans rfl
theorem I_209_16 : ins 209 16 = some (.iload 4, 0, 0, [], some [0, 1, 2, 3, 4]) := (L_209_0 16).trans rfl
theorem I_209_18 : ins 209 18 = some (.aload_n 0, 0, 0, [], none) := (L_209_0 18).trans rfl
theorem I_209_19 : ins 209 19 = some (.getfield 28, 8, 0, [(10, 102)], none) := (L_209_0 19).trans rfl
theorem I_209_22 : ins 209 22 = some (.iconst 2, 0, 0, [], none) := (L_209_0 22).trans rfl
theorem I_209_23 : ins 209 23 = some (.iaload, 0, 0, [], none) := (L_209_0 23).trans rfl
theorem I_209_24 : ins 209 24 = some (.if_icmp .gt 38, 62, 0, [], none) := (L_209_0 24).trans rfl
theorem I_209_27 : ins 209 27 = some (.aload_n 0, 0, 0, [], some [0, 1, 2, 3, 4]) := (L_209_0 27).trans rfl
theorem I_209_28 : ins 209 28 = some (.iload 4, 0, 0, [], none) := (L_209_0 28).trans rfl
theorem I_209_30 : ins 209 30 = some (.iload_n 1, 0, 0, [], none) := (L_209_0 30).trans rfl
theorem I_209_31 : ins 209 31 = some (.invokevirtual 257, 2, 0, [(10, 227)], none) := (L_209_0 31).trans rfl
theorem I_209_34 : ins 209 34 = some (.istore 5, 0, 0, [], none) := (L_209_0 34).trans rfl
theorem I_209_36 : ins 209 36 = some (.iload 5, 0, 0, [], none) := (L_209_0 36).trans rfl
theorem I_209_38 : ins 209 38 = some (.iload_n 3, 0, 0, [], none) := (L_209_0 38).trans rfl
theorem I_209_39 : ins 209 39 = some (.if_icmp .ge 8, 47, 0, [], none) := (L_209_0 39).trans rfl
theorem I_209_42 : ins 209 42 = some (.iload 4, 0, 0, [], some [0, 1, 3, 4, 5]) := (L_209_0 42).trans rfl
theorem I_209_44 : ins 209 44 = some (.goto 4, 48, 0, [], none) := (L_209_0 44).trans rfl
theorem I_209_47 : ins 209 47 = some (.iload_n 2, 0, 0, [], some [0, 1, 2, 3, 4, 5]) := (L_209_0 47).trans rfl
theorem I_209_48 : ins 209 48 = some (.istore_n 2, 0, 0, [], some [0, 1, 3, 4, 5]) := (L_209_0 48).trans rfl
theorem I_209_49 : ins 209 49 = some (.iload 5, 0, 0, [], none) := (L_209_0 49).trans rfl
theorem I_209_51 : ins 209 51 = some (.iload_n 3, 0, 0, [], none) := (L_209_0 51).trans rfl
theorem I_209_52 : ins 209 52 = some (.invokestatic 211, 2, 0, [(0, 216)], none) := (L_209_0 52).trans rfl
theorem I_209_55 : ins 209 55 = some (.istore_n 3, 0, 0, [], none) := (L_209_0 55).trans rfl
theorem I_209_56 : ins 209 56 = some (.iinc 4 1, 0, 0, [], none) := (L_209_0 56).trans rfl
theorem I_209_59 : ins 209 59 = some (.goto (-43), 16, 0, [], none) := (L_209_0 59).trans rfl
theorem I_209_62 : ins 209 62 = some (.iload_n 2, 0, 0, [], some [2]) := (L_209_0 62).trans rfl
theorem I_209_63 : ins 209 63 = some (.ireturn, 0, 0, [], none) := (L_209_0 63).trans rfl
theorem L_210_0 (pc : Nat) : ins 210 pc = fnd iT210 pc := rfl
theorem I_210_0 : ins 210 0 = some (.aload_n 0, 0, 0, [], none) := (L_210_0 0).trans rfl
theorem I_210_1 : ins 210 1 = some (.invokevirtual 134, 0, 0, [(10, 194)], none) := (L_210_0 1).trans rfl
theorem I_210_4 : ins 210 4 = some (.aload_n 0, 0, 0, [], none) := (L_210_0 4).trans rfl
theorem I_210_5 : ins 210 5 = some (.iload_n 1, 0, 0, [], none) := (L_210_0 5).trans rfl
theorem I_210_6 : ins 210 6 = some (.invokevirtual 137, 1, 0, [(10, 195)], none) := (L_210_0 6).trans rfl
theorem I_210_9 : ins 210 9 = some (.ifCond .eq 11, 20, 0, [], none) := (L_210_0 9).trans rfl
theorem I_210_12 : ins 210 12 = some (.aload_n 0, 0, 0, [], some [0, 1]) := (L_210_0 12).trans rfl
theorem I_210_13 : ins 210 13 = some (.iload_n 1, 0, 0, [], none) := (L_210_0 13).trans rfl
theorem I_210_14 : ins 210 14 = some (.invokevirtual 260, 1, 0, [(10, 228)], none) := (L_210_0 14).trans rfl
theorem I_210_17 : ins 210 17 = some (.goto 5, 22, 0, [], none) := (L_210_0 17).trans rfl
theorem I_210_20 : ins 210 20 = some (.bipush (-2), 0, 0, [], some []) := (L_210_0 20).trans rfl
theorem I_210_22 : ins 210 22 = some (.ireturn, 0, 0, [], some []) := (L_210_0 22).trans rfl
