/-! instructions -/
theorem L_220_0 (pc : Nat) : ins 220 pc = fnd (iT220_0 ++ (iT220_1 ++ (iT220_2 ++ (iT220_3 ++ (iT220_4 ++ (iT220_5 ++ (iT220_6 ++ (iT220_7 ++ (iT220_8 ++ (iT220_9 ++ (iT220_10 ++ (iT220_11 ++ (iT220_12 ++ (iT220_13 ++ (iT220_14 ++ (iT220_15 ++ (iT220_16 ++ (iT220_17 ++ (iT220_18 ++ (iT220_19 ++ (iT220_20 ++ (iT220_21)))))))))))))))))))))) pc := rfl
theorem L_220_1 (pc : Nat) (h : Nat.ble 196 pc = true) : ins 220 pc = fnd (iT220_1 ++ (iT220_2 ++ (iT220_3 ++ (iT220_4 ++ (iT220_5 ++ (iT220_6 ++ (iT220_7 ++ (iT220_8 ++ (iT220_9 ++ (iT220_10 ++ (iT220_11 ++ (iT220_12 ++ (iT220_13 ++ (iT220_14 ++ (iT220_15 ++ (iT220_16 ++ (iT220_17 ++ (iT220_18 ++ (iT220_19 ++ (iT220_20 ++ (iT220_21))))))))))))))))))))) pc := (L_220_0 pc).trans (fnd_app (lo := 196) rfl (Nat.le_of_ble_eq_true h))
theorem L_220_2 (pc : Nat) (h : Nat.ble 250 pc = true) : ins 220 pc = fnd (iT220_2 ++ (iT220_3 ++ (iT220_4 ++ (iT220_5 ++ (iT220_6 ++ (iT220_7 ++ (iT220_8 ++ (iT220_9 ++ (iT220_10 ++ (iT220_11 ++ (iT220_12 ++ (iT220_13 ++ (iT220_14 ++ (iT220_15 ++ (iT220_16 ++ (iT220_17 ++ (iT220_18 ++ (iT220_19 ++ (iT220_20 ++ (iT220_21)))))))))))))))))))) pc := (L_220_1 pc (Nat.ble_eq.mpr (Nat.le_trans (Nat.le_of_ble_eq_true (rfl : Nat.ble 196 250 = true)) (Nat.le_of_ble_eq_true h)))).trans (fnd_app (lo := 250) rfl (Nat.le_of_ble_eq_true h))
theorem L_220_3 (pc : Nat) (h : Nat.ble 300 pc = true) : ins 220 pc = fnd (iT220_3 ++ (iT220_4 ++ (iT220_5 ++ (iT220_6 ++ (iT220_7 ++ (iT220_8 ++ (iT220_9 ++ (iT220_10 ++ (iT220_11 ++ (iT220_12 ++ (iT220_13 ++ (iT220_14 ++ (iT220_15 ++ (iT220_16 ++ (iT220_17 ++ (iT220_18 ++ (iT220_19 ++ (iT220_20 ++ (iT220_21))))))))))))))))))) pc := (L_220_2 pc (Nat.ble_eq.mpr (Nat.le_trans (Nat.le_of_ble_eq_true (rfl : Nat.ble 250 300 = true)) (Nat.le_of_ble_eq_true h)))).trans (fnd_app (lo := 300) rfl (Nat.le_of_ble_eq_true h))
theorem L_220_4 (pc : Nat) (h : Nat.ble 350 pc = true) : ins 220 pc = fnd (iT220_4 ++ (iT220_5 ++ (iT220_6 ++ (iT220_7 ++ (iT220_8 ++ (iT220_9 ++ (iT220_10 ++ (iT220_11 ++ (iT220_12 ++ (iT220_13 ++ (iT220_14 ++ (iT220_15 ++ (iT220_16 ++ (iT220_17 ++ (iT220_18 ++ (iT220_19 ++ (iT220_20 ++ (iT220_21)))))))))))))))))) pc := (L_220_3 pc (Nat.ble_eq.mpr (Nat.le_trans (Nat.le_of_ble_eq_true (rfl : Nat.ble 300 350 = true)) (Nat.le_of_ble_eq_true h)))).trans (fnd_app (lo := 350) rfl (Nat.le_of_ble_eq_true h))
theorem L_220_5 (pc : Nat) (h : Nat.ble 402 pc = true) : ins 220 pc = fnd (iT220_5 ++ (iT220_6 ++ (iT220_7 ++ (iT220_8 ++ (iT220_9 ++ (iT220_10 ++ (iT220_11 ++ (iT220_12 ++ (iT220_13 ++ (iT220_14 ++ (iT220_15 ++ (iT220_16 ++ (iT220_17 ++ (iT220_18 ++ (iT220_19 ++ (iT220_20 ++ (iT220_21))))))))))))))))) pc := (L_220_4 pc (Nat.ble_eq.mpr (Nat.le_trans (Nat.le_of_ble_eq_true (rfl : Nat.ble 350 402 = true)) (Nat.le_of_ble_eq_true h)))).trans (fnd_app (lo := 402) rfl (Nat.le_of_ble_eq_true h))
theorem L_220_6 (pc : Nat) (h : Nat.ble 448 pc = true) : ins 220 pc = fnd (iT220_6 ++ (iT220_7 ++ (iT220_8 ++ (iT220_9 ++ (iT220_10 ++ (iT220_11 ++ (iT220_12 ++ (iT220_13 ++ (iT220_14 ++ (iT220_15 ++ (iT220_16 ++ (iT220_17 ++ (iT220_18 ++ (iT220_19 ++ (iT220_20 ++ (iT220_21)))))))))))))))) pc := (L_220_5 pc (Nat.ble_eq.mpr (Nat.le_trans (Nat.le_of_ble_eq_true (rfl : Nat.ble 402 448 = true)) (Nat.le_of_ble_eq_true h)))).trans (fnd_app (lo := 448) rfl (Nat.le_of_ble_eq_true h))
theorem L_220_7 (pc : Nat) (h : Nat.ble 496 pc = true) : ins 220 pc = fnd (iT220_7 ++ (iT220_8 ++ (iT220_9 ++ (iT220_10 ++ (iT220_11 ++ (iT220_12 ++ (iT220_13 ++ (iT220_14 ++ (iT220_15 ++ (iT220_16 ++ (iT220_17 ++ (iT220_18 ++ (iT220_19 ++ (iT220_20 ++ (iT220_21))))))))))))))) pc := (L_220_6 pc (Nat.ble_eq.mpr (Nat.le_trans (Nat.le_of_ble_eq_true (rfl : Nat.ble 448 496 = true)) (Nat.le_of_ble_eq_true h)))).trans (fnd_app (lo := 496) rfl (Nat.le_of_ble_eq_true h))
theorem L_220_8 (pc : Nat) (h : Nat.ble 546 pc = true) : ins 220 pc = fnd (iT220_8 ++ (iT220_9 ++ (iT220_10 ++ (iT220_11 ++ (iT220_12 ++ (iT220_13 ++ (iT220_14 ++ (iT220_15 ++ (iT220_16 ++ (iT220_17 ++ (iT220_18 ++ (iT220_19 ++ (iT220_20 ++ (iT220_21)))))))))))))) pc := (L_220_7 pc (Nat.ble_eq.mpr (Nat.le_trans (Nat.le_of_ble_eq_true (rfl : Nat.ble 496 546 = true)) (Nat.le_of_ble_eq_true h)))).trans (fnd_app (lo := 546) rfl (Nat.le_of_ble_eq_true h))
theorem L_220_9 (pc : Nat) (h : Nat.ble 598 pc = true) : ins 220 pc = fnd (iT220_9 ++ (iT220_10 ++ (iT220_11 ++ (iT220_12 ++ (iT220_13 ++ (iT220_14 ++ (iT220_15 ++ (iT220_16 ++ (iT220_17 ++ (iT220_18 ++ (iT220_19 ++ (iT220_20 ++ (iT220_21))))))))))))) pc := (L_220_8 pc (Nat.ble_eq.mpr (Nat.le_trans (Nat.le_of_ble_eq_true (rfl : Nat.ble 546 598 = true)) (Nat.le_of_ble_eq_true h)))).trans (fnd_app (lo := 598) rfl (Nat.le_of_ble_eq_true h))
theorem L_220_10 (pc : Nat) (h : Nat.ble 646 pc = true) : ins 220 pc = fnd (iT220_10 ++ (iT220_11 ++ (iT220_12 ++ (iT220_13 ++ (iT220_14 ++ (iT220_15 ++ (iT220_16 ++ (iT220_17 ++ (iT220_18 ++ (iT220_19 ++ (iT220_20 ++ (iT220_21)))))))))))) pc := (L_220_9 pc (Nat.ble_eq.mpr (Nat.le_trans (Nat.le_of_ble_eq_true (rfl : Nat.ble 598 646 = true)) (Nat.le_of_ble_eq_true h)))).trans (fnd_app (lo := 646) rfl (Nat.le_of_ble_eq_true h))
theorem L_220_11 (pc : Nat) (h : Nat.ble 696 pc = true) : ins 220 pc = fnd (iT220_11 ++ (iT220_12 ++ (iT220_13 ++ (iT220_14 ++ (iT220_15 ++ (iT220_16 ++ (iT220_17 ++ (iT220_18 ++ (iT220_19 ++ (iT220_20 ++ (iT220_21))))))))))) pc := (L_220_10 pc (Nat.ble_eq.mpr (Nat.le_trans (Nat.le_of_ble_eq_true (rfl : Nat.ble 646 696 = true)) (Nat.le_of_ble_eq_true h)))).trans (fnd_app (lo := 696) rfl (Nat.le_of_ble_eq_true h))
theorem L_220_12 (pc : Nat) (h : Nat.ble 744 pc = true) : ins 220 pc = fnd (iT220_12 ++ (iT220_13 ++ (iT220_14 ++ (iT220_15 ++ (iT220_16 ++ (iT220_17 ++ (iT220_18 ++ (iT220_19 ++ (iT220_20 ++ (iT220_21)))))))))) pc := (L_220_11 pc (Nat.ble_eq.mpr (Nat.le_trans (Nat.le_of_ble_eq_true (rfl : Nat.ble 696 744 = true)) (Nat.le_of_ble_eq_true h)))).trans (fnd_app (lo := 744) rfl (Nat.le_of_ble_eq_true h))
theorem L_220_13 (pc : Nat) (h : Nat.ble 800 pc = true) : ins 220 pc = fnd (iT220_13 ++ (iT220_14 ++ (iT220_15 ++ (iT220_16 ++ (iT220_17 ++ (iT220_18 ++ (iT220_19 ++ (iT220_20 ++ (iT220_21))))))))) pc := (L_220_12 pc (Nat.ble_eq.mpr (Nat.le_trans (Nat.le_of_ble_eq_true (rfl : Nat.ble 744 800 = true)) (Nat.le_of_ble_eq_true h)))).trans (fnd_app (lo := 800) rfl (Nat.le_of_ble_eq_true h))
theorem L_220_14 (pc : Nat) (h : Nat.ble 848 pc = true) : ins 220 pc = fnd (iT220_14 ++ (iT220_15 ++ (iT220_16 ++ (iT220_17 ++ (iT220_18 ++ (iT220_19 ++ (iT220_20 ++ (iT220_21)))))))) pc := (L_220_13 pc (Nat.ble_eq.mpr (Nat.le_trans (Nat.le_of_ble_eq_true (rfl : Nat.ble 800 848 = true)) (Nat.le_of_ble_eq_true h)))).trans (fnd_app (lo := 848) rfl (Nat.le_of_ble_eq_true h))
theorem L_220_15 (pc : Nat) (h : Nat.ble 892 pc = true) : ins 220 pc = fnd (iT220_15 ++ (iT220_16 ++ (iT220_17 ++ (iT220_18 ++ (iT220_19 ++ (iT220_20 ++ (iT220_21))))))) pc := (L_220_14 pc (Nat.ble_eq.mpr (Nat.le_trans (Nat.le_of_ble_eq_true (rfl : Nat.ble 848 892 = true)) (Nat.le_of_ble_eq_true h)))).trans (fnd_app (lo := 892) rfl (Nat.le_of_ble_eq_true h))
theorem L_220_16 (pc : Nat) (h : Nat.ble 940 pc = true) : ins 220 pc = fnd (iT220_16 ++ (iT220_17 ++ (iT220_18 ++ (iT220_19 ++ (iT220_20 ++ (iT220_21)))))) pc := (L_220_15 pc (Nat.ble_eq.mpr (Nat.le_trans (Nat.le_of_ble_eq_true (rfl : Nat.ble 892 940 = true)) (Nat.le_of_ble_eq_true h)))).trans (fnd_app (lo := 940) rfl (Nat.le_of_ble_eq_true h))
theorem L_220_17 (pc : Nat) (h : Nat.ble 990 pc = true) : ins 220 pc = fnd (iT220_17 ++ (iT220_18 ++ (iT220_19 ++ (iT220_20 ++ (iT220_21))))) pc := (L_220_16 pc (Nat.ble_eq.mpr (Nat.le_trans (Nat.le_of_ble_eq_true (rfl : Nat.ble 940 990 = true)) (Nat.le_of_ble_eq_true h)))).trans (fnd_app (lo := 990) rfl (Nat.le_of_ble_eq_true h))
theorem L_220_18 (pc : Nat) (h : Nat.ble 1036 pc = true) : ins 220 pc = fnd (iT220_18 ++ (iT220_19 ++ (iT220_20 ++ (iT220_21)))) pc := (L_220_17 pc (Nat.ble_eq.mpr (Nat.le_trans (Nat.le_of_ble_eq_true (rfl : Nat.ble 990 1036 = true)) (Nat.le_of_ble_eq_true h)))).trans (fnd_app (lo := 1036) rfl (Nat.le_of_ble_eq_true h))
theorem L_220_19 (pc : Nat) (h : Nat.ble 1082 pc = true) : ins 220 pc = fnd (iT220_19 ++ (iT220_20 ++ (iT220_21))) pc := (L_220_18 pc (Nat.ble_eq.mpr (Nat.le_trans (Nat.le_of_ble_eq_true (rfl : Nat.ble 1036 1082 = true)) (Nat.le_of_ble_eq_true h)))).trans (fnd_app (lo := 1082) rfl (Nat.le_of_ble_eq_true h))
theorem L_220_20 (pc : Nat) (h : Nat.ble 1124 pc = true) : ins 220 pc = fnd (iT220_20 ++ (iT220_21)) pc := (L_220_19 pc (Nat.ble_eq.mpr (Nat.le_trans (Nat.le_of_ble_eq_true (rfl : Nat.ble 1082 1124 = true)) (Nat.le_of_ble_eq_true h)))).trans (fnd_app (lo := 1124) rfl (Nat.le_of_ble_eq_true h))
theorem L_220_21 (pc : Nat) (h : Nat.ble 1172 pc = true) : ins 220 pc = fnd (iT220_21) pc := (L_220_20 pc (Nat.ble_eq.mpr (Nat.le_trans (Nat.le_of_ble_eq_true (rfl : Nat.ble 1124 1172 = true)) (Nat.le_of_ble_eq_true h)))).trans (fnd_app (lo := 1172) rfl (Nat.le_of_ble_eq_true h))
theorem I_220_0 : ins 220 0 = some (.new 7, 9, 0, [(79, 80), (64, 0)], none) := (L_220_0 0).trans rfl
theorem I_220_3 : ins 220 3 = some (.dup, 0, 0, [], none) := (L_220_0 3).trans rfl
theorem I_220_4 : ins 220 4 = some (.invokespecial 9, 0, 0, [(0, 237)], none) := (L_220_0 4).trans rfl
theorem I_220_7 : ins 220 7 = some (.astore_n 1, 0, 0, [], none) := (L_220_0 7).trans rfl
theorem I_220_8 : ins 220 8 = some (.new 10, 10, 0, [(961, 962), (75, 0)], none) := (L_220_0 8).trans rfl
theorem I_220_11 : ins 220 11 = some (.dup, 0, 0, [], none) := (L_220_0 11).trans rfl
theorem I_220_12 : ins 220 12 = some (.invokespecial 12, 0, 0, [(0, 238)], none) := (L_220_0 12).trans rfl
theorem I_220_15 : ins 220 15 = some (.astore_n 2, 0, 0, [], none) := (L_220_0 15).trans rfl
theorem I_220_16 : ins 220 16 = some (.iconst 0, 0, 0, [], none) := (L_220_0 16).trans rfl
theorem I_220_17 : ins 220 17 = some (.istore_n 3, 0, 0, [], none) := (L_220_0 17).trans rfl
theorem I_220_18 : ins 220 18 = some (.iload_n 3, 0, 0, [], some [0, 1, 2, 3]) := (L_220_0 18).trans rfl
theorem I_220_19 : ins 220 19 = some (.aload_n 0, 0, 0, [], none) := (L_220_0 19).trans rfl
theorem I_220_20 : ins 220 20 = some (.arraylength, 0, 0, [], none) := (L_220_0 20).trans rfl
theorem I_220_21 : ins 220 21 = some (.bipush 6, 0, 0, [], none) := (L_220_0 21).trans rfl
theorem I_220_23 : ins 220 23 = some (.isub, 0, 0, [], none) := (L_220_0 23).trans rfl
theorem I_220_24 : ins 220 24 = some (.if_icmp .gt 1196, 1220, 0, [], none) := (L_220_0 24).trans rfl
theorem I_220_27 : ins 220 27 = some (.aload_n 0, 0, 0, [], some [0, 1, 2, 3]) := (L_220_0 27).trans rfl
theorem I_220_28 : ins 220 28 = some (.iload_n 3, 0, 0, [], none) := (L_220_0 28).trans rfl
theorem I_220_29 : ins 220 29 = some (.iaload, 0, 0, [], none) := (L_220_0 29).trans rfl
theorem I_220_30 : ins 220 30 = some (.bipush 31, 0, 0, [], none) := (L_220_0 30).trans rfl
theorem I_220_32 : ins 220 32 = some (.iand, 0, 0, [], none) := (L_220_0 32).trans rfl
theorem I_220_33 : ins 220 33 = some (.tableswitch 1181 0 31 #[143, 176, 199, 222, 245, 278, 311, 334, 367, 410, 443, 476, 509, 532, 555, 588, 631, 664, 707, 720, 743, 766, 789, 843, 886, 929, 952, 1005, 1048, 1111, 1144, 1167], 1214, 0, [(0, 176), (1, 209), (2, 232), (3, 255), (4, 278), (5, 311), (6, 344), (7, 367), (8, 400), (9, 443), (10, 476), (11, 509), (12, 542), (13, 565), (14, 588), (15, 621), (16, 664), (17, 697), (18, 740), (19, 753), (20, 776), (21, 799), (22, 822), (23, 876), (24, 919), (25, 962), (26, 985), (27, 1038), (28, 1081), (29, 1144), (30, 1177), (31, 1200)], none) := (L_220_0 33).trans rfl
theorem I_220_176 : ins 220 176 = some (.aload_n 1, 0, 0, [], some [0, 1, 2, 3]) := (L_220_0 176).trans rfl
theorem I_220_177 : ins 220 177 = some (.aload_n 0, 0, 0, [], none) := (L_220_0 177).trans rfl
theorem I_220_178 : ins 220 178 = some (.iload_n 3, 0, 0, [], none) := (L_220_0 178).trans rfl
theorem I_220_179 : ins 220 179 = some (.iconst 1, 0, 0, [], none) := (L_220_0 179).trans rfl
theorem I_220_180 : ins 220 180 = some (.iadd, 0, 0, [], none) := (L_220_0 180).trans rfl
theorem I_220_181 : ins 220 181 = some (.iaload, 0, 0, [], none) := (L_220_0 181).trans rfl
theorem I_220_182 : ins 220 182 = some (.aload_n 0, 0, 0, [], none) := (L_220_0 182).trans rfl
theorem I_220_183 : ins 220 183 = some (.iload_n 3, 0, 0, [], none) := (L_220_0 183).trans rfl
theorem I_220_184 : ins 220 184 = some (.iconst 2, 0, 0, [], none) := (L_220_0 184).trans rfl
theorem I_220_185 : ins 220 185 = some (.iadd, 0, 0, [], none) := (L_220_0 185).trans rfl
theorem I_220_186 : ins 220 186 = some (.iaload, 0, 0, [], none) := (L_220_0 186).trans rfl
theorem I_220_187 : ins 220 187 = some (.invokevirtual 13, 2, 0, [(9, 239)], none) := (L_220_0 187).trans rfl
theorem I_220_190 : ins 220 190 = some (.aload_n 2, 0, 0, [], none) := (L_220_0 190).trans rfl
theorem I_220_191 : ins 220 191 = some (.aload_n 0, 0, 0, [], none) := (L_220_0 191).trans rfl
theorem I_220_192 : ins 220 192 = some (.iload_n 3, 0, 0, [], none) := (L_220_0 192).trans rfl
theorem I_220_193 : ins 220 193 = some (.iconst 1, 0, 0, [], none) := (L_220_0 193).trans rfl
theorem I_220_194 : ins 220 194 = some (.iadd, 0, 0, [], none) := (L_220_0 194).trans rfl
theorem I_220_195 : ins 220 195 = some (.iaload, 0, 0, [], none) := (L_220_0 195).trans rfl
theorem I_220_196 : ins 220 196 = some (.aload_n 0, 0, 0, [], none) := (L_220_1 196 rfl).trans rfl
theorem I_220_197 : ins 220 197 = some (.iload_n 3, 0, 0, [], none) := (L_220_1 197 rfl).trans rfl
theorem I_220_198 : ins 220 198 = some (.iconst 2, 0, 0, [], none) := (L_220_1 198 rfl).trans rfl
theorem I_220_199 : ins 220 199 = some (.iadd, 0, 0, [], none) := (L_220_1 199 rfl).trans rfl
theorem I_220_200 : ins 220 200 = some (.iaload, 0, 0, [], none) := (L_220_1 200 rfl).trans rfl
theorem I_220_201 : ins 220 201 = some (.invokevirtual 17, 2, 0, [(10, 240)], none) := (L_220_1 201 rfl).trans rfl
theorem I_220_204 : ins 220 204 = some (.if_icmp .eq 1010, 1214, 0, [], none) := (L_220_1 204 rfl).trans rfl
theorem I_220_207 : ins 220 207 = some (.iconst 0, 0, 0, [], some []) := (L_220_1 207 rfl).trans rfl
theorem I_220_208 : ins 220 208 = some (.ireturn, 0, 0, [], none) := (L_220_1 208 rfl).trans rfl
theorem I_220_209 : ins 220 209 = some (.aload_n 1, 0, 0, [], some [0, 1, 2, 3]) := (L_220_1 209 rfl).trans rfl
theorem I_220_210 : ins 220 210 = some (.aload_n 0, 0, 0, [], none) := (L_220_1 210 rfl).trans rfl
theorem I_220_211 : ins 220 211 = some (.iload_n 3, 0, 0, [], none) := (L_220_1 211 rfl).trans rfl
theorem I_220_212 : ins 220 212 = some (.iconst 1, 0, 0, [], none) := (L_220_1 212 rfl).trans rfl
theorem I_220_213 : ins 220 213 = some (.iadd, 0, 0, [], none) := (L_220_1 213 rfl).trans rfl
theorem I_220_214 : ins 220 214 = some (.iaload, 0, 0, [], none) := (L_220_1 214 rfl).trans rfl
theorem I_220_215 : ins 220 215 = some (.invokevirtual 18, 1, 0, [(9, 241)], none) := (L_220_1 215 rfl).trans rfl
theorem I_220_218 : ins 220 218 = some (.aload_n 2, 0, 0, [], none) := (L_220_1 218 rfl).trans rfl
theorem I_220_219 : ins 220 219 = some (.aload_n 0, 0, 0, [], none) := (L_220_1 219 rfl).trans rfl
theorem I_220_220 : ins 220 220 = some (.iload_n 3, 0, 0, [], none) := (L_220_1 220 rfl).trans rfl
theorem I_220_221 : ins 220 221 = some (.iconst 1, 0, 0, [], none) := (L_220_1 221 rfl).trans rfl
theorem I_220_222 : ins 220 222 = some (.iadd, 0, 0, [], none) := (L_220_1 222 rfl).trans rfl
theorem I_220_223 : ins 220 223 = some (.iaload, 0, 0, [], none) := (L_220_1 223 rfl).trans rfl
theorem I_220_224 : ins 220 224 = some (.invokevirtual 22, 1, 0, [(10, 242)], none) := (L_220_1 224 rfl).trans rfl
theorem I_220_227 : ins 220 227 = some (.if_icmp .eq 987, 1214, 0, [], none) := (L_220_1 227 rfl).trans rfl
theorem I_220_230 : ins 220 230 = some (.iconst 0, 0, 0, [], some []) := (L_220_1 230 rfl).trans rfl
theorem I_220_231 : ins 220 231 = some (.ireturn, 0, 0, [], none) := (L_220_1 231 rfl).trans rfl
theorem I_220_232 : ins 220 232 = some (.aload_n 1, 0, 0, [], some [0, 1, 2, 3]) := (L_220_1 232 rfl).trans rfl
theorem I_220_233 : ins 220 233 = some (.aload_n 0, 0, 0, [], none) := (L_220_1 233 rfl).trans rfl
theorem I_220_234 : ins 220 234 = some (.iload_n 3, 0, 0, [], none) := (L_220_1 234 rfl).trans rfl
theorem I_220_235 : ins 220 235 = some (.iconst 1, 0, 0, [], none) := (L_220_1 235 rfl).trans rfl
theorem I_220_236 : ins 220 236 = some (.iadd, 0, 0, [], none) := (L_220_1 236 rfl).trans rfl
theorem I_220_237 : ins 220 237 = some (.iaload, 0, 0, [], none) := (L_220_1 237 rfl).trans rfl
theorem I_220_238 : ins 220 238 = some (.invokevirtual 23, 1, 0, [(9, 243)], none) := (L_220_1 238 rfl).trans rfl
theorem I_220_241 : ins 220 241 = some (.aload_n 2, 0, 0, [], none) := (L_220_1 241 rfl).trans rfl
theorem I_220_242 : ins 220 242 = some (.aload_n 0, 0, 0, [], none) := (L_220_1 242 rfl).trans rfl
theorem I_220_243 : ins 220 243 = some (.iload_n 3, 0, 0, [], none) := (L_220_1 243 rfl).trans rfl
theorem I_220_244 : ins 220 244 = some (.iconst 1, 0, 0, [], none) := (L_220_1 244 rfl).trans rfl
theorem I_220_245 : ins 220 245 = some (.iadd, 0, 0, [], none) := (L_220_1 245 rfl).trans rfl
theorem I_220_246 : ins 220 246 = some (.iaload, 0, 0, [], none) := (L_220_1 246 rfl).trans rfl
theorem I_220_247 : ins 220 247 = some (.invokevirtual 26, 1, 0, [(10, 244)], none) := (L_220_1 247 rfl).trans rfl
theorem I_220_250 : ins 220 250 = some (.if_icmp .eq 964, 1214, 0, [], none) := (L_220_2 250 rfl).trans rfl
theorem I_220_253 : ins 220 253 = some (.iconst 0, 0, 0, [], some []) := (L_220_2 253 rfl).trans rfl
theorem I_220_254 : ins 220 254 = some (.ireturn, 0, 0, [], none) := (L_220_2 254 rfl).trans rfl
theorem I_220_255 : ins 220 255 = some (.aload_n 1, 0, 0, [], some [0, 1, 2, 3]) := (L_220_2 255 rfl).trans rfl
theorem I_220_256 : ins 220 256 = some (.aload_n 0, 0, 0, [], none) := (L_220_2 256 rfl).trans rfl
theorem I_220_257 : ins 220 257 = some (.iload_n 3, 0, 0, [], none) := (L_220_2 257 rfl).trans rfl
theorem I_220_258 : ins 220 258 = some (.iconst 1, 0, 0, [], none) := (L_220_2 258 rfl).trans rfl
theorem I_220_259 : ins 220 259 = some (.iadd, 0, 0, [], none) := (L_220_2 259 rfl).trans rfl
theorem I_220_260 : ins 220 260 = some (.iaload, 0, 0, [], none) := (L_220_2 260 rfl).trans rfl
theorem I_220_261 : ins 220 261 = some (.invokevirtual 27, 1, 0, [(9, 245)], none) := (L_220_2 261 rfl).trans rfl
theorem I_220_264 : ins 220 264 = some (.aload_n 2, 0, 0, [], none) := (L_220_2 264 rfl).trans rfl
theorem I_220_265 : ins 220 265 = some (.aload_n 0, 0, 0, [], none) := (L_220_2 265 rfl).trans rfl
theorem I_220_266 : ins 220 266 = some (.iload_n 3, 0, 0, [], none) := (L_220_2 266 rfl).trans rfl
theorem I_220_267 : ins 220 267 = some (.iconst 1, 0, 0, [], none) := (L_220_2 267 rfl).trans rfl
theorem I_220_268 : ins 220 268 = some (.iadd, 0, 0, [], none) := (L_220_2 268 rfl).trans rfl
theorem I_220_269 : ins 220 269 = some (.iaload, 0, 0, [], none) := (L_220_2 269 rfl).trans rfl
theorem I_220_270 : ins 220 270 = some (.invokevirtual 30, 1, 0, [(10, 246)], none) := (L_220_2 270 rfl).trans rfl
theorem I_220_273 : ins 220 273 = some (.if_icmp .eq 941, 1214, 0, [], none) := (L_220_2 273 rfl).trans rfl
theorem I_220_276 : ins 220 276 = some (.iconst 0, 0, 0, [], some []) := (L_220_2 276 rfl).trans rfl
theorem I_220_277 : ins 220 277 = some (.ireturn, 0, 0, [], none) := (L_220_2 277 rfl).trans rfl
theorem I_220_278 : ins 220 278 = some (.aload_n 1, 0, 0, [], some [0, 1, 2, 3]) := (L_220_2 278 rfl).trans rfl
theorem I_220_279 : ins 220 279 = some (.aload_n 0, 0, 0, [], none) := (L_220_2 279 rfl).trans rfl
theorem I_220_280 : ins 220 280 = some (.iload_n 3, 0, 0, [], none) := (L_220_2 280 rfl).trans rfl
theorem I_220_281 : ins 220 281 = some (.iconst 1, 0, 0, [], none) := (L_220_2 281 rfl).trans rfl
theorem I_220_282 : ins 220 282 = some (.iadd, 0, 0, [], none) := (L_220_2 282 rfl).trans rfl
theorem I_220_283 : ins 220 283 = some (.iaload, 0, 0, [], none) := (L_220_2 283 rfl).trans rfl
theorem I_220_284 : ins 220 284 = some (.aload_n 0, 0, 0, [], none) := (L_220_2 284 rfl).trans rfl
theorem I_220_285 : ins 220 285 = some (.iload_n 3, 0, 0, [], none) := (L_220_2 285 rfl).trans rfl
theorem I_220_286 : ins 220 286 = some (.iconst 2, 0, 0, [], none) := (L_220_2 286 rfl).trans rfl
theorem I_220_287 : ins 220 287 = some (.iadd, 0, 0, [], none) := (L_220_2 287 rfl).trans rfl
theorem I_220_288 : ins 220 288 = some (.iaload, 0, 0, [], none) := (L_220_2 288 rfl).trans rfl
theorem I_220_289 : ins 220 289 = some (.invokevirtual 31, 2, 0, [(9, 247)], none) := (L_220_2 289 rfl).trans rfl
theorem I_220_292 : ins 220 292 = some (.aload_n 2, 0, 0, [], none) := (L_220_2 292 rfl).trans rfl
theorem I_220_293 : ins 220 293 = some (.aload_n 0, 0, 0, [], none) := (L_220_2 293 rfl).trans rfl
theorem I_220_294 : ins 220 294 = some (.iload_n 3, 0, 0, [], none) := (L_220_2 294 rfl).trans rfl
theorem I_220_295 : ins 220 295 = some (.iconst 1, 0, 0, [], none) := (L_220_2 295 rfl).trans rfl
theorem I_220_296 : ins 220 296 = some (.iadd, 0, 0, [], none) := (L_220_2 296 rfl).trans rfl
theorem I_220_297 : ins 220 297 = some (.iaload, 0, 0, [], none) := (L_220_2 297 rfl).trans rfl
theorem I_220_298 : ins 220 298 = some (.aload_n 0, 0, 0, [], none) := (L_220_2 298 rfl).trans rfl
theorem I_220_299 : ins 220 299 = some (.iload_n 3, 0, 0, [], none) := (L_220_2 299 rfl).trans rfl
theorem I_220_300 : ins 220 300 = some (.iconst 2, 0, 0, [], none) := (L_220_3 300 rfl).trans rfl
theorem I_220_301 : ins 220 301 = some (.iadd, 0, 0, [], none) := (L_220_3 301 rfl).trans rfl
theorem I_220_302 : ins 220 302 = some (.iaload, 0, 0, [], none) := (L_220_3 302 rfl).trans rfl
theorem I_220_303 : ins 220 303 = some (.invokevirtual 34, 2, 0, [(10, 248)], none) := (L_220_3 303 rfl).trans rfl
theorem I_220_306 : ins 220 306 = some (.if_icmp .eq 908, 1214, 0, [], none) := (L_220_3 306 rfl).trans rfl
theorem I_220_309 : ins 220 309 = some (.iconst 0, 0, 0, [], some []) := (L_220_3 309 rfl).trans rfl
theorem I_220_310 : ins 220 310 = some (.ireturn, 0, 0, [], none) := (L_220_3 310 rfl).trans rfl
theorem I_220_311 : ins 220 311 = some (.aload_n 1, 0, 0, [], some [0, 1, 2, 3]) := (L_220_3 311 rfl).trans rfl
theorem I_220_312 : ins 220 312 = some (.aload_n 0, 0, 0, [], none) := (L_220_3 312 rfl).trans rfl
theorem I_220_313 : ins 220 313 = some (.iload_n 3, 0, 0, [], none) := (L_220_3 313 rfl).trans rfl
theorem I_220_314 : ins 220 314 = some (.iconst 1, 0, 0, [], none) := (L_220_3 314 rfl).trans rfl
theorem I_220_315 : ins 220 315 = some (.iadd, 0, 0, [], none) := (L_220_3 315 rfl).trans rfl
theorem I_220_316 : ins 220 316 = some (.iaload, 0, 0, [], none) := (L_220_3 316 rfl).trans rfl
theorem I_220_317 : ins 220 317 = some (.aload_n 0, 0, 0, [], none) := (L_220_3 317 rfl).trans rfl
theorem I_220_318 : ins 220 318 = some (.iload_n 3, 0, 0, [], none) := (L_220_3 318 rfl).trans rfl
theorem I_220_319 : ins 220 319 = some (.iconst 2, 0, 0, [], none) := (L_220_3 319 rfl).trans rfl
theorem I_220_320 : ins 220 320 = some (.iadd, 0, 0, [], none) := (L_220_3 320 rfl).trans rfl
theorem I_220_321 : ins 220 321 = some (.iaload, 0, 0, [], none) := (L_220_3 321 rfl).trans rfl
theorem I_220_322 : ins 220 322 = some (.invokevirtual 35, 2, 0, [(9, 249)], none) := (L_220_3 322 rfl).trans rfl
theorem I_220_325 : ins 220 325 = some (.aload_n 2, 0, 0, [], none) := (L_220_3 325 rfl).trans rfl
theorem I_220_326 : ins 220 326 = some (.aload_n 0, 0, 0, [], none) := (L_220_3 326 rfl).trans rfl
theorem I_220_327 : ins 220 327 = some (.iload_n 3, 0, 0, [], none) := (L_220_3 327 rfl).trans rfl
theorem I_220_328 : ins 220 328 = some (.iconst 1, 0, 0, [], none) := (L_220_3 328 rfl).trans rfl
theorem I_220_329 : ins 220 329 = some (.iadd, 0, 0, [], none) := (L_220_3 329 rfl).trans rfl
theorem I_220_330 : ins 220 330 = some (.iaload, 0, 0, [], none) := (L_220_3 330 rfl).trans rfl
theorem I_220_331 : ins 220 331 = some (.aload_n 0, 0, 0, [], none) := (L_220_3 331 rfl).trans rfl
theorem I_220_332 : ins 220 332 = some (.iload_n 3, 0, 0, [], none) := (L_220_3 332 rfl).trans rfl
theorem I_220_333 : ins 220 333 = some (.iconst 2, 0, 0, [], none) := (L_220_3 333 rfl).trans rfl
theorem I_220_334 : ins 220 334 = some (.iadd, 0, 0, [], none) := (L_220_3 334 rfl).trans rfl
theorem I_220_335 : ins 220 335 = some (.iaload, 0, 0, [], none) := (L_220_3 335 rfl).trans rfl
theorem I_220_336 : ins 220 336 = some (.invokevirtual 38, 2, 0, [(10, 250)], none) := (L_220_3 336 rfl).trans rfl
theorem I_220_339 : ins 220 339 = some (.if_icmp .eq 875, 1214, 0, [], none) := (L_220_3 339 rfl).trans rfl
theorem I_220_342 : ins 220 342 = some (.iconst 0, 0, 0, [], some []) := (L_220_3 342 rfl).trans rfl
theorem I_220_343 : ins 220 343 = some (.ireturn, 0, 0, [], none) := (L_220_3 343 rfl).trans rfl
theorem I_220_344 : ins 220 344 = some (.aload_n 1, 0, 0, [], some [0, 1, 2, 3]) := (L_220_3 344 rfl).trans rfl
theorem I_220_345 : ins 220 345 = some (.aload_n 0, 0, 0, [], none) := (L_220_3 345 rfl).trans rfl
theorem I_220_346 : ins 220 346 = some (.iload_n 3, 0, 0, [], none) := (L_220_3 346 rfl).trans rfl
theorem I_220_347 : ins 220 347 = some (.iconst 1, 0, 0, [], none) := (L_220_3 347 rfl).trans rfl
theorem I_220_348 : ins 220 348 = some (.iadd, 0, 0, [], none) := (L_220_3 348 rfl).trans rfl
theorem I_220_349 : ins 220 349 = some (.iaload, 0, 0, [], none) := (L_220_3 349 rfl).trans rfl
theorem I_220_350 : ins 220 350 = some (.invokevirtual 39, 1, 0, [(9, 251)], none) := (L_220_4 350 rfl).trans rfl
theorem I_220_353 : ins 220 353 = some (.aload_n 2, 0, 0, [], none) := (L_220_4 353 rfl).trans rfl
theorem I_220_354 : ins 220 354 = some (.aload_n 0, 0, 0, [], none) := (L_220_4 354 rfl).trans rfl
theorem I_220_355 : ins 220 355 = some (.iload_n 3, 0, 0, [], none) := (L_220_4 355 rfl).trans rfl
theorem I_220_356 : ins 220 356 = some (.iconst 1, 0, 0, [], none) := (L_220_4 356 rfl).trans rfl
theorem I_220_357 : ins 220 357 = some (.iadd, 0, 0, [], none) := (L_220_4 357 rfl).trans rfl
theorem I_220_358 : ins 220 358 = some (.iaload, 0, 0, [], none) := (L_220_4 358 rfl).trans rfl
theorem I_220_359 : ins 220 359 = some (.invokevirtual 42, 1, 0, [(10, 252)], none) := (L_220_4 359 rfl).trans rfl
theorem I_220_362 : ins 220 362 = some (.if_icmp .eq 852, 1214, 0, [], none) := (L_220_4 362 rfl).trans rfl
theorem I_220_365 : ins 220 365 = some (.iconst 0, 0, 0, [], some []) := (L_220_4 365 rfl).trans rfl
theorem I_220_366 : ins 220 366 = some (.ireturn, 0, 0, [], none) := (L_220_4 366 rfl).trans rfl
theorem I_220_367 : ins 220 367 = some (.aload_n 1, 0, 0, [], some [0, 1, 2, 3]) := (L_220_4 367 rfl).trans rfl
theorem I_220_368 : ins 220 368 = some (.aload_n 0, 0, 0, [], none) := (L_220_4 368 rfl).trans rfl
theorem I_220_369 : ins 220 369 = some (.iload_n 3, 0, 0, [], none) := (L_220_4 369 rfl).trans rfl
theorem I_220_370 : ins 220 370 = some (.iconst 1, 0, 0, [], none) := (L_220_4 370 rfl).trans rfl
theorem I_220_371 : ins 220 371 = some (.iadd, 0, 0, [], none) := (L_220_4 371 rfl).trans rfl
theorem I_220_372 : ins 220 372 = some (.iaload, 0, 0, [], none) := (L_220_4 372 rfl).trans rfl
theorem I_220_373 : ins 220 373 = some (.aload_n 0, 0, 0, [], none) := (L_220_4 373 rfl).trans rfl
theorem I_220_374 : ins 220 374 = some (.iload_n 3, 0, 0, [], none) := (L_220_4 374 rfl).trans rfl
theorem I_220_375 : ins 220 375 = some (.iconst 2, 0, 0, [], none) := (L_220_4 375 rfl).trans rfl
theorem I_220_376 : ins 220 376 = some (.iadd, 0, 0, [], none) := (L_220_4 376 rfl).trans rfl
theorem I_220_377 : ins 220 377 = some (.iaload, 0, 0, [], none) := (L_220_4 377 rfl).trans rfl
theorem I_220_378 : ins 220 378 = some (.invokevirtual 43, 2, 0, [(9, 253)], none) := (L_220_4 378 rfl).trans rfl
theorem I_220_381 : ins 220 381 = some (.aload_n 2, 0, 0, [], none) := (L_220_4 381 rfl).trans rfl
theorem I_220_382 : ins 220 382 = some (.aload_n 0, 0, 0, [], none) := (L_220_4 382 rfl).trans rfl
theorem I_220_383 : ins 220 383 = some (.iload_n 3, 0, 0, [], none) := (L_220_4 383 rfl).trans rfl
theorem I_220_384 : ins 220 384 = some (.iconst 1, 0, 0, [], none) := (L_220_4 384 rfl).trans rfl
theorem I_220_385 : ins 220 385 = some (.iadd, 0, 0, [], none) := (L_220_4 385 rfl).trans rfl
theorem I_220_386 : ins 220 386 = some (.iaload, 0, 0, [], none) := (L_220_4 386 rfl).trans rfl
theorem I_220_387 : ins 220 387 = some (.aload_n 0, 0, 0, [], none) := (L_220_4 387 rfl).trans rfl
theorem I_220_388 : ins 220 388 = some (.iload_n 3, 0, 0, [], none) := (L_220_4 388 rfl).trans rfl
theorem I_220_389 : ins 220 389 = some (.iconst 2, 0, 0, [], none) := (L_220_4 389 rfl).trans rfl
theorem I_220_390 : ins 220 390 = some (.iadd, 0, 0, [], none) := (L_220_4 390 rfl).trans rfl
theorem I_220_391 : ins 220 391 = some (.iaload, 0, 0, [], none) := (L_220_4 391 rfl).trans rfl
theorem I_220_392 : ins 220 392 = some (.invokevirtual 46, 2, 0, [(10, 254)], none) := (L_220_4 392 rfl).trans rfl
theorem I_220_395 : ins 220 395 = some (.if_icmp .eq 819, 1214, 0, [], none) := (L_220_4 395 rfl).trans rfl
theorem I_220_398 : ins 220 398 = some (.iconst 0, 0, 0, [], some []) := (L_220_4 398 rfl).trans rfl
theorem I_220_399 : ins 220 399 = some (.ireturn, 0, 0, [], none) := (L_220_4 399 rfl).trans rfl
theorem I_220_400 : ins 220 400 = some (.aload_n 1, 0, 0, [], some [0, 1, 2, 3]) := (L_220_4 400 rfl).trans rfl
theorem I_220_401 : ins 220 401 = some (.aload_n 0, 0, 0, [], none) := (L_220_4 401 rfl).trans rfl
theorem I_220_402 : ins 220 402 = some (.iload_n 3, 0, 0, [], none) := (L_220_5 402 rfl).trans rfl
theorem I_220_403 : ins 220 403 = some (.iconst 1, 0, 0, [], none) := (L_220_5 403 rfl).trans rfl
theorem I_220_404 : ins 220 404 = some (.iadd, 0, 0, [], none) := (L_220_5 404 rfl).trans rfl
theorem I_220_405 : ins 220 405 = some (.iaload, 0, 0, [], none) := (L_220_5 405 rfl).trans rfl
theorem I_220_406 : ins 220 406 = some (.aload_n 0, 0, 0, [], none) := (L_220_5 406 rfl).trans rfl
theorem I_220_407 : ins 220 407 = some (.iload_n 3, 0, 0, [], none) := (L_220_5 407 rfl).trans rfl
theorem I_220_408 : ins 220 408 = some (.iconst 2, 0, 0, [], none) := (L_220_5 408 rfl).trans rfl
theorem I_220_409 : ins 220 409 = some (.iadd, 0, 0, [], none) := (L_220_5 409 rfl).trans rfl
theorem I_220_410 : ins 220 410 = some (.iaload, 0, 0, [], none) := (L_220_5 410 rfl).trans rfl
theorem I_220_411 : ins 220 411 = some (.aload_n 0, 0, 0, [], none) := (L_220_5 411 rfl).trans rfl
theorem I_220_412 : ins 220 412 = some (.iload_n 3, 0, 0, [], none) := (L_220_5 412 rfl).trans rfl
theorem I_220_413 : ins 220 413 = some (.iconst 3, 0, 0, [], none) := (L_220_5 413 rfl).trans rfl
theorem I_220_414 : ins 220 414 = some (.iadd, 0, 0, [], none) := (L_220_5 414 rfl).trans rfl
theorem I_220_415 : ins 220 415 = some (.iaload, 0, 0, [], none) := (L_220_5 415 rfl).trans rfl
theorem I_220_416 : ins 220 416 = some (.invokevirtual 47, 3, 0, [(9, 255)], none) := (L_220_5 416 rfl).trans rfl
theorem I_220_419 : ins 220 419 = some (.aload_n 2, 0, 0, [], none) := (L_220_5 419 rfl).trans rfl
theorem I_220_420 : ins 220 420 = some (.aload_n 0, 0, 0, [], none) := (L_220_5 420 rfl).trans rfl
theorem I_220_421 : ins 220 421 = some (.iload_n 3, 0, 0, [], none) := (L_220_5 421 rfl).trans rfl
theorem I_220_422 : ins 220 422 = some (.iconst 1, 0, 0, [], none) := (L_220_5 422 rfl).trans rfl
theorem I_220_423 : ins 220 423 = some (.iadd, 0, 0, [], none) := (L_220_5 423 rfl).trans rfl
theorem I_220_424 : ins 220 424 = some (.iaload, 0, 0, [], none) := (L_220_5 424 rfl).trans rfl
theorem I_220_425 : ins 220 425 = some (.aload_n 0, 0, 0, [], none) := (L_220_5 425 rfl).trans rfl
theorem I_220_426 : ins 220 426 = some (.iload_n 3, 0, 0, [], none) := (L_220_5 426 rfl).trans rfl
theorem I_220_427 : ins 220 427 = some (.iconst 2, 0, 0, [], none) := (L_220_5 427 rfl).trans rfl
theorem I_220_428 : ins 220 428 = some (.iadd, 0, 0, [], none) := (L_220_5 428 rfl).trans rfl
theorem I_220_429 : ins 220 429 = some (.iaload, 0, 0, [], none) := (L_220_5 429 rfl).trans rfl
theorem I_220_430 : ins 220 430 = some (.aload_n 0, 0, 0, [], none) := (L_220_5 430 rfl).trans rfl
theorem I_220_431 : ins 220 431 = some (.iload_n 3, 0, 0, [], none) := (L_220_5 431 rfl).trans rfl
theorem I_220_432 : ins 220 432 = some (.iconst 3, 0, 0, [], none) := (L_220_5 432 rfl).trans rfl
theorem I_220_433 : ins 220 433 = some (.iadd, 0, 0, [], none) := (L_220_5 433 rfl).trans rfl
theorem I_220_434 : ins 220 434 = some (.iaload, 0, 0, [], none) := (L_220_5 434 rfl).trans rfl
theorem I_220_435 : ins 220 435 = some (.invokevirtual 51, 3, 0, [(10, 256)], none) := (L_220_5 435 rfl).trans rfl
theorem I_220_438 : ins 220 438 = some (.if_icmp .eq 776, 1214, 0, [], none) := (L_220_5 438 rfl).trans rfl
theorem I_220_441 : ins 220 441 = some (.iconst 0, 0, 0, [], some []) := (L_220_5 441 rfl).trans rfl
theorem I_220_442 : ins 220 442 = some (.ireturn, 0, 0, [], none) := (L_220_5 442 rfl).trans rfl
theorem I_220_443 : ins 220 443 = some (.aload_n 1, 0, 0, [], some [0, 1, 2, 3]) := (L_220_5 443 rfl).trans rfl
theorem I_220_444 : ins 220 444 = some (.aload_n 0, 0, 0, [], none) := (L_220_5 444 rfl).trans rfl
theorem I_220_445 : ins 220 445 = some (.iload_n 3, 0, 0, [], none) := (L_220_5 445 rfl).trans rfl
theorem I_220_446 : ins 220 446 = some (.iconst 1, 0, 0, [], none) := (L_220_5 446 rfl).trans rfl
theorem I_220_447 : ins 220 447 = some (.iadd, 0, 0, [], none) := (L_220_5 447 rfl).trans rfl
theorem I_220_448 : ins 220 448 = some (.iaload, 0, 0, [], none) := (L_220_6 448 rfl).trans rfl
theorem I_220_449 : ins 220 449 = some (.aload_n 0, 0, 0, [], none) := (L_220_6 449 rfl).trans rfl
theorem I_220_450 : ins 220 450 = some (.iload_n 3, 0, 0, [], none) := (L_220_6 450 rfl).trans rfl
theorem I_220_451 : ins 220 451 = some (.iconst 2, 0, 0, [], none) := (L_220_6 451 rfl).trans rfl
theorem I_220_452 : ins 220 452 = some (.iadd, 0, 0, [], none) := (L_220_6 452 rfl).trans rfl
theorem I_220_453 : ins 220 453 = some (.iaload, 0, 0, [], none) := (L_220_6 453 rfl).trans rfl
theorem I_220_454 : ins 220 454 = some (.invokevirtual 52, 2, 0, [(9, 257)], none) := (L_220_6 454 rfl).trans rfl
theorem I_220_457 : ins 220 457 = some (.aload_n 2, 0, 0, [], none) := (L_220_6 457 rfl).trans rfl
theorem I_220_458 : ins 220 458 = some (.aload_n 0, 0, 0, [], none) := (L_220_6 458 rfl).trans rfl
theorem I_220_459 : ins 220 459 = some (.iload_n 3, 0, 0, [], none) := (L_220_6 459 rfl).trans rfl
theorem I_220_460 : ins 220 460 = some (.iconst 1, 0, 0, [], none) := (L_220_6 460 rfl).trans rfl
theorem I_220_461 : ins 220 461 = some (.iadd, 0, 0, [], none) := (L_220_6 461 rfl).trans rfl
theorem I_220_462 : ins 220 462 = some (.iaload, 0, 0, [], none) := (L_220_6 462 rfl).trans rfl
theorem I_220_463 : ins 220 463 = some (.aload_n 0, 0, 0, [], none) := (L_220_6 463 rfl).trans rfl
theorem I_220_464 : ins 220 464 = some (.iload_n 3, 0, 0, [], none) := (L_220_6 464 rfl).trans rfl
theorem I_220_465 : ins 220 465 = some (.iconst 2, 0, 0, [], none) := (L_220_6 465 rfl).trans rfl
theorem I_220_466 : ins 220 466 = some (.iadd, 0, 0, [], none) := (L_220_6 466 rfl).trans rfl
theorem I_220_467 : ins 220 467 = some (.iaload, 0, 0, [], none) := (L_220_6 467 rfl).trans rfl
theorem I_220_468 : ins 220 468 = some (.invokevirtual 55, 2, 0, [(10, 258)], none) := (L_220_6 468 rfl).trans rfl
theorem I_220_471 : ins 220 471 = some (.if_icmp .eq 743, 1214, 0, [], none) := (L_220_6 471 rfl).trans rfl
theorem I_220_474 : ins 220 474 = some (.iconst 0, 0, 0, [], some []) := (L_220_6 474 rfl).trans rfl
theorem I_220_475 : ins 220 475 = some (.ireturn, 0, 0, [], none) := (L_220_6 475 rfl).trans rfl
theorem I_220_476 : ins 220 476 = some (.aload_n 1, 0, 0, [], some [0, 1, 2, 3]) := (L_220_6 476 rfl).trans rfl
theorem I_220_477 : ins 220 477 = some (.aload_n 0, 0, 0, [], none) := (L_220_6 477 rfl).trans rfl
theorem I_220_478 : ins 220 478 = some (.iload_n 3, 0, 0, [], none) := (L_220_6 478 rfl).trans rfl
theorem I_220_479 : ins 220 479 = some (.iconst 1, 0, 0, [], none) := (L_220_6 479 rfl).trans rfl
theorem I_220_480 : ins 220 480 = some (.iadd, 0, 0, [], none) := (L_220_6 480 rfl).trans rfl
theorem I_220_481 : ins 220 481 = some (.iaload, 0, 0, [], none) := (L_220_6 481 rfl).trans rfl
theorem I_220_482 : ins 220 482 = some (.aload_n 0, 0, 0, [], none) := (L_220_6 482 rfl).trans rfl
theorem I_220_483 : ins 220 483 = some (.iload_n 3, 0, 0, [], none) := (L_220_6 483 rfl).trans rfl
theorem I_220_484 : ins 220 484 = some (.iconst 2, 0, 0, [], none) := (L_220_6 484 rfl).trans rfl
theorem I_220_485 : ins 220 485 = some (.iadd, 0, 0, [], none) := (L_220_6 485 rfl).trans rfl
theorem I_220_486 : ins 220 486 = some (.iaload, 0, 0, [], none) := (L_220_6 486 rfl).trans rfl
theorem I_220_487 : ins 220 487 = some (.invokevirtual 56, 2, 0, [(9, 259)], none) := (L_220_6 487 rfl).trans rfl
theorem I_220_490 : ins 220 490 = some (.aload_n 2, 0, 0, [], none) := (L_220_6 490 rfl).trans rfl
theorem I_220_491 : ins 220 491 = some (.aload_n 0, 0, 0, [], none) := (L_220_6 491 rfl).trans rfl
theorem I_220_492 : ins 220 492 = some (.iload_n 3, 0, 0, [], none) := (L_220_6 492 rfl).trans rfl
theorem I_220_493 : ins 220 493 = some (.iconst 1, 0, 0, [], none) := (L_220_6 493 rfl).trans rfl
theorem I_220_494 : ins 220 494 = some (.iadd, 0, 0, [], none) := (L_220_6 494 rfl).trans rfl
theorem I_220_495 : ins 220 495 = some (.iaload, 0, 0, [], none) := (L_220_6 495 rfl).trans rfl
theorem I_220_496 : ins 220 496 = some (.aload_n 0, 0, 0, [], none) := (L_220_7 496 rfl).trans rfl
theorem I_220_497 : ins 220 497 = some (.iload_n 3, 0, 0, [], none) := (L_220_7 497 rfl).trans rfl
theorem I_220_498 : ins 220 498 = some (.iconst 2, 0, 0, [], none) := (L_220_7 498 rfl).trans rfl
theorem I_220_499 : ins 220 499 = some (.iadd, 0, 0, [], none) := (L_220_7 499 rfl).trans rfl
theorem I_220_500 : ins 220 500 = some (.iaload, 0, 0, [], none) := (L_220_7 500 rfl).trans rfl
theorem I_220_501 : ins 220 501 = some (.invokevirtual 59, 2, 0, [(10, 260)], none) := (L_220_7 501 rfl).trans rfl
theorem I_220_504 : ins 220 504 = some (.if_icmp .eq 710, 1214, 0, [], none) := (L_220_7 504 rfl).trans rfl
theorem I_220_507 : ins 220 507 = some (.iconst 0, 0, 0, [], some []) := (L_220_7 507 rfl).trans rfl
theorem I_220_508 : ins 220 508 = some (.ireturn, 0, 0, [], none) := (L_220_7 508 rfl).trans rfl
theorem I_220_509 : ins 220 509 = some (.aload_n 1, 0, 0, [], some [0, 1, 2, 3]) := (L_220_7 509 rfl).trans rfl
theorem I_220_510 : ins 220 510 = some (.aload_n 0, 0, 0, [], none) := (L_220_7 510 rfl).trans rfl
theorem I_220_511 : ins 220 511 = some (.iload_n 3, 0, 0, [], none) := (L_220_7 511 rfl).trans rfl
theorem I_220_512 : ins 220 512 = some (.iconst 1, 0, 0, [], none) := (L_220_7 512 rfl).trans rfl
theorem I_220_513 : ins 220 513 = some (.iadd, 0, 0, [], none) := (L_220_7 513 rfl).trans rfl
theorem I_220_514 : ins 220 514 = some (.iaload, 0, 0, [], none) := (L_220_7 514 rfl).trans rfl
theorem I_220_515 : ins 220 515 = some (.aload_n 0, 0, 0, [], none) := (L_220_7 515 rfl).trans rfl
theorem I_220_516 : ins 220 516 = some (.iload_n 3, 0, 0, [], none) := (L_220_7 516 rfl).trans rfl
theorem I_220_517 : ins 220 517 = some (.iconst 2, 0, 0, [], none) := (L_220_7 517 rfl).trans rfl
theorem I_220_518 : ins 220 518 = some (.iadd, 0, 0, [], none) := (L_220_7 518 rfl).trans rfl
theorem I_220_519 : ins 220 519 = some (.iaload, 0, 0, [], none) := (L_220_7 519 rfl).trans rfl
theorem I_220_520 : ins 220 520 = some (.invokevirtual 60, 2, 0, [(9, 261)], none) := (L_220_7 520 rfl).trans rfl
theorem I_220_523 : ins 220 523 = some (.aload_n 2, 0, 0, [], none) := (L_220_7 523 rfl).trans rfl
theorem I_220_524 : ins 220 524 = some (.aload_n 0, 0, 0, [], none) := (L_220_7 524 rfl).trans rfl
theorem I_220_525 : ins 220 525 = some (.iload_n 3, 0, 0, [], none) := (L_220_7 525 rfl).trans rfl
theorem I_220_526 : ins 220 526 = some (.iconst 1, 0, 0, [], none) := (L_220_7 526 rfl).trans rfl
theorem I_220_527 : ins 220 527 = some (.iadd, 0, 0, [], none) := (L_220_7 527 rfl).trans rfl
theorem I_220_528 : ins 220 528 = some (.iaload, 0, 0, [], none) := (L_220_7 528 rfl).trans rfl
theorem I_220_529 : ins 220 529 = some (.aload_n 0, 0, 0, [], none) := (L_220_7 529 rfl).trans rfl
theorem I_220_530 : ins 220 530 = some (.iload_n 3, 0, 0, [], none) := (L_220_7 530 rfl).trans rfl
theorem I_220_531 : ins 220 531 = some (.iconst 2, 0, 0, [], none) := (L_220_7 531 rfl).trans rfl
theorem I_220_532 : ins 220 532 = some (.iadd, 0, 0, [], none) := (L_220_7 532 rfl).trans rfl
theorem I_220_533 : ins 220 533 = some (.iaload, 0, 0, [], none) := (L_220_7 533 rfl).trans rfl
theorem I_220_534 : ins 220 534 = some (.invokevirtual 63, 2, 0, [(10, 262)], none) := (L_220_7 534 rfl).trans rfl
theorem I_220_537 : ins 220 537 = some (.if_icmp .eq 677, 1214, 0, [], none) := (L_220_7 537 rfl).trans rfl
theorem I_220_540 : ins 220 540 = some (.iconst 0, 0, 0, [], some []) := (L_220_7 540 rfl).trans rfl
theorem I_220_541 : ins 220 541 = some (.ireturn, 0, 0, [], none) := (L_220_7 541 rfl).trans rfl
theorem I_220_542 : ins 220 542 = some (.aload_n 1, 0, 0, [], some [0, 1, 2, 3]) := (L_220_7 542 rfl).trans rfl
theorem I_220_543 : ins 220 543 = some (.aload_n 0, 0, 0, [], none) := (L_220_7 543 rfl).trans rfl
theorem I_220_544 : ins 220 544 = some (.iload_n 3, 0, 0, [], none) := (L_220_7 544 rfl).trans rfl
theorem I_220_545 : ins 220 545 = some (.iconst 1, 0, 0, [], none) := (L_220_7 545 rfl).trans rfl
theorem I_220_546 : ins 220 546 = some (.iadd, 0, 0, [], none) := (L_220_8 546 rfl).trans rfl
theorem I_220_547 : ins 220 547 = some (.iaload, 0, 0, [], none) := (L_220_8 547 rfl).trans rfl
theorem I_220_548 : ins 220 548 = some (.invokevirtual 64, 1, 0, [(9, 263)], none) := (L_220_8 548 rfl).trans rfl
theorem I_220_551 : ins 220 551 = some (.aload_n 2, 0, 0, [], none) := (L_220_8 551 rfl).trans rfl
theorem I_220_552 : ins 220 552 = some (.aload_n 0, 0, 0, [], none) := (L_220_8 552 rfl).trans rfl
theorem I_220_553 : ins 220 553 = some (.iload_n 3, 0, 0, [], none) := (L_220_8 553 rfl).trans rfl
theorem I_220_554 : ins 220 554 = some (.iconst 1, 0, 0, [], none) := (L_220_8 554 rfl).trans rfl
theorem I_220_555 : ins 220 555 = some (.iadd, 0, 0, [], none) := (L_220_8 555 rfl).trans rfl
theorem I_220_556 : ins 220 556 = some (.iaload, 0, 0, [], none) := (L_220_8 556 rfl).trans rfl
theorem I_220_557 : ins 220 557 = some (.invokevirtual 67, 1, 0, [(10, 264)], none) := (L_220_8 557 rfl).trans rfl
theorem I_220_560 : ins 220 560 = some (.if_icmp .eq 654, 1214, 0, [], none) := (L_220_8 560 rfl).trans rfl
theorem I_220_563 : ins 220 563 = some (.iconst 0, 0, 0, [], some []) := (L_220_8 563 rfl).trans rfl
theorem I_220_564 : ins 220 564 = some (.ireturn, 0, 0, [], none) := (L_220_8 564 rfl).trans rfl
theorem I_220_565 : ins 220 565 = some (.aload_n 1, 0, 0, [], some [0, 1, 2, 3]) := (L_220_8 565 rfl).trans rfl
theorem I_220_566 : ins 220 566 = some (.aload_n 0, 0, 0, [], none) := (L_220_8 566 rfl).trans rfl
theorem I_220_567 : ins 220 567 = some (.iload_n 3, 0, 0, [], none) := (L_220_8 567 rfl).trans rfl
theorem I_220_568 : ins 220 568 = some (.iconst 1, 0, 0, [], none) := (L_220_8 568 rfl).trans rfl
theorem I_220_569 : ins 220 569 = some (.iadd, 0, 0, [], none) := (L_220_8 569 rfl).trans rfl
theorem I_220_570 : ins 220 570 = some (.iaload, 0, 0, [], none) := (L_220_8 570 rfl).trans rfl
theorem I_220_571 : ins 220 571 = some (.invokevirtual 68, 1, 0, [(9, 265)], none) := (L_220_8 571 rfl).trans rfl
theorem I_220_574 : ins 220 574 = some (.aload_n 2, 0, 0, [], none) := (L_220_8 574 rfl).trans rfl
theorem I_220_575 : ins 220 575 = some (.aload_n 0, 0, 0, [], none) := (L_220_8 575 rfl).trans rfl
theorem I_220_576 : ins 220 576 = some (.iload_n 3, 0, 0, [], none) := (L_220_8 576 rfl).trans rfl
theorem I_220_577 : ins 220 577 = some (.iconst 1, 0, 0, [], none) := (L_220_8 577 rfl).trans rfl
theorem I_220_578 : ins 220 578 = some (.iadd, 0, 0, [], none) := (L_220_8 578 rfl).trans rfl
theorem I_220_579 : ins 220 579 = some (.iaload, 0, 0, [], none) := (L_220_8 579 rfl).trans rfl
theorem I_220_580 : ins 220 580 = some (.invokevirtual 71, 1, 0, [(10, 266)], none) := (L_220_8 580 rfl).trans rfl
theorem I_220_583 : ins 220 583 = some (.if_icmp .eq 631, 1214, 0, [], none) := (L_220_8 583 rfl).trans rfl
theorem I_220_586 : ins 220 586 = some (.iconst 0, 0, 0, [], some []) := (L_220_8 586 rfl).trans rfl
theorem I_220_587 : ins 220 587 = some (.ireturn, 0, 0, [], none) := (L_220_8 587 rfl).trans rfl
theorem I_220_588 : ins 220 588 = some (.aload_n 1, 0, 0, [], some [0, 1, 2, 3]) := (L_220_8 588 rfl).trans rfl
theorem I_220_589 : ins 220 589 = some (.aload_n 0, 0, 0, [], none) := (L_220_8 589 rfl).trans rfl
theorem I_220_590 : ins 220 590 = some (.iload_n 3, 0, 0, [], none) := (L_220_8 590 rfl).trans rfl
theorem I_220_591 : ins 220 591 = some (.iconst 1, 0, 0, [], none) := (L_220_8 591 rfl).trans rfl
theorem I_220_592 : ins 220 592 = some (.iadd, 0, 0, [], none) := (L_220_8 592 rfl).trans rfl
theorem I_220_593 : ins 220 593 = some (.iaload, 0, 0, [], none) := (L_220_8 593 rfl).trans rfl
theorem I_220_594 : ins 220 594 = some (.aload_n 0, 0, 0, [], none) := (L_220_8 594 rfl).trans rfl
theorem I_220_595 : ins 220 595 = some (.iload_n 3, 0, 0, [], none) := (L_220_8 595 rfl).trans rfl
theorem I_220_596 : ins 220 596 = some (.iconst 2, 0, 0, [], none) := (L_220_8 596 rfl).trans rfl
theorem I_220_597 : ins 220 597 = some (.iadd, 0, 0, [], none) := (L_220_8 597 rfl).trans rfl
theorem I_220_598 : ins 220 598 = some (.iaload, 0, 0, [], none) := (L_220_9 598 rfl).trans rfl
theorem I_220_599 : ins 220 599 = some (.invokevirtual 72, 2, 0, [(9, 267)], none) := (L_220_9 599 rfl).trans rfl
theorem I_220_602 : ins 220 602 = some (.aload_n 2, 0, 0, [], none) := (L_220_9 602 rfl).trans rfl
theorem I_220_603 : ins 220 603 = some (.aload_n 0, 0, 0, [], none) := (L_220_9 603 rfl).trans rfl
theorem I_220_604 : ins 220 604 = some (.iload_n 3, 0, 0, [], none) := (L_220_9 604 rfl).trans rfl
theorem I_220_605 : ins 220 605 = some (.iconst 1, 0, 0, [], none) := (L_220_9 605 rfl).trans rfl
theorem I_220_606 : ins 220 606 = some (.iadd, 0, 0, [], none) := (L_220_9 606 rfl).trans rfl
theorem I_220_607 : ins 220 607 = some (.iaload, 0, 0, [], none) := (L_220_9 607 rfl).trans rfl
theorem I_220_608 : ins 220 608 = some (.aload_n 0, 0, 0, [], none) := (L_220_9 608 rfl).trans rfl
theorem I_220_609 : ins 220 609 = some (.iload_n 3, 0, 0, [], none) := (L_220_9 609 rfl).trans rfl
theorem I_220_610 : ins 220 610 = some (.iconst 2, 0, 0, [], none) := (L_220_9 610 rfl).trans rfl
theorem I_220_611 : ins 220 611 = some (.iadd, 0, 0, [], none) := (L_220_9 611 rfl).trans rfl
theorem I_220_612 : ins 220 612 = some (.iaload, 0, 0, [], none) := (L_220_9 612 rfl).trans rfl
theorem I_220_613 : ins 220 613 = some (.invokevirtual 75, 2, 0, [(10, 268)], none) := (L_220_9 613 rfl).trans rfl
theorem I_220_616 : ins 220 616 = some (.if_icmp .eq 598, 1214, 0, [], none) := (L_220_9 616 rfl).trans rfl
theorem I_220_619 : ins 220 619 = some (.iconst 0, 0, 0, [], some []) := (L_220_9 619 rfl).trans rfl
theorem I_220_620 : ins 220 620 = some (.ireturn, 0, 0, [], none) := (L_220_9 620 rfl).trans rfl
theorem I_220_621 : ins 220 621 = some (.aload_n 1, 0, 0, [], some [0, 1, 2, 3]) := (L_220_9 621 rfl).trans rfl
theorem I_220_622 : ins 220 622 = some (.aload_n 0, 0, 0, [], none) := (L_220_9 622 rfl).trans rfl
theorem I_220_623 : ins 220 623 = some (.iload_n 3, 0, 0, [], none) := (L_220_9 623 rfl).trans rfl
theorem I_220_624 : ins 220 624 = some (.iconst 1, 0, 0, [], none) := (L_220_9 624 rfl).trans rfl
theorem I_220_625 : ins 220 625 = some (.iadd, 0, 0, [], none) := (L_220_9 625 rfl).trans rfl
theorem I_220_626 : ins 220 626 = some (.iaload, 0, 0, [], none) := (L_220_9 626 rfl).trans rfl
theorem I_220_627 : ins 220 627 = some (.aload_n 0, 0, 0, [], none) := (L_220_9 627 rfl).trans rfl
theorem I_220_628 : ins 220 628 = some (.iload_n 3, 0, 0, [], none) := (L_220_9 628 rfl).trans rfl
theorem I_220_629 : ins 220 629 = some (.iconst 2, 0, 0, [], none) := (L_220_9 629 rfl).trans rfl
theorem I_220_630 : ins 220 630 = some (.iadd, 0, 0, [], none) := (L_220_9 630 rfl).trans rfl
theorem I_220_631 : ins 220 631 = some (.iaload, 0, 0, [], none) := (L_220_9 631 rfl).trans rfl
theorem I_220_632 : ins 220 632 = some (.aload_n 0, 0, 0, [], none) := (L_220_9 632 rfl).trans rfl
theorem I_220_633 : ins 220 633 = some (.iload_n 3, 0, 0, [], none) := (L_220_9 633 rfl).trans rfl
theorem I_220_634 : ins 220 634 = some (.iconst 3, 0, 0, [], none) := (L_220_9 634 rfl).trans rfl
theorem I_220_635 : ins 220 635 = some (.iadd, 0, 0, [], none) := (L_220_9 635 rfl).trans rfl
theorem I_220_636 : ins 220 636 = some (.iaload, 0, 0, [], none) := (L_220_9 636 rfl).trans rfl
theorem I_220_637 : ins 220 637 = some (.invokevirtual 76, 3, 0, [(9, 269)], none) := (L_220_9 637 rfl).trans rfl
theorem I_220_640 : ins 220 640 = some (.aload_n 2, 0, 0, [], none) := (L_220_9 640 rfl).trans rfl
theorem I_220_641 : ins 220 641 = some (.aload_n 0, 0, 0, [], none) := (L_220_9 641 rfl).trans rfl
theorem I_220_642 : ins 220 642 = some (.iload_n 3, 0, 0, [], none) := (L_220_9 642 rfl).trans rfl
theorem I_220_643 : ins 220 643 = some (.iconst 1, 0, 0, [], none) := (L_220_9 643 rfl).trans rfl
theorem I_220_644 : ins 220 644 = some (.iadd, 0, 0, [], none) := (L_220_9 644 rfl).trans rfl
theorem I_220_645 : ins 220 645 = some (.iaload, 0, 0, [], none) := (L_220_9 645 rfl).trans rfl
theorem I_220_646 : ins 220 646 = some (.aload_n 0, 0, 0, [], none) := (L_220_10 646 rfl).trans rfl
theorem I_220_647 : ins 220 647 = some (.iload_n 3, 0, 0, [], none) := (L_220_10 647 rfl).trans rfl
theorem I_220_648 : ins 220 648 = some (.iconst 2, 0, 0, [], none) := (L_220_10 648 rfl).trans rfl
theorem I_220_649 : ins 220 649 = some (.iadd, 0, 0, [], none) := (L_220_10 649 rfl).trans rfl
theorem I_220_650 : ins 220 650 = some (.iaload, 0, 0, [], none) := (L_220_10 650 rfl).trans rfl
theorem I_220_651 : ins 220 651 = some (.aload_n 0, 0, 0, [], none) := (L_220_10 651 rfl).trans rfl
theorem I_220_652 : ins 220 652 = some (.iload_n 3, 0, 0, [], none) := (L_220_10 652 rfl).trans rfl
theorem I_220_653 : ins 220 653 = some (.iconst 3, 0, 0, [], none) := (L_220_10 653 rfl).trans rfl
theorem I_220_654 : ins 220 654 = some (.iadd, 0, 0, [], none) := (L_220_10 654 rfl).trans rfl
theorem I_220_655 : ins 220 655 = some (.iaload, 0, 0, [], none) := (L_220_10 655 rfl).trans rfl
theorem I_220_656 : ins 220 656 = some (.invokevirtual 79, 3, 0, [(10, 270)], none) := (L_220_10 656 rfl).trans rfl
theorem I_220_659 : ins 220 659 = some (.if_icmp .eq 555, 1214, 0, [], none) := (L_220_10 659 rfl).trans rfl
theorem I_220_662 : ins 220 662 = some (.iconst 0, 0, 0, [], some []) := (L_220_10 662 rfl).trans rfl
theorem I_220_663 : ins 220 663 = some (.ireturn, 0, 0, [], none) := (L_220_10 663 rfl).trans rfl
theorem I_220_664 : ins 220 664 = some (.aload_n 1, 0, 0, [], some [0, 1, 2, 3]) := (L_220_10 664 rfl).trans rfl
theorem I_220_665 : ins 220 665 = some (.aload_n 0, 0, 0, [], none) := (L_220_10 665 rfl).trans rfl
theorem I_220_666 : ins 220 666 = some (.iload_n 3, 0, 0, [], none) := (L_220_10 666 rfl).trans rfl
theorem I_220_667 : ins 220 667 = some (.iconst 1, 0, 0, [], none) := (L_220_10 667 rfl).trans rfl
theorem I_220_668 : ins 220 668 = some (.iadd, 0, 0, [], none) := (L_220_10 668 rfl).trans rfl
theorem I_220_669 : ins 220 669 = some (.iaload, 0, 0, [], none) := (L_220_10 669 rfl).trans rfl
theorem I_220_670 : ins 220 670 = some (.aload_n 0, 0, 0, [], none) := (L_220_10 670 rfl).trans rfl
theorem I_220_671 : ins 220 671 = some (.iload_n 3, 0, 0, [], none) := (L_220_10 671 rfl).trans rfl
theorem I_220_672 : ins 220 672 = some (.iconst 2, 0, 0, [], none) := (L_220_10 672 rfl).trans rfl
theorem I_220_673 : ins 220 673 = some (.iadd, 0, 0, [], none) := (L_220_10 673 rfl).trans rfl
theorem I_220_674 : ins 220 674 = some (.iaload, 0, 0, [], none) := (L_220_10 674 rfl).trans rfl
theorem I_220_675 : ins 220 675 = some (.invokevirtual 80, 2, 0, [(9, 271)], none) := (L_220_10 675 rfl).trans rfl
theorem I_220_678 : ins 220 678 = some (.aload_n 2, 0, 0, [], none) := (L_220_10 678 rfl).trans rfl
theorem I_220_679 : ins 220 679 = some (.aload_n 0, 0, 0, [], none) := (L_220_10 679 rfl).trans rfl
theorem I_220_680 : ins 220 680 = some (.iload_n 3, 0, 0, [], none) := (L_220_10 680 rfl).trans rfl
theorem I_220_681 : ins 220 681 = some (.iconst 1, 0, 0, [], none) := (L_220_10 681 rfl).trans rfl
theorem I_220_682 : ins 220 682 = some (.iadd, 0, 0, [], none) := (L_220_10 682 rfl).trans rfl
theorem I_220_683 : ins 220 683 = some (.iaload, 0, 0, [], none) := (L_220_10 683 rfl).trans rfl
theorem I_220_684 : ins 220 684 = some (.aload_n 0, 0, 0, [], none) := (L_220_10 684 rfl).trans rfl
theorem I_220_685 : ins 220 685 = some (.iload_n 3, 0, 0, [], none) := (L_220_10 685 rfl).trans rfl
theorem I_220_686 : ins 220 686 = some (.iconst 2, 0, 0, [], none) := (L_220_10 686 rfl).trans rfl
theorem I_220_687 : ins 220 687 = some (.iadd, 0, 0, [], none) := (L_220_10 687 rfl).trans rfl
theorem I_220_688 : ins 220 688 = some (.iaload, 0, 0, [], none) := (L_220_10 688 rfl).trans rfl
theorem I_220_689 : ins 220 689 = some (.invokevirtual 83, 2, 0, [(10, 272)], none) := (L_220_10 689 rfl).trans rfl
theorem I_220_692 : ins 220 692 = some (.if_icmp .eq 522, 1214, 0, [], none) := (L_220_10 692 rfl).trans rfl
theorem I_220_695 : ins 220 695 = some (.iconst 0, 0, 0, [], some []) := (L_220_10 695 rfl).trans rfl
theorem I_220_696 : ins 220 696 = some (.ireturn, 0, 0, [], none) := (L_220_11 696 rfl).trans rfl
theorem I_220_697 : ins 220 697 = some (.aload_n 1, 0, 0, [], some [0, 1, 2, 3]) := (L_220_11 697 rfl).trans rfl
theorem I_220_698 : ins 220 698 = some (.aload_n 0, 0, 0, [], none) := (L_220_11 698 rfl).trans rfl
theorem I_220_699 : ins 220 699 = some (.iload_n 3, 0, 0, [], none) := (L_220_11 699 rfl).trans rfl
theorem I_220_700 : ins 220 700 = some (.iconst 1, 0, 0, [], none) := (L_220_11 700 rfl).trans rfl
theorem I_220_701 : ins 220 701 = some (.iadd, 0, 0, [], none) := (L_220_11 701 rfl).trans rfl
theorem I_220_702 : ins 220 702 = some (.iaload, 0, 0, [], none) := (L_220_11 702 rfl).trans rfl
theorem I_220_703 : ins 220 703 = some (.aload_n 0, 0, 0, [], none) := (L_220_11 703 rfl).trans rfl
theorem I_220_704 : ins 220 704 = some (.iload_n 3, 0, 0, [], none) := (L_220_11 704 rfl).trans rfl
theorem I_220_705 : ins 220 705 = some (.iconst 2, 0, 0, [], none) := (L_220_11 705 rfl).trans rfl
theorem I_220_706 : ins 220 706 = some (.iadd, 0, 0, [], none) := (L_220_11 706 rfl).trans rfl
theorem I_220_707 : ins 220 707 = some (.iaload, 0, 0, [], none) := (L_220_11 707 rfl).trans rfl
theorem I_220_708 : ins 220 708 = some (.aload_n 0, 0, 0, [], none) := (L_220_11 708 rfl).trans rfl
theorem I_220_709 : ins 220 709 = some (.iload_n 3, 0, 0, [], none) := (L_220_11 709 rfl).trans rfl
theorem I_220_710 : ins 220 710 = some (.iconst 3, 0, 0, [], none) := (L_220_11 710 rfl).trans rfl
theorem I_220_711 : ins 220 711 = some (.iadd, 0, 0, [], none) := (L_220_11 711 rfl).trans rfl
theorem I_220_712 : ins 220 712 = some (.iaload, 0, 0, [], none) := (L_220_11 712 rfl).trans rfl
theorem I_220_713 : ins 220 713 = some (.invokevirtual 84, 3, 0, [(9, 273)], none) := (L_220_11 713 rfl).trans rfl
theorem I_220_716 : ins 220 716 = some (.aload_n 2, 0, 0, [], none) := (L_220_11 716 rfl).trans rfl
theorem I_220_717 : ins 220 717 = some (.aload_n 0, 0, 0, [], none) := (L_220_11 717 rfl).trans rfl
theorem I_220_718 : ins 220 718 = some (.iload_n 3, 0, 0, [], none) := (L_220_11 718 rfl).trans rfl
theorem I_220_719 : ins 220 719 = some (.iconst 1, 0, 0, [], none) := (L_220_11 719 rfl).trans rfl
theorem I_220_720 : ins 220 720 = some (.iadd, 0, 0, [], none) := (L_220_11 720 rfl).trans rfl
theorem I_220_721 : ins 220 721 = some (.iaload, 0, 0, [], none) := (L_220_11 721 rfl).trans rfl
theorem I_220_722 : ins 220 722 = some (.aload_n 0, 0, 0, [], none) := (L_220_11 722 rfl).trans rfl
theorem I_220_723 : ins 220 723 = some (.iload_n 3, 0, 0, [], none) := (L_220_11 723 rfl).trans rfl
theorem I_220_724 : ins 220 724 = some (.iconst 2, 0, 0, [], none) := (L_220_11 724 rfl).trans rfl
theorem I_220_725 : ins 220 725 = some (.iadd, 0, 0, [], none) := (L_220_11 725 rfl).trans rfl
theorem I_220_726 : ins 220 726 = some (.iaload, 0, 0, [], none) := (L_220_11 726 rfl).trans rfl
theorem I_220_727 : ins 220 727 = some (.aload_n 0, 0, 0, [], none) := (L_220_11 727 rfl).trans rfl
theorem I_220_728 : ins 220 728 = some (.iload_n 3, 0, 0, [], none) := (L_220_11 728 rfl).trans rfl
theorem I_220_729 : ins 220 729 = some (.iconst 3, 0, 0, [], none) := (L_220_11 729 rfl).trans rfl
theorem I_220_730 : ins 220 730 = some (.iadd, 0, 0, [], none) := (L_220_11 730 rfl).trans rfl
theorem I_220_731 : ins 220 731 = some (.iaload, 0, 0, [], none) := (L_220_11 731 rfl).trans rfl
theorem I_220_732 : ins 220 732 = some (.invokevirtual 87, 3, 0, [(10, 274)], none) := (L_220_11 732 rfl).trans rfl
theorem I_220_735 : ins 220 735 = some (.if_icmp .eq 479, 1214, 0, [], none) := (L_220_11 735 rfl).trans rfl
theorem I_220_738 : ins 220 738 = some (.iconst 0, 0, 0, [], some []) := (L_220_11 738 rfl).trans rfl
theorem I_220_739 : ins 220 739 = some (.ireturn, 0, 0, [], none) := (L_220_11 739 rfl).trans rfl
theorem I_220_740 : ins 220 740 = some (.aload_n 1, 0, 0, [], some [0, 1, 2, 3]) := (L_220_11 740 rfl).trans rfl
theorem I_220_741 : ins 220 741 = some (.invokevirtual 88, 0, 0, [(9, 275)], none) := (L_220_11 741 rfl).trans rfl
theorem I_220_744 : ins 220 744 = some (.aload_n 2, 0, 0, [], none) := (L_220_12 744 rfl).trans rfl
theorem I_220_745 : ins 220 745 = some (.invokevirtual 92, 0, 0, [(10, 276)], none) := (L_220_12 745 rfl).trans rfl
theorem I_220_748 : ins 220 748 = some (.if_icmp .eq 466, 1214, 0, [], none) := (L_220_12 748 rfl).trans rfl
theorem I_220_751 : ins 220 751 = some (.iconst 0, 0, 0, [], some []) := (L_220_12 751 rfl).trans rfl
theorem I_220_752 : ins 220 752 = some (.ireturn, 0, 0, [], none) := (L_220_12 752 rfl).trans rfl
theorem I_220_753 : ins 220 753 = some (.aload_n 1, 0, 0, [], some [0, 1, 2, 3]) := (L_220_12 753 rfl).trans rfl
theorem I_220_754 : ins 220 754 = some (.aload_n 0, 0, 0, [], none) := (L_220_12 754 rfl).trans rfl
theorem I_220_755 : ins 220 755 = some (.iload_n 3, 0, 0, [], none) := (L_220_12 755 rfl).trans rfl
theorem I_220_756 : ins 220 756 = some (.iconst 1, 0, 0, [], none) := (L_220_12 756 rfl).trans rfl
theorem I_220_757 : ins 220 757 = some (.iadd, 0, 0, [], none) := (L_220_12 757 rfl).trans rfl
theorem I_220_758 : ins 220 758 = some (.iaload, 0, 0, [], none) := (L_220_12 758 rfl).trans rfl
theorem I_220_759 : ins 220 759 = some (.invokevirtual 93, 1, 0, [(9, 277)], none) := (L_220_12 759 rfl).trans rfl
theorem I_220_762 : ins 220 762 = some (.aload_n 2, 0, 0, [], none) := (L_220_12 762 rfl).trans rfl
theorem I_220_763 : ins 220 763 = some (.aload_n 0, 0, 0, [], none) := (L_220_12 763 rfl).trans rfl
theorem I_220_764 : ins 220 764 = some (.iload_n 3, 0, 0, [], none) := (L_220_12 764 rfl).trans rfl
theorem I_220_765 : ins 220 765 = some (.iconst 1, 0, 0, [], none) := (L_220_12 765 rfl).trans rfl
theorem I_220_766 : ins 220 766 = some (.iadd, 0, 0, [], none) := (L_220_12 766 rfl).trans rfl
theorem I_220_767 : ins 220 767 = some (.iaload, 0, 0, [], none) := (L_220_12 767 rfl).trans rfl
theorem I_220_768 : ins 220 768 = some (.invokevirtual 96, 1, 0, [(10, 278)], none) := (L_220_12 768 rfl).trans rfl
theorem I_220_771 : ins 220 771 = some (.if_icmp .eq 443, 1214, 0, [], none) := (L_220_12 771 rfl).trans rfl
theorem I_220_774 : ins 220 774 = some (.iconst 0, 0, 0, [], some []) := (L_220_12 774 rfl).trans rfl
theorem I_220_775 : ins 220 775 = some (.ireturn, 0, 0, [], none) := (L_220_12 775 rfl).trans rfl
theorem I_220_776 : ins 220 776 = some (.aload_n 1, 0, 0, [], some [0, 1, 2, 3]) := (L_220_12 776 rfl).trans rfl
theorem I_220_777 : ins 220 777 = some (.aload_n 0, 0, 0, [], none) := (L_220_12 777 rfl).trans rfl
theorem I_220_778 : ins 220 778 = some (.iload_n 3, 0, 0, [], none) := (L_220_12 778 rfl).trans rfl
theorem I_220_779 : ins 220 779 = some (.iconst 1, 0, 0, [], none) := (L_220_12 779 rfl).trans rfl
theorem I_220_780 : ins 220 780 = some (.iadd, 0, 0, [], none) := (L_220_12 780 rfl).trans rfl
theorem I_220_781 : ins 220 781 = some (.iaload, 0, 0, [], none) := (L_220_12 781 rfl).trans rfl
theorem I_220_782 : ins 220 782 = some (.invokevirtual 97, 1, 0, [(9, 279)], none) := (L_220_12 782 rfl).trans rfl
theorem I_220_785 : ins 220 785 = some (.aload_n 2, 0, 0, [], none) := (L_220_12 785 rfl).trans rfl
theorem I_220_786 : ins 220 786 = some (.aload_n 0, 0, 0, [], none) := (L_220_12 786 rfl).trans rfl
theorem I_220_787 : ins 220 787 = some (.iload_n 3, 0, 0, [], none) := (L_220_12 787 rfl).trans rfl
theorem I_220_788 : ins 220 788 = some (.iconst 1, 0, 0, [], none) := (L_220_12 788 rfl).trans rfl
theorem I_220_789 : ins 220 789 = some (.iadd, 0, 0, [], none) := (L_220_12 789 rfl).trans rfl
theorem I_220_790 : ins 220 790 = some (.iaload, 0, 0, [], none) := (L_220_12 790 rfl).trans rfl
theorem I_220_791 : ins 220 791 = some (.invokevirtual 100, 1, 0, [(10, 280)], none) := (L_220_12 791 rfl).trans rfl
theorem I_220_794 : ins 220 794 = some (.if_icmp .eq 420, 1214, 0, [], none) := (L_220_12 794 rfl).trans rfl
theorem I_220_797 : ins 220 797 = some (.iconst 0, 0, 0, [], some []) := (L_220_12 797 rfl).trans rfl
theorem I_220_798 : ins 220 798 = some (.ireturn, 0, 0, [], none) := (L_220_12 798 rfl).trans rfl
theorem I_220_799 : ins 220 799 = some (.aload_n 1, 0, 0, [], some [0, 1, 2, 3]) := (L_220_12 799 rfl).trans rfl
theorem I_220_800 : ins 220 800 = some (.aload_n 0, 0, 0, [], none) := (L_220_13 800 rfl).trans rfl
theorem I_220_801 : ins 220 801 = some (.iload_n 3, 0, 0, [], none) := (L_220_13 801 rfl).trans rfl
theorem I_220_802 : ins 220 802 = some (.iconst 1, 0, 0, [], none) := (L_220_13 802 rfl).trans rfl
theorem I_220_803 : ins 220 803 = some (.iadd, 0, 0, [], none) := (L_220_13 803 rfl).trans rfl
theorem I_220_804 : ins 220 804 = some (.iaload, 0, 0, [], none) := (L_220_13 804 rfl).trans rfl
theorem I_220_805 : ins 220 805 = some (.invokevirtual 101, 1, 0, [(9, 281)], none) := (L_220_13 805 rfl).trans rfl
theorem I_220_808 : ins 220 808 = some (.aload_n 2, 0, 0, [], none) := (L_220_13 808 rfl).trans rfl
theorem I_220_809 : ins 220 809 = some (.aload_n 0, 0, 0, [], none) := (L_220_13 809 rfl).trans rfl
theorem I_220_810 : ins 220 810 = some (.iload_n 3, 0, 0, [], none) := (L_220_13 810 rfl).trans rfl
theorem I_220_811 : ins 220 811 = some (.iconst 1, 0, 0, [], none) := (L_220_13 811 rfl).trans rfl
theorem I_220_812 : ins 220 812 = some (.iadd, 0, 0, [], none) := (L_220_13 812 rfl).trans rfl
theorem I_220_813 : ins 220 813 = some (.iaload, 0, 0, [], none) := (L_220_13 813 rfl).trans rfl
theorem I_220_814 : ins 220 814 = some (.invokevirtual 104, 1, 0, [(10, 282)], none) := (L_220_13 814 rfl).trans rfl
theorem I_220_817 : ins 220 817 = some (.if_icmp .eq 397, 1214, 0, [], none) := (L_220_13 817 rfl).trans rfl
theorem I_220_820 : ins 220 820 = some (.iconst 0, 0, 0, [], some []) := (L_220_13 820 rfl).trans rfl
theorem I_220_821 : ins 220 821 = some (.ireturn, 0, 0, [], none) := (L_220_13 821 rfl).trans rfl
theorem I_220_822 : ins 220 822 = some (.aload_n 1, 0, 0, [], some [0, 1, 2, 3]) := (L_220_13 822 rfl).trans rfl
theorem I_220_823 : ins 220 823 = some (.aload_n 0, 0, 0, [], none) := (L_220_13 823 rfl).trans rfl
theorem I_220_824 : ins 220 824 = some (.iload_n 3, 0, 0, [], none) := (L_220_13 824 rfl).trans rfl
theorem I_220_825 : ins 220 825 = some (.iconst 1, 0, 0, [], none) := (L_220_13 825 rfl).trans rfl
theorem I_220_826 : ins 220 826 = some (.iadd, 0, 0, [], none) := (L_220_13 826 rfl).trans rfl
theorem I_220_827 : ins 220 827 = some (.iaload, 0, 0, [], none) := (L_220_13 827 rfl).trans rfl
theorem I_220_828 : ins 220 828 = some (.aload_n 0, 0, 0, [], none) := (L_220_13 828 rfl).trans rfl
theorem I_220_829 : ins 220 829 = some (.iload_n 3, 0, 0, [], none) := (L_220_13 829 rfl).trans rfl
theorem I_220_830 : ins 220 830 = some (.iconst 2, 0, 0, [], none) := (L_220_13 830 rfl).trans rfl
theorem I_220_831 : ins 220 831 = some (.iadd, 0, 0, [], none) := (L_220_13 831 rfl).trans rfl
theorem I_220_832 : ins 220 832 = some (.iaload, 0, 0, [], none) := (L_220_13 832 rfl).trans rfl
theorem I_220_833 : ins 220 833 = some (.aload_n 0, 0, 0, [], none) := (L_220_13 833 rfl).trans rfl
theorem I_220_834 : ins 220 834 = some (.iload_n 3, 0, 0, [], none) := (L_220_13 834 rfl).trans rfl
theorem I_220_835 : ins 220 835 = some (.iconst 3, 0, 0, [], none) := (L_220_13 835 rfl).trans rfl
theorem I_220_836 : ins 220 836 = some (.iadd, 0, 0, [], none) := (L_220_13 836 rfl).trans rfl
theorem I_220_837 : ins 220 837 = some (.iaload, 0, 0, [], none) := (L_220_13 837 rfl).trans rfl
theorem I_220_838 : ins 220 838 = some (.aload_n 0, 0, 0, [], none) := (L_220_13 838 rfl).trans rfl
theorem I_220_839 : ins 220 839 = some (.iload_n 3, 0, 0, [], none) := (L_220_13 839 rfl).trans rfl
theorem I_220_840 : ins 220 840 = some (.iconst 4, 0, 0, [], none) := (L_220_13 840 rfl).trans rfl
theorem I_220_841 : ins 220 841 = some (.iadd, 0, 0, [], none) := (L_220_13 841 rfl).trans rfl
theorem I_220_842 : ins 220 842 = some (.iaload, 0, 0, [], none) := (L_220_13 842 rfl).trans rfl
theorem I_220_843 : ins 220 843 = some (.invokevirtual 105, 4, 0, [(9, 283)], none) := (L_220_13 843 rfl).trans rfl
theorem I_220_846 : ins 220 846 = some (.aload_n 2, 0, 0, [], none) := (L_220_13 846 rfl).trans rfl
theorem I_220_847 : ins 220 847 = some (.aload_n 0, 0, 0, [], none) := (L_220_13 847 rfl).trans rfl
theorem I_220_848 : ins 220 848 = some (.iload_n 3, 0, 0, [], none) := (L_220_14 848 rfl).trans rfl
theorem I_220_849 : ins 220 849 = some (.iconst 1, 0, 0, [], none) := (L_220_14 849 rfl).trans rfl
theorem I_220_850 : ins 220 850 = some (.iadd, 0, 0, [], none) := (L_220_14 850 rfl).trans rfl
theorem I_220_851 : ins 220 851 = some (.iaload, 0, 0, [], none) := (L_220_14 851 rfl).trans rfl
theorem I_220_852 : ins 220 852 = some (.aload_n 0, 0, 0, [], none) := (L_220_14 852 rfl).trans rfl
theorem I_220_853 : ins 220 853 = some (.iload_n 3, 0, 0, [], none) := (L_220_14 853 rfl).trans rfl
theorem I_220_854 : ins 220 854 = some (.iconst 2, 0, 0, [], none) := (L_220_14 854 rfl).trans rfl
theorem I_220_855 : ins 220 855 = some (.iadd, 0, 0, [], none) := (L_220_14 855 rfl).trans rfl
theorem I_220_856 : ins 220 856 = some (.iaload, 0, 0, [], none) := (L_220_14 856 rfl).trans rfl
theorem I_220_857 : ins 220 857 = some (.aload_n 0, 0, 0, [], none) := (L_220_14 857 rfl).trans rfl
theorem I_220_858 : ins 220 858 = some (.iload_n 3, 0, 0, [], none) := (L_220_14 858 rfl).trans rfl
theorem I_220_859 : ins 220 859 = some (.iconst 3, 0, 0, [], none) := (L_220_14 859 rfl).trans rfl
theorem I_220_860 : ins 220 860 = some (.iadd, 0, 0, [], none) := (L_220_14 860 rfl).trans rfl
theorem I_220_861 : ins 220 861 = some (.iaload, 0, 0, [], none) := (L_220_14 861 rfl).trans rfl
theorem I_220_862 : ins 220 862 = some (.aload_n 0, 0, 0, [], none) := (L_220_14 862 rfl).trans rfl
theorem I_220_863 : ins 220 863 = some (.iload_n 3, 0, 0, [], none) := (L_220_14 863 rfl).trans rfl
theorem I_220_864 : ins 220 864 = some (.iconst 4, 0, 0, [], none) := (L_220_14 864 rfl).trans rfl
theorem I_220_865 : ins 220 865 = some (.iadd, 0, 0, [], none) := (L_220_14 865 rfl).trans rfl
theorem I_220_866 : ins 220 866 = some (.iaload, 0, 0, [], none) := (L_220_14 866 rfl).trans rfl
theorem I_220_867 : ins 220 867 = some (.invokevirtual 109, 4, 0, [(10, 284)], none) := (L_220_14 867 rfl).trans rfl
theorem I_220_870 : ins 220 870 = some (.lcmp, 0, 0, [], none) := (L_220_14 870 rfl).trans rfl
theorem I_220_871 : ins 220 871 = some (.ifCond .eq 343, 1214, 0, [], none) := (L_220_14 871 rfl).trans rfl
theorem I_220_874 : ins 220 874 = some (.iconst 0, 0, 0, [], some []) := (L_220_14 874 rfl).trans rfl
theorem I_220_875 : ins 220 875 = some (.ireturn, 0, 0, [], none) := (L_220_14 875 rfl).trans rfl
theorem I_220_876 : ins 220 876 = some (.aload_n 1, 0, 0, [], some [0, 1, 2, 3]) := (L_220_14 876 rfl).trans rfl
theorem I_220_877 : ins 220 877 = some (.aload_n 0, 0, 0, [], none) := (L_220_14 877 rfl).trans rfl
theorem I_220_878 : ins 220 878 = some (.iload_n 3, 0, 0, [], none) := (L_220_14 878 rfl).trans rfl
theorem I_220_879 : ins 220 879 = some (.iconst 1, 0, 0, [], none) := (L_220_14 879 rfl).trans rfl
theorem I_220_880 : ins 220 880 = some (.iadd, 0, 0, [], none) := (L_220_14 880 rfl).trans rfl
theorem I_220_881 : ins 220 881 = some (.iaload, 0, 0, [], none) := (L_220_14 881 rfl).trans rfl
theorem I_220_882 : ins 220 882 = some (.aload_n 0, 0, 0, [], none) := (L_220_14 882 rfl).trans rfl
theorem I_220_883 : ins 220 883 = some (.iload_n 3, 0, 0, [], none) := (L_220_14 883 rfl).trans rfl
theorem I_220_884 : ins 220 884 = some (.iconst 2, 0, 0, [], none) := (L_220_14 884 rfl).trans rfl
theorem I_220_885 : ins 220 885 = some (.iadd, 0, 0, [], none) := (L_220_14 885 rfl).trans rfl
theorem I_220_886 : ins 220 886 = some (.iaload, 0, 0, [], none) := (L_220_14 886 rfl).trans rfl
theorem I_220_887 : ins 220 887 = some (.aload_n 0, 0, 0, [], none) := (L_220_14 887 rfl).trans rfl
theorem I_220_888 : ins 220 888 = some (.iload_n 3, 0, 0, [], none) := (L_220_14 888 rfl).trans rfl
theorem I_220_889 : ins 220 889 = some (.iconst 3, 0, 0, [], none) := (L_220_14 889 rfl).trans rfl
theorem I_220_890 : ins 220 890 = some (.iadd, 0, 0, [], none) := (L_220_14 890 rfl).trans rfl
theorem I_220_891 : ins 220 891 = some (.iaload, 0, 0, [], none) := (L_220_14 891 rfl).trans rfl
theorem I_220_892 : ins 220 892 = some (.invokevirtual 110, 3, 0, [(9, 285)], none) := (L_220_15 892 rfl).trans rfl
theorem I_220_895 : ins 220 895 = some (.aload_n 2, 0, 0, [], none) := (L_220_15 895 rfl).trans rfl
theorem I_220_896 : ins 220 896 = some (.aload_n 0, 0, 0, [], none) := (L_220_15 896 rfl).trans rfl
theorem I_220_897 : ins 220 897 = some (.iload_n 3, 0, 0, [], none) := (L_220_15 897 rfl).trans rfl
theorem I_220_898 : ins 220 898 = some (.iconst 1, 0, 0, [], none) := (L_220_15 898 rfl).trans rfl
theorem I_220_899 : ins 220 899 = some (.iadd, 0, 0, [], none) := (L_220_15 899 rfl).trans rfl
theorem I_220_900 : ins 220 900 = some (.iaload, 0, 0, [], none) := (L_220_15 900 rfl).trans rfl
theorem I_220_901 : ins 220 901 = some (.aload_n 0, 0, 0, [], none) := (L_220_15 901 rfl).trans rfl
theorem I_220_902 : ins 220 902 = some (.iload_n 3, 0, 0, [], none) := (L_220_15 902 rfl).trans rfl
theorem I_220_903 : ins 220 903 = some (.iconst 2, 0, 0, [], none) := (L_220_15 903 rfl).trans rfl
theorem I_220_904 : ins 220 904 = some (.iadd, 0, 0, [], none) := (L_220_15 904 rfl).trans rfl
theorem I_220_905 : ins 220 905 = some (.iaload, 0, 0, [], none) := (L_220_15 905 rfl).trans rfl
theorem I_220_906 : ins 220 906 = some (.aload_n 0, 0, 0, [], none) := (L_220_15 906 rfl).trans rfl
theorem I_220_907 : ins 220 907 = some (.iload_n 3, 0, 0, [], none) := (L_220_15 907 rfl).trans rfl
theorem I_220_908 : ins 220 908 = some (.iconst 3, 0, 0, [], none) := (L_220_15 908 rfl).trans rfl
theorem I_220_909 : ins 220 909 = some (.iadd, 0, 0, [], none) := (L_220_15 909 rfl).trans rfl
theorem I_220_910 : ins 220 910 = some (.iaload, 0, 0, [], none) := (L_220_15 910 rfl).trans rfl
theorem I_220_911 : ins 220 911 = some (.invokevirtual 113, 3, 0, [(10, 286)], none) := (L_220_15 911 rfl).trans rfl
theorem I_220_914 : ins 220 914 = some (.if_icmp .eq 300, 1214, 0, [], none) := (L_220_15 914 rfl).trans rfl
theorem I_220_917 : ins 220 917 = some (.iconst 0, 0, 0, [], some []) := (L_220_15 917 rfl).trans rfl
theorem I_220_918 : ins 220 918 = some (.ireturn, 0, 0, [], none) := (L_220_15 918 rfl).trans rfl
theorem I_220_919 : ins 220 919 = some (.aload_n 1, 0, 0, [], some [0, 1, 2, 3]) := (L_220_15 919 rfl).trans rfl
theorem I_220_920 : ins 220 920 = some (.aload_n 0, 0, 0, [], none) := (L_220_15 920 rfl).trans rfl
theorem I_220_921 : ins 220 921 = some (.iload_n 3, 0, 0, [], none) := (L_220_15 921 rfl).trans rfl
theorem I_220_922 : ins 220 922 = some (.iconst 1, 0, 0, [], none) := (L_220_15 922 rfl).trans rfl
theorem I_220_923 : ins 220 923 = some (.iadd, 0, 0, [], none) := (L_220_15 923 rfl).trans rfl
theorem I_220_924 : ins 220 924 = some (.iaload, 0, 0, [], none) := (L_220_15 924 rfl).trans rfl
theorem I_220_925 : ins 220 925 = some (.aload_n 0, 0, 0, [], none) := (L_220_15 925 rfl).trans rfl
theorem I_220_926 : ins 220 926 = some (.iload_n 3, 0, 0, [], none) := (L_220_15 926 rfl).trans rfl
theorem I_220_927 : ins 220 927 = some (.iconst 2, 0, 0, [], none) := (L_220_15 927 rfl).trans rfl
theorem I_220_928 : ins 220 928 = some (.iadd, 0, 0, [], none) := (L_220_15 928 rfl).trans rfl
theorem I_220_929 : ins 220 929 = some (.iaload, 0, 0, [], none) := (L_220_15 929 rfl).trans rfl
theorem I_220_930 : ins 220 930 = some (.aload_n 0, 0, 0, [], none) := (L_220_15 930 rfl).trans rfl
theorem I_220_931 : ins 220 931 = some (.iload_n 3, 0, 0, [], none) := (L_220_15 931 rfl).trans rfl
theorem I_220_932 : ins 220 932 = some (.iconst 3, 0, 0, [], none) := (L_220_15 932 rfl).trans rfl
theorem I_220_933 : ins 220 933 = some (.iadd, 0, 0, [], none) := (L_220_15 933 rfl).trans rfl
theorem I_220_934 : ins 220 934 = some (.iaload, 0, 0, [], none) := (L_220_15 934 rfl).trans rfl
theorem I_220_935 : ins 220 935 = some (.invokevirtual 114, 3, 0, [(9, 287)], none) := (L_220_15 935 rfl).trans rfl
theorem I_220_938 : ins 220 938 = some (.aload_n 2, 0, 0, [], none) := (L_220_15 938 rfl).trans rfl
theorem I_220_939 : ins 220 939 = some (.aload_n 0, 0, 0, [], none) := (L_220_15 939 rfl).trans rfl
theorem I_220_940 : ins 220 940 = some (.iload_n 3, 0, 0, [], none) := (L_220_16 940 rfl).trans rfl
theorem I_220_941 : ins 220 941 = some (.iconst 1, 0, 0, [], none) := (L_220_16 941 rfl).trans rfl
theorem I_220_942 : ins 220 942 = some (.iadd, 0, 0, [], none) := (L_220_16 942 rfl).trans rfl
theorem I_220_943 : ins 220 943 = some (.iaload, 0, 0, [], none) := (L_220_16 943 rfl).trans rfl
theorem I_220_944 : ins 220 944 = some (.aload_n 0, 0, 0, [], none) := (L_220_16 944 rfl).trans rfl
theorem I_220_945 : ins 220 945 = some (.iload_n 3, 0, 0, [], none) := (L_220_16 945 rfl).trans rfl
theorem I_220_946 : ins 220 946 = some (.iconst 2, 0, 0, [], none) := (L_220_16 946 rfl).trans rfl
theorem I_220_947 : ins 220 947 = some (.iadd, 0, 0, [], none) := (L_220_16 947 rfl).trans rfl
theorem I_220_948 : ins 220 948 = some (.iaload, 0, 0, [], none) := (L_220_16 948 rfl).trans rfl
theorem I_220_949 : ins 220 949 = some (.aload_n 0, 0, 0, [], none) := (L_220_16 949 rfl).trans rfl
theorem I_220_950 : ins 220 950 = some (.iload_n 3, 0, 0, [], none) := (L_220_16 950 rfl).trans rfl
theorem I_220_951 : ins 220 951 = some (.iconst 3, 0, 0, [], none) := (L_220_16 951 rfl).trans rfl
theorem I_220_952 : ins 220 952 = some (.iadd, 0, 0, [], none) := (L_220_16 952 rfl).trans rfl
theorem I_220_953 : ins 220 953 = some (.iaload, 0, 0, [], none) := (L_220_16 953 rfl).trans rfl
theorem I_220_954 : ins 220 954 = some (.invokevirtual 117, 3, 0, [(10, 288)], none) := (L_220_16 954 rfl).trans rfl
theorem I_220_957 : ins 220 957 = some (.if_icmp .eq 257, 1214, 0, [], none) := (L_220_16 957 rfl).trans rfl
theorem I_220_960 : ins 220 960 = some (.iconst 0, 0, 0, [], some []) := (L_220_16 960 rfl).trans rfl
theorem I_220_961 : ins 220 961 = some (.ireturn, 0, 0, [], none) := (L_220_16 961 rfl).trans rfl
theorem I_220_962 : ins 220 962 = some (.aload_n 1, 0, 0, [], some [0, 1, 2, 3]) := (L_220_16 962 rfl).trans rfl
theorem I_220_963 : ins 220 963 = some (.aload_n 0, 0, 0, [], none) := (L_220_16 963 rfl).trans rfl
theorem I_220_964 : ins 220 964 = some (.iload_n 3, 0, 0, [], none) := (L_220_16 964 rfl).trans rfl
theorem I_220_965 : ins 220 965 = some (.iconst 1, 0, 0, [], none) := (L_220_16 965 rfl).trans rfl
theorem I_220_966 : ins 220 966 = some (.iadd, 0, 0, [], none) := (L_220_16 966 rfl).trans rfl
theorem I_220_967 : ins 220 967 = some (.iaload, 0, 0, [], none) := (L_220_16 967 rfl).trans rfl
theorem I_220_968 : ins 220 968 = some (.invokevirtual 118, 1, 0, [(9, 289)], none) := (L_220_16 968 rfl).trans rfl
theorem I_220_971 : ins 220 971 = some (.aload_n 2, 0, 0, [], none) := (L_220_16 971 rfl).trans rfl
theorem I_220_972 : ins 220 972 = some (.aload_n 0, 0, 0, [], none) := (L_220_16 972 rfl).trans rfl
theorem I_220_973 : ins 220 973 = some (.iload_n 3, 0, 0, [], none) := (L_220_16 973 rfl).trans rfl
theorem I_220_974 : ins 220 974 = some (.iconst 1, 0, 0, [], none) := (L_220_16 974 rfl).trans rfl
theorem I_220_975 : ins 220 975 = some (.iadd, 0, 0, [], none) := (L_220_16 975 rfl).trans rfl
theorem I_220_976 : ins 220 976 = some (.iaload, 0, 0, [], none) := (L_220_16 976 rfl).trans rfl
theorem I_220_977 : ins 220 977 = some (.invokevirtual 121, 1, 0, [(10, 290)], none) := (L_220_16 977 rfl).trans rfl
theorem I_220_980 : ins 220 980 = some (.if_icmp .eq 234, 1214, 0, [], none) := (L_220_16 980 rfl).trans rfl
theorem I_220_983 : ins 220 983 = some (.iconst 0, 0, 0, [], some []) := (L_220_16 983 rfl).trans rfl
theorem I_220_984 : ins 220 984 = some (.ireturn, 0, 0, [], none) := (L_220_16 984 rfl).trans rfl
theorem I_220_985 : ins 220 985 = some (.aload_n 1, 0, 0, [], some [0, 1, 2, 3]) := (L_220_16 985 rfl).trans rfl
theorem I_220_986 : ins 220 986 = some (.aload_n 0, 0, 0, [], none) := (L_220_16 986 rfl).trans rfl
theorem I_220_987 : ins 220 987 = some (.iload_n 3, 0, 0, [], none) := (L_220_16 987 rfl).trans rfl
theorem I_220_988 : ins 220 988 = some (.iconst 1, 0, 0, [], none) := (L_220_16 988 rfl).trans rfl
theorem I_220_989 : ins 220 989 = some (.iadd, 0, 0, [], none) := (L_220_16 989 rfl).trans rfl
theorem I_220_990 : ins 220 990 = some (.iaload, 0, 0, [], none) := (L_220_17 990 rfl).trans rfl
theorem I_220_991 : ins 220 991 = some (.aload_n 0, 0, 0, [], none) := (L_220_17 991 rfl).trans rfl
theorem I_220_992 : ins 220 992 = some (.iload_n 3, 0, 0, [], none) := (L_220_17 992 rfl).trans rfl
theorem I_220_993 : ins 220 993 = some (.iconst 2, 0, 0, [], none) := (L_220_17 993 rfl).trans rfl
theorem I_220_994 : ins 220 994 = some (.iadd, 0, 0, [], none) := (L_220_17 994 rfl).trans rfl
theorem I_220_995 : ins 220 995 = some (.iaload, 0, 0, [], none) := (L_220_17 995 rfl).trans rfl
theorem I_220_996 : ins 220 996 = some (.aload_n 0, 0, 0, [], none) := (L_220_17 996 rfl).trans rfl
theorem I_220_997 : ins 220 997 = some (.iload_n 3, 0, 0, [], none) := (L_220_17 997 rfl).trans rfl
theorem I_220_998 : ins 220 998 = some (.iconst 3, 0, 0, [], none) := (L_220_17 998 rfl).trans rfl
theorem I_220_999 : ins 220 999 = some (.iadd, 0, 0, [], none) := (L_220_17 999 rfl).trans rfl
theorem I_220_1000 : ins 220 1000 = some (.iaload, 0, 0, [], none) := (L_220_17 1000 rfl).trans rfl
theorem I_220_1001 : ins 220 1001 = some (.aload_n 0, 0, 0, [], none) := (L_220_17 1001 rfl).trans rfl
theorem I_220_1002 : ins 220 1002 = some (.iload_n 3, 0, 0, [], none) := (L_220_17 1002 rfl).trans rfl
theorem I_220_1003 : ins 220 1003 = some (.iconst 4, 0, 0, [], none) := (L_220_17 1003 rfl).trans rfl
theorem I_220_1004 : ins 220 1004 = some (.iadd, 0, 0, [], none) := (L_220_17 1004 rfl).trans rfl
theorem I_220_1005 : ins 220 1005 = some (.iaload, 0, 0, [], none) := (L_220_17 1005 rfl).trans rfl
theorem I_220_1006 : ins 220 1006 = some (.invokevirtual 122, 4, 0, [(9, 291)], none) := (L_220_17 1006 rfl).trans rfl
theorem I_220_1009 : ins 220 1009 = some (.aload_n 2, 0, 0, [], none) := (L_220_17 1009 rfl).trans rfl
theorem I_220_1010 : ins 220 1010 = some (.aload_n 0, 0, 0, [], none) := (L_220_17 1010 rfl).trans rfl
theorem I_220_1011 : ins 220 1011 = some (.iload_n 3, 0, 0, [], none) := (L_220_17 1011 rfl).trans rfl
theorem I_220_1012 : ins 220 1012 = some (.iconst 1, 0, 0, [], none) := (L_220_17 1012 rfl).trans rfl
theorem I_220_1013 : ins 220 1013 = some (.iadd, 0, 0, [], none) := (L_220_17 1013 rfl).trans rfl
theorem I_220_1014 : ins 220 1014 = some (.iaload, 0, 0, [], none) := (L_220_17 1014 rfl).trans rfl
theorem I_220_1015 : ins 220 1015 = some (.aload_n 0, 0, 0, [], none) := (L_220_17 1015 rfl).trans rfl
theorem I_220_1016 : ins 220 1016 = some (.iload_n 3, 0, 0, [], none) := (L_220_17 1016 rfl).trans rfl
theorem I_220_1017 : ins 220 1017 = some (.iconst 2, 0, 0, [], none) := (L_220_17 1017 rfl).trans rfl
theorem I_220_1018 : ins 220 1018 = some (.iadd, 0, 0, [], none) := (L_220_17 1018 rfl).trans rfl
theorem I_220_1019 : ins 220 1019 = some (.iaload, 0, 0, [], none) := (L_220_17 1019 rfl).trans rfl
theorem I_220_1020 : ins 220 1020 = some (.aload_n 0, 0, 0, [], none) := (L_220_17 1020 rfl).trans rfl
theorem I_220_1021 : ins 220 1021 = some (.iload_n 3, 0, 0, [], none) := (L_220_17 1021 rfl).trans rfl
theorem I_220_1022 : ins 220 1022 = some (.iconst 3, 0, 0, [], none) := (L_220_17 1022 rfl).trans rfl
theorem I_220_1023 : ins 220 1023 = some (.iadd, 0, 0, [], none) := (L_220_17 1023 rfl).trans rfl
theorem I_220_1024 : ins 220 1024 = some (.iaload, 0, 0, [], none) := (L_220_17 1024 rfl).trans rfl
theorem I_220_1025 : ins 220 1025 = some (.aload_n 0, 0, 0, [], none) := (L_220_17 1025 rfl).trans rfl
theorem I_220_1026 : ins 220 1026 = some (.iload_n 3, 0, 0, [], none) := (L_220_17 1026 rfl).trans rfl
theorem I_220_1027 : ins 220 1027 = some (.iconst 4, 0, 0, [], none) := (L_220_17 1027 rfl).trans rfl
theorem I_220_1028 : ins 220 1028 = some (.iadd, 0, 0, [], none) := (L_220_17 1028 rfl).trans rfl
theorem I_220_1029 : ins 220 1029 = some (.iaload, 0, 0, [], none) := (L_220_17 1029 rfl).trans rfl
theorem I_220_1030 : ins 220 1030 = some (.invokevirtual 126, 4, 0, [(10, 292)], none) := (L_220_17 1030 rfl).trans rfl
theorem I_220_1033 : ins 220 1033 = some (.if_icmp .eq 181, 1214, 0, [], none) := (L_220_17 1033 rfl).trans rfl
theorem I_220_1036 : ins 220 1036 = some (.iconst 0, 0, 0, [], some []) := (L_220_18 1036 rfl).trans rfl
theorem I_220_1037 : ins 220 1037 = some (.ireturn, 0, 0, [], none) := (L_220_18 1037 rfl).trans rfl
theorem I_220_1038 : ins 220 1038 = some (.aload_n 1, 0, 0, [], some [0, 1, 2, 3]) := (L_220_18 1038 rfl).trans rfl
theorem I_220_1039 : ins 220 1039 = some (.aload_n 0, 0, 0, [], none) := (L_220_18 1039 rfl).trans rfl
theorem I_220_1040 : ins 220 1040 = some (.iload_n 3, 0, 0, [], none) := (L_220_18 1040 rfl).trans rfl
theorem I_220_1041 : ins 220 1041 = some (.iconst 1, 0, 0, [], none) := (L_220_18 1041 rfl).trans rfl
theorem I_220_1042 : ins 220 1042 = some (.iadd, 0, 0, [], none) := (L_220_18 1042 rfl).trans rfl
theorem I_220_1043 : ins 220 1043 = some (.iaload, 0, 0, [], none) := (L_220_18 1043 rfl).trans rfl
theorem I_220_1044 : ins 220 1044 = some (.aload_n 0, 0, 0, [], none) := (L_220_18 1044 rfl).trans rfl
theorem I_220_1045 : ins 220 1045 = some (.iload_n 3, 0, 0, [], none) := (L_220_18 1045 rfl).trans rfl
theorem I_220_1046 : ins 220 1046 = some (.iconst 2, 0, 0, [], none) := (L_220_18 1046 rfl).trans rfl
theorem I_220_1047 : ins 220 1047 = some (.iadd, 0, 0, [], none) := (L_220_18 1047 rfl).trans rfl
theorem I_220_1048 : ins 220 1048 = some (.iaload, 0, 0, [], none) := (L_220_18 1048 rfl).trans rfl
theorem I_220_1049 : ins 220 1049 = some (.aload_n 0, 0, 0, [], none) := (L_220_18 1049 rfl).trans rfl
theorem I_220_1050 : ins 220 1050 = some (.iload_n 3, 0, 0, [], none) := (L_220_18 1050 rfl).trans rfl
theorem I_220_1051 : ins 220 1051 = some (.iconst 3, 0, 0, [], none) := (L_220_18 1051 rfl).trans rfl
theorem I_220_1052 : ins 220 1052 = some (.iadd, 0, 0, [], none) := (L_220_18 1052 rfl).trans rfl
theorem I_220_1053 : ins 220 1053 = some (.iaload, 0, 0, [], none) := (L_220_18 1053 rfl).trans rfl
theorem I_220_1054 : ins 220 1054 = some (.invokevirtual 127, 3, 0, [(9, 293)], none) := (L_220_18 1054 rfl).trans rfl
theorem I_220_1057 : ins 220 1057 = some (.aload_n 2, 0, 0, [], none) := (L_220_18 1057 rfl).trans rfl
theorem I_220_1058 : ins 220 1058 = some (.aload_n 0, 0, 0, [], none) := (L_220_18 1058 rfl).trans rfl
theorem I_220_1059 : ins 220 1059 = some (.iload_n 3, 0, 0, [], none) := (L_220_18 1059 rfl).trans rfl
theorem I_220_1060 : ins 220 1060 = some (.iconst 1, 0, 0, [], none) := (L_220_18 1060 rfl).trans rfl
theorem I_220_1061 : ins 220 1061 = some (.iadd, 0, 0, [], none) := (L_220_18 1061 rfl).trans rfl
theorem I_220_1062 : ins 220 1062 = some (.iaload, 0, 0, [], none) := (L_220_18 1062 rfl).trans rfl
theorem I_220_1063 : ins 220 1063 = some (.aload_n 0, 0, 0, [], none) := (L_220_18 1063 rfl).trans rfl
theorem I_220_1064 : ins 220 1064 = some (.iload_n 3, 0, 0, [], none) := (L_220_18 1064 rfl).trans rfl
theorem I_220_1065 : ins 220 1065 = some (.iconst 2, 0, 0, [], none) := (L_220_18 1065 rfl).trans rfl
theorem I_220_1066 : ins 220 1066 = some (.iadd, 0, 0, [], none) := (L_220_18 1066 rfl).trans rfl
theorem I_220_1067 : ins 220 1067 = some (.iaload, 0, 0, [], none) := (L_220_18 1067 rfl).trans rfl
theorem I_220_1068 : ins 220 1068 = some (.aload_n 0, 0, 0, [], none) := (L_220_18 1068 rfl).trans rfl
theorem I_220_1069 : ins 220 1069 = some (.iload_n 3, 0, 0, [], none) := (L_220_18 1069 rfl).trans rfl
theorem I_220_1070 : ins 220 1070 = some (.iconst 3, 0, 0, [], none) := (L_220_18 1070 rfl).trans rfl
theorem I_220_1071 : ins 220 1071 = some (.iadd, 0, 0, [], none) := (L_220_18 1071 rfl).trans rfl
theorem I_220_1072 : ins 220 1072 = some (.iaload, 0, 0, [], none) := (L_220_18 1072 rfl).trans rfl
theorem I_220_1073 : ins 220 1073 = some (.invokevirtual 130, 3, 0, [(10, 294)], none) := (L_220_18 1073 rfl).trans rfl
theorem I_220_1076 : ins 220 1076 = some (.if_icmp .eq 138, 1214, 0, [], none) := (L_220_18 1076 rfl).trans rfl
theorem I_220_1079 : ins 220 1079 = some (.iconst 0, 0, 0, [], some []) := (L_220_18 1079 rfl).trans rfl
theorem I_220_1080 : ins 220 1080 = some (.ireturn, 0, 0, [], none) := (L_220_18 1080 rfl).trans rfl
theorem I_220_1081 : ins 220 1081 = some (.aload_n 1, 0, 0, [], some [0, 1, 2, 3]) := (L_220_18 1081 rfl).trans rfl
theorem I_220_1082 : ins 220 1082 = some (.aload_n 0, 0, 0, [], none) := (L_220_19 1082 rfl).trans rfl
theorem I_220_1083 : ins 220 1083 = some (.iload_n 3, 0, 0, [], none) := (L_220_19 1083 rfl).trans rfl
theorem I_220_1084 : ins 220 1084 = some (.iconst 1, 0, 0, [], none) := (L_220_19 1084 rfl).trans rfl
theorem I_220_1085 : ins 220 1085 = some (.iadd, 0, 0, [], none) := (L_220_19 1085 rfl).trans rfl
theorem I_220_1086 : ins 220 1086 = some (.iaload, 0, 0, [], none) := (L_220_19 1086 rfl).trans rfl
theorem I_220_1087 : ins 220 1087 = some (.aload_n 0, 0, 0, [], none) := (L_220_19 1087 rfl).trans rfl
theorem I_220_1088 : ins 220 1088 = some (.iload_n 3, 0, 0, [], none) := (L_220_19 1088 rfl).trans rfl
theorem I_220_1089 : ins 220 1089 = some (.iconst 2, 0, 0, [], none) := (L_220_19 1089 rfl).trans rfl
theorem I_220_1090 : ins 220 1090 = some (.iadd, 0, 0, [], none) := (L_220_19 1090 rfl).trans rfl
theorem I_220_1091 : ins 220 1091 = some (.iaload, 0, 0, [], none) := (L_220_19 1091 rfl).trans rfl
theorem I_220_1092 : ins 220 1092 = some (.aload_n 0, 0, 0, [], none) := (L_220_19 1092 rfl).trans rfl
theorem I_220_1093 : ins 220 1093 = some (.iload_n 3, 0, 0, [], none) := (L_220_19 1093 rfl).trans rfl
theorem I_220_1094 : ins 220 1094 = some (.iconst 3, 0, 0, [], none) := (L_220_19 1094 rfl).trans rfl
theorem I_220_1095 : ins 220 1095 = some (.iadd, 0, 0, [], none) := (L_220_19 1095 rfl).trans rfl
theorem I_220_1096 : ins 220 1096 = some (.iaload, 0, 0, [], none) := (L_220_19 1096 rfl).trans rfl
theorem I_220_1097 : ins 220 1097 = some (.aload_n 0, 0, 0, [], none) := (L_220_19 1097 rfl).trans rfl
theorem I_220_1098 : ins 220 1098 = some (.iload_n 3, 0, 0, [], none) := (L_220_19 1098 rfl).trans rfl
theorem I_220_1099 : ins 220 1099 = some (.iconst 4, 0, 0, [], none) := (L_220_19 1099 rfl).trans rfl
theorem I_220_1100 : ins 220 1100 = some (.iadd, 0, 0, [], none) := (L_220_19 1100 rfl).trans rfl
theorem I_220_1101 : ins 220 1101 = some (.iaload, 0, 0, [], none) := (L_220_19 1101 rfl).trans rfl
theorem I_220_1102 : ins 220 1102 = some (.aload_n 0, 0, 0, [], none) := (L_220_19 1102 rfl).trans rfl
theorem I_220_1103 : ins 220 1103 = some (.iload_n 3, 0, 0, [], none) := (L_220_19 1103 rfl).trans rfl
theorem I_220_1104 : ins 220 1104 = some (.iconst 5, 0, 0, [], none) := (L_220_19 1104 rfl).trans rfl
theorem I_220_1105 : ins 220 1105 = some (.iadd, 0, 0, [], none) := (L_220_19 1105 rfl).trans rfl
theorem I_220_1106 : ins 220 1106 = some (.iaload, 0, 0, [], none) := (L_220_19 1106 rfl).trans rfl
theorem I_220_1107 : ins 220 1107 = some (.invokevirtual 131, 5, 0, [(9, 295)], none) := (L_220_19 1107 rfl).trans rfl
theorem I_220_1110 : ins 220 1110 = some (.aload_n 2, 0, 0, [], none) := (L_220_19 1110 rfl).trans rfl
theorem I_220_1111 : ins 220 1111 = some (.aload_n 0, 0, 0, [], none) := (L_220_19 1111 rfl).trans rfl
theorem I_220_1112 : ins 220 1112 = some (.iload_n 3, 0, 0, [], none) := (L_220_19 1112 rfl).trans rfl
theorem I_220_1113 : ins 220 1113 = some (.iconst 1, 0, 0, [], none) := (L_220_19 1113 rfl).trans rfl
theorem I_220_1114 : ins 220 1114 = some (.iadd, 0, 0, [], none) := (L_220_19 1114 rfl).trans rfl
theorem I_220_1115 : ins 220 1115 = some (.iaload, 0, 0, [], none) := (L_220_19 1115 rfl).trans rfl
theorem I_220_1116 : ins 220 1116 = some (.aload_n 0, 0, 0, [], none) := (L_220_19 1116 rfl).trans rfl
theorem I_220_1117 : ins 220 1117 = some (.iload_n 3, 0, 0, [], none) := (L_220_19 1117 rfl).trans rfl
theorem I_220_1118 : ins 220 1118 = some (.iconst 2, 0, 0, [], none) := (L_220_19 1118 rfl).trans rfl
theorem I_220_1119 : ins 220 1119 = some (.iadd, 0, 0, [], none) := (L_220_19 1119 rfl).trans rfl
theorem I_220_1120 : ins 220 1120 = some (.iaload, 0, 0, [], none) := (L_220_19 1120 rfl).trans rfl
theorem I_220_1121 : ins 220 1121 = some (.aload_n 0, 0, 0, [], none) := (L_220_19 1121 rfl).trans rfl
theorem I_220_1122 : ins 220 1122 = some (.iload_n 3, 0, 0, [], none) := (L_220_19 1122 rfl).trans rfl
theorem I_220_1123 : ins 220 1123 = some (.iconst 3, 0, 0, [], none) := (L_220_19 1123 rfl).trans rfl
theorem I_220_1124 : ins 220 1124 = some (.iadd, 0, 0, [], none) := (L_220_20 1124 rfl).trans rfl
theorem I_220_1125 : ins 220 1125 = some (.iaload, 0, 0, [], none) := (L_220_20 1125 rfl).trans rfl
theorem I_220_1126 : ins 220 1126 = some (.aload_n 0, 0, 0, [], none) := (L_220_20 1126 rfl).trans rfl
theorem I_220_1127 : ins 220 1127 = some (.iload_n 3, 0, 0, [], none) := (L_220_20 1127 rfl).trans rfl
theorem I_220_1128 : ins 220 1128 = some (.iconst 4, 0, 0, [], none) := (L_220_20 1128 rfl).trans rfl
theorem I_220_1129 : ins 220 1129 = some (.iadd, 0, 0, [], none) := (L_220_20 1129 rfl).trans rfl
theorem I_220_1130 : ins 220 1130 = some (.iaload, 0, 0, [], none) := (L_220_20 1130 rfl).trans rfl
theorem I_220_1131 : ins 220 1131 = some (.aload_n 0, 0, 0, [], none) := (L_220_20 1131 rfl).trans rfl
theorem I_220_1132 : ins 220 1132 = some (.iload_n 3, 0, 0, [], none) := (L_220_20 1132 rfl).trans rfl
theorem I_220_1133 : ins 220 1133 = some (.iconst 5, 0, 0, [], none) := (L_220_20 1133 rfl).trans rfl
theorem I_220_1134 : ins 220 1134 = some (.iadd, 0, 0, [], none) := (L_220_20 1134 rfl).trans rfl
theorem I_220_1135 : ins 220 1135 = some (.iaload, 0, 0, [], none) := (L_220_20 1135 rfl).trans rfl
theorem I_220_1136 : ins 220 1136 = some (.invokevirtual 135, 5, 0, [(10, 296)], none) := (L_220_20 1136 rfl).trans rfl
theorem I_220_1139 : ins 220 1139 = some (.if_icmp .eq 75, 1214, 0, [], none) := (L_220_20 1139 rfl).trans rfl
theorem I_220_1142 : ins 220 1142 = some (.iconst 0, 0, 0, [], some []) := (L_220_20 1142 rfl).trans rfl
theorem I_220_1143 : ins 220 1143 = some (.ireturn, 0, 0, [], none) := (L_220_20 1143 rfl).trans rfl
theorem I_220_1144 : ins 220 1144 = some (.aload_n 1, 0, 0, [], some [0, 1, 2, 3]) := (L_220_20 1144 rfl).trans rfl
theorem I_220_1145 : ins 220 1145 = some (.aload_n 0, 0, 0, [], none) := (L_220_20 1145 rfl).trans rfl
theorem I_220_1146 : ins 220 1146 = some (.iload_n 3, 0, 0, [], none) := (L_220_20 1146 rfl).trans rfl
theorem I_220_1147 : ins 220 1147 = some (.iconst 1, 0, 0, [], none) := (L_220_20 1147 rfl).trans rfl
theorem I_220_1148 : ins 220 1148 = some (.iadd, 0, 0, [], none) := (L_220_20 1148 rfl).trans rfl
theorem I_220_1149 : ins 220 1149 = some (.iaload, 0, 0, [], none) := (L_220_20 1149 rfl).trans rfl
theorem I_220_1150 : ins 220 1150 = some (.aload_n 0, 0, 0, [], none) := (L_220_20 1150 rfl).trans rfl
theorem I_220_1151 : ins 220 1151 = some (.iload_n 3, 0, 0, [], none) := (L_220_20 1151 rfl).trans rfl
theorem I_220_1152 : ins 220 1152 = some (.iconst 2, 0, 0, [], none) := (L_220_20 1152 rfl).trans rfl
theorem I_220_1153 : ins 220 1153 = some (.iadd, 0, 0, [], none) := (L_220_20 1153 rfl).trans rfl
theorem I_220_1154 : ins 220 1154 = some (.iaload, 0, 0, [], none) := (L_220_20 1154 rfl).trans rfl
theorem I_220_1155 : ins 220 1155 = some (.invokevirtual 136, 2, 0, [(9, 297)], none) := (L_220_20 1155 rfl).trans rfl
theorem I_220_1158 : ins 220 1158 = some (.aload_n 2, 0, 0, [], none) := (L_220_20 1158 rfl).trans rfl
theorem I_220_1159 : ins 220 1159 = some (.aload_n 0, 0, 0, [], none) := (L_220_20 1159 rfl).trans rfl
theorem I_220_1160 : ins 220 1160 = some (.iload_n 3, 0, 0, [], none) := (L_220_20 1160 rfl).trans rfl
theorem I_220_1161 : ins 220 1161 = some (.iconst 1, 0, 0, [], none) := (L_220_20 1161 rfl).trans rfl
theorem I_220_1162 : ins 220 1162 = some (.iadd, 0, 0, [], none) := (L_220_20 1162 rfl).trans rfl
theorem I_220_1163 : ins 220 1163 = some (.iaload, 0, 0, [], none) := (L_220_20 1163 rfl).trans rfl
theorem I_220_1164 : ins 220 1164 = some (.aload_n 0, 0, 0, [], none) := (L_220_20 1164 rfl).trans rfl
theorem I_220_1165 : ins 220 1165 = some (.iload_n 3, 0, 0, [], none) := (L_220_20 1165 rfl).trans rfl
theorem I_220_1166 : ins 220 1166 = some (.iconst 2, 0, 0, [], none) := (L_220_20 1166 rfl).trans rfl
theorem I_220_1167 : ins 220 1167 = some (.iadd, 0, 0, [], none) := (L_220_20 1167 rfl).trans rfl
theorem I_220_1168 : ins 220 1168 = some (.iaload, 0, 0, [], none) := (L_220_20 1168 rfl).trans rfl
theorem I_220_1169 : ins 220 1169 = some (.invokevirtual 139, 2, 0, [(10, 298)], none) := (L_220_20 1169 rfl).trans rfl
theorem I_220_1172 : ins 220 1172 = some (.if_icmp .eq 42, 1214, 0, [], none) := (L_220_21 1172 rfl).trans rfl
theorem I_220_1175 : ins 220 1175 = some (.iconst 0, 0, 0, [], some []) := (L_220_21 1175 rfl).trans rfl
theorem I_220_1176 : ins 220 1176 = some (.ireturn, 0, 0, [], none) := (L_220_21 1176 rfl).trans rfl
theorem I_220_1177 : ins 220 1177 = some (.aload_n 1, 0, 0, [], some [0, 1, 2, 3]) := (L_220_21 1177 rfl).trans rfl
theorem I_220_1178 : ins 220 1178 = some (.aload_n 0, 0, 0, [], none) := (L_220_21 1178 rfl).trans rfl
theorem I_220_1179 : ins 220 1179 = some (.iload_n 3, 0, 0, [], none) := (L_220_21 1179 rfl).trans rfl
theorem I_220_1180 : ins 220 1180 = some (.iconst 1, 0, 0, [], none) := (L_220_21 1180 rfl).trans rfl
theorem I_220_1181 : ins 220 1181 = some (.iadd, 0, 0, [], none) := (L_220_21 1181 rfl).trans rfl
theorem I_220_1182 : ins 220 1182 = some (.iaload, 0, 0, [], none) := (L_220_21 1182 rfl).trans rfl
theorem I_220_1183 : ins 220 1183 = some (.invokevirtual 140, 1, 0, [(9, 299)], none) := (L_220_21 1183 rfl).trans rfl
theorem I_220_1186 : ins 220 1186 = some (.aload_n 2, 0, 0, [], none) := (L_220_21 1186 rfl).trans rfl
theorem I_220_1187 : ins 220 1187 = some (.aload_n 0, 0, 0, [], none) := (L_220_21 1187 rfl).trans rfl
theorem I_220_1188 : ins 220 1188 = some (.iload_n 3, 0, 0, [], none) := (L_220_21 1188 rfl).trans rfl
theorem I_220_1189 : ins 220 1189 = some (.iconst 1, 0, 0, [], none) := (L_220_21 1189 rfl).trans rfl
theorem I_220_1190 : ins 220 1190 = some (.iadd, 0, 0, [], none) := (L_220_21 1190 rfl).trans rfl
theorem I_220_1191 : ins 220 1191 = some (.iaload, 0, 0, [], none) := (L_220_21 1191 rfl).trans rfl
theorem I_220_1192 : ins 220 1192 = some (.invokevirtual 143, 1, 0, [(10, 300)], none) := (L_220_21 1192 rfl).trans rfl
theorem I_220_1195 : ins 220 1195 = some (.if_icmp .eq 19, 1214, 0, [], none) := (L_220_21 1195 rfl).trans rfl
theorem I_220_1198 : ins 220 1198 = some (.iconst 0, 0, 0, [], some []) := (L_220_21 1198 rfl).trans rfl
theorem I_220_1199 : ins 220 1199 = some (.ireturn, 0, 0, [], none) := (L_220_21 1199 rfl).trans rfl
theorem I_220_1200 : ins 220 1200 = some (.aload_n 1, 0, 0, [], some [0, 1, 2, 3]) := (L_220_21 1200 rfl).trans rfl
theorem I_220_1201 : ins 220 1201 = some (.invokevirtual 144, 0, 0, [(9, 301)], none) := (L_220_21 1201 rfl).trans rfl
theorem I_220_1204 : ins 220 1204 = some (.aload_n 2, 0, 0, [], none) := (L_220_21 1204 rfl).trans rfl
theorem I_220_1205 : ins 220 1205 = some (.invokevirtual 148, 0, 0, [(10, 302)], none) := (L_220_21 1205 rfl).trans rfl
theorem I_220_1208 : ins 220 1208 = some (.lcmp, 0, 0, [], none) := (L_220_21 1208 rfl).trans rfl
theorem I_220_1209 : ins 220 1209 = some (.ifCond .eq 5, 1214, 0, [], none) := (L_220_21 1209 rfl).trans rfl
theorem I_220_1212 : ins 220 1212 = some (.iconst 0, 0, 0, [], some []) := (L_220_21 1212 rfl).trans rfl
theorem I_220_1213 : ins 220 1213 = some (.ireturn, 0, 0, [], none) := (L_220_21 1213 rfl).trans rfl
theorem I_220_1214 : ins 220 1214 = some (.iinc 3 6, 0, 0, [], some [0, 1, 2, 3]) := (L_220_21 1214 rfl).trans rfl
theorem I_220_1217 : ins 220 1217 = some (.goto (-1199), 18, 0, [], none) := (L_220_21 1217 rfl).trans rfl
theorem I_220_1220 : ins 220 1220 = some (.iconst 1, 0, 0, [], some []) := (L_220_21 1220 rfl).trans rfl
theorem I_220_1221 : ins 220 1221 = some (.ireturn, 0, 0, [], none) := (L_220_21 1221 rfl).trans rfl
