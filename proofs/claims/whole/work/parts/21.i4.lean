/-! instructions -/
theorem L_162_0 (pc : Nat) : ins 162 pc = fnd (iT162_0 ++ (iT162_1)) pc := rfl
theorem L_162_1 (pc : Nat) (h : Nat.ble 68 pc = true) : ins 162 pc = fnd (iT162_1) pc := (L_162_0 pc).trans (fnd_app (lo := 68) rfl (Nat.le_of_ble_eq_true h))
theorem I_162_0 : ins 162 0 = some (.iload_n 1, 0, 0, [], none) := (L_162_0 0).trans rfl
theorem I_162_1 : ins 162 1 = some (.iconst 2, 0, 0, [], none) := (L_162_0 1).trans rfl
theorem I_162_2 : ins 162 2 = some (.if_icmp .ne 8, 10, 0, [], none) := (L_162_0 2).trans rfl
theorem I_162_5 : ins 162 5 = some (.aload_n 0, 0, 0, [], some [0]) := (L_162_0 5).trans rfl
theorem I_162_6 : ins 162 6 = some (.invokevirtual 124, 0, 0, [(10, 191)], none) := (L_162_0 6).trans rfl
theorem I_162_9 : ins 162 9 = some (.ireturn, 0, 0, [], none) := (L_162_0 9).trans rfl
theorem I_162_10 : ins 162 10 = some (.aload_n 0, 0, 0, [], some [0, 1]) := (L_162_0 10).trans rfl
theorem I_162_11 : ins 162 11 = some (.iconst 0, 0, 0, [], none) := (L_162_0 11).trans rfl
theorem I_162_12 : ins 162 12 = some (.putfield 108, 7, 0, [(10, 116)], none) := (L_162_0 12).trans rfl
theorem I_162_15 : ins 162 15 = some (.aload_n 0, 0, 0, [], none) := (L_162_0 15).trans rfl
theorem I_162_16 : ins 162 16 = some (.getfield 28, 8, 0, [(10, 102)], none) := (L_162_0 16).trans rfl
theorem I_162_19 : ins 162 19 = some (.iload_n 1, 0, 0, [], none) := (L_162_0 19).trans rfl
theorem I_162_20 : ins 162 20 = some (.iconst 0, 0, 0, [], none) := (L_162_0 20).trans rfl
theorem I_162_21 : ins 162 21 = some (.iastore, 0, 0, [], none) := (L_162_0 21).trans rfl
theorem I_162_22 : ins 162 22 = some (.aload_n 0, 0, 0, [], none) := (L_162_0 22).trans rfl
theorem I_162_23 : ins 162 23 = some (.getfield 25, 6, 0, [(10, 101)], none) := (L_162_0 23).trans rfl
theorem I_162_26 : ins 162 26 = some (.iload_n 1, 0, 0, [], none) := (L_162_0 26).trans rfl
theorem I_162_27 : ins 162 27 = some (.iaload, 0, 0, [], none) := (L_162_0 27).trans rfl
theorem I_162_28 : ins 162 28 = some (.ifCond .le 7, 35, 0, [], none) := (L_162_0 28).trans rfl
theorem I_162_31 : ins 162 31 = some (.iconst 1, 0, 0, [], some [0, 1]) := (L_162_0 31).trans rfl
theorem I_162_32 : ins 162 32 = some (.goto 4, 36, 0, [], none) := (L_162_0 32).trans rfl
theorem I_162_35 : ins 162 35 = some (.iconst 0, 0, 0, [], some [0, 1]) := (L_162_0 35).trans rfl
theorem I_162_36 : ins 162 36 = some (.istore_n 2, 0, 0, [], some [0, 1]) := (L_162_0 36).trans rfl
theorem I_162_37 : ins 162 37 = some (.iload_n 2, 0, 0, [], some [0, 1, 2]) := (L_162_0 37).trans rfl
theorem I_162_38 : ins 162 38 = some (.ifCond .eq 92, 130, 0, [], none) := (L_162_0 38).trans rfl
theorem I_162_41 : ins 162 41 = some (.aload_n 0, 0, 0, [], some [0, 1]) := (L_162_0 41).trans rfl
theorem I_162_42 : ins 162 42 = some (.iload_n 1, 0, 0, [], none) := (L_162_0 42).trans rfl
theorem I_162_43 : ins 162 43 = some (.invokevirtual 128, 1, 0, [(10, 192)], none) := (L_162_0 43).trans rfl
theorem I_162_46 : ins 162 46 = some (.istore_n 3, 0, 0, [], none) := (L_162_0 46).trans rfl
theorem I_162_47 : ins 162 47 = some (.iload_n 3, 0, 0, [], none) := (L_162_0 47).trans rfl
theorem I_162_48 : ins 162 48 = some (.ifCond .eq 20, 68, 0, [], none) := (L_162_0 48).trans rfl
theorem I_162_51 : ins 162 51 = some (.aload_n 0, 0, 0, [], some [0, 1, 3]) := (L_162_0 51).trans rfl
theorem I_162_52 : ins 162 52 = some (.getfield 108, 7, 0, [(10, 116)], none) := (L_162_0 52).trans rfl
theorem I_162_55 : ins 162 55 = some (.aload_n 0, 0, 0, [], none) := (L_162_0 55).trans rfl
theorem I_162_56 : ins 162 56 = some (.getfield 25, 6, 0, [(10, 101)], none) := (L_162_0 56).trans rfl
theorem I_162_59 : ins 162 59 = some (.iload_n 1, 0, 0, [], none) := (L_162_0 59).trans rfl
theorem I_162_60 : ins 162 60 = some (.iaload, 0, 0, [], none) := (L_162_0 60).trans rfl
theorem I_162_61 : ins 162 61 = some (.if_icmp .ge 7, 68, 0, [], none) := (L_162_0 61).trans rfl
theorem I_162_64 : ins 162 64 = some (.iconst 1, 0, 0, [], some [0, 1, 3]) := (L_162_0 64).trans rfl
theorem I_162_65 : ins 162 65 = some (.goto 4, 69, 0, [], none) := (L_162_0 65).trans rfl
theorem I_162_68 : ins 162 68 = some (.iconst 0, 0, 0, [], some [0, 1, 3]) := (L_162_1 68 rfl).trans rfl
theorem I_162_69 : ins 162 69 = some (.istore_n 2, 0, 0, [], some [0, 1, 3]) := (L_162_1 69 rfl).trans rfl
theorem I_162_70 : ins 162 70 = some (.iload_n 3, 0, 0, [], none) := (L_162_1 70 rfl).trans rfl
theorem I_162_71 : ins 162 71 = some (.ifCond .eq 26, 97, 0, [], none) := (L_162_1 71 rfl).trans rfl
theorem I_162_74 : ins 162 74 = some (.iload_n 2, 0, 0, [], some [0, 1, 2]) := (L_162_1 74 rfl).trans rfl
theorem I_162_75 : ins 162 75 = some (.ifCond .eq 34, 109, 0, [], none) := (L_162_1 75 rfl).trans rfl
theorem I_162_78 : ins 162 78 = some (.aload_n 0, 0, 0, [], some [0, 1, 2]) := (L_162_1 78 rfl).trans rfl
theorem I_162_79 : ins 162 79 = some (.getfield 22, 5, 0, [(10, 100)], none) := (L_162_1 79 rfl).trans rfl
theorem I_162_82 : ins 162 82 = some (.bipush 48, 0, 0, [], none) := (L_162_1 82 rfl).trans rfl
theorem I_162_84 : ins 162 84 = some (.iload_n 1, 0, 0, [], none) := (L_162_1 84 rfl).trans rfl
theorem I_162_85 : ins 162 85 = some (.imul, 0, 0, [], none) := (L_162_1 85 rfl).trans rfl
theorem I_162_86 : ins 162 86 = some (.aload_n 0, 0, 0, [], none) := (L_162_1 86 rfl).trans rfl
theorem I_162_87 : ins 162 87 = some (.getfield 108, 7, 0, [(10, 116)], none) := (L_162_1 87 rfl).trans rfl
theorem I_162_90 : ins 162 90 = some (.iadd, 0, 0, [], none) := (L_162_1 90 rfl).trans rfl
theorem I_162_91 : ins 162 91 = some (.iaload, 0, 0, [], none) := (L_162_1 91 rfl).trans rfl
theorem I_162_92 : ins 162 92 = some (.bipush 59, 0, 0, [], none) := (L_162_1 92 rfl).trans rfl
theorem I_162_94 : ins 162 94 = some (.if_icmp .eq 15, 109, 0, [], none) := (L_162_1 94 rfl).trans rfl
theorem I_162_97 : ins 162 97 = some (.aload_n 0, 0, 0, [], some [0, 1]) := (L_162_1 97 rfl).trans rfl
theorem I_162_98 : ins 162 98 = some (.getfield 28, 8, 0, [(10, 102)], none) := (L_162_1 98 rfl).trans rfl
theorem I_162_101 : ins 162 101 = some (.iload_n 1, 0, 0, [], none) := (L_162_1 101 rfl).trans rfl
theorem I_162_102 : ins 162 102 = some (.iconst 0, 0, 0, [], none) := (L_162_1 102 rfl).trans rfl
theorem I_162_103 : ins 162 103 = some (.iastore, 0, 0, [], none) := (L_162_1 103 rfl).trans rfl
theorem I_162_104 : ins 162 104 = some (.aload_n 0, 0, 0, [], none) := (L_162_1 104 rfl).trans rfl
theorem I_162_105 : ins 162 105 = some (.getfield 108, 7, 0, [(10, 116)], none) := (L_162_1 105 rfl).trans rfl
theorem I_162_108 : ins 162 108 = some (.ireturn, 0, 0, [], none) := (L_162_1 108 rfl).trans rfl
theorem I_162_109 : ins 162 109 = some (.aload_n 0, 0, 0, [], some [0, 1, 2]) := (L_162_1 109 rfl).trans rfl
theorem I_162_110 : ins 162 110 = some (.dup, 0, 0, [], none) := (L_162_1 110 rfl).trans rfl
theorem I_162_111 : ins 162 111 = some (.getfield 108, 7, 0, [(10, 116)], none) := (L_162_1 111 rfl).trans rfl
theorem I_162_114 : ins 162 114 = some (.iload_n 2, 0, 0, [], none) := (L_162_1 114 rfl).trans rfl
theorem I_162_115 : ins 162 115 = some (.ifCond .eq 7, 122, 0, [], none) := (L_162_1 115 rfl).trans rfl
theorem I_162_118 : ins 162 118 = some (.iconst 1, 0, 0, [], some [0, 1, 2]) := (L_162_1 118 rfl).trans rfl
theorem I_162_119 : ins 162 119 = some (.goto 4, 123, 0, [], none) := (L_162_1 119 rfl).trans rfl
theorem I_162_122 : ins 162 122 = some (.iconst 0, 0, 0, [], some [0, 1, 2]) := (L_162_1 122 rfl).trans rfl
theorem I_162_123 : ins 162 123 = some (.iadd, 0, 0, [], some [0, 1, 2]) := (L_162_1 123 rfl).trans rfl
theorem I_162_124 : ins 162 124 = some (.putfield 108, 7, 0, [(10, 116)], none) := (L_162_1 124 rfl).trans rfl
theorem I_162_127 : ins 162 127 = some (.goto (-90), 37, 0, [], none) := (L_162_1 127 rfl).trans rfl
theorem I_162_130 : ins 162 130 = some (.iconst (-1), 0, 0, [], some []) := (L_162_1 130 rfl).trans rfl
theorem I_162_131 : ins 162 131 = some (.ireturn, 0, 0, [], none) := (L_162_1 131 rfl).trans rfl
theorem L_163_0 (pc : Nat) : ins 163 pc = fnd iT163 pc := rfl
theorem I_163_0 : ins 163 0 = some (.iconst 0, 0, 0, [], none) := (L_163_0 0).trans rfl
theorem I_163_1 : ins 163 1 = some (.istore_n 1, 0, 0, [], none) := (L_163_0 1).trans rfl
theorem I_163_2 : ins 163 2 = some (.iload_n 1, 0, 0, [], some [0, 1]) := (L_163_0 2).trans rfl
theorem I_163_3 : ins 163 3 = some (.iconst 3, 0, 0, [], none) := (L_163_0 3).trans rfl
theorem I_163_4 : ins 163 4 = some (.if_icmp .ge 15, 19, 0, [], none) := (L_163_0 4).trans rfl
theorem I_163_7 : ins 163 7 = some (.aload_n 0, 0, 0, [], some [0, 1]) := (L_163_0 7).trans rfl
theorem I_163_8 : ins 163 8 = some (.iload_n 1, 0, 0, [], none) := (L_163_0 8).trans rfl
theorem I_163_9 : ins 163 9 = some (.invokevirtual 131, 1, 0, [(10, 193)], none) := (L_163_0 9).trans rfl
theorem I_163_12 : ins 163 12 = some (.pop, 0, 0, [], none) := (L_163_0 12).trans rfl
theorem I_163_13 : ins 163 13 = some (.iinc 1 1, 0, 0, [], none) := (L_163_0 13).trans rfl
theorem I_163_16 : ins 163 16 = some (.goto (-14), 2, 0, [], none) := (L_163_0 16).trans rfl
theorem I_163_19 : ins 163 19 = some (.return_, 0, 0, [], some []) := (L_163_0 19).trans rfl
theorem L_164_0 (pc : Nat) : ins 164 pc = fnd iT164 pc := rfl
theorem I_164_0 : ins 164 0 = some (.iload_n 1, 0, 0, [], none) := (L_164_0 0).trans rfl
theorem I_164_1 : ins 164 1 = some (.invokestatic 98, 1, 0, [(0, 185)], none) := (L_164_0 1).trans rfl
theorem I_164_4 : ins 164 4 = some (.ifCond .eq 11, 15, 0, [], none) := (L_164_0 4).trans rfl
theorem I_164_7 : ins 164 7 = some (.aload_n 0, 0, 0, [], some [0, 1]) := (L_164_0 7).trans rfl
theorem I_164_8 : ins 164 8 = some (.iload_n 1, 0, 0, [], none) := (L_164_0 8).trans rfl
theorem I_164_9 : ins 164 9 = some (.invokevirtual 131, 1, 0, [(10, 193)], none) := (L_164_0 9).trans rfl
theorem I_164_12 : ins 164 12 = some (.goto 5, 17, 0, [], none) := (L_164_0 12).trans rfl
theorem I_164_15 : ins 164 15 = some (.bipush (-2), 0, 0, [], some []) := (L_164_0 15).trans rfl
theorem I_164_17 : ins 164 17 = some (.ireturn, 0, 0, [], some []) := (L_164_0 17).trans rfl
theorem L_165_0 (pc : Nat) : ins 165 pc = fnd iT165 pc := rfl
theorem I_165_0 : ins 165 0 = some (.iload_n 1, 0, 0, [], none) := (L_165_0 0).trans rfl
theorem I_165_1 : ins 165 1 = some (.i2l, 0, 0, [], none) := (L_165_0 1).trans rfl
theorem I_165_2 : ins 165 2 = some (.lconst 0, 0, 0, [], none) := (L_165_0 2).trans rfl
theorem I_165_3 : ins 165 3 = some (.aload_n 0, 0, 0, [], none) := (L_165_0 3).trans rfl
theorem I_165_4 : ins 165 4 = some (.getfield 28, 8, 0, [(10, 102)], none) := (L_165_0 4).trans rfl
theorem I_165_7 : ins 165 7 = some (.iconst 0, 0, 0, [], none) := (L_165_0 7).trans rfl
theorem I_165_8 : ins 165 8 = some (.iaload, 0, 0, [], none) := (L_165_0 8).trans rfl
theorem I_165_9 : ins 165 9 = some (.iconst 1, 0, 0, [], none) := (L_165_0 9).trans rfl
theorem I_165_10 : ins 165 10 = some (.isub, 0, 0, [], none) := (L_165_0 10).trans rfl
theorem I_165_11 : ins 165 11 = some (.i2l, 0, 0, [], none) := (L_165_0 11).trans rfl
theorem I_165_12 : ins 165 12 = some (.invokestatic 69, 3, 0, [(0, 180)], none) := (L_165_0 12).trans rfl
theorem I_165_15 : ins 165 15 = some (.ireturn, 0, 0, [], none) := (L_165_0 15).trans rfl
theorem L_166_0 (pc : Nat) : ins 166 pc = fnd iT166 pc := rfl
theorem I_166_0 : ins 166 0 = some (.iload_n 1, 0, 0, [], none) := (L_166_0 0).trans rfl
theorem I_166_1 : ins 166 1 = some (.i2l, 0, 0, [], none) := (L_166_0 1).trans rfl
theorem I_166_2 : ins 166 2 = some (.lconst 0, 0, 0, [], none) := (L_166_0 2).trans rfl
theorem I_166_3 : ins 166 3 = some (.aload_n 0, 0, 0, [], none) := (L_166_0 3).trans rfl
theorem I_166_4 : ins 166 4 = some (.getfield 28, 8, 0, [(10, 102)], none) := (L_166_0 4).trans rfl
theorem I_166_7 : ins 166 7 = some (.iconst 1, 0, 0, [], none) := (L_166_0 7).trans rfl
theorem I_166_8 : ins 166 8 = some (.iaload, 0, 0, [], none) := (L_166_0 8).trans rfl
theorem I_166_9 : ins 166 9 = some (.iconst 1, 0, 0, [], none) := (L_166_0 9).trans rfl
theorem I_166_10 : ins 166 10 = some (.isub, 0, 0, [], none) := (L_166_0 10).trans rfl
theorem I_166_11 : ins 166 11 = some (.i2l, 0, 0, [], none) := (L_166_0 11).trans rfl
theorem I_166_12 : ins 166 12 = some (.invokestatic 69, 3, 0, [(0, 180)], none) := (L_166_0 12).trans rfl
theorem I_166_15 : ins 166 15 = some (.ireturn, 0, 0, [], none) := (L_166_0 15).trans rfl
theorem L_167_0 (pc : Nat) : ins 167 pc = fnd iT167 pc := rfl
theorem I_167_0 : ins 167 0 = some (.iload_n 1, 0, 0, [], none) := (L_167_0 0).trans rfl
theorem I_167_1 : ins 167 1 = some (.i2l, 0, 0, [], none) := (L_167_0 1).trans rfl
theorem I_167_2 : ins 167 2 = some (.lconst 0, 0, 0, [], none) := (L_167_0 2).trans rfl
theorem I_167_3 : ins 167 3 = some (.aload_n 0, 0, 0, [], none) := (L_167_0 3).trans rfl
theorem I_167_4 : ins 167 4 = some (.getfield 28, 8, 0, [(10, 102)], none) := (L_167_0 4).trans rfl
theorem I_167_7 : ins 167 7 = some (.iconst 2, 0, 0, [], none) := (L_167_0 7).trans rfl
theorem I_167_8 : ins 167 8 = some (.iaload, 0, 0, [], none) := (L_167_0 8).trans rfl
theorem I_167_9 : ins 167 9 = some (.i2l, 0, 0, [], none) := (L_167_0 9).trans rfl
theorem I_167_10 : ins 167 10 = some (.invokestatic 69, 3, 0, [(0, 180)], none) := (L_167_0 10).trans rfl
theorem I_167_13 : ins 167 13 = some (.ireturn, 0, 0, [], none) := (L_167_0 13).trans rfl
theorem L_168_0 (pc : Nat) : ins 168 pc = fnd iT168 pc := rfl
theorem I_168_0 : ins 168 0 = some (.aload_n 0, 0, 0, [], none) := (L_168_0 0).trans rfl
theorem I_168_1 : ins 168 1 = some (.invokevirtual 134, 0, 0, [(10, 194)], none) := (L_168_0 1).trans rfl
theorem I_168_4 : ins 168 4 = some (.aload_n 0, 0, 0, [], none) := (L_168_0 4).trans rfl
theorem I_168_5 : ins 168 5 = some (.iload_n 1, 0, 0, [], none) := (L_168_0 5).trans rfl
theorem I_168_6 : ins 168 6 = some (.invokevirtual 137, 1, 0, [(10, 195)], none) := (L_168_0 6).trans rfl
theorem I_168_9 : ins 168 9 = some (.ifCond .eq 28, 37, 0, [], none) := (L_168_0 9).trans rfl
theorem I_168_12 : ins 168 12 = some (.iload_n 2, 0, 0, [], some [0, 1, 2]) := (L_168_0 12).trans rfl
theorem I_168_13 : ins 168 13 = some (.i2l, 0, 0, [], none) := (L_168_0 13).trans rfl
theorem I_168_14 : ins 168 14 = some (.lconst 0, 0, 0, [], none) := (L_168_0 14).trans rfl
theorem I_168_15 : ins 168 15 = some (.ldc2_w 77, 1041, 3, [], none) := (L_168_0 15).trans rfl
theorem I_168_18 : ins 168 18 = some (.invokestatic 69, 3, 0, [(0, 180)], none) := (L_168_0 18).trans rfl
theorem I_168_21 : ins 168 21 = some (.ifCond .eq 16, 37, 0, [], none) := (L_168_0 21).trans rfl
theorem I_168_24 : ins 168 24 = some (.aload_n 0, 0, 0, [], some [0, 1, 2]) := (L_168_0 24).trans rfl
theorem I_168_25 : ins 168 25 = some (.getfield 31, 9, 0, [(10, 103)], none) := (L_168_0 25).trans rfl
theorem I_168_28 : ins 168 28 = some (.iconst 4, 0, 0, [], none) := (L_168_0 28).trans rfl
theorem I_168_29 : ins 168 29 = some (.iload_n 1, 0, 0, [], none) := (L_168_0 29).trans rfl
theorem I_168_30 : ins 168 30 = some (.imul, 0, 0, [], none) := (L_168_0 30).trans rfl
theorem I_168_31 : ins 168 31 = some (.iload_n 2, 0, 0, [], none) := (L_168_0 31).trans rfl
theorem I_168_32 : ins 168 32 = some (.iadd, 0, 0, [], none) := (L_168_0 32).trans rfl
theorem I_168_33 : ins 168 33 = some (.iaload, 0, 0, [], none) := (L_168_0 33).trans rfl
theorem I_168_34 : ins 168 34 = some (.goto 5, 39, 0, [], none) := (L_168_0 34).trans rfl
theorem I_168_37 : ins 168 37 = some (.bipush (-2), 0, 0, [], some []) := (L_168_0 37).trans rfl
theorem I_168_39 : ins 168 39 = some (.ireturn, 0, 0, [], some []) := (L_168_0 39).trans rfl
theorem L_169_0 (pc : Nat) : ins 169 pc = fnd iT169 pc := rfl
theorem I_169_0 : ins 169 0 = some (.aload_n 0, 0, 0, [], none) := (L_169_0 0).trans rfl
theorem I_169_1 : ins 169 1 = some (.invokevirtual 134, 0, 0, [(10, 194)], none) := (L_169_0 1).trans rfl
theorem I_169_4 : ins 169 4 = some (.aload_n 0, 0, 0, [], none) := (L_169_0 4).trans rfl
theorem I_169_5 : ins 169 5 = some (.iload_n 1, 0, 0, [], none) := (L_169_0 5).trans rfl
theorem I_169_6 : ins 169 6 = some (.invokevirtual 140, 1, 0, [(10, 196)], none) := (L_169_0 6).trans rfl
theorem I_169_9 : ins 169 9 = some (.ifCond .eq 28, 37, 0, [], none) := (L_169_0 9).trans rfl
theorem I_169_12 : ins 169 12 = some (.iload_n 2, 0, 0, [], some [0, 1, 2]) := (L_169_0 12).trans rfl
theorem I_169_13 : ins 169 13 = some (.i2l, 0, 0, [], none) := (L_169_0 13).trans rfl
theorem I_169_14 : ins 169 14 = some (.lconst 0, 0, 0, [], none) := (L_169_0 14).trans rfl
theorem I_169_15 : ins 169 15 = some (.ldc2_w 77, 1041, 3, [], none) := (L_169_0 15).trans rfl
theorem I_169_18 : ins 169 18 = some (.invokestatic 69, 3, 0, [(0, 180)], none) := (L_169_0 18).trans rfl
theorem I_169_21 : ins 169 21 = some (.ifCond .eq 16, 37, 0, [], none) := (L_169_0 21).trans rfl
theorem I_169_24 : ins 169 24 = some (.aload_n 0, 0, 0, [], some [0, 1, 2]) := (L_169_0 24).trans rfl
theorem I_169_25 : ins 169 25 = some (.getfield 34, 10, 0, [(10, 104)], none) := (L_169_0 25).trans rfl
theorem I_169_28 : ins 169 28 = some (.iconst 4, 0, 0, [], none) := (L_169_0 28).trans rfl
theorem I_169_29 : ins 169 29 = some (.iload_n 1, 0, 0, [], none) := (L_169_0 29).trans rfl
theorem I_169_30 : ins 169 30 = some (.imul, 0, 0, [], none) := (L_169_0 30).trans rfl
theorem I_169_31 : ins 169 31 = some (.iload_n 2, 0, 0, [], none) := (L_169_0 31).trans rfl
theorem I_169_32 : ins 169 32 = some (.iadd, 0, 0, [], none) := (L_169_0 32).trans rfl
theorem I_169_33 : ins 169 33 = some (.iaload, 0, 0, [], none) := (L_169_0 33).trans rfl
theorem I_169_34 : ins 169 34 = some (.goto 5, 39, 0, [], none) := (L_169_0 34).trans rfl
theorem I_169_37 : ins 169 37 = some (.bipush (-2), 0, 0, [], some []) := (L_169_0 37).trans rfl
theorem I_169_39 : ins 169 39 = some (.ireturn, 0, 0, [], some []) := (L_169_0 39).trans rfl
theorem L_170_0 (pc : Nat) : ins 170 pc = fnd iT170 pc := rfl
theorem I_170_0 : ins 170 0 = some (.aload_n 0, 0, 0, [], none) := (L_170_0 0).trans rfl
theorem I_170_1 : ins 170 1 = some (.invokevirtual 134, 0, 0, [(10, 194)], none) := (L_170_0 1).trans rfl
theorem I_170_4 : ins 170 4 = some (.iload_n 1, 0, 0, [], none) := (L_170_0 4).trans rfl
theorem I_170_5 : ins 170 5 = some (.i2l, 0, 0, [], none) := (L_170_0 5).trans rfl
theorem I_170_6 : ins 170 6 = some (.lconst 0, 0, 0, [], none) := (L_170_0 6).trans rfl
theorem I_170_7 : ins 170 7 = some (.ldc2_w 143, 1148, 23, [], none) := (L_170_0 7).trans rfl
theorem I_170_10 : ins 170 10 = some (.invokestatic 69, 3, 0, [(0, 180)], none) := (L_170_0 10).trans rfl
theorem I_170_13 : ins 170 13 = some (.ifCond .ne 8, 21, 0, [], none) := (L_170_0 13).trans rfl
theorem I_170_16 : ins 170 16 = some (.bipush (-2), 0, 0, [], some []) := (L_170_0 16).trans rfl
theorem I_170_18 : ins 170 18 = some (.goto 23, 41, 0, [], none) := (L_170_0 18).trans rfl
theorem I_170_21 : ins 170 21 = some (.iload_n 1, 0, 0, [], some [0, 1]) := (L_170_0 21).trans rfl
theorem I_170_22 : ins 170 22 = some (.aload_n 0, 0, 0, [], none) := (L_170_0 22).trans rfl
theorem I_170_23 : ins 170 23 = some (.getfield 28, 8, 0, [(10, 102)], none) := (L_170_0 23).trans rfl
theorem I_170_26 : ins 170 26 = some (.iconst 2, 0, 0, [], none) := (L_170_0 26).trans rfl
theorem I_170_27 : ins 170 27 = some (.iaload, 0, 0, [], none) := (L_170_0 27).trans rfl
theorem I_170_28 : ins 170 28 = some (.if_icmp .ge 12, 40, 0, [], none) := (L_170_0 28).trans rfl
theorem I_170_31 : ins 170 31 = some (.aload_n 0, 0, 0, [], some [0, 1]) := (L_170_0 31).trans rfl
theorem I_170_32 : ins 170 32 = some (.getfield 37, 11, 0, [(10, 105)], none) := (L_170_0 32).trans rfl
theorem I_170_35 : ins 170 35 = some (.iload_n 1, 0, 0, [], none) := (L_170_0 35).trans rfl
theorem I_170_36 : ins 170 36 = some (.iaload, 0, 0, [], none) := (L_170_0 36).trans rfl
theorem I_170_37 : ins 170 37 = some (.goto 4, 41, 0, [], none) := (L_170_0 37).trans rfl
theorem I_170_40 : ins 170 40 = some (.iconst (-1), 0, 0, [], some []) := (L_170_0 40).trans rfl
theorem I_170_41 : ins 170 41 = some (.ireturn, 0, 0, [], some []) := (L_170_0 41).trans rfl
theorem L_171_0 (pc : Nat) : ins 171 pc = fnd iT171 pc := rfl
theorem I_171_0 : ins 171 0 = some (.iload_n 1, 0, 0, [], none) := (L_171_0 0).trans rfl
theorem I_171_1 : ins 171 1 = some (.invokestatic 145, 1, 0, [(0, 197)], none) := (L_171_0 1).trans rfl
theorem I_171_4 : ins 171 4 = some (.ifCond .eq 23, 27, 0, [], none) := (L_171_0 4).trans rfl
theorem I_171_7 : ins 171 7 = some (.iload_n 2, 0, 0, [], some [0, 1, 2]) := (L_171_0 7).trans rfl
theorem I_171_8 : ins 171 8 = some (.i2l, 0, 0, [], none) := (L_171_0 8).trans rfl
theorem I_171_9 : ins 171 9 = some (.lconst 0, 0, 0, [], none) := (L_171_0 9).trans rfl
theorem I_171_10 : ins 171 10 = some (.iload_n 1, 0, 0, [], none) := (L_171_0 10).trans rfl
theorem I_171_11 : ins 171 11 = some (.ifCond .ne 9, 20, 0, [], none) := (L_171_0 11).trans rfl
theorem I_171_14 : ins 171 14 = some (.ldc2_w 148, 1156, 40, [], some [0, 1, 2]) := (L_171_0 14).trans rfl
theorem I_171_17 : ins 171 17 = some (.goto 4, 21, 0, [], none) := (L_171_0 17).trans rfl
theorem I_171_20 : ins 171 20 = some (.lconst 1, 0, 0, [], some [0, 1, 2]) := (L_171_0 20).trans rfl
theorem I_171_21 : ins 171 21 = some (.invokestatic 69, 3, 0, [(0, 180)], some [0, 1, 2]) := (L_171_0 21).trans rfl
theorem I_171_24 : ins 171 24 = some (.ifCond .ne 6, 30, 0, [], none) := (L_171_0 24).trans rfl
theorem I_171_27 : ins 171 27 = some (.bipush (-2), 0, 0, [], some []) := (L_171_0 27).trans rfl
theorem I_171_29 : ins 171 29 = some (.ireturn, 0, 0, [], none) := (L_171_0 29).trans rfl
theorem I_171_30 : ins 171 30 = some (.aload_n 0, 0, 0, [], some [0, 1, 2]) := (L_171_0 30).trans rfl
theorem I_171_31 : ins 171 31 = some (.getfield 40, 12, 0, [(10, 106)], none) := (L_171_0 31).trans rfl
theorem I_171_34 : ins 171 34 = some (.iload_n 1, 0, 0, [], none) := (L_171_0 34).trans rfl
theorem I_171_35 : ins 171 35 = some (.iaload, 0, 0, [], none) := (L_171_0 35).trans rfl
theorem I_171_36 : ins 171 36 = some (.istore_n 3, 0, 0, [], none) := (L_171_0 36).trans rfl
theorem I_171_37 : ins 171 37 = some (.aload_n 0, 0, 0, [], none) := (L_171_0 37).trans rfl
theorem I_171_38 : ins 171 38 = some (.getfield 40, 12, 0, [(10, 106)], none) := (L_171_0 38).trans rfl
theorem I_171_41 : ins 171 41 = some (.iload_n 1, 0, 0, [], none) := (L_171_0 41).trans rfl
theorem I_171_42 : ins 171 42 = some (.iload_n 2, 0, 0, [], none) := (L_171_0 42).trans rfl
theorem I_171_43 : ins 171 43 = some (.iastore, 0, 0, [], none) := (L_171_0 43).trans rfl
theorem I_171_44 : ins 171 44 = some (.iload_n 3, 0, 0, [], none) := (L_171_0 44).trans rfl
theorem I_171_45 : ins 171 45 = some (.ireturn, 0, 0, [], none) := (L_171_0 45).trans rfl
theorem L_172_0 (pc : Nat) : ins 172 pc = fnd iT172 pc := rfl
theorem I_172_0 : ins 172 0 = some (.iconst 0, 0, 0, [], none) := (L_172_0 0).trans rfl
theorem I_172_1 : ins 172 1 = some (.istore_n 1, 0, 0, [], none) := (L_172_0 1).trans rfl
theorem I_172_2 : ins 172 2 = some (.iload_n 1, 0, 0, [], some [0, 1]) := (L_172_0 2).trans rfl
theorem I_172_3 : ins 172 3 = some (.aload_n 0, 0, 0, [], none) := (L_172_0 3).trans rfl
theorem I_172_4 : ins 172 4 = some (.getfield 28, 8, 0, [(10, 102)], none) := (L_172_0 4).trans rfl
theorem I_172_7 : ins 172 7 = some (.iconst 1, 0, 0, [], none) := (L_172_0 7).trans rfl
theorem I_172_8 : ins 172 8 = some (.iaload, 0, 0, [], none) := (L_172_0 8).trans rfl
theorem I_172_9 : ins 172 9 = some (.if_icmp .ge 65, 74, 0, [], none) := (L_172_0 9).trans rfl
theorem I_172_12 : ins 172 12 = some (.aload_n 0, 0, 0, [], some [0, 1]) := (L_172_0 12).trans rfl
theorem I_172_13 : ins 172 13 = some (.getfield 43, 13, 0, [(10, 107)], none) := (L_172_0 13).trans rfl
theorem I_172_16 : ins 172 16 = some (.iconst 3, 0, 0, [], none) := (L_172_0 16).trans rfl
theorem I_172_17 : ins 172 17 = some (.iload_n 1, 0, 0, [], none) := (L_172_0 17).trans rfl
theorem I_172_18 : ins 172 18 = some (.imul, 0, 0, [], none) := (L_172_0 18).trans rfl
theorem I_172_19 : ins 172 19 = some (.aload_n 0, 0, 0, [], none) := (L_172_0 19).trans rfl
theorem I_172_20 : ins 172 20 = some (.getfield 34, 10, 0, [(10, 104)], none) := (L_172_0 20).trans rfl
theorem I_172_23 : ins 172 23 = some (.iconst 4, 0, 0, [], none) := (L_172_0 23).trans rfl
theorem I_172_24 : ins 172 24 = some (.iload_n 1, 0, 0, [], none) := (L_172_0 24).trans rfl
theorem I_172_25 : ins 172 25 = some (.imul, 0, 0, [], none) := (L_172_0 25).trans rfl
theorem I_172_26 : ins 172 26 = some (.iaload, 0, 0, [], none) := (L_172_0 26).trans rfl
theorem I_172_27 : ins 172 27 = some (.iastore, 0, 0, [], none) := (L_172_0 27).trans rfl
theorem I_172_28 : ins 172 28 = some (.aload_n 0, 0, 0, [], none) := (L_172_0 28).trans rfl
theorem I_172_29 : ins 172 29 = some (.getfield 43, 13, 0, [(10, 107)], none) := (L_172_0 29).trans rfl
theorem I_172_32 : ins 172 32 = some (.iconst 3, 0, 0, [], none) := (L_172_0 32).trans rfl
theorem I_172_33 : ins 172 33 = some (.iload_n 1, 0, 0, [], none) := (L_172_0 33).trans rfl
theorem I_172_34 : ins 172 34 = some (.imul, 0, 0, [], none) := (L_172_0 34).trans rfl
theorem I_172_35 : ins 172 35 = some (.iconst 1, 0, 0, [], none) := (L_172_0 35).trans rfl
theorem I_172_36 : ins 172 36 = some (.iadd, 0, 0, [], none) := (L_172_0 36).trans rfl
theorem I_172_37 : ins 172 37 = some (.aload_n 0, 0, 0, [], none) := (L_172_0 37).trans rfl
theorem I_172_38 : ins 172 38 = some (.getfield 34, 10, 0, [(10, 104)], none) := (L_172_0 38).trans rfl
theorem I_172_41 : ins 172 41 = some (.iconst 4, 0, 0, [], none) := (L_172_0 41).trans rfl
theorem I_172_42 : ins 172 42 = some (.iload_n 1, 0, 0, [], none) := (L_172_0 42).trans rfl
theorem I_172_43 : ins 172 43 = some (.imul, 0, 0, [], none) := (L_172_0 43).trans rfl
theorem I_172_44 : ins 172 44 = some (.iconst 2, 0, 0, [], none) := (L_172_0 44).trans rfl
theorem I_172_45 : ins 172 45 = some (.iadd, 0, 0, [], none) := (L_172_0 45).trans rfl
theorem I_172_46 : ins 172 46 = some (.iaload, 0, 0, [], none) := (L_172_0 46).trans rfl
theorem I_172_47 : ins 172 47 = some (.iastore, 0, 0, [], none) := (L_172_0 47).trans rfl
theorem I_172_48 : ins 172 48 = some (.aload_n 0, 0, 0, [], none) := (L_172_0 48).trans rfl
theorem I_172_49 : ins 172 49 = some (.getfield 43, 13, 0, [(10, 107)], none) := (L_172_0 49).trans rfl
theorem I_172_52 : ins 172 52 = some (.iconst 3, 0, 0, [], none) := (L_172_0 52).trans rfl
theorem I_172_53 : ins 172 53 = some (.iload_n 1, 0, 0, [], none) := (L_172_0 53).trans rfl
theorem I_172_54 : ins 172 54 = some (.imul, 0, 0, [], none) := (L_172_0 54).trans rfl
theorem I_172_55 : ins 172 55 = some (.iconst 2, 0, 0, [], none) := (L_172_0 55).trans rfl
theorem I_172_56 : ins 172 56 = some (.iadd, 0, 0, [], none) := (L_172_0 56).trans rfl
theorem I_172_57 : ins 172 57 = some (.aload_n 0, 0, 0, [], none) := (L_172_0 57).trans rfl
theorem I_172_58 : ins 172 58 = some (.getfield 34, 10, 0, [(10, 104)], none) := (L_172_0 58).trans rfl
theorem I_172_61 : ins 172 61 = some (.iconst 4, 0, 0, [], none) := (L_172_0 61).trans rfl
theorem I_172_62 : ins 172 62 = some (.iload_n 1, 0, 0, [], none) := (L_172_0 62).trans rfl
theorem I_172_63 : ins 172 63 = some (.imul, 0, 0, [], none) := (L_172_0 63).trans rfl
theorem I_172_64 : ins 172 64 = some (.iconst 3, 0, 0, [], none) := (L_172_0 64).trans rfl
theorem I_172_65 : ins 172 65 = some (.iadd, 0, 0, [], none) := (L_172_0 65).trans rfl
theorem I_172_66 : ins 172 66 = some (.iaload, 0, 0, [], none) := (L_172_0 66).trans rfl
theorem I_172_67 : ins 172 67 = some (.iastore, 0, 0, [], none) := (L_172_0 67).trans rfl
theorem I_172_68 : ins 172 68 = some (.iinc 1 1, 0, 0, [], none) := (L_172_0 68).trans rfl
theorem I_172_71 : ins 172 71 = some (.goto (-69), 2, 0, [], none) := (L_172_0 71).trans rfl
theorem I_172_74 : ins 172 74 = some (.return_, 0, 0, [], some []) := (L_172_0 74).trans rfl
theorem L_173_0 (pc : Nat) : ins 173 pc = fnd iT173 pc := rfl
theorem I_173_0 : ins 173 0 = some (.iload_n 0, 0, 0, [], none) := (L_173_0 0).trans rfl
theorem I_173_1 : ins 173 1 = some (.ifCond .ne 7, 8, 0, [], none) := (L_173_0 1).trans rfl
theorem I_173_4 : ins 173 4 = some (.iconst 2, 0, 0, [], some []) := (L_173_0 4).trans rfl
theorem I_173_5 : ins 173 5 = some (.goto 13, 18, 0, [], none) := (L_173_0 5).trans rfl
theorem I_173_8 : ins 173 8 = some (.iload_n 0, 0, 0, [], some [0]) := (L_173_0 8).trans rfl
theorem I_173_9 : ins 173 9 = some (.iconst 2, 0, 0, [], none) := (L_173_0 9).trans rfl
theorem I_173_10 : ins 173 10 = some (.if_icmp .ne 7, 17, 0, [], none) := (L_173_0 10).trans rfl
theorem I_173_13 : ins 173 13 = some (.iconst 1, 0, 0, [], some []) := (L_173_0 13).trans rfl
theorem I_173_14 : ins 173 14 = some (.goto 4, 18, 0, [], none) := (L_173_0 14).trans rfl
theorem I_173_17 : ins 173 17 = some (.iconst 0, 0, 0, [], some []) := (L_173_0 17).trans rfl
theorem I_173_18 : ins 173 18 = some (.ireturn, 0, 0, [], some []) := (L_173_0 18).trans rfl
theorem L_174_0 (pc : Nat) : ins 174 pc = fnd (iT174_0 ++ (iT174_1 ++ (iT174_2))) pc := rfl
theorem L_174_1 (pc : Nat) (h : Nat.ble 84 pc = true) : ins 174 pc = fnd (iT174_1 ++ (iT174_2)) pc := (L_174_0 pc).trans (fnd_app (lo := 84) rfl (Nat.le_of_ble_eq_true h))
theorem L_174_2 (pc : Nat) (h : Nat.ble 141 pc = true) : ins 174 pc = fnd (iT174_2) pc := (L_174_1 pc (Nat.ble_eq.mpr (Nat.le_trans (Nat.le_of_ble_eq_true (rfl : Nat.ble 84 141 = true)) (Nat.le_of_ble_eq_true h)))).trans (fnd_app (lo := 141) rfl (Nat.le_of_ble_eq_true h))
theorem I_174_0 : ins 174 0 = some (.aload_n 0, 0, 0, [], none) := (L_174_0 0).trans rfl
theorem I_174_1 : ins 174 1 = some (.getfield 34, 10, 0, [(10, 104)], none) := (L_174_0 1).trans rfl
theorem I_174_4 : ins 174 4 = some (.iconst 4, 0, 0, [], none) := (L_174_0 4).trans rfl
theorem I_174_5 : ins 174 5 = some (.iload_n 1, 0, 0, [], none) := (L_174_0 5).trans rfl
theorem I_174_6 : ins 174 6 = some (.imul, 0, 0, [], none) := (L_174_0 6).trans rfl
theorem I_174_7 : ins 174 7 = some (.iconst 1, 0, 0, [], none) := (L_174_0 7).trans rfl
theorem I_174_8 : ins 174 8 = some (.iadd, 0, 0, [], none) := (L_174_0 8).trans rfl
theorem I_174_9 : ins 174 9 = some (.iaload, 0, 0, [], none) := (L_174_0 9).trans rfl
theorem I_174_10 : ins 174 10 = some (.istore_n 3, 0, 0, [], none) := (L_174_0 10).trans rfl
theorem I_174_11 : ins 174 11 = some (.aload_n 0, 0, 0, [], none) := (L_174_0 11).trans rfl
theorem I_174_12 : ins 174 12 = some (.getfield 43, 13, 0, [(10, 107)], none) := (L_174_0 12).trans rfl
theorem I_174_15 : ins 174 15 = some (.iconst 3, 0, 0, [], none) := (L_174_0 15).trans rfl
theorem I_174_16 : ins 174 16 = some (.iload_n 1, 0, 0, [], none) := (L_174_0 16).trans rfl
theorem I_174_17 : ins 174 17 = some (.imul, 0, 0, [], none) := (L_174_0 17).trans rfl
theorem I_174_18 : ins 174 18 = some (.iconst 2, 0, 0, [], none) := (L_174_0 18).trans rfl
theorem I_174_19 : ins 174 19 = some (.iadd, 0, 0, [], none) := (L_174_0 19).trans rfl
theorem I_174_20 : ins 174 20 = some (.iaload, 0, 0, [], none) := (L_174_0 20).trans rfl
theorem I_174_21 : ins 174 21 = some (.ifCond .ne 4, 25, 0, [], none) := (L_174_0 21).trans rfl
theorem I_174_24 : ins 174 24 = some (.return_, 0, 0, [], some []) := (L_174_0 24).trans rfl
theorem I_174_25 : ins 174 25 = some (.iload_n 2, 0, 0, [], some [0, 1, 2, 3]) := (L_174_0 25).trans rfl
theorem I_174_26 : ins 174 26 = some (.tableswitch 164 1 4 #[30, 164, 80, 117], 190, 0, [(1, 56), (2, 190), (3, 106), (4, 143)], none) := (L_174_0 26).trans rfl
theorem I_174_56 : ins 174 56 = some (.aload_n 0, 0, 0, [], some [0, 1, 3]) := (L_174_0 56).trans rfl
theorem I_174_57 : ins 174 57 = some (.getfield 43, 13, 0, [(10, 107)], none) := (L_174_0 57).trans rfl
theorem I_174_60 : ins 174 60 = some (.iconst 3, 0, 0, [], none) := (L_174_0 60).trans rfl
theorem I_174_61 : ins 174 61 = some (.iload_n 1, 0, 0, [], none) := (L_174_0 61).trans rfl
theorem I_174_62 : ins 174 62 = some (.imul, 0, 0, [], none) := (L_174_0 62).trans rfl
theorem I_174_63 : ins 174 63 = some (.dup2, 0, 0, [], none) := (L_174_0 63).trans rfl
theorem I_174_64 : ins 174 64 = some (.iaload, 0, 0, [], none) := (L_174_0 64).trans rfl
theorem I_174_65 : ins 174 65 = some (.iload_n 3, 0, 0, [], none) := (L_174_0 65).trans rfl
theorem I_174_66 : ins 174 66 = some (.ifCond .ne 17, 83, 0, [], none) := (L_174_0 66).trans rfl
theorem I_174_69 : ins 174 69 = some (.aload_n 0, 0, 0, [], some [0, 1]) := (L_174_0 69).trans rfl
theorem I_174_70 : ins 174 70 = some (.getfield 43, 13, 0, [(10, 107)], none) := (L_174_0 70).trans rfl
theorem I_174_73 : ins 174 73 = some (.iconst 3, 0, 0, [], none) := (L_174_0 73).trans rfl
theorem I_174_74 : ins 174 74 = some (.iload_n 1, 0, 0, [], none) := (L_174_0 74).trans rfl
theorem I_174_75 : ins 174 75 = some (.imul, 0, 0, [], none) := (L_174_0 75).trans rfl
theorem I_174_76 : ins 174 76 = some (.iaload, 0, 0, [], none) := (L_174_0 76).trans rfl
theorem I_174_77 : ins 174 77 = some (.bipush 10, 0, 0, [], none) := (L_174_0 77).trans rfl
theorem I_174_79 : ins 174 79 = some (.idiv, 0, 0, [], none) := (L_174_0 79).trans rfl
theorem I_174_80 : ins 174 80 = some (.goto 23, 103, 0, [], none) := (L_174_0 80).trans rfl
theorem I_174_83 : ins 174 83 = some (.iload_n 3, 0, 0, [], some [0, 1, 3]) := (L_174_0 83).trans rfl
theorem I_174_84 : ins 174 84 = some (.iconst 2, 0, 0, [], none) := (L_174_1 84 rfl).trans rfl
theorem I_174_85 : ins 174 85 = some (.if_icmp .ne 17, 102, 0, [], none) := (L_174_1 85 rfl).trans rfl
theorem I_174_88 : ins 174 88 = some (.aload_n 0, 0, 0, [], some [0, 1]) := (L_174_1 88 rfl).trans rfl
theorem I_174_89 : ins 174 89 = some (.getfield 43, 13, 0, [(10, 107)], none) := (L_174_1 89 rfl).trans rfl
theorem I_174_92 : ins 174 92 = some (.iconst 3, 0, 0, [], none) := (L_174_1 92 rfl).trans rfl
theorem I_174_93 : ins 174 93 = some (.iload_n 1, 0, 0, [], none) := (L_174_1 93 rfl).trans rfl
theorem I_174_94 : ins 174 94 = some (.imul, 0, 0, [], none) := (L_174_1 94 rfl).trans rfl
theorem I_174_95 : ins 174 95 = some (.iaload, 0, 0, [], none) := (L_174_1 95 rfl).trans rfl
theorem I_174_96 : ins 174 96 = some (.bipush 20, 0, 0, [], none) := (L_174_1 96 rfl).trans rfl
theorem I_174_98 : ins 174 98 = some (.idiv, 0, 0, [], none) := (L_174_1 98 rfl).trans rfl
theorem I_174_99 : ins 174 99 = some (.goto 4, 103, 0, [], none) := (L_174_1 99 rfl).trans rfl
theorem I_174_102 : ins 174 102 = some (.iconst 0, 0, 0, [], some []) := (L_174_1 102 rfl).trans rfl
theorem I_174_103 : ins 174 103 = some (.isub, 0, 0, [], some []) := (L_174_1 103 rfl).trans rfl
theorem I_174_104 : ins 174 104 = some (.iastore, 0, 0, [], none) := (L_174_1 104 rfl).trans rfl
theorem I_174_105 : ins 174 105 = some (.return_, 0, 0, [], none) := (L_174_1 105 rfl).trans rfl
theorem I_174_106 : ins 174 106 = some (.aload_n 0, 0, 0, [], some [0, 1, 3]) := (L_174_1 106 rfl).trans rfl
theorem I_174_107 : ins 174 107 = some (.getfield 43, 13, 0, [(10, 107)], none) := (L_174_1 107 rfl).trans rfl
theorem I_174_110 : ins 174 110 = some (.iconst 3, 0, 0, [], none) := (L_174_1 110 rfl).trans rfl
theorem I_174_111 : ins 174 111 = some (.iload_n 1, 0, 0, [], none) := (L_174_1 111 rfl).trans rfl
theorem I_174_112 : ins 174 112 = some (.imul, 0, 0, [], none) := (L_174_1 112 rfl).trans rfl
theorem I_174_113 : ins 174 113 = some (.iconst 1, 0, 0, [], none) := (L_174_1 113 rfl).trans rfl
theorem I_174_114 : ins 174 114 = some (.iadd, 0, 0, [], none) := (L_174_1 114 rfl).trans rfl
theorem I_174_115 : ins 174 115 = some (.dup2, 0, 0, [], none) := (L_174_1 115 rfl).trans rfl
theorem I_174_116 : ins 174 116 = some (.iaload, 0, 0, [], none) := (L_174_1 116 rfl).trans rfl
theorem I_174_117 : ins 174 117 = some (.iload_n 3, 0, 0, [], none) := (L_174_1 117 rfl).trans rfl
theorem I_174_118 : ins 174 118 = some (.iconst 1, 0, 0, [], none) := (L_174_1 118 rfl).trans rfl
theorem I_174_119 : ins 174 119 = some (.if_icmp .ne 20, 139, 0, [], none) := (L_174_1 119 rfl).trans rfl
theorem I_174_122 : ins 174 122 = some (.aload_n 0, 0, 0, [], some [0, 1]) := (L_174_1 122 rfl).trans rfl
theorem I_174_123 : ins 174 123 = some (.getfield 43, 13, 0, [(10, 107)], none) := (L_174_1 123 rfl).trans rfl
theorem I_174_126 : ins 174 126 = some (.iconst 3, 0, 0, [], none) := (L_174_1 126 rfl).trans rfl
theorem I_174_127 : ins 174 127 = some (.iload_n 1, 0, 0, [], none) := (L_174_1 127 rfl).trans rfl
theorem I_174_128 : ins 174 128 = some (.imul, 0, 0, [], none) := (L_174_1 128 rfl).trans rfl
theorem I_174_129 : ins 174 129 = some (.iconst 1, 0, 0, [], none) := (L_174_1 129 rfl).trans rfl
theorem I_174_130 : ins 174 130 = some (.iadd, 0, 0, [], none) := (L_174_1 130 rfl).trans rfl
theorem I_174_131 : ins 174 131 = some (.iaload, 0, 0, [], none) := (L_174_1 131 rfl).trans rfl
theorem I_174_132 : ins 174 132 = some (.ifCond .le 7, 139, 0, [], none) := (L_174_1 132 rfl).trans rfl
theorem I_174_135 : ins 174 135 = some (.iconst 1, 0, 0, [], some []) := (L_174_1 135 rfl).trans rfl
theorem I_174_136 : ins 174 136 = some (.goto 4, 140, 0, [], none) := (L_174_1 136 rfl).trans rfl
theorem I_174_139 : ins 174 139 = some (.iconst 0, 0, 0, [], some []) := (L_174_1 139 rfl).trans rfl
theorem I_174_140 : ins 174 140 = some (.isub, 0, 0, [], some []) := (L_174_1 140 rfl).trans rfl
theorem I_174_141 : ins 174 141 = some (.iastore, 0, 0, [], none) := (L_174_2 141 rfl).trans rfl
theorem I_174_142 : ins 174 142 = some (.return_, 0, 0, [], none) := (L_174_2 142 rfl).trans rfl
theorem I_174_143 : ins 174 143 = some (.aload_n 0, 0, 0, [], some [0, 1, 3]) := (L_174_2 143 rfl).trans rfl
theorem I_174_144 : ins 174 144 = some (.getfield 43, 13, 0, [(10, 107)], none) := (L_174_2 144 rfl).trans rfl
theorem I_174_147 : ins 174 147 = some (.iconst 3, 0, 0, [], none) := (L_174_2 147 rfl).trans rfl
theorem I_174_148 : ins 174 148 = some (.iload_n 1, 0, 0, [], none) := (L_174_2 148 rfl).trans rfl
theorem I_174_149 : ins 174 149 = some (.imul, 0, 0, [], none) := (L_174_2 149 rfl).trans rfl
theorem I_174_150 : ins 174 150 = some (.iconst 2, 0, 0, [], none) := (L_174_2 150 rfl).trans rfl
theorem I_174_151 : ins 174 151 = some (.iadd, 0, 0, [], none) := (L_174_2 151 rfl).trans rfl
theorem I_174_152 : ins 174 152 = some (.aload_n 0, 0, 0, [], none) := (L_174_2 152 rfl).trans rfl
theorem I_174_153 : ins 174 153 = some (.getfield 43, 13, 0, [(10, 107)], none) := (L_174_2 153 rfl).trans rfl
theorem I_174_156 : ins 174 156 = some (.iconst 3, 0, 0, [], none) := (L_174_2 156 rfl).trans rfl
theorem I_174_157 : ins 174 157 = some (.iload_n 1, 0, 0, [], none) := (L_174_2 157 rfl).trans rfl
theorem I_174_158 : ins 174 158 = some (.imul, 0, 0, [], none) := (L_174_2 158 rfl).trans rfl
theorem I_174_159 : ins 174 159 = some (.iconst 2, 0, 0, [], none) := (L_174_2 159 rfl).trans rfl
theorem I_174_160 : ins 174 160 = some (.iadd, 0, 0, [], none) := (L_174_2 160 rfl).trans rfl
theorem I_174_161 : ins 174 161 = some (.iaload, 0, 0, [], none) := (L_174_2 161 rfl).trans rfl
theorem I_174_162 : ins 174 162 = some (.iload_n 3, 0, 0, [], none) := (L_174_2 162 rfl).trans rfl
theorem I_174_163 : ins 174 163 = some (.invokestatic 150, 1, 0, [(0, 198)], none) := (L_174_2 163 rfl).trans rfl
theorem I_174_166 : ins 174 166 = some (.if_icmp .ge 7, 173, 0, [], none) := (L_174_2 166 rfl).trans rfl
theorem I_174_169 : ins 174 169 = some (.iconst 0, 0, 0, [], some []) := (L_174_2 169 rfl).trans rfl
theorem I_174_170 : ins 174 170 = some (.goto 18, 188, 0, [], none) := (L_174_2 170 rfl).trans rfl
theorem I_174_173 : ins 174 173 = some (.aload_n 0, 0, 0, [], some [0, 1, 3]) := (L_174_2 173 rfl).trans rfl
theorem I_174_174 : ins 174 174 = some (.getfield 43, 13, 0, [(10, 107)], none) := (L_174_2 174 rfl).trans rfl
theorem I_174_177 : ins 174 177 = some (.iconst 3, 0, 0, [], none) := (L_174_2 177 rfl).trans rfl
theorem I_174_178 : ins 174 178 = some (.iload_n 1, 0, 0, [], none) := (L_174_2 178 rfl).trans rfl
theorem I_174_179 : ins 174 179 = some (.imul, 0, 0, [], none) := (L_174_2 179 rfl).trans rfl
theorem I_174_180 : ins 174 180 = some (.iconst 2, 0, 0, [], none) := (L_174_2 180 rfl).trans rfl
theorem I_174_181 : ins 174 181 = some (.iadd, 0, 0, [], none) := (L_174_2 181 rfl).trans rfl
theorem I_174_182 : ins 174 182 = some (.iaload, 0, 0, [], none) := (L_174_2 182 rfl).trans rfl
theorem I_174_183 : ins 174 183 = some (.iload_n 3, 0, 0, [], none) := (L_174_2 183 rfl).trans rfl
theorem I_174_184 : ins 174 184 = some (.invokestatic 150, 1, 0, [(0, 198)], none) := (L_174_2 184 rfl).trans rfl
theorem I_174_187 : ins 174 187 = some (.isub, 0, 0, [], none) := (L_174_2 187 rfl).trans rfl
theorem I_174_188 : ins 174 188 = some (.iastore, 0, 0, [], some []) := (L_174_2 188 rfl).trans rfl
theorem I_174_189 : ins 174 189 = some (.return_, 0, 0, [], none) := (L_174_2 189 rfl).trans rfl
theorem I_174_190 : ins 174 190 = some (.return_, 0, 0, [], some []) := (L_174_2 190 rfl).trans rfl
theorem L_175_0 (pc : Nat) : ins 175 pc = fnd iT175 pc := rfl
theorem I_175_0 : ins 175 0 = some (.iconst 0, 0, 0, [], none) := (L_175_0 0).trans rfl
theorem I_175_1 : ins 175 1 = some (.istore_n 2, 0, 0, [], none) := (L_175_0 1).trans rfl
theorem I_175_2 : ins 175 2 = some (.iload_n 2, 0, 0, [], some [0, 1, 2]) := (L_175_0 2).trans rfl
theorem I_175_3 : ins 175 3 = some (.aload_n 0, 0, 0, [], none) := (L_175_0 3).trans rfl
theorem I_175_4 : ins 175 4 = some (.getfield 28, 8, 0, [(10, 102)], none) := (L_175_0 4).trans rfl
theorem I_175_7 : ins 175 7 = some (.iconst 1, 0, 0, [], none) := (L_175_0 7).trans rfl
theorem I_175_8 : ins 175 8 = some (.iaload, 0, 0, [], none) := (L_175_0 8).trans rfl
theorem I_175_9 : ins 175 9 = some (.if_icmp .ge 15, 24, 0, [], none) := (L_175_0 9).trans rfl
theorem I_175_12 : ins 175 12 = some (.aload_n 0, 0, 0, [], some [0, 1, 2]) := (L_175_0 12).trans rfl
theorem I_175_13 : ins 175 13 = some (.iload_n 2, 0, 0, [], none) := (L_175_0 13).trans rfl
theorem I_175_14 : ins 175 14 = some (.iload_n 1, 0, 0, [], none) := (L_175_0 14).trans rfl
theorem I_175_15 : ins 175 15 = some (.invokevirtual 153, 2, 0, [(10, 199)], none) := (L_175_0 15).trans rfl
theorem I_175_18 : ins 175 18 = some (.iinc 2 1, 0, 0, [], none) := (L_175_0 18).trans rfl
theorem I_175_21 : ins 175 21 = some (.goto (-19), 2, 0, [], none) := (L_175_0 21).trans rfl
theorem I_175_24 : ins 175 24 = some (.return_, 0, 0, [], some []) := (L_175_0 24).trans rfl
theorem L_176_0 (pc : Nat) : ins 176 pc = fnd iT176 pc := rfl
theorem I_176_0 : ins 176 0 = some (.bipush 10, 0, 0, [], none) := (L_176_0 0).trans rfl
theorem I_176_2 : ins 176 2 = some (.aload_n 0, 0, 0, [], none) := (L_176_0 2).trans rfl
theorem I_176_3 : ins 176 3 = some (.getfield 31, 9, 0, [(10, 103)], none) := (L_176_0 3).trans rfl
theorem I_176_6 : ins 176 6 = some (.iconst 4, 0, 0, [], none) := (L_176_0 6).trans rfl
theorem I_176_7 : ins 176 7 = some (.iload_n 2, 0, 0, [], none) := (L_176_0 7).trans rfl
theorem I_176_8 : ins 176 8 = some (.imul, 0, 0, [], none) := (L_176_0 8).trans rfl
theorem I_176_9 : ins 176 9 = some (.iaload, 0, 0, [], none) := (L_176_0 9).trans rfl
theorem I_176_10 : ins 176 10 = some (.imul, 0, 0, [], none) := (L_176_0 10).trans rfl
theorem I_176_11 : ins 176 11 = some (.istore_n 3, 0, 0, [], none) := (L_176_0 11).trans rfl
theorem I_176_12 : ins 176 12 = some (.aload_n 0, 0, 0, [], none) := (L_176_0 12).trans rfl
theorem I_176_13 : ins 176 13 = some (.getfield 43, 13, 0, [(10, 107)], none) := (L_176_0 13).trans rfl
theorem I_176_16 : ins 176 16 = some (.iconst 3, 0, 0, [], none) := (L_176_0 16).trans rfl
theorem I_176_17 : ins 176 17 = some (.iload_n 1, 0, 0, [], none) := (L_176_0 17).trans rfl
theorem I_176_18 : ins 176 18 = some (.imul, 0, 0, [], none) := (L_176_0 18).trans rfl
theorem I_176_19 : ins 176 19 = some (.iconst 2, 0, 0, [], none) := (L_176_0 19).trans rfl
theorem I_176_20 : ins 176 20 = some (.iadd, 0, 0, [], none) := (L_176_0 20).trans rfl
theorem I_176_21 : ins 176 21 = some (.iaload, 0, 0, [], none) := (L_176_0 21).trans rfl
theorem I_176_22 : ins 176 22 = some (.ifCond .le 56, 78, 0, [], none) := (L_176_0 22).trans rfl
theorem I_176_25 : ins 176 25 = some (.aload_n 0, 0, 0, [], some [0, 1, 2, 3]) := (L_176_0 25).trans rfl
theorem I_176_26 : ins 176 26 = some (.getfield 43, 13, 0, [(10, 107)], none) := (L_176_0 26).trans rfl
theorem I_176_29 : ins 176 29 = some (.iconst 3, 0, 0, [], none) := (L_176_0 29).trans rfl
theorem I_176_30 : ins 176 30 = some (.iload_n 1, 0, 0, [], none) := (L_176_0 30).trans rfl
theorem I_176_31 : ins 176 31 = some (.imul, 0, 0, [], none) := (L_176_0 31).trans rfl
theorem I_176_32 : ins 176 32 = some (.iaload, 0, 0, [], none) := (L_176_0 32).trans rfl
theorem I_176_33 : ins 176 33 = some (.i2l, 0, 0, [], none) := (L_176_0 33).trans rfl
theorem I_176_34 : ins 176 34 = some (.iload_n 3, 0, 0, [], none) := (L_176_0 34).trans rfl
theorem I_176_35 : ins 176 35 = some (.i2l, 0, 0, [], none) := (L_176_0 35).trans rfl
theorem I_176_36 : ins 176 36 = some (.iload_n 3, 0, 0, [], none) := (L_176_0 36).trans rfl
theorem I_176_37 : ins 176 37 = some (.aload_n 0, 0, 0, [], none) := (L_176_0 37).trans rfl
theorem I_176_38 : ins 176 38 = some (.getfield 40, 12, 0, [(10, 106)], none) := (L_176_0 38).trans rfl
theorem I_176_41 : ins 176 41 = some (.iconst 0, 0, 0, [], none) := (L_176_0 41).trans rfl
theorem I_176_42 : ins 176 42 = some (.iaload, 0, 0, [], none) := (L_176_0 42).trans rfl
theorem I_176_43 : ins 176 43 = some (.iadd, 0, 0, [], none) := (L_176_0 43).trans rfl
theorem I_176_44 : ins 176 44 = some (.i2l, 0, 0, [], none) := (L_176_0 44).trans rfl
theorem I_176_45 : ins 176 45 = some (.invokestatic 69, 3, 0, [(0, 180)], none) := (L_176_0 45).trans rfl
theorem I_176_48 : ins 176 48 = some (.ifCond .eq 30, 78, 0, [], none) := (L_176_0 48).trans rfl
theorem I_176_51 : ins 176 51 = some (.aload_n 0, 0, 0, [], some [0, 1, 2]) := (L_176_0 51).trans rfl
theorem I_176_52 : ins 176 52 = some (.getfield 43, 13, 0, [(10, 107)], none) := (L_176_0 52).trans rfl
theorem I_176_55 : ins 176 55 = some (.iconst 3, 0, 0, [], none) := (L_176_0 55).trans rfl
theorem I_176_56 : ins 176 56 = some (.iload_n 1, 0, 0, [], none) := (L_176_0 56).trans rfl
theorem I_176_57 : ins 176 57 = some (.imul, 0, 0, [], none) := (L_176_0 57).trans rfl
theorem I_176_58 : ins 176 58 = some (.iconst 1, 0, 0, [], none) := (L_176_0 58).trans rfl
theorem I_176_59 : ins 176 59 = some (.iadd, 0, 0, [], none) := (L_176_0 59).trans rfl
theorem I_176_60 : ins 176 60 = some (.iaload, 0, 0, [], none) := (L_176_0 60).trans rfl
theorem I_176_61 : ins 176 61 = some (.aload_n 0, 0, 0, [], none) := (L_176_0 61).trans rfl
theorem I_176_62 : ins 176 62 = some (.getfield 31, 9, 0, [(10, 103)], none) := (L_176_0 62).trans rfl
theorem I_176_65 : ins 176 65 = some (.iconst 4, 0, 0, [], none) := (L_176_0 65).trans rfl
theorem I_176_66 : ins 176 66 = some (.iload_n 2, 0, 0, [], none) := (L_176_0 66).trans rfl
theorem I_176_67 : ins 176 67 = some (.imul, 0, 0, [], none) := (L_176_0 67).trans rfl
theorem I_176_68 : ins 176 68 = some (.iconst 2, 0, 0, [], none) := (L_176_0 68).trans rfl
theorem I_176_69 : ins 176 69 = some (.iadd, 0, 0, [], none) := (L_176_0 69).trans rfl
theorem I_176_70 : ins 176 70 = some (.iaload, 0, 0, [], none) := (L_176_0 70).trans rfl
theorem I_176_71 : ins 176 71 = some (.if_icmp .lt 7, 78, 0, [], none) := (L_176_0 71).trans rfl
theorem I_176_74 : ins 176 74 = some (.iconst 1, 0, 0, [], some []) := (L_176_0 74).trans rfl
theorem I_176_75 : ins 176 75 = some (.goto 4, 79, 0, [], none) := (L_176_0 75).trans rfl
theorem I_176_78 : ins 176 78 = some (.iconst 0, 0, 0, [], some []) := (L_176_0 78).trans rfl
theorem I_176_79 : ins 176 79 = some (.ireturn, 0, 0, [], some []) := (L_176_0 79).trans rfl
theorem L_177_0 (pc : Nat) : ins 177 pc = fnd (iT177_0 ++ (iT177_1)) pc := rfl
theorem L_177_1 (pc : Nat) (h : Nat.ble 69 pc = true) : ins 177 pc = fnd (iT177_1) pc := (L_177_0 pc).trans (fnd_app (lo := 69) rfl (Nat.le_of_ble_eq_true h))
theorem I_177_0 : ins 177 0 = some (.iconst (-1), 0, 0, [], none) := (L_177_0 0).trans rfl
theorem I_177_1 : ins 177 1 = some (.istore_n 3, 0, 0, [], none) := (L_177_0 1).trans rfl
theorem I_177_2 : ins 177 2 = some (.iconst 0, 0, 0, [], none) := (L_177_0 2).trans rfl
theorem I_177_3 : ins 177 3 = some (.istore 4, 0, 0, [], none) := (L_177_0 3).trans rfl
theorem I_177_5 : ins 177 5 = some (.iload 4, 0, 0, [], some [0, 1, 2, 3, 4]) := (L_177_0 5).trans rfl
theorem I_177_7 : ins 177 7 = some (.aload_n 0, 0, 0, [], none) := (L_177_0 7).trans rfl
theorem I_177_8 : ins 177 8 = some (.getfield 28, 8, 0, [(10, 102)], none) := (L_177_0 8).trans rfl
theorem I_177_11 : ins 177 11 = some (.iconst 1, 0, 0, [], none) := (L_177_0 11).trans rfl
theorem I_177_12 : ins 177 12 = some (.iaload, 0, 0, [], none) := (L_177_0 12).trans rfl
theorem I_177_13 : ins 177 13 = some (.if_icmp .ge 72, 85, 0, [], none) := (L_177_0 13).trans rfl
theorem I_177_16 : ins 177 16 = some (.iload_n 2, 0, 0, [], some [0, 1, 2, 3, 4]) := (L_177_0 16).trans rfl
theorem I_177_17 : ins 177 17 = some (.iload 4, 0, 0, [], none) := (L_177_0 17).trans rfl
theorem I_177_19 : ins 177 19 = some (.invokestatic 157, 2, 0, [(0, 200)], none) := (L_177_0 19).trans rfl
theorem I_177_22 : ins 177 22 = some (.ifCond .ne 17, 39, 0, [], none) := (L_177_0 22).trans rfl
theorem I_177_25 : ins 177 25 = some (.aload_n 0, 0, 0, [], some [0, 1, 2, 3, 4]) := (L_177_0 25).trans rfl
theorem I_177_26 : ins 177 26 = some (.iload 4, 0, 0, [], none) := (L_177_0 26).trans rfl
theorem I_177_28 : ins 177 28 = some (.iload_n 1, 0, 0, [], none) := (L_177_0 28).trans rfl
theorem I_177_29 : ins 177 29 = some (.invokevirtual 161, 2, 0, [(10, 201)], none) := (L_177_0 29).trans rfl
theorem I_177_32 : ins 177 32 = some (.ifCond .eq 7, 39, 0, [], none) := (L_177_0 32).trans rfl
theorem I_177_35 : ins 177 35 = some (.iconst 1, 0, 0, [], some [0, 1, 2, 3, 4]) := (L_177_0 35).trans rfl
theorem I_177_36 : ins 177 36 = some (.goto 4, 40, 0, [], none) := (L_177_0 36).trans rfl
theorem I_177_39 : ins 177 39 = some (.iconst 0, 0, 0, [], some [0, 1, 2, 3, 4]) := (L_177_0 39).trans rfl
theorem I_177_40 : ins 177 40 = some (.istore 5, 0, 0, [], some [0, 1, 2, 3, 4]) := (L_177_0 40).trans rfl
theorem I_177_42 : ins 177 42 = some (.iload 5, 0, 0, [], none) := (L_177_0 42).trans rfl
theorem I_177_44 : ins 177 44 = some (.ifCond .eq 33, 77, 0, [], none) := (L_177_0 44).trans rfl
theorem I_177_47 : ins 177 47 = some (.iload_n 3, 0, 0, [], some [0, 1, 2, 3, 4]) := (L_177_0 47).trans rfl
theorem I_177_48 : ins 177 48 = some (.iconst (-1), 0, 0, [], none) := (L_177_0 48).trans rfl
theorem I_177_49 : ins 177 49 = some (.if_icmp .eq 23, 72, 0, [], none) := (L_177_0 49).trans rfl
theorem I_177_52 : ins 177 52 = some (.aload_n 0, 0, 0, [], some [0, 1, 2, 3, 4]) := (L_177_0 52).trans rfl
theorem I_177_53 : ins 177 53 = some (.getfield 43, 13, 0, [(10, 107)], none) := (L_177_0 53).trans rfl
theorem I_177_56 : ins 177 56 = some (.iconst 3, 0, 0, [], none) := (L_177_0 56).trans rfl
theorem I_177_57 : ins 177 57 = some (.iload 4, 0, 0, [], none) := (L_177_0 57).trans rfl
theorem I_177_59 : ins 177 59 = some (.imul, 0, 0, [], none) := (L_177_0 59).trans rfl
theorem I_177_60 : ins 177 60 = some (.iaload, 0, 0, [], none) := (L_177_0 60).trans rfl
theorem I_177_61 : ins 177 61 = some (.aload_n 0, 0, 0, [], none) := (L_177_0 61).trans rfl
theorem I_177_62 : ins 177 62 = some (.getfield 43, 13, 0, [(10, 107)], none) := (L_177_0 62).trans rfl
theorem I_177_65 : ins 177 65 = some (.iconst 3, 0, 0, [], none) := (L_177_0 65).trans rfl
theorem I_177_66 : ins 177 66 = some (.iload_n 3, 0, 0, [], none) := (L_177_0 66).trans rfl
theorem I_177_67 : ins 177 67 = some (.imul, 0, 0, [], none) := (L_177_0 67).trans rfl
theorem I_177_68 : ins 177 68 = some (.iaload, 0, 0, [], none) := (L_177_0 68).trans rfl
theorem I_177_69 : ins 177 69 = some (.if_icmp .ge 8, 77, 0, [], none) := (L_177_1 69 rfl).trans rfl
theorem I_177_72 : ins 177 72 = some (.iload 4, 0, 0, [], some [0, 1, 2, 4]) := (L_177_1 72 rfl).trans rfl
theorem I_177_74 : ins 177 74 = some (.goto 4, 78, 0, [], none) := (L_177_1 74 rfl).trans rfl
theorem I_177_77 : ins 177 77 = some (.iload_n 3, 0, 0, [], some [0, 1, 2, 3, 4]) := (L_177_1 77 rfl).trans rfl
theorem I_177_78 : ins 177 78 = some (.istore_n 3, 0, 0, [], some [0, 1, 2, 4]) := (L_177_1 78 rfl).trans rfl
theorem I_177_79 : ins 177 79 = some (.iinc 4 1, 0, 0, [], none) := (L_177_1 79 rfl).trans rfl
theorem I_177_82 : ins 177 82 = some (.goto (-77), 5, 0, [], none) := (L_177_1 82 rfl).trans rfl
theorem I_177_85 : ins 177 85 = some (.aload_n 0, 0, 0, [], some [0, 1, 3]) := (L_177_1 85 rfl).trans rfl
theorem I_177_86 : ins 177 86 = some (.getfield 46, 14, 0, [(10, 108)], none) := (L_177_1 86 rfl).trans rfl
theorem I_177_89 : ins 177 89 = some (.iload_n 1, 0, 0, [], none) := (L_177_1 89 rfl).trans rfl
theorem I_177_90 : ins 177 90 = some (.iload_n 3, 0, 0, [], none) := (L_177_1 90 rfl).trans rfl
theorem I_177_91 : ins 177 91 = some (.iastore, 0, 0, [], none) := (L_177_1 91 rfl).trans rfl
theorem I_177_92 : ins 177 92 = some (.iload_n 3, 0, 0, [], none) := (L_177_1 92 rfl).trans rfl
theorem I_177_93 : ins 177 93 = some (.iconst (-1), 0, 0, [], none) := (L_177_1 93 rfl).trans rfl
theorem I_177_94 : ins 177 94 = some (.if_icmp .ne 7, 101, 0, [], none) := (L_177_1 94 rfl).trans rfl
theorem I_177_97 : ins 177 97 = some (.iconst 0, 0, 0, [], some []) := (L_177_1 97 rfl).trans rfl
theorem I_177_98 : ins 177 98 = some (.goto 6, 104, 0, [], none) := (L_177_1 98 rfl).trans rfl
theorem I_177_101 : ins 177 101 = some (.iconst 1, 0, 0, [], some [3]) := (L_177_1 101 rfl).trans rfl
theorem I_177_102 : ins 177 102 = some (.iload_n 3, 0, 0, [], none) := (L_177_1 102 rfl).trans rfl
theorem I_177_103 : ins 177 103 = some (.ishl, 0, 0, [], none) := (L_177_1 103 rfl).trans rfl
theorem I_177_104 : ins 177 104 = some (.ireturn, 0, 0, [], some []) := (L_177_1 104 rfl).trans rfl
theorem L_178_0 (pc : Nat) : ins 178 pc = fnd iT178 pc := rfl
theorem I_178_0 : ins 178 0 = some (.iconst 0, 0, 0, [], none) := (L_178_0 0).trans rfl
theorem I_178_1 : ins 178 1 = some (.istore_n 1, 0, 0, [], none) := (L_178_0 1).trans rfl
theorem I_178_2 : ins 178 2 = some (.aload_n 0, 0, 0, [], none) := (L_178_0 2).trans rfl
theorem I_178_3 : ins 178 3 = some (.getfield 40, 12, 0, [(10, 106)], none) := (L_178_0 3).trans rfl
theorem I_178_6 : ins 178 6 = some (.iconst 1, 0, 0, [], none) := (L_178_0 6).trans rfl
theorem I_178_7 : ins 178 7 = some (.iaload, 0, 0, [], none) := (L_178_0 7).trans rfl
theorem I_178_8 : ins 178 8 = some (.iconst 1, 0, 0, [], none) := (L_178_0 8).trans rfl
theorem I_178_9 : ins 178 9 = some (.if_icmp .ne 8, 17, 0, [], none) := (L_178_0 9).trans rfl
theorem I_178_12 : ins 178 12 = some (.bipush 9, 0, 0, [], some [0, 1]) := (L_178_0 12).trans rfl
theorem I_178_14 : ins 178 14 = some (.goto 4, 18, 0, [], none) := (L_178_0 14).trans rfl
theorem I_178_17 : ins 178 17 = some (.iconst 0, 0, 0, [], some [0, 1]) := (L_178_0 17).trans rfl
theorem I_178_18 : ins 178 18 = some (.istore_n 2, 0, 0, [], some [0, 1]) := (L_178_0 18).trans rfl
theorem I_178_19 : ins 178 19 = some (.iload_n 2, 0, 0, [], some [0, 1, 2]) := (L_178_0 19).trans rfl
theorem I_178_20 : ins 178 20 = some (.ifCond .lt 57, 77, 0, [], none) := (L_178_0 20).trans rfl
theorem I_178_23 : ins 178 23 = some (.iconst 0, 0, 0, [], some [0, 1, 2]) := (L_178_0 23).trans rfl
theorem I_178_24 : ins 178 24 = some (.istore_n 3, 0, 0, [], none) := (L_178_0 24).trans rfl
theorem I_178_25 : ins 178 25 = some (.iload_n 3, 0, 0, [], some [0, 1, 2, 3]) := (L_178_0 25).trans rfl
theorem I_178_26 : ins 178 26 = some (.aload_n 0, 0, 0, [], none) := (L_178_0 26).trans rfl
theorem I_178_27 : ins 178 27 = some (.getfield 28, 8, 0, [(10, 102)], none) := (L_178_0 27).trans rfl
theorem I_178_30 : ins 178 30 = some (.iconst 0, 0, 0, [], none) := (L_178_0 30).trans rfl
theorem I_178_31 : ins 178 31 = some (.iaload, 0, 0, [], none) := (L_178_0 31).trans rfl
theorem I_178_32 : ins 178 32 = some (.if_icmp .ge 39, 71, 0, [], none) := (L_178_0 32).trans rfl
theorem I_178_35 : ins 178 35 = some (.aload_n 0, 0, 0, [], some [0, 1, 2, 3]) := (L_178_0 35).trans rfl
theorem I_178_36 : ins 178 36 = some (.getfield 40, 12, 0, [(10, 106)], none) := (L_178_0 36).trans rfl
theorem I_178_39 : ins 178 39 = some (.iconst 1, 0, 0, [], none) := (L_178_0 39).trans rfl
theorem I_178_40 : ins 178 40 = some (.iaload, 0, 0, [], none) := (L_178_0 40).trans rfl
theorem I_178_41 : ins 178 41 = some (.ifCond .eq 15, 56, 0, [], none) := (L_178_0 41).trans rfl
theorem I_178_44 : ins 178 44 = some (.aload_n 0, 0, 0, [], some [0, 1, 2, 3]) := (L_178_0 44).trans rfl
theorem I_178_45 : ins 178 45 = some (.getfield 31, 9, 0, [(10, 103)], none) := (L_178_0 45).trans rfl
theorem I_178_48 : ins 178 48 = some (.iconst 4, 0, 0, [], none) := (L_178_0 48).trans rfl
theorem I_178_49 : ins 178 49 = some (.iload_n 3, 0, 0, [], none) := (L_178_0 49).trans rfl
theorem I_178_50 : ins 178 50 = some (.imul, 0, 0, [], none) := (L_178_0 50).trans rfl
theorem I_178_51 : ins 178 51 = some (.iaload, 0, 0, [], none) := (L_178_0 51).trans rfl
theorem I_178_52 : ins 178 52 = some (.iload_n 2, 0, 0, [], none) := (L_178_0 52).trans rfl
theorem I_178_53 : ins 178 53 = some (.if_icmp .ne 12, 65, 0, [], none) := (L_178_0 53).trans rfl
theorem I_178_56 : ins 178 56 = some (.iload_n 1, 0, 0, [], some [0, 1, 2, 3]) := (L_178_0 56).trans rfl
theorem I_178_57 : ins 178 57 = some (.aload_n 0, 0, 0, [], none) := (L_178_0 57).trans rfl
theorem I_178_58 : ins 178 58 = some (.iload_n 3, 0, 0, [], none) := (L_178_0 58).trans rfl
theorem I_178_59 : ins 178 59 = some (.iload_n 1, 0, 0, [], none) := (L_178_0 59).trans rfl
theorem I_178_60 : ins 178 60 = some (.invokevirtual 164, 2, 0, [(10, 202)], none) := (L_178_0 60).trans rfl
theorem I_178_63 : ins 178 63 = some (.ior, 0, 0, [], none) := (L_178_0 63).trans rfl
theorem I_178_64 : ins 178 64 = some (.istore_n 1, 0, 0, [], none) := (L_178_0 64).trans rfl
theorem I_178_65 : ins 178 65 = some (.iinc 3 1, 0, 0, [], some [0, 1, 2, 3]) := (L_178_0 65).trans rfl
theorem I_178_68 : ins 178 68 = some (.goto (-43), 25, 0, [], none) := (L_178_0 68).trans rfl
theorem I_178_71 : ins 178 71 = some (.iinc 2 (-1), 0, 0, [], some [0, 1, 2]) := (L_178_0 71).trans rfl
theorem I_178_74 : ins 178 74 = some (.goto (-55), 19, 0, [], none) := (L_178_0 74).trans rfl
theorem I_178_77 : ins 178 77 = some (.return_, 0, 0, [], some []) := (L_178_0 77).trans rfl
theorem L_179_0 (pc : Nat) : ins 179 pc = fnd iT179 pc := rfl
theorem I_179_0 : ins 179 0 = some (.aload_n 0, 0, 0, [], none) := (L_179_0 0).trans rfl
theorem I_179_1 : ins 179 1 = some (.invokevirtual 167, 0, 0, [(10, 203)], none) := (L_179_0 1).trans rfl
theorem I_179_4 : ins 179 4 = some (.iconst 0, 0, 0, [], none) := (L_179_0 4).trans rfl
theorem I_179_5 : ins 179 5 = some (.istore_n 2, 0, 0, [], none) := (L_179_0 5).trans rfl
theorem I_179_6 : ins 179 6 = some (.iload_n 2, 0, 0, [], some [0, 1, 2]) := (L_179_0 6).trans rfl
theorem I_179_7 : ins 179 7 = some (.iload_n 1, 0, 0, [], none) := (L_179_0 7).trans rfl
theorem I_179_8 : ins 179 8 = some (.if_icmp .ge 19, 27, 0, [], none) := (L_179_0 8).trans rfl
theorem I_179_11 : ins 179 11 = some (.aload_n 0, 0, 0, [], some [0, 1, 2]) := (L_179_0 11).trans rfl
theorem I_179_12 : ins 179 12 = some (.aload_n 0, 0, 0, [], none) := (L_179_0 12).trans rfl
theorem I_179_13 : ins 179 13 = some (.getfield 37, 11, 0, [(10, 105)], none) := (L_179_0 13).trans rfl
theorem I_179_16 : ins 179 16 = some (.iload_n 2, 0, 0, [], none) := (L_179_0 16).trans rfl
theorem I_179_17 : ins 179 17 = some (.iaload, 0, 0, [], none) := (L_179_0 17).trans rfl
theorem I_179_18 : ins 179 18 = some (.invokevirtual 170, 1, 0, [(10, 204)], none) := (L_179_0 18).trans rfl
theorem I_179_21 : ins 179 21 = some (.iinc 2 1, 0, 0, [], none) := (L_179_0 21).trans rfl
theorem I_179_24 : ins 179 24 = some (.goto (-18), 6, 0, [], none) := (L_179_0 24).trans rfl
theorem I_179_27 : ins 179 27 = some (.aload_n 0, 0, 0, [], some [0]) := (L_179_0 27).trans rfl
theorem I_179_28 : ins 179 28 = some (.invokevirtual 174, 0, 0, [(10, 205)], none) := (L_179_0 28).trans rfl
theorem I_179_31 : ins 179 31 = some (.return_, 0, 0, [], none) := (L_179_0 31).trans rfl
theorem L_180_0 (pc : Nat) : ins 180 pc = fnd iT180 pc := rfl
theorem I_180_0 : ins 180 0 = some (.aload_n 0, 0, 0, [], none) := (L_180_0 0).trans rfl
theorem I_180_1 : ins 180 1 = some (.iload_n 1, 0, 0, [], none) := (L_180_0 1).trans rfl
theorem I_180_2 : ins 180 2 = some (.invokevirtual 177, 1, 0, [(10, 206)], none) := (L_180_0 2).trans rfl
theorem I_180_5 : ins 180 5 = some (.aload_n 0, 0, 0, [], none) := (L_180_0 5).trans rfl
theorem I_180_6 : ins 180 6 = some (.getfield 43, 13, 0, [(10, 107)], none) := (L_180_0 6).trans rfl
theorem I_180_9 : ins 180 9 = some (.iconst 3, 0, 0, [], none) := (L_180_0 9).trans rfl
theorem I_180_10 : ins 180 10 = some (.iload_n 2, 0, 0, [], none) := (L_180_0 10).trans rfl
theorem I_180_11 : ins 180 11 = some (.imul, 0, 0, [], none) := (L_180_0 11).trans rfl
theorem I_180_12 : ins 180 12 = some (.iload_n 3, 0, 0, [], none) := (L_180_0 12).trans rfl
theorem I_180_13 : ins 180 13 = some (.iadd, 0, 0, [], none) := (L_180_0 13).trans rfl
theorem I_180_14 : ins 180 14 = some (.iaload, 0, 0, [], none) := (L_180_0 14).trans rfl
theorem I_180_15 : ins 180 15 = some (.ireturn, 0, 0, [], none) := (L_180_0 15).trans rfl
theorem L_181_0 (pc : Nat) : ins 181 pc = fnd iT181 pc := rfl
theorem I_181_0 : ins 181 0 = some (.aload_n 0, 0, 0, [], none) := (L_181_0 0).trans rfl
theorem I_181_1 : ins 181 1 = some (.invokevirtual 134, 0, 0, [(10, 194)], none) := (L_181_0 1).trans rfl
theorem I_181_4 : ins 181 4 = some (.aload_n 0, 0, 0, [], none) := (L_181_0 4).trans rfl
theorem I_181_5 : ins 181 5 = some (.iload_n 1, 0, 0, [], none) := (L_181_0 5).trans rfl
theorem I_181_6 : ins 181 6 = some (.invokevirtual 180, 1, 0, [(10, 207)], none) := (L_181_0 6).trans rfl
theorem I_181_9 : ins 181 9 = some (.ifCond .eq 33, 42, 0, [], none) := (L_181_0 9).trans rfl
theorem I_181_12 : ins 181 12 = some (.aload_n 0, 0, 0, [], some [0, 1, 2, 3]) := (L_181_0 12).trans rfl
theorem I_181_13 : ins 181 13 = some (.iload_n 2, 0, 0, [], none) := (L_181_0 13).trans rfl
theorem I_181_14 : ins 181 14 = some (.invokevirtual 140, 1, 0, [(10, 196)], none) := (L_181_0 14).trans rfl
theorem I_181_17 : ins 181 17 = some (.ifCond .eq 25, 42, 0, [], none) := (L_181_0 17).trans rfl
theorem I_181_20 : ins 181 20 = some (.iload_n 3, 0, 0, [], some [0, 1, 2, 3]) := (L_181_0 20).trans rfl
theorem I_181_21 : ins 181 21 = some (.i2l, 0, 0, [], none) := (L_181_0 21).trans rfl
theorem I_181_22 : ins 181 22 = some (.lconst 0, 0, 0, [], none) := (L_181_0 22).trans rfl
theorem I_181_23 : ins 181 23 = some (.ldc2_w 83, 1045, 2, [], none) := (L_181_0 23).trans rfl
theorem I_181_26 : ins 181 26 = some (.invokestatic 69, 3, 0, [(0, 180)], none) := (L_181_0 26).trans rfl
theorem I_181_29 : ins 181 29 = some (.ifCond .eq 13, 42, 0, [], none) := (L_181_0 29).trans rfl
theorem I_181_32 : ins 181 32 = some (.aload_n 0, 0, 0, [], some [0, 1, 2, 3]) := (L_181_0 32).trans rfl
theorem I_181_33 : ins 181 33 = some (.iload_n 1, 0, 0, [], none) := (L_181_0 33).trans rfl
theorem I_181_34 : ins 181 34 = some (.iload_n 2, 0, 0, [], none) := (L_181_0 34).trans rfl
theorem I_181_35 : ins 181 35 = some (.iload_n 3, 0, 0, [], none) := (L_181_0 35).trans rfl
theorem I_181_36 : ins 181 36 = some (.invokevirtual 183, 3, 0, [(10, 208)], none) := (L_181_0 36).trans rfl
theorem I_181_39 : ins 181 39 = some (.goto 5, 44, 0, [], none) := (L_181_0 39).trans rfl
theorem I_181_42 : ins 181 42 = some (.bipush (-2), 0, 0, [], some []) := (L_181_0 42).trans rfl
theorem I_181_44 : ins 181 44 = some (.ireturn, 0, 0, [], some []) := (L_181_0 44).trans rfl
theorem L_182_0 (pc : Nat) : ins 182 pc = fnd iT182 pc := rfl
theorem I_182_0 : ins 182 0 = some (.aload_n 0, 0, 0, [], none) := (L_182_0 0).trans rfl
theorem I_182_1 : ins 182 1 = some (.iload_n 1, 0, 0, [], none) := (L_182_0 1).trans rfl
theorem I_182_2 : ins 182 2 = some (.invokevirtual 177, 1, 0, [(10, 206)], none) := (L_182_0 2).trans rfl
theorem I_182_5 : ins 182 5 = some (.iconst 0, 0, 0, [], none) := (L_182_0 5).trans rfl
theorem I_182_6 : ins 182 6 = some (.istore_n 3, 0, 0, [], none) := (L_182_0 6).trans rfl
theorem I_182_7 : ins 182 7 = some (.iconst 0, 0, 0, [], none) := (L_182_0 7).trans rfl
theorem I_182_8 : ins 182 8 = some (.istore 4, 0, 0, [], none) := (L_182_0 8).trans rfl
theorem I_182_10 : ins 182 10 = some (.iload 4, 0, 0, [], some [0, 2, 3, 4]) := (L_182_0 10).trans rfl
theorem I_182_12 : ins 182 12 = some (.aload_n 0, 0, 0, [], none) := (L_182_0 12).trans rfl
theorem I_182_13 : ins 182 13 = some (.getfield 28, 8, 0, [(10, 102)], none) := (L_182_0 13).trans rfl
theorem I_182_16 : ins 182 16 = some (.iconst 0, 0, 0, [], none) := (L_182_0 16).trans rfl
theorem I_182_17 : ins 182 17 = some (.iaload, 0, 0, [], none) := (L_182_0 17).trans rfl
theorem I_182_18 : ins 182 18 = some (.if_icmp .ge 30, 48, 0, [], none) := (L_182_0 18).trans rfl
theorem I_182_21 : ins 182 21 = some (.iload_n 3, 0, 0, [], some [0, 2, 3, 4]) := (L_182_0 21).trans rfl
theorem I_182_22 : ins 182 22 = some (.aload_n 0, 0, 0, [], none) := (L_182_0 22).trans rfl
theorem I_182_23 : ins 182 23 = some (.iload_n 2, 0, 0, [], none) := (L_182_0 23).trans rfl
theorem I_182_24 : ins 182 24 = some (.iload 4, 0, 0, [], none) := (L_182_0 24).trans rfl
theorem I_182_26 : ins 182 26 = some (.invokevirtual 161, 2, 0, [(10, 201)], none) := (L_182_0 26).trans rfl
theorem I_182_29 : ins 182 29 = some (.ifCond .eq 10, 39, 0, [], none) := (L_182_0 29).trans rfl
theorem I_182_32 : ins 182 32 = some (.iconst 1, 0, 0, [], some [0, 2, 4]) := (L_182_0 32).trans rfl
theorem I_182_33 : ins 182 33 = some (.iload 4, 0, 0, [], none) := (L_182_0 33).trans rfl
theorem I_182_35 : ins 182 35 = some (.ishl, 0, 0, [], none) := (L_182_0 35).trans rfl
theorem I_182_36 : ins 182 36 = some (.goto 4, 40, 0, [], none) := (L_182_0 36).trans rfl
theorem I_182_39 : ins 182 39 = some (.iconst 0, 0, 0, [], some [0, 2, 4]) := (L_182_0 39).trans rfl
theorem I_182_40 : ins 182 40 = some (.ior, 0, 0, [], some [0, 2, 4]) := (L_182_0 40).trans rfl
theorem I_182_41 : ins 182 41 = some (.istore_n 3, 0, 0, [], none) := (L_182_0 41).trans rfl
theorem I_182_42 : ins 182 42 = some (.iinc 4 1, 0, 0, [], none) := (L_182_0 42).trans rfl
theorem I_182_45 : ins 182 45 = some (.goto (-35), 10, 0, [], none) := (L_182_0 45).trans rfl
theorem I_182_48 : ins 182 48 = some (.iload_n 3, 0, 0, [], some [3]) := (L_182_0 48).trans rfl
theorem I_182_49 : ins 182 49 = some (.ireturn, 0, 0, [], none) := (L_182_0 49).trans rfl
theorem L_183_0 (pc : Nat) : ins 183 pc = fnd iT183 pc := rfl
theorem I_183_0 : ins 183 0 = some (.aload_n 0, 0, 0, [], none) := (L_183_0 0).trans rfl
theorem I_183_1 : ins 183 1 = some (.invokevirtual 134, 0, 0, [(10, 194)], none) := (L_183_0 1).trans rfl
theorem I_183_4 : ins 183 4 = some (.aload_n 0, 0, 0, [], none) := (L_183_0 4).trans rfl
theorem I_183_5 : ins 183 5 = some (.iload_n 1, 0, 0, [], none) := (L_183_0 5).trans rfl
theorem I_183_6 : ins 183 6 = some (.invokevirtual 180, 1, 0, [(10, 207)], none) := (L_183_0 6).trans rfl
theorem I_183_9 : ins 183 9 = some (.ifCond .eq 20, 29, 0, [], none) := (L_183_0 9).trans rfl
theorem I_183_12 : ins 183 12 = some (.aload_n 0, 0, 0, [], some [0, 1, 2]) := (L_183_0 12).trans rfl
theorem I_183_13 : ins 183 13 = some (.iload_n 2, 0, 0, [], none) := (L_183_0 13).trans rfl
theorem I_183_14 : ins 183 14 = some (.invokevirtual 140, 1, 0, [(10, 196)], none) := (L_183_0 14).trans rfl
theorem I_183_17 : ins 183 17 = some (.ifCond .eq 12, 29, 0, [], none) := (L_183_0 17).trans rfl
theorem I_183_20 : ins 183 20 = some (.aload_n 0, 0, 0, [], some [0, 1, 2]) := (L_183_0 20).trans rfl
theorem I_183_21 : ins 183 21 = some (.iload_n 1, 0, 0, [], none) := (L_183_0 21).trans rfl
theorem I_183_22 : ins 183 22 = some (.iload_n 2, 0, 0, [], none) := (L_183_0 22).trans rfl
theorem I_183_23 : ins 183 23 = some (.invokevirtual 186, 2, 0, [(10, 209)], none) := (L_183_0 23).trans rfl
theorem I_183_26 : ins 183 26 = some (.goto 5, 31, 0, [], none) := (L_183_0 26).trans rfl
theorem I_183_29 : ins 183 29 = some (.bipush (-2), 0, 0, [], some []) := (L_183_0 29).trans rfl
theorem I_183_31 : ins 183 31 = some (.ireturn, 0, 0, [], some []) := (L_183_0 31).trans rfl
theorem L_184_0 (pc : Nat) : ins 184 pc = fnd iT184 pc := rfl
theorem I_184_0 : ins 184 0 = some (.aload_n 0, 0, 0, [], none) := (L_184_0 0).trans rfl
theorem I_184_1 : ins 184 1 = some (.iload_n 1, 0, 0, [], none) := (L_184_0 1).trans rfl
theorem I_184_2 : ins 184 2 = some (.invokevirtual 177, 1, 0, [(10, 206)], none) := (L_184_0 2).trans rfl
theorem I_184_5 : ins 184 5 = some (.aload_n 0, 0, 0, [], none) := (L_184_0 5).trans rfl
theorem I_184_6 : ins 184 6 = some (.getfield 46, 14, 0, [(10, 108)], none) := (L_184_0 6).trans rfl
theorem I_184_9 : ins 184 9 = some (.iload_n 2, 0, 0, [], none) := (L_184_0 9).trans rfl
theorem I_184_10 : ins 184 10 = some (.iaload, 0, 0, [], none) := (L_184_0 10).trans rfl
theorem I_184_11 : ins 184 11 = some (.ireturn, 0, 0, [], none) := (L_184_0 11).trans rfl
theorem L_185_0 (pc : Nat) : ins 185 pc = fnd iT185 pc := rfl
theorem I_185_0 : ins 185 0 = some (.aload_n 0, 0, 0, [], none) := (L_185_0 0).trans rfl
theorem I_185_1 : ins 185 1 = some (.invokevirtual 134, 0, 0, [(10, 194)], none) := (L_185_0 1).trans rfl
theorem I_185_4 : ins 185 4 = some (.aload_n 0, 0, 0, [], none) := (L_185_0 4).trans rfl
theorem I_185_5 : ins 185 5 = some (.iload_n 1, 0, 0, [], none) := (L_185_0 5).trans rfl
theorem I_185_6 : ins 185 6 = some (.invokevirtual 180, 1, 0, [(10, 207)], none) := (L_185_0 6).trans rfl
theorem I_185_9 : ins 185 9 = some (.ifCond .eq 20, 29, 0, [], none) := (L_185_0 9).trans rfl
theorem I_185_12 : ins 185 12 = some (.aload_n 0, 0, 0, [], some [0, 1, 2]) := (L_185_0 12).trans rfl
theorem I_185_13 : ins 185 13 = some (.iload_n 2, 0, 0, [], none) := (L_185_0 13).trans rfl
theorem I_185_14 : ins 185 14 = some (.invokevirtual 137, 1, 0, [(10, 195)], none) := (L_185_0 14).trans rfl
theorem I_185_17 : ins 185 17 = some (.ifCond .eq 12, 29, 0, [], none) := (L_185_0 17).trans rfl
theorem I_185_20 : ins 185 20 = some (.aload_n 0, 0, 0, [], some [0, 1, 2]) := (L_185_0 20).trans rfl
theorem I_185_21 : ins 185 21 = some (.iload_n 1, 0, 0, [], none) := (L_185_0 21).trans rfl
theorem I_185_22 : ins 185 22 = some (.iload_n 2, 0, 0, [], none) := (L_185_0 22).trans rfl
theorem I_185_23 : ins 185 23 = some (.invokevirtual 189, 2, 0, [(10, 210)], none) := (L_185_0 23).trans rfl
theorem I_185_26 : ins 185 26 = some (.goto 5, 31, 0, [], none) := (L_185_0 26).trans rfl
theorem I_185_29 : ins 185 29 = some (.bipush (-2), 0, 0, [], some []) := (L_185_0 29).trans rfl
theorem I_185_31 : ins 185 31 = some (.ireturn, 0, 0, [], some []) := (L_185_0 31).trans rfl
theorem L_186_0 (pc : Nat) : ins 186 pc = fnd iT186 pc := rfl
theorem I_186_0 : ins 186 0 = some (.iconst 0, 0, 0, [], none) := (L_186_0 0).trans rfl
theorem I_186_1 : ins 186 1 = some (.istore_n 1, 0, 0, [], none) := (L_186_0 1).trans rfl
theorem I_186_2 : ins 186 2 = some (.iconst 0, 0, 0, [], none) := (L_186_0 2).trans rfl
theorem I_186_3 : ins 186 3 = some (.istore_n 2, 0, 0, [], none) := (L_186_0 3).trans rfl
theorem I_186_4 : ins 186 4 = some (.iload_n 2, 0, 0, [], some [0, 1, 2]) := (L_186_0 4).trans rfl
theorem I_186_5 : ins 186 5 = some (.aload_n 0, 0, 0, [], none) := (L_186_0 5).trans rfl
theorem I_186_6 : ins 186 6 = some (.getfield 28, 8, 0, [(10, 102)], none) := (L_186_0 6).trans rfl
theorem I_186_9 : ins 186 9 = some (.iconst 0, 0, 0, [], none) := (L_186_0 9).trans rfl
theorem I_186_10 : ins 186 10 = some (.iaload, 0, 0, [], none) := (L_186_0 10).trans rfl
theorem I_186_11 : ins 186 11 = some (.if_icmp .ge 29, 40, 0, [], none) := (L_186_0 11).trans rfl
theorem I_186_14 : ins 186 14 = some (.iload_n 1, 0, 0, [], some [0, 1, 2]) := (L_186_0 14).trans rfl
theorem I_186_15 : ins 186 15 = some (.aload_n 0, 0, 0, [], none) := (L_186_0 15).trans rfl
theorem I_186_16 : ins 186 16 = some (.getfield 46, 14, 0, [(10, 108)], none) := (L_186_0 16).trans rfl
theorem I_186_19 : ins 186 19 = some (.iload_n 2, 0, 0, [], none) := (L_186_0 19).trans rfl
theorem I_186_20 : ins 186 20 = some (.iaload, 0, 0, [], none) := (L_186_0 20).trans rfl
theorem I_186_21 : ins 186 21 = some (.iconst (-1), 0, 0, [], none) := (L_186_0 21).trans rfl
theorem I_186_22 : ins 186 22 = some (.if_icmp .ne 9, 31, 0, [], none) := (L_186_0 22).trans rfl
theorem I_186_25 : ins 186 25 = some (.iconst 1, 0, 0, [], some [0, 2]) := (L_186_0 25).trans rfl
theorem I_186_26 : ins 186 26 = some (.iload_n 2, 0, 0, [], none) := (L_186_0 26).trans rfl
theorem I_186_27 : ins 186 27 = some (.ishl, 0, 0, [], none) := (L_186_0 27).trans rfl
theorem I_186_28 : ins 186 28 = some (.goto 4, 32, 0, [], none) := (L_186_0 28).trans rfl
theorem I_186_31 : ins 186 31 = some (.iconst 0, 0, 0, [], some [0, 2]) := (L_186_0 31).trans rfl
theorem I_186_32 : ins 186 32 = some (.ior, 0, 0, [], some [0, 2]) := (L_186_0 32).trans rfl
theorem I_186_33 : ins 186 33 = some (.istore_n 1, 0, 0, [], none) := (L_186_0 33).trans rfl
theorem I_186_34 : ins 186 34 = some (.iinc 2 1, 0, 0, [], none) := (L_186_0 34).trans rfl
theorem I_186_37 : ins 186 37 = some (.goto (-33), 4, 0, [], none) := (L_186_0 37).trans rfl
theorem I_186_40 : ins 186 40 = some (.iload_n 1, 0, 0, [], some [1]) := (L_186_0 40).trans rfl
theorem I_186_41 : ins 186 41 = some (.ireturn, 0, 0, [], none) := (L_186_0 41).trans rfl
theorem L_187_0 (pc : Nat) : ins 187 pc = fnd iT187 pc := rfl
theorem I_187_0 : ins 187 0 = some (.aload_n 0, 0, 0, [], none) := (L_187_0 0).trans rfl
theorem I_187_1 : ins 187 1 = some (.iload_n 1, 0, 0, [], none) := (L_187_0 1).trans rfl
theorem I_187_2 : ins 187 2 = some (.invokevirtual 177, 1, 0, [(10, 206)], none) := (L_187_0 2).trans rfl
theorem I_187_5 : ins 187 5 = some (.iload_n 2, 0, 0, [], none) := (L_187_0 5).trans rfl
theorem I_187_6 : ins 187 6 = some (.ifCond .ne 10, 16, 0, [], none) := (L_187_0 6).trans rfl
theorem I_187_9 : ins 187 9 = some (.aload_n 0, 0, 0, [], some [0, 2]) := (L_187_0 9).trans rfl
theorem I_187_10 : ins 187 10 = some (.invokevirtual 192, 0, 0, [(10, 211)], none) := (L_187_0 10).trans rfl
theorem I_187_13 : ins 187 13 = some (.goto 4, 17, 0, [], none) := (L_187_0 13).trans rfl
theorem I_187_16 : ins 187 16 = some (.iconst 0, 0, 0, [], some [0, 2]) := (L_187_0 16).trans rfl
theorem I_187_17 : ins 187 17 = some (.istore_n 3, 0, 0, [], some [0, 2]) := (L_187_0 17).trans rfl
theorem I_187_18 : ins 187 18 = some (.iconst 0, 0, 0, [], none) := (L_187_0 18).trans rfl
theorem I_187_19 : ins 187 19 = some (.istore 4, 0, 0, [], none) := (L_187_0 19).trans rfl
theorem I_187_21 : ins 187 21 = some (.iload 4, 0, 0, [], some [0, 2, 3, 4]) := (L_187_0 21).trans rfl
theorem I_187_23 : ins 187 23 = some (.aload_n 0, 0, 0, [], none) := (L_187_0 23).trans rfl
theorem I_187_24 : ins 187 24 = some (.getfield 28, 8, 0, [(10, 102)], none) := (L_187_0 24).trans rfl
theorem I_187_27 : ins 187 27 = some (.iconst 1, 0, 0, [], none) := (L_187_0 27).trans rfl
theorem I_187_28 : ins 187 28 = some (.iaload, 0, 0, [], none) := (L_187_0 28).trans rfl
theorem I_187_29 : ins 187 29 = some (.if_icmp .ge 39, 68, 0, [], none) := (L_187_0 29).trans rfl
theorem I_187_32 : ins 187 32 = some (.iload_n 3, 0, 0, [], some [0, 2, 3, 4]) := (L_187_0 32).trans rfl
theorem I_187_33 : ins 187 33 = some (.iload_n 2, 0, 0, [], none) := (L_187_0 33).trans rfl
theorem I_187_34 : ins 187 34 = some (.iconst 1, 0, 0, [], none) := (L_187_0 34).trans rfl
theorem I_187_35 : ins 187 35 = some (.if_icmp .ne 24, 59, 0, [], none) := (L_187_0 35).trans rfl
theorem I_187_38 : ins 187 38 = some (.aload_n 0, 0, 0, [], some [0, 2, 4]) := (L_187_0 38).trans rfl
theorem I_187_39 : ins 187 39 = some (.getfield 43, 13, 0, [(10, 107)], none) := (L_187_0 39).trans rfl
theorem I_187_42 : ins 187 42 = some (.iconst 3, 0, 0, [], none) := (L_187_0 42).trans rfl
theorem I_187_43 : ins 187 43 = some (.iload 4, 0, 0, [], none) := (L_187_0 43).trans rfl
theorem I_187_45 : ins 187 45 = some (.imul, 0, 0, [], none) := (L_187_0 45).trans rfl
theorem I_187_46 : ins 187 46 = some (.iconst 2, 0, 0, [], none) := (L_187_0 46).trans rfl
theorem I_187_47 : ins 187 47 = some (.iadd, 0, 0, [], none) := (L_187_0 47).trans rfl
theorem I_187_48 : ins 187 48 = some (.iaload, 0, 0, [], none) := (L_187_0 48).trans rfl
theorem I_187_49 : ins 187 49 = some (.ifCond .ne 10, 59, 0, [], none) := (L_187_0 49).trans rfl
theorem I_187_52 : ins 187 52 = some (.iconst 1, 0, 0, [], some [0, 2, 4]) := (L_187_0 52).trans rfl
theorem I_187_53 : ins 187 53 = some (.iload 4, 0, 0, [], none) := (L_187_0 53).trans rfl
theorem I_187_55 : ins 187 55 = some (.ishl, 0, 0, [], none) := (L_187_0 55).trans rfl
theorem I_187_56 : ins 187 56 = some (.goto 4, 60, 0, [], none) := (L_187_0 56).trans rfl
theorem I_187_59 : ins 187 59 = some (.iconst 0, 0, 0, [], some [0, 2, 4]) := (L_187_0 59).trans rfl
theorem I_187_60 : ins 187 60 = some (.ior, 0, 0, [], some [0, 2, 4]) := (L_187_0 60).trans rfl
theorem I_187_61 : ins 187 61 = some (.istore_n 3, 0, 0, [], none) := (L_187_0 61).trans rfl
theorem I_187_62 : ins 187 62 = some (.iinc 4 1, 0, 0, [], none) := (L_187_0 62).trans rfl
theorem I_187_65 : ins 187 65 = some (.goto (-44), 21, 0, [], none) := (L_187_0 65).trans rfl
theorem I_187_68 : ins 187 68 = some (.iload_n 3, 0, 0, [], some [3]) := (L_187_0 68).trans rfl
theorem I_187_69 : ins 187 69 = some (.ireturn, 0, 0, [], none) := (L_187_0 69).trans rfl
theorem L_188_0 (pc : Nat) : ins 188 pc = fnd iT188 pc := rfl
theorem I_188_0 : ins 188 0 = some (.aload_n 0, 0, 0, [], none) := (L_188_0 0).trans rfl
theorem I_188_1 : ins 188 1 = some (.invokevirtual 134, 0, 0, [(10, 194)], none) := (L_188_0 1).trans rfl
theorem I_188_4 : ins 188 4 = some (.aload_n 0, 0, 0, [], none) := (L_188_0 4).trans rfl
theorem I_188_5 : ins 188 5 = some (.iload_n 1, 0, 0, [], none) := (L_188_0 5).trans rfl
theorem I_188_6 : ins 188 6 = some (.invokevirtual 180, 1, 0, [(10, 207)], none) := (L_188_0 6).trans rfl
theorem I_188_9 : ins 188 9 = some (.ifCond .eq 19, 28, 0, [], none) := (L_188_0 9).trans rfl
theorem I_188_12 : ins 188 12 = some (.iload_n 2, 0, 0, [], some [0, 1, 2]) := (L_188_0 12).trans rfl
theorem I_188_13 : ins 188 13 = some (.invokestatic 145, 1, 0, [(0, 197)], none) := (L_188_0 13).trans rfl
theorem I_188_16 : ins 188 16 = some (.ifCond .eq 12, 28, 0, [], none) := (L_188_0 16).trans rfl
theorem I_188_19 : ins 188 19 = some (.aload_n 0, 0, 0, [], some [0, 1, 2]) := (L_188_0 19).trans rfl
theorem I_188_20 : ins 188 20 = some (.iload_n 1, 0, 0, [], none) := (L_188_0 20).trans rfl
theorem I_188_21 : ins 188 21 = some (.iload_n 2, 0, 0, [], none) := (L_188_0 21).trans rfl
theorem I_188_22 : ins 188 22 = some (.invokevirtual 195, 2, 0, [(10, 212)], none) := (L_188_0 22).trans rfl
theorem I_188_25 : ins 188 25 = some (.goto 5, 30, 0, [], none) := (L_188_0 25).trans rfl
theorem I_188_28 : ins 188 28 = some (.bipush (-2), 0, 0, [], some []) := (L_188_0 28).trans rfl
theorem I_188_30 : ins 188 30 = some (.ireturn, 0, 0, [], some []) := (L_188_0 30).trans rfl
theorem L_189_0 (pc : Nat) : ins 189 pc = fnd iT189 pc := rfl
theorem I_189_0 : ins 189 0 = some (.iconst 0, 0, 0, [], none) := (L_189_0 0).trans rfl
theorem I_189_1 : ins 189 1 = some (.istore_n 2, 0, 0, [], none) := (L_189_0 1).trans rfl
theorem I_189_2 : ins 189 2 = some (.iload_n 2, 0, 0, [], some [0, 1, 2]) := (L_189_0 2).trans rfl
theorem I_189_3 : ins 189 3 = some (.aload_n 0, 0, 0, [], none) := (L_189_0 3).trans rfl
theorem I_189_4 : ins 189 4 = some (.getfield 28, 8, 0, [(10, 102)], none) := (L_189_0 4).trans rfl
theorem I_189_7 : ins 189 7 = some (.iconst 2, 0, 0, [], none) := (L_189_0 7).trans rfl
theorem I_189_8 : ins 189 8 = some (.iaload, 0, 0, [], none) := (L_189_0 8).trans rfl
theorem I_189_9 : ins 189 9 = some (.if_icmp .ge 78, 87, 0, [], none) := (L_189_0 9).trans rfl
theorem I_189_12 : ins 189 12 = some (.aload_n 0, 0, 0, [], some [0, 1, 2]) := (L_189_0 12).trans rfl
theorem I_189_13 : ins 189 13 = some (.iload_n 2, 0, 0, [], none) := (L_189_0 13).trans rfl
theorem I_189_14 : ins 189 14 = some (.iconst 1, 0, 0, [], none) := (L_189_0 14).trans rfl
theorem I_189_15 : ins 189 15 = some (.iadd, 0, 0, [], none) := (L_189_0 15).trans rfl
theorem I_189_16 : ins 189 16 = some (.invokevirtual 177, 1, 0, [(10, 206)], none) := (L_189_0 16).trans rfl
theorem I_189_19 : ins 189 19 = some (.iconst 0, 0, 0, [], none) := (L_189_0 19).trans rfl
theorem I_189_20 : ins 189 20 = some (.istore_n 3, 0, 0, [], none) := (L_189_0 20).trans rfl
theorem I_189_21 : ins 189 21 = some (.iload_n 3, 0, 0, [], some [0, 1, 2, 3]) := (L_189_0 21).trans rfl
theorem I_189_22 : ins 189 22 = some (.aload_n 0, 0, 0, [], none) := (L_189_0 22).trans rfl
theorem I_189_23 : ins 189 23 = some (.getfield 28, 8, 0, [(10, 102)], none) := (L_189_0 23).trans rfl
theorem I_189_26 : ins 189 26 = some (.iconst 0, 0, 0, [], none) := (L_189_0 26).trans rfl
theorem I_189_27 : ins 189 27 = some (.iaload, 0, 0, [], none) := (L_189_0 27).trans rfl
theorem I_189_28 : ins 189 28 = some (.if_icmp .ge 53, 81, 0, [], none) := (L_189_0 28).trans rfl
theorem I_189_31 : ins 189 31 = some (.aload_n 0, 0, 0, [], some [0, 1, 2, 3]) := (L_189_0 31).trans rfl
theorem I_189_32 : ins 189 32 = some (.getfield 37, 11, 0, [(10, 105)], none) := (L_189_0 32).trans rfl
theorem I_189_35 : ins 189 35 = some (.iload_n 2, 0, 0, [], none) := (L_189_0 35).trans rfl
theorem I_189_36 : ins 189 36 = some (.iaload, 0, 0, [], none) := (L_189_0 36).trans rfl
theorem I_189_37 : ins 189 37 = some (.iconst 2, 0, 0, [], none) := (L_189_0 37).trans rfl
theorem I_189_38 : ins 189 38 = some (.if_icmp .ne 37, 75, 0, [], none) := (L_189_0 38).trans rfl
theorem I_189_41 : ins 189 41 = some (.aload_n 0, 0, 0, [], some [0, 1, 2, 3]) := (L_189_0 41).trans rfl
theorem I_189_42 : ins 189 42 = some (.getfield 46, 14, 0, [(10, 108)], none) := (L_189_0 42).trans rfl
theorem I_189_45 : ins 189 45 = some (.iload_n 3, 0, 0, [], none) := (L_189_0 45).trans rfl
theorem I_189_46 : ins 189 46 = some (.iaload, 0, 0, [], none) := (L_189_0 46).trans rfl
theorem I_189_47 : ins 189 47 = some (.iconst (-1), 0, 0, [], none) := (L_189_0 47).trans rfl
theorem I_189_48 : ins 189 48 = some (.if_icmp .ne 27, 75, 0, [], none) := (L_189_0 48).trans rfl
theorem I_189_51 : ins 189 51 = some (.aload_n 0, 0, 0, [], some [0, 1, 2, 3]) := (L_189_0 51).trans rfl
theorem I_189_52 : ins 189 52 = some (.getfield 31, 9, 0, [(10, 103)], none) := (L_189_0 52).trans rfl
theorem I_189_55 : ins 189 55 = some (.iconst 4, 0, 0, [], none) := (L_189_0 55).trans rfl
theorem I_189_56 : ins 189 56 = some (.iload_n 3, 0, 0, [], none) := (L_189_0 56).trans rfl
theorem I_189_57 : ins 189 57 = some (.imul, 0, 0, [], none) := (L_189_0 57).trans rfl
theorem I_189_58 : ins 189 58 = some (.iconst 3, 0, 0, [], none) := (L_189_0 58).trans rfl
theorem I_189_59 : ins 189 59 = some (.iadd, 0, 0, [], none) := (L_189_0 59).trans rfl
theorem I_189_60 : ins 189 60 = some (.iaload, 0, 0, [], none) := (L_189_0 60).trans rfl
theorem I_189_61 : ins 189 61 = some (.iconst 1, 0, 0, [], none) := (L_189_0 61).trans rfl
theorem I_189_62 : ins 189 62 = some (.if_icmp .ne 13, 75, 0, [], none) := (L_189_0 62).trans rfl
theorem I_189_65 : ins 189 65 = some (.iload_n 1, 0, 0, [], some [1, 2, 3]) := (L_189_0 65).trans rfl
theorem I_189_66 : ins 189 66 = some (.ifCond .ne 7, 73, 0, [], none) := (L_189_0 66).trans rfl
theorem I_189_69 : ins 189 69 = some (.iload_n 2, 0, 0, [], some [2]) := (L_189_0 69).trans rfl
theorem I_189_70 : ins 189 70 = some (.goto 4, 74, 0, [], none) := (L_189_0 70).trans rfl
theorem I_189_73 : ins 189 73 = some (.iload_n 3, 0, 0, [], some [3]) := (L_189_0 73).trans rfl
theorem I_189_74 : ins 189 74 = some (.ireturn, 0, 0, [], some []) := (L_189_0 74).trans rfl
theorem I_189_75 : ins 189 75 = some (.iinc 3 1, 0, 0, [], some [0, 1, 2, 3]) := (L_189_0 75).trans rfl
theorem I_189_78 : ins 189 78 = some (.goto (-57), 21, 0, [], none) := (L_189_0 78).trans rfl
theorem I_189_81 : ins 189 81 = some (.iinc 2 1, 0, 0, [], some [0, 1, 2]) := (L_189_0 81).trans rfl
theorem I_189_84 : ins 189 84 = some (.goto (-82), 2, 0, [], none) := (L_189_0 84).trans rfl
theorem I_189_87 : ins 189 87 = some (.iconst (-1), 0, 0, [], some []) := (L_189_0 87).trans rfl
theorem I_189_88 : ins 189 88 = some (.ireturn, 0, 0, [], none) := (L_189_0 88).trans rfl
theorem L_190_0 (pc : Nat) : ins 190 pc = fnd iT190 pc := rfl
theorem I_190_0 : ins 190 0 = some (.aload_n 0, 0, 0, [], none) := (L_190_0 0).trans rfl
theorem I_190_1 : ins 190 1 = some (.invokevirtual 134, 0, 0, [(10, 194)], none) := (L_190_0 1).trans rfl
theorem I_190_4 : ins 190 4 = some (.iload_n 1, 0, 0, [], none) := (L_190_0 4).trans rfl
theorem I_190_5 : ins 190 5 = some (.invokestatic 145, 1, 0, [(0, 197)], none) := (L_190_0 5).trans rfl
theorem I_190_8 : ins 190 8 = some (.ifCond .eq 11, 19, 0, [], none) := (L_190_0 8).trans rfl
theorem I_190_11 : ins 190 11 = some (.aload_n 0, 0, 0, [], some [0, 1]) := (L_190_0 11).trans rfl
theorem I_190_12 : ins 190 12 = some (.iload_n 1, 0, 0, [], none) := (L_190_0 12).trans rfl
theorem I_190_13 : ins 190 13 = some (.invokevirtual 198, 1, 0, [(10, 213)], none) := (L_190_0 13).trans rfl
theorem I_190_16 : ins 190 16 = some (.goto 5, 21, 0, [], none) := (L_190_0 16).trans rfl
theorem I_190_19 : ins 190 19 = some (.bipush (-2), 0, 0, [], some []) := (L_190_0 19).trans rfl
theorem I_190_21 : ins 190 21 = some (.ireturn, 0, 0, [], some []) := (L_190_0 21).trans rfl
theorem L_191_0 (pc : Nat) : ins 191 pc = fnd iT191 pc := rfl
theorem I_191_0 : ins 191 0 = some (.iconst 0, 0, 0, [], none) := (L_191_0 0).trans rfl
theorem I_191_1 : ins 191 1 = some (.istore_n 2, 0, 0, [], none) := (L_191_0 1).trans rfl
theorem I_191_2 : ins 191 2 = some (.aload_n 0, 0, 0, [], none) := (L_191_0 2).trans rfl
theorem I_191_3 : ins 191 3 = some (.iconst 0, 0, 0, [], none) := (L_191_0 3).trans rfl
theorem I_191_4 : ins 191 4 = some (.iload_n 1, 0, 0, [], none) := (L_191_0 4).trans rfl
theorem I_191_5 : ins 191 5 = some (.invokevirtual 189, 2, 0, [(10, 210)], none) := (L_191_0 5).trans rfl
theorem I_191_8 : ins 191 8 = some (.istore_n 3, 0, 0, [], none) := (L_191_0 8).trans rfl
theorem I_191_9 : ins 191 9 = some (.iconst 1, 0, 0, [], none) := (L_191_0 9).trans rfl
theorem I_191_10 : ins 191 10 = some (.istore 4, 0, 0, [], none) := (L_191_0 10).trans rfl
theorem I_191_12 : ins 191 12 = some (.iload 4, 0, 0, [], some [0, 1, 2, 3, 4]) := (L_191_0 12).trans rfl
theorem I_191_14 : ins 191 14 = some (.aload_n 0, 0, 0, [], none) := (L_191_0 14).trans rfl
theorem I_191_15 : ins 191 15 = some (.getfield 28, 8, 0, [(10, 102)], none) := (L_191_0 15).trans rfl
theorem I_191_18 : ins 191 18 = some (.iconst 2, 0, 0, [], none) := (L_191_0 18).trans rfl
theorem I_191_19 : ins 191 19 = some (.iaload, 0, 0, [], none) := (L_191_0 19).trans rfl
theorem I_191_20 : ins 191 20 = some (.if_icmp .gt 35, 55, 0, [], none) := (L_191_0 20).trans rfl
theorem I_191_23 : ins 191 23 = some (.aload_n 0, 0, 0, [], some [0, 1, 2, 3, 4]) := (L_191_0 23).trans rfl
theorem I_191_24 : ins 191 24 = some (.iload 4, 0, 0, [], none) := (L_191_0 24).trans rfl
theorem I_191_26 : ins 191 26 = some (.iload_n 1, 0, 0, [], none) := (L_191_0 26).trans rfl
theorem I_191_27 : ins 191 27 = some (.invokevirtual 189, 2, 0, [(10, 210)], none) := (L_191_0 27).trans rfl
theorem I_191_30 : ins 191 30 = some (.istore 5, 0, 0, [], none) := (L_191_0 30).trans rfl
theorem I_191_32 : ins 191 32 = some (.iload_n 2, 0, 0, [], none) := (L_191_0 32).trans rfl
theorem I_191_33 : ins 191 33 = some (.iload 5, 0, 0, [], none) := (L_191_0 33).trans rfl
theorem I_191_35 : ins 191 35 = some (.iload_n 3, 0, 0, [], none) := (L_191_0 35).trans rfl
theorem I_191_36 : ins 191 36 = some (.if_icmp .eq 7, 43, 0, [], none) := (L_191_0 36).trans rfl
theorem I_191_39 : ins 191 39 = some (.iconst 1, 0, 0, [], some [0, 1, 4, 5]) := (L_191_0 39).trans rfl
theorem I_191_40 : ins 191 40 = some (.goto 4, 44, 0, [], none) := (L_191_0 40).trans rfl
theorem I_191_43 : ins 191 43 = some (.iconst 0, 0, 0, [], some [0, 1, 4, 5]) := (L_191_0 43).trans rfl
theorem I_191_44 : ins 191 44 = some (.iadd, 0, 0, [], some [0, 1, 4, 5]) := (L_191_0 44).trans rfl
theorem I_191_45 : ins 191 45 = some (.istore_n 2, 0, 0, [], none) := (L_191_0 45).trans rfl
theorem I_191_46 : ins 191 46 = some (.iload 5, 0, 0, [], none) := (L_191_0 46).trans rfl
theorem I_191_48 : ins 191 48 = some (.istore_n 3, 0, 0, [], none) := (L_191_0 48).trans rfl
theorem I_191_49 : ins 191 49 = some (.iinc 4 1, 0, 0, [], none) := (L_191_0 49).trans rfl
theorem I_191_52 : ins 191 52 = some (.goto (-40), 12, 0, [], none) := (L_191_0 52).trans rfl
theorem I_191_55 : ins 191 55 = some (.iload_n 2, 0, 0, [], some [2]) := (L_191_0 55).trans rfl
theorem I_191_56 : ins 191 56 = some (.ireturn, 0, 0, [], none) := (L_191_0 56).trans rfl
theorem L_192_0 (pc : Nat) : ins 192 pc = fnd iT192 pc := rfl
theorem I_192_0 : ins 192 0 = some (.aload_n 0, 0, 0, [], none) := (L_192_0 0).trans rfl
theorem I_192_1 : ins 192 1 = some (.invokevirtual 134, 0, 0, [(10, 194)], none) := (L_192_0 1).trans rfl
theorem I_192_4 : ins 192 4 = some (.aload_n 0, 0, 0, [], none) := (L_192_0 4).trans rfl
theorem I_192_5 : ins 192 5 = some (.iload_n 1, 0, 0, [], none) := (L_192_0 5).trans rfl
theorem I_192_6 : ins 192 6 = some (.invokevirtual 137, 1, 0, [(10, 195)], none) := (L_192_0 6).trans rfl
theorem I_192_9 : ins 192 9 = some (.ifCond .eq 11, 20, 0, [], none) := (L_192_0 9).trans rfl
theorem I_192_12 : ins 192 12 = some (.aload_n 0, 0, 0, [], some [0, 1]) := (L_192_0 12).trans rfl
theorem I_192_13 : ins 192 13 = some (.iload_n 1, 0, 0, [], none) := (L_192_0 13).trans rfl
theorem I_192_14 : ins 192 14 = some (.invokevirtual 201, 1, 0, [(10, 214)], none) := (L_192_0 14).trans rfl
theorem I_192_17 : ins 192 17 = some (.goto 5, 22, 0, [], none) := (L_192_0 17).trans rfl
theorem I_192_20 : ins 192 20 = some (.bipush (-2), 0, 0, [], some []) := (L_192_0 20).trans rfl
theorem I_192_22 : ins 192 22 = some (.ireturn, 0, 0, [], some []) := (L_192_0 22).trans rfl
