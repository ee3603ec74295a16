/-! shapes, limits, calls by what they give: written by program (gen22.py) -/
theorem S_0 : S0[0]? = some (.inl (9, [some 1, some 3, some 5, some 7, some 8, some 144, some 156, some 159, some 165, some 167, none])) := rfl
theorem S_1 : S0[1]? = some (.inl (7, [some 2, none, none, none, none])) := rfl
theorem S_2 : S0[2]? = some (.inr (0, 47, [])) := rfl
theorem S_3 : S0[3]? = some (.inl (1, [some 4, none, none, none, none])) := rfl
theorem S_4 : S0[4]? = some (.inr (0, 47, [])) := rfl
theorem S_5 : S0[5]? = some (.inl (5, [some 6, none, none, none, none])) := rfl
theorem S_6 : S0[6]? = some (.inr (0, 47, [])) := rfl
theorem S_7 : S0[7]? = some (.inr (2, 3, [some 1, some 3, some 5])) := rfl
theorem S_8 : S0[8]? = some (.inl (8, [some 1, some 3, some 5, some 9, some 36, some 63, some 90, some 117, none, none, none])) := rfl
theorem S_9 : S0[9]? = some (.inr (4, 26, [some 10, some 11, some 12, some 13, some 14, some 15, some 16, some 17, some 18, some 19, some 20, some 21, some 22, some 23, some 24, some 25, some 26, some 27, some 28, some 29, some 30, some 31, some 32, some 33, some 34, some 35])) := rfl
theorem S_36 : S0[36]? = some (.inr (4, 26, [some 37, some 38, some 39, some 40, some 41, some 42, some 43, some 44, some 45, some 46, some 47, some 48, some 49, some 50, some 51, some 52, some 53, some 54, some 55, some 56, some 57, some 58, some 59, some 60, some 61, some 62])) := rfl
theorem S_63 : S0[63]? = some (.inr (4, 26, [some 64, some 65, some 66, some 67, some 68, some 69, some 70, some 71, some 72, some 73, some 74, some 75, some 76, some 77, some 78, some 79, some 80, some 81, some 82, some 83, some 84, some 85, some 86, some 87, some 88, some 89])) := rfl
theorem S_90 : S0[90]? = some (.inr (4, 26, [some 91, some 92, some 93, some 94, some 95, some 96, some 97, some 98, some 99, some 100, some 101, some 102, some 103, some 104, some 105, some 106, some 107, some 108, some 109, some 110, some 111, some 112, some 113, some 114, some 115, some 116])) := rfl
theorem S_117 : S0[117]? = some (.inr (4, 26, [some 118, some 119, some 120, some 121, some 122, some 123, some 124, some 125, some 126, some 127, some 128, some 129, some 130, some 131, some 132, some 133, some 134, some 135, some 136, some 137, some 138, some 139, some 140, some 141, some 142, some 143])) := rfl
theorem S_144 : S0[144]? = some (.inl (2, [some 8, some 3, some 145, some 155])) := rfl
theorem S_145 : S0[145]? = some (.inr (4, 9, [some 146, some 147, some 148, some 149, some 150, some 151, some 152, some 153, some 154])) := rfl
theorem S_155 : S0[155]? = some (.inr (0, 8, [])) := rfl
theorem S_156 : S0[156]? = some (.inl (3, [some 1, some 157, some 158, none, none, none, none])) := rfl
theorem S_157 : S0[157]? = some (.inr (0, 6, [])) := rfl
theorem S_158 : S0[158]? = some (.inr (0, 6, [])) := rfl
theorem S_159 : S0[159]? = some (.inl (4, [some 8, some 1, some 5, some 160, some 161, some 162, some 163, some 164, none, none])) := rfl
theorem S_160 : S0[160]? = some (.inr (0, 8, [])) := rfl
theorem S_161 : S0[161]? = some (.inr (0, 8, [])) := rfl
theorem S_162 : S0[162]? = some (.inr (0, 8, [])) := rfl
theorem S_163 : S0[163]? = some (.inr (0, 28, [])) := rfl
theorem S_164 : S0[164]? = some (.inr (0, 9, [])) := rfl
theorem S_165 : S0[165]? = some (.inl (0, [some 3, some 5, some 166, none, none])) := rfl
theorem S_166 : S0[166]? = some (.inr (1, 10, [])) := rfl
theorem S_167 : S0[167]? = some (.inr (3, 4, [some 168, some 170, some 172, some 174])) := rfl
theorem S_176 : S0[176]? = some (.inl (10, [some 177, some 178, some 179, some 180, none, some 181, some 182, none, some 183, some 184, some 185, some 186, some 187, some 188, some 189, some 190, some 191, some 192, none, some 193, some 194, some 195])) := rfl
theorem S_177 : S0[177]? = some (.inr (0, 4, [])) := rfl
theorem S_178 : S0[178]? = some (.inr (0, 4, [])) := rfl
theorem S_179 : S0[179]? = some (.inr (0, 240, [])) := rfl
theorem S_180 : S0[180]? = some (.inr (0, 60, [])) := rfl
theorem S_181 : S0[181]? = some (.inr (0, 144, [])) := rfl
theorem S_182 : S0[182]? = some (.inr (0, 3, [])) := rfl
theorem S_183 : S0[183]? = some (.inr (0, 3, [])) := rfl
theorem S_184 : S0[184]? = some (.inr (0, 32, [])) := rfl
theorem S_185 : S0[185]? = some (.inr (0, 32, [])) := rfl
theorem S_186 : S0[186]? = some (.inr (0, 24, [])) := rfl
theorem S_187 : S0[187]? = some (.inr (0, 2, [])) := rfl
theorem S_188 : S0[188]? = some (.inr (0, 24, [])) := rfl
theorem S_189 : S0[189]? = some (.inr (0, 8, [])) := rfl
theorem S_190 : S0[190]? = some (.inr (0, 2304, [])) := rfl
theorem S_191 : S0[191]? = some (.inr (0, 6, [])) := rfl
theorem S_192 : S0[192]? = some (.inr (0, 6, [])) := rfl
theorem S_193 : S0[193]? = some (.inr (0, 24, [])) := rfl
theorem S_194 : S0[194]? = some (.inr (0, 200, [])) := rfl
theorem S_195 : S0[195]? = some (.inr (0, 9, [])) := rfl
theorem X_1 : mMax 1 = 6 := rfl
theorem C_1 : mCc 1 = 0 := rfl
theorem Z_1 : mSc 1 = 0 := rfl
theorem T_1 : mRet 1 = none := rfl
theorem X_2 : mMax 2 = 3 := rfl
theorem C_2 : mCc 2 = 0 := rfl
theorem Z_2 : mSc 2 = 0 := rfl
theorem T_2 : mRet 2 = none := rfl
theorem X_3 : mMax 3 = 7 := rfl
theorem C_3 : mCc 3 = 0 := rfl
theorem Z_3 : mSc 3 = 0 := rfl
theorem T_3 : mRet 3 = none := rfl
theorem X_4 : mMax 4 = 2 := rfl
theorem C_4 : mCc 4 = 0 := rfl
theorem Z_4 : mSc 4 = 0 := rfl
theorem T_4 : mRet 4 = none := rfl
theorem X_6 : mMax 6 = 3 := rfl
theorem C_6 : mCc 6 = 0 := rfl
theorem Z_6 : mSc 6 = 0 := rfl
theorem T_6 : mRet 6 = some .boolean := rfl
theorem X_7 : mMax 7 = 2 := rfl
theorem C_7 : mCc 7 = 0 := rfl
theorem Z_7 : mSc 7 = 0 := rfl
theorem T_7 : mRet 7 = some .int := rfl
theorem X_8 : mMax 8 = 2 := rfl
theorem C_8 : mCc 8 = 0 := rfl
theorem Z_8 : mSc 8 = 0 := rfl
theorem T_8 : mRet 8 = some .int := rfl
theorem X_9 : mMax 9 = 2 := rfl
theorem C_9 : mCc 9 = 0 := rfl
theorem Z_9 : mSc 9 = 0 := rfl
theorem T_9 : mRet 9 = some .int := rfl
theorem X_10 : mMax 10 = 2 := rfl
theorem C_10 : mCc 10 = 0 := rfl
theorem Z_10 : mSc 10 = 0 := rfl
theorem T_10 : mRet 10 = some .int := rfl
theorem X_11 : mMax 11 = 2 := rfl
theorem C_11 : mCc 11 = 0 := rfl
theorem Z_11 : mSc 11 = 0 := rfl
theorem T_11 : mRet 11 = some .int := rfl
theorem X_13 : mMax 13 = 1 := rfl
theorem C_13 : mCc 13 = 0 := rfl
theorem Z_13 : mSc 13 = 0 := rfl
theorem T_13 : mRet 13 = some .int := rfl
theorem X_14 : mMax 14 = 2 := rfl
theorem C_14 : mCc 14 = 0 := rfl
theorem Z_14 : mSc 14 = 0 := rfl
theorem T_14 : mRet 14 = some .int := rfl
theorem X_15 : mMax 15 = 4 := rfl
theorem C_15 : mCc 15 = 0 := rfl
theorem Z_15 : mSc 15 = 0 := rfl
theorem T_15 : mRet 15 = none := rfl
theorem X_16 : mMax 16 = 9 := rfl
theorem C_16 : mCc 16 = 0 := rfl
theorem Z_16 : mSc 16 = 0 := rfl
theorem T_16 : mRet 16 = none := rfl
theorem X_17 : mMax 17 = 7 := rfl
theorem C_17 : mCc 17 = 0 := rfl
theorem Z_17 : mSc 17 = 0 := rfl
theorem T_17 : mRet 17 = some .int := rfl
theorem X_19 : mMax 19 = 3 := rfl
theorem C_19 : mCc 19 = 0 := rfl
theorem Z_19 : mSc 19 = 0 := rfl
theorem T_19 : mRet 19 = some .int := rfl
theorem X_20 : mMax 20 = 2 := rfl
theorem C_20 : mCc 20 = 0 := rfl
theorem Z_20 : mSc 20 = 0 := rfl
theorem T_20 : mRet 20 = some .int := rfl
theorem X_21 : mMax 21 = 9 := rfl
theorem C_21 : mCc 21 = 0 := rfl
theorem Z_21 : mSc 21 = 0 := rfl
theorem T_21 : mRet 21 = none := rfl
theorem X_23 : mMax 23 = 5 := rfl
theorem C_23 : mCc 23 = 0 := rfl
theorem Z_23 : mSc 23 = 0 := rfl
theorem T_23 : mRet 23 = some .boolean := rfl
theorem X_24 : mMax 24 = 1 := rfl
theorem C_24 : mCc 24 = 0 := rfl
theorem Z_24 : mSc 24 = 0 := rfl
theorem T_24 : mRet 24 = some .boolean := rfl
theorem X_25 : mMax 25 = 4 := rfl
theorem C_25 : mCc 25 = 0 := rfl
theorem Z_25 : mSc 25 = 0 := rfl
theorem T_25 : mRet 25 = none := rfl
theorem X_26 : mMax 26 = 3 := rfl
theorem C_26 : mCc 26 = 0 := rfl
theorem Z_26 : mSc 26 = 0 := rfl
theorem T_26 : mRet 26 = none := rfl
theorem X_27 : mMax 27 = 1 := rfl
theorem C_27 : mCc 27 = 0 := rfl
theorem Z_27 : mSc 27 = 0 := rfl
theorem T_27 : mRet 27 = some .int := rfl
theorem X_28 : mMax 28 = 6 := rfl
theorem C_28 : mCc 28 = 0 := rfl
theorem Z_28 : mSc 28 = 0 := rfl
theorem T_28 : mRet 28 = some .int := rfl
theorem X_29 : mMax 29 = 5 := rfl
theorem C_29 : mCc 29 = 0 := rfl
theorem Z_29 : mSc 29 = 0 := rfl
theorem T_29 : mRet 29 = some .boolean := rfl
theorem X_30 : mMax 30 = 6 := rfl
theorem C_30 : mCc 30 = 0 := rfl
theorem Z_30 : mSc 30 = 0 := rfl
theorem T_30 : mRet 30 = some .int := rfl
theorem X_31 : mMax 31 = 6 := rfl
theorem C_31 : mCc 31 = 0 := rfl
theorem Z_31 : mSc 31 = 0 := rfl
theorem T_31 : mRet 31 = some .int := rfl
theorem X_33 : mMax 33 = 2 := rfl
theorem C_33 : mCc 33 = 0 := rfl
theorem Z_33 : mSc 33 = 0 := rfl
theorem T_33 : mRet 33 = some .boolean := rfl
theorem X_34 : mMax 34 = 1 := rfl
theorem C_34 : mCc 34 = 0 := rfl
theorem Z_34 : mSc 34 = 0 := rfl
theorem T_34 : mRet 34 = some .int := rfl
theorem X_35 : mMax 35 = 2 := rfl
theorem C_35 : mCc 35 = 0 := rfl
theorem Z_35 : mSc 35 = 0 := rfl
theorem T_35 : mRet 35 = some .int := rfl
theorem X_37 : mMax 37 = 1 := rfl
theorem C_37 : mCc 37 = 0 := rfl
theorem Z_37 : mSc 37 = 0 := rfl
theorem T_37 : mRet 37 = some .boolean := rfl
theorem X_38 : mMax 38 = 4 := rfl
theorem C_38 : mCc 38 = 0 := rfl
theorem Z_38 : mSc 38 = 0 := rfl
theorem T_38 : mRet 38 = none := rfl
theorem X_39 : mMax 39 = 1 := rfl
theorem C_39 : mCc 39 = 0 := rfl
theorem Z_39 : mSc 39 = 0 := rfl
theorem T_39 : mRet 39 = none := rfl
theorem X_40 : mMax 40 = 2 := rfl
theorem C_40 : mCc 40 = 0 := rfl
theorem Z_40 : mSc 40 = 0 := rfl
theorem T_40 : mRet 40 = some .boolean := rfl
theorem X_41 : mMax 41 = 3 := rfl
theorem C_41 : mCc 41 = 0 := rfl
theorem Z_41 : mSc 41 = 0 := rfl
theorem T_41 : mRet 41 = some .boolean := rfl
theorem X_42 : mMax 42 = 3 := rfl
theorem C_42 : mCc 42 = 0 := rfl
theorem Z_42 : mSc 42 = 0 := rfl
theorem T_42 : mRet 42 = none := rfl
theorem X_43 : mMax 43 = 2 := rfl
theorem C_43 : mCc 43 = 0 := rfl
theorem Z_43 : mSc 43 = 0 := rfl
theorem T_43 : mRet 43 = some .int := rfl
theorem X_45 : mMax 45 = 3 := rfl
theorem C_45 : mCc 45 = 0 := rfl
theorem Z_45 : mSc 45 = 0 := rfl
theorem T_45 : mRet 45 = some .boolean := rfl
theorem X_46 : mMax 46 = 2 := rfl
theorem C_46 : mCc 46 = 0 := rfl
theorem Z_46 : mSc 46 = 0 := rfl
theorem T_46 : mRet 46 = some .int := rfl
theorem X_47 : mMax 47 = 2 := rfl
theorem C_47 : mCc 47 = 0 := rfl
theorem Z_47 : mSc 47 = 0 := rfl
theorem T_47 : mRet 47 = some .int := rfl
theorem X_48 : mMax 48 = 2 := rfl
theorem C_48 : mCc 48 = 0 := rfl
theorem Z_48 : mSc 48 = 0 := rfl
theorem T_48 : mRet 48 = some .int := rfl
theorem X_49 : mMax 49 = 2 := rfl
theorem C_49 : mCc 49 = 0 := rfl
theorem Z_49 : mSc 49 = 0 := rfl
theorem T_49 : mRet 49 = some .int := rfl
theorem X_50 : mMax 50 = 2 := rfl
theorem C_50 : mCc 50 = 0 := rfl
theorem Z_50 : mSc 50 = 0 := rfl
theorem T_50 : mRet 50 = some .boolean := rfl
theorem X_52 : mMax 52 = 1 := rfl
theorem C_52 : mCc 52 = 0 := rfl
theorem Z_52 : mSc 52 = 0 := rfl
theorem T_52 : mRet 52 = some .boolean := rfl
theorem X_53 : mMax 53 = 2 := rfl
theorem C_53 : mCc 53 = 0 := rfl
theorem Z_53 : mSc 53 = 0 := rfl
theorem T_53 : mRet 53 = some .boolean := rfl
theorem X_54 : mMax 54 = 2 := rfl
theorem C_54 : mCc 54 = 0 := rfl
theorem Z_54 : mSc 54 = 0 := rfl
theorem T_54 : mRet 54 = none := rfl
theorem X_55 : mMax 55 = 2 := rfl
theorem C_55 : mCc 55 = 0 := rfl
theorem Z_55 : mSc 55 = 0 := rfl
theorem T_55 : mRet 55 = none := rfl
theorem X_56 : mMax 56 = 2 := rfl
theorem C_56 : mCc 56 = 0 := rfl
theorem Z_56 : mSc 56 = 0 := rfl
theorem T_56 : mRet 56 = some .int := rfl
theorem X_57 : mMax 57 = 2 := rfl
theorem C_57 : mCc 57 = 0 := rfl
theorem Z_57 : mSc 57 = 0 := rfl
theorem T_57 : mRet 57 = some .int := rfl
theorem X_58 : mMax 58 = 2 := rfl
theorem C_58 : mCc 58 = 0 := rfl
theorem Z_58 : mSc 58 = 0 := rfl
theorem T_58 : mRet 58 = none := rfl
theorem X_59 : mMax 59 = 2 := rfl
theorem C_59 : mCc 59 = 0 := rfl
theorem Z_59 : mSc 59 = 0 := rfl
theorem T_59 : mRet 59 = some .boolean := rfl
theorem X_61 : mMax 61 = 1 := rfl
theorem C_61 : mCc 61 = 0 := rfl
theorem Z_61 : mSc 61 = 0 := rfl
theorem T_61 : mRet 61 = none := rfl
theorem X_62 : mMax 62 = 3 := rfl
theorem C_62 : mCc 62 = 0 := rfl
theorem Z_62 : mSc 62 = 0 := rfl
theorem T_62 : mRet 62 = some .int := rfl
theorem X_63 : mMax 63 = 3 := rfl
theorem C_63 : mCc 63 = 0 := rfl
theorem Z_63 : mSc 63 = 0 := rfl
theorem T_63 : mRet 63 = some .int := rfl
theorem X_64 : mMax 64 = 2 := rfl
theorem C_64 : mCc 64 = 0 := rfl
theorem Z_64 : mSc 64 = 0 := rfl
theorem T_64 : mRet 64 = none := rfl
theorem X_65 : mMax 65 = 3 := rfl
theorem C_65 : mCc 65 = 0 := rfl
theorem Z_65 : mSc 65 = 0 := rfl
theorem T_65 : mRet 65 = some .int := rfl
theorem X_66 : mMax 66 = 3 := rfl
theorem C_66 : mCc 66 = 0 := rfl
theorem Z_66 : mSc 66 = 0 := rfl
theorem T_66 : mRet 66 = some .int := rfl
theorem X_67 : mMax 67 = 3 := rfl
theorem C_67 : mCc 67 = 0 := rfl
theorem Z_67 : mSc 67 = 0 := rfl
theorem T_67 : mRet 67 = some .int := rfl
theorem X_68 : mMax 68 = 3 := rfl
theorem C_68 : mCc 68 = 0 := rfl
theorem Z_68 : mSc 68 = 0 := rfl
theorem T_68 : mRet 68 = some .int := rfl
theorem X_69 : mMax 69 = 3 := rfl
theorem C_69 : mCc 69 = 0 := rfl
theorem Z_69 : mSc 69 = 0 := rfl
theorem T_69 : mRet 69 = some .int := rfl
theorem X_70 : mMax 70 = 5 := rfl
theorem C_70 : mCc 70 = 0 := rfl
theorem Z_70 : mSc 70 = 0 := rfl
theorem T_70 : mRet 70 = some .int := rfl
theorem X_71 : mMax 71 = 4 := rfl
theorem C_71 : mCc 71 = 0 := rfl
theorem Z_71 : mSc 71 = 0 := rfl
theorem T_71 : mRet 71 = some .int := rfl
theorem X_72 : mMax 72 = 4 := rfl
theorem C_72 : mCc 72 = 0 := rfl
theorem Z_72 : mSc 72 = 0 := rfl
theorem T_72 : mRet 72 = some .int := rfl
theorem X_73 : mMax 73 = 4 := rfl
theorem C_73 : mCc 73 = 0 := rfl
theorem Z_73 : mSc 73 = 0 := rfl
theorem T_73 : mRet 73 = some .int := rfl
theorem X_74 : mMax 74 = 2 := rfl
theorem C_74 : mCc 74 = 0 := rfl
theorem Z_74 : mSc 74 = 0 := rfl
theorem T_74 : mRet 74 = some .int := rfl
theorem X_75 : mMax 75 = 4 := rfl
theorem C_75 : mCc 75 = 0 := rfl
theorem Z_75 : mSc 75 = 0 := rfl
theorem T_75 : mRet 75 = some .int := rfl
theorem X_76 : mMax 76 = 9 := rfl
theorem C_76 : mCc 76 = 0 := rfl
theorem Z_76 : mSc 76 = 0 := rfl
theorem T_76 : mRet 76 = some .int := rfl
theorem X_77 : mMax 77 = 5 := rfl
theorem C_77 : mCc 77 = 0 := rfl
theorem Z_77 : mSc 77 = 0 := rfl
theorem T_77 : mRet 77 = none := rfl
theorem X_78 : mMax 78 = 1 := rfl
theorem C_78 : mCc 78 = 0 := rfl
theorem Z_78 : mSc 78 = 0 := rfl
theorem T_78 : mRet 78 = some .int := rfl
theorem X_79 : mMax 79 = 2 := rfl
theorem C_79 : mCc 79 = 0 := rfl
theorem Z_79 : mSc 79 = 0 := rfl
theorem T_79 : mRet 79 = some .int := rfl
theorem X_80 : mMax 80 = 2 := rfl
theorem C_80 : mCc 80 = 0 := rfl
theorem Z_80 : mSc 80 = 0 := rfl
theorem T_80 : mRet 80 = some .boolean := rfl
theorem X_81 : mMax 81 = 5 := rfl
theorem C_81 : mCc 81 = 0 := rfl
theorem Z_81 : mSc 81 = 0 := rfl
theorem T_81 : mRet 81 = some .int := rfl
theorem X_82 : mMax 82 = 5 := rfl
theorem C_82 : mCc 82 = 0 := rfl
theorem Z_82 : mSc 82 = 0 := rfl
theorem T_82 : mRet 82 = some .int := rfl
theorem X_83 : mMax 83 = 3 := rfl
theorem C_83 : mCc 83 = 0 := rfl
theorem Z_83 : mSc 83 = 0 := rfl
theorem T_83 : mRet 83 = none := rfl
theorem X_84 : mMax 84 = 10 := rfl
theorem C_84 : mCc 84 = 0 := rfl
theorem Z_84 : mSc 84 = 0 := rfl
theorem T_84 : mRet 84 = none := rfl
theorem X_85 : mMax 85 = 2 := rfl
theorem C_85 : mCc 85 = 0 := rfl
theorem Z_85 : mSc 85 = 0 := rfl
theorem T_85 : mRet 85 = some .int := rfl
theorem X_86 : mMax 86 = 1 := rfl
theorem C_86 : mCc 86 = 0 := rfl
theorem Z_86 : mSc 86 = 0 := rfl
theorem T_86 : mRet 86 = some .int := rfl
theorem X_87 : mMax 87 = 8 := rfl
theorem C_87 : mCc 87 = 0 := rfl
theorem Z_87 : mSc 87 = 0 := rfl
theorem T_87 : mRet 87 = none := rfl
theorem X_88 : mMax 88 = 5 := rfl
theorem C_88 : mCc 88 = 0 := rfl
theorem Z_88 : mSc 88 = 0 := rfl
theorem T_88 : mRet 88 = some .int := rfl
theorem X_89 : mMax 89 = 8 := rfl
theorem C_89 : mCc 89 = 0 := rfl
theorem Z_89 : mSc 89 = 0 := rfl
theorem T_89 : mRet 89 = some .int := rfl
theorem X_91 : mMax 91 = 4 := rfl
theorem C_91 : mCc 91 = 0 := rfl
theorem Z_91 : mSc 91 = 0 := rfl
theorem T_91 : mRet 91 = some .int := rfl
theorem X_92 : mMax 92 = 4 := rfl
theorem C_92 : mCc 92 = 0 := rfl
theorem Z_92 : mSc 92 = 0 := rfl
theorem T_92 : mRet 92 = some .int := rfl
theorem X_93 : mMax 93 = 3 := rfl
theorem C_93 : mCc 93 = 0 := rfl
theorem Z_93 : mSc 93 = 0 := rfl
theorem T_93 : mRet 93 = some .int := rfl
theorem X_94 : mMax 94 = 3 := rfl
theorem C_94 : mCc 94 = 0 := rfl
theorem Z_94 : mSc 94 = 0 := rfl
theorem T_94 : mRet 94 = some .int := rfl
theorem X_95 : mMax 95 = 3 := rfl
theorem C_95 : mCc 95 = 0 := rfl
theorem Z_95 : mSc 95 = 0 := rfl
theorem T_95 : mRet 95 = some .int := rfl
theorem X_96 : mMax 96 = 3 := rfl
theorem C_96 : mCc 96 = 0 := rfl
theorem Z_96 : mSc 96 = 0 := rfl
theorem T_96 : mRet 96 = some .int := rfl
theorem X_97 : mMax 97 = 2 := rfl
theorem C_97 : mCc 97 = 0 := rfl
theorem Z_97 : mSc 97 = 0 := rfl
theorem T_97 : mRet 97 = some .int := rfl
theorem X_98 : mMax 98 = 3 := rfl
theorem C_98 : mCc 98 = 0 := rfl
theorem Z_98 : mSc 98 = 0 := rfl
theorem T_98 : mRet 98 = some .int := rfl
theorem X_99 : mMax 99 = 4 := rfl
theorem C_99 : mCc 99 = 0 := rfl
theorem Z_99 : mSc 99 = 0 := rfl
theorem T_99 : mRet 99 = some .int := rfl
theorem X_100 : mMax 100 = 3 := rfl
theorem C_100 : mCc 100 = 0 := rfl
theorem Z_100 : mSc 100 = 0 := rfl
theorem T_100 : mRet 100 = some .int := rfl
theorem X_101 : mMax 101 = 3 := rfl
theorem C_101 : mCc 101 = 0 := rfl
theorem Z_101 : mSc 101 = 0 := rfl
theorem T_101 : mRet 101 = some .int := rfl
theorem X_102 : mMax 102 = 3 := rfl
theorem C_102 : mCc 102 = 0 := rfl
theorem Z_102 : mSc 102 = 0 := rfl
theorem T_102 : mRet 102 = some .int := rfl
theorem X_103 : mMax 103 = 3 := rfl
theorem C_103 : mCc 103 = 0 := rfl
theorem Z_103 : mSc 103 = 0 := rfl
theorem T_103 : mRet 103 = some .int := rfl
theorem X_104 : mMax 104 = 2 := rfl
theorem C_104 : mCc 104 = 0 := rfl
theorem Z_104 : mSc 104 = 0 := rfl
theorem T_104 : mRet 104 = some .int := rfl
theorem X_105 : mMax 105 = 3 := rfl
theorem C_105 : mCc 105 = 0 := rfl
theorem Z_105 : mSc 105 = 0 := rfl
theorem T_105 : mRet 105 = some .int := rfl
theorem X_106 : mMax 106 = 6 := rfl
theorem C_106 : mCc 106 = 0 := rfl
theorem Z_106 : mSc 106 = 0 := rfl
theorem T_106 : mRet 106 = some .int := rfl
theorem X_107 : mMax 107 = 3 := rfl
theorem C_107 : mCc 107 = 0 := rfl
theorem Z_107 : mSc 107 = 0 := rfl
theorem T_107 : mRet 107 = some .int := rfl
theorem X_108 : mMax 108 = 4 := rfl
theorem C_108 : mCc 108 = 0 := rfl
theorem Z_108 : mSc 108 = 0 := rfl
theorem T_108 : mRet 108 = some .int := rfl
theorem X_109 : mMax 109 = 2 := rfl
theorem C_109 : mCc 109 = 0 := rfl
theorem Z_109 : mSc 109 = 0 := rfl
theorem T_109 : mRet 109 = some .int := rfl
theorem X_110 : mMax 110 = 8 := rfl
theorem C_110 : mCc 110 = 0 := rfl
theorem Z_110 : mSc 110 = 0 := rfl
theorem T_110 : mRet 110 = some .int := rfl
theorem X_111 : mMax 111 = 2 := rfl
theorem C_111 : mCc 111 = 0 := rfl
theorem Z_111 : mSc 111 = 0 := rfl
theorem T_111 : mRet 111 = some .int := rfl
theorem X_112 : mMax 112 = 2 := rfl
theorem C_112 : mCc 112 = 0 := rfl
theorem Z_112 : mSc 112 = 0 := rfl
theorem T_112 : mRet 112 = some .int := rfl
theorem X_113 : mMax 113 = 6 := rfl
theorem C_113 : mCc 113 = 0 := rfl
theorem Z_113 : mSc 113 = 0 := rfl
theorem T_113 : mRet 113 = some .long := rfl
theorem X_114 : mMax 114 = 4 := rfl
theorem C_114 : mCc 114 = 0 := rfl
theorem Z_114 : mSc 114 = 0 := rfl
theorem T_114 : mRet 114 = some .int := rfl
theorem X_115 : mMax 115 = 5 := rfl
theorem C_115 : mCc 115 = 0 := rfl
theorem Z_115 : mSc 115 = 0 := rfl
theorem T_115 : mRet 115 = some .int := rfl
theorem X_116 : mMax 116 = 4 := rfl
theorem C_116 : mCc 116 = 0 := rfl
theorem Z_116 : mSc 116 = 0 := rfl
theorem T_116 : mRet 116 = some .int := rfl
theorem X_117 : mMax 117 = 7 := rfl
theorem C_117 : mCc 117 = 0 := rfl
theorem Z_117 : mSc 117 = 0 := rfl
theorem T_117 : mRet 117 = some .int := rfl
theorem X_118 : mMax 118 = 6 := rfl
theorem C_118 : mCc 118 = 0 := rfl
theorem Z_118 : mSc 118 = 0 := rfl
theorem T_118 : mRet 118 = some .int := rfl
theorem X_119 : mMax 119 = 8 := rfl
theorem C_119 : mCc 119 = 0 := rfl
theorem Z_119 : mSc 119 = 0 := rfl
theorem T_119 : mRet 119 = some .int := rfl
theorem X_120 : mMax 120 = 6 := rfl
theorem C_120 : mCc 120 = 0 := rfl
theorem Z_120 : mSc 120 = 0 := rfl
theorem T_120 : mRet 120 = some .int := rfl
theorem X_121 : mMax 121 = 2 := rfl
theorem C_121 : mCc 121 = 0 := rfl
theorem Z_121 : mSc 121 = 0 := rfl
theorem T_121 : mRet 121 = some .int := rfl
theorem X_122 : mMax 122 = 4 := rfl
theorem C_122 : mCc 122 = 0 := rfl
theorem Z_122 : mSc 122 = 0 := rfl
theorem T_122 : mRet 122 = some .long := rfl
theorem X_123 : mMax 123 = 7 := rfl
theorem C_123 : mCc 123 = 0 := rfl
theorem Z_123 : mSc 123 = 0 := rfl
theorem T_123 : mRet 123 = some .long := rfl
theorem X_124 : mMax 124 = 7 := rfl
theorem C_124 : mCc 124 = 0 := rfl
theorem Z_124 : mSc 124 = 0 := rfl
theorem T_124 : mRet 124 = some .long := rfl
theorem X_125 : mMax 125 = 8 := rfl
theorem C_125 : mCc 125 = 0 := rfl
theorem Z_125 : mSc 125 = 0 := rfl
theorem T_125 : mRet 125 = some .long := rfl
theorem X_126 : mMax 126 = 2 := rfl
theorem C_126 : mCc 126 = 0 := rfl
theorem Z_126 : mSc 126 = 0 := rfl
theorem T_126 : mRet 126 = some (.object RX8) ∨ mRet 126 = some (.object RX6) := Or.inl rfl
theorem X_127 : mMax 127 = 2 := rfl
theorem C_127 : mCc 127 = 0 := rfl
theorem Z_127 : mSc 127 = 0 := rfl
theorem T_127 : mRet 127 = some (.object RX8) ∨ mRet 127 = some (.object RX6) := Or.inr rfl
theorem X_128 : mMax 128 = 2 := rfl
theorem C_128 : mCc 128 = 0 := rfl
theorem Z_128 : mSc 128 = 0 := rfl
theorem T_128 : mRet 128 = some .boolean := rfl
theorem X_129 : mMax 129 = 1 := rfl
theorem C_129 : mCc 129 = 0 := rfl
theorem Z_129 : mSc 129 = 0 := rfl
theorem T_129 : mRet 129 = some .boolean := rfl
theorem X_130 : mMax 130 = 2 := rfl
theorem C_130 : mCc 130 = 0 := rfl
theorem Z_130 : mSc 130 = 0 := rfl
theorem T_130 : mRet 130 = some .int := rfl
theorem X_131 : mMax 131 = 2 := rfl
theorem C_131 : mCc 131 = 0 := rfl
theorem Z_131 : mSc 131 = 0 := rfl
theorem T_131 : mRet 131 = some .int := rfl
theorem X_132 : mMax 132 = 3 := rfl
theorem C_132 : mCc 132 = 0 := rfl
theorem Z_132 : mSc 132 = 0 := rfl
theorem T_132 : mRet 132 = some .int := rfl
theorem X_134 : mMax 134 = 6 := rfl
theorem C_134 : mCc 134 = 0 := rfl
theorem Z_134 : mSc 134 = 0 := rfl
theorem T_134 : mRet 134 = some .boolean := rfl
theorem X_135 : mMax 135 = 1 := rfl
theorem C_135 : mCc 135 = 0 := rfl
theorem Z_135 : mSc 135 = 0 := rfl
theorem T_135 : mRet 135 = some .long := rfl
theorem X_136 : mMax 136 = 1 := rfl
theorem C_136 : mCc 136 = 0 := rfl
theorem Z_136 : mSc 136 = 0 := rfl
theorem T_136 : mRet 136 = some .boolean := rfl
theorem X_137 : mMax 137 = 2 := rfl
theorem C_137 : mCc 137 = 0 := rfl
theorem Z_137 : mSc 137 = 0 := rfl
theorem T_137 : mRet 137 = some .boolean := rfl
theorem X_138 : mMax 138 = 3 := rfl
theorem C_138 : mCc 138 = 0 := rfl
theorem Z_138 : mSc 138 = 0 := rfl
theorem T_138 : mRet 138 = some .int := rfl
theorem X_139 : mMax 139 = 2 := rfl
theorem C_139 : mCc 139 = 0 := rfl
theorem Z_139 : mSc 139 = 0 := rfl
theorem T_139 : mRet 139 = some .int := rfl
theorem X_140 : mMax 140 = 1 := rfl
theorem C_140 : mCc 140 = 0 := rfl
theorem Z_140 : mSc 140 = 0 := rfl
theorem T_140 : mRet 140 = some .int := rfl
theorem X_141 : mMax 141 = 11 := rfl
theorem C_141 : mCc 141 = 0 := rfl
theorem Z_141 : mSc 141 = 0 := rfl
theorem T_141 : mRet 141 = some .long := rfl
theorem X_142 : mMax 142 = 2 := rfl
theorem C_142 : mCc 142 = 0 := rfl
theorem Z_142 : mSc 142 = 0 := rfl
theorem T_142 : mRet 142 = some .int := rfl
theorem X_143 : mMax 143 = 1 := rfl
theorem C_143 : mCc 143 = 0 := rfl
theorem Z_143 : mSc 143 = 0 := rfl
theorem T_143 : mRet 143 = some .boolean := rfl
theorem X_144 : mMax 144 = 5 := rfl
theorem C_144 : mCc 144 = 0 := rfl
theorem Z_144 : mSc 144 = 0 := rfl
theorem T_144 : mRet 144 = some .int := rfl
theorem X_145 : mMax 145 = 2 := rfl
theorem C_145 : mCc 145 = 0 := rfl
theorem Z_145 : mSc 145 = 0 := rfl
theorem T_145 : mRet 145 = some .int := rfl
theorem X_146 : mMax 146 = 4 := rfl
theorem C_146 : mCc 146 = 0 := rfl
theorem Z_146 : mSc 146 = 0 := rfl
theorem T_146 : mRet 146 = some .int := rfl
theorem X_147 : mMax 147 = 2 := rfl
theorem C_147 : mCc 147 = 0 := rfl
theorem Z_147 : mSc 147 = 0 := rfl
theorem T_147 : mRet 147 = some .int := rfl
theorem X_148 : mMax 148 = 6 := rfl
theorem C_148 : mCc 148 = 0 := rfl
theorem Z_148 : mSc 148 = 0 := rfl
theorem T_148 : mRet 148 = some .int := rfl
theorem X_149 : mMax 149 = 4 := rfl
theorem C_149 : mCc 149 = 0 := rfl
theorem Z_149 : mSc 149 = 0 := rfl
theorem T_149 : mRet 149 = some .int := rfl
theorem X_150 : mMax 150 = 7 := rfl
theorem C_150 : mCc 150 = 0 := rfl
theorem Z_150 : mSc 150 = 0 := rfl
theorem T_150 : mRet 150 = some .int := rfl
theorem X_151 : mMax 151 = 1 := rfl
theorem C_151 : mCc 151 = 0 := rfl
theorem Z_151 : mSc 151 = 0 := rfl
theorem T_151 : mRet 151 = some .boolean := rfl
theorem X_152 : mMax 152 = 3 := rfl
theorem C_152 : mCc 152 = 0 := rfl
theorem Z_152 : mSc 152 = 0 := rfl
theorem T_152 : mRet 152 = some .int := rfl
theorem X_153 : mMax 153 = 3 := rfl
theorem C_153 : mCc 153 = 0 := rfl
theorem Z_153 : mSc 153 = 0 := rfl
theorem T_153 : mRet 153 = some .int := rfl
theorem X_154 : mMax 154 = 2 := rfl
theorem C_154 : mCc 154 = 0 := rfl
theorem Z_154 : mSc 154 = 0 := rfl
theorem T_154 : mRet 154 = some .int := rfl
theorem X_155 : mMax 155 = 2 := rfl
theorem C_155 : mCc 155 = 0 := rfl
theorem Z_155 : mSc 155 = 0 := rfl
theorem T_155 : mRet 155 = some .int := rfl
theorem X_156 : mMax 156 = 2 := rfl
theorem C_156 : mCc 156 = 0 := rfl
theorem Z_156 : mSc 156 = 0 := rfl
theorem T_156 : mRet 156 = some .int := rfl
theorem X_157 : mMax 157 = 1 := rfl
theorem C_157 : mCc 157 = 0 := rfl
theorem Z_157 : mSc 157 = 0 := rfl
theorem T_157 : mRet 157 = some .int := rfl
theorem X_158 : mMax 158 = 3 := rfl
theorem C_158 : mCc 158 = 0 := rfl
theorem Z_158 : mSc 158 = 0 := rfl
theorem T_158 : mRet 158 = some .boolean := rfl
theorem X_159 : mMax 159 = 5 := rfl
theorem C_159 : mCc 159 = 0 := rfl
theorem Z_159 : mSc 159 = 0 := rfl
theorem T_159 : mRet 159 = some .boolean := rfl
theorem X_160 : mMax 160 = 3 := rfl
theorem C_160 : mCc 160 = 0 := rfl
theorem Z_160 : mSc 160 = 0 := rfl
theorem T_160 : mRet 160 = some .boolean := rfl
theorem X_161 : mMax 161 = 4 := rfl
theorem C_161 : mCc 161 = 0 := rfl
theorem Z_161 : mSc 161 = 0 := rfl
theorem T_161 : mRet 161 = some .int := rfl
theorem X_162 : mMax 162 = 4 := rfl
theorem C_162 : mCc 162 = 0 := rfl
theorem Z_162 : mSc 162 = 0 := rfl
theorem T_162 : mRet 162 = some .int := rfl
theorem X_163 : mMax 163 = 2 := rfl
theorem C_163 : mCc 163 = 0 := rfl
theorem Z_163 : mSc 163 = 0 := rfl
theorem T_163 : mRet 163 = none := rfl
theorem X_164 : mMax 164 = 2 := rfl
theorem C_164 : mCc 164 = 0 := rfl
theorem Z_164 : mSc 164 = 0 := rfl
theorem T_164 : mRet 164 = some .int := rfl
theorem X_165 : mMax 165 = 2 := rfl
theorem C_165 : mCc 165 = 0 := rfl
theorem Z_165 : mSc 165 = 0 := rfl
theorem T_165 : mRet 165 = some .boolean := rfl
theorem X_166 : mMax 166 = 2 := rfl
theorem C_166 : mCc 166 = 0 := rfl
theorem Z_166 : mSc 166 = 0 := rfl
theorem T_166 : mRet 166 = some .boolean := rfl
theorem X_167 : mMax 167 = 2 := rfl
theorem C_167 : mCc 167 = 0 := rfl
theorem Z_167 : mSc 167 = 0 := rfl
theorem T_167 : mRet 167 = some .boolean := rfl
theorem X_168 : mMax 168 = 3 := rfl
theorem C_168 : mCc 168 = 0 := rfl
theorem Z_168 : mSc 168 = 0 := rfl
theorem T_168 : mRet 168 = some .int := rfl
theorem X_169 : mMax 169 = 3 := rfl
theorem C_169 : mCc 169 = 0 := rfl
theorem Z_169 : mSc 169 = 0 := rfl
theorem T_169 : mRet 169 = some .int := rfl
theorem X_170 : mMax 170 = 2 := rfl
theorem C_170 : mCc 170 = 0 := rfl
theorem Z_170 : mSc 170 = 0 := rfl
theorem T_170 : mRet 170 = some .int := rfl
theorem X_171 : mMax 171 = 4 := rfl
theorem C_171 : mCc 171 = 0 := rfl
theorem Z_171 : mSc 171 = 0 := rfl
theorem T_171 : mRet 171 = some .int := rfl
theorem X_172 : mMax 172 = 2 := rfl
theorem C_172 : mCc 172 = 0 := rfl
theorem Z_172 : mSc 172 = 0 := rfl
theorem T_172 : mRet 172 = none := rfl
theorem X_173 : mMax 173 = 1 := rfl
theorem C_173 : mCc 173 = 0 := rfl
theorem Z_173 : mSc 173 = 0 := rfl
theorem T_173 : mRet 173 = some .int := rfl
theorem X_174 : mMax 174 = 4 := rfl
theorem C_174 : mCc 174 = 0 := rfl
theorem Z_174 : mSc 174 = 0 := rfl
theorem T_174 : mRet 174 = none := rfl
theorem X_175 : mMax 175 = 3 := rfl
theorem C_175 : mCc 175 = 0 := rfl
theorem Z_175 : mSc 175 = 0 := rfl
theorem T_175 : mRet 175 = none := rfl
theorem X_176 : mMax 176 = 4 := rfl
theorem C_176 : mCc 176 = 0 := rfl
theorem Z_176 : mSc 176 = 0 := rfl
theorem T_176 : mRet 176 = some .boolean := rfl
theorem X_177 : mMax 177 = 6 := rfl
theorem C_177 : mCc 177 = 0 := rfl
theorem Z_177 : mSc 177 = 0 := rfl
theorem T_177 : mRet 177 = some .int := rfl
theorem X_178 : mMax 178 = 4 := rfl
theorem C_178 : mCc 178 = 0 := rfl
theorem Z_178 : mSc 178 = 0 := rfl
theorem T_178 : mRet 178 = none := rfl
theorem X_179 : mMax 179 = 3 := rfl
theorem C_179 : mCc 179 = 0 := rfl
theorem Z_179 : mSc 179 = 0 := rfl
theorem T_179 : mRet 179 = none := rfl
theorem X_180 : mMax 180 = 4 := rfl
theorem C_180 : mCc 180 = 0 := rfl
theorem Z_180 : mSc 180 = 0 := rfl
theorem T_180 : mRet 180 = some .int := rfl
theorem X_181 : mMax 181 = 4 := rfl
theorem C_181 : mCc 181 = 0 := rfl
theorem Z_181 : mSc 181 = 0 := rfl
theorem T_181 : mRet 181 = some .int := rfl
theorem X_182 : mMax 182 = 5 := rfl
theorem C_182 : mCc 182 = 0 := rfl
theorem Z_182 : mSc 182 = 0 := rfl
theorem T_182 : mRet 182 = some .int := rfl
theorem X_183 : mMax 183 = 3 := rfl
theorem C_183 : mCc 183 = 0 := rfl
theorem Z_183 : mSc 183 = 0 := rfl
theorem T_183 : mRet 183 = some .int := rfl
theorem X_184 : mMax 184 = 3 := rfl
theorem C_184 : mCc 184 = 0 := rfl
theorem Z_184 : mSc 184 = 0 := rfl
theorem T_184 : mRet 184 = some .int := rfl
theorem X_185 : mMax 185 = 3 := rfl
theorem C_185 : mCc 185 = 0 := rfl
theorem Z_185 : mSc 185 = 0 := rfl
theorem T_185 : mRet 185 = some .int := rfl
theorem X_186 : mMax 186 = 3 := rfl
theorem C_186 : mCc 186 = 0 := rfl
theorem Z_186 : mSc 186 = 0 := rfl
theorem T_186 : mRet 186 = some .int := rfl
theorem X_187 : mMax 187 = 5 := rfl
theorem C_187 : mCc 187 = 0 := rfl
theorem Z_187 : mSc 187 = 0 := rfl
theorem T_187 : mRet 187 = some .int := rfl
theorem X_188 : mMax 188 = 3 := rfl
theorem C_188 : mCc 188 = 0 := rfl
theorem Z_188 : mSc 188 = 0 := rfl
theorem T_188 : mRet 188 = some .int := rfl
theorem X_189 : mMax 189 = 4 := rfl
theorem C_189 : mCc 189 = 0 := rfl
theorem Z_189 : mSc 189 = 0 := rfl
theorem T_189 : mRet 189 = some .int := rfl
theorem X_190 : mMax 190 = 2 := rfl
theorem C_190 : mCc 190 = 0 := rfl
theorem Z_190 : mSc 190 = 0 := rfl
theorem T_190 : mRet 190 = some .int := rfl
theorem X_191 : mMax 191 = 6 := rfl
theorem C_191 : mCc 191 = 0 := rfl
theorem Z_191 : mSc 191 = 0 := rfl
theorem T_191 : mRet 191 = some .int := rfl
theorem X_192 : mMax 192 = 2 := rfl
theorem C_192 : mCc 192 = 0 := rfl
theorem Z_192 : mSc 192 = 0 := rfl
theorem T_192 : mRet 192 = some .int := rfl
theorem X_193 : mMax 193 = 8 := rfl
theorem C_193 : mCc 193 = 0 := rfl
theorem Z_193 : mSc 193 = 0 := rfl
theorem T_193 : mRet 193 = some .int := rfl
theorem X_194 : mMax 194 = 3 := rfl
theorem C_194 : mCc 194 = 0 := rfl
theorem Z_194 : mSc 194 = 0 := rfl
theorem T_194 : mRet 194 = some .int := rfl
theorem X_195 : mMax 195 = 6 := rfl
theorem C_195 : mCc 195 = 0 := rfl
theorem Z_195 : mSc 195 = 0 := rfl
theorem T_195 : mRet 195 = none := rfl
theorem X_196 : mMax 196 = 14 := rfl
theorem C_196 : mCc 196 = 0 := rfl
theorem Z_196 : mSc 196 = 0 := rfl
theorem T_196 : mRet 196 = some .int := rfl
theorem X_197 : mMax 197 = 4 := rfl
theorem C_197 : mCc 197 = 0 := rfl
theorem Z_197 : mSc 197 = 0 := rfl
theorem T_197 : mRet 197 = some .int := rfl
theorem X_198 : mMax 198 = 10 := rfl
theorem C_198 : mCc 198 = 0 := rfl
theorem Z_198 : mSc 198 = 0 := rfl
theorem T_198 : mRet 198 = some .int := rfl
theorem X_199 : mMax 199 = 3 := rfl
theorem C_199 : mCc 199 = 0 := rfl
theorem Z_199 : mSc 199 = 0 := rfl
theorem T_199 : mRet 199 = some .int := rfl
theorem X_200 : mMax 200 = 4 := rfl
theorem C_200 : mCc 200 = 0 := rfl
theorem Z_200 : mSc 200 = 0 := rfl
theorem T_200 : mRet 200 = some .int := rfl
theorem X_201 : mMax 201 = 2 := rfl
theorem C_201 : mCc 201 = 0 := rfl
theorem Z_201 : mSc 201 = 0 := rfl
theorem T_201 : mRet 201 = some .int := rfl
theorem X_202 : mMax 202 = 5 := rfl
theorem C_202 : mCc 202 = 0 := rfl
theorem Z_202 : mSc 202 = 0 := rfl
theorem T_202 : mRet 202 = some .int := rfl
theorem X_203 : mMax 203 = 3 := rfl
theorem C_203 : mCc 203 = 0 := rfl
theorem Z_203 : mSc 203 = 0 := rfl
theorem T_203 : mRet 203 = none := rfl
theorem X_204 : mMax 204 = 3 := rfl
theorem C_204 : mCc 204 = 0 := rfl
theorem Z_204 : mSc 204 = 0 := rfl
theorem T_204 : mRet 204 = some .int := rfl
theorem X_205 : mMax 205 = 7 := rfl
theorem C_205 : mCc 205 = 0 := rfl
theorem Z_205 : mSc 205 = 0 := rfl
theorem T_205 : mRet 205 = some .boolean := rfl
theorem X_206 : mMax 206 = 6 := rfl
theorem C_206 : mCc 206 = 0 := rfl
theorem Z_206 : mSc 206 = 0 := rfl
theorem T_206 : mRet 206 = some .int := rfl
theorem X_207 : mMax 207 = 2 := rfl
theorem C_207 : mCc 207 = 0 := rfl
theorem Z_207 : mSc 207 = 0 := rfl
theorem T_207 : mRet 207 = some .int := rfl
theorem X_208 : mMax 208 = 7 := rfl
theorem C_208 : mCc 208 = 0 := rfl
theorem Z_208 : mSc 208 = 0 := rfl
theorem T_208 : mRet 208 = some .int := rfl
theorem X_209 : mMax 209 = 6 := rfl
theorem C_209 : mCc 209 = 0 := rfl
theorem Z_209 : mSc 209 = 0 := rfl
theorem T_209 : mRet 209 = some .int := rfl
theorem X_210 : mMax 210 = 2 := rfl
theorem C_210 : mCc 210 = 0 := rfl
theorem Z_210 : mSc 210 = 0 := rfl
theorem T_210 : mRet 210 = some .int := rfl
theorem X_211 : mMax 211 = 16 := rfl
theorem C_211 : mCc 211 = 0 := rfl
theorem Z_211 : mSc 211 = 0 := rfl
theorem T_211 : mRet 211 = some .long := rfl
theorem X_212 : mMax 212 = 5 := rfl
theorem C_212 : mCc 212 = 0 := rfl
theorem Z_212 : mSc 212 = 0 := rfl
theorem T_212 : mRet 212 = some .long := rfl
theorem X_213 : mMax 213 = 6 := rfl
theorem C_213 : mCc 213 = 0 := rfl
theorem Z_213 : mSc 213 = 0 := rfl
theorem T_213 : mRet 213 = some .int := rfl
theorem X_214 : mMax 214 = 4 := rfl
theorem C_214 : mCc 214 = 0 := rfl
theorem Z_214 : mSc 214 = 0 := rfl
theorem T_214 : mRet 214 = some .int := rfl
theorem X_215 : mMax 215 = 5 := rfl
theorem C_215 : mCc 215 = 0 := rfl
theorem Z_215 : mSc 215 = 0 := rfl
theorem T_215 : mRet 215 = some .int := rfl
theorem X_216 : mMax 216 = 2 := rfl
theorem C_216 : mCc 216 = 0 := rfl
theorem Z_216 : mSc 216 = 0 := rfl
theorem T_216 : mRet 216 = some .int := rfl
theorem X_217 : mMax 217 = 8 := rfl
theorem C_217 : mCc 217 = 0 := rfl
theorem Z_217 : mSc 217 = 0 := rfl
theorem T_217 : mRet 217 = some .long := rfl
theorem X_218 : mMax 218 = 5 := rfl
theorem C_218 : mCc 218 = 0 := rfl
theorem Z_218 : mSc 218 = 0 := rfl
theorem T_218 : mRet 218 = some .long := rfl
theorem X_219 : mMax 219 = 1 := rfl
theorem C_219 : mCc 219 = 0 := rfl
theorem Z_219 : mSc 219 = 0 := rfl
theorem T_219 : mRet 219 = some .int := rfl
theorem lt_e {m n k : Nat} (h : mMax m = k) (hn : Nat.blt n k = true) : n < mMax m := by rw [h]; exact Nat.le_of_ble_eq_true hn
theorem inB_lt {j : Int32} {n : Nat} (h : inB j n = true) : j.toNatClampNeg < n := by
  have := of_decide_eq_true h
  omega
theorem G_9 {j : Int32} (h : inB j 26 = true) : S0[10 + j.toNatClampNeg]? = some (.inr (0, 8, [])) := by
  have := inB_lt h
  generalize j.toNatClampNeg = q at *
  exact (show ∀ q : Fin 26, S0[10 + q.1]? = some (.inr (0, 8, [])) by decide +kernel) ⟨q, this⟩
theorem G_36 {j : Int32} (h : inB j 26 = true) : S0[37 + j.toNatClampNeg]? = some (.inr (0, 8, [])) := by
  have := inB_lt h
  generalize j.toNatClampNeg = q at *
  exact (show ∀ q : Fin 26, S0[37 + q.1]? = some (.inr (0, 8, [])) by decide +kernel) ⟨q, this⟩
theorem G_63 {j : Int32} (h : inB j 26 = true) : S0[64 + j.toNatClampNeg]? = some (.inr (0, 8, [])) := by
  have := inB_lt h
  generalize j.toNatClampNeg = q at *
  exact (show ∀ q : Fin 26, S0[64 + q.1]? = some (.inr (0, 8, [])) by decide +kernel) ⟨q, this⟩
theorem G_90 {j : Int32} (h : inB j 26 = true) : S0[91 + j.toNatClampNeg]? = some (.inr (0, 8, [])) := by
  have := inB_lt h
  generalize j.toNatClampNeg = q at *
  exact (show ∀ q : Fin 26, S0[91 + q.1]? = some (.inr (0, 8, [])) by decide +kernel) ⟨q, this⟩
theorem G_117 {j : Int32} (h : inB j 26 = true) : S0[118 + j.toNatClampNeg]? = some (.inr (0, 8, [])) := by
  have := inB_lt h
  generalize j.toNatClampNeg = q at *
  exact (show ∀ q : Fin 26, S0[118 + q.1]? = some (.inr (0, 8, [])) by decide +kernel) ⟨q, this⟩
theorem G_145 {j : Int32} (h : inB j 9 = true) : S0[146 + j.toNatClampNeg]? = some (.inr (0, 256, [])) := by
  have := inB_lt h
  generalize j.toNatClampNeg = q at *
  exact (show ∀ q : Fin 9, S0[146 + q.1]? = some (.inr (0, 256, [])) by decide +kernel) ⟨q, this⟩
theorem G_sheet {j : Int32} (h : inB j 4 = true) : S0[168 + 2 * j.toNatClampNeg]? = some (.inl (6, [some (169 + 2 * j.toNatClampNeg), none, none])) := by
  have := inB_lt h
  generalize j.toNatClampNeg = q at *
  exact (show ∀ q : Fin 4, S0[168 + 2 * q.1]? = some (.inl (6, [some (169 + 2 * q.1), none, none])) by decide +kernel) ⟨q, this⟩
theorem G_items {j : Int32} (h : inB j 4 = true) : S0[169 + 2 * j.toNatClampNeg]? = some (.inr (0, 60, [])) := by
  have := inB_lt h
  generalize j.toNatClampNeg = q at *
  exact (show ∀ q : Fin 4, S0[169 + 2 * q.1]? = some (.inr (0, 60, [])) by decide +kernel) ⟨q, this⟩
theorem K_9 {j : Int32} (h : inB j 26 = true) : ([some 10, some 11, some 12, some 13, some 14, some 15, some 16, some 17, some 18, some 19, some 20, some 21, some 22, some 23, some 24, some 25, some 26, some 27, some 28, some 29, some 30, some 31, some 32, some 33, some 34, some 35] : List (Option Nat)).getD j.toNatClampNeg none = some (10 + j.toNatClampNeg) := by
  have := inB_lt h
  generalize j.toNatClampNeg = q at *
  exact (show ∀ q : Fin 26, ([some 10, some 11, some 12, some 13, some 14, some 15, some 16, some 17, some 18, some 19, some 20, some 21, some 22, some 23, some 24, some 25, some 26, some 27, some 28, some 29, some 30, some 31, some 32, some 33, some 34, some 35] : List (Option Nat)).getD q.1 none = some (10 + q.1) by decide +kernel) ⟨q, this⟩
theorem K_36 {j : Int32} (h : inB j 26 = true) : ([some 37, some 38, some 39, some 40, some 41, some 42, some 43, some 44, some 45, some 46, some 47, some 48, some 49, some 50, some 51, some 52, some 53, some 54, some 55, some 56, some 57, some 58, some 59, some 60, some 61, some 62] : List (Option Nat)).getD j.toNatClampNeg none = some (37 + j.toNatClampNeg) := by
  have := inB_lt h
  generalize j.toNatClampNeg = q at *
  exact (show ∀ q : Fin 26, ([some 37, some 38, some 39, some 40, some 41, some 42, some 43, some 44, some 45, some 46, some 47, some 48, some 49, some 50, some 51, some 52, some 53, some 54, some 55, some 56, some 57, some 58, some 59, some 60, some 61, some 62] : List (Option Nat)).getD q.1 none = some (37 + q.1) by decide +kernel) ⟨q, this⟩
theorem K_63 {j : Int32} (h : inB j 26 = true) : ([some 64, some 65, some 66, some 67, some 68, some 69, some 70, some 71, some 72, some 73, some 74, some 75, some 76, some 77, some 78, some 79, some 80, some 81, some 82, some 83, some 84, some 85, some 86, some 87, some 88, some 89] : List (Option Nat)).getD j.toNatClampNeg none = some (64 + j.toNatClampNeg) := by
  have := inB_lt h
  generalize j.toNatClampNeg = q at *
  exact (show ∀ q : Fin 26, ([some 64, some 65, some 66, some 67, some 68, some 69, some 70, some 71, some 72, some 73, some 74, some 75, some 76, some 77, some 78, some 79, some 80, some 81, some 82, some 83, some 84, some 85, some 86, some 87, some 88, some 89] : List (Option Nat)).getD q.1 none = some (64 + q.1) by decide +kernel) ⟨q, this⟩
theorem K_90 {j : Int32} (h : inB j 26 = true) : ([some 91, some 92, some 93, some 94, some 95, some 96, some 97, some 98, some 99, some 100, some 101, some 102, some 103, some 104, some 105, some 106, some 107, some 108, some 109, some 110, some 111, some 112, some 113, some 114, some 115, some 116] : List (Option Nat)).getD j.toNatClampNeg none = some (91 + j.toNatClampNeg) := by
  have := inB_lt h
  generalize j.toNatClampNeg = q at *
  exact (show ∀ q : Fin 26, ([some 91, some 92, some 93, some 94, some 95, some 96, some 97, some 98, some 99, some 100, some 101, some 102, some 103, some 104, some 105, some 106, some 107, some 108, some 109, some 110, some 111, some 112, some 113, some 114, some 115, some 116] : List (Option Nat)).getD q.1 none = some (91 + q.1) by decide +kernel) ⟨q, this⟩
theorem K_117 {j : Int32} (h : inB j 26 = true) : ([some 118, some 119, some 120, some 121, some 122, some 123, some 124, some 125, some 126, some 127, some 128, some 129, some 130, some 131, some 132, some 133, some 134, some 135, some 136, some 137, some 138, some 139, some 140, some 141, some 142, some 143] : List (Option Nat)).getD j.toNatClampNeg none = some (118 + j.toNatClampNeg) := by
  have := inB_lt h
  generalize j.toNatClampNeg = q at *
  exact (show ∀ q : Fin 26, ([some 118, some 119, some 120, some 121, some 122, some 123, some 124, some 125, some 126, some 127, some 128, some 129, some 130, some 131, some 132, some 133, some 134, some 135, some 136, some 137, some 138, some 139, some 140, some 141, some 142, some 143] : List (Option Nat)).getD q.1 none = some (118 + q.1) by decide +kernel) ⟨q, this⟩
theorem K_145 {j : Int32} (h : inB j 9 = true) : ([some 146, some 147, some 148, some 149, some 150, some 151, some 152, some 153, some 154] : List (Option Nat)).getD j.toNatClampNeg none = some (146 + j.toNatClampNeg) := by
  have := inB_lt h
  generalize j.toNatClampNeg = q at *
  exact (show ∀ q : Fin 9, ([some 146, some 147, some 148, some 149, some 150, some 151, some 152, some 153, some 154] : List (Option Nat)).getD q.1 none = some (146 + q.1) by decide +kernel) ⟨q, this⟩
theorem K_167 {j : Int32} (h : inB j 4 = true) : ([some 168, some 170, some 172, some 174] : List (Option Nat)).getD j.toNatClampNeg none = some (168 + 2 * j.toNatClampNeg) := by
  have := inB_lt h
  generalize j.toNatClampNeg = q at *
  exact (show ∀ q : Fin 4, ([some 168, some 170, some 172, some 174] : List (Option Nat)).getD q.1 none = some (168 + 2 * q.1) by decide +kernel) ⟨q, this⟩
theorem okC_i {f : Nat} {as rest : List Value} (h1 : Nat.ble (rest.map fun v => v.category).sum 8 = true) (h2 : Nat.ble (lg_sl as).length (mMax f) = true) (h3 : Nat.blt f 220 = true) : okC f as rest := ⟨Nat.le_of_ble_eq_true h1, Nat.le_of_ble_eq_true h2, Nat.le_of_ble_eq_true h3⟩
def RI (K : Int32 → tDi → tDl → Prop) : tP := fun v di dl => ∃ r, v = some (.int r) ∧ K r di dl
def RJ (K : Int64 → tDi → tDl → Prop) : tP := fun v di dl => ∃ r, v = some (.long r) ∧ K r di dl
def RR (K : Value → tDi → tDl → Prop) : tP := fun v di dl => ∃ r, v = some r ∧ K r di dl
def RV (K : tDi → tDl → Prop) : tP := fun v di dl => v = none ∧ K di dl
section CALLS
variable {sc : tSc} {d m pc t : Nat} {c : Int} {ps : List (Nat × Nat)} {ls : tF} {st : List Value} {di : tDi} {dl : tDl} {P : tP}
theorem wi_virtI {n a ci e f q : Nat} {rf : List (Option Nat)} (as rest : List Value) (hS : S0[a]? = some (.inl (ci, rf))) (hf : calleeOf ps ci = some (f, q)) (hq : q < 2) (h1 : st.drop t = .ref a :: rest) (h2 : (st.take t).reverse = as) (h3 : (st.take t).length = t) (hc : okC f (.ref a :: as) rest) (h0 : mCc f = 0) (he : e < d) (k : ClI e f (.ref a :: as) di dl (fun r di' dl' => Wq sc d m (pc + 3) ls (.int r :: rest) di' dl' P)) : WI sc d m (.invokevirtual n) t c ps pc ls st di dl P := wi_virt as rest hS hf hq h1 h2 h3 hc h0 he (Cl_mono (by rintro v di dl ⟨r, rfl, h⟩; exact h) k)
theorem wi_virtJ {n a ci e f q : Nat} {rf : List (Option Nat)} (as rest : List Value) (hS : S0[a]? = some (.inl (ci, rf))) (hf : calleeOf ps ci = some (f, q)) (hq : q < 2) (h1 : st.drop t = .ref a :: rest) (h2 : (st.take t).reverse = as) (h3 : (st.take t).length = t) (hc : okC f (.ref a :: as) rest) (h0 : mCc f = 0) (he : e < d) (k : ClJ e f (.ref a :: as) di dl (fun r di' dl' => Wq sc d m (pc + 3) ls (.long r :: rest) di' dl' P)) : WI sc d m (.invokevirtual n) t c ps pc ls st di dl P := wi_virt as rest hS hf hq h1 h2 h3 hc h0 he (Cl_mono (by rintro v di dl ⟨r, rfl, h⟩; exact h) k)
theorem wi_virtR {n a ci e f q : Nat} {rf : List (Option Nat)} (as rest : List Value) (hS : S0[a]? = some (.inl (ci, rf))) (hf : calleeOf ps ci = some (f, q)) (hq : q < 2) (h1 : st.drop t = .ref a :: rest) (h2 : (st.take t).reverse = as) (h3 : (st.take t).length = t) (hc : okC f (.ref a :: as) rest) (h0 : mCc f = 0) (he : e < d) (k : ClR e f (.ref a :: as) di dl (fun r di' dl' => Wq sc d m (pc + 3) ls (r :: rest) di' dl' P)) : WI sc d m (.invokevirtual n) t c ps pc ls st di dl P := wi_virt as rest hS hf hq h1 h2 h3 hc h0 he (Cl_mono (by rintro v di dl ⟨r, rfl, h⟩; exact h) k)
theorem wi_virtV {n a ci e f q : Nat} {rf : List (Option Nat)} (as rest : List Value) (hS : S0[a]? = some (.inl (ci, rf))) (hf : calleeOf ps ci = some (f, q)) (hq : q < 2) (h1 : st.drop t = .ref a :: rest) (h2 : (st.take t).reverse = as) (h3 : (st.take t).length = t) (hc : okC f (.ref a :: as) rest) (h0 : mCc f = 0) (he : e < d) (k : ClV e f (.ref a :: as) di dl (fun di' dl' => Wq sc d m (pc + 3) ls rest di' dl' P)) : WI sc d m (.invokevirtual n) t c ps pc ls st di dl P := wi_virt as rest hS hf hq h1 h2 h3 hc h0 he (Cl_mono (by rintro v di dl ⟨rfl, h⟩; exact h) k)
theorem wi_statI {n e f q : Nat} (as rest : List Value) (hf : calleeOf ps 0 = some (f, q)) (hq : q = 2 ∨ q = 6) (h1 : st.drop t = rest) (h2 : (st.take t).reverse = as) (h3 : (st.take t).length = t) (hc : okC f (as) rest) (h0 : mCc f = 0) (he : e < d) (k : ClI e f (as) di dl (fun r di' dl' => Wq sc d m (pc + 3) ls (.int r :: rest) di' dl' P)) : WI sc d m (.invokestatic n) t c ps pc ls st di dl P := wi_stat as rest hf hq h1 h2 h3 hc h0 he (Cl_mono (by rintro v di dl ⟨r, rfl, h⟩; exact h) k)
theorem wi_statJ {n e f q : Nat} (as rest : List Value) (hf : calleeOf ps 0 = some (f, q)) (hq : q = 2 ∨ q = 6) (h1 : st.drop t = rest) (h2 : (st.take t).reverse = as) (h3 : (st.take t).length = t) (hc : okC f (as) rest) (h0 : mCc f = 0) (he : e < d) (k : ClJ e f (as) di dl (fun r di' dl' => Wq sc d m (pc + 3) ls (.long r :: rest) di' dl' P)) : WI sc d m (.invokestatic n) t c ps pc ls st di dl P := wi_stat as rest hf hq h1 h2 h3 hc h0 he (Cl_mono (by rintro v di dl ⟨r, rfl, h⟩; exact h) k)
theorem wi_statR {n e f q : Nat} (as rest : List Value) (hf : calleeOf ps 0 = some (f, q)) (hq : q = 2 ∨ q = 6) (h1 : st.drop t = rest) (h2 : (st.take t).reverse = as) (h3 : (st.take t).length = t) (hc : okC f (as) rest) (h0 : mCc f = 0) (he : e < d) (k : ClR e f (as) di dl (fun r di' dl' => Wq sc d m (pc + 3) ls (r :: rest) di' dl' P)) : WI sc d m (.invokestatic n) t c ps pc ls st di dl P := wi_stat as rest hf hq h1 h2 h3 hc h0 he (Cl_mono (by rintro v di dl ⟨r, rfl, h⟩; exact h) k)
theorem wi_statV {n e f q : Nat} (as rest : List Value) (hf : calleeOf ps 0 = some (f, q)) (hq : q = 2 ∨ q = 6) (h1 : st.drop t = rest) (h2 : (st.take t).reverse = as) (h3 : (st.take t).length = t) (hc : okC f (as) rest) (h0 : mCc f = 0) (he : e < d) (k : ClV e f (as) di dl (fun di' dl' => Wq sc d m (pc + 3) ls rest di' dl' P)) : WI sc d m (.invokestatic n) t c ps pc ls st di dl P := wi_stat as rest hf hq h1 h2 h3 hc h0 he (Cl_mono (by rintro v di dl ⟨rfl, h⟩; exact h) k)
theorem wi_specI {n a e f q : Nat} (as rest : List Value) (hf : calleeOf ps 0 = some (f, q)) (hq : q = 3 ∨ q = 4) (h1 : st.drop t = .ref a :: rest) (h2 : (st.take t).reverse = as) (h3 : (st.take t).length = t) (hc : okC f (.ref a :: as) rest) (h0 : mCc f = 0) (he : e < d) (k : ClI e f (.ref a :: as) di dl (fun r di' dl' => Wq sc d m (pc + 3) ls (.int r :: rest) di' dl' P)) : WI sc d m (.invokespecial n) t c ps pc ls st di dl P := wi_spec as rest hf hq h1 h2 h3 hc h0 he (Cl_mono (by rintro v di dl ⟨r, rfl, h⟩; exact h) k)
theorem wi_specJ {n a e f q : Nat} (as rest : List Value) (hf : calleeOf ps 0 = some (f, q)) (hq : q = 3 ∨ q = 4) (h1 : st.drop t = .ref a :: rest) (h2 : (st.take t).reverse = as) (h3 : (st.take t).length = t) (hc : okC f (.ref a :: as) rest) (h0 : mCc f = 0) (he : e < d) (k : ClJ e f (.ref a :: as) di dl (fun r di' dl' => Wq sc d m (pc + 3) ls (.long r :: rest) di' dl' P)) : WI sc d m (.invokespecial n) t c ps pc ls st di dl P := wi_spec as rest hf hq h1 h2 h3 hc h0 he (Cl_mono (by rintro v di dl ⟨r, rfl, h⟩; exact h) k)
theorem wi_specR {n a e f q : Nat} (as rest : List Value) (hf : calleeOf ps 0 = some (f, q)) (hq : q = 3 ∨ q = 4) (h1 : st.drop t = .ref a :: rest) (h2 : (st.take t).reverse = as) (h3 : (st.take t).length = t) (hc : okC f (.ref a :: as) rest) (h0 : mCc f = 0) (he : e < d) (k : ClR e f (.ref a :: as) di dl (fun r di' dl' => Wq sc d m (pc + 3) ls (r :: rest) di' dl' P)) : WI sc d m (.invokespecial n) t c ps pc ls st di dl P := wi_spec as rest hf hq h1 h2 h3 hc h0 he (Cl_mono (by rintro v di dl ⟨r, rfl, h⟩; exact h) k)
theorem wi_specV {n a e f q : Nat} (as rest : List Value) (hf : calleeOf ps 0 = some (f, q)) (hq : q = 3 ∨ q = 4) (h1 : st.drop t = .ref a :: rest) (h2 : (st.take t).reverse = as) (h3 : (st.take t).length = t) (hc : okC f (.ref a :: as) rest) (h0 : mCc f = 0) (he : e < d) (k : ClV e f (.ref a :: as) di dl (fun di' dl' => Wq sc d m (pc + 3) ls rest di' dl' P)) : WI sc d m (.invokespecial n) t c ps pc ls st di dl P := wi_spec as rest hf hq h1 h2 h3 hc h0 he (Cl_mono (by rintro v di dl ⟨rfl, h⟩; exact h) k)
theorem wi_if_lt {n : Int} {x : Int32} (k1 : x < 0 → Wq sc d m t ls st di dl P) (k2 : 0 ≤ x → Wq sc d m (pc + 3) ls st di dl P) : WI sc d m (.ifCond .lt n) t c ps pc ls (.int x :: st) di dl P := wi_if ⟨fun h => k1 h, fun h => k2 (Int32.not_lt.mp h)⟩
theorem wi_ic_lt {n : Int} {x y : Int32} (k1 : x < y → Wq sc d m t ls st di dl P) (k2 : y ≤ x → Wq sc d m (pc + 3) ls st di dl P) : WI sc d m (.if_icmp .lt n) t c ps pc ls (.int y :: .int x :: st) di dl P := wi_icmp ⟨fun h => k1 h, fun h => k2 (Int32.not_lt.mp h)⟩
theorem wi_if_ge {n : Int} {x : Int32} (k1 : 0 ≤ x → Wq sc d m t ls st di dl P) (k2 : x < 0 → Wq sc d m (pc + 3) ls st di dl P) : WI sc d m (.ifCond .ge n) t c ps pc ls (.int x :: st) di dl P := wi_if ⟨fun h => k1 h, fun h => k2 (Int32.not_le.mp h)⟩
theorem wi_ic_ge {n : Int} {x y : Int32} (k1 : y ≤ x → Wq sc d m t ls st di dl P) (k2 : x < y → Wq sc d m (pc + 3) ls st di dl P) : WI sc d m (.if_icmp .ge n) t c ps pc ls (.int y :: .int x :: st) di dl P := wi_icmp ⟨fun h => k1 h, fun h => k2 (Int32.not_le.mp h)⟩
theorem wi_if_gt {n : Int} {x : Int32} (k1 : 0 < x → Wq sc d m t ls st di dl P) (k2 : x ≤ 0 → Wq sc d m (pc + 3) ls st di dl P) : WI sc d m (.ifCond .gt n) t c ps pc ls (.int x :: st) di dl P := wi_if ⟨fun h => k1 h, fun h => k2 (Int32.not_lt.mp h)⟩
theorem wi_ic_gt {n : Int} {x y : Int32} (k1 : y < x → Wq sc d m t ls st di dl P) (k2 : x ≤ y → Wq sc d m (pc + 3) ls st di dl P) : WI sc d m (.if_icmp .gt n) t c ps pc ls (.int y :: .int x :: st) di dl P := wi_icmp ⟨fun h => k1 h, fun h => k2 (Int32.not_lt.mp h)⟩
theorem wi_if_le {n : Int} {x : Int32} (k1 : x ≤ 0 → Wq sc d m t ls st di dl P) (k2 : 0 < x → Wq sc d m (pc + 3) ls st di dl P) : WI sc d m (.ifCond .le n) t c ps pc ls (.int x :: st) di dl P := wi_if ⟨fun h => k1 h, fun h => k2 (Int32.not_le.mp h)⟩
theorem wi_ic_le {n : Int} {x y : Int32} (k1 : x ≤ y → Wq sc d m t ls st di dl P) (k2 : y < x → Wq sc d m (pc + 3) ls st di dl P) : WI sc d m (.if_icmp .le n) t c ps pc ls (.int y :: .int x :: st) di dl P := wi_icmp ⟨fun h => k1 h, fun h => k2 (Int32.not_le.mp h)⟩
theorem wi_if_eq {n : Int} {x : Int32} (k1 : x = 0 → Wq sc d m t ls st di dl P) (k2 : ¬ x = 0 → Wq sc d m (pc + 3) ls st di dl P) : WI sc d m (.ifCond .eq n) t c ps pc ls (.int x :: st) di dl P := wi_if ⟨fun h => k1 h, fun h => k2 (h)⟩
theorem wi_ic_eq {n : Int} {x y : Int32} (k1 : x = y → Wq sc d m t ls st di dl P) (k2 : ¬ x = y → Wq sc d m (pc + 3) ls st di dl P) : WI sc d m (.if_icmp .eq n) t c ps pc ls (.int y :: .int x :: st) di dl P := wi_icmp ⟨fun h => k1 h, fun h => k2 (h)⟩
theorem wi_if_ne {n : Int} {x : Int32} (k1 : ¬ x = 0 → Wq sc d m t ls st di dl P) (k2 : x = 0 → Wq sc d m (pc + 3) ls st di dl P) : WI sc d m (.ifCond .ne n) t c ps pc ls (.int x :: st) di dl P := wi_if ⟨fun h => k1 h, fun h => k2 (Decidable.of_not_not h)⟩
theorem wi_ic_ne {n : Int} {x y : Int32} (k1 : ¬ x = y → Wq sc d m t ls st di dl P) (k2 : x = y → Wq sc d m (pc + 3) ls st di dl P) : WI sc d m (.if_icmp .ne n) t c ps pc ls (.int y :: .int x :: st) di dl P := wi_icmp ⟨fun h => k1 h, fun h => k2 (Decidable.of_not_not h)⟩
theorem wi_ifT {q : ClassFile.Cond} {n : Int} {x : Int32} (h : cndB q x 0 = true) (k : Wq sc d m t ls st di dl P) : WI sc d m (.ifCond q n) t c ps pc ls (.int x :: st) di dl P := wi_if ⟨fun _ => k, fun z => absurd (cnd_B.mp h) z⟩
theorem wi_ifF {q : ClassFile.Cond} {n : Int} {x : Int32} (h : cndB q x 0 = false) (k : Wq sc d m (pc + 3) ls st di dl P) : WI sc d m (.ifCond q n) t c ps pc ls (.int x :: st) di dl P := wi_if ⟨fun z => absurd (cnd_B.mpr z) (by rw [h]; decide), fun _ => k⟩
theorem wi_icT {q : ClassFile.Cond} {n : Int} {x y : Int32} (h : cndB q x y = true) (k : Wq sc d m t ls st di dl P) : WI sc d m (.if_icmp q n) t c ps pc ls (.int y :: .int x :: st) di dl P := wi_icmp ⟨fun _ => k, fun z => absurd (cnd_B.mp h) z⟩
theorem wi_icF {q : ClassFile.Cond} {n : Int} {x y : Int32} (h : cndB q x y = false) (k : Wq sc d m (pc + 3) ls st di dl P) : WI sc d m (.if_icmp q n) t c ps pc ls (.int y :: .int x :: st) di dl P := wi_icmp ⟨fun z => absurd (cnd_B.mpr z) (by rw [h]; decide), fun _ => k⟩
/-- the array of the three texts -/
theorem wi_aatext {j : Int32} (hb : inB j 3 = true) (k0 : j = 0 → Wq sc d m (pc + 1) ls (.ref 1 :: st) di dl P) (k1 : j = 1 → Wq sc d m (pc + 1) ls (.ref 3 :: st) di dl P) (k2 : j = 2 → Wq sc d m (pc + 1) ls (.ref 5 :: st) di dl P) : WI sc d m .aaload t c ps pc ls (.int j :: .ref 7 :: st) di dl P := by
  by_cases h0 : j = 0
  · subst h0; exact wi_aaload (e := 0) 1 S_7 hb (by decide) rfl (k0 rfl)
  by_cases h1 : j = 1
  · subst h1; exact wi_aaload (e := 0) 3 S_7 hb (by decide) rfl (k1 rfl)
  by_cases h2 : j = 2
  · subst h2; exact wi_aaload (e := 0) 5 S_7 hb (by decide) rfl (k2 rfl)
  exfalso
  have hq := of_decide_eq_true hb
  have h3 : ¬ j < 0 := fun z => hq (Or.inl z)
  have h4 : ¬ 3 ≤ j.toNatClampNeg := fun z => hq (Or.inr z)
  have e : j.toNatClampNeg = 0 ∨ j.toNatClampNeg = 1 ∨ j.toNatClampNeg = 2 := by omega
  have z0 : (0 : Int) ≤ j.toInt := by
    have := Int32.not_lt.mp h3
    exact Int32.le_iff_toInt_le.mp this
  have z1 : j.toNatClampNeg = j.toInt.toNat := rfl
  rw [z1] at e
  rcases e with e | e | e
  · exact h0 (Int32.toInt_inj.mp (show j.toInt = (0 : Int32).toInt by rw [show (0 : Int32).toInt = 0 from rfl]; omega))
  · exact h1 (Int32.toInt_inj.mp (show j.toInt = (1 : Int32).toInt by rw [show (1 : Int32).toInt = 1 from rfl]; omega))
  · exact h2 (Int32.toInt_inj.mp (show j.toInt = (2 : Int32).toInt by rw [show (2 : Int32).toInt = 2 from rfl]; omega))
end CALLS
