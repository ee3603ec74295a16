set_option maxRecDepth 100000 in
theorem ck_0 : ∀ e ∈ iT0, chk 0 e = true := List.all_eq_true.mp (by decide +kernel)
set_option maxRecDepth 100000 in
theorem ck_1 : ∀ e ∈ iT1, chk 1 e = true := List.all_eq_true.mp (by decide +kernel)
set_option maxRecDepth 100000 in
theorem ck_2 : ∀ e ∈ iT2, chk 2 e = true := List.all_eq_true.mp (by decide +kernel)
set_option maxRecDepth 100000 in
theorem ck_3 : ∀ e ∈ iT3, chk 3 e = true := List.all_eq_true.mp (by decide +kernel)
set_option maxRecDepth 100000 in
theorem ck_4 : ∀ e ∈ iT4, chk 4 e = true := List.all_eq_true.mp (by decide +kernel)
set_option maxRecDepth 100000 in
theorem ck_5 : ∀ e ∈ iT5, chk 5 e = true := List.all_eq_true.mp (by decide +kernel)
set_option maxRecDepth 100000 in
theorem ck_6 : ∀ e ∈ iT6, chk 6 e = true := List.all_eq_true.mp (by decide +kernel)
set_option maxRecDepth 100000 in
theorem ck_7 : ∀ e ∈ iT7, chk 7 e = true := List.all_eq_true.mp (by decide +kernel)
set_option maxRecDepth 100000 in
theorem ck_8 : ∀ e ∈ iT8, chk 8 e = true := List.all_eq_true.mp (by decide +kernel)
set_option maxRecDepth 100000 in
theorem ck_9 : ∀ e ∈ iT9, chk 9 e = true := List.all_eq_true.mp (by decide +kernel)
set_option maxRecDepth 100000 in
theorem ck_10 : ∀ e ∈ iT10, chk 10 e = true := List.all_eq_true.mp (by decide +kernel)
set_option maxRecDepth 100000 in
theorem ck_11 : ∀ e ∈ iT11, chk 11 e = true := List.all_eq_true.mp (by decide +kernel)
set_option maxRecDepth 100000 in
theorem ck_12 : ∀ e ∈ iT12, chk 12 e = true := List.all_eq_true.mp (by decide +kernel)
set_option maxRecDepth 100000 in
theorem ck_13 : ∀ e ∈ iT13, chk 13 e = true := List.all_eq_true.mp (by decide +kernel)
set_option maxRecDepth 100000 in
theorem ck_14 : ∀ e ∈ iT14, chk 14 e = true := List.all_eq_true.mp (by decide +kernel)
set_option maxRecDepth 100000 in
theorem ck_15 : ∀ e ∈ iT15, chk 15 e = true := List.all_eq_true.mp (by decide +kernel)
set_option maxRecDepth 100000 in
theorem ck_16_0 : (iT16_0.all (chk 16)) = true := by decide +kernel
set_option maxRecDepth 100000 in
theorem ck_16_1 : (iT16_1.all (chk 16)) = true := by decide +kernel
theorem ck_16 : ∀ e ∈ iT16, chk 16 e = true := List.forall_mem_append.mpr ⟨(List.all_eq_true.mp ck_16_0), (List.all_eq_true.mp ck_16_1)⟩
set_option maxRecDepth 100000 in
theorem ck_17 : ∀ e ∈ iT17, chk 17 e = true := List.all_eq_true.mp (by decide +kernel)
set_option maxRecDepth 100000 in
theorem ck_18 : ∀ e ∈ iT18, chk 18 e = true := List.all_eq_true.mp (by decide +kernel)
set_option maxRecDepth 100000 in
theorem ck_19 : ∀ e ∈ iT19, chk 19 e = true := List.all_eq_true.mp (by decide +kernel)
set_option maxRecDepth 100000 in
theorem ck_20 : ∀ e ∈ iT20, chk 20 e = true := List.all_eq_true.mp (by decide +kernel)
set_option maxRecDepth 100000 in
theorem ck_21_0 : (iT21_0.all (chk 21)) = true := by decide +kernel
set_option maxRecDepth 100000 in
theorem ck_21_1 : (iT21_1.all (chk 21)) = true := by decide +kernel
set_option maxRecDepth 100000 in
theorem ck_21_2 : (iT21_2.all (chk 21)) = true := by decide +kernel
theorem ck_21 : ∀ e ∈ iT21, chk 21 e = true := List.forall_mem_append.mpr ⟨(List.all_eq_true.mp ck_21_0), List.forall_mem_append.mpr ⟨(List.all_eq_true.mp ck_21_1), (List.all_eq_true.mp ck_21_2)⟩⟩
set_option maxRecDepth 100000 in
theorem ck_22 : ∀ e ∈ iT22, chk 22 e = true := List.all_eq_true.mp (by decide +kernel)
set_option maxRecDepth 100000 in
theorem ck_23 : ∀ e ∈ iT23, chk 23 e = true := List.all_eq_true.mp (by decide +kernel)
set_option maxRecDepth 100000 in
theorem ck_24 : ∀ e ∈ iT24, chk 24 e = true := List.all_eq_true.mp (by decide +kernel)
set_option maxRecDepth 100000 in
theorem ck_25 : ∀ e ∈ iT25, chk 25 e = true := List.all_eq_true.mp (by decide +kernel)
set_option maxRecDepth 100000 in
theorem ck_26 : ∀ e ∈ iT26, chk 26 e = true := List.all_eq_true.mp (by decide +kernel)
set_option maxRecDepth 100000 in
theorem ck_27 : ∀ e ∈ iT27, chk 27 e = true := List.all_eq_true.mp (by decide +kernel)
set_option maxRecDepth 100000 in
theorem ck_28 : ∀ e ∈ iT28, chk 28 e = true := List.all_eq_true.mp (by decide +kernel)
set_option maxRecDepth 100000 in
theorem ck_29 : ∀ e ∈ iT29, chk 29 e = true := List.all_eq_true.mp (by decide +kernel)
set_option maxRecDepth 100000 in
theorem ck_30 : ∀ e ∈ iT30, chk 30 e = true := List.all_eq_true.mp (by decide +kernel)
set_option maxRecDepth 100000 in
theorem ck_31_0 : (iT31_0.all (chk 31)) = true := by decide +kernel
set_option maxRecDepth 100000 in
theorem ck_31_1 : (iT31_1.all (chk 31)) = true := by decide +kernel
theorem ck_31 : ∀ e ∈ iT31, chk 31 e = true := List.forall_mem_append.mpr ⟨(List.all_eq_true.mp ck_31_0), (List.all_eq_true.mp ck_31_1)⟩
set_option maxRecDepth 100000 in
theorem ck_32 : ∀ e ∈ iT32, chk 32 e = true := List.all_eq_true.mp (by decide +kernel)
set_option maxRecDepth 100000 in
theorem ck_33 : ∀ e ∈ iT33, chk 33 e = true := List.all_eq_true.mp (by decide +kernel)
set_option maxRecDepth 100000 in
theorem ck_34 : ∀ e ∈ iT34, chk 34 e = true := List.all_eq_true.mp (by decide +kernel)
set_option maxRecDepth 100000 in
theorem ck_35 : ∀ e ∈ iT35, chk 35 e = true := List.all_eq_true.mp (by decide +kernel)
set_option maxRecDepth 100000 in
theorem ck_36 : ∀ e ∈ iT36, chk 36 e = true := List.all_eq_true.mp (by decide +kernel)
set_option maxRecDepth 100000 in
theorem ck_37 : ∀ e ∈ iT37, chk 37 e = true := List.all_eq_true.mp (by decide +kernel)
set_option maxRecDepth 100000 in
theorem ck_38 : ∀ e ∈ iT38, chk 38 e = true := List.all_eq_true.mp (by decide +kernel)
set_option maxRecDepth 100000 in
theorem ck_39 : ∀ e ∈ iT39, chk 39 e = true := List.all_eq_true.mp (by decide +kernel)
set_option maxRecDepth 100000 in
theorem ck_40 : ∀ e ∈ iT40, chk 40 e = true := List.all_eq_true.mp (by decide +kernel)
set_option maxRecDepth 100000 in
theorem ck_41 : ∀ e ∈ iT41, chk 41 e = true := List.all_eq_true.mp (by decide +kernel)
set_option maxRecDepth 100000 in
theorem ck_42 : ∀ e ∈ iT42, chk 42 e = true := List.all_eq_true.mp (by decide +kernel)
set_option maxRecDepth 100000 in
theorem ck_43 : ∀ e ∈ iT43, chk 43 e = true := List.all_eq_true.mp (by decide +kernel)
set_option maxRecDepth 100000 in
theorem ck_44 : ∀ e ∈ iT44, chk 44 e = true := List.all_eq_true.mp (by decide +kernel)
set_option maxRecDepth 100000 in
theorem ck_45 : ∀ e ∈ iT45, chk 45 e = true := List.all_eq_true.mp (by decide +kernel)
set_option maxRecDepth 100000 in
theorem ck_46 : ∀ e ∈ iT46, chk 46 e = true := List.all_eq_true.mp (by decide +kernel)
set_option maxRecDepth 100000 in
theorem ck_47 : ∀ e ∈ iT47, chk 47 e = true := List.all_eq_true.mp (by decide +kernel)
set_option maxRecDepth 100000 in
theorem ck_48 : ∀ e ∈ iT48, chk 48 e = true := List.all_eq_true.mp (by decide +kernel)
set_option maxRecDepth 100000 in
theorem ck_49 : ∀ e ∈ iT49, chk 49 e = true := List.all_eq_true.mp (by decide +kernel)
set_option maxRecDepth 100000 in
theorem ck_50 : ∀ e ∈ iT50, chk 50 e = true := List.all_eq_true.mp (by decide +kernel)
set_option maxRecDepth 100000 in
theorem ck_51 : ∀ e ∈ iT51, chk 51 e = true := List.all_eq_true.mp (by decide +kernel)
set_option maxRecDepth 100000 in
theorem ck_52 : ∀ e ∈ iT52, chk 52 e = true := List.all_eq_true.mp (by decide +kernel)
set_option maxRecDepth 100000 in
theorem ck_53 : ∀ e ∈ iT53, chk 53 e = true := List.all_eq_true.mp (by decide +kernel)
set_option maxRecDepth 100000 in
theorem ck_54 : ∀ e ∈ iT54, chk 54 e = true := List.all_eq_true.mp (by decide +kernel)
set_option maxRecDepth 100000 in
theorem ck_55 : ∀ e ∈ iT55, chk 55 e = true := List.all_eq_true.mp (by decide +kernel)
set_option maxRecDepth 100000 in
theorem ck_56 : ∀ e ∈ iT56, chk 56 e = true := List.all_eq_true.mp (by decide +kernel)
set_option maxRecDepth 100000 in
theorem ck_57 : ∀ e ∈ iT57, chk 57 e = true := List.all_eq_true.mp (by decide +kernel)
set_option maxRecDepth 100000 in
theorem ck_58 : ∀ e ∈ iT58, chk 58 e = true := List.all_eq_true.mp (by decide +kernel)
set_option maxRecDepth 100000 in
theorem ck_59 : ∀ e ∈ iT59, chk 59 e = true := List.all_eq_true.mp (by decide +kernel)
