set_option maxRecDepth 100000 in
theorem ck_60 : ∀ e ∈ iT60, chk 60 e = true := List.all_eq_true.mp (by decide +kernel)
set_option maxRecDepth 100000 in
theorem ck_61 : ∀ e ∈ iT61, chk 61 e = true := List.all_eq_true.mp (by decide +kernel)
set_option maxRecDepth 100000 in
theorem ck_62 : ∀ e ∈ iT62, chk 62 e = true := List.all_eq_true.mp (by decide +kernel)
set_option maxRecDepth 100000 in
theorem ck_63 : ∀ e ∈ iT63, chk 63 e = true := List.all_eq_true.mp (by decide +kernel)
set_option maxRecDepth 100000 in
theorem ck_64 : ∀ e ∈ iT64, chk 64 e = true := List.all_eq_true.mp (by decide +kernel)
set_option maxRecDepth 100000 in
theorem ck_65 : ∀ e ∈ iT65, chk 65 e = true := List.all_eq_true.mp (by decide +kernel)
set_option maxRecDepth 100000 in
theorem ck_66 : ∀ e ∈ iT66, chk 66 e = true := List.all_eq_true.mp (by decide +kernel)
set_option maxRecDepth 100000 in
theorem ck_67 : ∀ e ∈ iT67, chk 67 e = true := List.all_eq_true.mp (by decide +kernel)
set_option maxRecDepth 100000 in
theorem ck_68 : ∀ e ∈ iT68, chk 68 e = true := List.all_eq_true.mp (by decide +kernel)
set_option maxRecDepth 100000 in
theorem ck_69 : ∀ e ∈ iT69, chk 69 e = true := List.all_eq_true.mp (by decide +kernel)
set_option maxRecDepth 100000 in
theorem ck_70 : ∀ e ∈ iT70, chk 70 e = true := List.all_eq_true.mp (by decide +kernel)
set_option maxRecDepth 100000 in
theorem ck_71 : ∀ e ∈ iT71, chk 71 e = true := List.all_eq_true.mp (by decide +kernel)
set_option maxRecDepth 100000 in
theorem ck_72 : ∀ e ∈ iT72, chk 72 e = true := List.all_eq_true.mp (by decide +kernel)
set_option maxRecDepth 100000 in
theorem ck_73 : ∀ e ∈ iT73, chk 73 e = true := List.all_eq_true.mp (by decide +kernel)
set_option maxRecDepth 100000 in
theorem ck_74 : ∀ e ∈ iT74, chk 74 e = true := List.all_eq_true.mp (by decide +kernel)
set_option maxRecDepth 100000 in
theorem ck_75 : ∀ e ∈ iT75, chk 75 e = true := List.all_eq_true.mp (by decide +kernel)
set_option maxRecDepth 100000 in
theorem ck_76_0 : (iT76_0.all (chk 76)) = true := by decide +kernel
set_option maxRecDepth 100000 in
theorem ck_76_1 : (iT76_1.all (chk 76)) = true := by decide +kernel
theorem ck_76 : ∀ e ∈ iT76, chk 76 e = true := List.forall_mem_append.mpr ⟨(List.all_eq_true.mp ck_76_0), (List.all_eq_true.mp ck_76_1)⟩
set_option maxRecDepth 100000 in
theorem ck_77 : ∀ e ∈ iT77, chk 77 e = true := List.all_eq_true.mp (by decide +kernel)
set_option maxRecDepth 100000 in
theorem ck_78 : ∀ e ∈ iT78, chk 78 e = true := List.all_eq_true.mp (by decide +kernel)
set_option maxRecDepth 100000 in
theorem ck_79 : ∀ e ∈ iT79, chk 79 e = true := List.all_eq_true.mp (by decide +kernel)
set_option maxRecDepth 100000 in
theorem ck_80 : ∀ e ∈ iT80, chk 80 e = true := List.all_eq_true.mp (by decide +kernel)
set_option maxRecDepth 100000 in
theorem ck_81 : ∀ e ∈ iT81, chk 81 e = true := List.all_eq_true.mp (by decide +kernel)
set_option maxRecDepth 100000 in
theorem ck_82 : ∀ e ∈ iT82, chk 82 e = true := List.all_eq_true.mp (by decide +kernel)
set_option maxRecDepth 100000 in
theorem ck_83 : ∀ e ∈ iT83, chk 83 e = true := List.all_eq_true.mp (by decide +kernel)
set_option maxRecDepth 100000 in
theorem ck_84_0 : (iT84_0.all (chk 84)) = true := by decide +kernel
set_option maxRecDepth 100000 in
theorem ck_84_1 : (iT84_1.all (chk 84)) = true := by decide +kernel
set_option maxRecDepth 100000 in
theorem ck_84_2 : (iT84_2.all (chk 84)) = true := by decide +kernel
theorem ck_84 : ∀ e ∈ iT84, chk 84 e = true := List.forall_mem_append.mpr ⟨(List.all_eq_true.mp ck_84_0), List.forall_mem_append.mpr ⟨(List.all_eq_true.mp ck_84_1), (List.all_eq_true.mp ck_84_2)⟩⟩
set_option maxRecDepth 100000 in
theorem ck_85 : ∀ e ∈ iT85, chk 85 e = true := List.all_eq_true.mp (by decide +kernel)
set_option maxRecDepth 100000 in
theorem ck_86 : ∀ e ∈ iT86, chk 86 e = true := List.all_eq_true.mp (by decide +kernel)
set_option maxRecDepth 100000 in
theorem ck_87_0 : (iT87_0.all (chk 87)) = true := by decide +kernel
set_option maxRecDepth 100000 in
theorem ck_87_1 : (iT87_1.all (chk 87)) = true := by decide +kernel
set_option maxRecDepth 100000 in
theorem ck_87_2 : (iT87_2.all (chk 87)) = true := by decide +kernel
theorem ck_87 : ∀ e ∈ iT87, chk 87 e = true := List.forall_mem_append.mpr ⟨(List.all_eq_true.mp ck_87_0), List.forall_mem_append.mpr ⟨(List.all_eq_true.mp ck_87_1), (List.all_eq_true.mp ck_87_2)⟩⟩
set_option maxRecDepth 100000 in
theorem ck_88 : ∀ e ∈ iT88, chk 88 e = true := List.all_eq_true.mp (by decide +kernel)
set_option maxRecDepth 100000 in
theorem ck_89_0 : (iT89_0.all (chk 89)) = true := by decide +kernel
set_option maxRecDepth 100000 in
theorem ck_89_1 : (iT89_1.all (chk 89)) = true := by decide +kernel
theorem ck_89 : ∀ e ∈ iT89, chk 89 e = true := List.forall_mem_append.mpr ⟨(List.all_eq_true.mp ck_89_0), (List.all_eq_true.mp ck_89_1)⟩
set_option maxRecDepth 100000 in
theorem ck_90_0 : (iT90_0.all (chk 90)) = true := by decide +kernel
set_option maxRecDepth 100000 in
theorem ck_90_1 : (iT90_1.all (chk 90)) = true := by decide +kernel
set_option maxRecDepth 100000 in
theorem ck_90_2 : (iT90_2.all (chk 90)) = true := by decide +kernel
theorem ck_90 : ∀ e ∈ iT90, chk 90 e = true := List.forall_mem_append.mpr ⟨(List.all_eq_true.mp ck_90_0), List.forall_mem_append.mpr ⟨(List.all_eq_true.mp ck_90_1), (List.all_eq_true.mp ck_90_2)⟩⟩
set_option maxRecDepth 100000 in
theorem ck_91 : ∀ e ∈ iT91, chk 91 e = true := List.all_eq_true.mp (by decide +kernel)
set_option maxRecDepth 100000 in
theorem ck_92 : ∀ e ∈ iT92, chk 92 e = true := List.all_eq_true.mp (by decide +kernel)
set_option maxRecDepth 100000 in
theorem ck_93 : ∀ e ∈ iT93, chk 93 e = true := List.all_eq_true.mp (by decide +kernel)
set_option maxRecDepth 100000 in
theorem ck_94 : ∀ e ∈ iT94, chk 94 e = true := List.all_eq_true.mp (by decide +kernel)
set_option maxRecDepth 100000 in
theorem ck_95 : ∀ e ∈ iT95, chk 95 e = true := List.all_eq_true.mp (by decide +kernel)
set_option maxRecDepth 100000 in
theorem ck_96 : ∀ e ∈ iT96, chk 96 e = true := List.all_eq_true.mp (by decide +kernel)
set_option maxRecDepth 100000 in
theorem ck_97 : ∀ e ∈ iT97, chk 97 e = true := List.all_eq_true.mp (by decide +kernel)
set_option maxRecDepth 100000 in
theorem ck_98 : ∀ e ∈ iT98, chk 98 e = true := List.all_eq_true.mp (by decide +kernel)
set_option maxRecDepth 100000 in
theorem ck_99 : ∀ e ∈ iT99, chk 99 e = true := List.all_eq_true.mp (by decide +kernel)
set_option maxRecDepth 100000 in
theorem ck_100 : ∀ e ∈ iT100, chk 100 e = true := List.all_eq_true.mp (by decide +kernel)
set_option maxRecDepth 100000 in
theorem ck_101 : ∀ e ∈ iT101, chk 101 e = true := List.all_eq_true.mp (by decide +kernel)
set_option maxRecDepth 100000 in
theorem ck_102 : ∀ e ∈ iT102, chk 102 e = true := List.all_eq_true.mp (by decide +kernel)
set_option maxRecDepth 100000 in
theorem ck_103 : ∀ e ∈ iT103, chk 103 e = true := List.all_eq_true.mp (by decide +kernel)
set_option maxRecDepth 100000 in
theorem ck_104 : ∀ e ∈ iT104, chk 104 e = true := List.all_eq_true.mp (by decide +kernel)
set_option maxRecDepth 100000 in
theorem ck_105 : ∀ e ∈ iT105, chk 105 e = true := List.all_eq_true.mp (by decide +kernel)
set_option maxRecDepth 100000 in
theorem ck_106 : ∀ e ∈ iT106, chk 106 e = true := List.all_eq_true.mp (by decide +kernel)
set_option maxRecDepth 100000 in
theorem ck_107 : ∀ e ∈ iT107, chk 107 e = true := List.all_eq_true.mp (by decide +kernel)
set_option maxRecDepth 100000 in
theorem ck_108 : ∀ e ∈ iT108, chk 108 e = true := List.all_eq_true.mp (by decide +kernel)
set_option maxRecDepth 100000 in
theorem ck_109 : ∀ e ∈ iT109, chk 109 e = true := List.all_eq_true.mp (by decide +kernel)
