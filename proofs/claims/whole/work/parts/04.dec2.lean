set_option maxRecDepth 100000 in
theorem ck_110_0 : (iT110_0.all (chk 110)) = true := by decide +kernel
set_option maxRecDepth 100000 in
theorem ck_110_1 : (iT110_1.all (chk 110)) = true := by decide +kernel
theorem ck_110 : ∀ e ∈ iT110, chk 110 e = true := List.forall_mem_append.mpr ⟨(List.all_eq_true.mp ck_110_0), (List.all_eq_true.mp ck_110_1)⟩
set_option maxRecDepth 100000 in
theorem ck_111 : ∀ e ∈ iT111, chk 111 e = true := List.all_eq_true.mp (by decide +kernel)
set_option maxRecDepth 100000 in
theorem ck_112 : ∀ e ∈ iT112, chk 112 e = true := List.all_eq_true.mp (by decide +kernel)
set_option maxRecDepth 100000 in
theorem ck_113 : ∀ e ∈ iT113, chk 113 e = true := List.all_eq_true.mp (by decide +kernel)
set_option maxRecDepth 100000 in
theorem ck_114 : ∀ e ∈ iT114, chk 114 e = true := List.all_eq_true.mp (by decide +kernel)
set_option maxRecDepth 100000 in
theorem ck_115 : ∀ e ∈ iT115, chk 115 e = true := List.all_eq_true.mp (by decide +kernel)
set_option maxRecDepth 100000 in
theorem ck_116 : ∀ e ∈ iT116, chk 116 e = true := List.all_eq_true.mp (by decide +kernel)
set_option maxRecDepth 100000 in
theorem ck_117 : ∀ e ∈ iT117, chk 117 e = true := List.all_eq_true.mp (by decide +kernel)
set_option maxRecDepth 100000 in
theorem ck_118 : ∀ e ∈ iT118, chk 118 e = true := List.all_eq_true.mp (by decide +kernel)
set_option maxRecDepth 100000 in
theorem ck_119 : ∀ e ∈ iT119, chk 119 e = true := List.all_eq_true.mp (by decide +kernel)
set_option maxRecDepth 100000 in
theorem ck_120 : ∀ e ∈ iT120, chk 120 e = true := List.all_eq_true.mp (by decide +kernel)
set_option maxRecDepth 100000 in
theorem ck_121 : ∀ e ∈ iT121, chk 121 e = true := List.all_eq_true.mp (by decide +kernel)
set_option maxRecDepth 100000 in
theorem ck_122_0 : (iT122_0.all (chk 122)) = true := by decide +kernel
set_option maxRecDepth 100000 in
theorem ck_122_1 : (iT122_1.all (chk 122)) = true := by decide +kernel
set_option maxRecDepth 100000 in
theorem ck_122_2 : (iT122_2.all (chk 122)) = true := by decide +kernel
set_option maxRecDepth 100000 in
theorem ck_122_3 : (iT122_3.all (chk 122)) = true := by decide +kernel
theorem ck_122 : ∀ e ∈ iT122, chk 122 e = true := List.forall_mem_append.mpr ⟨(List.all_eq_true.mp ck_122_0), List.forall_mem_append.mpr ⟨(List.all_eq_true.mp ck_122_1), List.forall_mem_append.mpr ⟨(List.all_eq_true.mp ck_122_2), (List.all_eq_true.mp ck_122_3)⟩⟩⟩
set_option maxRecDepth 100000 in
theorem ck_123 : ∀ e ∈ iT123, chk 123 e = true := List.all_eq_true.mp (by decide +kernel)
set_option maxRecDepth 100000 in
theorem ck_124_0 : (iT124_0.all (chk 124)) = true := by decide +kernel
set_option maxRecDepth 100000 in
theorem ck_124_1 : (iT124_1.all (chk 124)) = true := by decide +kernel
theorem ck_124 : ∀ e ∈ iT124, chk 124 e = true := List.forall_mem_append.mpr ⟨(List.all_eq_true.mp ck_124_0), (List.all_eq_true.mp ck_124_1)⟩
set_option maxRecDepth 100000 in
theorem ck_125_0 : (iT125_0.all (chk 125)) = true := by decide +kernel
set_option maxRecDepth 100000 in
theorem ck_125_1 : (iT125_1.all (chk 125)) = true := by decide +kernel
set_option maxRecDepth 100000 in
theorem ck_125_2 : (iT125_2.all (chk 125)) = true := by decide +kernel
theorem ck_125 : ∀ e ∈ iT125, chk 125 e = true := List.forall_mem_append.mpr ⟨(List.all_eq_true.mp ck_125_0), List.forall_mem_append.mpr ⟨(List.all_eq_true.mp ck_125_1), (List.all_eq_true.mp ck_125_2)⟩⟩
set_option maxRecDepth 100000 in
theorem ck_126 : ∀ e ∈ iT126, chk 126 e = true := List.all_eq_true.mp (by decide +kernel)
set_option maxRecDepth 100000 in
theorem ck_127 : ∀ e ∈ iT127, chk 127 e = true := List.all_eq_true.mp (by decide +kernel)
set_option maxRecDepth 100000 in
theorem ck_128 : ∀ e ∈ iT128, chk 128 e = true := List.all_eq_true.mp (by decide +kernel)
set_option maxRecDepth 100000 in
theorem ck_129 : ∀ e ∈ iT129, chk 129 e = true := List.all_eq_true.mp (by decide +kernel)
set_option maxRecDepth 100000 in
theorem ck_130 : ∀ e ∈ iT130, chk 130 e = true := List.all_eq_true.mp (by decide +kernel)
set_option maxRecDepth 100000 in
theorem ck_131 : ∀ e ∈ iT131, chk 131 e = true := List.all_eq_true.mp (by decide +kernel)
set_option maxRecDepth 100000 in
theorem ck_132 : ∀ e ∈ iT132, chk 132 e = true := List.all_eq_true.mp (by decide +kernel)
set_option maxRecDepth 100000 in
theorem ck_133_0 : (iT133_0.all (chk 133)) = true := by decide +kernel
set_option maxRecDepth 100000 in
theorem ck_133_1 : (iT133_1.all (chk 133)) = true := by decide +kernel
set_option maxRecDepth 100000 in
theorem ck_133_2 : (iT133_2.all (chk 133)) = true := by decide +kernel
theorem ck_133 : ∀ e ∈ iT133, chk 133 e = true := List.forall_mem_append.mpr ⟨(List.all_eq_true.mp ck_133_0), List.forall_mem_append.mpr ⟨(List.all_eq_true.mp ck_133_1), (List.all_eq_true.mp ck_133_2)⟩⟩
set_option maxRecDepth 100000 in
theorem ck_134 : ∀ e ∈ iT134, chk 134 e = true := List.all_eq_true.mp (by decide +kernel)
set_option maxRecDepth 100000 in
theorem ck_135 : ∀ e ∈ iT135, chk 135 e = true := List.all_eq_true.mp (by decide +kernel)
set_option maxRecDepth 100000 in
theorem ck_136 : ∀ e ∈ iT136, chk 136 e = true := List.all_eq_true.mp (by decide +kernel)
set_option maxRecDepth 100000 in
theorem ck_137 : ∀ e ∈ iT137, chk 137 e = true := List.all_eq_true.mp (by decide +kernel)
set_option maxRecDepth 100000 in
theorem ck_138 : ∀ e ∈ iT138, chk 138 e = true := List.all_eq_true.mp (by decide +kernel)
set_option maxRecDepth 100000 in
theorem ck_139 : ∀ e ∈ iT139, chk 139 e = true := List.all_eq_true.mp (by decide +kernel)
set_option maxRecDepth 100000 in
theorem ck_140 : ∀ e ∈ iT140, chk 140 e = true := List.all_eq_true.mp (by decide +kernel)
set_option maxRecDepth 100000 in
theorem ck_141 : ∀ e ∈ iT141, chk 141 e = true := List.all_eq_true.mp (by decide +kernel)
set_option maxRecDepth 100000 in
theorem ck_142 : ∀ e ∈ iT142, chk 142 e = true := List.all_eq_true.mp (by decide +kernel)
set_option maxRecDepth 100000 in
theorem ck_143 : ∀ e ∈ iT143, chk 143 e = true := List.all_eq_true.mp (by decide +kernel)
set_option maxRecDepth 100000 in
theorem ck_144 : ∀ e ∈ iT144, chk 144 e = true := List.all_eq_true.mp (by decide +kernel)
set_option maxRecDepth 100000 in
theorem ck_145 : ∀ e ∈ iT145, chk 145 e = true := List.all_eq_true.mp (by decide +kernel)
set_option maxRecDepth 100000 in
theorem ck_146 : ∀ e ∈ iT146, chk 146 e = true := List.all_eq_true.mp (by decide +kernel)
set_option maxRecDepth 100000 in
theorem ck_147 : ∀ e ∈ iT147, chk 147 e = true := List.all_eq_true.mp (by decide +kernel)
set_option maxRecDepth 100000 in
theorem ck_148 : ∀ e ∈ iT148, chk 148 e = true := List.all_eq_true.mp (by decide +kernel)
set_option maxRecDepth 100000 in
theorem ck_149 : ∀ e ∈ iT149, chk 149 e = true := List.all_eq_true.mp (by decide +kernel)
set_option maxRecDepth 100000 in
theorem ck_150_0 : (iT150_0.all (chk 150)) = true := by decide +kernel
set_option maxRecDepth 100000 in
theorem ck_150_1 : (iT150_1.all (chk 150)) = true := by decide +kernel
set_option maxRecDepth 100000 in
theorem ck_150_2 : (iT150_2.all (chk 150)) = true := by decide +kernel
theorem ck_150 : ∀ e ∈ iT150, chk 150 e = true := List.forall_mem_append.mpr ⟨(List.all_eq_true.mp ck_150_0), List.forall_mem_append.mpr ⟨(List.all_eq_true.mp ck_150_1), (List.all_eq_true.mp ck_150_2)⟩⟩
set_option maxRecDepth 100000 in
theorem ck_151 : ∀ e ∈ iT151, chk 151 e = true := List.all_eq_true.mp (by decide +kernel)
set_option maxRecDepth 100000 in
theorem ck_152 : ∀ e ∈ iT152, chk 152 e = true := List.all_eq_true.mp (by decide +kernel)
set_option maxRecDepth 100000 in
theorem ck_153 : ∀ e ∈ iT153, chk 153 e = true := List.all_eq_true.mp (by decide +kernel)
set_option maxRecDepth 100000 in
theorem ck_154 : ∀ e ∈ iT154, chk 154 e = true := List.all_eq_true.mp (by decide +kernel)
set_option maxRecDepth 100000 in
theorem ck_155 : ∀ e ∈ iT155, chk 155 e = true := List.all_eq_true.mp (by decide +kernel)
set_option maxRecDepth 100000 in
theorem ck_156 : ∀ e ∈ iT156, chk 156 e = true := List.all_eq_true.mp (by decide +kernel)
set_option maxRecDepth 100000 in
theorem ck_157 : ∀ e ∈ iT157, chk 157 e = true := List.all_eq_true.mp (by decide +kernel)
set_option maxRecDepth 100000 in
theorem ck_158 : ∀ e ∈ iT158, chk 158 e = true := List.all_eq_true.mp (by decide +kernel)
set_option maxRecDepth 100000 in
theorem ck_159_0 : (iT159_0.all (chk 159)) = true := by decide +kernel
set_option maxRecDepth 100000 in
theorem ck_159_1 : (iT159_1.all (chk 159)) = true := by decide +kernel
set_option maxRecDepth 100000 in
theorem ck_159_2 : (iT159_2.all (chk 159)) = true := by decide +kernel
theorem ck_159 : ∀ e ∈ iT159, chk 159 e = true := List.forall_mem_append.mpr ⟨(List.all_eq_true.mp ck_159_0), List.forall_mem_append.mpr ⟨(List.all_eq_true.mp ck_159_1), (List.all_eq_true.mp ck_159_2)⟩⟩
set_option maxRecDepth 100000 in
theorem ck_160 : ∀ e ∈ iT160, chk 160 e = true := List.all_eq_true.mp (by decide +kernel)
set_option maxRecDepth 100000 in
theorem ck_161_0 : (iT161_0.all (chk 161)) = true := by decide +kernel
set_option maxRecDepth 100000 in
theorem ck_161_1 : (iT161_1.all (chk 161)) = true := by decide +kernel
theorem ck_161 : ∀ e ∈ iT161, chk 161 e = true := List.forall_mem_append.mpr ⟨(List.all_eq_true.mp ck_161_0), (List.all_eq_true.mp ck_161_1)⟩
set_option maxRecDepth 100000 in
theorem ck_162_0 : (iT162_0.all (chk 162)) = true := by decide +kernel
set_option maxRecDepth 100000 in
theorem ck_162_1 : (iT162_1.all (chk 162)) = true := by decide +kernel
theorem ck_162 : ∀ e ∈ iT162, chk 162 e = true := List.forall_mem_append.mpr ⟨(List.all_eq_true.mp ck_162_0), (List.all_eq_true.mp ck_162_1)⟩
set_option maxRecDepth 100000 in
theorem ck_163 : ∀ e ∈ iT163, chk 163 e = true := List.all_eq_true.mp (by decide +kernel)
set_option maxRecDepth 100000 in
theorem ck_164 : ∀ e ∈ iT164, chk 164 e = true := List.all_eq_true.mp (by decide +kernel)
set_option maxRecDepth 100000 in
theorem ck_165 : ∀ e ∈ iT165, chk 165 e = true := List.all_eq_true.mp (by decide +kernel)
set_option maxRecDepth 100000 in
theorem ck_166 : ∀ e ∈ iT166, chk 166 e = true := List.all_eq_true.mp (by decide +kernel)
set_option maxRecDepth 100000 in
theorem ck_167 : ∀ e ∈ iT167, chk 167 e = true := List.all_eq_true.mp (by decide +kernel)
set_option maxRecDepth 100000 in
theorem ck_168 : ∀ e ∈ iT168, chk 168 e = true := List.all_eq_true.mp (by decide +kernel)
set_option maxRecDepth 100000 in
theorem ck_169 : ∀ e ∈ iT169, chk 169 e = true := List.all_eq_true.mp (by decide +kernel)
