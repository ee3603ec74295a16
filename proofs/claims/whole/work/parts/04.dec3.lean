set_option maxRecDepth 100000 in
theorem ck_170 : ∀ e ∈ iT170, chk 170 e = true := List.all_eq_true.mp (by decide +kernel)
set_option maxRecDepth 100000 in
theorem ck_171 : ∀ e ∈ iT171, chk 171 e = true := List.all_eq_true.mp (by decide +kernel)
set_option maxRecDepth 100000 in
theorem ck_172 : ∀ e ∈ iT172, chk 172 e = true := List.all_eq_true.mp (by decide +kernel)
set_option maxRecDepth 100000 in
theorem ck_173 : ∀ e ∈ iT173, chk 173 e = true := List.all_eq_true.mp (by decide +kernel)
set_option maxRecDepth 100000 in
theorem ck_174_0 : (iT174_0.all (chk 174)) = true := by decide +kernel
set_option maxRecDepth 100000 in
theorem ck_174_1 : (iT174_1.all (chk 174)) = true := by decide +kernel
set_option maxRecDepth 100000 in
theorem ck_174_2 : (iT174_2.all (chk 174)) = true := by decide +kernel
theorem ck_174 : ∀ e ∈ iT174, chk 174 e = true := List.forall_mem_append.mpr ⟨(List.all_eq_true.mp ck_174_0), List.forall_mem_append.mpr ⟨(List.all_eq_true.mp ck_174_1), (List.all_eq_true.mp ck_174_2)⟩⟩
set_option maxRecDepth 100000 in
theorem ck_175 : ∀ e ∈ iT175, chk 175 e = true := List.all_eq_true.mp (by decide +kernel)
set_option maxRecDepth 100000 in
theorem ck_176 : ∀ e ∈ iT176, chk 176 e = true := List.all_eq_true.mp (by decide +kernel)
set_option maxRecDepth 100000 in
theorem ck_177_0 : (iT177_0.all (chk 177)) = true := by decide +kernel
set_option maxRecDepth 100000 in
theorem ck_177_1 : (iT177_1.all (chk 177)) = true := by decide +kernel
theorem ck_177 : ∀ e ∈ iT177, chk 177 e = true := List.forall_mem_append.mpr ⟨(List.all_eq_true.mp ck_177_0), (List.all_eq_true.mp ck_177_1)⟩
set_option maxRecDepth 100000 in
theorem ck_178 : ∀ e ∈ iT178, chk 178 e = true := List.all_eq_true.mp (by decide +kernel)
set_option maxRecDepth 100000 in
theorem ck_179 : ∀ e ∈ iT179, chk 179 e = true := List.all_eq_true.mp (by decide +kernel)
set_option maxRecDepth 100000 in
theorem ck_180 : ∀ e ∈ iT180, chk 180 e = true := List.all_eq_true.mp (by decide +kernel)
set_option maxRecDepth 100000 in
theorem ck_181 : ∀ e ∈ iT181, chk 181 e = true := List.all_eq_true.mp (by decide +kernel)
set_option maxRecDepth 100000 in
theorem ck_182 : ∀ e ∈ iT182, chk 182 e = true := List.all_eq_true.mp (by decide +kernel)
set_option maxRecDepth 100000 in
theorem ck_183 : ∀ e ∈ iT183, chk 183 e = true := List.all_eq_true.mp (by decide +kernel)
set_option maxRecDepth 100000 in
theorem ck_184 : ∀ e ∈ iT184, chk 184 e = true := List.all_eq_true.mp (by decide +kernel)
set_option maxRecDepth 100000 in
theorem ck_185 : ∀ e ∈ iT185, chk 185 e = true := List.all_eq_true.mp (by decide +kernel)
set_option maxRecDepth 100000 in
theorem ck_186 : ∀ e ∈ iT186, chk 186 e = true := List.all_eq_true.mp (by decide +kernel)
set_option maxRecDepth 100000 in
theorem ck_187 : ∀ e ∈ iT187, chk 187 e = true := List.all_eq_true.mp (by decide +kernel)
set_option maxRecDepth 100000 in
theorem ck_188 : ∀ e ∈ iT188, chk 188 e = true := List.all_eq_true.mp (by decide +kernel)
set_option maxRecDepth 100000 in
theorem ck_189 : ∀ e ∈ iT189, chk 189 e = true := List.all_eq_true.mp (by decide +kernel)
set_option maxRecDepth 100000 in
theorem ck_190 : ∀ e ∈ iT190, chk 190 e = true := List.all_eq_true.mp (by decide +kernel)
set_option maxRecDepth 100000 in
theorem ck_191 : ∀ e ∈ iT191, chk 191 e = true := List.all_eq_true.mp (by decide +kernel)
set_option maxRecDepth 100000 in
theorem ck_192 : ∀ e ∈ iT192, chk 192 e = true := List.all_eq_true.mp (by decide +kernel)
set_option maxRecDepth 100000 in
theorem ck_193_0 : (iT193_0.all (chk 193)) = true := by decide +kernel
set_option maxRecDepth 100000 in
theorem ck_193_1 : (iT193_1.all (chk 193)) = true := by decide +kernel
set_option maxRecDepth 100000 in
theorem ck_193_2 : (iT193_2.all (chk 193)) = true := by decide +kernel
set_option maxRecDepth 100000 in
theorem ck_193_3 : (iT193_3.all (chk 193)) = true := by decide +kernel
set_option maxRecDepth 100000 in
theorem ck_193_4 : (iT193_4.all (chk 193)) = true := by decide +kernel
set_option maxRecDepth 100000 in
theorem ck_193_5 : (iT193_5.all (chk 193)) = true := by decide +kernel
theorem ck_193 : ∀ e ∈ iT193, chk 193 e = true := List.forall_mem_append.mpr ⟨(List.all_eq_true.mp ck_193_0), List.forall_mem_append.mpr ⟨(List.all_eq_true.mp ck_193_1), List.forall_mem_append.mpr ⟨(List.all_eq_true.mp ck_193_2), List.forall_mem_append.mpr ⟨(List.all_eq_true.mp ck_193_3), List.forall_mem_append.mpr ⟨(List.all_eq_true.mp ck_193_4), (List.all_eq_true.mp ck_193_5)⟩⟩⟩⟩⟩
set_option maxRecDepth 100000 in
theorem ck_194 : ∀ e ∈ iT194, chk 194 e = true := List.all_eq_true.mp (by decide +kernel)
set_option maxRecDepth 100000 in
theorem ck_195_0 : (iT195_0.all (chk 195)) = true := by decide +kernel
set_option maxRecDepth 100000 in
theorem ck_195_1 : (iT195_1.all (chk 195)) = true := by decide +kernel
theorem ck_195 : ∀ e ∈ iT195, chk 195 e = true := List.forall_mem_append.mpr ⟨(List.all_eq_true.mp ck_195_0), (List.all_eq_true.mp ck_195_1)⟩
set_option maxRecDepth 100000 in
theorem ck_196_0 : (iT196_0.all (chk 196)) = true := by decide +kernel
set_option maxRecDepth 100000 in
theorem ck_196_1 : (iT196_1.all (chk 196)) = true := by decide +kernel
set_option maxRecDepth 100000 in
theorem ck_196_2 : (iT196_2.all (chk 196)) = true := by decide +kernel
set_option maxRecDepth 100000 in
theorem ck_196_3 : (iT196_3.all (chk 196)) = true := by decide +kernel
theorem ck_196 : ∀ e ∈ iT196, chk 196 e = true := List.forall_mem_append.mpr ⟨(List.all_eq_true.mp ck_196_0), List.forall_mem_append.mpr ⟨(List.all_eq_true.mp ck_196_1), List.forall_mem_append.mpr ⟨(List.all_eq_true.mp ck_196_2), (List.all_eq_true.mp ck_196_3)⟩⟩⟩
set_option maxRecDepth 100000 in
theorem ck_197 : ∀ e ∈ iT197, chk 197 e = true := List.all_eq_true.mp (by decide +kernel)
set_option maxRecDepth 100000 in
theorem ck_198_0 : (iT198_0.all (chk 198)) = true := by decide +kernel
set_option maxRecDepth 100000 in
theorem ck_198_1 : (iT198_1.all (chk 198)) = true := by decide +kernel
set_option maxRecDepth 100000 in
theorem ck_198_2 : (iT198_2.all (chk 198)) = true := by decide +kernel
theorem ck_198 : ∀ e ∈ iT198, chk 198 e = true := List.forall_mem_append.mpr ⟨(List.all_eq_true.mp ck_198_0), List.forall_mem_append.mpr ⟨(List.all_eq_true.mp ck_198_1), (List.all_eq_true.mp ck_198_2)⟩⟩
set_option maxRecDepth 100000 in
theorem ck_199 : ∀ e ∈ iT199, chk 199 e = true := List.all_eq_true.mp (by decide +kernel)
set_option maxRecDepth 100000 in
theorem ck_200_0 : (iT200_0.all (chk 200)) = true := by decide +kernel
set_option maxRecDepth 100000 in
theorem ck_200_1 : (iT200_1.all (chk 200)) = true := by decide +kernel
theorem ck_200 : ∀ e ∈ iT200, chk 200 e = true := List.forall_mem_append.mpr ⟨(List.all_eq_true.mp ck_200_0), (List.all_eq_true.mp ck_200_1)⟩
set_option maxRecDepth 100000 in
theorem ck_201 : ∀ e ∈ iT201, chk 201 e = true := List.all_eq_true.mp (by decide +kernel)
set_option maxRecDepth 100000 in
theorem ck_202_0 : (iT202_0.all (chk 202)) = true := by decide +kernel
set_option maxRecDepth 100000 in
theorem ck_202_1 : (iT202_1.all (chk 202)) = true := by decide +kernel
theorem ck_202 : ∀ e ∈ iT202, chk 202 e = true := List.forall_mem_append.mpr ⟨(List.all_eq_true.mp ck_202_0), (List.all_eq_true.mp ck_202_1)⟩
set_option maxRecDepth 100000 in
theorem ck_203 : ∀ e ∈ iT203, chk 203 e = true := List.all_eq_true.mp (by decide +kernel)
set_option maxRecDepth 100000 in
theorem ck_204 : ∀ e ∈ iT204, chk 204 e = true := List.all_eq_true.mp (by decide +kernel)
set_option maxRecDepth 100000 in
theorem ck_205_0 : (iT205_0.all (chk 205)) = true := by decide +kernel
set_option maxRecDepth 100000 in
theorem ck_205_1 : (iT205_1.all (chk 205)) = true := by decide +kernel
theorem ck_205 : ∀ e ∈ iT205, chk 205 e = true := List.forall_mem_append.mpr ⟨(List.all_eq_true.mp ck_205_0), (List.all_eq_true.mp ck_205_1)⟩
set_option maxRecDepth 100000 in
theorem ck_206 : ∀ e ∈ iT206, chk 206 e = true := List.all_eq_true.mp (by decide +kernel)
set_option maxRecDepth 100000 in
theorem ck_207 : ∀ e ∈ iT207, chk 207 e = true := List.all_eq_true.mp (by decide +kernel)
set_option maxRecDepth 100000 in
theorem ck_208_0 : (iT208_0.all (chk 208)) = true := by decide +kernel
set_option maxRecDepth 100000 in
theorem ck_208_1 : (iT208_1.all (chk 208)) = true := by decide +kernel
theorem ck_208 : ∀ e ∈ iT208, chk 208 e = true := List.forall_mem_append.mpr ⟨(List.all_eq_true.mp ck_208_0), (List.all_eq_true.mp ck_208_1)⟩
set_option maxRecDepth 100000 in
theorem ck_209 : ∀ e ∈ iT209, chk 209 e = true := List.all_eq_true.mp (by decide +kernel)
set_option maxRecDepth 100000 in
theorem ck_210 : ∀ e ∈ iT210, chk 210 e = true := List.all_eq_true.mp (by decide +kernel)
set_option maxRecDepth 100000 in
theorem ck_211_0 : (iT211_0.all (chk 211)) = true := by decide +kernel
set_option maxRecDepth 100000 in
theorem ck_211_1 : (iT211_1.all (chk 211)) = true := by decide +kernel
set_option maxRecDepth 100000 in
theorem ck_211_2 : (iT211_2.all (chk 211)) = true := by decide +kernel
theorem ck_211 : ∀ e ∈ iT211, chk 211 e = true := List.forall_mem_append.mpr ⟨(List.all_eq_true.mp ck_211_0), List.forall_mem_append.mpr ⟨(List.all_eq_true.mp ck_211_1), (List.all_eq_true.mp ck_211_2)⟩⟩
set_option maxRecDepth 100000 in
theorem ck_212 : ∀ e ∈ iT212, chk 212 e = true := List.all_eq_true.mp (by decide +kernel)
set_option maxRecDepth 100000 in
theorem ck_213 : ∀ e ∈ iT213, chk 213 e = true := List.all_eq_true.mp (by decide +kernel)
set_option maxRecDepth 100000 in
theorem ck_214 : ∀ e ∈ iT214, chk 214 e = true := List.all_eq_true.mp (by decide +kernel)
set_option maxRecDepth 100000 in
theorem ck_215 : ∀ e ∈ iT215, chk 215 e = true := List.all_eq_true.mp (by decide +kernel)
set_option maxRecDepth 100000 in
theorem ck_216 : ∀ e ∈ iT216, chk 216 e = true := List.all_eq_true.mp (by decide +kernel)
set_option maxRecDepth 100000 in
theorem ck_217_0 : (iT217_0.all (chk 217)) = true := by decide +kernel
set_option maxRecDepth 100000 in
theorem ck_217_1 : (iT217_1.all (chk 217)) = true := by decide +kernel
set_option maxRecDepth 100000 in
theorem ck_217_2 : (iT217_2.all (chk 217)) = true := by decide +kernel
theorem ck_217 : ∀ e ∈ iT217, chk 217 e = true := List.forall_mem_append.mpr ⟨(List.all_eq_true.mp ck_217_0), List.forall_mem_append.mpr ⟨(List.all_eq_true.mp ck_217_1), (List.all_eq_true.mp ck_217_2)⟩⟩
set_option maxRecDepth 100000 in
theorem ck_218_0 : (iT218_0.all (chk 218)) = true := by decide +kernel
set_option maxRecDepth 100000 in
theorem ck_218_1 : (iT218_1.all (chk 218)) = true := by decide +kernel
set_option maxRecDepth 100000 in
theorem ck_218_2 : (iT218_2.all (chk 218)) = true := by decide +kernel
set_option maxRecDepth 100000 in
theorem ck_218_3 : (iT218_3.all (chk 218)) = true := by decide +kernel
set_option maxRecDepth 100000 in
theorem ck_218_4 : (iT218_4.all (chk 218)) = true := by decide +kernel
set_option maxRecDepth 100000 in
theorem ck_218_5 : (iT218_5.all (chk 218)) = true := by decide +kernel
theorem ck_218 : ∀ e ∈ iT218, chk 218 e = true := List.forall_mem_append.mpr ⟨(List.all_eq_true.mp ck_218_0), List.forall_mem_append.mpr ⟨(List.all_eq_true.mp ck_218_1), List.forall_mem_append.mpr ⟨(List.all_eq_true.mp ck_218_2), List.forall_mem_append.mpr ⟨(List.all_eq_true.mp ck_218_3), List.forall_mem_append.mpr ⟨(List.all_eq_true.mp ck_218_4), (List.all_eq_true.mp ck_218_5)⟩⟩⟩⟩⟩
set_option maxRecDepth 100000 in
theorem ck_219 : ∀ e ∈ iT219, chk 219 e = true := List.all_eq_true.mp (by decide +kernel)
