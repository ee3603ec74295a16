/-! all pairs of calls keep what ties both worlds -/
theorem Cw_c {t : tTown} {di d : tDi} (hw : Wt t) (q : ∀ a k, 0 < a → a < 144 → d a k = di a k) (hc : Cw t di) : Cw t d := by
  obtain ⟨⟨⟨a1, l1, a2, a3, a4, a5⟩, ⟨b1, l2, b2, b3, b4, b5⟩, ⟨c1, l3, c2, c3, c4, c5⟩, e1, e2⟩, h⟩ := hc
  refine ⟨⟨⟨?_, l1, a2, ?_, a4, fun k hk => ?_⟩, ⟨?_, l2, b2, ?_, b4, fun k hk => ?_⟩, ⟨?_, l3, c2, ?_, c4, fun k hk => ?_⟩, ?_, ?_⟩, ?_⟩
  · rw [q _ _ (by omega) (by omega)]; exact a1
  · rw [q _ _ (by omega) (by omega)]; exact a3
  · rw [q _ _ (by omega) (by omega), q _ _ (by omega) (by omega), q _ _ (by omega) (by omega), q _ _ (by omega) (by omega)]; exact a5 k hk
  · rw [q _ _ (by omega) (by omega)]; exact b1
  · rw [q _ _ (by omega) (by omega)]; exact b3
  · rw [q _ _ (by omega) (by omega), q _ _ (by omega) (by omega), q _ _ (by omega) (by omega), q _ _ (by omega) (by omega), q _ _ (by omega) (by omega)]; exact b5 k hk
  · rw [q _ _ (by omega) (by omega)]; exact c1
  · rw [q _ _ (by omega) (by omega)]; exact c3
  · rw [q _ _ (by omega) (by omega)]; exact c5 k hk
  · rw [q _ _ (by omega) (by omega)]; exact e1
  · rw [q _ _ (by omega) (by omega)]; exact e2
  · rcases h with z | z
    · left
      rw [q _ _ (by omega) (by omega)]
      exact z
    · exact Or.inr (Wv_cong hw (fun a k z1 z2 => q a k (by omega) (by omega)) z)
section PAIRS
variable {di d : tDi} {dl dl' : tDl} {r r' : Int32}
theorem INV_Pt (H : INV di dl) (h : Pt di dl r r' d dl') : r = r' ∧ INV d dl' := by
  obtain ⟨e, _, h | ⟨g1, g2, q⟩⟩ := h
  · rw [h]
    exact ⟨e, H⟩
  obtain ⟨h1, h2, h3, h4, h5, h6, h7⟩ := H
  refine ⟨e, g1, ?_, ?_, ?_, ?_, Or.inl g2, ?_⟩
  · exact Ish_cong (fun a ha k => q a k (by omega) (by omega) (by omega) (by omega)) h2
  · exact Ila_cong (q _ _ (by omega) (by omega) (by omega) (by omega)) (q _ _ (by omega) (by omega) (by omega) (by omega)) h3
  · exact Ini_cong (q _ _ (by omega) (by omega) (by omega) (by omega)) (q _ _ (by omega) (by omega) (by omega) (by omega)) (fun a ha k => q a k (by omega) (by omega) (by omega) (by omega)) h4
  · exact Ise_cong (q _ _ (by omega) (by omega) (by omega) (by omega)) (q _ _ (by omega) (by omega) (by omega) (by omega)) (fun k => q _ k (by omega) (by omega) (by omega) (by omega)) h5
  · intro u hu
    rw [q _ _ (by omega) (by omega) (by omega) (by omega)]
    exact h7 u hu
theorem INV_Pe (H : INV di dl) (h : Pe di dl r r' d dl') : r = r' ∧ INV d dl' := by
  obtain ⟨e, g1, q, g2 | h, _⟩ := h
  · obtain ⟨h1, h2, h3, h4, h5, h6, h7⟩ := H
    refine ⟨e, ?_, ?_, ?_, ?_, g1, Or.inl g2, ?_⟩
    · exact Itx_cong (fun a k z1 z2 => q a k (by omega) (by omega)) (fun k => q _ k (by omega) (by omega)) (fun k => q _ k (by omega) (by omega)) h1
    · exact Ish_cong (fun a ha k => q a k (by omega) (by omega)) h2
    · exact Ila_cong (q _ _ (by omega) (by omega)) (q _ _ (by omega) (by omega)) h3
    · exact Ini_cong (q _ _ (by omega) (by omega)) (q _ _ (by omega) (by omega)) (fun a ha k => q a k (by omega) (by omega)) h4
    · intro u hu
      rw [q _ _ (by omega) (by omega)]
      exact h7 u hu
  · rw [h]
    exact ⟨e, H⟩
theorem INV_Ps (H : INV di dl) (h : Ps di dl r r' d dl') : r = r' ∧ INV d dl' := by
  obtain ⟨t, hw, hcw⟩ := INV_t H
  obtain ⟨h1, h2, h3, h4, h5, h6, h7⟩ := H
  obtain ⟨e, g1, g2, q, _⟩ := h
  refine ⟨e, ?_, g1, g2, ?_, ?_, ?_, ?_⟩
  · exact Itx_cong (fun a k z1 z2 => q a k (by omega) (by omega) (by omega) (by omega)) (fun k => q _ k (by omega) (by omega) (by omega) (by omega)) (fun k => q _ k (by omega) (by omega) (by omega) (by omega)) h1
  · exact Ini_cong (q _ _ (by omega) (by omega) (by omega) (by omega)) (q _ _ (by omega) (by omega) (by omega) (by omega)) (fun a ha k => q a k (by omega) (by omega) (by omega) (by omega)) h4
  · exact Ise_cong (q _ _ (by omega) (by omega) (by omega) (by omega)) (q _ _ (by omega) (by omega) (by omega) (by omega)) (fun k => q _ k (by omega) (by omega) (by omega) (by omega)) h5
  · exact Cw_iw hw (Cw_c hw (fun a k z1 z2 => q a k (by omega) (by omega) (by omega) (by omega)) hcw)
  · intro u hu
    rw [q _ _ (by omega) (by omega) (by omega) (by omega)]
    exact h7 u hu
theorem INV_Pn (H : INV di dl) (h : Pn di dl r r' d dl') : r = r' ∧ INV d dl' := by
  obtain ⟨t, hw, hcw⟩ := INV_t H
  obtain ⟨h1, h2, h3, h4, h5, h6, h7⟩ := H
  obtain ⟨e, g1, q, _⟩ := h
  refine ⟨e, ?_, ?_, ?_, g1, ?_, ?_, ?_⟩
  · exact Itx_cong (fun a k z1 z2 => q a k (by omega) (by omega) (by omega) (by omega)) (fun k => q _ k (by omega) (by omega) (by omega) (by omega)) (fun k => q _ k (by omega) (by omega) (by omega) (by omega)) h1
  · exact Ish_cong (fun a ha k => q a k (by omega) (by omega) (by omega) (by omega)) h2
  · exact Ila_cong (q _ _ (by omega) (by omega) (by omega) (by omega)) (q _ _ (by omega) (by omega) (by omega) (by omega)) h3
  · exact Ise_cong (q _ _ (by omega) (by omega) (by omega) (by omega)) (q _ _ (by omega) (by omega) (by omega) (by omega)) (fun k => q _ k (by omega) (by omega) (by omega) (by omega)) h5
  · exact Cw_iw hw (Cw_c hw (fun a k z1 z2 => q a k (by omega) (by omega) (by omega) (by omega)) hcw)
  · intro u hu
    rw [q _ _ (by omega) (by omega) (by omega) (by omega)]
    exact h7 u hu
theorem INV_Pr (H : INV di dl) (h : Pr di dl r r' d dl') : r = r' ∧ INV d dl' := by
  obtain ⟨t, hw, hcw⟩ := INV_t H
  obtain ⟨h1, h2, h3, h4, h5, h6, h7⟩ := H
  obtain ⟨e, g1, g2, q, _⟩ := h
  refine ⟨e, ?_, ?_, g2, g1, ?_, ?_, ?_⟩
  · exact Itx_cong (fun a k z1 z2 => q a k (by omega) (by omega) (by omega) (by omega) (by omega)) (fun k => q _ k (by omega) (by omega) (by omega) (by omega) (by omega)) (fun k => q _ k (by omega) (by omega) (by omega) (by omega) (by omega)) h1
  · exact Ish_cong (fun a ha k => q a k (by omega) (by omega) (by omega) (by omega) (by omega)) h2
  · exact Ise_cong (q _ _ (by omega) (by omega) (by omega) (by omega) (by omega)) (q _ _ (by omega) (by omega) (by omega) (by omega) (by omega)) (fun k => q _ k (by omega) (by omega) (by omega) (by omega) (by omega)) h5
  · exact Cw_iw hw (Cw_c hw (fun a k z1 z2 => q a k (by omega) (by omega) (by omega) (by omega) (by omega)) hcw)
  · intro u hu
    rw [q _ _ (by omega) (by omega) (by omega) (by omega) (by omega)]
    exact h7 u hu
end PAIRS
theorem i_type : PrI2 INV 5 91 2 152 := fun _ _ H a b => ClI_mono (p_type H.1 a b) (fun _ _ _ h => ClI_mono h (fun _ _ _ g => INV_Pt H g))
theorem i_wipe : PrI1 INV 5 92 2 153 := fun _ _ H a => ClI_mono (p_wipe H.1 a) (fun _ _ _ h => ClI_mono h (fun _ _ _ g => INV_Pt H g))
theorem i_undo : PrI1 INV 5 93 2 154 := fun _ _ H a => ClI_mono (p_undo H.1 a) (fun _ _ _ h => ClI_mono h (fun _ _ _ g => INV_Pt H g))
theorem i_set : PrI2 INV 1 98 2 171 := fun _ _ H a b => ClI_mono (p_set H.2.2.2.2.1 a b) (fun _ _ _ h => ClI_mono h (fun _ _ _ g => INV_Pe H g))
theorem i_seen : PrI3 INV 1 108 1 200 := fun _ _ H a b c => ClI_mono (p_seen H.2.2.2.1 a b c) (fun _ _ _ h => ClI_mono h (fun _ _ _ g => INV_Pn H g))
theorem i_forget : PrI0 INV 0 109 0 201 := by
  intro di dl H
  refine ClI_mono (p_forget H.2.2.2.1) (fun r d1 l1 h => ClI_mono h (fun r' d2 l2 g => INV_Pn H ⟨g.1, g.2.2.2, ?_, g.2.2.1⟩))
  intro a k z1 z2 z3 z4
  rw [g.2.1]
  unfold up2
  rw [if_neg z4, if_neg z3]
theorem i_read : PrI1 INV 2 110 2 202 := fun _ _ H a => ClI_mono (p_read H.2.1 H.2.2.1 H.2.2.2.1 a) (fun _ _ _ h => ClI_mono h (fun _ _ _ g => INV_Pr H g))
theorem i_sheet : PrI3 INV 1 115 2 144 := fun _ _ H a b c => ClI_mono (p_sheet H.2.1 H.2.2.1 a b c) (fun _ _ _ h => ClI_mono h (fun _ _ _ g => INV_Ps H g))
theorem i_lose : PrI1 INV 1 116 2 145 := fun _ _ H a => ClI_mono (p_lose H.2.1 H.2.2.1 a) (fun _ _ _ h => ClI_mono h (fun _ _ _ g => INV_Ps H g))
theorem i_lay : PrI4 INV 2 117 2 148 := fun _ _ H a b c e => ClI_mono (p_lay H.2.1 H.2.2.1 a b c e) (fun _ _ _ h => ClI_mono h (fun _ _ _ g => INV_Ps H g))
theorem i_get : PrI3 INV 2 118 2 149 := fun _ _ H a b c => ClI_mono (p_get H.2.1 H.2.2.1 a b c) (fun _ _ _ h => ClI_mono h (fun _ _ _ g => INV_Ps H g))
theorem i_copy : PrI5 INV 1 119 2 150 := fun _ _ H a b c e f => ClI_mono (p_copy H.2.1 H.2.2.1 a b c e f) (fun _ _ _ h => ClI_mono h (fun _ _ _ g => INV_Ps H g))
theorem i_write : PrI2 INV 4 120 7 215 := fun _ _ H a b => p_write H a b
theorem i_fault : PrI1 INV 1 94 6 164 := by
  intro di dl H a
  obtain ⟨t, hw, hcw⟩ := INV_t H
  obtain ⟨rx, rs, rn, rl⟩ := INV_r H FC_rf
  refine k_94 a ?_
  intro r hr
  refine k_164 rx rs a ?_
  intro d r' hr' fm
  exact ⟨hr.trans hr'.symm, INV_d H hw hcw FC_rf (FM_m fm)⟩
theorem i_count : PrI1 INV 0 121 7 216 := by
  intro di dl H a
  obtain ⟨t, hw, hcw⟩ := INV_t H
  obtain ⟨rx, rs, rn, rl⟩ := INV_r H FC_rf
  refine k_121 a ?_
  refine k_216 rx rs hw hcw.1 rn rl a ?_
  intro d _ fm
  exact ⟨rfl, INV_d H hw hcw FC_rf (FM_m fm)⟩
theorem i_statue : PrI2 INV 2 95 7 168 := by
  intro di dl H a b
  obtain ⟨t, hw, hcw⟩ := INV_t H
  obtain ⟨rx, rs, rn, rl⟩ := INV_r H FC_rf
  refine k_95 hw hcw.1 a b ?_
  refine k_168 rx rs hw hcw.1 a b ?_
  intro d _ fm
  exact ⟨rfl, INV_d H hw hcw FC_rf (FM_m fm)⟩
theorem i_cloth : PrI2 INV 2 96 7 169 := by
  intro di dl H a b
  obtain ⟨t, hw, hcw⟩ := INV_t H
  obtain ⟨rx, rs, rn, rl⟩ := INV_r H FC_rf
  refine k_96 hw hcw.1 a b ?_
  refine k_169 rx rs hw hcw.1 a b ?_
  intro d _ fm
  exact ⟨rfl, INV_d H hw hcw FC_rf (FM_m fm)⟩
theorem i_season : PrI1 INV 2 97 7 170 := by
  intro di dl H a
  obtain ⟨t, hw, hcw⟩ := INV_t H
  obtain ⟨rx, rs, rn, rl⟩ := INV_r H FC_rf
  refine k_97 hw hcw.1 a ?_
  refine k_170 rx rs hw hcw.1 a ?_
  intro d _ fm
  exact ⟨rfl, INV_d H hw hcw FC_rf (FM_m fm)⟩
theorem i_moths : PrJ4 INV 3 113 7 212 := by
  intro di dl H a b c e
  obtain ⟨t, hw, hcw⟩ := INV_t H
  obtain ⟨rx, rs, rn, rl⟩ := INV_r H FC_rf
  refine k_113 hw hcw.1 a b c e ?_
  intro l
  refine k_212 rx rs hw hcw.1 a b c e ?_
  intro d _ fm
  exact ⟨rfl, INV_d H hw hcw FC_rf (FM_m fm)⟩
theorem i_is : PrI3 INV 4 99 7 181 := by
  intro di dl H a b c
  obtain ⟨t, hw, hcw⟩ := INV_t H
  refine k_99 hw hcw a b c ?_
  intro d cw fc
  obtain ⟨rx, rs, rn, rl⟩ := INV_r H fc
  refine k_181 rx rs hw cw.1 a b c ?_
  intro d' _ fm
  exact ⟨rfl, INV_d H hw cw fc fm⟩
theorem i_fits : PrI2 INV 4 100 7 183 := by
  intro di dl H a b
  obtain ⟨t, hw, hcw⟩ := INV_t H
  refine k_100 hw hcw a b ?_
  intro d cw fc
  obtain ⟨rx, rs, rn, rl⟩ := INV_r H fc
  refine k_183 rx rs hw cw.1 a b ?_
  intro d' _ fm
  exact ⟨rfl, INV_d H hw cw fc fm⟩
theorem i_wears : PrI2 INV 4 101 7 185 := by
  intro di dl H a b
  obtain ⟨t, hw, hcw⟩ := INV_t H
  refine k_101 hw hcw a b ?_
  intro d cw fc
  obtain ⟨rx, rs, rn, rl⟩ := INV_r H fc
  refine k_185 rx rs hw cw.1 a b ?_
  intro d' _ fm
  exact ⟨rfl, INV_d H hw cw fc fm⟩
theorem i_behind : PrI2 INV 4 102 7 188 := by
  intro di dl H a b
  obtain ⟨t, hw, hcw⟩ := INV_t H
  refine k_102 hw hcw a b ?_
  intro d cw fc
  obtain ⟨rx, rs, rn, rl⟩ := INV_r H fc
  refine k_188 rx rs hw cw.1 a b ?_
  intro d' _ fm
  exact ⟨rfl, INV_d H hw cw fc fm⟩
theorem i_freezes : PrI1 INV 4 103 7 190 := by
  intro di dl H a
  obtain ⟨t, hw, hcw⟩ := INV_t H
  refine k_103 hw hcw a ?_
  intro d cw fc
  obtain ⟨rx, rs, rn, rl⟩ := INV_r H fc
  refine k_190 rx rs hw cw.1 a ?_
  intro d' _ fm
  exact ⟨rfl, INV_d H hw cw fc fm⟩
theorem i_changes : PrI1 INV 4 104 7 192 := by
  intro di dl H a
  obtain ⟨t, hw, hcw⟩ := INV_t H
  refine k_104 hw hcw a ?_
  intro d cw fc
  obtain ⟨rx, rs, rn, rl⟩ := INV_r H fc
  refine k_192 rx rs hw cw.1 a ?_
  intro d' _ fm
  exact ⟨rfl, INV_d H hw cw fc fm⟩
theorem i_most : PrI2 INV 4 105 7 194 := by
  intro di dl H a b
  obtain ⟨t, hw, hcw⟩ := INV_t H
  refine k_105 hw hcw H.2.2.2.2.2.2 a b ?_
  intro d cw fc
  obtain ⟨rx, rs, rn, rl⟩ := INV_r H fc
  refine k_194 rx rs hw cw.1 a b ?_
  intro d' _ fm
  exact ⟨rfl, INV_d H hw cw fc fm⟩
theorem i_round : PrI3 INV 14 106 7 197 := by
  intro di dl H a b c
  obtain ⟨t, hw, hcw⟩ := INV_t H
  refine k_106 hw hcw a b c ?_
  intro d cw fc
  obtain ⟨rx, rs, rn, rl⟩ := INV_r H fc
  refine k_197 rx rs hw cw.1 a b c ?_
  intro d' _ fm
  exact ⟨rfl, INV_d H hw cw fc fm⟩
theorem i_sew : PrI2 INV 4 107 7 199 := by
  intro di dl H a b
  obtain ⟨t, hw, hcw⟩ := INV_t H
  refine k_107 hw hcw a b ?_
  intro d cw fc
  obtain ⟨rx, rs, rn, rl⟩ := INV_r H fc
  refine k_199 rx rs hw cw.1 a b ?_
  intro d' _ fm
  exact ⟨rfl, INV_d H hw cw fc fm⟩
theorem i_weather : PrI3 INV 4 114 7 214 := by
  intro di dl H a b c
  obtain ⟨t, hw, hcw⟩ := INV_t H
  refine k_114 hw hcw a b c ?_
  intro d cw fc
  obtain ⟨rx, rs, rn, rl⟩ := INV_r H fc
  refine k_214 rx rs hw cw.1 a b c ?_
  intro d' _ fm
  exact ⟨rfl, INV_d H hw cw fc fm⟩
theorem Yr_c {y : tY} {di d : tDi} (fc : FC di d) (h : Yr y di) : Yr y d := by
  refine ⟨(fc _ _ (by omega) (by omega) (by omega) (by omega) (by omega)).trans h.1, fun k hk => ?_⟩
  rw [fc 193 _ (by omega) (by omega) (by omega) (by omega) (by omega), fc 193 _ (by omega) (by omega) (by omega) (by omega) (by omega), fc 193 _ (by omega) (by omega) (by omega) (by omega) (by omega)]
  exact h.2 k hk
theorem i_swapped : PrI1 INV 4 111 7 207 := by
  intro di dl H a
  obtain ⟨t, hw, hcw⟩ := INV_t H
  obtain ⟨y, yb, yc, yr⟩ := Ini_Y H.2.2.2.1
  refine k_111 hw hcw yb yc a ?_
  intro d cw fc
  obtain ⟨rx, rs, rn, rl⟩ := INV_r H fc
  refine k_207 rx rs hw cw.1 yb (Yr_c fc yr) a ?_
  intro d' _ fm
  exact ⟨rfl, INV_d H hw cw fc fm⟩
theorem i_look : PrI1 INV 4 112 7 210 := by
  intro di dl H a
  obtain ⟨t, hw, hcw⟩ := INV_t H
  obtain ⟨y, yb, yc, yr⟩ := Ini_Y H.2.2.2.1
  refine k_112 hw hcw yb yc a ?_
  intro d cw fc
  obtain ⟨rx, rs, rn, rl⟩ := INV_r H fc
  refine k_210 rx rs hw cw.1 yb (Yr_c fc yr) a ?_
  intro d' _ fm
  exact ⟨rfl, INV_d H hw cw fc fm⟩
theorem ftV_c {di d : tDi} (fc : FC di d) : ftV d = ftV di := by
  funext i
  unfold ftV
  rw [fc 1 _ (by omega) (by omega) (by omega) (by omega) (by omega), fc 3 _ (by omega) (by omega) (by omega) (by omega) (by omega), fc 5 _ (by omega) (by omega) (by omega) (by omega) (by omega)]
theorem aco_c {di d : tDi} (fc : FC di d) (a : Int32) : a_co d a = a_co di a := by
  unfold a_co
  rw [fc 1 4 (by omega) (by omega) (by omega) (by omega) (by omega), fc 3 4 (by omega) (by omega) (by omega) (by omega) (by omega), fc 5 4 (by omega) (by omega) (by omega) (by omega) (by omega), fc 1 2 (by omega) (by omega) (by omega) (by omega) (by omega), fc 3 2 (by omega) (by omega) (by omega) (by omega) (by omega), fc 5 2 (by omega) (by omega) (by omega) (by omega) (by omega), fc 8 8 (by omega) (by omega) (by omega) (by omega) (by omega), fc 159 8 (by omega) (by omega) (by omega) (by omega) (by omega), fc 0 10 (by omega) (by omega) (by omega) (by omega) (by omega)]
theorem i_digest : PrJ0 INV 15 122 8 218 := by
  intro di dl H
  obtain ⟨t, hw, hcw⟩ := INV_t H
  obtain ⟨y, yb, yc, yr⟩ := Ini_Y H.2.2.2.1
  refine k_122 hw yb ⟨hcw, yc, H.2.2.2.2.2.2⟩ ?_
  intro d l cx fc
  obtain ⟨rx, rs, rn, rl⟩ := INV_r H fc
  refine k_218 rx rs rn rl hw cx.1.1 yb (Yr_c fc yr) ?_
  intro d' fm
  refine ⟨?_, INV_d H hw cx.1 fc fm⟩
  rw [ftV_c fc, show (fun k => a_co d (nI k)) = (fun k => a_co di (nI k)) from funext (fun k => aco_c fc (nI k))]
theorem D0_154 : ∀ u, u < 256 → D0 154 u = 0 := fun u hu => of_decide_eq_true (List.all_eq_true.mp D0_res.2 u (List.mem_range.mpr hu))
theorem INV_0 : INV D0 L0 := by
  obtain ⟨a1, a2, a3, b1, b2, b3, c1, c2, c3, d1, d2, d3, e1, e2, e3, n1, s0, s1, s2, s3, z0, z1, z2, z3, l1, l2, n2, f0, f1, f2, f3, t0, t1, t2, g1, g2⟩ := D0_ok
  refine ⟨⟨?_, ?_, ?_⟩, ?_, ?_, ?_, ?_, Or.inl e3, D0_154⟩
  · exact ⟨0, fun _ => 0, ⟨by omega, a1, b1, t0, fun i hi => absurd hi (by omega)⟩, 0, -1, 0, ⟨by omega, fun i hi => absurd hi (by omega), fun h => absurd h (by omega)⟩, Or.inr (Or.inl ⟨rfl, Or.inl rfl, rfl, rfl⟩), c1, d1⟩
  · exact ⟨0, fun _ => 0, ⟨by omega, a2, b2, t1, fun i hi => absurd hi (by omega)⟩, 0, -1, 0, ⟨by omega, fun i hi => absurd hi (by omega), fun h => absurd h (by omega)⟩, Or.inr (Or.inl ⟨rfl, Or.inl rfl, rfl, rfl⟩), c2, d2⟩
  · exact ⟨0, fun _ => 0, ⟨by omega, a3, b3, t2, fun i hi => absurd hi (by omega)⟩, 0, -1, 0, ⟨by omega, fun i hi => absurd hi (by omega), fun h => absurd h (by omega)⟩, Or.inr ⟨rfl, rfl, rfl⟩, c3, d3⟩
  · intro s hs
    rcases (by omega : s = 0 ∨ s = 1 ∨ s = 2 ∨ s = 3) with rfl | rfl | rfl | rfl
    · exact ⟨s0.trans f0.symm, Or.inl f0⟩
    · exact ⟨s1.trans f1.symm, Or.inl f1⟩
    · exact ⟨s2.trans f2.symm, Or.inl f2⟩
    · exact ⟨s3.trans f3.symm, Or.inl f3⟩
  · exact l1.trans l2.symm
  · exact ⟨0, by omega, n1, n2, fun k hk => absurd hk (by omega)⟩
  · exact ⟨⟨15, by omega, e1, g1⟩, 0, by omega, e2, g2⟩
