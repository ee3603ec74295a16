/-! the small machine over the world behind the constructors: shapes stay, ints and longs change -/
abbrev tDi : Type := Nat → Nat → Int32
abbrev tDl : Type := Nat → Nat → Int64
abbrev tP : Type := Option Value → tDi → tDl → Prop
def Qs (P : tP) : tQ := fun v w => w.1 = S0 ∧ P v w.2.1 w.2.2
/-- at a point of a method -/
def Wq (sc : tSc) (d m pc : Nat) (ls : tF) (st : List Value) (di : tDi) (dl : tDl) (P : tP) : Prop := ∀ b : tB, Wp sc d m (pc, ls, st, (S0, di, dl), b) (Qs P)
/-- at an instruction, its dead locals forgotten -/
def WI (sc : tSc) (d m : Nat) (i : Instr) (t : Nat) (c : Int) (ps : List (Nat × Nat)) (pc : Nat) (ls : tF) (st : List Value) (di : tDi) (dl : tDl) (P : tP) : Prop := ∀ (o : Option (List Nat)) (ls0 : tF) (b : tB), ins m pc = some (i, (t, c, ps, o)) → lflt o ls0 = ls → Wp sc d m (pc, ls0, st, (S0, di, dl), b) (Qs P)
/-- a call -/
def Cl (d f : Nat) (as : List Value) (di : tDi) (dl : tDl) (P : tP) : Prop := Wp none d f (ent f as (S0, di, dl)) (Qs P)
def ClI (d f : Nat) (as : List Value) (di : tDi) (dl : tDl) (K : Int32 → tDi → tDl → Prop) : Prop := Cl d f as di dl (fun v di dl => ∃ r, v = some (.int r) ∧ K r di dl)
def ClJ (d f : Nat) (as : List Value) (di : tDi) (dl : tDl) (K : Int64 → tDi → tDl → Prop) : Prop := Cl d f as di dl (fun v di dl => ∃ r, v = some (.long r) ∧ K r di dl)
def ClV (d f : Nat) (as : List Value) (di : tDi) (dl : tDl) (K : tDi → tDl → Prop) : Prop := Cl d f as di dl (fun v di dl => v = none ∧ K di dl)
def ClR (d f : Nat) (as : List Value) (di : tDi) (dl : tDl) (K : Value → tDi → tDl → Prop) : Prop := Cl d f as di dl (fun v di dl => ∃ r, v = some r ∧ K r di dl)
theorem Cl_mono {d f : Nat} {as : List Value} {di : tDi} {dl : tDl} {P P' : tP} (hq : ∀ v di dl, P v di dl → P' v di dl) (h : Cl d f as di dl P) : Cl d f as di dl P' := Wp_mono (Nat.le_refl _) (fun v w hw => ⟨hw.1, hq v _ _ hw.2⟩) h
theorem Cl_up {d d' f : Nat} {as : List Value} {di : tDi} {dl : tDl} {P : tP} (hd : d ≤ d') (h : Cl d f as di dl P) : Cl d' f as di dl P := Wp_mono hd (fun _ _ h => h) h
theorem ClI_mono {d f : Nat} {as : List Value} {di : tDi} {dl : tDl} {K K' : Int32 → tDi → tDl → Prop} (h : ClI d f as di dl K) (hq : ∀ r di dl, K r di dl → K' r di dl) : ClI d f as di dl K' := Cl_mono (fun v di dl hv => by obtain ⟨r, h1, h2⟩ := hv; exact ⟨r, h1, hq _ _ _ h2⟩) h
theorem ClJ_mono {d f : Nat} {as : List Value} {di : tDi} {dl : tDl} {K K' : Int64 → tDi → tDl → Prop} (h : ClJ d f as di dl K) (hq : ∀ r di dl, K r di dl → K' r di dl) : ClJ d f as di dl K' := Cl_mono (fun v di dl hv => by obtain ⟨r, h1, h2⟩ := hv; exact ⟨r, h1, hq _ _ _ h2⟩) h
theorem ClV_mono {d f : Nat} {as : List Value} {di : tDi} {dl : tDl} {K K' : tDi → tDl → Prop} (h : ClV d f as di dl K) (hq : ∀ di dl, K di dl → K' di dl) : ClV d f as di dl K' := Cl_mono (fun v di dl hv => ⟨hv.1, hq _ _ hv.2⟩) h
theorem ClR_mono {d f : Nat} {as : List Value} {di : tDi} {dl : tDl} {K K' : Value → tDi → tDl → Prop} (h : ClR d f as di dl K) (hq : ∀ r di dl, K r di dl → K' r di dl) : ClR d f as di dl K' := Cl_mono (fun v di dl hv => by obtain ⟨r, h1, h2⟩ := hv; exact ⟨r, h1, hq _ _ _ h2⟩) h
/-- a call begins at pc 0 -/
theorem Cl_of {d f : Nat} {as : List Value} {di : tDi} {dl : tDl} {P : tP} (h0 : mCc f = 0) (h1 : mSc f = 0) (ls : tF) (hl : lv_args 0 as = ls) (h : Wq none d f 0 ls [] di dl P) : Cl d f as di dl P := by
  unfold Cl ent
  rw [h0, h1, hl]
  exact h _
theorem q0 {sc : tSc} {d m pc : Nat} {i : Instr} {t : Nat} {c : Int} {ps : List (Nat × Nat)} {ls : tF} {st : List Value} {di : tDi} {dl : tDl} {P : tP} (hi : ins m pc = some (i, (t, c, ps, none))) (h : WI sc d m i t c ps pc ls st di dl P) : Wq sc d m pc ls st di dl P := fun b => h none ls b hi rfl
theorem q1 {sc : tSc} {d m pc : Nat} {i : Instr} {t : Nat} {c : Int} {ps : List (Nat × Nat)} {L : List Nat} {ls ls' : tF} {st : List Value} {di : tDi} {dl : tDl} {P : tP} (hi : ins m pc = some (i, (t, c, ps, some L))) (hl : lflt (some L) ls = ls') (h : WI sc d m i t c ps pc ls' st di dl P) : Wq sc d m pc ls st di dl P := fun b => h (some L) ls b hi hl
section OPS
variable {sc : tSc} {d m pc t : Nat} {c : Int} {ps : List (Nat × Nat)} {ls : tF} {st : List Value} {di : tDi} {dl : tDl} {P : tP}
theorem WI_n {i : Instr} {pc' : Nat} {ls' : tF} {st' : List Value} {di' : tDi} {dl' : tDl} (hs : ∀ (o : Option (List Nat)) (b : tB), ∃ b', stp sc m i (t, c, ps, o) pc ls st (S0, di, dl) b = some (.inl (pc', ls', st', (S0, di', dl'), b'))) (k : Wq sc d m pc' ls' st' di' dl' P) : WI sc d m i t c ps pc ls st di dl P := by
  intro o ls0 b hi hl
  obtain ⟨b', hs⟩ := hs o b
  refine Wp_next hi ?_ (k b')
  rw [show lflt ((t, c, ps, o) : tX).2.2.2 ls0 = ls from hl]
  exact hs
theorem wi_iconst {n : Int} (v : Int32) (hv : Int32.ofInt n = v) (k : Wq sc d m (pc + 1) ls (.int v :: st) di dl P) : WI sc d m (.iconst n) t c ps pc ls st di dl P := WI_n (fun _ b => ⟨b, by rw [← hv]; rfl⟩) k
theorem wi_bipush {n : Int} (v : Int32) (hv : (Int8.ofInt n).toInt32 = v) (k : Wq sc d m (pc + 2) ls (.int v :: st) di dl P) : WI sc d m (.bipush n) t c ps pc ls st di dl P := WI_n (fun _ b => ⟨b, by rw [← hv]; rfl⟩) k
theorem wi_sipush {n : Int} (v : Int32) (hv : (Int16.ofInt n).toInt32 = v) (k : Wq sc d m (pc + 3) ls (.int v :: st) di dl P) : WI sc d m (.sipush n) t c ps pc ls st di dl P := WI_n (fun _ b => ⟨b, by rw [← hv]; rfl⟩) k
theorem wi_lconst {n : Fin 2} (v : Int64) (hv : Int64.ofNat n = v) (k : Wq sc d m (pc + 1) ls (.long v :: st) di dl P) : WI sc d m (.lconst n) t c ps pc ls st di dl P := WI_n (fun _ b => ⟨b, by rw [← hv]; rfl⟩) k
theorem wi_null (k : Wq sc d m (pc + 1) ls (.null :: st) di dl P) : WI sc d m .aconst_null t c ps pc ls st di dl P := WI_n (fun _ _ => ⟨_, rfl⟩) k
theorem wi_ldc {n : Nat} (v : Int32) (hv : Int32.ofInt c = v) (k : Wq sc d m (pc + 2) ls (.int v :: st) di dl P) : WI sc d m (.ldc n) t c ps pc ls st di dl P := WI_n (fun _ b => ⟨b, by rw [← hv]; rfl⟩) k
theorem wi_ldc_w {n : Nat} (v : Int32) (hv : Int32.ofInt c = v) (k : Wq sc d m (pc + 3) ls (.int v :: st) di dl P) : WI sc d m (.ldc_w n) t c ps pc ls st di dl P := WI_n (fun _ b => ⟨b, by rw [← hv]; rfl⟩) k
theorem wi_ldc2_w {n : Nat} (v : Int64) (hv : Int64.ofInt c = v) (k : Wq sc d m (pc + 3) ls (.long v :: st) di dl P) : WI sc d m (.ldc2_w n) t c ps pc ls st di dl P := WI_n (fun _ b => ⟨b, by rw [← hv]; rfl⟩) k
theorem wi_iload_n {n : Fin 4} (v : Int32) (h : lget ls n = some (.int v)) (k : Wq sc d m (pc + 1) ls (.int v :: st) di dl P) : WI sc d m (.iload_n n) t c ps pc ls st di dl P := WI_n (fun _ b => ⟨b, by simp only [stp, s_il, h]; rfl⟩) k
theorem wi_iload {n : Nat} (v : Int32) (h : lget ls n = some (.int v)) (k : Wq sc d m (pc + 2) ls (.int v :: st) di dl P) : WI sc d m (.iload n) t c ps pc ls st di dl P := WI_n (fun _ b => ⟨b, by simp only [stp, s_il, h]; rfl⟩) k
theorem wi_lload_n {n : Fin 4} (v : Int64) (h : lget ls n = some (.long v)) (k : Wq sc d m (pc + 1) ls (.long v :: st) di dl P) : WI sc d m (.lload_n n) t c ps pc ls st di dl P := WI_n (fun _ b => ⟨b, by simp only [stp, s_ll, h]; rfl⟩) k
theorem wi_lload {n : Nat} (v : Int64) (h : lget ls n = some (.long v)) (k : Wq sc d m (pc + 2) ls (.long v :: st) di dl P) : WI sc d m (.lload n) t c ps pc ls st di dl P := WI_n (fun _ b => ⟨b, by simp only [stp, s_ll, h]; rfl⟩) k
theorem wi_aload_n {n : Fin 4} (v : Nat) (h : lget ls n = some (.ref v)) (k : Wq sc d m (pc + 1) ls (.ref v :: st) di dl P) : WI sc d m (.aload_n n) t c ps pc ls st di dl P := WI_n (fun _ b => ⟨b, by simp only [stp, s_al, h]; rfl⟩) k
theorem wi_aload {n : Nat} (v : Nat) (h : lget ls n = some (.ref v)) (k : Wq sc d m (pc + 2) ls (.ref v :: st) di dl P) : WI sc d m (.aload n) t c ps pc ls st di dl P := WI_n (fun _ b => ⟨b, by simp only [stp, s_al, h]; rfl⟩) k
theorem wi_aload_nN {n : Fin 4} (h : lget ls n = some .null) (k : Wq sc d m (pc + 1) ls (.null :: st) di dl P) : WI sc d m (.aload_n n) t c ps pc ls st di dl P := WI_n (fun _ b => ⟨b, by simp only [stp, s_al, h]; rfl⟩) k
theorem wi_aloadN {n : Nat} (h : lget ls n = some .null) (k : Wq sc d m (pc + 2) ls (.null :: st) di dl P) : WI sc d m (.aload n) t c ps pc ls st di dl P := WI_n (fun _ b => ⟨b, by simp only [stp, s_al, h]; rfl⟩) k
theorem wi_istore_n {n : Fin 4} {v : Int32} (ls' : tF) (hn : n < mMax m) (h : lset1 ls n (.int v) = ls') (k : Wq sc d m (pc + 1) ls' st di dl P) : WI sc d m (.istore_n n) t c ps pc ls (.int v :: st) di dl P := WI_n (fun _ b => ⟨b, by simp only [stp, s_is, if_pos hn, h]; rfl⟩) k
theorem wi_istore {n : Nat} {v : Int32} (ls' : tF) (hn : n < mMax m) (h : lset1 ls n (.int v) = ls') (k : Wq sc d m (pc + 2) ls' st di dl P) : WI sc d m (.istore n) t c ps pc ls (.int v :: st) di dl P := WI_n (fun _ b => ⟨b, by simp only [stp, s_is, if_pos hn, h]; rfl⟩) k
theorem wi_lstore_n {n : Fin 4} {v : Int64} (ls' : tF) (hn : n + 1 < mMax m) (h : lset2 ls n (.long v) = ls') (k : Wq sc d m (pc + 1) ls' st di dl P) : WI sc d m (.lstore_n n) t c ps pc ls (.long v :: st) di dl P := WI_n (fun _ b => ⟨b, by simp only [stp, s_ls, if_pos hn, h]; rfl⟩) k
theorem wi_lstore {n : Nat} {v : Int64} (ls' : tF) (hn : n + 1 < mMax m) (h : lset2 ls n (.long v) = ls') (k : Wq sc d m (pc + 2) ls' st di dl P) : WI sc d m (.lstore n) t c ps pc ls (.long v :: st) di dl P := WI_n (fun _ b => ⟨b, by simp only [stp, s_ls, if_pos hn, h]; rfl⟩) k
theorem wi_astore_n {n : Fin 4} {v : Nat} (ls' : tF) (hn : n < mMax m) (h : lset1 ls n (.ref v) = ls') (k : Wq sc d m (pc + 1) ls' st di dl P) : WI sc d m (.astore_n n) t c ps pc ls (.ref v :: st) di dl P := WI_n (fun _ b => ⟨b, by simp only [stp, s_as, if_pos hn, h]; rfl⟩) k
theorem wi_astore {n : Nat} {v : Nat} (ls' : tF) (hn : n < mMax m) (h : lset1 ls n (.ref v) = ls') (k : Wq sc d m (pc + 2) ls' st di dl P) : WI sc d m (.astore n) t c ps pc ls (.ref v :: st) di dl P := WI_n (fun _ b => ⟨b, by simp only [stp, s_as, if_pos hn, h]; rfl⟩) k
theorem wi_astore_nN {n : Fin 4} (ls' : tF) (hn : n < mMax m) (h : lset1 ls n .null = ls') (k : Wq sc d m (pc + 1) ls' st di dl P) : WI sc d m (.astore_n n) t c ps pc ls (.null :: st) di dl P := WI_n (fun _ b => ⟨b, by simp only [stp, s_as, if_pos hn, h]; rfl⟩) k
theorem wi_astoreN {n : Nat} (ls' : tF) (hn : n < mMax m) (h : lset1 ls n .null = ls') (k : Wq sc d m (pc + 2) ls' st di dl P) : WI sc d m (.astore n) t c ps pc ls (.null :: st) di dl P := WI_n (fun _ b => ⟨b, by simp only [stp, s_as, if_pos hn, h]; rfl⟩) k
theorem wi_iinc {n : Nat} {q : Int} {v : Int32} (u : Int32) (ls' : tF) (h : lget ls n = some (.int v)) (hn : n < mMax m) (hu : Int32.ofInt q = u) (hl : lset1 ls n (.int (v + u)) = ls') (k : Wq sc d m (pc + 3) ls' st di dl P) : WI sc d m (.iinc n q) t c ps pc ls st di dl P := WI_n (fun _ b => ⟨b, by simp only [stp, h, if_pos hn, hu, hl]; rfl⟩) k
theorem wi_iadd {x y : Int32} (k : Wq sc d m (pc + 1) ls (.int (x + y) :: st) di dl P) : WI sc d m .iadd t c ps pc ls (.int y :: .int x :: st) di dl P := WI_n (fun _ _ => ⟨_, rfl⟩) k
theorem wi_isub {x y : Int32} (k : Wq sc d m (pc + 1) ls (.int (x - y) :: st) di dl P) : WI sc d m .isub t c ps pc ls (.int y :: .int x :: st) di dl P := WI_n (fun _ _ => ⟨_, rfl⟩) k
theorem wi_imul {x y : Int32} (k : Wq sc d m (pc + 1) ls (.int (x * y) :: st) di dl P) : WI sc d m .imul t c ps pc ls (.int y :: .int x :: st) di dl P := WI_n (fun _ _ => ⟨_, rfl⟩) k
theorem wi_iand {x y : Int32} (k : Wq sc d m (pc + 1) ls (.int (x &&& y) :: st) di dl P) : WI sc d m .iand t c ps pc ls (.int y :: .int x :: st) di dl P := WI_n (fun _ _ => ⟨_, rfl⟩) k
theorem wi_ior {x y : Int32} (k : Wq sc d m (pc + 1) ls (.int (x ||| y) :: st) di dl P) : WI sc d m .ior t c ps pc ls (.int y :: .int x :: st) di dl P := WI_n (fun _ _ => ⟨_, rfl⟩) k
theorem wi_ixor {x y : Int32} (k : Wq sc d m (pc + 1) ls (.int (x ^^^ y) :: st) di dl P) : WI sc d m .ixor t c ps pc ls (.int y :: .int x :: st) di dl P := WI_n (fun _ _ => ⟨_, rfl⟩) k
theorem wi_ishl {x y : Int32} (k : Wq sc d m (pc + 1) ls (.int (x <<< (y &&& 31)) :: st) di dl P) : WI sc d m .ishl t c ps pc ls (.int y :: .int x :: st) di dl P := WI_n (fun _ _ => ⟨_, rfl⟩) k
theorem wi_ishr {x y : Int32} (k : Wq sc d m (pc + 1) ls (.int (x >>> (y &&& 31)) :: st) di dl P) : WI sc d m .ishr t c ps pc ls (.int y :: .int x :: st) di dl P := WI_n (fun _ _ => ⟨_, rfl⟩) k
def ushr (x y : Int32) : Int32 := (x.toUInt32 >>> (y.toUInt32 &&& Int32.toUInt32 31)).toInt32
theorem wi_iushr {x y : Int32} (k : Wq sc d m (pc + 1) ls (.int (ushr x y) :: st) di dl P) : WI sc d m .iushr t c ps pc ls (.int y :: .int x :: st) di dl P := WI_n (fun _ _ => ⟨_, rfl⟩) k
theorem wi_idiv {x y : Int32} (hy : ¬ y = 0) (k : Wq sc d m (pc + 1) ls (.int (x / y) :: st) di dl P) : WI sc d m .idiv t c ps pc ls (.int y :: .int x :: st) di dl P := WI_n (fun _ b => ⟨b, by simp only [stp, if_neg hy]; rfl⟩) k
theorem wi_irem {x y : Int32} (hy : ¬ y = 0) (k : Wq sc d m (pc + 1) ls (.int (x - x / y * y) :: st) di dl P) : WI sc d m .irem t c ps pc ls (.int y :: .int x :: st) di dl P := WI_n (fun _ b => ⟨b, by simp only [stp, if_neg hy]; rfl⟩) k
theorem wi_ineg {x : Int32} (k : Wq sc d m (pc + 1) ls (.int (-x) :: st) di dl P) : WI sc d m .ineg t c ps pc ls (.int x :: st) di dl P := WI_n (fun _ _ => ⟨_, rfl⟩) k
theorem wi_i2b {x : Int32} (k : Wq sc d m (pc + 1) ls (.int x.toInt8.toInt32 :: st) di dl P) : WI sc d m .i2b t c ps pc ls (.int x :: st) di dl P := WI_n (fun _ _ => ⟨_, rfl⟩) k
theorem wi_i2s {x : Int32} (k : Wq sc d m (pc + 1) ls (.int x.toInt16.toInt32 :: st) di dl P) : WI sc d m .i2s t c ps pc ls (.int x :: st) di dl P := WI_n (fun _ _ => ⟨_, rfl⟩) k
theorem wi_i2l {x : Int32} (k : Wq sc d m (pc + 1) ls (.long x.toInt64 :: st) di dl P) : WI sc d m .i2l t c ps pc ls (.int x :: st) di dl P := WI_n (fun _ _ => ⟨_, rfl⟩) k
theorem wi_ladd {x y : Int64} (k : Wq sc d m (pc + 1) ls (.long (x + y) :: st) di dl P) : WI sc d m .ladd t c ps pc ls (.long y :: .long x :: st) di dl P := WI_n (fun _ _ => ⟨_, rfl⟩) k
theorem wi_lsub {x y : Int64} (k : Wq sc d m (pc + 1) ls (.long (x - y) :: st) di dl P) : WI sc d m .lsub t c ps pc ls (.long y :: .long x :: st) di dl P := WI_n (fun _ _ => ⟨_, rfl⟩) k
theorem wi_lmul {x y : Int64} (k : Wq sc d m (pc + 1) ls (.long (x * y) :: st) di dl P) : WI sc d m .lmul t c ps pc ls (.long y :: .long x :: st) di dl P := WI_n (fun _ _ => ⟨_, rfl⟩) k
theorem wi_ldiv {x y : Int64} (hy : ¬ y = 0) (k : Wq sc d m (pc + 1) ls (.long (x / y) :: st) di dl P) : WI sc d m .ldiv t c ps pc ls (.long y :: .long x :: st) di dl P := WI_n (fun _ b => ⟨b, by simp only [stp, if_neg hy]; rfl⟩) k
theorem wi_lrem {x y : Int64} (hy : ¬ y = 0) (k : Wq sc d m (pc + 1) ls (.long (x - x / y * y) :: st) di dl P) : WI sc d m .lrem t c ps pc ls (.long y :: .long x :: st) di dl P := WI_n (fun _ b => ⟨b, by simp only [stp, if_neg hy]; rfl⟩) k
theorem wi_lcmp {x y : Int64} (k : Wq sc d m (pc + 1) ls (.int (lg_cmp x y) :: st) di dl P) : WI sc d m .lcmp t c ps pc ls (.long y :: .long x :: st) di dl P := WI_n (fun _ _ => ⟨_, rfl⟩) k
theorem wi_dup {v : Value} (hv : v.category = 1) (k : Wq sc d m (pc + 1) ls (v :: v :: st) di dl P) : WI sc d m .dup t c ps pc ls (v :: st) di dl P := WI_n (fun _ b => ⟨b, by simp only [stp, if_pos hv]; rfl⟩) k
theorem wi_pop {v : Value} (hv : v.category = 1) (k : Wq sc d m (pc + 1) ls st di dl P) : WI sc d m .pop t c ps pc ls (v :: st) di dl P := WI_n (fun _ b => ⟨b, by simp only [stp, if_pos hv]; rfl⟩) k
theorem wi_dup2 {v u : Value} (hv : v.category = 1) (hu : u.category = 1) (k : Wq sc d m (pc + 1) ls (v :: u :: v :: u :: st) di dl P) : WI sc d m .dup2 t c ps pc ls (v :: u :: st) di dl P := WI_n (fun _ b => ⟨b, by simp only [stp, if_pos (And.intro hv hu)]; rfl⟩) k
theorem cnd_B {k : ClassFile.Cond} {x y : Int32} : cndB k x y = true ↔ cnd k x y := by cases k <;> simp [cndB, cnd]
theorem wi_if {q : ClassFile.Cond} {n : Int} {x : Int32} (k : (cnd q x 0 → Wq sc d m t ls st di dl P) ∧ (¬ cnd q x 0 → Wq sc d m (pc + 3) ls st di dl P)) : WI sc d m (.ifCond q n) t c ps pc ls (.int x :: st) di dl P := by
  by_cases h : cnd q x 0
  · exact WI_n (fun _ b => ⟨b, by simp only [stp, s_br, if_pos (cnd_B.mpr h)]; rfl⟩) (k.1 h)
  · exact WI_n (fun _ b => ⟨b, by simp only [stp, s_br, if_neg (fun z => h (cnd_B.mp z))]; rfl⟩) (k.2 h)
theorem wi_icmp {q : ClassFile.Cond} {n : Int} {x y : Int32} (k : (cnd q x y → Wq sc d m t ls st di dl P) ∧ (¬ cnd q x y → Wq sc d m (pc + 3) ls st di dl P)) : WI sc d m (.if_icmp q n) t c ps pc ls (.int y :: .int x :: st) di dl P := by
  by_cases h : cnd q x y
  · exact WI_n (fun _ b => ⟨b, by simp only [stp, s_br, if_pos (cnd_B.mpr h)]; rfl⟩) (k.1 h)
  · exact WI_n (fun _ b => ⟨b, by simp only [stp, s_br, if_neg (fun z => h (cnd_B.mp z))]; rfl⟩) (k.2 h)
theorem wi_goto {n : Int} (k : Wq sc d m t ls st di dl P) : WI sc d m (.goto n) t c ps pc ls st di dl P := WI_n (fun _ _ => ⟨_, rfl⟩) k
theorem wi_ifnullN {n : Int} (k : Wq sc d m t ls st di dl P) : WI sc d m (.ifnull n) t c ps pc ls (.null :: st) di dl P := WI_n (fun _ _ => ⟨_, rfl⟩) k
theorem wi_ifnullR {n : Int} {a : Nat} (k : Wq sc d m (pc + 3) ls st di dl P) : WI sc d m (.ifnull n) t c ps pc ls (.ref a :: st) di dl P := WI_n (fun _ _ => ⟨_, rfl⟩) k
theorem wi_ifnonnullN {n : Int} (k : Wq sc d m (pc + 3) ls st di dl P) : WI sc d m (.ifnonnull n) t c ps pc ls (.null :: st) di dl P := WI_n (fun _ _ => ⟨_, rfl⟩) k
theorem wi_ifnonnullR {n : Int} {a : Nat} (k : Wq sc d m t ls st di dl P) : WI sc d m (.ifnonnull n) t c ps pc ls (.ref a :: st) di dl P := WI_n (fun _ _ => ⟨_, rfl⟩) k
theorem wi_tsw {d0 lo hi : Int} {os : Array Int} {x : Int32} (k : Wq sc d m (swt ps t x) ls st di dl P) : WI sc d m (.tableswitch d0 lo hi os) t c ps pc ls (.int x :: st) di dl P := WI_n (fun _ _ => ⟨_, rfl⟩) k
theorem wi_lsw {d0 : Int} {qs : Array (Int × Int)} {x : Int32} (k : Wq sc d m (swt ps t x) ls st di dl P) : WI sc d m (.lookupswitch d0 qs) t c ps pc ls (.int x :: st) di dl P := WI_n (fun _ _ => ⟨_, rfl⟩) k
theorem sw_cons {k0 t0 t1 : Nat} {l : List (Nat × Nat)} {x : Int32} (v : Int32) (hv : Int32.ofNat k0 = v) (k : (x = v → Wq sc d m t0 ls st di dl P) ∧ (¬ x = v → Wq sc d m (swt l t1 x) ls st di dl P)) : Wq sc d m (swt ((k0, t0) :: l) t1 x) ls st di dl P := by
  subst hv
  unfold swt
  by_cases h : x = Int32.ofNat k0
  · rw [if_pos h]; exact k.1 h
  · rw [if_neg h]; exact k.2 h
theorem sw_nil {t1 : Nat} {x : Int32} (k : Wq sc d m t1 ls st di dl P) : Wq sc d m (swt [] t1 x) ls st di dl P := k
end OPS
