/-! fields, arrays, calls, returns, over the shape S0 -/
theorem S0_len : S0.length = 196 := by decide +kernel
theorem S0_lt {a : Nat} {s : tS} (h : S0[a]? = some s) : ¬ a = SCR := by
  intro e
  subst e
  rw [List.getElem?_eq_none (by rw [S0_len]; decide)] at h
  cases h
def hasR (ps : List (Nat × Nat)) (ci : Nat) : Bool := ((ps.find? (fun q => q.1 == ci)).map (·.2)).isSome
section MEM
variable {sc : tSc} {d m pc t : Nat} {c : Int} {ps : List (Nat × Nat)} {ls : tF} {st : List Value} {di : tDi} {dl : tDl} {P : tP}
theorem wi_get {n a ci : Nat} {rf : List (Option Nat)} (v : Value) (hS : S0[a]? = some (.inl (ci, rf))) (hr : hasR ps ci = true) (ht : t < cN ci) (hv : fv (S0, di, dl) a ci rf t = v) (k : Wq sc d m (pc + 3) ls (v :: st) di dl P) : WI sc d m (.getfield n) t c ps pc ls (.ref a :: st) di dl P := WI_n (fun o b => ⟨b, by
  simp only [stp, hS]
  rw [if_pos (And.intro (show (rowOf (t, c, ps, o) ci).isSome = true from hr) ht), hv]; rfl⟩) k
theorem wi_getI {n a ci : Nat} {rf : List (Option Nat)} (hS : S0[a]? = some (.inl (ci, rf))) (hr : hasR ps ci = true) (ht : t < cN ci) (hv : cty ci t = .int) (k : Wq sc d m (pc + 3) ls (.int (di a t) :: st) di dl P) : WI sc d m (.getfield n) t c ps pc ls (.ref a :: st) di dl P := wi_get _ hS hr ht (by unfold fv; rw [hv]) k
theorem wi_getZ {n a ci : Nat} {rf : List (Option Nat)} (hS : S0[a]? = some (.inl (ci, rf))) (hr : hasR ps ci = true) (ht : t < cN ci) (hv : cty ci t = .boolean) (k : Wq sc d m (pc + 3) ls (.int (di a t) :: st) di dl P) : WI sc d m (.getfield n) t c ps pc ls (.ref a :: st) di dl P := wi_get _ hS hr ht (by unfold fv; rw [hv]) k
theorem wi_getJ {n a ci : Nat} {rf : List (Option Nat)} (hS : S0[a]? = some (.inl (ci, rf))) (hr : hasR ps ci = true) (ht : t < cN ci) (hv : cty ci t = .long) (k : Wq sc d m (pc + 3) ls (.long (dl a t) :: st) di dl P) : WI sc d m (.getfield n) t c ps pc ls (.ref a :: st) di dl P := wi_get _ hS hr ht (by unfold fv; rw [hv]) k
theorem WI_p {n a ci : Nat} {rf : List (Option Nat)} {v : Value} {di' : tDi} {dl' : tDl} (hS : S0[a]? = some (.inl (ci, rf))) (hr : hasR ps ci = true) (ht : t < cN ci) (hn : rf.length = cN ci) (hf : cFin ci t = false) (hv : pv (S0, di, dl) a ci rf t v = some (S0, di', dl')) (k : Wq sc d m (pc + 3) ls st di' dl' P) : WI sc d m (.putfield n) t c ps pc ls (v :: .ref a :: st) di dl P := WI_n (fun o b => ⟨b, by
  simp only [stp, hS]
  rw [if_pos (And.intro (show (rowOf (t, c, ps, o) ci).isSome = true from hr) (And.intro ht (And.intro hn (show cFin ci t = true → (mNm m).name = "<init>" from fun z => by rw [hf] at z; cases z)))), hv]; rfl⟩) k
theorem wi_putI {n a ci : Nat} {rf : List (Option Nat)} {x : Int32} (hS : S0[a]? = some (.inl (ci, rf))) (hr : hasR ps ci = true) (ht : t < cN ci) (hn : rf.length = cN ci) (hf : cFin ci t = false) (hv : cty ci t = .int) (k : Wq sc d m (pc + 3) ls st (up2 di a t x) dl P) : WI sc d m (.putfield n) t c ps pc ls (.int x :: .ref a :: st) di dl P := WI_p hS hr ht hn hf (by unfold pv; rw [hv]) k
theorem wi_putZ {n a ci : Nat} {rf : List (Option Nat)} {x : Int32} (hS : S0[a]? = some (.inl (ci, rf))) (hr : hasR ps ci = true) (ht : t < cN ci) (hn : rf.length = cN ci) (hf : cFin ci t = false) (hv : cty ci t = .boolean) (hx : x = 0 ∨ x = 1) (k : Wq sc d m (pc + 3) ls st (up2 di a t x) dl P) : WI sc d m (.putfield n) t c ps pc ls (.int x :: .ref a :: st) di dl P := WI_p hS hr ht hn hf (by unfold pv; rw [hv]; exact if_pos hx) k
theorem wi_putJ {n a ci : Nat} {rf : List (Option Nat)} {x : Int64} (hS : S0[a]? = some (.inl (ci, rf))) (hr : hasR ps ci = true) (ht : t < cN ci) (hn : rf.length = cN ci) (hf : cFin ci t = false) (hv : cty ci t = .long) (k : Wq sc d m (pc + 3) ls st di (up2 dl a t x) P) : WI sc d m (.putfield n) t c ps pc ls (.long x :: .ref a :: st) di dl P := WI_p hS hr ht hn hf (by unfold pv; rw [hv]) k
theorem wi_iaload {a n : Nat} {rf : List (Option Nat)} {j : Int32} (q : Nat) (hS : S0[a]? = some (.inr (0, n, rf))) (hb : inB j n = true) (hq : j.toNatClampNeg = q) (k : Wq sc d m (pc + 1) ls (.int (di a q) :: st) di dl P) : WI sc d m .iaload t c ps pc ls (.int j :: .ref a :: st) di dl P := WI_n (fun o b => ⟨b, by
  subst hq
  simp only [stp, if_neg (S0_lt hS), hS, if_pos hb]; rfl⟩) k
theorem wi_laload {a n : Nat} {rf : List (Option Nat)} {j : Int32} (q : Nat) (hS : S0[a]? = some (.inr (1, n, rf))) (hb : inB j n = true) (hq : j.toNatClampNeg = q) (k : Wq sc d m (pc + 1) ls (.long (dl a q) :: st) di dl P) : WI sc d m .laload t c ps pc ls (.int j :: .ref a :: st) di dl P := WI_n (fun o b => ⟨b, by
  subst hq
  simp only [stp, hS, if_pos hb]; rfl⟩) k
theorem wi_iastore {a n : Nat} {rf : List (Option Nat)} {j x : Int32} (q : Nat) (hS : S0[a]? = some (.inr (0, n, rf))) (hb : inB j n = true) (hq : j.toNatClampNeg = q) (k : Wq sc d m (pc + 1) ls st (up2 di a q x) dl P) : WI sc d m .iastore t c ps pc ls (.int x :: .int j :: .ref a :: st) di dl P := WI_n (fun o b => ⟨b, by
  subst hq
  simp only [stp, hS, if_pos hb]; rfl⟩) k
theorem wi_lastore {a n : Nat} {rf : List (Option Nat)} {j : Int32} {x : Int64} (q : Nat) (hS : S0[a]? = some (.inr (1, n, rf))) (hb : inB j n = true) (hq : j.toNatClampNeg = q) (k : Wq sc d m (pc + 1) ls st di (up2 dl a q x) P) : WI sc d m .lastore t c ps pc ls (.long x :: .int j :: .ref a :: st) di dl P := WI_n (fun o b => ⟨(false, b.2), by
  subst hq
  simp only [stp, hS, if_pos hb]; rfl⟩) k
theorem wi_aaload {a n e : Nat} {rf : List (Option Nat)} {j : Int32} (r : Nat) (hS : S0[a]? = some (.inr (e + 2, n, rf))) (hb : inB j n = true) (he : e < 3) (hr : rf.getD j.toNatClampNeg none = some r) (k : Wq sc d m (pc + 1) ls (.ref r :: st) di dl P) : WI sc d m .aaload t c ps pc ls (.int j :: .ref a :: st) di dl P := WI_n (fun o b => ⟨b, by
  simp only [stp, hS, if_pos (And.intro hb he), hr]; rfl⟩) k
theorem wi_alen {a n e : Nat} {rf : List (Option Nat)} (v : Int32) (hS : S0[a]? = some (.inr (e, n, rf))) (he : e < 5) (hv : Int32.ofNat n = v) (k : Wq sc d m (pc + 1) ls (.int v :: st) di dl P) : WI sc d m .arraylength t c ps pc ls (.ref a :: st) di dl P := WI_n (fun o b => ⟨b, by
  subst hv
  simp only [stp, if_neg (S0_lt hS), hS, if_pos he]; rfl⟩) k
/-- the script -/
theorem wi_ialoadS {L : Nat} {xs : Nat → Int32} {j : Int32} (hb : inB j L = true) (k : Wq (some (L, xs)) d m (pc + 1) ls (.int (xs j.toNatClampNeg) :: st) di dl P) : WI (some (L, xs)) d m .iaload t c ps pc ls (.int j :: .ref SCR :: st) di dl P := WI_n (fun o b => ⟨b, by
  simp only [stp, if_true, if_pos hb]; rfl⟩) k
theorem wi_alenS {L : Nat} {xs : Nat → Int32} (k : Wq (some (L, xs)) d m (pc + 1) ls (.int (Int32.ofNat L) :: st) di dl P) : WI (some (L, xs)) d m .arraylength t c ps pc ls (.ref SCR :: st) di dl P := WI_n (fun o b => ⟨b, by
  simp only [stp, if_true]; rfl⟩) k
/-- a call goes on behind it -/
theorem WI_c {i : Instr} {e f : Nat} {as rest : List Value} (he : e < d) (hs : ∀ (o : Option (List Nat)) (b : tB), stp sc m i (t, c, ps, o) pc ls st (S0, di, dl) b = s_call pc f as ls rest (S0, di, dl) b) (hc : (rest.map fun v => v.category).sum ≤ 8 ∧ (lg_sl as).length ≤ mMax f ∧ f < 220) (h0 : mCc f = 0)
    (k : Cl e f as di dl (fun v di' dl' => Wq sc d m (pc + 3) ls (v.toList ++ rest) di' dl' P)) : WI sc d m i t c ps pc ls st di dl P := by
  intro o ls0 b hi hl
  obtain ⟨d, rfl⟩ : ∃ d', d = d' + 1 := ⟨d - 1, by omega⟩
  refine Wp_call (c' := (pc + 3, ls, rest, (S0, di, dl), (false, b.2))) hi ?_ (Cl_up (Nat.le_of_lt_succ he) k) ?_
  · rw [show lflt ((t, c, ps, o) : tX).2.2.2 ls0 = ls from hl, hs o b]
    unfold s_call
    rw [if_pos hc, if_pos h0]
  · intro v w' hw
    obtain ⟨w1, w2, w3⟩ := w'
    have h1 : w1 = S0 := hw.1
    subst h1
    exact hw.2 _
/-- callee, kind -/
def calleeOf (ps : List (Nat × Nat)) (ci : Nat) : Option (Nat × Nat) := match (ps.find? (fun q => q.1 == ci)).map (·.2) with
  | some r => match mTr[r]? with
    | some (_, _, k, _, f, _) => some (f, k)
    | none => none
  | none => none
def okC (f : Nat) (as rest : List Value) : Prop := (rest.map fun v => v.category).sum ≤ 8 ∧ (lg_sl as).length ≤ mMax f ∧ f < 220
theorem wi_virt {n a ci e f q : Nat} {rf : List (Option Nat)} (as rest : List Value) (hS : S0[a]? = some (.inl (ci, rf))) (hf : calleeOf ps ci = some (f, q)) (hq : q < 2) (h1 : st.drop t = .ref a :: rest) (h2 : (st.take t).reverse = as) (h3 : (st.take t).length = t) (hc : okC f (.ref a :: as) rest) (h0 : mCc f = 0) (he : e < d)
    (k : Cl e f (.ref a :: as) di dl (fun v di' dl' => Wq sc d m (pc + 3) ls (v.toList ++ rest) di' dl' P)) : WI sc d m (.invokevirtual n) t c ps pc ls st di dl P := by
  refine WI_c he ?_ hc h0 k
  intro o b
  simp only [stp, h1, hS]
  unfold calleeOf at hf
  unfold rowOf
  dsimp only
  cases hr : (ps.find? (fun q => q.1 == ci)).map (·.2) with
  | none => rw [hr] at hf; cases hf
  | some r =>
    rw [hr] at hf
    dsimp only at hf ⊢
    cases hm : mTr[r]? with
    | none => rw [hm] at hf; cases hf
    | some z =>
      obtain ⟨z1, z2, z3, z4, z5, z6⟩ := z
      rw [hm] at hf
      dsimp only at hf ⊢
      cases Option.some.inj hf
      rw [if_pos (And.intro hq h3), h2]
theorem wi_stat {n e f q : Nat} (as rest : List Value) (hf : calleeOf ps 0 = some (f, q)) (hq : q = 2 ∨ q = 6) (h1 : st.drop t = rest) (h2 : (st.take t).reverse = as) (h3 : (st.take t).length = t) (hc : okC f as rest) (h0 : mCc f = 0) (he : e < d)
    (k : Cl e f as di dl (fun v di' dl' => Wq sc d m (pc + 3) ls (v.toList ++ rest) di' dl' P)) : WI sc d m (.invokestatic n) t c ps pc ls st di dl P := by
  refine WI_c he ?_ hc h0 k
  intro o b
  simp only [stp]
  unfold calleeOf at hf
  unfold rowOf
  dsimp only
  cases hr : (ps.find? (fun q => q.1 == 0)).map (·.2) with
  | none => rw [hr] at hf; cases hf
  | some r =>
    rw [hr] at hf
    dsimp only at hf ⊢
    cases hm : mTr[r]? with
    | none => rw [hm] at hf; cases hf
    | some z =>
      obtain ⟨z1, z2, z3, z4, z5, z6⟩ := z
      rw [hm] at hf
      dsimp only at hf ⊢
      cases Option.some.inj hf
      rw [if_neg (by omega), if_neg (by omega), if_neg (by omega), if_neg (by omega), if_pos (And.intro hq h3), h2, h1]
theorem wi_spec {n a e f q : Nat} (as rest : List Value) (hf : calleeOf ps 0 = some (f, q)) (hq : q = 3 ∨ q = 4) (h1 : st.drop t = .ref a :: rest) (h2 : (st.take t).reverse = as) (h3 : (st.take t).length = t) (hc : okC f (.ref a :: as) rest) (h0 : mCc f = 0) (he : e < d)
    (k : Cl e f (.ref a :: as) di dl (fun v di' dl' => Wq sc d m (pc + 3) ls (v.toList ++ rest) di' dl' P)) : WI sc d m (.invokespecial n) t c ps pc ls st di dl P := by
  refine WI_c he ?_ hc h0 k
  intro o b
  simp only [stp]
  unfold calleeOf at hf
  unfold rowOf
  dsimp only
  cases hr : (ps.find? (fun q => q.1 == 0)).map (·.2) with
  | none => rw [hr] at hf; cases hf
  | some r =>
    rw [hr] at hf
    dsimp only at hf ⊢
    cases hm : mTr[r]? with
    | none => rw [hm] at hf; cases hf
    | some z =>
      obtain ⟨z1, z2, z3, z4, z5, z6⟩ := z
      rw [hm] at hf
      dsimp only at hf ⊢
      cases Option.some.inj hf
      rw [h1]
      dsimp only
      rw [if_neg (by omega), if_pos (And.intro hq h3), h2]
theorem st_kind {n f q : Nat} {o : Option (List Nat)} {b : tB} (hf : calleeOf ps 0 = some (f, q)) {r : Option tR} (h : (if q = 8 then (match st with
          | .int n :: .int dp :: .ref t :: .int sp :: .ref s :: rest => match S0[s]?, S0[t]? with
            | some (.inr (0, n0, _)), some (.inr (0, n1, _)) => if ¬ sp < 0 ∧ ¬ dp < 0 ∧ ¬ n < 0 ∧ sp.toNatClampNeg + n.toNatClampNeg ≤ n0 ∧ dp.toNatClampNeg + n.toNatClampNeg ≤ n1 ∧ rest = [] then
                nx (pc + 3) ls [] (S0, cpy2 di s t sp.toNatClampNeg dp.toNatClampNeg n.toNatClampNeg, dl) (false, b.2) else none
            | _, _ => none
          | _ => none)
        else if q = 10 then (match st with
          | .int y :: .int x :: rest => if (rest.map fun v => v.category).sum ≤ 8 then nx (pc + 3) ls (.int (if x < y then y else x) :: rest) (S0, di, dl) b else none
          | _ => none)
        else if q = 11 then (match st with
          | .int y :: .int x :: rest => if (rest.map fun v => v.category).sum ≤ 8 then nx (pc + 3) ls (.int (if y < x then y else x) :: rest) (S0, di, dl) b else none
          | _ => none)
        else if q = 12 then (match st with
          | .int x :: rest => if (rest.map fun v => v.category).sum ≤ 8 then nx (pc + 3) ls (.int (if 0 ≤ x then x else 0 - x) :: rest) (S0, di, dl) b else none
          | _ => none)
        else if (q = 2 ∨ q = 6) ∧ (st.take t).length = t then s_call pc f (st.take t).reverse ls (st.drop t) (S0, di, dl) b else none) = r) : stp sc m (.invokestatic n) (t, c, ps, o) pc ls st (S0, di, dl) b = r := by
  subst h
  simp only [stp]
  unfold calleeOf at hf
  unfold rowOf
  dsimp only
  cases hr : (ps.find? (fun q => q.1 == 0)).map (·.2) with
  | none => rw [hr] at hf; cases hf
  | some r =>
    rw [hr] at hf
    dsimp only at hf ⊢
    cases hm : mTr[r]? with
    | none => rw [hm] at hf; cases hf
    | some z =>
      obtain ⟨z1, z2, z3, z4, z5, z6⟩ := z
      rw [hm] at hf
      dsimp only at hf ⊢
      cases Option.some.inj hf
      rfl
def imax (x y : Int32) : Int32 := if x < y then y else x
def imin (x y : Int32) : Int32 := if y < x then y else x
def iabs (x : Int32) : Int32 := if 0 ≤ x then x else 0 - x
theorem wi_max {n f : Nat} {x y : Int32} (hf : calleeOf ps 0 = some (f, 10)) (hc : (st.map fun v => v.category).sum ≤ 8) (k : Wq sc d m (pc + 3) ls (.int (imax x y) :: st) di dl P) : WI sc d m (.invokestatic n) t c ps pc ls (.int y :: .int x :: st) di dl P := WI_n (fun o b => ⟨b, st_kind hf (by rw [if_neg (by decide), if_pos rfl]; dsimp only; rw [if_pos hc]; rfl)⟩) k
theorem wi_min {n f : Nat} {x y : Int32} (hf : calleeOf ps 0 = some (f, 11)) (hc : (st.map fun v => v.category).sum ≤ 8) (k : Wq sc d m (pc + 3) ls (.int (imin x y) :: st) di dl P) : WI sc d m (.invokestatic n) t c ps pc ls (.int y :: .int x :: st) di dl P := WI_n (fun o b => ⟨b, st_kind hf (by rw [if_neg (by decide), if_neg (by decide), if_pos rfl]; dsimp only; rw [if_pos hc]; rfl)⟩) k
theorem wi_abs {n f : Nat} {x : Int32} (hf : calleeOf ps 0 = some (f, 12)) (hc : (st.map fun v => v.category).sum ≤ 8) (k : Wq sc d m (pc + 3) ls (.int (iabs x) :: st) di dl P) : WI sc d m (.invokestatic n) t c ps pc ls (.int x :: st) di dl P := WI_n (fun o b => ⟨b, st_kind hf (by rw [if_neg (by decide), if_neg (by decide), if_neg (by decide), if_pos rfl]; dsimp only; rw [if_pos hc]; rfl)⟩) k
theorem wi_acopy {n f s u n0 n1 : Nat} {rf rf' : List (Option Nat)} {k sp dp : Int32} (hf : calleeOf ps 0 = some (f, 8)) (h1 : S0[s]? = some (.inr (0, n0, rf))) (h2 : S0[u]? = some (.inr (0, n1, rf'))) (hc : ¬ sp < 0 ∧ ¬ dp < 0 ∧ ¬ k < 0 ∧ sp.toNatClampNeg + k.toNatClampNeg ≤ n0 ∧ dp.toNatClampNeg + k.toNatClampNeg ≤ n1)
    (kk : Wq sc d m (pc + 3) ls [] (cpy2 di s u sp.toNatClampNeg dp.toNatClampNeg k.toNatClampNeg) dl P) : WI sc d m (.invokestatic n) t c ps pc ls [.int k, .int dp, .ref u, .int sp, .ref s] di dl P := WI_n (fun o b => ⟨(false, b.2), st_kind hf (by rw [if_pos rfl]; simp only [h1, h2]; rw [if_pos ⟨hc.1, hc.2.1, hc.2.2.1, hc.2.2.2.1, hc.2.2.2.2, trivial⟩]; rfl)⟩) kk
/-- ends -/
theorem WI_r {i : Instr} {v : Option Value} (hs : ∀ (o : Option (List Nat)) (b : tB), stp sc m i (t, c, ps, o) pc ls st (S0, di, dl) b = some (.inr (.inr v))) (k : P v di dl) : WI sc d m i t c ps pc ls st di dl P := by
  intro o ls0 b hi hl
  refine Wp_ret hi (v := v) ?_ ⟨rfl, k⟩
  rw [show lflt ((t, c, ps, o) : tX).2.2.2 ls0 = ls from hl]
  exact hs o b
theorem wi_iret {v : Int32} (hr : mRet m = some .int) (h0 : mCc m = 0) (k : P (some (.int v)) di dl) : WI sc d m .ireturn t c ps pc ls [.int v] di dl P := WI_r (fun o b => by simp only [stp]; rw [if_pos (Or.inl hr), if_pos (Or.inl h0)]) k
theorem wi_zret {v : Int32} (hr : mRet m = some .boolean) (h0 : mCc m = 0 ∨ sc.isSome = true) (hv : v = 0 ∨ v = 1) (k : P (some (.int v)) di dl) : WI sc d m .ireturn t c ps pc ls [.int v] di dl P := WI_r (fun o b => by
  simp only [stp]
  rw [if_pos (Or.inr ⟨hr, hv⟩), if_pos (h0.elim Or.inl (fun z => Or.inr (Or.inr z)))]) k
theorem wi_jret {v : Int64} (hr : mRet m = some .long) (h0 : mCc m = 0) (k : P (some (.long v)) di dl) : WI sc d m .lreturn t c ps pc ls [.long v] di dl P := WI_r (fun o b => by simp only [stp]; rw [if_pos (And.intro hr h0)]) k
theorem wi_aret {v : Nat} (hr : mRet m = some (.object RX8) ∨ mRet m = some (.object RX6)) (h0 : mCc m = 0) (k : P (some (.ref v)) di dl) : WI sc d m .areturn t c ps pc ls [.ref v] di dl P := WI_r (fun o b => by simp only [stp]; rw [if_pos hr, if_pos h0]) k
theorem wi_nret (hr : mRet m = some (.object RX8) ∨ mRet m = some (.object RX6)) (h0 : mCc m = 0) (k : P (some .null) di dl) : WI sc d m .areturn t c ps pc ls [.null] di dl P := WI_r (fun o b => by simp only [stp]; rw [if_pos hr, if_pos h0]) k
theorem wi_ret (hr : mRet m = none) (h0 : mCc m = 0) (k : P none di dl) : WI sc d m .return_ t c ps pc ls [] di dl P := WI_r (fun o b => by simp only [stp]; rw [if_pos (And.intro hr (Or.inl h0))]) k
end MEM
