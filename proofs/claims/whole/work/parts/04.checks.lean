/-! What the tables say is checked by program: decode rows, links, code words -/
def clsN (k : Nat) : String := cNm.getD k ""
def ilen : Instr → Nat
  | .bipush _ | .ldc _ | .iload _ | .lload _ | .aload _ | .istore _ | .lstore _ | .astore _ | .newarray _ => 2
  | .sipush _ | .ldc_w _ | .ldc2_w _ | .iinc _ _ | .ifCond _ _ | .if_icmp _ _ | .goto _ | .ifnull _ | .ifnonnull _ | .getfield _ | .putfield _ | .new _ | .anewarray _ | .invokevirtual _ | .invokestatic _ | .invokespecial _ => 3
  | .multianewarray _ _ => 4
  | _ => 1
def isSw : Instr → Bool
  | .tableswitch _ _ _ _ | .lookupswitch _ _ => true
  | _ => false
/-- the cases of a table switch from k on -/
def tbOK (pc : Nat) : Nat → List (Nat × Nat) → List Int → Bool
  | _, [], [] => true
  | k, (c, t) :: l, o :: os => decide (c = k) && decide ((pc : Int) + o = (t : Int)) && tbOK pc (k + 1) l os
  | _, _, _ => false
def lkOK (pc : Nat) : List (Nat × Nat) → List (Int × Int) → Bool
  | [], [] => true
  | (c, t) :: l, (a, o) :: os => decide ((c : Int) = a) && decide ((pc : Int) + o = (t : Int)) && lkOK pc l os
  | _, _ => false
def chk (m : Nat) (e : Nat × Instr × tX) : Bool :=
  (match decode (mCode m) e.1 with
    | .ok (j, n) => decide (j = e.2.1) && (isSw e.2.1 || decide (n = ilen e.2.1))
    | _ => false) &&
  (match e.2.1 with
    | .ldc k => decide (lwx[e.2.2.1]? = some (.constant (clsN (mOwn m)) k (Int32.ofInt e.2.2.2.1)))
    | .ldc_w k => decide (lwx[e.2.2.1]? = some (.constant (clsN (mOwn m)) k (Int32.ofInt e.2.2.2.1)))
    | .ldc2_w k => decide (lwx[e.2.2.1]? = some (.constantLong (clsN (mOwn m)) k (Int64.ofInt e.2.2.2.1)))
    | .ifCond _ o => decide ((e.1 : Int) + o = (e.2.2.1 : Int))
    | .if_icmp _ o => decide ((e.1 : Int) + o = (e.2.2.1 : Int))
    | .goto o => decide ((e.1 : Int) + o = (e.2.2.1 : Int))
    | .ifnull o => decide ((e.1 : Int) + o = (e.2.2.1 : Int))
    | .ifnonnull o => decide ((e.1 : Int) + o = (e.2.2.1 : Int))
    | .tableswitch d lo hi os => decide ((e.1 : Int) + d = (e.2.2.1 : Int)) && decide (0 ≤ lo) && decide (hi = lo + os.size - 1) && decide (hi < 100000) && tbOK e.1 lo.toNat e.2.2.2.2.1 os.toList
    | .lookupswitch d ps => decide ((e.1 : Int) + d = (e.2.2.1 : Int)) && (ps.toList.zip (ps.toList.drop 1)).all (fun (a, next) => a.1 < next.1) && lkOK e.1 e.2.2.2.2.1 ps.toList && ps.toList.all (fun q => decide (0 ≤ q.1) && decide (q.1 < 100000))
    | .getfield k => e.2.2.2.2.1.all (fun q => match fLd[q.2]? with
      | some (o, i, ci, s, _) => decide (o = mOwn m) && decide (i = k) && decide (ci = q.1) && decide (s = e.2.2.1)
      | none => false)
    | .putfield k => e.2.2.2.2.1.all (fun q => match fLd[q.2]? with
      | some (o, i, ci, s, _) => decide (o = mOwn m) && decide (i = k) && decide (ci = q.1) && decide (s = e.2.2.1)
      | none => false)
    | .new k => match e.2.2.2.2.1, vwCl[e.2.2.1]? with
      | [(a, b), (c, _)], some r => decide (lwx[a]? = some (.classLink (clsN (mOwn m)) k r.1)) && decide (lwx[b]? = some (.instantiable r.1 r.2.2)) && decide (lwx[c]? = some (.initialized r.1))
      | _, _ => false
    | .anewarray k => match e.2.2.2.2.1 with
      | [(a, b)] => decide (lwx[a]? = some (.classLink (clsN (mOwn m)) k (if e.2.2.1 = 2 then RX8 else RX6))) && decide (NWs[b]? = some (.arrayOver (.object (if e.2.2.1 = 2 then RX8 else RX6))))
      | _ => false
    | .multianewarray k n => decide (n = 2) && match e.2.2.2.2.1 with
      | [(a, b)] => decide (lwx[a]? = some (.classLink (clsN (mOwn m)) k "[[I")) && decide (NWs[b]? = some (.arrayOver (.array .int)))
      | _ => false
    | .invokevirtual k => e.2.2.2.2.1.all (fun q => match mTr[q.2]? with
      | some (o, i, kd, ci, f, _) => decide (o = mOwn m) && decide (i = k) && decide (ci = q.1) && decide (kd < 2) && decide (mPar f = e.2.2.1)
      | none => false)
    | .invokestatic k => e.2.2.2.2.1.all (fun q => match mTr[q.2]? with
      | some (o, i, kd, _, f, _) => decide (o = mOwn m) && decide (i = k) && (decide (kd = 8) || decide (kd = 10) || decide (kd = 11) || decide (kd = 12) || (decide (kd = 2 ∨ kd = 6) && decide (mPar f = e.2.2.1)))
      | none => false)
    | .invokespecial k => e.2.2.2.2.1.all (fun q => match mTr[q.2]? with
      | some (o, i, kd, _, f, _) => decide (o = mOwn m) && decide (i = k) && (decide (kd = 9) || (decide (kd = 3 ∨ kd = 4) && decide (mPar f = e.2.2.1)))
      | none => false)
    | _ => true)
def fOK (r : Nat × Nat × Nat × Nat × Nat × Nat × Nat × String) : Bool := match vwCl[r.2.2.1]? with
  | some (_, T, N) => decide (r.2.2.2.1 < N) &&
    (if r.2.2.2.2.1 = 0 then decide (lwx[r.2.2.2.2.2.1]? = some (.fieldLink (clsN r.1) r.2.1 r.2.2.2.2.2.2.2 (T r.2.2.2.1).2.1 (T r.2.2.2.1).2.2.1))
      else decide (NWs[r.2.2.2.2.2.1]? = some (.fieldLinkNest (clsN r.1) r.2.1 r.2.2.2.2.2.2.2 (T r.2.2.2.1).2.1 (T r.2.2.2.1).2.2.1 RX10))) &&
    (decide (r.2.2.2.2.2.2.2 = (T r.2.2.2.1).1) || decide (lwx[r.2.2.2.2.2.2.1]? = some (.sameField r.2.2.2.2.2.2.2 (T r.2.2.2.1).1 (T r.2.2.2.1).2.1 (T r.2.2.2.1).2.2.1)))
  | none => false
def mhOK (y : MethodName) (n : Nat) : Bool := decide (y.cls ≠ "java/lang/invoke/MethodHandle") && decide (y.cls ≠ "java/lang/invoke/VarHandle") && decide ((parseMethodDescriptor y.desc).map (fun d => d.parameters.length) = some n)
def tOK (r : Nat × Nat × Nat × Nat × Nat × String × String × List Nat) : Bool := match r with
  | (o, i, k, ci, f, ref, own, ps) => match k with
    | 0 => match vwCl[ci]?, ps with
      | some (C, _), [a, b, c, d] => mhOK (mNm f) (mPar f) && decide ((mNm f).cls = C) && decide (lwx[a]? = some (.methodLink (clsN o) i (mNm f))) && decide (lwx[b]? = some (.instanceMethod (mNm f))) && decide (lwx[c]? = some (.selects C (mNm f) (mNm f))) && decide (lwx[d]? = some (.initialized C))
      | _, _ => false
    | 1 => match vwCl[ci]?, ps with
      | some (C, _), [a, b, c, d, e, g] => mhOK ⟨own, (mNm f).name, (mNm f).desc⟩ (mPar f) && decide (lwx[a]? = some (.methodLink (clsN o) i ⟨ref, (mNm f).name, (mNm f).desc⟩)) && decide (lwx[b]? = some (.sameMethod ref own (mNm f).name (mNm f).desc)) && decide (lwx[c]? = some (.selects C ⟨ref, (mNm f).name, (mNm f).desc⟩ (mNm f))) && decide (lwx[d]? = some (.instanceMethod (mNm f))) && decide (lwx[e]? = some (.initialized (mNm f).cls)) &&
        (if g = 0 then decide ((mNm f).cls = own) else decide (NWs[g - 1]? = some (.declares ⟨own, (mNm f).name, (mNm f).desc⟩)))
      | _, _ => false
    | 2 => match ps with
      | [a, b, c, _] => mhOK (mNm f) (mPar f) && decide (lwx[a]? = some (.methodLink (clsN o) i (mNm f))) && decide (lwx[b]? = some (.static (mNm f))) && decide (lwx[c]? = some (.initialized (mNm f).cls))
      | _ => false
    | 3 => match ps with
      | [a, b, c, _] => mhOK (mNm f) (mPar f) && decide ((mNm f).name = "<init>") && decide (mRet f = none) && decide (lwx[a]? = some (.methodLink (clsN o) i (mNm f))) && decide (lwx[b]? = some (.instanceMethod (mNm f))) && decide (lwx[c]? = some (.initialized (mNm f).cls))
      | _ => false
    | 4 => match ps with
      | [a, b, c, _] => mhOK (mNm f) (mPar f) && decide ((mNm f).name = "<init>") && decide (mRet f = none) && decide (NWs[a]? = some (.methodLinkNest (clsN o) i (mNm f) RX10)) && decide (lwx[b]? = some (.instanceMethod (mNm f))) && decide (lwx[c]? = some (.initialized (mNm f).cls))
      | _ => false
    | 6 => match ps with
      | [a, b, c, d] => mhOK (mNm f) (mPar f) && decide ((mNm f).cls = own) && decide (lwx[a]? = some (.methodLink (clsN o) i ⟨ref, (mNm f).name, (mNm f).desc⟩)) && decide (lwx[b]? = some (.static (mNm f))) && decide (lwx[c]? = some (.initialized (mNm f).cls)) && decide (lwx[d]? = some (.sameMethod ref own (mNm f).name (mNm f).desc))
      | _ => false
    | 8 => match ps with
      | [a, b, c, d] => decide (lwx[a]? = some (.methodLink (clsN o) i arraycopyName)) && decide (lwx[b]? = some (.native arraycopyName)) && decide (lwx[c]? = some (.static arraycopyName)) && decide (lwx[d]? = some (.initialized "java/lang/System"))
      | _ => false
    | 10 => match ps with
      | [a, b, c, d] => decide (lwx[a]? = some (.methodLink (clsN o) i Lib.Math.max.name)) && decide (lwx[b]? = some (.static Lib.Math.max.name)) && decide (lwx[c]? = some (.initialized "java/lang/Math")) && decide (lwx[d]? = some (.code Lib.Math.max.name Lib.Math.max.code 2 (some .int)))
      | _ => false
    | 11 => match ps with
      | [a, b, c, d] => decide (lwx[a]? = some (.methodLink (clsN o) i Lib.Math.min.name)) && decide (lwx[b]? = some (.static Lib.Math.min.name)) && decide (lwx[c]? = some (.initialized "java/lang/Math")) && decide (lwx[d]? = some (.code Lib.Math.min.name Lib.Math.min.code 2 (some .int)))
      | _ => false
    | 12 => match ps with
      | [a, b, c, d] => decide (lwx[a]? = some (.methodLink (clsN o) i Lib.Math.abs.name)) && decide (lwx[b]? = some (.static Lib.Math.abs.name)) && decide (lwx[c]? = some (.initialized "java/lang/Math")) && decide (lwx[d]? = some (.code Lib.Math.abs.name Lib.Math.abs.code 1 (some .int)))
      | _ => false
    | 9 => match ps with
      | [a, b, _, _] => decide (lwx[a]? = some (.methodLink (clsN o) i objectInit)) && decide (lwx[b]? = some (.instanceMethod objectInit))
      | _ => false
    | _ => false
def LAWm : Nat := 220
def mOK (m : Nat) : Bool := decide (lwx[mPl m]? = some (.code (mNm m) (mCode m) (mMax m) (mRet m))) && plainName (mNm m).cls && decide ((mNm m).cls = clsN (mOwn m)) && decide (mMax m ≤ 16) && decide (mCc m = 0 → mSc m = 0)
set_option maxRecDepth 100000 in
theorem fr_0 : fOK (0, 11, 0, 2, 0, 301, 0, "StatueCoats$Chances") = true := by decide +kernel
set_option maxRecDepth 100000 in
theorem fr_1 : fOK (0, 15, 0, 0, 0, 299, 0, "StatueCoats$Chances") = true := by decide +kernel
set_option maxRecDepth 100000 in
theorem fr_2 : fOK (0, 19, 0, 1, 0, 300, 0, "StatueCoats$Chances") = true := by decide +kernel
set_option maxRecDepth 100000 in
theorem fr_3 : fOK (0, 50, 0, 3, 0, 302, 0, "StatueCoats$Chances") = true := by decide +kernel
set_option maxRecDepth 100000 in
theorem fr_4 : fOK (0, 57, 0, 4, 0, 304, 0, "StatueCoats$Chances") = true := by decide +kernel
set_option maxRecDepth 100000 in
theorem fr_5 : fOK (1, 19, 1, 2, 0, 99, 100, "StatueCoats$Clothes") = true := by decide +kernel
set_option maxRecDepth 100000 in
theorem fr_6 : fOK (2, 13, 2, 2, 0, 215, 0, "StatueCoats$Dressing") = true := by decide +kernel
set_option maxRecDepth 100000 in
theorem fr_7 : fOK (2, 16, 2, 3, 0, 216, 0, "StatueCoats$Dressing") = true := by decide +kernel
set_option maxRecDepth 100000 in
theorem fr_8 : fOK (2, 20, 2, 0, 0, 213, 0, "StatueCoats$Dressing") = true := by decide +kernel
set_option maxRecDepth 100000 in
theorem fr_9 : fOK (2, 24, 2, 1, 0, 214, 0, "StatueCoats$Dressing") = true := by decide +kernel
set_option maxRecDepth 100000 in
theorem fr_10 : fOK (2, 42, 1, 4, 0, 117, 118, "StatueCoats$Clothes") = true := by decide +kernel
set_option maxRecDepth 100000 in
theorem fr_11 : fOK (3, 9, 3, 1, 0, 233, 0, "StatueCoats$Ladder") = true := by decide +kernel
set_option maxRecDepth 100000 in
theorem fr_12 : fOK (3, 15, 3, 2, 0, 234, 0, "StatueCoats$Ladder") = true := by decide +kernel
set_option maxRecDepth 100000 in
theorem fr_13 : fOK (3, 18, 3, 0, 0, 232, 0, "StatueCoats$Ladder") = true := by decide +kernel
set_option maxRecDepth 100000 in
theorem fr_14 : fOK (3, 22, 7, 4, 0, 111, 112, "StatueCoats$Statues") = true := by decide +kernel
set_option maxRecDepth 100000 in
theorem fr_15 : fOK (3, 34, 3, 3, 0, 235, 0, "StatueCoats$Ladder") = true := by decide +kernel
set_option maxRecDepth 100000 in
theorem fr_16 : fOK (3, 37, 3, 4, 0, 236, 0, "StatueCoats$Ladder") = true := by decide +kernel
set_option maxRecDepth 100000 in
theorem fr_17 : fOK (3, 40, 3, 5, 0, 237, 0, "StatueCoats$Ladder") = true := by decide +kernel
set_option maxRecDepth 100000 in
theorem fr_18 : fOK (3, 43, 3, 6, 0, 238, 0, "StatueCoats$Ladder") = true := by decide +kernel
set_option maxRecDepth 100000 in
theorem fr_19 : fOK (4, 11, 4, 3, 0, 263, 0, "StatueCoats$Night") = true := by decide +kernel
set_option maxRecDepth 100000 in
theorem fr_20 : fOK (4, 15, 4, 4, 0, 264, 0, "StatueCoats$Night") = true := by decide +kernel
set_option maxRecDepth 100000 in
theorem fr_21 : fOK (4, 18, 4, 5, 0, 265, 0, "StatueCoats$Night") = true := by decide +kernel
set_option maxRecDepth 100000 in
theorem fr_22 : fOK (4, 21, 4, 6, 0, 266, 0, "StatueCoats$Night") = true := by decide +kernel
set_option maxRecDepth 100000 in
theorem fr_23 : fOK (4, 24, 4, 7, 0, 267, 0, "StatueCoats$Night") = true := by decide +kernel
set_option maxRecDepth 100000 in
theorem fr_24 : fOK (4, 27, 4, 0, 0, 260, 0, "StatueCoats$Night") = true := by decide +kernel
set_option maxRecDepth 100000 in
theorem fr_25 : fOK (4, 31, 4, 1, 0, 261, 0, "StatueCoats$Night") = true := by decide +kernel
set_option maxRecDepth 100000 in
theorem fr_26 : fOK (4, 35, 4, 2, 0, 262, 0, "StatueCoats$Night") = true := by decide +kernel
set_option maxRecDepth 100000 in
theorem fr_27 : fOK (4, 39, 4, 8, 0, 268, 0, "StatueCoats$Night") = true := by decide +kernel
set_option maxRecDepth 100000 in
theorem fr_28 : fOK (4, 43, 4, 9, 0, 270, 0, "StatueCoats$Night") = true := by decide +kernel
set_option maxRecDepth 100000 in
theorem fr_29 : fOK (4, 46, 7, 4, 0, 114, 112, "StatueCoats$Statues") = true := by decide +kernel
set_option maxRecDepth 100000 in
theorem fr_30 : fOK (4, 59, 5, 4, 0, 119, 116, "StatueCoats$Seasons") = true := by decide +kernel
set_option maxRecDepth 100000 in
theorem fr_31 : fOK (5, 15, 5, 2, 0, 101, 102, "StatueCoats$Seasons") = true := by decide +kernel
set_option maxRecDepth 100000 in
theorem fr_32 : fOK (6, 9, 6, 0, 0, 325, 0, "StatueCoats$Sheet") = true := by decide +kernel
set_option maxRecDepth 100000 in
theorem fr_33 : fOK (6, 15, 6, 1, 0, 327, 0, "StatueCoats$Sheet") = true := by decide +kernel
set_option maxRecDepth 100000 in
theorem fr_34 : fOK (6, 28, 6, 2, 0, 329, 0, "StatueCoats$Sheet") = true := by decide +kernel
set_option maxRecDepth 100000 in
theorem fr_35 : fOK (7, 19, 7, 2, 0, 103, 104, "StatueCoats$Statues") = true := by decide +kernel
set_option maxRecDepth 100000 in
theorem fr_36 : fOK (8, 11, 7, 0, 0, 96, 0, "StatueCoats$Text") = true := by decide +kernel
set_option maxRecDepth 100000 in
theorem fr_37 : fOK (8, 11, 1, 0, 0, 96, 0, "StatueCoats$Text") = true := by decide +kernel
set_option maxRecDepth 100000 in
theorem fr_38 : fOK (8, 11, 5, 0, 0, 96, 0, "StatueCoats$Text") = true := by decide +kernel
set_option maxRecDepth 100000 in
theorem fr_39 : fOK (8, 15, 7, 3, 0, 109, 0, "StatueCoats$Text") = true := by decide +kernel
set_option maxRecDepth 100000 in
theorem fr_40 : fOK (8, 15, 1, 3, 0, 109, 0, "StatueCoats$Text") = true := by decide +kernel
set_option maxRecDepth 100000 in
theorem fr_41 : fOK (8, 15, 5, 3, 0, 109, 0, "StatueCoats$Text") = true := by decide +kernel
set_option maxRecDepth 100000 in
theorem fr_42 : fOK (8, 19, 7, 1, 0, 97, 0, "StatueCoats$Text") = true := by decide +kernel
set_option maxRecDepth 100000 in
theorem fr_43 : fOK (8, 19, 1, 1, 0, 97, 0, "StatueCoats$Text") = true := by decide +kernel
set_option maxRecDepth 100000 in
theorem fr_44 : fOK (8, 19, 5, 1, 0, 97, 0, "StatueCoats$Text") = true := by decide +kernel
set_option maxRecDepth 100000 in
theorem fr_45 : fOK (8, 22, 7, 2, 0, 105, 0, "StatueCoats$Text") = true := by decide +kernel
set_option maxRecDepth 100000 in
theorem fr_46 : fOK (8, 22, 1, 2, 0, 105, 0, "StatueCoats$Text") = true := by decide +kernel
set_option maxRecDepth 100000 in
theorem fr_47 : fOK (8, 22, 5, 2, 0, 105, 0, "StatueCoats$Text") = true := by decide +kernel
set_option maxRecDepth 100000 in
theorem fr_48 : fOK (8, 25, 7, 4, 0, 113, 0, "StatueCoats$Text") = true := by decide +kernel
set_option maxRecDepth 100000 in
theorem fr_49 : fOK (8, 25, 1, 4, 0, 113, 0, "StatueCoats$Text") = true := by decide +kernel
set_option maxRecDepth 100000 in
theorem fr_50 : fOK (8, 25, 5, 4, 0, 113, 0, "StatueCoats$Text") = true := by decide +kernel
set_option maxRecDepth 100000 in
theorem fr_51 : fOK (9, 13, 8, 3, 0, 174, 0, "StatueCoats$Wardrobe") = true := by decide +kernel
set_option maxRecDepth 100000 in
theorem fr_52 : fOK (9, 16, 8, 4, 0, 175, 0, "StatueCoats$Wardrobe") = true := by decide +kernel
set_option maxRecDepth 100000 in
theorem fr_53 : fOK (9, 19, 8, 5, 0, 176, 0, "StatueCoats$Wardrobe") = true := by decide +kernel
set_option maxRecDepth 100000 in
theorem fr_54 : fOK (9, 22, 8, 6, 0, 177, 0, "StatueCoats$Wardrobe") = true := by decide +kernel
set_option maxRecDepth 100000 in
theorem fr_55 : fOK (9, 25, 8, 7, 0, 178, 0, "StatueCoats$Wardrobe") = true := by decide +kernel
set_option maxRecDepth 100000 in
theorem fr_56 : fOK (9, 28, 8, 8, 0, 179, 0, "StatueCoats$Wardrobe") = true := by decide +kernel
set_option maxRecDepth 100000 in
theorem fr_57 : fOK (9, 32, 8, 10, 0, 182, 0, "StatueCoats$Wardrobe") = true := by decide +kernel
set_option maxRecDepth 100000 in
theorem fr_58 : fOK (9, 36, 8, 0, 0, 171, 0, "StatueCoats$Wardrobe") = true := by decide +kernel
set_option maxRecDepth 100000 in
theorem fr_59 : fOK (9, 40, 8, 1, 0, 172, 0, "StatueCoats$Wardrobe") = true := by decide +kernel
set_option maxRecDepth 100000 in
theorem fr_60 : fOK (9, 44, 8, 2, 0, 173, 0, "StatueCoats$Wardrobe") = true := by decide +kernel
set_option maxRecDepth 100000 in
theorem fr_61 : fOK (9, 48, 8, 9, 0, 181, 0, "StatueCoats$Wardrobe") = true := by decide +kernel
set_option maxRecDepth 100000 in
theorem fr_62 : fOK (9, 62, 5, 4, 0, 115, 116, "StatueCoats$Seasons") = true := by decide +kernel
set_option maxRecDepth 100000 in
theorem fr_63 : fOK (9, 84, 7, 4, 0, 120, 112, "StatueCoats$Statues") = true := by decide +kernel
set_option maxRecDepth 100000 in
theorem fr_64 : fOK (9, 92, 1, 4, 0, 121, 118, "StatueCoats$Clothes") = true := by decide +kernel
set_option maxRecDepth 100000 in
theorem fr_65 : fOK (10, 10, 9, 0, 0, 338, 0, "StatueCoats") = true := by decide +kernel
set_option maxRecDepth 100000 in
theorem fr_66 : fOK (10, 19, 9, 1, 0, 339, 0, "StatueCoats") = true := by decide +kernel
set_option maxRecDepth 100000 in
theorem fr_67 : fOK (10, 26, 9, 2, 0, 340, 0, "StatueCoats") = true := by decide +kernel
set_option maxRecDepth 100000 in
theorem fr_68 : fOK (10, 32, 9, 3, 0, 341, 0, "StatueCoats") = true := by decide +kernel
set_option maxRecDepth 100000 in
theorem fr_69 : fOK (10, 41, 9, 4, 0, 342, 0, "StatueCoats") = true := by decide +kernel
set_option maxRecDepth 100000 in
theorem fr_70 : fOK (10, 50, 9, 5, 0, 343, 0, "StatueCoats") = true := by decide +kernel
set_option maxRecDepth 100000 in
theorem fr_71 : fOK (10, 59, 9, 6, 0, 344, 0, "StatueCoats") = true := by decide +kernel
set_option maxRecDepth 100000 in
theorem fr_72 : fOK (10, 68, 9, 7, 0, 345, 0, "StatueCoats") = true := by decide +kernel
set_option maxRecDepth 100000 in
theorem fr_73 : fOK (10, 77, 9, 8, 0, 346, 0, "StatueCoats") = true := by decide +kernel
set_option maxRecDepth 100000 in
theorem fr_74 : fOK (10, 84, 9, 9, 0, 347, 0, "StatueCoats") = true := by decide +kernel
set_option maxRecDepth 100000 in
theorem fr_75 : fOK (10, 103, 7, 2, 0, 98, 0, "StatueCoats$Text") = true := by decide +kernel
set_option maxRecDepth 100000 in
theorem fr_76 : fOK (10, 103, 1, 2, 0, 98, 0, "StatueCoats$Text") = true := by decide +kernel
set_option maxRecDepth 100000 in
theorem fr_77 : fOK (10, 103, 5, 2, 0, 98, 0, "StatueCoats$Text") = true := by decide +kernel
set_option maxRecDepth 100000 in
theorem fr_78 : fOK (10, 110, 7, 3, 0, 110, 0, "StatueCoats$Text") = true := by decide +kernel
set_option maxRecDepth 100000 in
theorem fr_79 : fOK (10, 110, 1, 3, 0, 110, 0, "StatueCoats$Text") = true := by decide +kernel
set_option maxRecDepth 100000 in
theorem fr_80 : fOK (10, 110, 5, 3, 0, 110, 0, "StatueCoats$Text") = true := by decide +kernel
set_option maxRecDepth 100000 in
theorem fr_81 : fOK (10, 218, 4, 8, 1, 3, 0, "StatueCoats$Night") = true := by decide +kernel
set_option maxRecDepth 100000 in
theorem fr_82 : fOK (10, 231, 6, 2, 1, 11, 0, "StatueCoats$Sheet") = true := by decide +kernel
set_option maxRecDepth 100000 in
theorem fr_83 : fOK (10, 240, 4, 9, 1, 4, 0, "StatueCoats$Night") = true := by decide +kernel
set_option maxRecDepth 100000 in
theorem fr_84 : fOK (10, 254, 0, 3, 1, 5, 0, "StatueCoats$Chances") = true := by decide +kernel
set_option maxRecDepth 100000 in
theorem fr_85 : fOK (10, 258, 0, 4, 1, 6, 0, "StatueCoats$Chances") = true := by decide +kernel
set_option maxRecDepth 100000 in
theorem fr_86 : fOK (10, 288, 9, 10, 0, 348, 0, "StatueCoats") = true := by decide +kernel
set_option maxRecDepth 100000 in
theorem fr_87 : fOK (10, 291, 6, 1, 1, 10, 0, "StatueCoats$Sheet") = true := by decide +kernel
set_option maxRecDepth 100000 in
theorem fr_88 : fOK (10, 298, 6, 0, 1, 9, 0, "StatueCoats$Sheet") = true := by decide +kernel
set_option maxRecDepth 100000 in
theorem fr_89 : fOK (10, 308, 7, 4, 0, 122, 112, "StatueCoats$Statues") = true := by decide +kernel
set_option maxRecDepth 100000 in
theorem fr_90 : fOK (10, 316, 1, 4, 0, 123, 118, "StatueCoats$Clothes") = true := by decide +kernel
set_option maxRecDepth 100000 in
theorem fr_91 : fOK (10, 317, 5, 4, 0, 124, 116, "StatueCoats$Seasons") = true := by decide +kernel
set_option maxRecDepth 100000 in
theorem fr_92 : fOK (10, 318, 7, 2, 0, 106, 104, "StatueCoats$Statues") = true := by decide +kernel
set_option maxRecDepth 100000 in
theorem fr_93 : fOK (10, 319, 1, 2, 0, 107, 100, "StatueCoats$Clothes") = true := by decide +kernel
set_option maxRecDepth 100000 in
theorem fr_94 : fOK (10, 320, 5, 2, 0, 108, 102, "StatueCoats$Seasons") = true := by decide +kernel
set_option maxRecDepth 100000 in
theorem fr_95 : fOK (10, 321, 8, 8, 1, 2, 0, "StatueCoats$Wardrobe") = true := by decide +kernel
set_option maxRecDepth 100000 in
theorem fr_96 : fOK (11, 7, 10, 0, 0, 967, 0, "StatueCoatsModel") = true := by decide +kernel
set_option maxRecDepth 100000 in
theorem fr_97 : fOK (11, 13, 10, 1, 0, 968, 0, "StatueCoatsModel") = true := by decide +kernel
set_option maxRecDepth 100000 in
theorem fr_98 : fOK (11, 16, 10, 2, 0, 969, 0, "StatueCoatsModel") = true := by decide +kernel
set_option maxRecDepth 100000 in
theorem fr_99 : fOK (11, 19, 10, 3, 0, 970, 0, "StatueCoatsModel") = true := by decide +kernel
set_option maxRecDepth 100000 in
theorem fr_100 : fOK (11, 22, 10, 5, 0, 972, 0, "StatueCoatsModel") = true := by decide +kernel
set_option maxRecDepth 100000 in
theorem fr_101 : fOK (11, 25, 10, 6, 0, 973, 0, "StatueCoatsModel") = true := by decide +kernel
set_option maxRecDepth 100000 in
theorem fr_102 : fOK (11, 28, 10, 8, 0, 975, 0, "StatueCoatsModel") = true := by decide +kernel
set_option maxRecDepth 100000 in
theorem fr_103 : fOK (11, 31, 10, 9, 0, 976, 0, "StatueCoatsModel") = true := by decide +kernel
set_option maxRecDepth 100000 in
theorem fr_104 : fOK (11, 34, 10, 10, 0, 977, 0, "StatueCoatsModel") = true := by decide +kernel
set_option maxRecDepth 100000 in
theorem fr_105 : fOK (11, 37, 10, 11, 0, 978, 0, "StatueCoatsModel") = true := by decide +kernel
set_option maxRecDepth 100000 in
theorem fr_106 : fOK (11, 40, 10, 12, 0, 979, 0, "StatueCoatsModel") = true := by decide +kernel
set_option maxRecDepth 100000 in
theorem fr_107 : fOK (11, 43, 10, 13, 0, 980, 0, "StatueCoatsModel") = true := by decide +kernel
set_option maxRecDepth 100000 in
theorem fr_108 : fOK (11, 46, 10, 14, 0, 981, 0, "StatueCoatsModel") = true := by decide +kernel
set_option maxRecDepth 100000 in
theorem fr_109 : fOK (11, 49, 10, 15, 0, 982, 0, "StatueCoatsModel") = true := by decide +kernel
set_option maxRecDepth 100000 in
theorem fr_110 : fOK (11, 52, 10, 16, 0, 983, 0, "StatueCoatsModel") = true := by decide +kernel
set_option maxRecDepth 100000 in
theorem fr_111 : fOK (11, 55, 10, 17, 0, 984, 0, "StatueCoatsModel") = true := by decide +kernel
set_option maxRecDepth 100000 in
theorem fr_112 : fOK (11, 58, 10, 19, 0, 986, 0, "StatueCoatsModel") = true := by decide +kernel
set_option maxRecDepth 100000 in
theorem fr_113 : fOK (11, 61, 10, 20, 0, 987, 0, "StatueCoatsModel") = true := by decide +kernel
set_option maxRecDepth 100000 in
theorem fr_114 : fOK (11, 64, 10, 21, 0, 988, 0, "StatueCoatsModel") = true := by decide +kernel
set_option maxRecDepth 100000 in
theorem fr_115 : fOK (11, 73, 10, 4, 0, 971, 0, "StatueCoatsModel") = true := by decide +kernel
set_option maxRecDepth 100000 in
theorem fr_116 : fOK (11, 108, 10, 7, 0, 974, 0, "StatueCoatsModel") = true := by decide +kernel
set_option maxRecDepth 100000 in
theorem fr_117 : fOK (11, 239, 10, 18, 0, 985, 0, "StatueCoatsModel") = true := by decide +kernel
theorem fLd_ok : ∀ r ∈ fLd, fOK r = true := List.forall_mem_cons.mpr ⟨fr_0, List.forall_mem_cons.mpr ⟨fr_1, List.forall_mem_cons.mpr ⟨fr_2, List.forall_mem_cons.mpr ⟨fr_3, List.forall_mem_cons.mpr ⟨fr_4, List.forall_mem_cons.mpr ⟨fr_5, List.forall_mem_cons.mpr ⟨fr_6, List.forall_mem_cons.mpr ⟨fr_7, List.forall_mem_cons.mpr ⟨fr_8, List.forall_mem_cons.mpr ⟨fr_9, List.forall_mem_cons.mpr ⟨fr_10, List.forall_mem_cons.mpr ⟨fr_11, List.forall_mem_cons.mpr ⟨fr_12, List.forall_mem_cons.mpr ⟨fr_13, List.forall_mem_cons.mpr ⟨fr_14, List.forall_mem_cons.mpr ⟨fr_15, List.forall_mem_cons.mpr ⟨fr_16, List.forall_mem_cons.mpr ⟨fr_17, List.forall_mem_cons.mpr ⟨fr_18, List.forall_mem_cons.mpr ⟨fr_19, List.forall_mem_cons.mpr ⟨fr_20, List.forall_mem_cons.mpr ⟨fr_21, List.forall_mem_cons.mpr ⟨fr_22, List.forall_mem_cons.mpr ⟨fr_23, List.forall_mem_cons.mpr ⟨fr_24, List.forall_mem_cons.mpr ⟨fr_25, List.forall_mem_cons.mpr ⟨fr_26, List.forall_mem_cons.mpr ⟨fr_27, List.forall_mem_cons.mpr ⟨fr_28, List.forall_mem_cons.mpr ⟨fr_29, List.forall_mem_cons.mpr ⟨fr_30, List.forall_mem_cons.mpr ⟨fr_31, List.forall_mem_cons.mpr ⟨fr_32, List.forall_mem_cons.mpr ⟨fr_33, List.forall_mem_cons.mpr ⟨fr_34, List.forall_mem_cons.mpr ⟨fr_35, List.forall_mem_cons.mpr ⟨fr_36, List.forall_mem_cons.mpr ⟨fr_37, List.forall_mem_cons.mpr ⟨fr_38, List.forall_mem_cons.mpr ⟨fr_39, List.forall_mem_cons.mpr ⟨fr_40, List.forall_mem_cons.mpr ⟨fr_41, List.forall_mem_cons.mpr ⟨fr_42, List.forall_mem_cons.mpr ⟨fr_43, List.forall_mem_cons.mpr ⟨fr_44, List.forall_mem_cons.mpr ⟨fr_45, List.forall_mem_cons.mpr ⟨fr_46, List.forall_mem_cons.mpr ⟨fr_47, List.forall_mem_cons.mpr ⟨fr_48, List.forall_mem_cons.mpr ⟨fr_49, List.forall_mem_cons.mpr ⟨fr_50, List.forall_mem_cons.mpr ⟨fr_51, List.forall_mem_cons.mpr ⟨fr_52, List.forall_mem_cons.mpr ⟨fr_53, List.forall_mem_cons.mpr ⟨fr_54, List.forall_mem_cons.mpr ⟨fr_55, List.forall_mem_cons.mpr ⟨fr_56, List.forall_mem_cons.mpr ⟨fr_57, List.forall_mem_cons.mpr ⟨fr_58, List.forall_mem_cons.mpr ⟨fr_59, List.forall_mem_cons.mpr ⟨fr_60, List.forall_mem_cons.mpr ⟨fr_61, List.forall_mem_cons.mpr ⟨fr_62, List.forall_mem_cons.mpr ⟨fr_63, List.forall_mem_cons.mpr ⟨fr_64, List.forall_mem_cons.mpr ⟨fr_65, List.forall_mem_cons.mpr ⟨fr_66, List.forall_mem_cons.mpr ⟨fr_67, List.forall_mem_cons.mpr ⟨fr_68, List.forall_mem_cons.mpr ⟨fr_69, List.forall_mem_cons.mpr ⟨fr_70, List.forall_mem_cons.mpr ⟨fr_71, List.forall_mem_cons.mpr ⟨fr_72, List.forall_mem_cons.mpr ⟨fr_73, List.forall_mem_cons.mpr ⟨fr_74, List.forall_mem_cons.mpr ⟨fr_75, List.forall_mem_cons.mpr ⟨fr_76, List.forall_mem_cons.mpr ⟨fr_77, List.forall_mem_cons.mpr ⟨fr_78, List.forall_mem_cons.mpr ⟨fr_79, List.forall_mem_cons.mpr ⟨fr_80, List.forall_mem_cons.mpr ⟨fr_81, List.forall_mem_cons.mpr ⟨fr_82, List.forall_mem_cons.mpr ⟨fr_83, List.forall_mem_cons.mpr ⟨fr_84, List.forall_mem_cons.mpr ⟨fr_85, List.forall_mem_cons.mpr ⟨fr_86, List.forall_mem_cons.mpr ⟨fr_87, List.forall_mem_cons.mpr ⟨fr_88, List.forall_mem_cons.mpr ⟨fr_89, List.forall_mem_cons.mpr ⟨fr_90, List.forall_mem_cons.mpr ⟨fr_91, List.forall_mem_cons.mpr ⟨fr_92, List.forall_mem_cons.mpr ⟨fr_93, List.forall_mem_cons.mpr ⟨fr_94, List.forall_mem_cons.mpr ⟨fr_95, List.forall_mem_cons.mpr ⟨fr_96, List.forall_mem_cons.mpr ⟨fr_97, List.forall_mem_cons.mpr ⟨fr_98, List.forall_mem_cons.mpr ⟨fr_99, List.forall_mem_cons.mpr ⟨fr_100, List.forall_mem_cons.mpr ⟨fr_101, List.forall_mem_cons.mpr ⟨fr_102, List.forall_mem_cons.mpr ⟨fr_103, List.forall_mem_cons.mpr ⟨fr_104, List.forall_mem_cons.mpr ⟨fr_105, List.forall_mem_cons.mpr ⟨fr_106, List.forall_mem_cons.mpr ⟨fr_107, List.forall_mem_cons.mpr ⟨fr_108, List.forall_mem_cons.mpr ⟨fr_109, List.forall_mem_cons.mpr ⟨fr_110, List.forall_mem_cons.mpr ⟨fr_111, List.forall_mem_cons.mpr ⟨fr_112, List.forall_mem_cons.mpr ⟨fr_113, List.forall_mem_cons.mpr ⟨fr_114, List.forall_mem_cons.mpr ⟨fr_115, List.forall_mem_cons.mpr ⟨fr_116, List.forall_mem_cons.mpr ⟨fr_117, fun _ h => absurd h List.not_mem_nil⟩⟩⟩⟩⟩⟩⟩⟩⟩⟩⟩⟩⟩⟩⟩⟩⟩⟩⟩⟩⟩⟩⟩⟩⟩⟩⟩⟩⟩⟩⟩⟩⟩⟩⟩⟩⟩⟩⟩⟩⟩⟩⟩⟩⟩⟩⟩⟩⟩⟩⟩⟩⟩⟩⟩⟩⟩⟩⟩⟩⟩⟩⟩⟩⟩⟩⟩⟩⟩⟩⟩⟩⟩⟩⟩⟩⟩⟩⟩⟩⟩⟩⟩⟩⟩⟩⟩⟩⟩⟩⟩⟩⟩⟩⟩⟩⟩⟩⟩⟩⟩⟩⟩⟩⟩⟩⟩⟩⟩⟩⟩⟩⟩⟩⟩⟩⟩⟩
set_option maxRecDepth 100000 in
theorem tr_0 : tOK (0, 3, 9, 0, 0, "java/lang/Object", "", [298, 85, 0, 0]) = true := by decide +kernel
set_option maxRecDepth 100000 in
theorem tr_1 : tOK (0, 23, 0, 1, 11, "StatueCoats$Clothes", "", [834, 528, 529, 67]) = true := by decide +kernel
set_option maxRecDepth 100000 in
theorem tr_2 : tOK (0, 29, 0, 0, 2, "StatueCoats$Chances", "", [835, 837, 20, 73]) = true := by decide +kernel
set_option maxRecDepth 100000 in
theorem tr_3 : tOK (0, 33, 0, 1, 9, "StatueCoats$Clothes", "", [839, 520, 521, 67]) = true := by decide +kernel
set_option maxRecDepth 100000 in
theorem tr_4 : tOK (0, 36, 2, 0, 86, "StatueCoats$Wardrobe", "", [840, 603, 69, 0]) = true := by decide +kernel
set_option maxRecDepth 100000 in
theorem tr_5 : tOK (0, 41, 0, 5, 35, "StatueCoats$Seasons", "", [841, 418, 419, 68]) = true := by decide +kernel
set_option maxRecDepth 100000 in
theorem tr_6 : tOK (0, 46, 0, 0, 3, "StatueCoats$Chances", "", [842, 844, 21, 73]) = true := by decide +kernel
set_option maxRecDepth 100000 in
theorem tr_7 : tOK (0, 54, 0, 0, 4, "StatueCoats$Chances", "", [848, 850, 22, 73]) = true := by decide +kernel
set_option maxRecDepth 100000 in
theorem tr_8 : tOK (0, 62, 10, 0, 0, "java/lang/Math", "", [847, 463, 76, 464]) = true := by decide +kernel
set_option maxRecDepth 100000 in
theorem tr_9 : tOK (1, 3, 3, 0, 51, "StatueCoats$Text", "", [142, 93, 65, 0]) = true := by decide +kernel
set_option maxRecDepth 100000 in
theorem tr_10 : tOK (1, 9, 1, 1, 56, "StatueCoats$Clothes", "StatueCoats$Text", [404, 405, 407, 408, 65, 0]) = true := by decide +kernel
set_option maxRecDepth 100000 in
theorem tr_11 : tOK (1, 15, 6, 0, 59, "StatueCoats$Clothes", "StatueCoats$Text", [410, 412, 65, 411]) = true := by decide +kernel
set_option maxRecDepth 100000 in
theorem tr_12 : tOK (1, 23, 1, 1, 57, "StatueCoats$Clothes", "StatueCoats$Text", [516, 517, 518, 491, 65, 0]) = true := by decide +kernel
set_option maxRecDepth 100000 in
theorem tr_13 : tOK (2, 3, 9, 0, 0, "java/lang/Object", "", [211, 85, 0, 0]) = true := by decide +kernel
set_option maxRecDepth 100000 in
theorem tr_14 : tOK (2, 28, 0, 8, 69, "StatueCoats$Wardrobe", "", [686, 627, 628, 69]) = true := by decide +kernel
set_option maxRecDepth 100000 in
theorem tr_15 : tOK (2, 34, 0, 2, 16, "StatueCoats$Dressing", "", [687, 689, 10, 70]) = true := by decide +kernel
set_option maxRecDepth 100000 in
theorem tr_16 : tOK (2, 38, 0, 2, 17, "StatueCoats$Dressing", "", [692, 694, 11, 70]) = true := by decide +kernel
set_option maxRecDepth 100000 in
theorem tr_17 : tOK (2, 48, 10, 0, 0, "java/lang/Math", "", [691, 463, 76, 464]) = true := by decide +kernel
set_option maxRecDepth 100000 in
theorem tr_18 : tOK (3, 3, 9, 0, 0, "java/lang/Object", "", [231, 85, 0, 0]) = true := by decide +kernel
set_option maxRecDepth 100000 in
theorem tr_19 : tOK (3, 28, 11, 0, 0, "java/lang/Math", "", [712, 460, 76, 461]) = true := by decide +kernel
set_option maxRecDepth 100000 in
theorem tr_20 : tOK (3, 46, 0, 3, 21, "StatueCoats$Ladder", "", [713, 715, 12, 71]) = true := by decide +kernel
set_option maxRecDepth 100000 in
theorem tr_21 : tOK (3, 50, 8, 0, 0, "java/lang/System", "", [717, 719, 718, 78]) = true := by decide +kernel
set_option maxRecDepth 100000 in
theorem tr_22 : tOK (3, 56, 0, 7, 48, "StatueCoats$Statues", "", [720, 494, 495, 66]) = true := by decide +kernel
set_option maxRecDepth 100000 in
theorem tr_23 : tOK (3, 60, 12, 0, 0, "java/lang/Math", "", [721, 722, 76, 723]) = true := by decide +kernel
set_option maxRecDepth 100000 in
theorem tr_24 : tOK (4, 3, 9, 0, 0, "java/lang/Object", "", [259, 85, 0, 0]) = true := by decide +kernel
set_option maxRecDepth 100000 in
theorem tr_25 : tOK (4, 51, 0, 4, 29, "StatueCoats$Night", "", [798, 800, 17, 72]) = true := by decide +kernel
set_option maxRecDepth 100000 in
theorem tr_26 : tOK (4, 55, 0, 4, 31, "StatueCoats$Night", "", [820, 822, 19, 72]) = true := by decide +kernel
set_option maxRecDepth 100000 in
theorem tr_27 : tOK (4, 62, 1, 7, 53, "StatueCoats$Statues", "StatueCoats$Text", [802, 478, 480, 481, 65, 0]) = true := by decide +kernel
set_option maxRecDepth 100000 in
theorem tr_28 : tOK (4, 66, 0, 4, 30, "StatueCoats$Night", "", [803, 805, 18, 72]) = true := by decide +kernel
set_option maxRecDepth 100000 in
theorem tr_29 : tOK (4, 70, 0, 8, 68, "StatueCoats$Wardrobe", "", [807, 636, 637, 69]) = true := by decide +kernel
set_option maxRecDepth 100000 in
theorem tr_30 : tOK (4, 75, 10, 0, 0, "java/lang/Math", "", [824, 463, 76, 464]) = true := by decide +kernel
set_option maxRecDepth 100000 in
theorem tr_31 : tOK (5, 3, 3, 0, 51, "StatueCoats$Text", "", [154, 93, 65, 0]) = true := by decide +kernel
set_option maxRecDepth 100000 in
theorem tr_32 : tOK (5, 9, 0, 5, 35, "StatueCoats$Seasons", "", [417, 418, 419, 68]) = true := by decide +kernel
set_option maxRecDepth 100000 in
theorem tr_33 : tOK (5, 19, 1, 5, 56, "StatueCoats$Seasons", "StatueCoats$Text", [421, 422, 423, 408, 65, 0]) = true := by decide +kernel
set_option maxRecDepth 100000 in
theorem tr_34 : tOK (6, 3, 9, 0, 0, "java/lang/Object", "", [324, 85, 0, 0]) = true := by decide +kernel
set_option maxRecDepth 100000 in
theorem tr_35 : tOK (6, 19, 11, 0, 0, "java/lang/Math", "", [881, 460, 76, 461]) = true := by decide +kernel
set_option maxRecDepth 100000 in
theorem tr_36 : tOK (6, 25, 10, 0, 0, "java/lang/Math", "", [882, 463, 76, 464]) = true := by decide +kernel
set_option maxRecDepth 100000 in
theorem tr_37 : tOK (6, 31, 0, 6, 40, "StatueCoats$Sheet", "", [786, 787, 788, 74]) = true := by decide +kernel
set_option maxRecDepth 100000 in
theorem tr_38 : tOK (7, 3, 3, 0, 51, "StatueCoats$Text", "", [92, 93, 65, 0]) = true := by decide +kernel
set_option maxRecDepth 100000 in
theorem tr_39 : tOK (7, 9, 1, 7, 56, "StatueCoats$Statues", "StatueCoats$Text", [427, 428, 429, 408, 65, 0]) = true := by decide +kernel
set_option maxRecDepth 100000 in
theorem tr_40 : tOK (7, 15, 6, 0, 59, "StatueCoats$Statues", "StatueCoats$Text", [430, 412, 65, 431]) = true := by decide +kernel
set_option maxRecDepth 100000 in
theorem tr_41 : tOK (7, 23, 1, 7, 57, "StatueCoats$Statues", "StatueCoats$Text", [487, 488, 490, 491, 65, 0]) = true := by decide +kernel
set_option maxRecDepth 100000 in
theorem tr_42 : tOK (8, 3, 9, 0, 0, "java/lang/Object", "", [95, 85, 0, 0]) = true := by decide +kernel
set_option maxRecDepth 100000 in
theorem tr_43 : tOK (8, 28, 1, 7, 58, "StatueCoats$Text", "StatueCoats$Text", [394, 1381, 0, 396, 65, 0]) = true := by decide +kernel
set_option maxRecDepth 100000 in
theorem tr_44 : tOK (8, 28, 1, 1, 58, "StatueCoats$Text", "StatueCoats$Text", [394, 1381, 1, 396, 65, 0]) = true := by decide +kernel
set_option maxRecDepth 100000 in
theorem tr_45 : tOK (8, 28, 1, 5, 58, "StatueCoats$Text", "StatueCoats$Text", [394, 1381, 2, 396, 65, 0]) = true := by decide +kernel
set_option maxRecDepth 100000 in
theorem tr_46 : tOK (8, 31, 11, 0, 0, "java/lang/Math", "", [459, 460, 76, 461]) = true := by decide +kernel
set_option maxRecDepth 100000 in
theorem tr_47 : tOK (8, 37, 10, 0, 0, "java/lang/Math", "", [462, 463, 76, 464]) = true := by decide +kernel
set_option maxRecDepth 100000 in
theorem tr_48 : tOK (8, 40, 1, 7, 45, "StatueCoats$Text", "StatueCoats$Text", [398, 400, 424, 425, 66, 13]) = true := by decide +kernel
set_option maxRecDepth 100000 in
theorem tr_49 : tOK (8, 40, 1, 1, 6, "StatueCoats$Text", "StatueCoats$Text", [398, 400, 401, 402, 67, 13]) = true := by decide +kernel
set_option maxRecDepth 100000 in
theorem tr_50 : tOK (8, 40, 1, 5, 33, "StatueCoats$Text", "StatueCoats$Text", [398, 400, 414, 415, 68, 13]) = true := by decide +kernel
set_option maxRecDepth 100000 in
theorem tr_51 : tOK (8, 44, 1, 7, 46, "StatueCoats$Text", "StatueCoats$Text", [432, 434, 441, 442, 66, 15]) = true := by decide +kernel
set_option maxRecDepth 100000 in
theorem tr_52 : tOK (8, 44, 1, 1, 7, "StatueCoats$Text", "StatueCoats$Text", [432, 434, 435, 436, 67, 15]) = true := by decide +kernel
set_option maxRecDepth 100000 in
theorem tr_53 : tOK (8, 44, 1, 5, 34, "StatueCoats$Text", "StatueCoats$Text", [432, 434, 438, 439, 68, 15]) = true := by decide +kernel
set_option maxRecDepth 100000 in
theorem tr_54 : tOK (9, 3, 9, 0, 0, "java/lang/Object", "", [168, 85, 0, 0]) = true := by decide +kernel
set_option maxRecDepth 100000 in
theorem tr_55 : tOK (9, 51, 0, 8, 83, "StatueCoats$Wardrobe", "", [563, 565, 5, 69]) = true := by decide +kernel
set_option maxRecDepth 100000 in
theorem tr_56 : tOK (9, 55, 0, 8, 87, "StatueCoats$Wardrobe", "", [573, 575, 6, 69]) = true := by decide +kernel
set_option maxRecDepth 100000 in
theorem tr_57 : tOK (9, 58, 0, 8, 88, "StatueCoats$Wardrobe", "", [579, 581, 7, 69]) = true := by decide +kernel
set_option maxRecDepth 100000 in
theorem tr_58 : tOK (9, 67, 0, 5, 35, "StatueCoats$Seasons", "", [593, 418, 419, 68]) = true := by decide +kernel
set_option maxRecDepth 100000 in
theorem tr_59 : tOK (9, 70, 0, 8, 84, "StatueCoats$Wardrobe", "", [594, 596, 9, 69]) = true := by decide +kernel
set_option maxRecDepth 100000 in
theorem tr_60 : tOK (9, 74, 2, 0, 80, "StatueCoats$Wardrobe", "", [567, 568, 69, 0]) = true := by decide +kernel
set_option maxRecDepth 100000 in
theorem tr_61 : tOK (9, 78, 1, 7, 53, "StatueCoats$Statues", "StatueCoats$Text", [630, 478, 480, 481, 65, 0]) = true := by decide +kernel
set_option maxRecDepth 100000 in
theorem tr_62 : tOK (9, 85, 0, 8, 69, "StatueCoats$Wardrobe", "", [626, 627, 628, 69]) = true := by decide +kernel
set_option maxRecDepth 100000 in
theorem tr_63 : tOK (9, 89, 0, 8, 68, "StatueCoats$Wardrobe", "", [647, 636, 637, 69]) = true := by decide +kernel
set_option maxRecDepth 100000 in
theorem tr_64 : tOK (9, 95, 0, 8, 67, "StatueCoats$Wardrobe", "", [652, 615, 616, 69]) = true := by decide +kernel
set_option maxRecDepth 100000 in
theorem tr_65 : tOK (9, 98, 0, 7, 50, "StatueCoats$Statues", "", [665, 502, 503, 66]) = true := by decide +kernel
set_option maxRecDepth 100000 in
theorem tr_66 : tOK (9, 101, 0, 8, 73, "StatueCoats$Wardrobe", "", [661, 662, 663, 69]) = true := by decide +kernel
set_option maxRecDepth 100000 in
theorem tr_67 : tOK (9, 104, 0, 8, 72, "StatueCoats$Wardrobe", "", [736, 649, 650, 69]) = true := by decide +kernel
set_option maxRecDepth 100000 in
theorem tr_68 : tOK (9, 107, 0, 8, 81, "StatueCoats$Wardrobe", "", [737, 739, 13, 69]) = true := by decide +kernel
set_option maxRecDepth 100000 in
theorem tr_69 : tOK (9, 110, 0, 8, 82, "StatueCoats$Wardrobe", "", [742, 744, 14, 69]) = true := by decide +kernel
set_option maxRecDepth 100000 in
theorem tr_70 : tOK (9, 113, 2, 0, 219, "java/lang/Integer", "", [587, 588, 77, 0]) = true := by decide +kernel
set_option maxRecDepth 100000 in
theorem tr_71 : tOK (9, 119, 0, 8, 65, "StatueCoats$Wardrobe", "", [741, 607, 608, 69]) = true := by decide +kernel
set_option maxRecDepth 100000 in
theorem tr_72 : tOK (9, 122, 0, 1, 8, "StatueCoats$Clothes", "", [570, 513, 514, 67]) = true := by decide +kernel
set_option maxRecDepth 100000 in
theorem tr_73 : tOK (9, 125, 0, 1, 10, "StatueCoats$Clothes", "", [571, 524, 525, 67]) = true := by decide +kernel
set_option maxRecDepth 100000 in
theorem tr_74 : tOK (9, 128, 0, 1, 11, "StatueCoats$Clothes", "", [572, 528, 529, 67]) = true := by decide +kernel
set_option maxRecDepth 100000 in
theorem tr_75 : tOK (9, 131, 0, 1, 9, "StatueCoats$Clothes", "", [598, 520, 521, 67]) = true := by decide +kernel
set_option maxRecDepth 100000 in
theorem tr_76 : tOK (9, 134, 2, 0, 85, "StatueCoats$Wardrobe", "", [599, 600, 69, 0]) = true := by decide +kernel
set_option maxRecDepth 100000 in
theorem tr_77 : tOK (9, 137, 2, 0, 86, "StatueCoats$Wardrobe", "", [602, 603, 69, 0]) = true := by decide +kernel
set_option maxRecDepth 100000 in
theorem tr_78 : tOK (9, 140, 10, 0, 0, "java/lang/Math", "", [605, 463, 76, 464]) = true := by decide +kernel
set_option maxRecDepth 100000 in
theorem tr_79 : tOK (9, 145, 0, 7, 47, "StatueCoats$Statues", "", [577, 484, 485, 66]) = true := by decide +kernel
set_option maxRecDepth 100000 in
theorem tr_80 : tOK (9, 148, 0, 7, 49, "StatueCoats$Statues", "", [578, 498, 499, 66]) = true := by decide +kernel
set_option maxRecDepth 100000 in
theorem tr_81 : tOK (9, 149, 0, 8, 89, "StatueCoats$Wardrobe", "", [583, 585, 8, 69]) = true := by decide +kernel
set_option maxRecDepth 100000 in
theorem tr_82 : tOK (10, 1, 9, 0, 0, "java/lang/Object", "", [84, 85, 0, 0]) = true := by decide +kernel
set_option maxRecDepth 100000 in
theorem tr_83 : tOK (10, 9, 3, 0, 44, "StatueCoats$Statues", "", [89, 90, 66, 0]) = true := by decide +kernel
set_option maxRecDepth 100000 in
theorem tr_84 : tOK (10, 18, 3, 0, 5, "StatueCoats$Clothes", "", [139, 140, 67, 0]) = true := by decide +kernel
set_option maxRecDepth 100000 in
theorem tr_85 : tOK (10, 25, 3, 0, 32, "StatueCoats$Seasons", "", [151, 152, 68, 0]) = true := by decide +kernel
set_option maxRecDepth 100000 in
theorem tr_86 : tOK (10, 38, 3, 0, 60, "StatueCoats$Wardrobe", "", [165, 166, 69, 0]) = true := by decide +kernel
set_option maxRecDepth 100000 in
theorem tr_87 : tOK (10, 47, 3, 0, 12, "StatueCoats$Dressing", "", [208, 209, 70, 0]) = true := by decide +kernel
set_option maxRecDepth 100000 in
theorem tr_88 : tOK (10, 56, 3, 0, 18, "StatueCoats$Ladder", "", [228, 229, 71, 0]) = true := by decide +kernel
set_option maxRecDepth 100000 in
theorem tr_89 : tOK (10, 65, 3, 0, 22, "StatueCoats$Night", "", [256, 257, 72, 0]) = true := by decide +kernel
set_option maxRecDepth 100000 in
theorem tr_90 : tOK (10, 74, 3, 0, 0, "StatueCoats$Chances", "", [295, 296, 73, 0]) = true := by decide +kernel
set_option maxRecDepth 100000 in
theorem tr_91 : tOK (10, 83, 4, 0, 36, "StatueCoats$Sheet", "", [8, 322, 74, 0]) = true := by decide +kernel
set_option maxRecDepth 100000 in
theorem tr_92 : tOK (10, 88, 0, 9, 126, "StatueCoats", "", [376, 378, 3, 64]) = true := by decide +kernel
set_option maxRecDepth 100000 in
theorem tr_93 : tOK (10, 92, 1, 7, 52, "StatueCoats$Text", "StatueCoats$Text", [380, 382, 385, 381, 65, 0]) = true := by decide +kernel
set_option maxRecDepth 100000 in
theorem tr_94 : tOK (10, 92, 1, 1, 52, "StatueCoats$Text", "StatueCoats$Text", [380, 382, 383, 381, 65, 0]) = true := by decide +kernel
set_option maxRecDepth 100000 in
theorem tr_95 : tOK (10, 92, 1, 5, 52, "StatueCoats$Text", "StatueCoats$Text", [380, 382, 384, 381, 65, 0]) = true := by decide +kernel
set_option maxRecDepth 100000 in
theorem tr_96 : tOK (10, 96, 1, 7, 54, "StatueCoats$Text", "StatueCoats$Text", [387, 389, 392, 388, 65, 0]) = true := by decide +kernel
set_option maxRecDepth 100000 in
theorem tr_97 : tOK (10, 96, 1, 1, 54, "StatueCoats$Text", "StatueCoats$Text", [387, 389, 390, 388, 65, 0]) = true := by decide +kernel
set_option maxRecDepth 100000 in
theorem tr_98 : tOK (10, 96, 1, 5, 54, "StatueCoats$Text", "StatueCoats$Text", [387, 389, 391, 388, 65, 0]) = true := by decide +kernel
set_option maxRecDepth 100000 in
theorem tr_99 : tOK (10, 100, 0, 8, 61, "StatueCoats$Wardrobe", "", [444, 445, 446, 69]) = true := by decide +kernel
set_option maxRecDepth 100000 in
theorem tr_100 : tOK (10, 107, 1, 7, 55, "StatueCoats$Text", "StatueCoats$Text", [452, 454, 457, 453, 65, 0]) = true := by decide +kernel
set_option maxRecDepth 100000 in
theorem tr_101 : tOK (10, 107, 1, 1, 55, "StatueCoats$Text", "StatueCoats$Text", [452, 454, 455, 453, 65, 0]) = true := by decide +kernel
set_option maxRecDepth 100000 in
theorem tr_102 : tOK (10, 107, 1, 5, 55, "StatueCoats$Text", "StatueCoats$Text", [452, 454, 456, 453, 65, 0]) = true := by decide +kernel
set_option maxRecDepth 100000 in
theorem tr_103 : tOK (10, 113, 1, 7, 53, "StatueCoats$Statues", "StatueCoats$Text", [477, 478, 480, 481, 65, 0]) = true := by decide +kernel
set_option maxRecDepth 100000 in
theorem tr_104 : tOK (10, 117, 0, 7, 47, "StatueCoats$Statues", "", [483, 484, 485, 66]) = true := by decide +kernel
set_option maxRecDepth 100000 in
theorem tr_105 : tOK (10, 121, 0, 7, 48, "StatueCoats$Statues", "", [493, 494, 495, 66]) = true := by decide +kernel
set_option maxRecDepth 100000 in
theorem tr_106 : tOK (10, 124, 0, 7, 49, "StatueCoats$Statues", "", [497, 498, 499, 66]) = true := by decide +kernel
set_option maxRecDepth 100000 in
theorem tr_107 : tOK (10, 127, 0, 7, 50, "StatueCoats$Statues", "", [501, 502, 503, 66]) = true := by decide +kernel
set_option maxRecDepth 100000 in
theorem tr_108 : tOK (10, 130, 1, 1, 53, "StatueCoats$Clothes", "StatueCoats$Text", [509, 510, 511, 481, 65, 0]) = true := by decide +kernel
set_option maxRecDepth 100000 in
theorem tr_109 : tOK (10, 131, 0, 1, 8, "StatueCoats$Clothes", "", [512, 513, 514, 67]) = true := by decide +kernel
set_option maxRecDepth 100000 in
theorem tr_110 : tOK (10, 134, 0, 1, 9, "StatueCoats$Clothes", "", [519, 520, 521, 67]) = true := by decide +kernel
set_option maxRecDepth 100000 in
theorem tr_111 : tOK (10, 137, 0, 1, 10, "StatueCoats$Clothes", "", [523, 524, 525, 67]) = true := by decide +kernel
set_option maxRecDepth 100000 in
theorem tr_112 : tOK (10, 138, 0, 1, 11, "StatueCoats$Clothes", "", [527, 528, 529, 67]) = true := by decide +kernel
set_option maxRecDepth 100000 in
theorem tr_113 : tOK (10, 141, 1, 5, 53, "StatueCoats$Seasons", "StatueCoats$Text", [535, 536, 537, 481, 65, 0]) = true := by decide +kernel
set_option maxRecDepth 100000 in
theorem tr_114 : tOK (10, 142, 0, 5, 35, "StatueCoats$Seasons", "", [538, 418, 419, 68]) = true := by decide +kernel
set_option maxRecDepth 100000 in
theorem tr_115 : tOK (10, 145, 0, 8, 62, "StatueCoats$Wardrobe", "", [543, 544, 545, 69]) = true := by decide +kernel
set_option maxRecDepth 100000 in
theorem tr_116 : tOK (10, 148, 0, 8, 63, "StatueCoats$Wardrobe", "", [547, 548, 549, 69]) = true := by decide +kernel
set_option maxRecDepth 100000 in
theorem tr_117 : tOK (10, 151, 0, 9, 128, "StatueCoats", "", [555, 557, 4, 64]) = true := by decide +kernel
set_option maxRecDepth 100000 in
theorem tr_118 : tOK (10, 154, 0, 8, 64, "StatueCoats$Wardrobe", "", [559, 560, 561, 69]) = true := by decide +kernel
set_option maxRecDepth 100000 in
theorem tr_119 : tOK (10, 157, 0, 8, 65, "StatueCoats$Wardrobe", "", [606, 607, 608, 69]) = true := by decide +kernel
set_option maxRecDepth 100000 in
theorem tr_120 : tOK (10, 161, 0, 8, 66, "StatueCoats$Wardrobe", "", [610, 611, 612, 69]) = true := by decide +kernel
set_option maxRecDepth 100000 in
theorem tr_121 : tOK (10, 164, 0, 8, 67, "StatueCoats$Wardrobe", "", [614, 615, 616, 69]) = true := by decide +kernel
set_option maxRecDepth 100000 in
theorem tr_122 : tOK (10, 167, 0, 8, 70, "StatueCoats$Wardrobe", "", [622, 623, 624, 69]) = true := by decide +kernel
set_option maxRecDepth 100000 in
theorem tr_123 : tOK (10, 170, 0, 8, 68, "StatueCoats$Wardrobe", "", [635, 636, 637, 69]) = true := by decide +kernel
set_option maxRecDepth 100000 in
theorem tr_124 : tOK (10, 173, 0, 8, 71, "StatueCoats$Wardrobe", "", [643, 644, 645, 69]) = true := by decide +kernel
set_option maxRecDepth 100000 in
theorem tr_125 : tOK (10, 176, 0, 8, 72, "StatueCoats$Wardrobe", "", [648, 649, 650, 69]) = true := by decide +kernel
set_option maxRecDepth 100000 in
theorem tr_126 : tOK (10, 179, 0, 8, 74, "StatueCoats$Wardrobe", "", [657, 658, 659, 69]) = true := by decide +kernel
set_option maxRecDepth 100000 in
theorem tr_127 : tOK (10, 183, 0, 8, 73, "StatueCoats$Wardrobe", "", [666, 662, 663, 69]) = true := by decide +kernel
set_option maxRecDepth 100000 in
theorem tr_128 : tOK (10, 186, 2, 0, 130, "StatueCoats", "", [667, 668, 64, 0]) = true := by decide +kernel
set_option maxRecDepth 100000 in
theorem tr_129 : tOK (10, 189, 0, 8, 75, "StatueCoats$Wardrobe", "", [674, 675, 676, 69]) = true := by decide +kernel
set_option maxRecDepth 100000 in
theorem tr_130 : tOK (10, 192, 0, 2, 15, "StatueCoats$Dressing", "", [682, 683, 684, 70]) = true := by decide +kernel
set_option maxRecDepth 100000 in
theorem tr_131 : tOK (10, 195, 0, 2, 13, "StatueCoats$Dressing", "", [696, 697, 698, 70]) = true := by decide +kernel
set_option maxRecDepth 100000 in
theorem tr_132 : tOK (10, 198, 0, 2, 14, "StatueCoats$Dressing", "", [700, 701, 702, 70]) = true := by decide +kernel
set_option maxRecDepth 100000 in
theorem tr_133 : tOK (10, 201, 0, 3, 19, "StatueCoats$Ladder", "", [708, 709, 710, 71]) = true := by decide +kernel
set_option maxRecDepth 100000 in
theorem tr_134 : tOK (10, 203, 0, 3, 20, "StatueCoats$Ladder", "", [724, 725, 726, 71]) = true := by decide +kernel
set_option maxRecDepth 100000 in
theorem tr_135 : tOK (10, 206, 0, 8, 76, "StatueCoats$Wardrobe", "", [732, 733, 734, 69]) = true := by decide +kernel
set_option maxRecDepth 100000 in
theorem tr_136 : tOK (10, 209, 0, 4, 23, "StatueCoats$Night", "", [750, 751, 752, 72]) = true := by decide +kernel
set_option maxRecDepth 100000 in
theorem tr_137 : tOK (10, 213, 0, 4, 24, "StatueCoats$Night", "", [754, 755, 756, 72]) = true := by decide +kernel
set_option maxRecDepth 100000 in
theorem tr_138 : tOK (10, 214, 0, 4, 25, "StatueCoats$Night", "", [758, 759, 760, 72]) = true := by decide +kernel
set_option maxRecDepth 100000 in
theorem tr_139 : tOK (10, 221, 0, 9, 127, "StatueCoats", "", [770, 772, 15, 64]) = true := by decide +kernel
set_option maxRecDepth 100000 in
theorem tr_140 : tOK (10, 225, 0, 6, 37, "StatueCoats$Sheet", "", [774, 775, 776, 74]) = true := by decide +kernel
set_option maxRecDepth 100000 in
theorem tr_141 : tOK (10, 228, 0, 9, 131, "StatueCoats", "", [778, 780, 16, 64]) = true := by decide +kernel
set_option maxRecDepth 100000 in
theorem tr_142 : tOK (10, 234, 0, 6, 43, "StatueCoats$Sheet", "", [782, 783, 784, 74]) = true := by decide +kernel
set_option maxRecDepth 100000 in
theorem tr_143 : tOK (10, 237, 0, 4, 26, "StatueCoats$Night", "", [794, 795, 796, 72]) = true := by decide +kernel
set_option maxRecDepth 100000 in
theorem tr_144 : tOK (10, 243, 0, 4, 27, "StatueCoats$Night", "", [808, 809, 810, 72]) = true := by decide +kernel
set_option maxRecDepth 100000 in
theorem tr_145 : tOK (10, 246, 0, 4, 28, "StatueCoats$Night", "", [816, 817, 818, 72]) = true := by decide +kernel
set_option maxRecDepth 100000 in
theorem tr_146 : tOK (10, 251, 0, 0, 1, "StatueCoats$Chances", "", [830, 831, 832, 73]) = true := by decide +kernel
set_option maxRecDepth 100000 in
theorem tr_147 : tOK (10, 261, 0, 8, 77, "StatueCoats$Wardrobe", "", [857, 858, 859, 69]) = true := by decide +kernel
set_option maxRecDepth 100000 in
theorem tr_148 : tOK (10, 265, 0, 8, 78, "StatueCoats$Wardrobe", "", [862, 863, 864, 69]) = true := by decide +kernel
set_option maxRecDepth 100000 in
theorem tr_149 : tOK (10, 268, 0, 8, 79, "StatueCoats$Wardrobe", "", [866, 867, 868, 69]) = true := by decide +kernel
set_option maxRecDepth 100000 in
theorem tr_150 : tOK (10, 271, 2, 0, 129, "StatueCoats", "", [874, 875, 64, 0]) = true := by decide +kernel
set_option maxRecDepth 100000 in
theorem tr_151 : tOK (10, 274, 0, 6, 38, "StatueCoats$Sheet", "", [877, 878, 879, 74]) = true := by decide +kernel
set_option maxRecDepth 100000 in
theorem tr_152 : tOK (10, 277, 0, 6, 39, "StatueCoats$Sheet", "", [887, 888, 889, 74]) = true := by decide +kernel
set_option maxRecDepth 100000 in
theorem tr_153 : tOK (10, 280, 2, 0, 132, "StatueCoats", "", [895, 896, 64, 0]) = true := by decide +kernel
set_option maxRecDepth 100000 in
theorem tr_154 : tOK (10, 284, 0, 6, 42, "StatueCoats$Sheet", "", [899, 900, 901, 74]) = true := by decide +kernel
set_option maxRecDepth 100000 in
theorem tr_155 : tOK (10, 294, 0, 6, 41, "StatueCoats$Sheet", "", [912, 913, 914, 74]) = true := by decide +kernel
set_option maxRecDepth 100000 in
theorem tr_156 : tOK (10, 302, 8, 0, 0, "java/lang/System", "", [916, 719, 718, 78]) = true := by decide +kernel
set_option maxRecDepth 100000 in
theorem tr_157 : tOK (10, 311, 11, 0, 0, "java/lang/Math", "", [921, 460, 76, 461]) = true := by decide +kernel
set_option maxRecDepth 100000 in
theorem tr_158 : tOK (10, 328, 0, 9, 121, "StatueCoats", "", [932, 923, 924, 64]) = true := by decide +kernel
set_option maxRecDepth 100000 in
theorem tr_159 : tOK (10, 331, 0, 9, 94, "StatueCoats", "", [933, 470, 471, 64]) = true := by decide +kernel
set_option maxRecDepth 100000 in
theorem tr_160 : tOK (10, 334, 0, 9, 123, "StatueCoats", "", [934, 936, 23, 64]) = true := by decide +kernel
set_option maxRecDepth 100000 in
theorem tr_161 : tOK (10, 338, 0, 9, 124, "StatueCoats", "", [941, 943, 24, 64]) = true := by decide +kernel
set_option maxRecDepth 100000 in
theorem tr_162 : tOK (10, 341, 0, 9, 125, "StatueCoats", "", [948, 950, 25, 64]) = true := by decide +kernel
set_option maxRecDepth 100000 in
theorem tr_163 : tOK (10, 345, 0, 9, 103, "StatueCoats", "", [958, 654, 655, 64]) = true := by decide +kernel
set_option maxRecDepth 100000 in
theorem tr_164 : tOK (10, 348, 0, 9, 106, "StatueCoats", "", [959, 705, 706, 64]) = true := by decide +kernel
set_option maxRecDepth 100000 in
theorem tr_165 : tOK (10, 352, 0, 9, 111, "StatueCoats", "", [960, 791, 792, 64]) = true := by decide +kernel
set_option maxRecDepth 100000 in
theorem tr_166 : tOK (10, 355, 0, 9, 114, "StatueCoats", "", [947, 854, 855, 64]) = true := by decide +kernel
set_option maxRecDepth 100000 in
theorem tr_167 : tOK (10, 358, 0, 9, 95, "StatueCoats", "", [938, 474, 475, 64]) = true := by decide +kernel
set_option maxRecDepth 100000 in
theorem tr_168 : tOK (10, 361, 0, 9, 104, "StatueCoats", "", [939, 671, 672, 64]) = true := by decide +kernel
set_option maxRecDepth 100000 in
theorem tr_169 : tOK (10, 364, 0, 9, 112, "StatueCoats", "", [940, 813, 814, 64]) = true := by decide +kernel
set_option maxRecDepth 100000 in
theorem tr_170 : tOK (10, 367, 0, 9, 96, "StatueCoats", "", [945, 506, 507, 64]) = true := by decide +kernel
set_option maxRecDepth 100000 in
theorem tr_171 : tOK (10, 370, 0, 9, 113, "StatueCoats", "", [946, 826, 827, 64]) = true := by decide +kernel
set_option maxRecDepth 100000 in
theorem tr_172 : tOK (10, 374, 0, 9, 101, "StatueCoats", "", [952, 632, 633, 64]) = true := by decide +kernel
set_option maxRecDepth 100000 in
theorem tr_173 : tOK (10, 377, 0, 9, 99, "StatueCoats", "", [953, 552, 553, 64]) = true := by decide +kernel
set_option maxRecDepth 100000 in
theorem tr_174 : tOK (10, 380, 0, 9, 100, "StatueCoats", "", [954, 619, 620, 64]) = true := by decide +kernel
set_option maxRecDepth 100000 in
theorem tr_175 : tOK (10, 383, 0, 9, 102, "StatueCoats", "", [955, 640, 641, 64]) = true := by decide +kernel
set_option maxRecDepth 100000 in
theorem tr_176 : tOK (10, 386, 0, 9, 105, "StatueCoats", "", [956, 679, 680, 64]) = true := by decide +kernel
set_option maxRecDepth 100000 in
theorem tr_177 : tOK (10, 389, 0, 9, 107, "StatueCoats", "", [957, 729, 730, 64]) = true := by decide +kernel
set_option maxRecDepth 100000 in
theorem tr_178 : tOK (10, 392, 0, 6, 40, "StatueCoats$Sheet", "", [898, 787, 788, 74]) = true := by decide +kernel
set_option maxRecDepth 100000 in
theorem tr_179 : tOK (11, 1, 9, 0, 0, "java/lang/Object", "", [966, 85, 0, 0]) = true := by decide +kernel
set_option maxRecDepth 100000 in
theorem tr_180 : tOK (11, 69, 2, 0, 134, "StatueCoatsModel", "", [1042, 1043, 75, 0]) = true := by decide +kernel
set_option maxRecDepth 100000 in
theorem tr_181 : tOK (11, 79, 2, 0, 143, "StatueCoatsModel", "", [1038, 1039, 75, 0]) = true := by decide +kernel
set_option maxRecDepth 100000 in
theorem tr_182 : tOK (11, 85, 0, 10, 142, "StatueCoatsModel", "", [1046, 1048, 26, 75]) = true := by decide +kernel
set_option maxRecDepth 100000 in
theorem tr_183 : tOK (11, 89, 0, 10, 146, "StatueCoatsModel", "", [1058, 1060, 27, 75]) = true := by decide +kernel
set_option maxRecDepth 100000 in
theorem tr_184 : tOK (11, 93, 2, 0, 147, "StatueCoatsModel", "", [1062, 1063, 75, 0]) = true := by decide +kernel
set_option maxRecDepth 100000 in
theorem tr_185 : tOK (11, 98, 2, 0, 151, "StatueCoatsModel", "", [1078, 1079, 75, 0]) = true := by decide +kernel
set_option maxRecDepth 100000 in
theorem tr_186 : tOK (11, 105, 2, 0, 155, "StatueCoatsModel", "", [1113, 1114, 75, 0]) = true := by decide +kernel
set_option maxRecDepth 100000 in
theorem tr_187 : tOK (11, 111, 2, 0, 156, "StatueCoatsModel", "", [1110, 1111, 75, 0]) = true := by decide +kernel
set_option maxRecDepth 100000 in
theorem tr_188 : tOK (11, 114, 2, 0, 157, "StatueCoatsModel", "", [1121, 1122, 75, 0]) = true := by decide +kernel
set_option maxRecDepth 100000 in
theorem tr_189 : tOK (11, 117, 0, 10, 158, "StatueCoatsModel", "", [1106, 1108, 31, 75]) = true := by decide +kernel
set_option maxRecDepth 100000 in
theorem tr_190 : tOK (11, 121, 0, 10, 159, "StatueCoatsModel", "", [1117, 1119, 32, 75]) = true := by decide +kernel
set_option maxRecDepth 100000 in
theorem tr_191 : tOK (11, 124, 0, 10, 161, "StatueCoatsModel", "", [1098, 1100, 29, 75]) = true := by decide +kernel
set_option maxRecDepth 100000 in
theorem tr_192 : tOK (11, 128, 0, 10, 160, "StatueCoatsModel", "", [1102, 1104, 30, 75]) = true := by decide +kernel
set_option maxRecDepth 100000 in
theorem tr_193 : tOK (11, 131, 0, 10, 162, "StatueCoatsModel", "", [1094, 1096, 28, 75]) = true := by decide +kernel
set_option maxRecDepth 100000 in
theorem tr_194 : tOK (11, 134, 0, 10, 163, "StatueCoatsModel", "", [1128, 1130, 33, 75]) = true := by decide +kernel
set_option maxRecDepth 100000 in
theorem tr_195 : tOK (11, 137, 0, 10, 165, "StatueCoatsModel", "", [1132, 1134, 34, 75]) = true := by decide +kernel
set_option maxRecDepth 100000 in
theorem tr_196 : tOK (11, 140, 0, 10, 166, "StatueCoatsModel", "", [1140, 1142, 35, 75]) = true := by decide +kernel
set_option maxRecDepth 100000 in
theorem tr_197 : tOK (11, 145, 2, 0, 136, "StatueCoatsModel", "", [1153, 1154, 75, 0]) = true := by decide +kernel
set_option maxRecDepth 100000 in
theorem tr_198 : tOK (11, 150, 2, 0, 173, "StatueCoatsModel", "", [1185, 1186, 75, 0]) = true := by decide +kernel
set_option maxRecDepth 100000 in
theorem tr_199 : tOK (11, 153, 0, 10, 174, "StatueCoatsModel", "", [1181, 1183, 41, 75]) = true := by decide +kernel
set_option maxRecDepth 100000 in
theorem tr_200 : tOK (11, 157, 2, 0, 137, "StatueCoatsModel", "", [1196, 1197, 75, 0]) = true := by decide +kernel
set_option maxRecDepth 100000 in
theorem tr_201 : tOK (11, 161, 0, 10, 176, "StatueCoatsModel", "", [1199, 1201, 44, 75]) = true := by decide +kernel
set_option maxRecDepth 100000 in
theorem tr_202 : tOK (11, 164, 0, 10, 177, "StatueCoatsModel", "", [1192, 1194, 43, 75]) = true := by decide +kernel
set_option maxRecDepth 100000 in
theorem tr_203 : tOK (11, 167, 0, 10, 172, "StatueCoatsModel", "", [1173, 1175, 39, 75]) = true := by decide +kernel
set_option maxRecDepth 100000 in
theorem tr_204 : tOK (11, 170, 0, 10, 175, "StatueCoatsModel", "", [1177, 1179, 40, 75]) = true := by decide +kernel
set_option maxRecDepth 100000 in
theorem tr_205 : tOK (11, 174, 0, 10, 178, "StatueCoatsModel", "", [1188, 1190, 42, 75]) = true := by decide +kernel
set_option maxRecDepth 100000 in
theorem tr_206 : tOK (11, 177, 0, 10, 179, "StatueCoatsModel", "", [1169, 1171, 38, 75]) = true := by decide +kernel
set_option maxRecDepth 100000 in
theorem tr_207 : tOK (11, 180, 0, 10, 167, "StatueCoatsModel", "", [1161, 1163, 36, 75]) = true := by decide +kernel
set_option maxRecDepth 100000 in
theorem tr_208 : tOK (11, 183, 0, 10, 180, "StatueCoatsModel", "", [1165, 1167, 37, 75]) = true := by decide +kernel
set_option maxRecDepth 100000 in
theorem tr_209 : tOK (11, 186, 0, 10, 182, "StatueCoatsModel", "", [1207, 1209, 45, 75]) = true := by decide +kernel
set_option maxRecDepth 100000 in
theorem tr_210 : tOK (11, 189, 0, 10, 184, "StatueCoatsModel", "", [1215, 1217, 46, 75]) = true := by decide +kernel
set_option maxRecDepth 100000 in
theorem tr_211 : tOK (11, 192, 0, 10, 186, "StatueCoatsModel", "", [1227, 1229, 48, 75]) = true := by decide +kernel
set_option maxRecDepth 100000 in
theorem tr_212 : tOK (11, 195, 0, 10, 187, "StatueCoatsModel", "", [1223, 1225, 47, 75]) = true := by decide +kernel
set_option maxRecDepth 100000 in
theorem tr_213 : tOK (11, 198, 0, 10, 189, "StatueCoatsModel", "", [1235, 1237, 49, 75]) = true := by decide +kernel
set_option maxRecDepth 100000 in
theorem tr_214 : tOK (11, 201, 0, 10, 191, "StatueCoatsModel", "", [1243, 1245, 50, 75]) = true := by decide +kernel
set_option maxRecDepth 100000 in
theorem tr_215 : tOK (11, 208, 0, 10, 193, "StatueCoatsModel", "", [1253, 1255, 51, 75]) = true := by decide +kernel
set_option maxRecDepth 100000 in
theorem tr_216 : tOK (11, 211, 2, 0, 139, "StatueCoatsModel", "", [1267, 1268, 75, 0]) = true := by decide +kernel
set_option maxRecDepth 100000 in
theorem tr_217 : tOK (11, 214, 0, 10, 195, "StatueCoatsModel", "", [1270, 1272, 53, 75]) = true := by decide +kernel
set_option maxRecDepth 100000 in
theorem tr_218 : tOK (11, 217, 2, 0, 140, "StatueCoatsModel", "", [1274, 1275, 75, 0]) = true := by decide +kernel
set_option maxRecDepth 100000 in
theorem tr_219 : tOK (11, 224, 0, 10, 196, "StatueCoatsModel", "", [1263, 1265, 52, 75]) = true := by decide +kernel
set_option maxRecDepth 100000 in
theorem tr_220 : tOK (11, 227, 2, 0, 138, "StatueCoatsModel", "", [1287, 1288, 75, 0]) = true := by decide +kernel
set_option maxRecDepth 100000 in
theorem tr_221 : tOK (11, 234, 0, 10, 198, "StatueCoatsModel", "", [1283, 1285, 54, 75]) = true := by decide +kernel
set_option maxRecDepth 100000 in
theorem tr_222 : tOK (11, 242, 0, 10, 200, "StatueCoatsModel", "", [1303, 1291, 1292, 75]) = true := by decide +kernel
set_option maxRecDepth 100000 in
theorem tr_223 : tOK (11, 245, 2, 0, 204, "StatueCoatsModel", "", [1320, 1321, 75, 0]) = true := by decide +kernel
set_option maxRecDepth 100000 in
theorem tr_224 : tOK (11, 248, 0, 10, 203, "StatueCoatsModel", "", [1312, 1314, 56, 75]) = true := by decide +kernel
set_option maxRecDepth 100000 in
theorem tr_225 : tOK (11, 251, 0, 10, 205, "StatueCoatsModel", "", [1316, 1318, 57, 75]) = true := by decide +kernel
set_option maxRecDepth 100000 in
theorem tr_226 : tOK (11, 254, 0, 10, 206, "StatueCoatsModel", "", [1308, 1310, 55, 75]) = true := by decide +kernel
set_option maxRecDepth 100000 in
theorem tr_227 : tOK (11, 257, 0, 10, 208, "StatueCoatsModel", "", [1331, 1333, 59, 75]) = true := by decide +kernel
set_option maxRecDepth 100000 in
theorem tr_228 : tOK (11, 260, 0, 10, 209, "StatueCoatsModel", "", [1327, 1329, 58, 75]) = true := by decide +kernel
set_option maxRecDepth 100000 in
theorem tr_229 : tOK (11, 265, 2, 0, 141, "StatueCoatsModel", "", [1344, 1345, 75, 0]) = true := by decide +kernel
set_option maxRecDepth 100000 in
theorem tr_230 : tOK (11, 269, 0, 10, 211, "StatueCoatsModel", "", [1340, 1342, 60, 75]) = true := by decide +kernel
set_option maxRecDepth 100000 in
theorem tr_231 : tOK (11, 273, 2, 0, 135, "StatueCoatsModel", "", [1347, 1348, 75, 0]) = true := by decide +kernel
set_option maxRecDepth 100000 in
theorem tr_232 : tOK (11, 278, 0, 10, 213, "StatueCoatsModel", "", [1355, 1357, 61, 75]) = true := by decide +kernel
set_option maxRecDepth 100000 in
theorem tr_233 : tOK (11, 285, 0, 10, 216, "StatueCoatsModel", "", [1374, 1365, 1366, 75]) = true := by decide +kernel
set_option maxRecDepth 100000 in
theorem tr_234 : tOK (11, 288, 0, 10, 212, "StatueCoatsModel", "", [1375, 1336, 1337, 75]) = true := by decide +kernel
set_option maxRecDepth 100000 in
theorem tr_235 : tOK (11, 291, 0, 10, 217, "StatueCoatsModel", "", [1376, 1378, 62, 75]) = true := by decide +kernel
set_option maxRecDepth 100000 in
theorem tr_236 : tOK (11, 295, 0, 10, 197, "StatueCoatsModel", "", [1380, 1258, 1259, 75]) = true := by decide +kernel
set_option maxRecDepth 100000 in
theorem tr_237 : tOK (14, 9, 3, 0, 90, "StatueCoats", "", [81, 82, 64, 0]) = true := by decide +kernel
set_option maxRecDepth 100000 in
theorem tr_238 : tOK (14, 12, 3, 0, 133, "StatueCoatsModel", "", [963, 964, 75, 0]) = true := by decide +kernel
set_option maxRecDepth 100000 in
theorem tr_239 : tOK (14, 13, 0, 9, 91, "StatueCoats", "", [372, 373, 374, 64]) = true := by decide +kernel
set_option maxRecDepth 100000 in
theorem tr_240 : tOK (14, 17, 0, 10, 152, "StatueCoatsModel", "", [1074, 1075, 1076, 75]) = true := by decide +kernel
set_option maxRecDepth 100000 in
theorem tr_241 : tOK (14, 18, 0, 9, 92, "StatueCoats", "", [448, 449, 450, 64]) = true := by decide +kernel
set_option maxRecDepth 100000 in
theorem tr_242 : tOK (14, 22, 0, 10, 153, "StatueCoatsModel", "", [1082, 1083, 1084, 75]) = true := by decide +kernel
set_option maxRecDepth 100000 in
theorem tr_243 : tOK (14, 23, 0, 9, 93, "StatueCoats", "", [465, 466, 467, 64]) = true := by decide +kernel
set_option maxRecDepth 100000 in
theorem tr_244 : tOK (14, 26, 0, 10, 154, "StatueCoatsModel", "", [1086, 1087, 1088, 75]) = true := by decide +kernel
set_option maxRecDepth 100000 in
theorem tr_245 : tOK (14, 27, 0, 9, 94, "StatueCoats", "", [469, 470, 471, 64]) = true := by decide +kernel
set_option maxRecDepth 100000 in
theorem tr_246 : tOK (14, 30, 0, 10, 164, "StatueCoatsModel", "", [1090, 1091, 1092, 75]) = true := by decide +kernel
set_option maxRecDepth 100000 in
theorem tr_247 : tOK (14, 31, 0, 9, 95, "StatueCoats", "", [473, 474, 475, 64]) = true := by decide +kernel
set_option maxRecDepth 100000 in
theorem tr_248 : tOK (14, 34, 0, 10, 168, "StatueCoatsModel", "", [1124, 1125, 1126, 75]) = true := by decide +kernel
set_option maxRecDepth 100000 in
theorem tr_249 : tOK (14, 35, 0, 9, 96, "StatueCoats", "", [505, 506, 507, 64]) = true := by decide +kernel
set_option maxRecDepth 100000 in
theorem tr_250 : tOK (14, 38, 0, 10, 169, "StatueCoatsModel", "", [1136, 1137, 1138, 75]) = true := by decide +kernel
set_option maxRecDepth 100000 in
theorem tr_251 : tOK (14, 39, 0, 9, 97, "StatueCoats", "", [531, 532, 533, 64]) = true := by decide +kernel
set_option maxRecDepth 100000 in
theorem tr_252 : tOK (14, 42, 0, 10, 170, "StatueCoatsModel", "", [1144, 1145, 1146, 75]) = true := by decide +kernel
set_option maxRecDepth 100000 in
theorem tr_253 : tOK (14, 43, 0, 9, 98, "StatueCoats", "", [539, 540, 541, 64]) = true := by decide +kernel
set_option maxRecDepth 100000 in
theorem tr_254 : tOK (14, 46, 0, 10, 171, "StatueCoatsModel", "", [1149, 1150, 1151, 75]) = true := by decide +kernel
set_option maxRecDepth 100000 in
theorem tr_255 : tOK (14, 47, 0, 9, 99, "StatueCoats", "", [551, 552, 553, 64]) = true := by decide +kernel
set_option maxRecDepth 100000 in
theorem tr_256 : tOK (14, 51, 0, 10, 181, "StatueCoatsModel", "", [1157, 1158, 1159, 75]) = true := by decide +kernel
set_option maxRecDepth 100000 in
theorem tr_257 : tOK (14, 52, 0, 9, 100, "StatueCoats", "", [618, 619, 620, 64]) = true := by decide +kernel
set_option maxRecDepth 100000 in
theorem tr_258 : tOK (14, 55, 0, 10, 183, "StatueCoatsModel", "", [1203, 1204, 1205, 75]) = true := by decide +kernel
set_option maxRecDepth 100000 in
theorem tr_259 : tOK (14, 56, 0, 9, 101, "StatueCoats", "", [631, 632, 633, 64]) = true := by decide +kernel
set_option maxRecDepth 100000 in
theorem tr_260 : tOK (14, 59, 0, 10, 185, "StatueCoatsModel", "", [1211, 1212, 1213, 75]) = true := by decide +kernel
set_option maxRecDepth 100000 in
theorem tr_261 : tOK (14, 60, 0, 9, 102, "StatueCoats", "", [639, 640, 641, 64]) = true := by decide +kernel
set_option maxRecDepth 100000 in
theorem tr_262 : tOK (14, 63, 0, 10, 188, "StatueCoatsModel", "", [1219, 1220, 1221, 75]) = true := by decide +kernel
set_option maxRecDepth 100000 in
theorem tr_263 : tOK (14, 64, 0, 9, 103, "StatueCoats", "", [653, 654, 655, 64]) = true := by decide +kernel
set_option maxRecDepth 100000 in
theorem tr_264 : tOK (14, 67, 0, 10, 190, "StatueCoatsModel", "", [1231, 1232, 1233, 75]) = true := by decide +kernel
set_option maxRecDepth 100000 in
theorem tr_265 : tOK (14, 68, 0, 9, 104, "StatueCoats", "", [670, 671, 672, 64]) = true := by decide +kernel
set_option maxRecDepth 100000 in
theorem tr_266 : tOK (14, 71, 0, 10, 192, "StatueCoatsModel", "", [1239, 1240, 1241, 75]) = true := by decide +kernel
set_option maxRecDepth 100000 in
theorem tr_267 : tOK (14, 72, 0, 9, 105, "StatueCoats", "", [678, 679, 680, 64]) = true := by decide +kernel
set_option maxRecDepth 100000 in
theorem tr_268 : tOK (14, 75, 0, 10, 194, "StatueCoatsModel", "", [1247, 1248, 1249, 75]) = true := by decide +kernel
set_option maxRecDepth 100000 in
theorem tr_269 : tOK (14, 76, 0, 9, 106, "StatueCoats", "", [704, 705, 706, 64]) = true := by decide +kernel
set_option maxRecDepth 100000 in
theorem tr_270 : tOK (14, 79, 0, 10, 197, "StatueCoatsModel", "", [1257, 1258, 1259, 75]) = true := by decide +kernel
set_option maxRecDepth 100000 in
theorem tr_271 : tOK (14, 80, 0, 9, 107, "StatueCoats", "", [728, 729, 730, 64]) = true := by decide +kernel
set_option maxRecDepth 100000 in
theorem tr_272 : tOK (14, 83, 0, 10, 199, "StatueCoatsModel", "", [1277, 1278, 1279, 75]) = true := by decide +kernel
set_option maxRecDepth 100000 in
theorem tr_273 : tOK (14, 84, 0, 9, 108, "StatueCoats", "", [746, 747, 748, 64]) = true := by decide +kernel
set_option maxRecDepth 100000 in
theorem tr_274 : tOK (14, 87, 0, 10, 200, "StatueCoatsModel", "", [1290, 1291, 1292, 75]) = true := by decide +kernel
set_option maxRecDepth 100000 in
theorem tr_275 : tOK (14, 88, 0, 9, 109, "StatueCoats", "", [762, 763, 764, 64]) = true := by decide +kernel
set_option maxRecDepth 100000 in
theorem tr_276 : tOK (14, 92, 0, 10, 201, "StatueCoatsModel", "", [1295, 1296, 1297, 75]) = true := by decide +kernel
set_option maxRecDepth 100000 in
theorem tr_277 : tOK (14, 93, 0, 9, 110, "StatueCoats", "", [766, 767, 768, 64]) = true := by decide +kernel
set_option maxRecDepth 100000 in
theorem tr_278 : tOK (14, 96, 0, 10, 202, "StatueCoatsModel", "", [1299, 1300, 1301, 75]) = true := by decide +kernel
set_option maxRecDepth 100000 in
theorem tr_279 : tOK (14, 97, 0, 9, 111, "StatueCoats", "", [790, 791, 792, 64]) = true := by decide +kernel
set_option maxRecDepth 100000 in
theorem tr_280 : tOK (14, 100, 0, 10, 207, "StatueCoatsModel", "", [1304, 1305, 1306, 75]) = true := by decide +kernel
set_option maxRecDepth 100000 in
theorem tr_281 : tOK (14, 101, 0, 9, 112, "StatueCoats", "", [812, 813, 814, 64]) = true := by decide +kernel
set_option maxRecDepth 100000 in
theorem tr_282 : tOK (14, 104, 0, 10, 210, "StatueCoatsModel", "", [1323, 1324, 1325, 75]) = true := by decide +kernel
set_option maxRecDepth 100000 in
theorem tr_283 : tOK (14, 105, 0, 9, 113, "StatueCoats", "", [825, 826, 827, 64]) = true := by decide +kernel
set_option maxRecDepth 100000 in
theorem tr_284 : tOK (14, 109, 0, 10, 212, "StatueCoatsModel", "", [1335, 1336, 1337, 75]) = true := by decide +kernel
set_option maxRecDepth 100000 in
theorem tr_285 : tOK (14, 110, 0, 9, 114, "StatueCoats", "", [853, 854, 855, 64]) = true := by decide +kernel
set_option maxRecDepth 100000 in
theorem tr_286 : tOK (14, 113, 0, 10, 214, "StatueCoatsModel", "", [1351, 1352, 1353, 75]) = true := by decide +kernel
set_option maxRecDepth 100000 in
theorem tr_287 : tOK (14, 114, 0, 9, 115, "StatueCoats", "", [870, 871, 872, 64]) = true := by decide +kernel
set_option maxRecDepth 100000 in
theorem tr_288 : tOK (14, 117, 0, 10, 144, "StatueCoatsModel", "", [1034, 1035, 1036, 75]) = true := by decide +kernel
set_option maxRecDepth 100000 in
theorem tr_289 : tOK (14, 118, 0, 9, 116, "StatueCoats", "", [883, 884, 885, 64]) = true := by decide +kernel
set_option maxRecDepth 100000 in
theorem tr_290 : tOK (14, 121, 0, 10, 145, "StatueCoatsModel", "", [1050, 1051, 1052, 75]) = true := by decide +kernel
set_option maxRecDepth 100000 in
theorem tr_291 : tOK (14, 122, 0, 9, 117, "StatueCoats", "", [891, 892, 893, 64]) = true := by decide +kernel
set_option maxRecDepth 100000 in
theorem tr_292 : tOK (14, 126, 0, 10, 148, "StatueCoatsModel", "", [1054, 1055, 1056, 75]) = true := by decide +kernel
set_option maxRecDepth 100000 in
theorem tr_293 : tOK (14, 127, 0, 9, 118, "StatueCoats", "", [903, 904, 905, 64]) = true := by decide +kernel
set_option maxRecDepth 100000 in
theorem tr_294 : tOK (14, 130, 0, 10, 149, "StatueCoatsModel", "", [1065, 1066, 1067, 75]) = true := by decide +kernel
set_option maxRecDepth 100000 in
theorem tr_295 : tOK (14, 131, 0, 9, 119, "StatueCoats", "", [908, 909, 910, 64]) = true := by decide +kernel
set_option maxRecDepth 100000 in
theorem tr_296 : tOK (14, 135, 0, 10, 150, "StatueCoatsModel", "", [1070, 1071, 1072, 75]) = true := by decide +kernel
set_option maxRecDepth 100000 in
theorem tr_297 : tOK (14, 136, 0, 9, 120, "StatueCoats", "", [917, 918, 919, 64]) = true := by decide +kernel
set_option maxRecDepth 100000 in
theorem tr_298 : tOK (14, 139, 0, 10, 215, "StatueCoatsModel", "", [1360, 1361, 1362, 75]) = true := by decide +kernel
set_option maxRecDepth 100000 in
theorem tr_299 : tOK (14, 140, 0, 9, 121, "StatueCoats", "", [922, 923, 924, 64]) = true := by decide +kernel
set_option maxRecDepth 100000 in
theorem tr_300 : tOK (14, 143, 0, 10, 216, "StatueCoatsModel", "", [1364, 1365, 1366, 75]) = true := by decide +kernel
set_option maxRecDepth 100000 in
theorem tr_301 : tOK (14, 144, 0, 9, 122, "StatueCoats", "", [926, 927, 928, 64]) = true := by decide +kernel
set_option maxRecDepth 100000 in
theorem tr_302 : tOK (14, 148, 0, 10, 218, "StatueCoatsModel", "", [1368, 1369, 1370, 75]) = true := by decide +kernel
theorem mTr0_ok : ∀ r ∈ mTr0, tOK r = true := List.forall_mem_cons.mpr ⟨tr_0, List.forall_mem_cons.mpr ⟨tr_1, List.forall_mem_cons.mpr ⟨tr_2, List.forall_mem_cons.mpr ⟨tr_3, List.forall_mem_cons.mpr ⟨tr_4, List.forall_mem_cons.mpr ⟨tr_5, List.forall_mem_cons.mpr ⟨tr_6, List.forall_mem_cons.mpr ⟨tr_7, List.forall_mem_cons.mpr ⟨tr_8, List.forall_mem_cons.mpr ⟨tr_9, List.forall_mem_cons.mpr ⟨tr_10, List.forall_mem_cons.mpr ⟨tr_11, List.forall_mem_cons.mpr ⟨tr_12, List.forall_mem_cons.mpr ⟨tr_13, List.forall_mem_cons.mpr ⟨tr_14, List.forall_mem_cons.mpr ⟨tr_15, List.forall_mem_cons.mpr ⟨tr_16, List.forall_mem_cons.mpr ⟨tr_17, List.forall_mem_cons.mpr ⟨tr_18, List.forall_mem_cons.mpr ⟨tr_19, List.forall_mem_cons.mpr ⟨tr_20, List.forall_mem_cons.mpr ⟨tr_21, List.forall_mem_cons.mpr ⟨tr_22, List.forall_mem_cons.mpr ⟨tr_23, List.forall_mem_cons.mpr ⟨tr_24, List.forall_mem_cons.mpr ⟨tr_25, List.forall_mem_cons.mpr ⟨tr_26, List.forall_mem_cons.mpr ⟨tr_27, List.forall_mem_cons.mpr ⟨tr_28, List.forall_mem_cons.mpr ⟨tr_29, List.forall_mem_cons.mpr ⟨tr_30, List.forall_mem_cons.mpr ⟨tr_31, fun _ h => absurd h List.not_mem_nil⟩⟩⟩⟩⟩⟩⟩⟩⟩⟩⟩⟩⟩⟩⟩⟩⟩⟩⟩⟩⟩⟩⟩⟩⟩⟩⟩⟩⟩⟩⟩⟩
theorem mTr1_ok : ∀ r ∈ mTr1, tOK r = true := List.forall_mem_cons.mpr ⟨tr_32, List.forall_mem_cons.mpr ⟨tr_33, List.forall_mem_cons.mpr ⟨tr_34, List.forall_mem_cons.mpr ⟨tr_35, List.forall_mem_cons.mpr ⟨tr_36, List.forall_mem_cons.mpr ⟨tr_37, List.forall_mem_cons.mpr ⟨tr_38, List.forall_mem_cons.mpr ⟨tr_39, List.forall_mem_cons.mpr ⟨tr_40, List.forall_mem_cons.mpr ⟨tr_41, List.forall_mem_cons.mpr ⟨tr_42, List.forall_mem_cons.mpr ⟨tr_43, List.forall_mem_cons.mpr ⟨tr_44, List.forall_mem_cons.mpr ⟨tr_45, List.forall_mem_cons.mpr ⟨tr_46, List.forall_mem_cons.mpr ⟨tr_47, List.forall_mem_cons.mpr ⟨tr_48, List.forall_mem_cons.mpr ⟨tr_49, List.forall_mem_cons.mpr ⟨tr_50, List.forall_mem_cons.mpr ⟨tr_51, List.forall_mem_cons.mpr ⟨tr_52, List.forall_mem_cons.mpr ⟨tr_53, List.forall_mem_cons.mpr ⟨tr_54, List.forall_mem_cons.mpr ⟨tr_55, List.forall_mem_cons.mpr ⟨tr_56, List.forall_mem_cons.mpr ⟨tr_57, List.forall_mem_cons.mpr ⟨tr_58, List.forall_mem_cons.mpr ⟨tr_59, List.forall_mem_cons.mpr ⟨tr_60, List.forall_mem_cons.mpr ⟨tr_61, List.forall_mem_cons.mpr ⟨tr_62, List.forall_mem_cons.mpr ⟨tr_63, fun _ h => absurd h List.not_mem_nil⟩⟩⟩⟩⟩⟩⟩⟩⟩⟩⟩⟩⟩⟩⟩⟩⟩⟩⟩⟩⟩⟩⟩⟩⟩⟩⟩⟩⟩⟩⟩⟩
theorem mTr2_ok : ∀ r ∈ mTr2, tOK r = true := List.forall_mem_cons.mpr ⟨tr_64, List.forall_mem_cons.mpr ⟨tr_65, List.forall_mem_cons.mpr ⟨tr_66, List.forall_mem_cons.mpr ⟨tr_67, List.forall_mem_cons.mpr ⟨tr_68, List.forall_mem_cons.mpr ⟨tr_69, List.forall_mem_cons.mpr ⟨tr_70, List.forall_mem_cons.mpr ⟨tr_71, List.forall_mem_cons.mpr ⟨tr_72, List.forall_mem_cons.mpr ⟨tr_73, List.forall_mem_cons.mpr ⟨tr_74, List.forall_mem_cons.mpr ⟨tr_75, List.forall_mem_cons.mpr ⟨tr_76, List.forall_mem_cons.mpr ⟨tr_77, List.forall_mem_cons.mpr ⟨tr_78, List.forall_mem_cons.mpr ⟨tr_79, List.forall_mem_cons.mpr ⟨tr_80, List.forall_mem_cons.mpr ⟨tr_81, List.forall_mem_cons.mpr ⟨tr_82, List.forall_mem_cons.mpr ⟨tr_83, List.forall_mem_cons.mpr ⟨tr_84, List.forall_mem_cons.mpr ⟨tr_85, List.forall_mem_cons.mpr ⟨tr_86, List.forall_mem_cons.mpr ⟨tr_87, List.forall_mem_cons.mpr ⟨tr_88, List.forall_mem_cons.mpr ⟨tr_89, List.forall_mem_cons.mpr ⟨tr_90, List.forall_mem_cons.mpr ⟨tr_91, List.forall_mem_cons.mpr ⟨tr_92, List.forall_mem_cons.mpr ⟨tr_93, List.forall_mem_cons.mpr ⟨tr_94, List.forall_mem_cons.mpr ⟨tr_95, fun _ h => absurd h List.not_mem_nil⟩⟩⟩⟩⟩⟩⟩⟩⟩⟩⟩⟩⟩⟩⟩⟩⟩⟩⟩⟩⟩⟩⟩⟩⟩⟩⟩⟩⟩⟩⟩⟩
theorem mTr3_ok : ∀ r ∈ mTr3, tOK r = true := List.forall_mem_cons.mpr ⟨tr_96, List.forall_mem_cons.mpr ⟨tr_97, List.forall_mem_cons.mpr ⟨tr_98, List.forall_mem_cons.mpr ⟨tr_99, List.forall_mem_cons.mpr ⟨tr_100, List.forall_mem_cons.mpr ⟨tr_101, List.forall_mem_cons.mpr ⟨tr_102, List.forall_mem_cons.mpr ⟨tr_103, List.forall_mem_cons.mpr ⟨tr_104, List.forall_mem_cons.mpr ⟨tr_105, List.forall_mem_cons.mpr ⟨tr_106, List.forall_mem_cons.mpr ⟨tr_107, List.forall_mem_cons.mpr ⟨tr_108, List.forall_mem_cons.mpr ⟨tr_109, List.forall_mem_cons.mpr ⟨tr_110, List.forall_mem_cons.mpr ⟨tr_111, List.forall_mem_cons.mpr ⟨tr_112, List.forall_mem_cons.mpr ⟨tr_113, List.forall_mem_cons.mpr ⟨tr_114, List.forall_mem_cons.mpr ⟨tr_115, List.forall_mem_cons.mpr ⟨tr_116, List.forall_mem_cons.mpr ⟨tr_117, List.forall_mem_cons.mpr ⟨tr_118, List.forall_mem_cons.mpr ⟨tr_119, List.forall_mem_cons.mpr ⟨tr_120, List.forall_mem_cons.mpr ⟨tr_121, List.forall_mem_cons.mpr ⟨tr_122, List.forall_mem_cons.mpr ⟨tr_123, List.forall_mem_cons.mpr ⟨tr_124, List.forall_mem_cons.mpr ⟨tr_125, List.forall_mem_cons.mpr ⟨tr_126, List.forall_mem_cons.mpr ⟨tr_127, fun _ h => absurd h List.not_mem_nil⟩⟩⟩⟩⟩⟩⟩⟩⟩⟩⟩⟩⟩⟩⟩⟩⟩⟩⟩⟩⟩⟩⟩⟩⟩⟩⟩⟩⟩⟩⟩⟩
theorem mTr4_ok : ∀ r ∈ mTr4, tOK r = true := List.forall_mem_cons.mpr ⟨tr_128, List.forall_mem_cons.mpr ⟨tr_129, List.forall_mem_cons.mpr ⟨tr_130, List.forall_mem_cons.mpr ⟨tr_131, List.forall_mem_cons.mpr ⟨tr_132, List.forall_mem_cons.mpr ⟨tr_133, List.forall_mem_cons.mpr ⟨tr_134, List.forall_mem_cons.mpr ⟨tr_135, List.forall_mem_cons.mpr ⟨tr_136, List.forall_mem_cons.mpr ⟨tr_137, List.forall_mem_cons.mpr ⟨tr_138, List.forall_mem_cons.mpr ⟨tr_139, List.forall_mem_cons.mpr ⟨tr_140, List.forall_mem_cons.mpr ⟨tr_141, List.forall_mem_cons.mpr ⟨tr_142, List.forall_mem_cons.mpr ⟨tr_143, List.forall_mem_cons.mpr ⟨tr_144, List.forall_mem_cons.mpr ⟨tr_145, List.forall_mem_cons.mpr ⟨tr_146, List.forall_mem_cons.mpr ⟨tr_147, List.forall_mem_cons.mpr ⟨tr_148, List.forall_mem_cons.mpr ⟨tr_149, List.forall_mem_cons.mpr ⟨tr_150, List.forall_mem_cons.mpr ⟨tr_151, List.forall_mem_cons.mpr ⟨tr_152, List.forall_mem_cons.mpr ⟨tr_153, List.forall_mem_cons.mpr ⟨tr_154, List.forall_mem_cons.mpr ⟨tr_155, List.forall_mem_cons.mpr ⟨tr_156, List.forall_mem_cons.mpr ⟨tr_157, List.forall_mem_cons.mpr ⟨tr_158, List.forall_mem_cons.mpr ⟨tr_159, fun _ h => absurd h List.not_mem_nil⟩⟩⟩⟩⟩⟩⟩⟩⟩⟩⟩⟩⟩⟩⟩⟩⟩⟩⟩⟩⟩⟩⟩⟩⟩⟩⟩⟩⟩⟩⟩⟩
theorem mTr5_ok : ∀ r ∈ mTr5, tOK r = true := List.forall_mem_cons.mpr ⟨tr_160, List.forall_mem_cons.mpr ⟨tr_161, List.forall_mem_cons.mpr ⟨tr_162, List.forall_mem_cons.mpr ⟨tr_163, List.forall_mem_cons.mpr ⟨tr_164, List.forall_mem_cons.mpr ⟨tr_165, List.forall_mem_cons.mpr ⟨tr_166, List.forall_mem_cons.mpr ⟨tr_167, List.forall_mem_cons.mpr ⟨tr_168, List.forall_mem_cons.mpr ⟨tr_169, List.forall_mem_cons.mpr ⟨tr_170, List.forall_mem_cons.mpr ⟨tr_171, List.forall_mem_cons.mpr ⟨tr_172, List.forall_mem_cons.mpr ⟨tr_173, List.forall_mem_cons.mpr ⟨tr_174, List.forall_mem_cons.mpr ⟨tr_175, List.forall_mem_cons.mpr ⟨tr_176, List.forall_mem_cons.mpr ⟨tr_177, List.forall_mem_cons.mpr ⟨tr_178, List.forall_mem_cons.mpr ⟨tr_179, List.forall_mem_cons.mpr ⟨tr_180, List.forall_mem_cons.mpr ⟨tr_181, List.forall_mem_cons.mpr ⟨tr_182, List.forall_mem_cons.mpr ⟨tr_183, List.forall_mem_cons.mpr ⟨tr_184, List.forall_mem_cons.mpr ⟨tr_185, List.forall_mem_cons.mpr ⟨tr_186, List.forall_mem_cons.mpr ⟨tr_187, List.forall_mem_cons.mpr ⟨tr_188, List.forall_mem_cons.mpr ⟨tr_189, List.forall_mem_cons.mpr ⟨tr_190, List.forall_mem_cons.mpr ⟨tr_191, fun _ h => absurd h List.not_mem_nil⟩⟩⟩⟩⟩⟩⟩⟩⟩⟩⟩⟩⟩⟩⟩⟩⟩⟩⟩⟩⟩⟩⟩⟩⟩⟩⟩⟩⟩⟩⟩⟩
theorem mTr6_ok : ∀ r ∈ mTr6, tOK r = true := List.forall_mem_cons.mpr ⟨tr_192, List.forall_mem_cons.mpr ⟨tr_193, List.forall_mem_cons.mpr ⟨tr_194, List.forall_mem_cons.mpr ⟨tr_195, List.forall_mem_cons.mpr ⟨tr_196, List.forall_mem_cons.mpr ⟨tr_197, List.forall_mem_cons.mpr ⟨tr_198, List.forall_mem_cons.mpr ⟨tr_199, List.forall_mem_cons.mpr ⟨tr_200, List.forall_mem_cons.mpr ⟨tr_201, List.forall_mem_cons.mpr ⟨tr_202, List.forall_mem_cons.mpr ⟨tr_203, List.forall_mem_cons.mpr ⟨tr_204, List.forall_mem_cons.mpr ⟨tr_205, List.forall_mem_cons.mpr ⟨tr_206, List.forall_mem_cons.mpr ⟨tr_207, List.forall_mem_cons.mpr ⟨tr_208, List.forall_mem_cons.mpr ⟨tr_209, List.forall_mem_cons.mpr ⟨tr_210, List.forall_mem_cons.mpr ⟨tr_211, List.forall_mem_cons.mpr ⟨tr_212, List.forall_mem_cons.mpr ⟨tr_213, List.forall_mem_cons.mpr ⟨tr_214, List.forall_mem_cons.mpr ⟨tr_215, List.forall_mem_cons.mpr ⟨tr_216, List.forall_mem_cons.mpr ⟨tr_217, List.forall_mem_cons.mpr ⟨tr_218, List.forall_mem_cons.mpr ⟨tr_219, List.forall_mem_cons.mpr ⟨tr_220, List.forall_mem_cons.mpr ⟨tr_221, List.forall_mem_cons.mpr ⟨tr_222, List.forall_mem_cons.mpr ⟨tr_223, fun _ h => absurd h List.not_mem_nil⟩⟩⟩⟩⟩⟩⟩⟩⟩⟩⟩⟩⟩⟩⟩⟩⟩⟩⟩⟩⟩⟩⟩⟩⟩⟩⟩⟩⟩⟩⟩⟩
theorem mTr7_ok : ∀ r ∈ mTr7, tOK r = true := List.forall_mem_cons.mpr ⟨tr_224, List.forall_mem_cons.mpr ⟨tr_225, List.forall_mem_cons.mpr ⟨tr_226, List.forall_mem_cons.mpr ⟨tr_227, List.forall_mem_cons.mpr ⟨tr_228, List.forall_mem_cons.mpr ⟨tr_229, List.forall_mem_cons.mpr ⟨tr_230, List.forall_mem_cons.mpr ⟨tr_231, List.forall_mem_cons.mpr ⟨tr_232, List.forall_mem_cons.mpr ⟨tr_233, List.forall_mem_cons.mpr ⟨tr_234, List.forall_mem_cons.mpr ⟨tr_235, List.forall_mem_cons.mpr ⟨tr_236, List.forall_mem_cons.mpr ⟨tr_237, List.forall_mem_cons.mpr ⟨tr_238, List.forall_mem_cons.mpr ⟨tr_239, List.forall_mem_cons.mpr ⟨tr_240, List.forall_mem_cons.mpr ⟨tr_241, List.forall_mem_cons.mpr ⟨tr_242, List.forall_mem_cons.mpr ⟨tr_243, List.forall_mem_cons.mpr ⟨tr_244, List.forall_mem_cons.mpr ⟨tr_245, List.forall_mem_cons.mpr ⟨tr_246, List.forall_mem_cons.mpr ⟨tr_247, List.forall_mem_cons.mpr ⟨tr_248, List.forall_mem_cons.mpr ⟨tr_249, List.forall_mem_cons.mpr ⟨tr_250, List.forall_mem_cons.mpr ⟨tr_251, List.forall_mem_cons.mpr ⟨tr_252, List.forall_mem_cons.mpr ⟨tr_253, List.forall_mem_cons.mpr ⟨tr_254, List.forall_mem_cons.mpr ⟨tr_255, fun _ h => absurd h List.not_mem_nil⟩⟩⟩⟩⟩⟩⟩⟩⟩⟩⟩⟩⟩⟩⟩⟩⟩⟩⟩⟩⟩⟩⟩⟩⟩⟩⟩⟩⟩⟩⟩⟩
theorem mTr8_ok : ∀ r ∈ mTr8, tOK r = true := List.forall_mem_cons.mpr ⟨tr_256, List.forall_mem_cons.mpr ⟨tr_257, List.forall_mem_cons.mpr ⟨tr_258, List.forall_mem_cons.mpr ⟨tr_259, List.forall_mem_cons.mpr ⟨tr_260, List.forall_mem_cons.mpr ⟨tr_261, List.forall_mem_cons.mpr ⟨tr_262, List.forall_mem_cons.mpr ⟨tr_263, List.forall_mem_cons.mpr ⟨tr_264, List.forall_mem_cons.mpr ⟨tr_265, List.forall_mem_cons.mpr ⟨tr_266, List.forall_mem_cons.mpr ⟨tr_267, List.forall_mem_cons.mpr ⟨tr_268, List.forall_mem_cons.mpr ⟨tr_269, List.forall_mem_cons.mpr ⟨tr_270, List.forall_mem_cons.mpr ⟨tr_271, List.forall_mem_cons.mpr ⟨tr_272, List.forall_mem_cons.mpr ⟨tr_273, List.forall_mem_cons.mpr ⟨tr_274, List.forall_mem_cons.mpr ⟨tr_275, List.forall_mem_cons.mpr ⟨tr_276, List.forall_mem_cons.mpr ⟨tr_277, List.forall_mem_cons.mpr ⟨tr_278, List.forall_mem_cons.mpr ⟨tr_279, List.forall_mem_cons.mpr ⟨tr_280, List.forall_mem_cons.mpr ⟨tr_281, List.forall_mem_cons.mpr ⟨tr_282, List.forall_mem_cons.mpr ⟨tr_283, List.forall_mem_cons.mpr ⟨tr_284, List.forall_mem_cons.mpr ⟨tr_285, List.forall_mem_cons.mpr ⟨tr_286, List.forall_mem_cons.mpr ⟨tr_287, fun _ h => absurd h List.not_mem_nil⟩⟩⟩⟩⟩⟩⟩⟩⟩⟩⟩⟩⟩⟩⟩⟩⟩⟩⟩⟩⟩⟩⟩⟩⟩⟩⟩⟩⟩⟩⟩⟩
theorem mTr9_ok : ∀ r ∈ mTr9, tOK r = true := List.forall_mem_cons.mpr ⟨tr_288, List.forall_mem_cons.mpr ⟨tr_289, List.forall_mem_cons.mpr ⟨tr_290, List.forall_mem_cons.mpr ⟨tr_291, List.forall_mem_cons.mpr ⟨tr_292, List.forall_mem_cons.mpr ⟨tr_293, List.forall_mem_cons.mpr ⟨tr_294, List.forall_mem_cons.mpr ⟨tr_295, List.forall_mem_cons.mpr ⟨tr_296, List.forall_mem_cons.mpr ⟨tr_297, List.forall_mem_cons.mpr ⟨tr_298, List.forall_mem_cons.mpr ⟨tr_299, List.forall_mem_cons.mpr ⟨tr_300, List.forall_mem_cons.mpr ⟨tr_301, List.forall_mem_cons.mpr ⟨tr_302, fun _ h => absurd h List.not_mem_nil⟩⟩⟩⟩⟩⟩⟩⟩⟩⟩⟩⟩⟩⟩⟩
theorem mTr_ok : ∀ r ∈ mTr, tOK r = true := List.forall_mem_append.mpr ⟨mTr0_ok, List.forall_mem_append.mpr ⟨mTr1_ok, List.forall_mem_append.mpr ⟨mTr2_ok, List.forall_mem_append.mpr ⟨mTr3_ok, List.forall_mem_append.mpr ⟨mTr4_ok, List.forall_mem_append.mpr ⟨mTr5_ok, List.forall_mem_append.mpr ⟨mTr6_ok, List.forall_mem_append.mpr ⟨mTr7_ok, List.forall_mem_append.mpr ⟨mTr8_ok, mTr9_ok⟩⟩⟩⟩⟩⟩⟩⟩⟩
set_option maxRecDepth 100000 in
theorem mo_0 : mOK 0 = true := by decide +kernel
set_option maxRecDepth 100000 in
theorem mo_1 : mOK 1 = true := by decide +kernel
set_option maxRecDepth 100000 in
theorem mo_2 : mOK 2 = true := by decide +kernel
set_option maxRecDepth 100000 in
theorem mo_3 : mOK 3 = true := by decide +kernel
set_option maxRecDepth 100000 in
theorem mo_4 : mOK 4 = true := by decide +kernel
set_option maxRecDepth 100000 in
theorem mo_5 : mOK 5 = true := by decide +kernel
set_option maxRecDepth 100000 in
theorem mo_6 : mOK 6 = true := by decide +kernel
set_option maxRecDepth 100000 in
theorem mo_7 : mOK 7 = true := by decide +kernel
set_option maxRecDepth 100000 in
theorem mo_8 : mOK 8 = true := by decide +kernel
set_option maxRecDepth 100000 in
theorem mo_9 : mOK 9 = true := by decide +kernel
set_option maxRecDepth 100000 in
theorem mo_10 : mOK 10 = true := by decide +kernel
set_option maxRecDepth 100000 in
theorem mo_11 : mOK 11 = true := by decide +kernel
set_option maxRecDepth 100000 in
theorem mo_12 : mOK 12 = true := by decide +kernel
set_option maxRecDepth 100000 in
theorem mo_13 : mOK 13 = true := by decide +kernel
set_option maxRecDepth 100000 in
theorem mo_14 : mOK 14 = true := by decide +kernel
set_option maxRecDepth 100000 in
theorem mo_15 : mOK 15 = true := by decide +kernel
set_option maxRecDepth 100000 in
theorem mo_16 : mOK 16 = true := by decide +kernel
set_option maxRecDepth 100000 in
theorem mo_17 : mOK 17 = true := by decide +kernel
set_option maxRecDepth 100000 in
theorem mo_18 : mOK 18 = true := by decide +kernel
set_option maxRecDepth 100000 in
theorem mo_19 : mOK 19 = true := by decide +kernel
set_option maxRecDepth 100000 in
theorem mo_20 : mOK 20 = true := by decide +kernel
set_option maxRecDepth 100000 in
theorem mo_21 : mOK 21 = true := by decide +kernel
set_option maxRecDepth 100000 in
theorem mo_22 : mOK 22 = true := by decide +kernel
set_option maxRecDepth 100000 in
theorem mo_23 : mOK 23 = true := by decide +kernel
set_option maxRecDepth 100000 in
theorem mo_24 : mOK 24 = true := by decide +kernel
set_option maxRecDepth 100000 in
theorem mo_25 : mOK 25 = true := by decide +kernel
set_option maxRecDepth 100000 in
theorem mo_26 : mOK 26 = true := by decide +kernel
set_option maxRecDepth 100000 in
theorem mo_27 : mOK 27 = true := by decide +kernel
set_option maxRecDepth 100000 in
theorem mo_28 : mOK 28 = true := by decide +kernel
set_option maxRecDepth 100000 in
theorem mo_29 : mOK 29 = true := by decide +kernel
set_option maxRecDepth 100000 in
theorem mo_30 : mOK 30 = true := by decide +kernel
set_option maxRecDepth 100000 in
theorem mo_31 : mOK 31 = true := by decide +kernel
set_option maxRecDepth 100000 in
theorem mo_32 : mOK 32 = true := by decide +kernel
set_option maxRecDepth 100000 in
theorem mo_33 : mOK 33 = true := by decide +kernel
set_option maxRecDepth 100000 in
theorem mo_34 : mOK 34 = true := by decide +kernel
set_option maxRecDepth 100000 in
theorem mo_35 : mOK 35 = true := by decide +kernel
set_option maxRecDepth 100000 in
theorem mo_36 : mOK 36 = true := by decide +kernel
set_option maxRecDepth 100000 in
theorem mo_37 : mOK 37 = true := by decide +kernel
set_option maxRecDepth 100000 in
theorem mo_38 : mOK 38 = true := by decide +kernel
set_option maxRecDepth 100000 in
theorem mo_39 : mOK 39 = true := by decide +kernel
set_option maxRecDepth 100000 in
theorem mo_40 : mOK 40 = true := by decide +kernel
set_option maxRecDepth 100000 in
theorem mo_41 : mOK 41 = true := by decide +kernel
set_option maxRecDepth 100000 in
theorem mo_42 : mOK 42 = true := by decide +kernel
set_option maxRecDepth 100000 in
theorem mo_43 : mOK 43 = true := by decide +kernel
set_option maxRecDepth 100000 in
theorem mo_44 : mOK 44 = true := by decide +kernel
set_option maxRecDepth 100000 in
theorem mo_45 : mOK 45 = true := by decide +kernel
set_option maxRecDepth 100000 in
theorem mo_46 : mOK 46 = true := by decide +kernel
set_option maxRecDepth 100000 in
theorem mo_47 : mOK 47 = true := by decide +kernel
set_option maxRecDepth 100000 in
theorem mo_48 : mOK 48 = true := by decide +kernel
set_option maxRecDepth 100000 in
theorem mo_49 : mOK 49 = true := by decide +kernel
set_option maxRecDepth 100000 in
theorem mo_50 : mOK 50 = true := by decide +kernel
set_option maxRecDepth 100000 in
theorem mo_51 : mOK 51 = true := by decide +kernel
set_option maxRecDepth 100000 in
theorem mo_52 : mOK 52 = true := by decide +kernel
set_option maxRecDepth 100000 in
theorem mo_53 : mOK 53 = true := by decide +kernel
set_option maxRecDepth 100000 in
theorem mo_54 : mOK 54 = true := by decide +kernel
set_option maxRecDepth 100000 in
theorem mo_55 : mOK 55 = true := by decide +kernel
set_option maxRecDepth 100000 in
theorem mo_56 : mOK 56 = true := by decide +kernel
set_option maxRecDepth 100000 in
theorem mo_57 : mOK 57 = true := by decide +kernel
set_option maxRecDepth 100000 in
theorem mo_58 : mOK 58 = true := by decide +kernel
set_option maxRecDepth 100000 in
theorem mo_59 : mOK 59 = true := by decide +kernel
set_option maxRecDepth 100000 in
theorem mo_60 : mOK 60 = true := by decide +kernel
set_option maxRecDepth 100000 in
theorem mo_61 : mOK 61 = true := by decide +kernel
set_option maxRecDepth 100000 in
theorem mo_62 : mOK 62 = true := by decide +kernel
set_option maxRecDepth 100000 in
theorem mo_63 : mOK 63 = true := by decide +kernel
set_option maxRecDepth 100000 in
theorem mo_64 : mOK 64 = true := by decide +kernel
set_option maxRecDepth 100000 in
theorem mo_65 : mOK 65 = true := by decide +kernel
set_option maxRecDepth 100000 in
theorem mo_66 : mOK 66 = true := by decide +kernel
set_option maxRecDepth 100000 in
theorem mo_67 : mOK 67 = true := by decide +kernel
set_option maxRecDepth 100000 in
theorem mo_68 : mOK 68 = true := by decide +kernel
set_option maxRecDepth 100000 in
theorem mo_69 : mOK 69 = true := by decide +kernel
set_option maxRecDepth 100000 in
theorem mo_70 : mOK 70 = true := by decide +kernel
set_option maxRecDepth 100000 in
theorem mo_71 : mOK 71 = true := by decide +kernel
set_option maxRecDepth 100000 in
theorem mo_72 : mOK 72 = true := by decide +kernel
set_option maxRecDepth 100000 in
theorem mo_73 : mOK 73 = true := by decide +kernel
set_option maxRecDepth 100000 in
theorem mo_74 : mOK 74 = true := by decide +kernel
set_option maxRecDepth 100000 in
theorem mo_75 : mOK 75 = true := by decide +kernel
set_option maxRecDepth 100000 in
theorem mo_76 : mOK 76 = true := by decide +kernel
set_option maxRecDepth 100000 in
theorem mo_77 : mOK 77 = true := by decide +kernel
set_option maxRecDepth 100000 in
theorem mo_78 : mOK 78 = true := by decide +kernel
set_option maxRecDepth 100000 in
theorem mo_79 : mOK 79 = true := by decide +kernel
set_option maxRecDepth 100000 in
theorem mo_80 : mOK 80 = true := by decide +kernel
set_option maxRecDepth 100000 in
theorem mo_81 : mOK 81 = true := by decide +kernel
set_option maxRecDepth 100000 in
theorem mo_82 : mOK 82 = true := by decide +kernel
set_option maxRecDepth 100000 in
theorem mo_83 : mOK 83 = true := by decide +kernel
set_option maxRecDepth 100000 in
theorem mo_84 : mOK 84 = true := by decide +kernel
set_option maxRecDepth 100000 in
theorem mo_85 : mOK 85 = true := by decide +kernel
set_option maxRecDepth 100000 in
theorem mo_86 : mOK 86 = true := by decide +kernel
set_option maxRecDepth 100000 in
theorem mo_87 : mOK 87 = true := by decide +kernel
set_option maxRecDepth 100000 in
theorem mo_88 : mOK 88 = true := by decide +kernel
set_option maxRecDepth 100000 in
theorem mo_89 : mOK 89 = true := by decide +kernel
set_option maxRecDepth 100000 in
theorem mo_90 : mOK 90 = true := by decide +kernel
set_option maxRecDepth 100000 in
theorem mo_91 : mOK 91 = true := by decide +kernel
set_option maxRecDepth 100000 in
theorem mo_92 : mOK 92 = true := by decide +kernel
set_option maxRecDepth 100000 in
theorem mo_93 : mOK 93 = true := by decide +kernel
set_option maxRecDepth 100000 in
theorem mo_94 : mOK 94 = true := by decide +kernel
set_option maxRecDepth 100000 in
theorem mo_95 : mOK 95 = true := by decide +kernel
set_option maxRecDepth 100000 in
theorem mo_96 : mOK 96 = true := by decide +kernel
set_option maxRecDepth 100000 in
theorem mo_97 : mOK 97 = true := by decide +kernel
set_option maxRecDepth 100000 in
theorem mo_98 : mOK 98 = true := by decide +kernel
set_option maxRecDepth 100000 in
theorem mo_99 : mOK 99 = true := by decide +kernel
set_option maxRecDepth 100000 in
theorem mo_100 : mOK 100 = true := by decide +kernel
set_option maxRecDepth 100000 in
theorem mo_101 : mOK 101 = true := by decide +kernel
set_option maxRecDepth 100000 in
theorem mo_102 : mOK 102 = true := by decide +kernel
set_option maxRecDepth 100000 in
theorem mo_103 : mOK 103 = true := by decide +kernel
set_option maxRecDepth 100000 in
theorem mo_104 : mOK 104 = true := by decide +kernel
set_option maxRecDepth 100000 in
theorem mo_105 : mOK 105 = true := by decide +kernel
set_option maxRecDepth 100000 in
theorem mo_106 : mOK 106 = true := by decide +kernel
set_option maxRecDepth 100000 in
theorem mo_107 : mOK 107 = true := by decide +kernel
set_option maxRecDepth 100000 in
theorem mo_108 : mOK 108 = true := by decide +kernel
set_option maxRecDepth 100000 in
theorem mo_109 : mOK 109 = true := by decide +kernel
set_option maxRecDepth 100000 in
theorem mo_110 : mOK 110 = true := by decide +kernel
set_option maxRecDepth 100000 in
theorem mo_111 : mOK 111 = true := by decide +kernel
set_option maxRecDepth 100000 in
theorem mo_112 : mOK 112 = true := by decide +kernel
set_option maxRecDepth 100000 in
theorem mo_113 : mOK 113 = true := by decide +kernel
set_option maxRecDepth 100000 in
theorem mo_114 : mOK 114 = true := by decide +kernel
set_option maxRecDepth 100000 in
theorem mo_115 : mOK 115 = true := by decide +kernel
set_option maxRecDepth 100000 in
theorem mo_116 : mOK 116 = true := by decide +kernel
set_option maxRecDepth 100000 in
theorem mo_117 : mOK 117 = true := by decide +kernel
set_option maxRecDepth 100000 in
theorem mo_118 : mOK 118 = true := by decide +kernel
set_option maxRecDepth 100000 in
theorem mo_119 : mOK 119 = true := by decide +kernel
set_option maxRecDepth 100000 in
theorem mo_120 : mOK 120 = true := by decide +kernel
set_option maxRecDepth 100000 in
theorem mo_121 : mOK 121 = true := by decide +kernel
set_option maxRecDepth 100000 in
theorem mo_122 : mOK 122 = true := by decide +kernel
set_option maxRecDepth 100000 in
theorem mo_123 : mOK 123 = true := by decide +kernel
set_option maxRecDepth 100000 in
theorem mo_124 : mOK 124 = true := by decide +kernel
set_option maxRecDepth 100000 in
theorem mo_125 : mOK 125 = true := by decide +kernel
set_option maxRecDepth 100000 in
theorem mo_126 : mOK 126 = true := by decide +kernel
set_option maxRecDepth 100000 in
theorem mo_127 : mOK 127 = true := by decide +kernel
set_option maxRecDepth 100000 in
theorem mo_128 : mOK 128 = true := by decide +kernel
set_option maxRecDepth 100000 in
theorem mo_129 : mOK 129 = true := by decide +kernel
set_option maxRecDepth 100000 in
theorem mo_130 : mOK 130 = true := by decide +kernel
set_option maxRecDepth 100000 in
theorem mo_131 : mOK 131 = true := by decide +kernel
set_option maxRecDepth 100000 in
theorem mo_132 : mOK 132 = true := by decide +kernel
set_option maxRecDepth 100000 in
theorem mo_133 : mOK 133 = true := by decide +kernel
set_option maxRecDepth 100000 in
theorem mo_134 : mOK 134 = true := by decide +kernel
set_option maxRecDepth 100000 in
theorem mo_135 : mOK 135 = true := by decide +kernel
set_option maxRecDepth 100000 in
theorem mo_136 : mOK 136 = true := by decide +kernel
set_option maxRecDepth 100000 in
theorem mo_137 : mOK 137 = true := by decide +kernel
set_option maxRecDepth 100000 in
theorem mo_138 : mOK 138 = true := by decide +kernel
set_option maxRecDepth 100000 in
theorem mo_139 : mOK 139 = true := by decide +kernel
set_option maxRecDepth 100000 in
theorem mo_140 : mOK 140 = true := by decide +kernel
set_option maxRecDepth 100000 in
theorem mo_141 : mOK 141 = true := by decide +kernel
set_option maxRecDepth 100000 in
theorem mo_142 : mOK 142 = true := by decide +kernel
set_option maxRecDepth 100000 in
theorem mo_143 : mOK 143 = true := by decide +kernel
set_option maxRecDepth 100000 in
theorem mo_144 : mOK 144 = true := by decide +kernel
set_option maxRecDepth 100000 in
theorem mo_145 : mOK 145 = true := by decide +kernel
set_option maxRecDepth 100000 in
theorem mo_146 : mOK 146 = true := by decide +kernel
set_option maxRecDepth 100000 in
theorem mo_147 : mOK 147 = true := by decide +kernel
set_option maxRecDepth 100000 in
theorem mo_148 : mOK 148 = true := by decide +kernel
set_option maxRecDepth 100000 in
theorem mo_149 : mOK 149 = true := by decide +kernel
set_option maxRecDepth 100000 in
theorem mo_150 : mOK 150 = true := by decide +kernel
set_option maxRecDepth 100000 in
theorem mo_151 : mOK 151 = true := by decide +kernel
set_option maxRecDepth 100000 in
theorem mo_152 : mOK 152 = true := by decide +kernel
set_option maxRecDepth 100000 in
theorem mo_153 : mOK 153 = true := by decide +kernel
set_option maxRecDepth 100000 in
theorem mo_154 : mOK 154 = true := by decide +kernel
set_option maxRecDepth 100000 in
theorem mo_155 : mOK 155 = true := by decide +kernel
set_option maxRecDepth 100000 in
theorem mo_156 : mOK 156 = true := by decide +kernel
set_option maxRecDepth 100000 in
theorem mo_157 : mOK 157 = true := by decide +kernel
set_option maxRecDepth 100000 in
theorem mo_158 : mOK 158 = true := by decide +kernel
set_option maxRecDepth 100000 in
theorem mo_159 : mOK 159 = true := by decide +kernel
set_option maxRecDepth 100000 in
theorem mo_160 : mOK 160 = true := by decide +kernel
set_option maxRecDepth 100000 in
theorem mo_161 : mOK 161 = true := by decide +kernel
set_option maxRecDepth 100000 in
theorem mo_162 : mOK 162 = true := by decide +kernel
set_option maxRecDepth 100000 in
theorem mo_163 : mOK 163 = true := by decide +kernel
set_option maxRecDepth 100000 in
theorem mo_164 : mOK 164 = true := by decide +kernel
set_option maxRecDepth 100000 in
theorem mo_165 : mOK 165 = true := by decide +kernel
set_option maxRecDepth 100000 in
theorem mo_166 : mOK 166 = true := by decide +kernel
set_option maxRecDepth 100000 in
theorem mo_167 : mOK 167 = true := by decide +kernel
set_option maxRecDepth 100000 in
theorem mo_168 : mOK 168 = true := by decide +kernel
set_option maxRecDepth 100000 in
theorem mo_169 : mOK 169 = true := by decide +kernel
set_option maxRecDepth 100000 in
theorem mo_170 : mOK 170 = true := by decide +kernel
set_option maxRecDepth 100000 in
theorem mo_171 : mOK 171 = true := by decide +kernel
set_option maxRecDepth 100000 in
theorem mo_172 : mOK 172 = true := by decide +kernel
set_option maxRecDepth 100000 in
theorem mo_173 : mOK 173 = true := by decide +kernel
set_option maxRecDepth 100000 in
theorem mo_174 : mOK 174 = true := by decide +kernel
set_option maxRecDepth 100000 in
theorem mo_175 : mOK 175 = true := by decide +kernel
set_option maxRecDepth 100000 in
theorem mo_176 : mOK 176 = true := by decide +kernel
set_option maxRecDepth 100000 in
theorem mo_177 : mOK 177 = true := by decide +kernel
set_option maxRecDepth 100000 in
theorem mo_178 : mOK 178 = true := by decide +kernel
set_option maxRecDepth 100000 in
theorem mo_179 : mOK 179 = true := by decide +kernel
set_option maxRecDepth 100000 in
theorem mo_180 : mOK 180 = true := by decide +kernel
set_option maxRecDepth 100000 in
theorem mo_181 : mOK 181 = true := by decide +kernel
set_option maxRecDepth 100000 in
theorem mo_182 : mOK 182 = true := by decide +kernel
set_option maxRecDepth 100000 in
theorem mo_183 : mOK 183 = true := by decide +kernel
set_option maxRecDepth 100000 in
theorem mo_184 : mOK 184 = true := by decide +kernel
set_option maxRecDepth 100000 in
theorem mo_185 : mOK 185 = true := by decide +kernel
set_option maxRecDepth 100000 in
theorem mo_186 : mOK 186 = true := by decide +kernel
set_option maxRecDepth 100000 in
theorem mo_187 : mOK 187 = true := by decide +kernel
set_option maxRecDepth 100000 in
theorem mo_188 : mOK 188 = true := by decide +kernel
set_option maxRecDepth 100000 in
theorem mo_189 : mOK 189 = true := by decide +kernel
set_option maxRecDepth 100000 in
theorem mo_190 : mOK 190 = true := by decide +kernel
set_option maxRecDepth 100000 in
theorem mo_191 : mOK 191 = true := by decide +kernel
set_option maxRecDepth 100000 in
theorem mo_192 : mOK 192 = true := by decide +kernel
set_option maxRecDepth 100000 in
theorem mo_193 : mOK 193 = true := by decide +kernel
set_option maxRecDepth 100000 in
theorem mo_194 : mOK 194 = true := by decide +kernel
set_option maxRecDepth 100000 in
theorem mo_195 : mOK 195 = true := by decide +kernel
set_option maxRecDepth 100000 in
theorem mo_196 : mOK 196 = true := by decide +kernel
set_option maxRecDepth 100000 in
theorem mo_197 : mOK 197 = true := by decide +kernel
set_option maxRecDepth 100000 in
theorem mo_198 : mOK 198 = true := by decide +kernel
set_option maxRecDepth 100000 in
theorem mo_199 : mOK 199 = true := by decide +kernel
set_option maxRecDepth 100000 in
theorem mo_200 : mOK 200 = true := by decide +kernel
set_option maxRecDepth 100000 in
theorem mo_201 : mOK 201 = true := by decide +kernel
set_option maxRecDepth 100000 in
theorem mo_202 : mOK 202 = true := by decide +kernel
set_option maxRecDepth 100000 in
theorem mo_203 : mOK 203 = true := by decide +kernel
set_option maxRecDepth 100000 in
theorem mo_204 : mOK 204 = true := by decide +kernel
set_option maxRecDepth 100000 in
theorem mo_205 : mOK 205 = true := by decide +kernel
set_option maxRecDepth 100000 in
theorem mo_206 : mOK 206 = true := by decide +kernel
set_option maxRecDepth 100000 in
theorem mo_207 : mOK 207 = true := by decide +kernel
set_option maxRecDepth 100000 in
theorem mo_208 : mOK 208 = true := by decide +kernel
set_option maxRecDepth 100000 in
theorem mo_209 : mOK 209 = true := by decide +kernel
set_option maxRecDepth 100000 in
theorem mo_210 : mOK 210 = true := by decide +kernel
set_option maxRecDepth 100000 in
theorem mo_211 : mOK 211 = true := by decide +kernel
set_option maxRecDepth 100000 in
theorem mo_212 : mOK 212 = true := by decide +kernel
set_option maxRecDepth 100000 in
theorem mo_213 : mOK 213 = true := by decide +kernel
set_option maxRecDepth 100000 in
theorem mo_214 : mOK 214 = true := by decide +kernel
set_option maxRecDepth 100000 in
theorem mo_215 : mOK 215 = true := by decide +kernel
set_option maxRecDepth 100000 in
theorem mo_216 : mOK 216 = true := by decide +kernel
set_option maxRecDepth 100000 in
theorem mo_217 : mOK 217 = true := by decide +kernel
set_option maxRecDepth 100000 in
theorem mo_218 : mOK 218 = true := by decide +kernel
set_option maxRecDepth 100000 in
theorem mo_219 : mOK 219 = true := by decide +kernel
def mR0 : List Nat := [0, 1, 2, 3, 4, 5, 6, 7, 8, 9, 10, 11, 12, 13, 14, 15, 16, 17, 18, 19, 20, 21, 22, 23, 24, 25, 26, 27, 28, 29, 30, 31]
theorem mR0_ok : ∀ m ∈ mR0, mOK m = true := List.forall_mem_cons.mpr ⟨mo_0, List.forall_mem_cons.mpr ⟨mo_1, List.forall_mem_cons.mpr ⟨mo_2, List.forall_mem_cons.mpr ⟨mo_3, List.forall_mem_cons.mpr ⟨mo_4, List.forall_mem_cons.mpr ⟨mo_5, List.forall_mem_cons.mpr ⟨mo_6, List.forall_mem_cons.mpr ⟨mo_7, List.forall_mem_cons.mpr ⟨mo_8, List.forall_mem_cons.mpr ⟨mo_9, List.forall_mem_cons.mpr ⟨mo_10, List.forall_mem_cons.mpr ⟨mo_11, List.forall_mem_cons.mpr ⟨mo_12, List.forall_mem_cons.mpr ⟨mo_13, List.forall_mem_cons.mpr ⟨mo_14, List.forall_mem_cons.mpr ⟨mo_15, List.forall_mem_cons.mpr ⟨mo_16, List.forall_mem_cons.mpr ⟨mo_17, List.forall_mem_cons.mpr ⟨mo_18, List.forall_mem_cons.mpr ⟨mo_19, List.forall_mem_cons.mpr ⟨mo_20, List.forall_mem_cons.mpr ⟨mo_21, List.forall_mem_cons.mpr ⟨mo_22, List.forall_mem_cons.mpr ⟨mo_23, List.forall_mem_cons.mpr ⟨mo_24, List.forall_mem_cons.mpr ⟨mo_25, List.forall_mem_cons.mpr ⟨mo_26, List.forall_mem_cons.mpr ⟨mo_27, List.forall_mem_cons.mpr ⟨mo_28, List.forall_mem_cons.mpr ⟨mo_29, List.forall_mem_cons.mpr ⟨mo_30, List.forall_mem_cons.mpr ⟨mo_31, fun _ h => absurd h List.not_mem_nil⟩⟩⟩⟩⟩⟩⟩⟩⟩⟩⟩⟩⟩⟩⟩⟩⟩⟩⟩⟩⟩⟩⟩⟩⟩⟩⟩⟩⟩⟩⟩⟩
def mR1 : List Nat := [32, 33, 34, 35, 36, 37, 38, 39, 40, 41, 42, 43, 44, 45, 46, 47, 48, 49, 50, 51, 52, 53, 54, 55, 56, 57, 58, 59, 60, 61, 62, 63]
theorem mR1_ok : ∀ m ∈ mR1, mOK m = true := List.forall_mem_cons.mpr ⟨mo_32, List.forall_mem_cons.mpr ⟨mo_33, List.forall_mem_cons.mpr ⟨mo_34, List.forall_mem_cons.mpr ⟨mo_35, List.forall_mem_cons.mpr ⟨mo_36, List.forall_mem_cons.mpr ⟨mo_37, List.forall_mem_cons.mpr ⟨mo_38, List.forall_mem_cons.mpr ⟨mo_39, List.forall_mem_cons.mpr ⟨mo_40, List.forall_mem_cons.mpr ⟨mo_41, List.forall_mem_cons.mpr ⟨mo_42, List.forall_mem_cons.mpr ⟨mo_43, List.forall_mem_cons.mpr ⟨mo_44, List.forall_mem_cons.mpr ⟨mo_45, List.forall_mem_cons.mpr ⟨mo_46, List.forall_mem_cons.mpr ⟨mo_47, List.forall_mem_cons.mpr ⟨mo_48, List.forall_mem_cons.mpr ⟨mo_49, List.forall_mem_cons.mpr ⟨mo_50, List.forall_mem_cons.mpr ⟨mo_51, List.forall_mem_cons.mpr ⟨mo_52, List.forall_mem_cons.mpr ⟨mo_53, List.forall_mem_cons.mpr ⟨mo_54, List.forall_mem_cons.mpr ⟨mo_55, List.forall_mem_cons.mpr ⟨mo_56, List.forall_mem_cons.mpr ⟨mo_57, List.forall_mem_cons.mpr ⟨mo_58, List.forall_mem_cons.mpr ⟨mo_59, List.forall_mem_cons.mpr ⟨mo_60, List.forall_mem_cons.mpr ⟨mo_61, List.forall_mem_cons.mpr ⟨mo_62, List.forall_mem_cons.mpr ⟨mo_63, fun _ h => absurd h List.not_mem_nil⟩⟩⟩⟩⟩⟩⟩⟩⟩⟩⟩⟩⟩⟩⟩⟩⟩⟩⟩⟩⟩⟩⟩⟩⟩⟩⟩⟩⟩⟩⟩⟩
def mR2 : List Nat := [64, 65, 66, 67, 68, 69, 70, 71, 72, 73, 74, 75, 76, 77, 78, 79, 80, 81, 82, 83, 84, 85, 86, 87, 88, 89, 90, 91, 92, 93, 94, 95]
theorem mR2_ok : ∀ m ∈ mR2, mOK m = true := List.forall_mem_cons.mpr ⟨mo_64, List.forall_mem_cons.mpr ⟨mo_65, List.forall_mem_cons.mpr ⟨mo_66, List.forall_mem_cons.mpr ⟨mo_67, List.forall_mem_cons.mpr ⟨mo_68, List.forall_mem_cons.mpr ⟨mo_69, List.forall_mem_cons.mpr ⟨mo_70, List.forall_mem_cons.mpr ⟨mo_71, List.forall_mem_cons.mpr ⟨mo_72, List.forall_mem_cons.mpr ⟨mo_73, List.forall_mem_cons.mpr ⟨mo_74, List.forall_mem_cons.mpr ⟨mo_75, List.forall_mem_cons.mpr ⟨mo_76, List.forall_mem_cons.mpr ⟨mo_77, List.forall_mem_cons.mpr ⟨mo_78, List.forall_mem_cons.mpr ⟨mo_79, List.forall_mem_cons.mpr ⟨mo_80, List.forall_mem_cons.mpr ⟨mo_81, List.forall_mem_cons.mpr ⟨mo_82, List.forall_mem_cons.mpr ⟨mo_83, List.forall_mem_cons.mpr ⟨mo_84, List.forall_mem_cons.mpr ⟨mo_85, List.forall_mem_cons.mpr ⟨mo_86, List.forall_mem_cons.mpr ⟨mo_87, List.forall_mem_cons.mpr ⟨mo_88, List.forall_mem_cons.mpr ⟨mo_89, List.forall_mem_cons.mpr ⟨mo_90, List.forall_mem_cons.mpr ⟨mo_91, List.forall_mem_cons.mpr ⟨mo_92, List.forall_mem_cons.mpr ⟨mo_93, List.forall_mem_cons.mpr ⟨mo_94, List.forall_mem_cons.mpr ⟨mo_95, fun _ h => absurd h List.not_mem_nil⟩⟩⟩⟩⟩⟩⟩⟩⟩⟩⟩⟩⟩⟩⟩⟩⟩⟩⟩⟩⟩⟩⟩⟩⟩⟩⟩⟩⟩⟩⟩⟩
def mR3 : List Nat := [96, 97, 98, 99, 100, 101, 102, 103, 104, 105, 106, 107, 108, 109, 110, 111, 112, 113, 114, 115, 116, 117, 118, 119, 120, 121, 122, 123, 124, 125, 126, 127]
theorem mR3_ok : ∀ m ∈ mR3, mOK m = true := List.forall_mem_cons.mpr ⟨mo_96, List.forall_mem_cons.mpr ⟨mo_97, List.forall_mem_cons.mpr ⟨mo_98, List.forall_mem_cons.mpr ⟨mo_99, List.forall_mem_cons.mpr ⟨mo_100, List.forall_mem_cons.mpr ⟨mo_101, List.forall_mem_cons.mpr ⟨mo_102, List.forall_mem_cons.mpr ⟨mo_103, List.forall_mem_cons.mpr ⟨mo_104, List.forall_mem_cons.mpr ⟨mo_105, List.forall_mem_cons.mpr ⟨mo_106, List.forall_mem_cons.mpr ⟨mo_107, List.forall_mem_cons.mpr ⟨mo_108, List.forall_mem_cons.mpr ⟨mo_109, List.forall_mem_cons.mpr ⟨mo_110, List.forall_mem_cons.mpr ⟨mo_111, List.forall_mem_cons.mpr ⟨mo_112, List.forall_mem_cons.mpr ⟨mo_113, List.forall_mem_cons.mpr ⟨mo_114, List.forall_mem_cons.mpr ⟨mo_115, List.forall_mem_cons.mpr ⟨mo_116, List.forall_mem_cons.mpr ⟨mo_117, List.forall_mem_cons.mpr ⟨mo_118, List.forall_mem_cons.mpr ⟨mo_119, List.forall_mem_cons.mpr ⟨mo_120, List.forall_mem_cons.mpr ⟨mo_121, List.forall_mem_cons.mpr ⟨mo_122, List.forall_mem_cons.mpr ⟨mo_123, List.forall_mem_cons.mpr ⟨mo_124, List.forall_mem_cons.mpr ⟨mo_125, List.forall_mem_cons.mpr ⟨mo_126, List.forall_mem_cons.mpr ⟨mo_127, fun _ h => absurd h List.not_mem_nil⟩⟩⟩⟩⟩⟩⟩⟩⟩⟩⟩⟩⟩⟩⟩⟩⟩⟩⟩⟩⟩⟩⟩⟩⟩⟩⟩⟩⟩⟩⟩⟩
def mR4 : List Nat := [128, 129, 130, 131, 132, 133, 134, 135, 136, 137, 138, 139, 140, 141, 142, 143, 144, 145, 146, 147, 148, 149, 150, 151, 152, 153, 154, 155, 156, 157, 158, 159]
theorem mR4_ok : ∀ m ∈ mR4, mOK m = true := List.forall_mem_cons.mpr ⟨mo_128, List.forall_mem_cons.mpr ⟨mo_129, List.forall_mem_cons.mpr ⟨mo_130, List.forall_mem_cons.mpr ⟨mo_131, List.forall_mem_cons.mpr ⟨mo_132, List.forall_mem_cons.mpr ⟨mo_133, List.forall_mem_cons.mpr ⟨mo_134, List.forall_mem_cons.mpr ⟨mo_135, List.forall_mem_cons.mpr ⟨mo_136, List.forall_mem_cons.mpr ⟨mo_137, List.forall_mem_cons.mpr ⟨mo_138, List.forall_mem_cons.mpr ⟨mo_139, List.forall_mem_cons.mpr ⟨mo_140, List.forall_mem_cons.mpr ⟨mo_141, List.forall_mem_cons.mpr ⟨mo_142, List.forall_mem_cons.mpr ⟨mo_143, List.forall_mem_cons.mpr ⟨mo_144, List.forall_mem_cons.mpr ⟨mo_145, List.forall_mem_cons.mpr ⟨mo_146, List.forall_mem_cons.mpr ⟨mo_147, List.forall_mem_cons.mpr ⟨mo_148, List.forall_mem_cons.mpr ⟨mo_149, List.forall_mem_cons.mpr ⟨mo_150, List.forall_mem_cons.mpr ⟨mo_151, List.forall_mem_cons.mpr ⟨mo_152, List.forall_mem_cons.mpr ⟨mo_153, List.forall_mem_cons.mpr ⟨mo_154, List.forall_mem_cons.mpr ⟨mo_155, List.forall_mem_cons.mpr ⟨mo_156, List.forall_mem_cons.mpr ⟨mo_157, List.forall_mem_cons.mpr ⟨mo_158, List.forall_mem_cons.mpr ⟨mo_159, fun _ h => absurd h List.not_mem_nil⟩⟩⟩⟩⟩⟩⟩⟩⟩⟩⟩⟩⟩⟩⟩⟩⟩⟩⟩⟩⟩⟩⟩⟩⟩⟩⟩⟩⟩⟩⟩⟩
def mR5 : List Nat := [160, 161, 162, 163, 164, 165, 166, 167, 168, 169, 170, 171, 172, 173, 174, 175, 176, 177, 178, 179, 180, 181, 182, 183, 184, 185, 186, 187, 188, 189, 190, 191]
theorem mR5_ok : ∀ m ∈ mR5, mOK m = true := List.forall_mem_cons.mpr ⟨mo_160, List.forall_mem_cons.mpr ⟨mo_161, List.forall_mem_cons.mpr ⟨mo_162, List.forall_mem_cons.mpr ⟨mo_163, List.forall_mem_cons.mpr ⟨mo_164, List.forall_mem_cons.mpr ⟨mo_165, List.forall_mem_cons.mpr ⟨mo_166, List.forall_mem_cons.mpr ⟨mo_167, List.forall_mem_cons.mpr ⟨mo_168, List.forall_mem_cons.mpr ⟨mo_169, List.forall_mem_cons.mpr ⟨mo_170, List.forall_mem_cons.mpr ⟨mo_171, List.forall_mem_cons.mpr ⟨mo_172, List.forall_mem_cons.mpr ⟨mo_173, List.forall_mem_cons.mpr ⟨mo_174, List.forall_mem_cons.mpr ⟨mo_175, List.forall_mem_cons.mpr ⟨mo_176, List.forall_mem_cons.mpr ⟨mo_177, List.forall_mem_cons.mpr ⟨mo_178, List.forall_mem_cons.mpr ⟨mo_179, List.forall_mem_cons.mpr ⟨mo_180, List.forall_mem_cons.mpr ⟨mo_181, List.forall_mem_cons.mpr ⟨mo_182, List.forall_mem_cons.mpr ⟨mo_183, List.forall_mem_cons.mpr ⟨mo_184, List.forall_mem_cons.mpr ⟨mo_185, List.forall_mem_cons.mpr ⟨mo_186, List.forall_mem_cons.mpr ⟨mo_187, List.forall_mem_cons.mpr ⟨mo_188, List.forall_mem_cons.mpr ⟨mo_189, List.forall_mem_cons.mpr ⟨mo_190, List.forall_mem_cons.mpr ⟨mo_191, fun _ h => absurd h List.not_mem_nil⟩⟩⟩⟩⟩⟩⟩⟩⟩⟩⟩⟩⟩⟩⟩⟩⟩⟩⟩⟩⟩⟩⟩⟩⟩⟩⟩⟩⟩⟩⟩⟩
def mR6 : List Nat := [192, 193, 194, 195, 196, 197, 198, 199, 200, 201, 202, 203, 204, 205, 206, 207, 208, 209, 210, 211, 212, 213, 214, 215, 216, 217, 218, 219]
theorem mR6_ok : ∀ m ∈ mR6, mOK m = true := List.forall_mem_cons.mpr ⟨mo_192, List.forall_mem_cons.mpr ⟨mo_193, List.forall_mem_cons.mpr ⟨mo_194, List.forall_mem_cons.mpr ⟨mo_195, List.forall_mem_cons.mpr ⟨mo_196, List.forall_mem_cons.mpr ⟨mo_197, List.forall_mem_cons.mpr ⟨mo_198, List.forall_mem_cons.mpr ⟨mo_199, List.forall_mem_cons.mpr ⟨mo_200, List.forall_mem_cons.mpr ⟨mo_201, List.forall_mem_cons.mpr ⟨mo_202, List.forall_mem_cons.mpr ⟨mo_203, List.forall_mem_cons.mpr ⟨mo_204, List.forall_mem_cons.mpr ⟨mo_205, List.forall_mem_cons.mpr ⟨mo_206, List.forall_mem_cons.mpr ⟨mo_207, List.forall_mem_cons.mpr ⟨mo_208, List.forall_mem_cons.mpr ⟨mo_209, List.forall_mem_cons.mpr ⟨mo_210, List.forall_mem_cons.mpr ⟨mo_211, List.forall_mem_cons.mpr ⟨mo_212, List.forall_mem_cons.mpr ⟨mo_213, List.forall_mem_cons.mpr ⟨mo_214, List.forall_mem_cons.mpr ⟨mo_215, List.forall_mem_cons.mpr ⟨mo_216, List.forall_mem_cons.mpr ⟨mo_217, List.forall_mem_cons.mpr ⟨mo_218, List.forall_mem_cons.mpr ⟨mo_219, fun _ h => absurd h List.not_mem_nil⟩⟩⟩⟩⟩⟩⟩⟩⟩⟩⟩⟩⟩⟩⟩⟩⟩⟩⟩⟩⟩⟩⟩⟩⟩⟩⟩⟩
def mR : List Nat := mR0 ++ (mR1 ++ (mR2 ++ (mR3 ++ (mR4 ++ (mR5 ++ (mR6))))))
theorem mR_ok : ∀ m ∈ mR, mOK m = true := List.forall_mem_append.mpr ⟨mR0_ok, List.forall_mem_append.mpr ⟨mR1_ok, List.forall_mem_append.mpr ⟨mR2_ok, List.forall_mem_append.mpr ⟨mR3_ok, List.forall_mem_append.mpr ⟨mR4_ok, List.forall_mem_append.mpr ⟨mR5_ok, mR6_ok⟩⟩⟩⟩⟩⟩
theorem mR_in : ∀ m, m < 220 → m ∈ mR := by decide +kernel
