/-! THE SMALL MACHINE: values are whole numbers (each result in its type's range) or places in a list of cells; Wp is the least predicate that its rules close -/
abbrev mV : Type := Int ⊕ (Int ⊕ Option Nat)
abbrev mI (x : Int) : mV := .inl x
abbrev mL (x : Int) : mV := .inr (.inl x)
abbrev mR (k : Nat) : mV := .inr (.inr (some k))
abbrev mU : mV := .inr (.inr none)
/-- an object (its kind, its fields), an int[], a long[] -/
abbrev mC : Type := (Nat × List mV) ⊕ (List Int ⊕ List Int)
abbrev mO (c : Nat) (fs : List mV) : mC := .inl (c, fs)
abbrev mA (l : List Int) : mC := .inr (.inl l)
abbrev mJ (l : List Int) : mC := .inr (.inr l)
def inI (x : Int) : Prop := -2147483648 ≤ x ∧ x ≤ 2147483647
def inJ (x : Int) : Prop := -9223372036854775808 ≤ x ∧ x ≤ 9223372036854775807
def mLong (v : mV) : Bool := match v with
  | .inr (.inl _) => true
  | _ => false
def mCat (v : mV) : Nat := match v with
  | .inr (.inl _) => 2
  | _ => 1
def mCats (S : List mV) : Nat := (S.map mCat).sum
def mCmp (c : ClassFile.Cond) (x y : Int) : Bool := match c with
  | .eq => decide (x = y) | .ne => decide (x ≠ y) | .lt => decide (x < y) | .ge => decide (y ≤ x) | .gt => decide (y < x) | .le => decide (x ≤ y)
def mAnd (x y : Int) : Int := (Int32.ofInt x &&& Int32.ofInt y).toInt
def mOr (x y : Int) : Int := (Int32.ofInt x ||| Int32.ofInt y).toInt
def mShl (x y : Int) : Int := (Int32.ofInt x <<< (Int32.ofInt y &&& 31)).toInt
def mShr (x y : Int) : Int := (Int32.ofInt x >>> (Int32.ofInt y &&& 31)).toInt
def mUshr (x y : Int) : Int := ((Int32.ofInt x).toUInt32 >>> ((Int32.ofInt y).toUInt32 &&& Int32.toUInt32 31)).toInt32.toInt
def mCpy (l0 l1 : List Int) (sp dp n : Nat) : List Int := (List.range l1.length).map (fun k => if dp ≤ k ∧ k < dp + n then l0.getD (sp + (k - dp)) 0 else l1.getD k 0)
def mTy (ci k : Nat) : FieldType := match ci with
  | 0 => tyX0 k | 1 => tyX1 k | 2 => tyX2 k | 3 => tyX3 k | _ => tyX4 k
def mFin (ci k : Nat) : Bool := match vwCl[ci]? with
  | some r => (r.2.1 k).2.2.2
  | none => true
def mFit (t : FieldType) (v : mV) : Prop := match t, v with
  | .int, .inl _ => True
  | .boolean, .inl x => x = 0 ∨ x = 1
  | .long, .inr (.inl _) => True
  | .array _, .inr (.inr (some _)) => True
  | .object _, .inr (.inr (some _)) => True
  | _, _ => False
def mDef (t : FieldType) : mV := match t with
  | .int => mI 0
  | .boolean => mI 0
  | .long => mL 0
  | _ => mU
def mNf (ci : Nat) : Nat := match vwCl[ci]? with
  | some r => r.2.2
  | none => 0
def mDefs (ci : Nat) : List mV := (List.range (mNf ci)).map (fun k => mDef (mTy ci k))
/-- a local is written: the one before it is no long -/
def mBefore (L : List mV) (i : Nat) : Prop := i = 0 ∨ mLong (L.getD (i - 1) mU) = false
abbrev mS : Type := Nat × List mV × List mV × List mC × (Nat × Nat)
/-- one instruction that is no call of ours and no return: from a state to a state -/
def mSS (d own : Nat) (ini : Prop) (i : Instr) (len pc : Nat) (L S : List mV) (h : List mC) (b : Nat × Nat) (o : mS) : Prop := match i with
  | .aload k => ∃ a, len = 2 ∧ L[k]? = some (mR a) ∧ o = (pc + 2, L, mR a :: S, h, b)
  | .aload_n k => ∃ a, len = 1 ∧ L[k.val]? = some (mR a) ∧ o = (pc + 1, L, mR a :: S, h, b)
  | .iload k => ∃ x, len = 2 ∧ L[k]? = some (mI x) ∧ o = (pc + 2, L, mI x :: S, h, b)
  | .iload_n k => ∃ x, len = 1 ∧ L[k.val]? = some (mI x) ∧ o = (pc + 1, L, mI x :: S, h, b)
  | .lload k => ∃ x, len = 2 ∧ L[k]? = some (mL x) ∧ o = (pc + 2, L, mL x :: S, h, b)
  | .lload_n k => ∃ x, len = 1 ∧ L[k.val]? = some (mL x) ∧ o = (pc + 1, L, mL x :: S, h, b)
  | .astore k => ∃ a S', len = 2 ∧ S = mR a :: S' ∧ k < L.length ∧ mBefore L k ∧ o = (pc + 2, L.set k (mR a), S', h, b)
  | .astore_n k => ∃ a S', len = 1 ∧ S = mR a :: S' ∧ k.val < L.length ∧ mBefore L k.val ∧ o = (pc + 1, L.set k.val (mR a), S', h, b)
  | .istore k => ∃ x S', len = 2 ∧ S = mI x :: S' ∧ k < L.length ∧ mBefore L k ∧ o = (pc + 2, L.set k (mI x), S', h, b)
  | .istore_n k => ∃ x S', len = 1 ∧ S = mI x :: S' ∧ k.val < L.length ∧ mBefore L k.val ∧ o = (pc + 1, L.set k.val (mI x), S', h, b)
  | .lstore k => ∃ x S', len = 2 ∧ S = mL x :: S' ∧ k + 1 < L.length ∧ mBefore L k ∧ o = (pc + 2, (L.set k (mL x)).set (k + 1) mU, S', h, b)
  | .lstore_n k => ∃ x S', len = 1 ∧ S = mL x :: S' ∧ k.val + 1 < L.length ∧ mBefore L k.val ∧ o = (pc + 1, (L.set k.val (mL x)).set (k.val + 1) mU, S', h, b)
  | .iinc k n => ∃ x, len = 3 ∧ L[k]? = some (mI x) ∧ mBefore L k ∧ inI (x + n) ∧ o = (pc + 3, L.set k (mI (x + n)), S, h, b)
  | .iconst n => len = 1 ∧ inI n ∧ o = (pc + 1, L, mI n :: S, h, b)
  | .bipush n => len = 2 ∧ -128 ≤ n ∧ n < 128 ∧ o = (pc + 2, L, mI n :: S, h, b)
  | .sipush n => len = 3 ∧ -32768 ≤ n ∧ n < 32768 ∧ o = (pc + 3, L, mI n :: S, h, b)
  | .lconst n => len = 1 ∧ o = (pc + 1, L, mL (n : Nat) :: S, h, b)
  | .ldc2_w idx => ∃ x, len = 3 ∧ inJ x ∧ Cond.constantLong (mN own) idx (Int64.ofInt x) ∈ gT ∧ o = (pc + 3, L, mL x :: S, h, b)
  | .ldc_w idx => ∃ x, len = 3 ∧ inI x ∧ Cond.constant (mN own) idx (Int32.ofInt x) ∈ gT ∧ o = (pc + 3, L, mI x :: S, h, b)
  | .iadd => ∃ x y S', len = 1 ∧ S = mI y :: mI x :: S' ∧ inI (x + y) ∧ o = (pc + 1, L, mI (x + y) :: S', h, b)
  | .isub => ∃ x y S', len = 1 ∧ S = mI y :: mI x :: S' ∧ inI (x - y) ∧ o = (pc + 1, L, mI (x - y) :: S', h, b)
  | .imul => ∃ x y S', len = 1 ∧ S = mI y :: mI x :: S' ∧ inI (x * y) ∧ o = (pc + 1, L, mI (x * y) :: S', h, b)
  | .idiv => ∃ x y S', len = 1 ∧ S = mI y :: mI x :: S' ∧ 0 ≤ x ∧ 0 < y ∧ o = (pc + 1, L, mI (x / y) :: S', h, b)
  | .irem => ∃ x y S', len = 1 ∧ S = mI y :: mI x :: S' ∧ 0 ≤ x ∧ 0 < y ∧ o = (pc + 1, L, mI (x % y) :: S', h, b)
  | .ineg => ∃ x S', len = 1 ∧ S = mI x :: S' ∧ inI (-x) ∧ o = (pc + 1, L, mI (-x) :: S', h, b)
  | .iand => ∃ x y S', len = 1 ∧ S = mI y :: mI x :: S' ∧ o = (pc + 1, L, mI (mAnd x y) :: S', h, b)
  | .ior => ∃ x y S', len = 1 ∧ S = mI y :: mI x :: S' ∧ o = (pc + 1, L, mI (mOr x y) :: S', h, b)
  | .ishl => ∃ x y S', len = 1 ∧ S = mI y :: mI x :: S' ∧ o = (pc + 1, L, mI (mShl x y) :: S', h, b)
  | .ishr => ∃ x y S', len = 1 ∧ S = mI y :: mI x :: S' ∧ o = (pc + 1, L, mI (mShr x y) :: S', h, b)
  | .iushr => ∃ x y S', len = 1 ∧ S = mI y :: mI x :: S' ∧ o = (pc + 1, L, mI (mUshr x y) :: S', h, b)
  | .ladd => ∃ x y S', len = 1 ∧ S = mL y :: mL x :: S' ∧ inJ (x + y) ∧ o = (pc + 1, L, mL (x + y) :: S', h, b)
  | .lsub => ∃ x y S', len = 1 ∧ S = mL y :: mL x :: S' ∧ inJ (x - y) ∧ o = (pc + 1, L, mL (x - y) :: S', h, b)
  | .lmul => ∃ x y S', len = 1 ∧ S = mL y :: mL x :: S' ∧ inJ (x * y) ∧ o = (pc + 1, L, mL (x * y) :: S', h, b)
  | .ldiv => ∃ x y S', len = 1 ∧ S = mL y :: mL x :: S' ∧ 0 ≤ x ∧ 0 < y ∧ o = (pc + 1, L, mL (x / y) :: S', h, b)
  | .lrem => ∃ x y S', len = 1 ∧ S = mL y :: mL x :: S' ∧ 0 ≤ x ∧ 0 < y ∧ o = (pc + 1, L, mL (x % y) :: S', h, b)
  | .lcmp => ∃ x y S', len = 1 ∧ S = mL y :: mL x :: S' ∧ o = (pc + 1, L, mI (if y < x then 1 else if x = y then 0 else -1) :: S', h, b)
  | .i2l => ∃ x S', len = 1 ∧ S = mI x :: S' ∧ o = (pc + 1, L, mL x :: S', h, b)
  | .dup => ∃ v S', len = 1 ∧ S = v :: S' ∧ mLong v = false ∧ o = (pc + 1, L, v :: v :: S', h, b)
  | .dup2 => ∃ v w S', len = 1 ∧ S = v :: w :: S' ∧ mLong v = false ∧ mLong w = false ∧ o = (pc + 1, L, v :: w :: v :: w :: S', h, b)
  | .goto off => ∃ t : Nat, len = 3 ∧ (pc : Int) + off = (t : Int) ∧ o = (t, L, S, h, b)
  | .if_icmp c off => ∃ (x y : Int) (S' : List mV) (t : Nat), len = 3 ∧ S = mI y :: mI x :: S' ∧ (pc : Int) + off = (t : Int) ∧ o = (if mCmp c x y = true then t else pc + 3, L, S', h, b)
  | .ifCond c off => ∃ (x : Int) (S' : List mV) (t : Nat), len = 3 ∧ S = mI x :: S' ∧ (pc : Int) + off = (t : Int) ∧ o = (if mCmp c x 0 = true then t else pc + 3, L, S', h, b)
  | .tableswitch df lo hi offs => ∃ (x : Int) (S' : List mV) (t : Nat), S = mI x :: S' ∧ (((x < lo ∨ hi < x) ∧ (pc : Int) + df = (t : Int)) ∨ (lo ≤ x ∧ x ≤ hi ∧ ∃ off : Int, offs[(x - lo).toNat]? = some off ∧ (pc : Int) + off = (t : Int))) ∧ o = (t, L, S', h, b)
  | .arraylength => ∃ a c n S', len = 1 ∧ S = mR a :: S' ∧ h[a]? = some c ∧ (c = mA n ∨ c = mJ n) ∧ n.length < 2147483648 ∧ o = (pc + 1, L, mI n.length :: S', h, b)
  | .iaload => ∃ x a l S', len = 1 ∧ S = mI x :: mR a :: S' ∧ h[a]? = some (mA l) ∧ 0 ≤ x ∧ x < l.length ∧ o = (pc + 1, L, mI (l.getD x.toNat 0) :: S', h, b)
  | .laload => ∃ x a l S', len = 1 ∧ S = mI x :: mR a :: S' ∧ h[a]? = some (mJ l) ∧ 0 ≤ x ∧ x < l.length ∧ o = (pc + 1, L, mL (l.getD x.toNat 0) :: S', h, b)
  | .iastore => ∃ v x a l S', len = 1 ∧ S = mI v :: mI x :: mR a :: S' ∧ 2 ≤ a ∧ h[a]? = some (mA l) ∧ 0 ≤ x ∧ x < l.length ∧ o = (pc + 1, L, S', h.set a (mA (l.set x.toNat v)), b)
  | .lastore => ∃ v x a l S', len = 1 ∧ S = mL v :: mI x :: mR a :: S' ∧ 2 ≤ a ∧ h[a]? = some (mJ l) ∧ 0 ≤ x ∧ x < l.length ∧ o = (pc + 1, L, S', h.set a (mJ (l.set x.toNat v)), b)
  | .getfield idx => ∃ a ci fs k v S', len = 3 ∧ S = mR a :: S' ∧ mFok own idx ci k ∧ 2 ≤ a ∧ h[a]? = some (mO ci fs) ∧ fs[k]? = some v ∧ v ≠ mU ∧ o = (pc + 3, L, v :: S', h, b)
  | .putfield idx => ∃ a ci fs k v S', len = 3 ∧ S = v :: mR a :: S' ∧ mFok own idx ci k ∧ 2 ≤ a ∧ h[a]? = some (mO ci fs) ∧ k < fs.length ∧ mFit (mTy ci k) v ∧ (mFin ci k = true → ini ∧ own = ci) ∧ o = (pc + 3, L, S', h.set a (mO ci (fs.set k v)), b)
  | .getstatic idx => len = 3 ∧ Cond.fieldLink (mN own) idx "CupDraws" "PARTS" "[J" ∈ gT ∧ o = (pc + 3, L, mR 0 :: S, h, b)
  | .new idx => ∃ ci, len = 3 ∧ mNok own idx ci ∧ 1 ≤ b.1 ∧ mNf ci ≤ b.2 ∧ o = (pc + 3, L, mR h.length :: S, h ++ [mO ci (mDefs ci)], (b.1 - 1, b.2 - mNf ci))
  | .newarray t => ∃ x S', len = 2 ∧ S = mI x :: S' ∧ 0 ≤ x ∧ x ≤ 10000 ∧ 1 ≤ b.1 ∧ x.toNat ≤ b.2 ∧ ((t = .int ∧ o = (pc + 2, L, mR h.length :: S', h ++ [mA (List.replicate x.toNat 0)], (b.1 - 1, b.2 - x.toNat))) ∨ (t = .long ∧ o = (pc + 2, L, mR h.length :: S', h ++ [mJ (List.replicate x.toNat 0)], (b.1 - 1, b.2 - x.toNat))))
  | .invokespecial idx => ∃ a S', len = 3 ∧ 1 ≤ d ∧ S = mR a :: S' ∧ mCats S' ≤ 8 ∧ Cond.methodLink (mN own) idx objectInit ∈ gT ∧ o = (pc + 3, L, S', h, b)
  | .invokestatic idx => ∃ n dp sp a1 a0 l0 l1 S', len = 3 ∧ 1 ≤ d ∧ S = mI n :: mI dp :: mR a1 :: mI sp :: mR a0 :: S' ∧ mCats S' ≤ 8 ∧ Cond.methodLink (mN own) idx arraycopyName ∈ gT ∧ 2 ≤ a1 ∧ 2 ≤ a0 ∧ h[a0]? = some (mA l0) ∧ h[a1]? = some (mA l1) ∧ 0 ≤ n ∧ 0 ≤ sp ∧ 0 ≤ dp ∧ sp + n ≤ l0.length ∧ dp + n ≤ l1.length ∧ o = (pc + 3, L, S', h.set a1 (mA (mCpy l0 l1 sp.toNat dp.toNat n.toNat)), b)
  | _ => False
/-- a return: what is answered -/
def mRR (ret : Option FieldType) (i : Instr) (len : Nat) (S : List mV) (r : Option mV) : Prop := match i with
  | .ireturn => ∃ x, len = 1 ∧ S = [mI x] ∧ (ret = some .int ∨ (ret = some .boolean ∧ (x = 0 ∨ x = 1))) ∧ r = some (mI x)
  | .lreturn => ∃ x, len = 1 ∧ S = [mL x] ∧ ret = some .long ∧ r = some (mL x)
  | .return_ => len = 1 ∧ S = [] ∧ ret = none ∧ r = none
  | _ => False
/-- which call instruction, by its kind -/
def mInv (kind : Nat) (i : Instr) (idx : Nat) : Prop := match kind with
  | 0 => i = .invokevirtual idx
  | 2 => i = .invokespecial idx
  | _ => i = .invokestatic idx
/-- the arguments as locals -/
def mArgs (n : Nat) (As : List mV) : List mV := (As.flatMap (fun v => if mLong v = true then [v, mU] else [v])) ++ List.replicate (n - (As.flatMap (fun v => if mLong v = true then [v, mU] else [v])).length) mU
abbrev mP : Type := Nat → mM → Nat → List mV → List mV → List mC → (Nat × Nat) → (Option mV → List mC → Prop) → Prop
/-- a call of ours -/
def mCC (P : mP) (d : Nat) (M : mM) (i : Instr) (len pc : Nat) (L S : List mV) (h : List mC) (b : Nat × Nat) (Q : Option mV → List mC → Prop) : Prop :=
  ∃ (d' idx kind n : Nat) (M' : mM) (As rest : List mV) (Q' : Option mV → List mC → Prop), d = d' + 1 ∧ len = 3 ∧ mInv kind i idx ∧ mTok (mOwn M) idx kind n M' ∧
    S = As.reverse ++ rest ∧ As.length = (if kind = 0 ∨ kind = 2 then n + 1 else n) ∧ mCats rest ≤ 8 ∧ (mArgs (mMax M') As).length = mMax M' ∧
    (kind = 0 ∨ kind = 2 → ∃ a fs, As[0]? = some (mR a) ∧ 2 ≤ a ∧ h[a]? = some (mO (mOwn M') fs)) ∧ mCel M' ≤ b.1 ∧ mSlo M' ≤ b.2 ∧
    P d' M' 0 (mArgs (mMax M') As) [] h (mCel M', mSlo M') Q' ∧ ∀ (r : Option mV) (h' : List mC), Q' r h' → P d M (pc + 3) L (r.toList ++ rest) h' (b.1 - mCel M', b.2 - mSlo M') Q
def mF (P : mP) : mP := fun d M pc L S h b Q => ∃ (i : Instr) (len : Nat), decode (mCode M) pc = .ok (i, len) ∧
  ((∃ o : mS, mSS d (mOwn M) ((mY M).name = "<init>") i len pc L S h b o ∧ P d M o.1 o.2.1 o.2.2.1 o.2.2.2.1 o.2.2.2.2 Q) ∨ (∃ r, mRR (mRet M) i len S r ∧ Q r h) ∨ mCC P d M i len pc L S h b Q)
def mLe (P P' : mP) : Prop := ∀ d M pc L S h b Q, P d M pc L S h b Q → P' d M pc L S h b Q
theorem mF_mono {P P' : mP} (hP : mLe P P') : mLe (mF P) (mF P') := by
  rintro d M pc L S h b Q ⟨i, len, hd, hc⟩
  refine ⟨i, len, hd, ?_⟩
  rcases hc with ⟨o, h1, h2⟩ | ⟨r, h1, h2⟩ | ⟨d', idx, kind, n, M', As, rest, Q', e1, e2, e3, e4, e5, e6, e7, e8, e9, e10, e11, e12, e13⟩
  · exact Or.inl ⟨o, h1, hP _ _ _ _ _ _ _ _ h2⟩
  · exact Or.inr (Or.inl ⟨r, h1, h2⟩)
  · exact Or.inr (Or.inr ⟨d', idx, kind, n, M', As, rest, Q', e1, e2, e3, e4, e5, e6, e7, e8, e9, e10, e11, hP _ _ _ _ _ _ _ _ e12, fun r h' hr => hP _ _ _ _ _ _ _ _ (e13 r h' hr)⟩)
/-- the least predicate that the rules close -/
def Wp : mP := fun d M pc L S h b Q => ∀ P : mP, mLe (mF P) P → P d M pc L S h b Q
theorem Wp_close : mLe (mF Wp) Wp := fun d M pc L S h b Q hF P hP => hP _ _ _ _ _ _ _ _ (mF_mono (fun _ _ _ _ _ _ _ _ hw => hw P hP) _ _ _ _ _ _ _ _ hF)
theorem Wp_ind {P : mP} (hP : mLe (mF P) P) : mLe Wp P := fun _ _ _ _ _ _ _ _ hw => hw P hP
theorem wp_ss {d : Nat} {M : mM} {pc : Nat} {L S : List mV} {h : List mC} {b : Nat × Nat} {Q : Option mV → List mC → Prop} {i : Instr} {len : Nat} (hd : decode (mCode M) pc = .ok (i, len)) (o : mS)
    (hs : mSS d (mOwn M) ((mY M).name = "<init>") i len pc L S h b o) (k : Wp d M o.1 o.2.1 o.2.2.1 o.2.2.2.1 o.2.2.2.2 Q) : Wp d M pc L S h b Q :=
  Wp_close _ _ _ _ _ _ _ _ ⟨i, len, hd, Or.inl ⟨o, hs, k⟩⟩
theorem wp_rr {d : Nat} {M : mM} {pc : Nat} {L S : List mV} {h : List mC} {b : Nat × Nat} {Q : Option mV → List mC → Prop} {i : Instr} {len : Nat} (hd : decode (mCode M) pc = .ok (i, len)) (r : Option mV)
    (hs : mRR (mRet M) i len S r) (k : Q r h) : Wp d M pc L S h b Q :=
  Wp_close _ _ _ _ _ _ _ _ ⟨i, len, hd, Or.inr (Or.inl ⟨r, hs, k⟩)⟩
theorem wp_cc {d : Nat} {M : mM} {pc : Nat} {L S : List mV} {h : List mC} {b : Nat × Nat} {Q : Option mV → List mC → Prop} {i : Instr} {len : Nat} (hd : decode (mCode M) pc = .ok (i, len))
    (hs : mCC Wp d M i len pc L S h b Q) : Wp d M pc L S h b Q :=
  Wp_close _ _ _ _ _ _ _ _ ⟨i, len, hd, Or.inr (Or.inr hs)⟩
/-- a weaker end -/
theorem wp_post {d : Nat} {M : mM} {pc : Nat} {L S : List mV} {h : List mC} {b : Nat × Nat} {Q Q2 : Option mV → List mC → Prop} (k : Wp d M pc L S h b Q) (hQ : ∀ r h', Q r h' → Q2 r h') : Wp d M pc L S h b Q2 := by
  have key : mLe Wp (fun d M pc L S h b Q => ∀ Q2 : Option mV → List mC → Prop, (∀ r h', Q r h' → Q2 r h') → Wp d M pc L S h b Q2) := by
    refine Wp_ind ?_
    rintro d M pc L S h b Q ⟨i, len, hd, hc⟩ Q2 hQ
    refine Wp_close _ _ _ _ _ _ _ _ ⟨i, len, hd, ?_⟩
    rcases hc with ⟨o, h1, h2⟩ | ⟨r, h1, h2⟩ | ⟨d', idx, kind, n, M', As, rest, Q', e1, e2, e3, e4, e5, e6, e7, e8, e9, e10, e11, e12, e13⟩
    · exact Or.inl ⟨o, h1, h2 Q2 hQ⟩
    · exact Or.inr (Or.inl ⟨r, h1, hQ _ _ h2⟩)
    · exact Or.inr (Or.inr ⟨d', idx, kind, n, M', As, rest, Q', e1, e2, e3, e4, e5, e6, e7, e8, e9, e10, e11, e12 Q' (fun _ _ q => q), fun r h' hr => e13 r h' hr Q2 hQ⟩)
  exact key _ _ _ _ _ _ _ _ k Q2 hQ
/-- a depth that is larger does no harm -/
theorem wp_deep {d : Nat} {M : mM} {pc : Nat} {L S : List mV} {h : List mC} {b : Nat × Nat} {Q : Option mV → List mC → Prop} (k : Wp d M pc L S h b Q) : ∀ j, Wp (d + j) M pc L S h b Q := by
  have key : mLe Wp (fun d M pc L S h b Q => ∀ j, Wp (d + j) M pc L S h b Q) := by
    refine Wp_ind ?_
    rintro d M pc L S h b Q ⟨i, len, hd, hc⟩ j
    refine Wp_close _ _ _ _ _ _ _ _ ⟨i, len, hd, ?_⟩
    rcases hc with ⟨o, h1, h2⟩ | ⟨r, h1, h2⟩ | ⟨d', idx, kind, n, M', As, rest, Q', e1, e2, e3, e4, e5, e6, e7, e8, e9, e10, e11, e12, e13⟩
    · refine Or.inl ⟨o, ?_, h2 j⟩
      cases i <;> simp only [mSS] at h1 ⊢ <;> try exact h1
      · obtain ⟨a, S', q1, q2, q3⟩ := h1
        exact ⟨a, S', q1, by omega, q3⟩
      · obtain ⟨a1, a2, a3, a4, a5, a6, a7, a8, q1, q2, q3⟩ := h1
        exact ⟨a1, a2, a3, a4, a5, a6, a7, a8, q1, by omega, q3⟩
    · exact Or.inr (Or.inl ⟨r, h1, h2⟩)
    · exact Or.inr (Or.inr ⟨d' + j, idx, kind, n, M', As, rest, Q', by omega, e2, e3, e4, e5, e6, e7, e8, e9, e10, e11, e12 j, fun r h' hr => e13 r h' hr j⟩)
  exact key _ _ _ _ _ _ _ _ k
