/-! ONE INSTRUCTION of the small machine is one of the machine -/
def mPT : List Int := [1, 12, 1728, 35831808]
/-- the links to nest mates -/
def mNs (U : State) : Prop := ∀ (own idx : Nat) (y : MethodName), Cond.methodLinkNest (mN own) idx y "CupDraws" ∈ lw_tbl → va_Nw (.methodLinkNest (mN own) idx y "CupDraws") U
/-- what lies outside: the table PARTS, the script; z0: from here on cells may be written -/
def mGl (z0 t0 b0 : Nat) (xs : List Int) (U : State) (H : Heap) : Prop :=
  va_Z "CupDraws" "PARTS" "[J" (.ref t0) (fun q => z0 ≤ q) U H ∧ va_T .long t0 4 (fun j => .long (Int64.ofInt (mPT.getD j 0))) (fun q => z0 ≤ q) U H ∧ va_X b0 xs.length (fun j => Int32.ofInt (xs.getD j 0)) U H ∧ b0 < z0 ∧ t0 < z0 ∧ z0 ≤ H.size
theorem mGl.moved {z0 t0 b0 : Nat} {xs : List Int} {u U : State} {H : Heap} (hvm : u.vm.Alike U.vm) (h : mGl z0 t0 b0 xs u H) : mGl z0 t0 b0 xs U H := ⟨va_Z.moved hvm h.1, va_T.moved hvm h.2.1, va_X.moved hvm h.2.2.1, h.2.2.2⟩
theorem mGl.kept {z0 t0 b0 : Nat} {xs : List Int} {U : State} {H H1 : Heap} (h : mGl z0 t0 b0 xs U H) (hz : H.size ≤ H1.size) (hq : ∀ a : Nat, a < H.size → ¬ z0 ≤ a → H1[a]? = H[a]?) : mGl z0 t0 b0 xs U H1 :=
  ⟨h.1.kept hq, h.2.1.kept hq, h.2.2.1.kept (hq b0 (by have := h.2.2.2.1; have := h.2.2.2.2.2; omega) (by have := h.2.2.2.1; omega)), h.2.2.2.1, h.2.2.2.2.1, Nat.le_trans h.2.2.2.2.2 hz⟩
/-- the two cells that are read alone -/
def mRo (t0 b0 : Nat) (xs : List Int) (ad : List Nat) (h : List mC) : Prop := ad[0]? = some t0 ∧ ad[1]? = some b0 ∧ h[0]? = some (mJ mPT) ∧ h[1]? = some (mA xs)
/-- a world: the cells at their addresses -/
def mWor (dC : Nat → ClassId) (dI : Nat → Nat → Nat) (cI cJ : ClassId) (t0 b0 : Nat) (xs : List Int) (A : Nat → Prop) (H0 H : Heap) (locs : List Loc) (ad : List Nat) (h : List mC) : Prop :=
  va_P (dC, dI) vwCl (mwd cI cJ ad h) H ∧ va_D A (mwd cI cJ ad h) ∧ va_S A H0 H locs ∧ mhok h ∧ ad.length = h.length ∧ mRo t0 b0 xs ad h
/-- locals and stack -/
def mLS (ad : List Nat) (nL : Nat) (n : Nat) (L S : List mV) (ls : Array Slot) : Prop := (∀ v ∈ S, mok n v) ∧ (∀ v ∈ L, mok n v) ∧ lv_has ls nL (lvOf ad L) ∧ L.length = nL
theorem mRo.two {t0 b0 : Nat} {xs : List Int} {ad : List Nat} {h : List mC} (hr : mRo t0 b0 xs ad h) : 2 ≤ h.length := by
  have := (List.getElem?_eq_some_iff.mp hr.2.2.2).1
  omega
theorem mRo.set {t0 b0 : Nat} {xs : List Int} {ad : List Nat} {h : List mC} {k : Nat} {c : mC} (hr : mRo t0 b0 xs ad h) (hk : 2 ≤ k) : mRo t0 b0 xs ad (h.set k c) :=
  ⟨hr.1, hr.2.1, by rw [List.getElem?_set_ne (by omega)]; exact hr.2.2.1, by rw [List.getElem?_set_ne (by omega)]; exact hr.2.2.2⟩
theorem mRo.push {t0 b0 : Nat} {xs : List Int} {ad : List Nat} {h : List mC} {q : Nat} {c : mC} (hr : mRo t0 b0 xs ad h) : mRo t0 b0 xs (ad ++ [q]) (h ++ [c]) := by
  have f : ∀ {α : Type} {l : List α} {k : Nat} {a x : α}, l[k]? = some a → (l ++ [x])[k]? = some a := by
    intro α l k a x hk
    rw [List.getElem?_append_left (List.getElem?_eq_some_iff.mp hk).1]
    exact hk
  exact ⟨f hr.1, f hr.2.1, f hr.2.2.1, f hr.2.2.2⟩
theorem mfits {t : FieldType} {v : mV} {ad : List Nat} (h : mFit t v) : narrow t (mtau ad v) = mtau ad v ∧ fits t (mtau ad v) = true := by
  rcases v with x | x | _ | k <;> cases t <;> simp only [mFit] at h <;> first | exact h.elim | exact ⟨rfl, rfl⟩ | (rcases h with rfl | rfl <;> exact ⟨rfl, rfl⟩)
/-- what the tables say of a class, by its number -/
theorem mcls {ci : Nat} {r : vw_C} (h : vwCl[ci]? = some r) : (∀ w ∈ u_ws r.1 r.2.1 r.2.2, w ∈ gT) ∧ (∀ k, k < r.2.2 → parseFieldDescriptor (r.2.1 k).2.2.1 = some (mTy ci k)) ∧ (∀ a, a < r.2.2 → ∀ b, b < r.2.2 → a ≠ b → (r.2.1 a).2.1 ≠ (r.2.1 b).2.1) ∧ mN ci = r.1 ∧ (∀ k, k < r.2.2 → (r.2.1 k).1 = r.1) ∧ (∀ k, k < r.2.2 → ∀ ad, defaultValue (mTy ci k) = mtau ad (mDef (mTy ci k))) ∧ mNf ci = r.2.2 ∧ ci < 5 := by
  have dv : ∀ t : FieldType, (t = .int ∨ t = .boolean ∨ t = .long ∨ t = .array .int ∨ t = .array .long ∨ (∃ n, t = .object n)) → ∀ ad, defaultValue t = mtau ad (mDef t) := by
    rintro t (rfl | rfl | rfl | rfl | rfl | ⟨n, rfl⟩) ad <;> rfl
  match ci, h with
  | 0, h =>
    cases h
    refine ⟨inX0, tyX0_ok, nmX0, rfl, by decide, fun k hk => dv _ ?_, rfl, by omega⟩
    revert k
    show ∀ k, k < 4 → _
    intro k hk
    match k, hk with
    | 0, _ => exact Or.inl rfl
    | 1, _ => simp [mTy, tyX0]
    | 2, _ => simp [mTy, tyX0]
    | 3, _ => simp [mTy, tyX0]
    | k + 4, hk => omega
  | 1, h =>
    cases h
    refine ⟨inX1, tyX1_ok, nmX1, rfl, by decide, fun k hk => dv _ ?_, rfl, by omega⟩
    revert k
    show ∀ k, k < 4 → _
    intro k hk
    match k, hk with
    | 0, _ => exact Or.inl rfl
    | 1, _ => simp [mTy, tyX1]
    | 2, _ => simp [mTy, tyX1]
    | 3, _ => simp [mTy, tyX1]
    | k + 4, hk => omega
  | 2, h =>
    cases h
    refine ⟨inX2, tyX2_ok, nmX2, rfl, by decide, fun k hk => dv _ ?_, rfl, by omega⟩
    revert k
    show ∀ k, k < 3 → _
    intro k hk
    match k, hk with
    | 0, _ => exact Or.inl rfl
    | 1, _ => simp [mTy, tyX2]
    | 2, _ => simp [mTy, tyX2]
    | k + 3, hk => omega
  | 3, h =>
    cases h
    refine ⟨inX3, tyX3_ok, nmX3, rfl, by decide, fun k hk => dv _ ?_, rfl, by omega⟩
    revert k
    show ∀ k, k < 6 → _
    intro k hk
    match k, hk with
    | 0, _ => simp [mTy, tyX3]
    | 1, _ => simp [mTy, tyX3]
    | 2, _ => simp [mTy, tyX3]
    | 3, _ => simp [mTy, tyX3]
    | 4, _ => simp [mTy, tyX3]
    | 5, _ => simp [mTy, tyX3]
    | k + 6, hk => omega
  | 4, h =>
    cases h
    refine ⟨inX4, tyX4_ok, nmX4, rfl, by decide, fun k hk => dv _ ?_, rfl, by omega⟩
    revert k
    show ∀ k, k < 19 → _
    intro k hk
    have : ∀ k, k < 19 → (tyX4 k = .int ∨ tyX4 k = .boolean ∨ tyX4 k = .long ∨ tyX4 k = .array .int ∨ tyX4 k = .array .long) := by decide
    rcases this k hk with h | h | h | h | h <;> simp [mTy, h]
  | ci + 5, h => simp [vwCl] at h
section MST
variable {p : Program} {l : Launch} {e : Env} {R : Room} {s : State} {m : MethodId} {args : Array Value} {below : List Frame} {meth : Method} {c : Code} {H : Heap} {locs : List Loc} {cells slots : Nat} {Qr : State → Prop}
variable {cc : ByteArray} {pc : Nat} {ls : Array Slot} {dC : Nat → ClassId} {dI : Nat → Nat → Nat} {cI cJ : ClassId} {z0 t0 b0 : Nat} {xs : List Int} {A : Nat → Prop} {ad : List Nat} {h : List mC} {L S : List mV} {nL : Nat}
theorem m_laload (hx : p.tables.exec = Jvm.exec) (hb : c.code = cc) (hK : va_K (dC, dI) vwCl [(cI, .int), (cJ, .long)] s) (hG : mGl z0 t0 b0 xs s s.heap) (hAz : ∀ q, A q → z0 ≤ q) (hW : mWor dC dI cI cJ t0 b0 xs A s.heap H locs ad h)
    {a : Nat} {x : Int} {li : List Int} {rest : List Value} (hc : h[a]? = some (mJ li)) (h0 : 0 ≤ x) (h1 : x < li.length) (hxr : inI x) (hd : decode cc pc = .ok (.laload, 1))
    (K : W p l e R s m args below meth c H locs cells slots Qr (F0 m (pc + 1) ls (mtau ad (mL (li.getD x.toNat 0)) :: rest))) : W p l e R s m args below meth c H locs cells slots Qr (F0 m pc ls (mtau ad (mI x) :: mtau ad (mR a) :: rest)) := by
  obtain ⟨hP, hD, hS, hok, hlen, hro⟩ := hW
  by_cases ha : 2 ≤ a
  · have hg := mwd_get (cI := cI) (cJ := cJ) (ad := ad) hlen ha hc
    refine va_lald (cA := cJ) hx hb hK hP (a - 2) 1 hg rfl (cI_vp h0 h1 hxr) hd ?_
    rw [cI_cl hxr]
    exact K
  · have ha2 : a = 0 ∨ a = 1 := by omega
    rcases ha2 with rfl | rfl
    · have e : li = mPT := by
        have := hc.symm.trans hro.2.2.1
        simpa using this
      subst e
      have e2 : ad.getD 0 0 = t0 := by rw [List.getD_eq_getElem?_getD, hro.1]; rfl
      show W p l e R s m args below meth c H locs cells slots Qr (F0 m pc ls (.int (Int32.ofInt x) :: .ref (ad.getD 0 0) :: rest))
      rw [e2]
      refine va_tl (t := t0) (N := 4) (v := mtau ad (mL (mPT.getD x.toNat 0))) hx hb (hG.2.1.narrow hAz) hS (cI_vp h0 h1 hxr) ?_ hd K
      rw [cI_cl hxr]
      rfl
    · have := hc.symm.trans hro.2.2.2
      simp at this
theorem m_iaload (hx : p.tables.exec = Jvm.exec) (hb : c.code = cc) (hK : va_K (dC, dI) vwCl [(cI, .int), (cJ, .long)] s) (hG : mGl z0 t0 b0 xs s s.heap) (hAz : ∀ q, A q → z0 ≤ q) (hW : mWor dC dI cI cJ t0 b0 xs A s.heap H locs ad h)
    {a : Nat} {x : Int} {li : List Int} {rest : List Value} (hc : h[a]? = some (mA li)) (h0 : 0 ≤ x) (h1 : x < li.length) (hxr : inI x) (hd : decode cc pc = .ok (.iaload, 1))
    (K : W p l e R s m args below meth c H locs cells slots Qr (F0 m (pc + 1) ls (mtau ad (mI (li.getD x.toNat 0)) :: rest))) : W p l e R s m args below meth c H locs cells slots Qr (F0 m pc ls (mtau ad (mI x) :: mtau ad (mR a) :: rest)) := by
  obtain ⟨hP, hD, hS, hok, hlen, hro⟩ := hW
  by_cases ha : 2 ≤ a
  · have hg := mwd_get (cI := cI) (cJ := cJ) (ad := ad) hlen ha hc
    refine va_iald (cA := cI) hx hb hK hP (a - 2) 0 hg rfl (cI_vp h0 h1 hxr) hd ?_
    rw [cI_cl hxr]
    exact K
  · have ha2 : a = 0 ∨ a = 1 := by omega
    rcases ha2 with rfl | rfl
    · have := hc.symm.trans hro.2.2.1
      simp at this
    · have e : li = xs := by
        have := hc.symm.trans hro.2.2.2
        simpa using this
      subst e
      have e2 : ad.getD 1 0 = b0 := by rw [List.getD_eq_getElem?_getD, hro.2.1]; rfl
      have hbA : ¬ A b0 := fun q => by have := hAz _ q; have := hG.2.2.2.1; omega
      show W p l e R s m args below meth c H locs cells slots Qr (F0 m pc ls (.int (Int32.ofInt x) :: .ref (ad.getD 1 0) :: rest))
      rw [e2]
      refine va_sld hx hb hG.2.2.1 (by have := hG.2.2.2; omega) hbA hS (cI_vp h0 h1 hxr) hd ?_
      rw [cI_cl hxr]
      exact K
theorem m_alen (hx : p.tables.exec = Jvm.exec) (hb : c.code = cc) (hK : va_K (dC, dI) vwCl [(cI, .int), (cJ, .long)] s) (hG : mGl z0 t0 b0 xs s s.heap) (hAz : ∀ q, A q → z0 ≤ q) (hW : mWor dC dI cI cJ t0 b0 xs A s.heap H locs ad h)
    {a : Nat} {ce : mC} {li : List Int} {rest : List Value} (hc : h[a]? = some ce) (hce : ce = mA li ∨ ce = mJ li) (hn : li.length < 2147483648) (hd : decode cc pc = .ok (.arraylength, 1))
    (K : W p l e R s m args below meth c H locs cells slots Qr (F0 m (pc + 1) ls (mtau ad (mI li.length) :: rest))) : W p l e R s m args below meth c H locs cells slots Qr (F0 m pc ls (mtau ad (mR a) :: rest)) := by
  obtain ⟨hP, hD, hS, hok, hlen, hro⟩ := hW
  by_cases ha : 2 ≤ a
  · have hg := mwd_get (cI := cI) (cJ := cJ) (ad := ad) hlen ha hc
    rcases hce with rfl | rfl
    · refine va_alen (cA := cI) (ty := .int) (v := Int32.ofInt li.length) hx hb hK hP (a - 2) 0 hg rfl ?_ hd K
      exact (Int32.ofInt_eq_ofNat).symm
    · refine va_alen (cA := cJ) (ty := .long) (v := Int32.ofInt li.length) hx hb hK hP (a - 2) 1 hg rfl ?_ hd K
      exact (Int32.ofInt_eq_ofNat).symm
  · have ha2 : a = 0 ∨ a = 1 := by omega
    rcases ha2 with rfl | rfl
    · have ee : ce = mJ mPT := Option.some.inj (hc.symm.trans hro.2.2.1)
      have e3 : li = mPT := by
        rcases hce with h1 | h1 <;> rw [ee] at h1 <;> simp at h1
        exact h1.symm
      subst e3
      have e2 : ad.getD 0 0 = t0 := by rw [List.getD_eq_getElem?_getD, hro.1]; rfl
      show W p l e R s m args below meth c H locs cells slots Qr (F0 m pc ls (.ref (ad.getD 0 0) :: rest))
      rw [e2]
      exact va_tlen (ty := .long) (N := 4) (v := Int32.ofInt (mPT.length : Nat)) hx hb (hG.2.1.narrow hAz) hS rfl hd K
    · have ee : ce = mA xs := Option.some.inj (hc.symm.trans hro.2.2.2)
      have e3 : li = xs := by
        rcases hce with h1 | h1 <;> rw [ee] at h1 <;> simp at h1
        exact h1.symm
      subst e3
      have e2 : ad.getD 1 0 = b0 := by rw [List.getD_eq_getElem?_getD, hro.2.1]; rfl
      have hbA : ¬ A b0 := fun q => by have := hAz _ q; have := hG.2.2.2.1; omega
      show W p l e R s m args below meth c H locs cells slots Qr (F0 m pc ls (.ref (ad.getD 1 0) :: rest))
      rw [e2]
      refine va_slen hx hb hG.2.2.1 (by have := hG.2.2.2; omega) hbA hS hd ?_
      rw [← Int32.ofInt_eq_ofNat]
      exact K
theorem enc_seti {l : List Int} {i : Nat} {v : Int} (hi : i < l.length) : (fun j => Int32.ofInt ((l.set i v).getD j 0)) = upd (fun j => Int32.ofInt (l.getD j 0)) i (Int32.ofInt v) := by
  funext j
  unfold upd
  simp only [List.getD_eq_getElem?_getD, List.getElem?_set]
  by_cases e : j = i
  · subst e
    simp [hi]
  · rw [if_neg (fun q => e q.symm), if_neg e]
theorem enc_setl {l : List Int} {i : Nat} {v : Int} (hi : i < l.length) : (fun j => Int64.ofInt ((l.set i v).getD j 0)) = vp_updL (fun j => Int64.ofInt (l.getD j 0)) i (Int64.ofInt v) := by
  funext j
  unfold vp_updL
  simp only [List.getD_eq_getElem?_getD, List.getElem?_set]
  by_cases e : j = i
  · subst e
    simp [hi]
  · rw [if_neg (fun q => e q.symm), if_neg e]
theorem mem_seti {l : List Int} {i : Nat} {v : Int} {P : Int → Prop} (h : ∀ x ∈ l, P x) (hv : P v) : ∀ x ∈ l.set i v, P x := by
  intro x hx
  rcases List.mem_or_eq_of_mem_set hx with hx | rfl
  · exact h x hx
  · exact hv
theorem m_iastore (hx : p.tables.exec = Jvm.exec) (hb : c.code = cc) (hK : va_K (dC, dI) vwCl [(cI, .int), (cJ, .long)] s) (hW : mWor dC dI cI cJ t0 b0 xs A s.heap H locs ad h)
    {a : Nat} {x v : Int} {li : List Int} {rest : List Value} (ha : 2 ≤ a) (hc : h[a]? = some (mA li)) (h0 : 0 ≤ x) (h1 : x < li.length) (hxr : inI x) (hvr : inI v) (hd : decode cc pc = .ok (.iastore, 1))
    (K : ∀ H' locs', mWor dC dI cI cJ t0 b0 xs A s.heap H' locs' ad (h.set a (mA (li.set x.toNat v))) → W p l e R s m args below meth c H' locs' cells slots Qr (F0 m (pc + 1) ls rest)) : W p l e R s m args below meth c H locs cells slots Qr (F0 m pc ls (mtau ad (mI v) :: mtau ad (mI x) :: mtau ad (mR a) :: rest)) := by
  obtain ⟨hP, hD, hS, hok, hlen, hro⟩ := hW
  have hg := mwd_get (cI := cI) (cJ := cJ) (ad := ad) hlen ha hc
  have hlt := (List.getElem?_eq_some_iff.mp hc).1
  refine va_iast (cA := cI) hx hb hK hP hD hS (a - 2) 0 hg rfl (cI_vp h0 h1 hxr) hd (fun H' locs' hP' hD' hS' => ?_)
  have e : (mwd cI cJ ad h).set (a - 2) (ad.getD a 0, .inl (cI, li.length, .inl (upd (fun j => Int32.ofInt (li.getD j 0)) (Int32.ofInt x).toNatClampNeg (Int32.ofInt v)))) = mwd cI cJ ad (h.set a (mA (li.set x.toNat v))) := by
    rw [mwd_set hlen ha hlt, cI_cl hxr, ← enc_seti (by omega)]
    simp only [menc, List.length_set]
  rw [e] at hP' hD'
  exact K H' locs' ⟨hP', hD', hS', mhok_set hok (mem_seti (mhok_get hok hc) hvr), by rw [List.length_set]; exact hlen, hro.set ha⟩
theorem m_lastore (hx : p.tables.exec = Jvm.exec) (hb : c.code = cc) (hK : va_K (dC, dI) vwCl [(cI, .int), (cJ, .long)] s) (hW : mWor dC dI cI cJ t0 b0 xs A s.heap H locs ad h)
    {a : Nat} {x v : Int} {li : List Int} {rest : List Value} (ha : 2 ≤ a) (hc : h[a]? = some (mJ li)) (h0 : 0 ≤ x) (h1 : x < li.length) (hxr : inI x) (hvr : inJ v) (hd : decode cc pc = .ok (.lastore, 1))
    (K : ∀ H' locs', mWor dC dI cI cJ t0 b0 xs A s.heap H' locs' ad (h.set a (mJ (li.set x.toNat v))) → W p l e R s m args below meth c H' locs' cells slots Qr (F0 m (pc + 1) ls rest)) : W p l e R s m args below meth c H locs cells slots Qr (F0 m pc ls (mtau ad (mL v) :: mtau ad (mI x) :: mtau ad (mR a) :: rest)) := by
  obtain ⟨hP, hD, hS, hok, hlen, hro⟩ := hW
  have hg := mwd_get (cI := cI) (cJ := cJ) (ad := ad) hlen ha hc
  have hlt := (List.getElem?_eq_some_iff.mp hc).1
  refine va_last (cA := cJ) hx hb hK hP hD hS (a - 2) 1 hg rfl (cI_vp h0 h1 hxr) hd (fun H' locs' hP' hD' hS' => ?_)
  have e : (mwd cI cJ ad h).set (a - 2) (ad.getD a 0, .inl (cJ, li.length, .inr (.inl (vp_updL (fun j => Int64.ofInt (li.getD j 0)) (Int32.ofInt x).toNatClampNeg (Int64.ofInt v))))) = mwd cI cJ ad (h.set a (mJ (li.set x.toNat v))) := by
    rw [mwd_set hlen ha hlt, cI_cl hxr, ← enc_setl (by omega)]
    simp only [menc, List.length_set]
  rw [e] at hP' hD'
  exact K H' locs' ⟨hP', hD', hS', mhok_set hok (mem_seti (mhok_get hok hc) hvr), by rw [List.length_set]; exact hlen, hro.set ha⟩
theorem m_getfield (hx : p.tables.exec = Jvm.exec) (hb : c.code = cc) (hts : ∀ w ∈ gT, w.before args s = true) {own : Nat} (hown : s.vm.findClass (mN own) = some m.cls) (hK : va_K (dC, dI) vwCl [(cI, .int), (cJ, .long)] s) (hW : mWor dC dI cI cJ t0 b0 xs A s.heap H locs ad h)
    {a ci k idx : Nat} {fs : List mV} {v : mV} {rest : List Value} (hf : mFok own idx ci k) (ha : 2 ≤ a) (hc : h[a]? = some (mO ci fs)) (hv : fs[k]? = some v) (hd : decode cc pc = .ok (.getfield idx, 3))
    (K : W p l e R s m args below meth c H locs cells slots Qr (F0 m (pc + 3) ls (mtau ad v :: rest))) : W p l e R s m args below meth c H locs cells slots Qr (F0 m pc ls (mtau ad (mR a) :: rest)) := by
  obtain ⟨hP, hD, hS, hok, hlen, hro⟩ := hW
  obtain ⟨⟨C, T, N⟩, hr, hk, hw⟩ := hf
  obtain ⟨h1, h2, h3, h4, h5, h6, h7, h8⟩ := mcls hr
  have hg := mwd_get (cI := cI) (cJ := cJ) (ad := ad) hlen ha hc
  exact va_get (ci := ci) (C := C) (T := T) (N := N) (v := mtau ad v) hx hb hts h1 hown hK hP (a - 2) hg hr k hk (hts _ hw) (fun _ q => q) (by rw [List.getElem?_map, hv]; rfl) hd K
theorem m_putfield (hx : p.tables.exec = Jvm.exec) (hb : c.code = cc) (hts : ∀ w ∈ gT, w.before args s = true) {own : Nat} {ini : Prop} (hown : s.vm.findClass (mN own) = some m.cls) (hini : ini → meth.name = "<init>") (hK : va_K (dC, dI) vwCl [(cI, .int), (cJ, .long)] s) (hW : mWor dC dI cI cJ t0 b0 xs A s.heap H locs ad h)
    {a ci k idx : Nat} {fs : List mV} {v : mV} {rest : List Value} (hf : mFok own idx ci k) (ha : 2 ≤ a) (hc : h[a]? = some (mO ci fs)) (hkl : k < fs.length) (hft : mFit (mTy ci k) v) (hfin : mFin ci k = true → ini ∧ own = ci) (hvr : mok h.length v) (hd : decode cc pc = .ok (.putfield idx, 3))
    (K : ∀ H' locs', mWor dC dI cI cJ t0 b0 xs A s.heap H' locs' ad (h.set a (mO ci (fs.set k v))) → W p l e R s m args below meth c H' locs' cells slots Qr (F0 m (pc + 3) ls rest)) : W p l e R s m args below meth c H locs cells slots Qr (F0 m pc ls (mtau ad v :: mtau ad (mR a) :: rest)) := by
  obtain ⟨hP, hD, hS, hok, hlen, hro⟩ := hW
  obtain ⟨⟨C, T, N⟩, hr, hk, hw⟩ := hf
  obtain ⟨h1, h2, h3, h4, h5, h6, h7, h8⟩ := mcls hr
  have hg := mwd_get (cI := cI) (cJ := cJ) (ad := ad) hlen ha hc
  have hlt := (List.getElem?_eq_some_iff.mp hc).1
  obtain ⟨hn, hfi⟩ := mfits (ad := ad) hft
  have fin : ∀ H' locs', va_P (dC, dI) vwCl ((mwd cI cJ ad h).set (a - 2) (ad.getD a 0, .inr (ci, (fs.map (mtau ad)).set k (mtau ad v)))) H' → va_D A ((mwd cI cJ ad h).set (a - 2) (ad.getD a 0, .inr (ci, (fs.map (mtau ad)).set k (mtau ad v)))) → va_S A s.heap H' locs' → W p l e R s m args below meth c H' locs' cells slots Qr (F0 m (pc + 3) ls rest) := by
    intro H' locs' hP' hD' hS'
    have e : (mwd cI cJ ad h).set (a - 2) (ad.getD a 0, .inr (ci, (fs.map (mtau ad)).set k (mtau ad v))) = mwd cI cJ ad (h.set a (mO ci (fs.set k v))) := by
      rw [mwd_set hlen ha hlt]
      simp only [menc, List.map_set]
    rw [e] at hP' hD'
    refine K H' locs' ⟨hP', hD', hS', mhok_set hok ?_, by rw [List.length_set]; exact hlen, hro.set ha⟩
    intro w hwm
    rcases List.mem_or_eq_of_mem_set hwm with q | rfl
    · exact (mhok_get hok hc) w q
    · exact hvr
  have hmf : mFin ci k = (T k).2.2.2 := by unfold mFin; rw [hr]
  by_cases hff : (T k).2.2.2 = true
  · obtain ⟨i1, i2⟩ := hfin (hmf.trans hff)
    exact va_putF (ci := ci) (C := C) (T := T) (N := N) (ty := mTy ci k) hx hb hts h1 (mTy ci) h2 h3 hown hK hP hD hS (a - 2) hg hr k hk (hts _ hw) (fun _ q => q) hff (hini i1) (by rw [i2, h4]; exact h5 k hk) (h2 k hk) hn hfi (by rw [List.length_map]; exact hkl) hd fin
  · exact va_put (ci := ci) (C := C) (T := T) (N := N) (ty := mTy ci k) hx hb hts h1 (mTy ci) h2 h3 hown hK hP hD hS (a - 2) hg hr k hk (hts _ hw) (fun _ q => q) (by simpa using hff) (h2 k hk) hn hfi (by rw [List.length_map]; exact hkl) hd fin
theorem m_getstatic (hx : p.tables.exec = Jvm.exec) (hb : c.code = cc) (hts : ∀ w ∈ gT, w.before args s = true) {own : Nat} (hown : s.vm.findClass (mN own) = some m.cls) (hG : mGl z0 t0 b0 xs s s.heap) (hAz : ∀ q, A q → z0 ≤ q) (hW : mWor dC dI cI cJ t0 b0 xs A s.heap H locs ad h)
    {idx : Nat} {rest : List Value} (hw : Cond.fieldLink (mN own) idx "CupDraws" "PARTS" "[J" ∈ gT) (hd : decode cc pc = .ok (.getstatic idx, 3))
    (K : W p l e R s m args below meth c H locs cells slots Qr (F0 m (pc + 3) ls (mtau ad (mR 0) :: rest))) : W p l e R s m args below meth c H locs cells slots Qr (F0 m pc ls rest) := by
  obtain ⟨hP, hD, hS, hok, hlen, hro⟩ := hW
  have e2 : ad.getD 0 0 = t0 := by rw [List.getD_eq_getElem?_getD, hro.1]; rfl
  refine va_gets (v := .ref t0) hx hb (hG.1.narrow hAz) hS hown (hts _ hw) (fun _ q => q) hd ?_
  rw [← e2]
  exact K
theorem m_new (hx : p.tables.exec = Jvm.exec) (hb : c.code = cc) (hts : ∀ w ∈ gT, w.before args s = true) {own : Nat} (hown : s.vm.findClass (mN own) = some m.cls) (hK : va_K (dC, dI) vwCl [(cI, .int), (cJ, .long)] s) (hA : ∀ q, s.heap.size ≤ q → A q) (hW : mWor dC dI cI cJ t0 b0 xs A s.heap H locs ad h)
    {ci idx : Nat} {rest : List Value} (hf : mNok own idx ci) (hcl : cells + 1 ≤ R.cells) (hsl : slots + mNf ci ≤ R.slots) (hd : decode cc pc = .ok (.new idx, 3))
    (K : ∀ H' q, mWor dC dI cI cJ t0 b0 xs A s.heap H' locs (ad ++ [q]) (h ++ [mO ci (mDefs ci)]) → W p l e R s m args below meth c H' locs (cells + 1) (slots + mNf ci) Qr (F0 m (pc + 3) ls (mtau (ad ++ [q]) (mR h.length) :: rest))) : W p l e R s m args below meth c H locs cells slots Qr (F0 m pc ls rest) := by
  obtain ⟨hP, hD, hS, hok, hlen, hro⟩ := hW
  obtain ⟨⟨C, T, N⟩, hr, hw1, hw2, hw3⟩ := hf
  obtain ⟨h1, h2, h3, h4, h5, h6, h7, h8⟩ := mcls hr
  rw [h7] at hsl
  rw [h7] at K
  refine va_new (ci := ci) (C := C) (T := T) (N := N) (fs := (mDefs ci).map (mtau [])) hx hb hts h1 (mTy ci) h2 hown (hts _ hw1) (hts _ hw2) (hts _ hw3) hK hP hD hS hA hr ?_ hcl hsl hd (fun q H' hP' hD' hS' => ?_)
  · intro j hj
    unfold vp_V mDefs
    rw [h7, List.map_map, List.getD_eq_getElem?_getD, List.getElem?_map, List.getElem?_range hj]
    exact h6 j hj []
  · have hdef : ∀ v ∈ mDefs ci, ∀ n, mok n v := by
      intro v hv n
      obtain ⟨k, -, rfl⟩ := List.mem_map.mp hv
      cases mTy ci k <;> simp only [mDef, mok] <;> first | exact inI_0 | exact inJ_0 | trivial
    have e3 : ∀ ad', (mDefs ci).map (mtau []) = (mDefs ci).map (mtau ad') := by
      intro ad'
      refine List.map_congr_left fun v hv => ?_
      obtain ⟨k, -, rfl⟩ := List.mem_map.mp hv
      cases mTy ci k <;> rfl
    have e : mwd cI cJ ad h ++ [(q, .inr (ci, (mDefs ci).map (mtau [])))] = mwd cI cJ (ad ++ [q]) (h ++ [mO ci (mDefs ci)]) := by
      rw [mwd_push hlen hro.two hok, e3 (ad ++ [q])]
      rfl
    rw [e] at hP' hD'
    have := K H' q ⟨hP', hD', hS', mhok_push hok (fun v hv => hdef v hv _), by simp [hlen], hro.push⟩
    have e4 : mtau (ad ++ [q]) (mR h.length) = .ref q := by
      simp only [mtau]
      congr 1
      rw [List.getD_eq_getElem?_getD, ← hlen, List.getElem?_append_right (Nat.le_refl _), Nat.sub_self]
      rfl
    rw [e4] at this
    exact this
theorem m_newi (hx : p.tables.exec = Jvm.exec) (hb : c.code = cc) (hts : ∀ w ∈ gT, w.before args s = true) (hK : va_K (dC, dI) vwCl [(cI, .int), (cJ, .long)] s) (hA : ∀ q, s.heap.size ≤ q → A q) (hW : mWor dC dI cI cJ t0 b0 xs A s.heap H locs ad h)
    {x : Int} {rest : List Value} (h0 : 0 ≤ x) (h1 : x ≤ 10000) (hcl : cells + 1 ≤ R.cells) (hsl : slots + x.toNat ≤ R.slots) (hd : decode cc pc = .ok (.newarray .int, 2))
    (K : ∀ H' q, mWor dC dI cI cJ t0 b0 xs A s.heap H' locs (ad ++ [q]) (h ++ [mA (List.replicate x.toNat 0)]) → W p l e R s m args below meth c H' locs (cells + 1) (slots + x.toNat) Qr (F0 m (pc + 2) ls (mtau (ad ++ [q]) (mR h.length) :: rest))) : W p l e R s m args below meth c H locs cells slots Qr (F0 m pc ls (mtau ad (mI x) :: rest)) := by
  obtain ⟨hP, hD, hS, hok, hlen, hro⟩ := hW
  have hxr : inI x := ⟨by omega, by omega⟩
  refine va_newa (atype := .int) (ty := .int) (N' := x.toNat) (a0 := (x.toNat, .inl fun _ => 0)) hx hb (hts _ aI) rfl hK hP hD hS hA (fun _ => rfl) ?_ (cI_cl hxr) ?_ hcl hsl hd (fun q cA H' hK' hP' hD' hS' => ?_)
  · rw [show (0 : Int32) = Int32.ofInt 0 from rfl, cI_lt hxr inI_0]
    omega
  · show x.toNat * 4 ≤ 536870912
    omega
  · have ec : cA = cI := by
      have r1 := (hK.2 0 _ rfl).2
      have r2 := (hK'.2 2 _ rfl).2
      exact Option.some.inj (r2.symm.trans r1)
    subst ec
    have e : mwd cA cJ ad h ++ [(q, .inl (cA, (x.toNat, .inl fun _ => 0)))] = mwd cA cJ (ad ++ [q]) (h ++ [mA (List.replicate x.toNat 0)]) := by
      rw [mwd_push hlen hro.two hok]
      congr 3
      simp only [menc, List.length_replicate]
      congr 3
      congr 1
      funext j
      rw [List.getD_eq_getElem?_getD, List.getElem?_replicate]
      split <;> rfl
    rw [e] at hP' hD'
    have := K H' q ⟨hP', hD', hS', mhok_push hok (fun v hv => by rw [(List.mem_replicate.mp hv).2]; exact inI_0), by simp [hlen], hro.push⟩
    have e4 : mtau (ad ++ [q]) (mR h.length) = .ref q := by
      simp only [mtau]
      congr 1
      rw [List.getD_eq_getElem?_getD, ← hlen, List.getElem?_append_right (Nat.le_refl _), Nat.sub_self]
      rfl
    rw [e4] at this
    exact this
theorem m_newl (hx : p.tables.exec = Jvm.exec) (hb : c.code = cc) (hts : ∀ w ∈ gT, w.before args s = true) (hK : va_K (dC, dI) vwCl [(cI, .int), (cJ, .long)] s) (hA : ∀ q, s.heap.size ≤ q → A q) (hW : mWor dC dI cI cJ t0 b0 xs A s.heap H locs ad h)
    {x : Int} {rest : List Value} (h0 : 0 ≤ x) (h1 : x ≤ 10000) (hcl : cells + 1 ≤ R.cells) (hsl : slots + x.toNat ≤ R.slots) (hd : decode cc pc = .ok (.newarray .long, 2))
    (K : ∀ H' q, mWor dC dI cI cJ t0 b0 xs A s.heap H' locs (ad ++ [q]) (h ++ [mJ (List.replicate x.toNat 0)]) → W p l e R s m args below meth c H' locs (cells + 1) (slots + x.toNat) Qr (F0 m (pc + 2) ls (mtau (ad ++ [q]) (mR h.length) :: rest))) : W p l e R s m args below meth c H locs cells slots Qr (F0 m pc ls (mtau ad (mI x) :: rest)) := by
  obtain ⟨hP, hD, hS, hok, hlen, hro⟩ := hW
  have hxr : inI x := ⟨by omega, by omega⟩
  refine va_newa (atype := .long) (ty := .long) (N' := x.toNat) (a0 := (x.toNat, .inr (.inl fun _ => 0))) hx hb (hts _ aJ) rfl hK hP hD hS hA (fun _ => rfl) ?_ (cI_cl hxr) ?_ hcl hsl hd (fun q cA H' hK' hP' hD' hS' => ?_)
  · rw [show (0 : Int32) = Int32.ofInt 0 from rfl, cI_lt hxr inI_0]
    omega
  · show x.toNat * 8 ≤ 536870912
    omega
  · have ec : cA = cJ := by
      have r1 := (hK.2 1 _ rfl).2
      have r2 := (hK'.2 2 _ rfl).2
      exact Option.some.inj (r2.symm.trans r1)
    subst ec
    have e : mwd cI cA ad h ++ [(q, .inl (cA, (x.toNat, .inr (.inl fun _ => 0))))] = mwd cI cA (ad ++ [q]) (h ++ [mJ (List.replicate x.toNat 0)]) := by
      rw [mwd_push hlen hro.two hok]
      congr 3
      simp only [menc, List.length_replicate]
      congr 5
      funext j
      rw [List.getD_eq_getElem?_getD, List.getElem?_replicate]
      split <;> rfl
    rw [e] at hP' hD'
    have := K H' q ⟨hP', hD', hS', mhok_push hok (fun v hv => by rw [(List.mem_replicate.mp hv).2]; exact inJ_0), by simp [hlen], hro.push⟩
    have e4 : mtau (ad ++ [q]) (mR h.length) = .ref q := by
      simp only [mtau]
      congr 1
      rw [List.getD_eq_getElem?_getD, ← hlen, List.getElem?_append_right (Nat.le_refl _), Nat.sub_self]
      rfl
    rw [e4] at this
    exact this
theorem mcats_tau {rest : List mV} : ((rest.map (mtau ad)).map fun v => v.category).sum = mCats rest := by
  unfold mCats
  rw [List.map_map]
  congr 1
  exact List.map_congr_left fun v _ => mtau_cat
theorem m_objInit (hx : p.tables.exec = Jvm.exec) (hb : c.code = cc) (hml : c.maxLocals = nL) (hts : ∀ w ∈ gT, w.before args s = true) {own : Nat} (hown : s.vm.findClass (mN own) = some m.cls) (hls : ls.size = nL) (hR : 1 ≤ R.frames ∧ 64 ≤ R.locals)
    {a idx : Nat} {rest : List mV} (hr8 : mCats rest ≤ 8) (hw : Cond.methodLink (mN own) idx objectInit ∈ gT) (hd : decode cc pc = .ok (.invokespecial idx, 3))
    (K : W p l e R s m args below meth c H locs cells slots Qr (F0 m (pc + 3) ls (rest.map (mtau ad)))) : W p l e R s m args below meth c H locs cells slots Qr (F0 m pc ls (mtau ad (mR a) :: rest.map (mtau ad))) := by
  refine W.objInit hx hb hown (hts _ hw) (hts _ oiA) (hts _ oiB) rfl (by rw [hml]; exact hls) rfl hd hR.1 ?_ (W.eq (g2 := F0 m (pc + 3) ls (rest.map (mtau ad))) rfl K)
  rw [mcats_tau]
  show 2 * 0 + _ + 12 ≤ _
  omega
theorem enc_cpy {l0 l1 : List Int} {sp dp n : Nat} (h1 : dp + n ≤ l1.length) : (fun j => Int32.ofInt ((mCpy l0 l1 sp dp n).getD j 0)) = va_cpy (fun j => Int32.ofInt (l0.getD j 0)) (fun j => Int32.ofInt (l1.getD j 0)) sp dp n := by
  funext j
  unfold va_cpy mCpy
  rw [List.getD_eq_getElem?_getD, List.getElem?_map]
  by_cases hj : j < l1.length
  · rw [List.getElem?_range hj]
    simp only [Option.map_some, Option.getD_some]
    split <;> rfl
  · rw [List.getElem?_eq_none (by rw [List.length_range]; omega)]
    simp only [Option.map_none, Option.getD_none]
    rw [if_neg (by omega), List.getD_eq_getElem?_getD, List.getElem?_eq_none (by omega)]
    rfl
theorem m_copy (hx : p.tables.exec = Jvm.exec) (hb : c.code = cc) (hml : c.maxLocals = nL) (hts : ∀ w ∈ gT, w.before args s = true) {own : Nat} (hown : s.vm.findClass (mN own) = some m.cls) (hls : ls.size = nL) (hR : 1 ≤ R.frames ∧ 64 ≤ R.locals) (hK : va_K (dC, dI) vwCl [(cI, .int), (cJ, .long)] s) (hW : mWor dC dI cI cJ t0 b0 xs A s.heap H locs ad h)
    {a0 a1 idx : Nat} {n dp sp : Int} {l0 l1 : List Int} {rest : List mV} (hr8 : mCats rest ≤ 8) (hw : Cond.methodLink (mN own) idx arraycopyName ∈ gT) (h1 : 2 ≤ a1) (h0 : 2 ≤ a0) (hc0 : h[a0]? = some (mA l0)) (hc1 : h[a1]? = some (mA l1)) (hn : 0 ≤ n) (hsp : 0 ≤ sp) (hdp : 0 ≤ dp) (g0 : sp + n ≤ l0.length) (g1 : dp + n ≤ l1.length) (rn : inI n) (rs : inI sp) (rd : inI dp) (hd : decode cc pc = .ok (.invokestatic idx, 3))
    (K : ∀ H' locs', mWor dC dI cI cJ t0 b0 xs A s.heap H' locs' ad (h.set a1 (mA (mCpy l0 l1 sp.toNat dp.toNat n.toNat))) → W p l e R s m args below meth c H' locs' cells slots Qr (F0 m (pc + 3) ls (rest.map (mtau ad)))) : W p l e R s m args below meth c H locs cells slots Qr (F0 m pc ls (mtau ad (mI n) :: mtau ad (mI dp) :: mtau ad (mR a1) :: mtau ad (mI sp) :: mtau ad (mR a0) :: rest.map (mtau ad))) := by
  obtain ⟨hP, hD, hS, hok, hlen, hro⟩ := hW
  have hg0 := mwd_get (cI := cI) (cJ := cJ) (ad := ad) hlen h0 hc0
  have hg1 := mwd_get (cI := cI) (cJ := cJ) (ad := ad) hlen h1 hc1
  have hlt := (List.getElem?_eq_some_iff.mp hc1).1
  have neg : ∀ z : Int, inI z → 0 ≤ z → ¬ Int32.ofInt z < 0 := by
    intro z hz h0
    rw [show (0 : Int32) = Int32.ofInt 0 from rfl, cI_lt hz inI_0]
    omega
  refine va_copyi (ty := .int) hx hb (by rw [hml]; exact hls.symm) hown (hts _ hw) (hts _ acN) (hts _ acS) (hts _ acI) hK hP hD hS (a0 - 2) (a1 - 2) 0 0 hg0 hg1 rfl rfl rfl (neg sp rs hsp) (neg dp rd hdp) (neg n rn hn) ?_ ?_ (fun _ _ => rfl) hR.1 ?_ hd (fun H' locs' hP' hD' hS' => ?_)
  · rw [cI_cl rs, cI_cl rn]; omega
  · rw [cI_cl rd, cI_cl rn]; omega
  · rw [mcats_tau]
    have : nativeFrameWords "java/lang/System" "arraycopy" 5 = 7 := by decide +kernel
    omega
  · have e : (mwd cI cJ ad h).set (a1 - 2) (ad.getD a1 0, .inl (cI, l1.length, .inl (va_cpy (fun j => Int32.ofInt (l0.getD j 0)) (fun j => Int32.ofInt (l1.getD j 0)) (Int32.ofInt sp).toNatClampNeg (Int32.ofInt dp).toNatClampNeg (Int32.ofInt n).toNatClampNeg))) = mwd cI cJ ad (h.set a1 (mA (mCpy l0 l1 sp.toNat dp.toNat n.toNat))) := by
      rw [mwd_set hlen h1 hlt, cI_cl rs, cI_cl rd, cI_cl rn, ← enc_cpy (by omega)]
      simp only [menc]
      congr 5
      simp [mCpy]
    rw [e] at hP' hD'
    refine K H' locs' ⟨hP', hD', hS', mhok_set hok ?_, by rw [List.length_set]; exact hlen, hro.set h1⟩
    intro v hv
    obtain ⟨j, -, rfl⟩ := List.mem_map.mp hv
    have get : ∀ (l : List Int) (i : Nat), (∀ x ∈ l, inI x) → inI (l.getD i 0) := by
      intro l i hl
      rw [List.getD_eq_getElem?_getD]
      cases hi : l[i]? with
      | none => exact inI_0
      | some y => exact hl y (List.mem_of_getElem? hi)
    split
    · exact get _ _ (mhok_get hok hc0)
    · exact get _ _ (mhok_get hok hc1)
end MST
