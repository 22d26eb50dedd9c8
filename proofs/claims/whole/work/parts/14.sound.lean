/-! calls, and the whole small machine -/
section MCA
variable {p : Program} {l : Launch} {e : Env} {R : Room} {s : State} {m : MethodId} {args : Array Value} {below : List Frame} {meth : Method} {c : Code} {H : Heap} {locs : List Loc} {cells slots cb sb : Nat} {Qr : State → Prop}
variable {cc : ByteArray} {pc : Nat} {ls : Array Slot} {dC : Nat → ClassId} {dI : Nat → Nat → Nat} {cI cJ : ClassId} {z0 t0 b0 : Nat} {xs : List Int} {A : Nat → Prop} {ad : List Nat} {h : List mC} {L S : List mV} {nL : Nat}
/-- what does not change in a method's run -/
def mFix (dC : Nat → ClassId) (dI : Nat → Nat → Nat) (cI cJ : ClassId) (z0 t0 b0 : Nat) (xs : List Int) (p : Program) (R : Room) (s : State) (m : MethodId) (args : Array Value) (meth : Method) (c : Code) (A : Nat → Prop) (cb sb d : Nat) (M : mM) : Prop :=
  p.tables.exec = Jvm.exec ∧ c.code = mCode M ∧ c.maxLocals = mMax M ∧ meth.sig.returnType = mRet M ∧ s.vm.findClass (mN (mOwn M)) = some m.cls ∧ (∀ w ∈ gT, w.before args s = true) ∧ meth.locks = false ∧ ((mY M).name = "<init>" → meth.name = "<init>") ∧
  va_K (dC, dI) vwCl [(cI, .int), (cJ, .long)] s ∧ mGl z0 t0 b0 xs s s.heap ∧ mNs s ∧ (∀ q, s.heap.size ≤ q → A q) ∧ (∀ q, A q → z0 ≤ q) ∧ (cb ≤ R.cells ∧ sb ≤ R.slots) ∧ (d ≤ R.frames ∧ 64 * d ≤ R.locals)
/-- the claim of a state of the small machine -/
def mSnd (l : Launch) (dC : Nat → ClassId) (dI : Nat → Nat → Nat) (cI cJ : ClassId) (z0 t0 b0 : Nat) (xs : List Int) : mP := fun d M pc L S h b Q =>
  ∀ (p : Program) (e : Env) (R : Room) (s : State) (m : MethodId) (args : Array Value) (below : List Frame) (meth : Method) (c : Code) (H : Heap) (locs : List Loc) (cells slots cb sb : Nat) (Qr : State → Prop) (ls : Array Slot) (ad : List Nat) (A : Nat → Prop),
    mFix dC dI cI cJ z0 t0 b0 xs p R s m args meth c A cb sb d M → mWor dC dI cI cJ t0 b0 xs A s.heap H locs ad h → mLS ad (mMax M) h.length L S ls → (cells + b.1 = cb ∧ slots + b.2 = sb) →
    (∀ (pc' : Nat) (i : Instr) (len : Nat) (r : Option mV) (S' : List mV) (h' : List mC) (ex : List Nat) (H' : Heap) (locs' : List Loc) (cells' slots' : Nat) (ls' : Array Slot), decode (mCode M) pc' = .ok (i, len) → mRR (mRet M) i len S' r → Q r h' → mWor dC dI cI cJ t0 b0 xs A s.heap H' locs' (ad ++ ex) h' → (∀ v ∈ S', mok h'.length v) → cells' ≤ cb → slots' ≤ sb →
      W p l e R s m args below meth c H' locs' cells' slots' Qr (F0 m pc' ls' (S'.map (mtau (ad ++ ex))))) →
    W p l e R s m args below meth c H locs cells slots Qr (F0 m pc ls (S.map (mtau ad)))
/-- a callee's words -/
def mWs (M : mM) : List Cond := Cond.code (mY M) (mCode M) (mMax M) (mRet M) :: gT
def mRm (d : Nat) (M : mM) : Room := { frames := d, cells := mCel M, slots := mSlo M, locals := 64 * d }
/-- a callee's start -/
def mPc (dC : Nat → ClassId) (dI : Nat → Nat → Nat) (cI cJ : ClassId) (z0 t0 b0 : Nat) (xs : List Int) (ad : List Nat) (h : List mC) (sz : Nat) (As : List mV) : Array Value → State → Prop :=
  va_Pc (As.map (mtau ad)) (fun U => U.heap.size = sz ∧ mGl z0 t0 b0 xs U U.heap ∧ mNs U ∧ va_P (dC, dI) vwCl (mwd cI cJ ad h) U.heap ∧ va_K (dC, dI) vwCl [(cI, .int), (cJ, .long)] U ∧ va_D (fun q => z0 ≤ q) (mwd cI cJ ad h))
/-- a callee's end -/
def mQc (dC : Nat → ClassId) (dI : Nat → Nat → Nat) (cI cJ : ClassId) (t0 b0 : Nat) (xs : List Int) (ad : List Nat) (h : List mC) (sz : Nat) (Q : Option mV → List mC → Prop) : Array Value → State → Outcome → State → Prop := fun _ st o t =>
  (∃ (r : Option mV) (h' : List mC) (ex : List Nat), o = .returned (r.map (mtau (ad ++ ex))) ∧ Q r h' ∧ mhok h' ∧ (ad ++ ex).length = h'.length ∧ mRo t0 b0 xs (ad ++ ex) h' ∧ (∀ v ∈ r, mok h'.length v) ∧ va_P (dC, dI) vwCl (mwd cI cJ (ad ++ ex) h') t.heap ∧ va_D (va_A (mwd cI cJ ad h) sz) (mwd cI cJ (ad ++ ex) h')) ∧ va_F (va_A (mwd cI cJ ad h) sz) st t
theorem mNs.warm {s U : State} (hW : s.WarmedH U.vm) (h : mNs s) : mNs U := fun own idx y hw => va_Nw.warmM hW (h own idx y hw)
theorem mPc_blind {sz : Nat} {As : List mV} : FrameBlind (mPc dC dI cI cJ z0 t0 b0 xs ad h sz As) := by
  rintro a U g mk ⟨h1, h2, h3, h4, h5, h6, h7⟩
  exact ⟨h1, h2, h3.moved (u := U) (U := U.calling g mk a) (Vm.Alike.refl U.vm), fun own idx y hw => va_Nw.same (U := U.calling g mk a) rfl rfl (h4 own idx y hw), h5, va_K.moved (u := U) (U := U.calling g mk a) (Vm.Alike.refl U.vm) h6, h7⟩
/-- the state in which a callee begins -/
theorem mPc_at {As : List mV} (hK : va_K (dC, dI) vwCl [(cI, .int), (cJ, .long)] s) (hG : mGl z0 t0 b0 xs s s.heap) (hN : mNs s) (hAz : ∀ q, A q → z0 ≤ q) (hW : mWor dC dI cI cJ t0 b0 xs A s.heap H locs ad h) (U : State) (hU : U.heap = H) (hWm : s.WarmedH U.vm) :
    mPc dC dI cI cJ z0 t0 b0 xs ad h H.size As (As.map (mtau ad)).toArray U := by
  obtain ⟨hP, hD, hS, hok, hlen, hro⟩ := hW
  refine ⟨rfl, by rw [hU], ?_, hN.warm hWm, by rw [hU]; exact hP, va_K.moved hWm.alike hK, hD.weaken (fun _ _ _ q => hAz _ q)⟩
  rw [hU]
  exact (hG.kept hS.1 (fun a ha hz => hS.2.1 a ha (fun q => hz (hAz a q)))).moved hWm.alike
set_option maxHeartbeats 4000000 in
/-- a contract out of the small machine's run of a method -/
theorem m_met {d n : Nat} {M : mM} {As : List mV} {Q : Option mV → List mC → Prop} {sz : Nat} (hP : mSnd l dC dI cI cJ z0 t0 b0 xs d M 0 (mArgs (mMax M) As) [] h (mCel M, mSlo M) Q) (hM : mMok M n)
    (hok : mhok h) (hlen : ad.length = h.length) (hro : mRo t0 b0 xs ad h) (hAs : ∀ v ∈ As, mok h.length v) (hma : (mArgs (mMax M) As).length = mMax M) :
    Met l (mY M) (mWs M) (mRm d M) (mPc dC dI cI cJ z0 t0 b0 xs ad h sz As) (mQc dC dI cI cJ t0 b0 xs ad h sz Q) (mCel M) (mSlo M) (va_A (mwd cI cJ ad h) sz) := by
  obtain ⟨hm1, hm2, hm3, hm4, hm5, hm6⟩ := hM
  refine Met.ofW (cc := mCode M) (maxL := mMax M) (ret := mRet M) hm4 rfl ?_
  rintro p e s m args below meth c s₁ B hml ⟨rfl, hsz, hG, hN, hPw, hK, hDz⟩
  have hts : ∀ w ∈ gT, w.before (As.map (mtau ad)).toArray s = true := fun w hw => atoms_spec (ws := mWs M) B.pre w (List.mem_cons_of_mem _ hw)
  have hown : s.vm.findClass (mN (mOwn M)) = some m.cls := by rw [hm5]; exact findClass_of_methodNamed B.named
  have hlocks := B.notSynchronized
  have hin : meth.name = (mY M).name := (name_of_methodNamed B.named B.method).1
  subst hsz
  rw [lg_entry_eq]
  have hA : ∀ q, s.heap.size ≤ q → va_A (mwd cI cJ ad h) s.heap.size q := fun q hq => Or.inr hq
  have hAz : ∀ q, va_A (mwd cI cJ ad h) s.heap.size q → z0 ≤ q := by
    rintro q (⟨k, e, hk⟩ | hq)
    · exact hDz.2 k _ hk
    · exact Nat.le_trans hG.2.2.2.2.2 hq
  refine hP p e (headSpec (mWs M) (mRm d M)).room s m _ below meth c s.heap [] 0 0 (mCel M) (mSlo M) _ _ ad (va_A (mwd cI cJ ad h) s.heap.size) ⟨B.exec, B.bytes, hml, B.returns, hown, hts, hlocks, fun q => hin.trans q, hK, hG, hN, hA, hAz, ⟨Nat.le_refl _, Nat.le_refl _⟩, ⟨Nat.le_refl _, Nat.le_refl _⟩⟩
    ⟨hPw, hDz.self, va_S.rf, hok, hlen, hro⟩ ⟨fun v hv => (by cases hv), mArgs_ok hAs, mArgs_has hma, hma⟩ ⟨Nat.zero_add _, Nat.zero_add _⟩ ?_
  intro pc' i len r S' h' ex H' locs' cells' slots' ls' hd hr hQ hW' hS' hc' hs'
  refine W.widen hc' hs' ?_
  obtain ⟨hP', hD', hSS, hok', hlen', hro'⟩ := hW'
  have post : ∀ (o : Outcome) (t : State), o = .returned (r.map (mtau (ad ++ ex))) → (∀ v ∈ r, mok h'.length v) → t.heap = H' → mQc dC dI cI cJ t0 b0 xs ad h s.heap.size Q (As.map (mtau ad)).toArray s o t := by
    intro o t ho hro2 ht
    exact ⟨⟨r, h', ex, ho, hQ, hok', hlen', hro', hro2, by rw [ht]; exact hP', hD'⟩, hSS.F ht⟩
  cases i <;> simp only [mRR] at hr
  · obtain ⟨x, rfl, rfl, hret, rfl⟩ := hr
    have hx1 : ∀ v ∈ (some (mI x) : Option mV), mok h'.length v := by
      intro v hv
      cases hv
      exact hS' _ List.mem_cons_self
    rcases hret with hret | ⟨hret, h01⟩
    · exact W.iret (v := Int32.ofInt x) B.exec B.bytes (B.returns.trans hret) (fun t ht _ => post _ t rfl hx1 ht) hSS.2.2 hd
    · refine W.zret (v := Int32.ofInt x) (ty := .boolean) B.exec B.bytes (B.returns.trans hret) ?_ (fun t ht _ => post _ t rfl hx1 ht) hSS.2.2 hd
      rcases h01 with rfl | rfl <;> rfl
  · obtain ⟨x, rfl, rfl, hret, rfl⟩ := hr
    have hx1 : ∀ v ∈ (some (mL x) : Option mV), mok h'.length v := by
      intro v hv
      cases hv
      exact hS' _ List.mem_cons_self
    exact W.lret (v := Int64.ofInt x) B.exec B.bytes (B.returns.trans hret) (fun t ht _ => post _ t rfl hx1 ht) hSS.2.2 hd
  · obtain ⟨rfl, rfl, hret, rfl⟩ := hr
    exact W.vret B.exec B.bytes (B.returns.trans hret) (fun t ht _ => post _ t rfl (fun v hv => by cases hv) ht) hSS.2.2 hd
theorem gIn {ws : List Cond} (h : ∀ w ∈ ws, w ∈ gT) : GoodIn gT ws := fun w hw => ⟨h w hw, gT_good w (h w hw)⟩
set_option maxHeartbeats 4000000 in
/-- a call -/
theorem m_run {d d' idx kind n : Nat} {M M' : mM} {As rest : List mV} {Q' : Option mV → List mC → Prop} {i : Instr} (hfix : mFix dC dI cI cJ z0 t0 b0 xs p R s m args meth c A cb sb d M) (hdd : d = d' + 1)
    (hW : mWor dC dI cI cJ t0 b0 xs A s.heap H locs ad h) (hL : mLS ad (mMax M) h.length L (As.reverse ++ rest) ls) (hd : decode (mCode M) pc = .ok (i, 3)) (hi : mInv kind i idx) (hT : mTok (mOwn M) idx kind n M')
    (hn : As.length = (if kind = 0 ∨ kind = 2 then n + 1 else n)) (hr8 : mCats rest ≤ 8) (hma : (mArgs (mMax M') As).length = mMax M') (hrec : kind = 0 ∨ kind = 2 → ∃ a fs, As[0]? = some (mR a) ∧ 2 ≤ a ∧ h[a]? = some (mO (mOwn M') fs)) (hbc : cells + mCel M' ≤ cb ∧ slots + mSlo M' ≤ sb)
    (hP : mSnd l dC dI cI cJ z0 t0 b0 xs d' M' 0 (mArgs (mMax M') As) [] h (mCel M', mSlo M') Q') :
    va_Run p l e R s m args below meth c H locs cells slots (mCel M') (mSlo M') (F0 m pc ls ((As.reverse ++ rest).map (mtau ad))) (rest.map (mtau ad)) (mQc dC dI cI cJ t0 b0 xs ad h H.size Q' (As.map (mtau ad)).toArray) (va_A (mwd cI cJ ad h) H.size) := by
  obtain ⟨hx, hb, hml, hret, hown, hts, hlocks, hini, hK, hG, hN, hA, hAz, hcb, hR⟩ := hfix
  obtain ⟨hMk, hkind⟩ := hT
  have hMk' := hMk
  obtain ⟨hm1, hm2, ⟨hm3a, hm3b, hm3c⟩, hm4, hm5, hm6⟩ := hMk'
  have hAs : ∀ v ∈ As, mok h.length v := fun v hv => hL.1 v (List.mem_append_left _ (List.mem_reverse.mpr hv))
  have hmet := m_met (sz := H.size) hP hMk hW.2.2.2.1 hW.2.2.2.2.1 hW.2.2.2.2.2 hAs hma
  have hwsg : ∀ w ∈ mWs M', w ∈ gT := fun w hw => by
    rcases List.mem_cons.mp hw with rfl | hw
    · exact hm1
    · exact hw
  have hroom : (mRm d' M').frames + 1 ≤ R.frames ∧ 8 + (mMax M' + 11) + (mRm d' M').locals ≤ R.locals := ⟨by show d' + 1 ≤ _; omega, by show 8 + (mMax M' + 11) + 64 * d' ≤ _; omega⟩
  have hPs : ∀ Bs : List mV, Bs = As → ∀ U : State, U.heap = H → s.WarmedH U.vm → mPc dC dI cI cJ z0 t0 b0 xs ad h H.size As (Bs.map (mtau ad)).toArray U := by
    rintro _ rfl U hU hWm
    exact mPc_at hK hG hN hAz hW U hU hWm
  have hcat : 2 * (F0 m pc ls ((As.reverse ++ rest).map (mtau ad))).monitorRoom + ((rest.map (mtau ad)).map fun v => v.category).sum ≤ 8 := by
    rw [mcats_tau]
    show 2 * 0 + _ ≤ 8
    omega
  have hfit : cells + mCel M' ≤ R.cells ∧ slots + mSlo M' ≤ R.slots := ⟨by omega, by omega⟩
  have hS : CallFix p m c (mCode M) (mMax M) s args gT (mN (mOwn M)) := ⟨hx, hb, hml, hown, hts⟩
  have hstk : (F0 m pc ls ((As.reverse ++ rest).map (mtau ad))).stack = (As.map (mtau ad)).reverse ++ rest.map (mtau ad) := by
    show (As.reverse ++ rest).map (mtau ad) = _
    rw [List.map_append, List.map_reverse]
  have hls : ls.size = mMax M := hL.2.2.1.1
  match kind, hi, hn, hrec, hkind with
  | 0, hi, hn, hrec, hkind =>
    obtain ⟨k1, k2, k3, k4⟩ := hkind
    obtain rfl : i = .invokevirtual idx := hi
    obtain ⟨a, fs, ha0, ha2, hca⟩ := hrec (Or.inl rfl)
    cases As with
    | nil => simp at ha0
    | cons a0 As' =>
      have : a0 = mR a := by simpa using ha0
      subst this
      have hg := mwd_get (cI := cI) (cJ := cJ) (ad := ad) hW.2.2.2.2.1 ha2 hca
      obtain ⟨r, hr⟩ : ∃ r, vwCl[mOwn M']? = some r := ⟨_, List.getElem?_eq_getElem (show mOwn M' < vwCl.length from k4)⟩
      have hnm := (mcls hr).2.2.2.1
      have hcl : (mY M').cls = r.1 := hm5.symm.trans hnm
      refine va_runV (C := (mY M').cls) (b := ad.getD a 0) (As := As'.map (mtau ad)) hS hmet (cwV n hts (gIn ?_) rfl rfl rfl ⟨rfl, hm3a, hm3b, hm3c⟩ hroom) ⟨mPc_blind, ?_, fun U hU hWm => hPs _ rfl U hU hWm⟩ rfl (by rw [List.length_map]; simp at hn; exact hn) hls ?_ hcat hd hfit
      · intro w hw
        rcases List.mem_append.mp hw with hw | hw
        · rcases List.mem_cons.mp hw with rfl | hw
          · exact k1
          · rcases List.mem_cons.mp hw with rfl | hw
            · exact k2
            · rcases List.mem_cons.mp hw with rfl | hw
              · exact k3
              · rw [List.mem_singleton.mp hw]
                exact hm2
        · exact hwsg w hw
      · rw [hcl]
        exact va_recv hK hW.1 hr hg
      · rw [hstk, List.map_cons, List.reverse_cons, List.append_assoc]
        rfl
  | 1, hi, hn, hrec, hkind =>
    obtain ⟨k1, k2⟩ := hkind
    obtain rfl : i = .invokestatic idx := hi
    exact va_runS (As := As.map (mtau ad)) hS hmet ⟨callB_of n hts (gIn hwsg) rfl rfl rfl (hts _ hm2) (hts _ k1) ⟨hm3a, hm3b, hm3c⟩ hroom, hts _ k2⟩ ⟨mPc_blind, fun U hU hWm => hPs _ rfl U hU hWm⟩ rfl (by rw [List.length_map]; simpa using hn) hls hstk hcat hd hfit
  | 2, hi, hn, hrec, hkind =>
    obtain ⟨k1, k2, k3, k4⟩ := hkind
    obtain rfl : i = .invokespecial idx := hi
    obtain ⟨a, fs, ha0, ha2, hca⟩ := hrec (Or.inr rfl)
    cases As with
    | nil => simp at ha0
    | cons a0 As' =>
      have : a0 = mR a := by simpa using ha0
      subst this
      refine va_runI (b := ad.getD a 0) (As := As'.map (mtau ad)) hS hmet (cwI n hts (gIn hwsg) (by rw [← k4]; rfl) rfl rfl (hts _ hm2) (hts _ k1) (hts _ k2) k3 ⟨hm3a, hm3b, hm3c⟩ hroom) ⟨mPc_blind, fun U hU hWm => hPs _ rfl U hU hWm⟩ rfl (by rw [List.length_map]; simp at hn; exact hn) hls ?_ hcat hd hfit
      rw [hstk, List.map_cons, List.reverse_cons, List.append_assoc]
      rfl
  | k + 3, hi, hn, hrec, hkind =>
    obtain ⟨k1, k2⟩ := hkind
    obtain rfl : i = .invokestatic idx := hi
    exact va_runSN (As := As.map (mtau ad)) hS hmet ⟨va_cnB n hts (gIn hwsg) rfl rfl rfl (hN _ _ _ k1) (hts _ hm2) ⟨hm3a, hm3b, hm3c⟩ hroom, hts _ k2, trivial⟩ ⟨mPc_blind, fun U hU hWm => hPs _ rfl U hU hWm⟩ rfl (by rw [List.length_map]; simpa using hn) hls hstk hcat hd hfit
set_option maxHeartbeats 4000000 in
/-- THE SMALL MACHINE IS SOUND -/
theorem m_sound : mLe Wp (mSnd l dC dI cI cJ z0 t0 b0 xs) := by
  refine Wp_ind ?_
  rintro d M pc L S h b Q ⟨i, len, hd, hc⟩ p e R s m args below meth c H locs cells slots cb sb Qr ls ad A hfix hW hL hbud hret
  have hfix' := hfix
  obtain ⟨hx, hb, hml, hrt, hown, hts, hlocks, hini, hK, hG, hN, hA, hAz, hcb, hR⟩ := hfix'
  rcases hc with ⟨o, h1, h2⟩ | ⟨r, h1, h2⟩ | ⟨d', idx, kind, n, M', As, rest, Q', e1, e2, e3, e4, e5, e6, e7, e8, e9, e10, e11, e12, e13⟩
  · refine m_step hx hb hml hts hown hini hK hG hA hAz hcb hR hW hL hbud hd h1 ?_
    intro H' locs' cells' slots' ex ls' hW' hL' hbud'
    refine h2 p e R s m args below meth c H' locs' cells' slots' cb sb Qr ls' (ad ++ ex) A hfix hW' hL' hbud' ?_
    intro pc' i' len' r S' h' ex' H2 locs2 cells2 slots2 ls2 g1 g2 g3 g4 g5 g6 g7
    have := hret pc' i' len' r S' h' (ex ++ ex') H2 locs2 cells2 slots2 ls2 g1 g2 g3 (by rw [← List.append_assoc]; exact g4) g5 g6 g7
    rw [← List.append_assoc] at this
    exact this
  · have := hret pc i len r S h [] H locs cells slots ls hd h1 h2 (by rw [List.append_nil]; exact hW) hL.1 (by omega) (by omega)
    rw [List.append_nil] at this
    exact this
  · subst e5
    subst e2
    have hrun := m_run (e := e) (below := below) (cells := cells) (slots := slots) (locs := locs) hfix e1 hW hL hd e3 e4 e6 e7 e8 e9 ⟨by omega, by omega⟩ e12
    intro T hT X
    obtain ⟨v, st₀, t, T', Lc, g0, X', hLc, g1, g2, ⟨⟨r, h', ex, hv, hq, hok', hlen', hro', hr', hP', hD'⟩, hz, hk⟩, st⟩ := hrun T hT X
    have hve : v = r.map (mtau (ad ++ ex)) := by injection hv
    rw [g0] at hz hk
    have hfree : ∀ q, va_A (mwd cI cJ ad h) H.size q → A q := by
      rintro q (⟨k, e', hk'⟩ | hq')
      · exact hW.2.1.2 k _ hk'
      · exact hA q (Nat.le_trans hW.2.2.1.1 hq')
    have hhl : h.length ≤ h'.length := by
      rw [← hlen', List.length_append, hW.2.2.2.2.1]
      omega
    have hW2 : mWor dC dI cI cJ t0 b0 xs A s.heap T'.heap (locs ++ Lc) (ad ++ ex) h' := by
      refine ⟨by rw [g1]; exact hP', hD'.weaken (fun k q _ hq' => hfree q.1 hq'), ⟨Nat.le_trans hW.2.2.1.1 (by rw [g1]; exact hz), fun q q1 q2 => ?_, fun q hq' => ?_⟩, hok', hlen', hro'⟩
      · rw [g1, hk q (Nat.lt_of_lt_of_le q1 hW.2.2.1.1) (fun z => q2 (hfree q z))]
        exact hW.2.2.1.2.1 q q1 q2
      · rcases List.mem_append.mp hq' with q | q
        · exact hW.2.2.1.2.2 _ q
        · exact hfree _ (hLc _ q)
    have hrest : ∀ v ∈ rest, mok h.length v := fun v hv => hL.1 v (List.mem_append_right _ hv)
    have hL2 : mLS (ad ++ ex) (mMax M) h'.length L (r.toList ++ rest) ls := by
      have q := hL.ext (ex := ex) hW.2.2.2.2.1.symm hhl
      refine q.st (fun w hw => ?_)
      rcases List.mem_append.mp hw with hw | hw
      · exact hr' w (by simpa using hw)
      · exact mok_le (hrest w hw) hhl
    have hcont := e13 r h' hq p e R s m args below meth c T'.heap (locs ++ Lc) (cells + mCel M') (slots + mSlo M') cb sb Qr ls (ad ++ ex) A hfix hW2 hL2 ⟨by show cells + mCel M' + (b.1 - mCel M') = cb; omega, by show slots + mSlo M' + (b.2 - mSlo M') = sb; omega⟩ ?_
    · obtain ⟨t2, a1, b1⟩ := hcont T' rfl X'
      refine ⟨t2, st t2 ?_, b1⟩
      have ee : (F0 m (pc + 3) ls ((r.toList ++ rest).map (mtau (ad ++ ex)))) = { (F0 m pc ls ((As.reverse ++ rest).map (mtau ad))) with pc := (F0 m pc ls ((As.reverse ++ rest).map (mtau ad))).pc + 3, stack := v.toList ++ rest.map (mtau ad) } := by
        rw [hve, List.map_append, mtaus_app (S := rest) (fun v hv => by rw [hW.2.2.2.2.1]; exact hrest v hv)]
        cases r <;> rfl
      rw [← ee]
      exact a1
    · intro pc' i' len' r' S' h2' ex' H2 locs2 cells2 slots2 ls2 g1 g2 g3 g4 g5 g6 g7
      have := hret pc' i' len' r' S' h2' (ex ++ ex') H2 locs2 cells2 slots2 ls2 g1 g2 g3 (by rw [← List.append_assoc]; exact g4) g5 g6 g7
      rw [← List.append_assoc] at this
      exact this
end MCA
