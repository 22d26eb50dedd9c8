/-! ANY instruction of the small machine that is no call and no return; then calls; then all -/
section MSS
variable {p : Program} {l : Launch} {e : Env} {R : Room} {s : State} {m : MethodId} {args : Array Value} {below : List Frame} {meth : Method} {c : Code} {H : Heap} {locs : List Loc} {cells slots cb sb : Nat} {Qr : State → Prop}
variable {cc : ByteArray} {pc : Nat} {ls : Array Slot} {dC : Nat → ClassId} {dI : Nat → Nat → Nat} {cI cJ : ClassId} {z0 t0 b0 : Nat} {xs : List Int} {A : Nat → Prop} {ad : List Nat} {h : List mC} {L S : List mV} {nL : Nat}
theorem mLS.st {n : Nat} {S' : List mV} (hl : mLS ad nL n L S ls) (hS : ∀ v ∈ S', mok n v) : mLS ad nL n L S' ls := ⟨hS, hl.2⟩
theorem mLS.hd {n : Nat} {v : mV} (hl : mLS ad nL n L (v :: S) ls) : mok n v := hl.1 v List.mem_cons_self
theorem mLS.tl {n : Nat} {v : mV} (hl : mLS ad nL n L (v :: S) ls) : mLS ad nL n L S ls := hl.st fun w hw => hl.1 w (List.mem_cons_of_mem _ hw)
theorem mLS.push {n : Nat} {v : mV} (hl : mLS ad nL n L S ls) (hv : mok n v) : mLS ad nL n L (v :: S) ls := hl.st fun w hw => by
  rcases List.mem_cons.mp hw with rfl | hw
  · exact hv
  · exact hl.1 w hw
theorem mLS.le {n n' : Nat} (hl : mLS ad nL n L S ls) (hn : n ≤ n') : mLS ad nL n' L S ls := ⟨fun v hv => mok_le (hl.1 v hv) hn, fun v hv => mok_le (hl.2.1 v hv) hn, hl.2.2⟩
theorem mLS.loc {n : Nat} {i : Nat} {v : mV} (hl : mLS ad nL n L S ls) (hi : L[i]? = some v) : mok n v := hl.2.1 v (List.mem_of_getElem? hi)
theorem fm_congr {α β : Type} {f g : α → Option β} : ∀ {l : List α}, (∀ a ∈ l, f a = g a) → l.filterMap f = l.filterMap g
  | [], _ => rfl
  | a :: l, h => by
    rw [List.filterMap_cons, List.filterMap_cons, h a List.mem_cons_self, fm_congr (fun b hb => h b (List.mem_cons_of_mem _ hb))]
theorem lvOf_app {ex : List Nat} (hL : ∀ v ∈ L, mok ad.length v) : lvOf (ad ++ ex) L = lvOf ad L := by
  unfold lvOf
  refine fm_congr ?_
  intro i _
  cases hi : L[i]? with
  | none => rfl
  | some v =>
    have hv := hL v (List.mem_of_getElem? hi)
    rcases v with x | x | _ | k
    · rfl
    · rfl
    · rfl
    · show some (i, mtau (ad ++ ex) (mR k)) = some (i, mtau ad (mR k))
      rw [mtau_app hv]
theorem mLS.ext {n n' : Nat} {ex : List Nat} (hl : mLS ad nL n L S ls) (hn : n = ad.length) (hn' : n ≤ n') : mLS (ad ++ ex) nL n' L S ls := by
  refine ⟨fun v hv => mok_le (hl.1 v hv) hn', fun v hv => mok_le (hl.2.1 v hv) hn', ?_, hl.2.2.2⟩
  rw [lvOf_app (fun v hv => hn ▸ hl.2.1 v hv)]
  exact hl.2.2.1
theorem mtaus_app {ex : List Nat} {S : List mV} (hS : ∀ v ∈ S, mok ad.length v) : S.map (mtau (ad ++ ex)) = S.map (mtau ad) := List.map_congr_left fun v hv => mtau_app (hS v hv)
theorem mLS.set1 {n i : Nat} {v : mV} {ls' : Array Slot} (hl : mLS ad nL n L (v :: S) ls) (hi : i < L.length) (hb : mBefore L i) (h' : lv_has ls' nL ((i, mtau ad v) :: (lvOf ad L).filter (fun q => !(q.1 == i) && !(q.1 + 1 == i && q.2.category == 2)))) : mLS ad nL n (L.set i v) S ls' := by
  refine ⟨hl.tl.1, fun w hw => ?_, lv_has_of h' (lvOf_set1 hi hb), by rw [List.length_set]; exact hl.2.2.2⟩
  rcases List.mem_or_eq_of_mem_set hw with hw | rfl
  · exact hl.2.1 w hw
  · exact hl.hd
theorem mLS.set2 {n i : Nat} {v : mV} {ls' : Array Slot} (hl : mLS ad nL n L (v :: S) ls) (hi : i + 1 < L.length) (hb : mBefore L i) (h' : lv_has ls' nL ((i, mtau ad v) :: (lvOf ad L).filter (fun q => !(q.1 == i) && (!(q.1 == i + 1) && !(q.1 + 1 == i && q.2.category == 2))))) : mLS ad nL n ((L.set i v).set (i + 1) mU) S ls' := by
  refine ⟨hl.tl.1, fun w hw => ?_, lv_has_of h' (lvOf_set2 hi hb), by rw [List.length_set, List.length_set]; exact hl.2.2.2⟩
  rcases List.mem_or_eq_of_mem_set hw with hw | rfl
  · rcases List.mem_or_eq_of_mem_set hw with hw | rfl
    · exact hl.2.1 w hw
    · exact hl.hd
  · exact trivial
theorem getD_ok {li : List Int} {P : Int → Prop} (h0 : P 0) (hl : ∀ x ∈ li, P x) (i : Nat) : P (li.getD i 0) := by
  rw [List.getD_eq_getElem?_getD]
  cases hi : li[i]? with
  | none => exact h0
  | some y => exact hl y (List.mem_of_getElem? hi)
set_option maxHeartbeats 4000000 in
theorem m_step (hx : p.tables.exec = Jvm.exec) (hb : c.code = cc) (hml : c.maxLocals = nL) (hts : ∀ w ∈ gT, w.before args s = true) {own d : Nat} {ini : Prop} (hown : s.vm.findClass (mN own) = some m.cls) (hini : ini → meth.name = "<init>") (hK : va_K (dC, dI) vwCl [(cI, .int), (cJ, .long)] s) (hG : mGl z0 t0 b0 xs s s.heap) (hA : ∀ q, s.heap.size ≤ q → A q) (hAz : ∀ q, A q → z0 ≤ q)
    (hcb : cb ≤ R.cells ∧ sb ≤ R.slots) (hR : d ≤ R.frames ∧ 64 * d ≤ R.locals) (hW : mWor dC dI cI cJ t0 b0 xs A s.heap H locs ad h) (hL : mLS ad nL h.length L S ls) {b : Nat × Nat} (hbud : cells + b.1 = cb ∧ slots + b.2 = sb)
    {i : Instr} {len : Nat} {o : mS} (hd : decode cc pc = .ok (i, len)) (hs : mSS d own ini i len pc L S h b o)
    (K : ∀ H' locs' cells' slots' ex ls', mWor dC dI cI cJ t0 b0 xs A s.heap H' locs' (ad ++ ex) o.2.2.2.1 → mLS (ad ++ ex) nL o.2.2.2.1.length o.2.1 o.2.2.1 ls' → cells' + o.2.2.2.2.1 = cb ∧ slots' + o.2.2.2.2.2 = sb →
      W p l e R s m args below meth c H' locs' cells' slots' Qr (F0 m o.1 ls' (o.2.2.1.map (mtau (ad ++ ex))))) : W p l e R s m args below meth c H locs cells slots Qr (F0 m pc ls (S.map (mtau ad))) := by
  have K0 : ∀ H' locs' ls', mWor dC dI cI cJ t0 b0 xs A s.heap H' locs' ad o.2.2.2.1 → mLS ad nL o.2.2.2.1.length o.2.1 o.2.2.1 ls' → b = o.2.2.2.2 → W p l e R s m args below meth c H' locs' cells slots Qr (F0 m o.1 ls' (o.2.2.1.map (mtau ad))) := by
    intro H' locs' ls' h1 h2 h3
    have := K H' locs' cells slots [] ls' (by rw [List.append_nil]; exact h1) (by rw [List.append_nil]; exact h2) (by rw [← h3]; exact hbud)
    rw [List.append_nil] at this
    exact this
  cases i with
  | aload k =>
    obtain ⟨x, rfl, hl, rfl⟩ := hs
    exact lv_aload hx hb hd (lvOf_at hL.2.2.1 hl (fun q => nomatch q)) (K0 H locs ls hW (hL.push (hL.loc hl)) rfl)
  | aload_n k =>
    obtain ⟨x, rfl, hl, rfl⟩ := hs
    exact lv_aload_n hx hb hd rfl (lvOf_at hL.2.2.1 hl (fun q => nomatch q)) (K0 H locs ls hW (hL.push (hL.loc hl)) rfl)
  | iload k =>
    obtain ⟨x, rfl, hl, rfl⟩ := hs
    exact lv_iload hx hb hd (lvOf_at hL.2.2.1 hl (fun q => nomatch q)) (K0 H locs ls hW (hL.push (hL.loc hl)) rfl)
  | iload_n k =>
    obtain ⟨x, rfl, hl, rfl⟩ := hs
    exact lv_iload_n hx hb hd rfl (lvOf_at hL.2.2.1 hl (fun q => nomatch q)) (K0 H locs ls hW (hL.push (hL.loc hl)) rfl)
  | lload k =>
    obtain ⟨x, rfl, hl, rfl⟩ := hs
    exact lv_lload hx hb hd (lvOf_at hL.2.2.1 hl (fun q => nomatch q)) (K0 H locs ls hW (hL.push (hL.loc hl)) rfl)
  | lload_n k =>
    obtain ⟨x, rfl, hl, rfl⟩ := hs
    exact lv_lload_n hx hb hd rfl (lvOf_at hL.2.2.1 hl (fun q => nomatch q)) (K0 H locs ls hW (hL.push (hL.loc hl)) rfl)
  | astore k =>
    obtain ⟨x, S', rfl, rfl, hi, hbf, rfl⟩ := hs
    exact lv_astore hx hb hd hL.2.2.1 (by rw [← hL.2.2.2]; exact hi) rfl (fun ls' h' => K0 H locs ls' hW (hL.set1 hi hbf h') rfl)
  | astore_n k =>
    obtain ⟨x, S', rfl, rfl, hi, hbf, rfl⟩ := hs
    exact lv_astore_n hx hb hd rfl hL.2.2.1 (by rw [← hL.2.2.2]; exact hi) rfl (fun ls' h' => K0 H locs ls' hW (hL.set1 hi hbf h') rfl)
  | istore k =>
    obtain ⟨x, S', rfl, rfl, hi, hbf, rfl⟩ := hs
    exact lv_istore hx hb hd hL.2.2.1 (by rw [← hL.2.2.2]; exact hi) rfl (fun ls' h' => K0 H locs ls' hW (hL.set1 hi hbf h') rfl)
  | istore_n k =>
    obtain ⟨x, S', rfl, rfl, hi, hbf, rfl⟩ := hs
    exact lv_istore_n hx hb hd rfl hL.2.2.1 (by rw [← hL.2.2.2]; exact hi) rfl (fun ls' h' => K0 H locs ls' hW (hL.set1 hi hbf h') rfl)
  | lstore k =>
    obtain ⟨x, S', rfl, rfl, hi, hbf, rfl⟩ := hs
    exact lv_lstore hx hb hd hL.2.2.1 (by rw [← hL.2.2.2]; exact hi) rfl (fun ls' h' => K0 H locs ls' hW (hL.set2 hi hbf h') rfl)
  | lstore_n k =>
    obtain ⟨x, S', rfl, rfl, hi, hbf, rfl⟩ := hs
    exact lv_lstore_n hx hb hd rfl hL.2.2.1 (by rw [← hL.2.2.2]; exact hi) rfl (fun ls' h' => K0 H locs ls' hW (hL.set2 hi hbf h') rfl)
  | iinc k n =>
    obtain ⟨x, rfl, hl, hbf, hr, rfl⟩ := hs
    have hi : k < L.length := (List.getElem?_eq_some_iff.mp hl).1
    obtain ⟨j, hj⟩ := List.getElem?_of_mem (mem_lvOf (ad := ad).mpr ⟨k, mI x, hl, (fun q => nomatch q), rfl⟩)
    refine lv_iinc (v := Int32.ofInt (x + n)) hx hb hd hL.2.2.1 hj (by rw [Int32.ofInt_add]) (by rw [← hL.2.2.2]; exact hi) rfl (fun ls' h' => K0 H locs ls' hW ?_ rfl)
    exact (hL.push (v := mI (x + n)) hr).set1 hi hbf h'
  | iconst n =>
    obtain ⟨rfl, hr, rfl⟩ := hs
    exact lv_iconst hx hb hd rfl (K0 H locs ls hW (hL.push hr) rfl)
  | bipush n =>
    obtain ⟨rfl, h1, h2, rfl⟩ := hs
    exact lv_bipush hx hb hd (cI_b h1 h2) (K0 H locs ls hW (hL.push (show inI n from ⟨by omega, by omega⟩)) rfl)
  | sipush n =>
    obtain ⟨rfl, h1, h2, rfl⟩ := hs
    exact lv_sipush hx hb hd (cI_s h1 h2) (K0 H locs ls hW (hL.push (show inI n from ⟨by omega, by omega⟩)) rfl)
  | lconst n =>
    obtain ⟨rfl, rfl⟩ := hs
    exact lv_lconst hx hb hd (Int64.ofInt_eq_ofNat).symm (K0 H locs ls hW (hL.push (show inJ ((n : Nat) : Int) from ⟨by have := n.isLt; omega, by have := n.isLt; omega⟩)) rfl)
  | ldc2_w idx =>
    obtain ⟨x, rfl, hr, hw, rfl⟩ := hs
    exact lv_ldc2 hx hb hown (hts _ hw) hd (K0 H locs ls hW (hL.push hr) rfl)
  | ldc_w idx =>
    obtain ⟨x, rfl, hr, hw, rfl⟩ := hs
    exact lv_ldcw hx hb hown (hts _ hw) hd (K0 H locs ls hW (hL.push hr) rfl)
  | iadd =>
    obtain ⟨x, y, S', rfl, rfl, hr, rfl⟩ := hs
    refine lv_iadd hx hb hd ?_
    rw [← Int32.ofInt_add]
    exact K0 H locs ls hW (hL.tl.tl.push hr) rfl
  | isub =>
    obtain ⟨x, y, S', rfl, rfl, hr, rfl⟩ := hs
    refine lv_isub hx hb hd ?_
    rw [← Int32.ofInt_sub]
    exact K0 H locs ls hW (hL.tl.tl.push hr) rfl
  | imul =>
    obtain ⟨x, y, S', rfl, rfl, hr, rfl⟩ := hs
    refine lv_imul hx hb hd ?_
    rw [← Int32.ofInt_mul]
    exact K0 H locs ls hW (hL.tl.tl.push hr) rfl
  | ladd =>
    obtain ⟨x, y, S', rfl, rfl, hr, rfl⟩ := hs
    refine lv_ladd hx hb hd ?_
    rw [← Int64.ofInt_add]
    exact K0 H locs ls hW (hL.tl.tl.push hr) rfl
  | lsub =>
    obtain ⟨x, y, S', rfl, rfl, hr, rfl⟩ := hs
    refine lv_lsub hx hb hd ?_
    rw [← Int64.ofInt_sub]
    exact K0 H locs ls hW (hL.tl.tl.push hr) rfl
  | lmul =>
    obtain ⟨x, y, S', rfl, rfl, hr, rfl⟩ := hs
    refine lv_lmul hx hb hd ?_
    rw [← Int64.ofInt_mul]
    exact K0 H locs ls hW (hL.tl.tl.push hr) rfl
  | iand =>
    obtain ⟨x, y, S', rfl, rfl, rfl⟩ := hs
    refine lv_iand hx hb hd ?_
    rw [cI_and]
    exact K0 H locs ls hW (hL.tl.tl.push (cI_in _)) rfl
  | ior =>
    obtain ⟨x, y, S', rfl, rfl, rfl⟩ := hs
    refine lv_ior hx hb hd ?_
    rw [cI_or]
    exact K0 H locs ls hW (hL.tl.tl.push (cI_in _)) rfl
  | ishl =>
    obtain ⟨x, y, S', rfl, rfl, rfl⟩ := hs
    refine lv_ishl hx hb hd ?_
    rw [cI_shl]
    exact K0 H locs ls hW (hL.tl.tl.push (cI_in _)) rfl
  | ishr =>
    obtain ⟨x, y, S', rfl, rfl, rfl⟩ := hs
    refine lv_ishr hx hb hd ?_
    rw [cI_shr]
    exact K0 H locs ls hW (hL.tl.tl.push (cI_in _)) rfl
  | iushr =>
    obtain ⟨x, y, S', rfl, rfl, rfl⟩ := hs
    exact lv_iushr hx hb hd (cI_ushr x y) (K0 H locs ls hW (hL.tl.tl.push (cI_in _)) rfl)
  | idiv =>
    obtain ⟨x, y, S', rfl, rfl, h0, h1, rfl⟩ := hs
    have hr := (show inI (x / y) from by
      have q1 := hL.tl.hd
      have q2 := hL.hd
      have a1 := Int.ediv_nonneg h0 (Int.le_of_lt h1)
      have a2 := Int.ediv_le_self y h0
      simp only [mok, inI] at q1 q2 ⊢
      omega)
    refine lv_idiv hx hb hd ?_ ?_
    · rw [show (0 : Int32) = Int32.ofInt 0 from rfl, cI_eq hL.hd inI_0]
      omega
    · rw [cI_div hL.tl.hd hL.hd h0 h1]
      exact K0 H locs ls hW (hL.tl.tl.push hr) rfl
  | irem =>
    obtain ⟨x, y, S', rfl, rfl, h0, h1, rfl⟩ := hs
    have hr := (show inI (x % y) from by
      have q1 := hL.tl.hd
      have q2 := hL.hd
      have a1 := Int.emod_nonneg x (show y ≠ 0 by omega)
      have a2 := Int.emod_lt_of_pos x h1
      simp only [mok, inI] at q1 q2 ⊢
      omega)
    refine lv_irem hx hb hd ?_ ?_
    · rw [show (0 : Int32) = Int32.ofInt 0 from rfl, cI_eq hL.hd inI_0]
      omega
    · rw [cI_rem hL.tl.hd hL.hd h0 h1]
      exact K0 H locs ls hW (hL.tl.tl.push hr) rfl
  | ldiv =>
    obtain ⟨x, y, S', rfl, rfl, h0, h1, rfl⟩ := hs
    have hr := (show inJ (x / y) from by
      have q1 := hL.tl.hd
      have q2 := hL.hd
      have a1 := Int.ediv_nonneg h0 (Int.le_of_lt h1)
      have a2 := Int.ediv_le_self y h0
      simp only [mok, inJ] at q1 q2 ⊢
      omega)
    refine lv_ldiv hx hb hd ?_ ?_
    · rw [show (0 : Int64) = Int64.ofInt 0 from rfl, cJ_eq hL.hd inJ_0]
      omega
    · rw [cJ_div hL.tl.hd hL.hd h0 h1]
      exact K0 H locs ls hW (hL.tl.tl.push hr) rfl
  | lrem =>
    obtain ⟨x, y, S', rfl, rfl, h0, h1, rfl⟩ := hs
    have hr := (show inJ (x % y) from by
      have q1 := hL.tl.hd
      have q2 := hL.hd
      have a1 := Int.emod_nonneg x (show y ≠ 0 by omega)
      have a2 := Int.emod_lt_of_pos x h1
      simp only [mok, inJ] at q1 q2 ⊢
      omega)
    refine lv_lrem hx hb hd ?_ ?_
    · rw [show (0 : Int64) = Int64.ofInt 0 from rfl, cJ_eq hL.hd inJ_0]
      omega
    · rw [cJ_rem hL.tl.hd hL.hd h0 h1]
      exact K0 H locs ls hW (hL.tl.tl.push hr) rfl
  | ineg =>
    obtain ⟨x, S', rfl, rfl, hr, rfl⟩ := hs
    refine lv_ineg hx hb hd ?_
    rw [← Int32.ofInt_neg]
    exact K0 H locs ls hW (hL.tl.push hr) rfl
  | lcmp =>
    obtain ⟨x, y, S', rfl, rfl, rfl⟩ := hs
    refine W.lcmp hx hb hd ?_
    rw [cI_cmp hL.tl.hd hL.hd]
    refine K0 H locs ls hW (hL.tl.tl.push ?_) rfl
    show inI (if y < x then 1 else if x = y then 0 else -1)
    split
    · exact ⟨by decide, by decide⟩
    · split <;> exact ⟨by decide, by decide⟩
  | i2l =>
    obtain ⟨x, S', rfl, rfl, rfl⟩ := hs
    have hr : inI x := hL.hd
    exact lv_i2l hx hb hd (cI_l hr) (K0 H locs ls hW (hL.tl.push (show inJ x by unfold inI at hr; unfold inJ; omega)) rfl)
  | dup =>
    obtain ⟨v, S', rfl, rfl, hv, rfl⟩ := hs
    refine lv_dup hx hb hd ?_ (K0 H locs ls hW (hL.push hL.hd) rfl)
    rw [mtau_cat]
    rcases v with x | x | _ | k <;> first | rfl | cases hv
  | dup2 =>
    obtain ⟨v, w, S', rfl, rfl, hv, hw, rfl⟩ := hs
    refine lv_dup2_11 hx hb hd ?_ ?_ (K0 H locs ls hW ((hL.push hL.tl.hd).push hL.hd) rfl)
    · rw [mtau_cat]
      rcases v with x | x | _ | k <;> first | rfl | cases hv
    · rw [mtau_cat]
      rcases w with x | x | _ | k <;> first | rfl | cases hw
  | goto off =>
    obtain ⟨t, rfl, ht, rfl⟩ := hs
    exact lv_goto hx hb hd ht (K0 H locs ls hW hL rfl)
  | if_icmp c9 off =>
    obtain ⟨x, y, S', t, rfl, rfl, ht, rfl⟩ := hs
    cases c9 with
    | eq =>
      refine lv_icmp_eq hx hb hd ht (fun q => ?_) (fun q => ?_)
      · have q' := (cI_eq hL.tl.hd hL.hd).mp q
        have e1 : mCmp .eq x y = true := by simp only [mCmp, decide_eq_true_eq]; exact q'
        rw [e1] at K0
        exact K0 H locs ls hW hL.tl.tl rfl
      · have q' := fun z => q ((cI_eq hL.tl.hd hL.hd).mpr z)
        have e1 : mCmp .eq x y = false := by simp only [mCmp, decide_eq_false_iff_not]; exact q'
        rw [e1] at K0
        exact K0 H locs ls hW hL.tl.tl rfl
    | ne =>
      refine lv_icmp_ne hx hb hd ht (fun q => ?_) (fun q => ?_)
      · have q' := (not_congr (cI_eq hL.tl.hd hL.hd)).mp q
        have e1 : mCmp .ne x y = true := by simp only [mCmp, decide_eq_true_eq]; exact q'
        rw [e1] at K0
        exact K0 H locs ls hW hL.tl.tl rfl
      · have q' := fun (z : x ≠ y) => z ((cI_eq hL.tl.hd hL.hd).mp q)
        have e1 : mCmp .ne x y = false := by simp only [mCmp, decide_eq_false_iff_not]; exact q'
        rw [e1] at K0
        exact K0 H locs ls hW hL.tl.tl rfl
    | lt =>
      refine lv_icmp_lt hx hb hd ht (fun q => ?_) (fun q => ?_)
      · have q' := (cI_lt hL.tl.hd hL.hd).mp q
        have e1 : mCmp .lt x y = true := by simp only [mCmp, decide_eq_true_eq]; exact q'
        rw [e1] at K0
        exact K0 H locs ls hW hL.tl.tl rfl
      · have q' := fun z => q ((cI_lt hL.tl.hd hL.hd).mpr z)
        have e1 : mCmp .lt x y = false := by simp only [mCmp, decide_eq_false_iff_not]; exact q'
        rw [e1] at K0
        exact K0 H locs ls hW hL.tl.tl rfl
    | ge =>
      refine lv_icmp_ge hx hb hd ht (fun q => ?_) (fun q => ?_)
      · have q' := (cI_le hL.hd hL.tl.hd).mp q
        have e1 : mCmp .ge x y = true := by simp only [mCmp, decide_eq_true_eq]; exact q'
        rw [e1] at K0
        exact K0 H locs ls hW hL.tl.tl rfl
      · have q' := fun z => q ((cI_le hL.hd hL.tl.hd).mpr z)
        have e1 : mCmp .ge x y = false := by simp only [mCmp, decide_eq_false_iff_not]; exact q'
        rw [e1] at K0
        exact K0 H locs ls hW hL.tl.tl rfl
    | gt =>
      refine lv_icmp_gt hx hb hd ht (fun q => ?_) (fun q => ?_)
      · have q' := (cI_lt hL.hd hL.tl.hd).mp q
        have e1 : mCmp .gt x y = true := by simp only [mCmp, decide_eq_true_eq]; exact q'
        rw [e1] at K0
        exact K0 H locs ls hW hL.tl.tl rfl
      · have q' := fun z => q ((cI_lt hL.hd hL.tl.hd).mpr z)
        have e1 : mCmp .gt x y = false := by simp only [mCmp, decide_eq_false_iff_not]; exact q'
        rw [e1] at K0
        exact K0 H locs ls hW hL.tl.tl rfl
    | le =>
      refine lv_icmp_le hx hb hd ht (fun q => ?_) (fun q => ?_)
      · have q' := (cI_le hL.tl.hd hL.hd).mp q
        have e1 : mCmp .le x y = true := by simp only [mCmp, decide_eq_true_eq]; exact q'
        rw [e1] at K0
        exact K0 H locs ls hW hL.tl.tl rfl
      · have q' := fun z => q ((cI_le hL.tl.hd hL.hd).mpr z)
        have e1 : mCmp .le x y = false := by simp only [mCmp, decide_eq_false_iff_not]; exact q'
        rw [e1] at K0
        exact K0 H locs ls hW hL.tl.tl rfl
  | ifCond c9 off =>
    obtain ⟨x, S', t, rfl, rfl, ht, rfl⟩ := hs
    cases c9 with
    | eq =>
      refine lv_if_eq hx hb hd ht (fun q => ?_) (fun q => ?_)
      · have q' := (cI_eq hL.hd inI_0).mp q
        have e1 : mCmp .eq x 0 = true := by simp only [mCmp, decide_eq_true_eq]; exact q'
        rw [e1] at K0
        exact K0 H locs ls hW hL.tl rfl
      · have q' := fun z => q ((cI_eq hL.hd inI_0).mpr z)
        have e1 : mCmp .eq x 0 = false := by simp only [mCmp, decide_eq_false_iff_not]; exact q'
        rw [e1] at K0
        exact K0 H locs ls hW hL.tl rfl
    | ne =>
      refine lv_if_ne hx hb hd ht (fun q => ?_) (fun q => ?_)
      · have q' := (not_congr (cI_eq hL.hd inI_0)).mp q
        have e1 : mCmp .ne x 0 = true := by simp only [mCmp, decide_eq_true_eq]; exact q'
        rw [e1] at K0
        exact K0 H locs ls hW hL.tl rfl
      · have q' := fun (z : x ≠ 0) => z ((cI_eq hL.hd inI_0).mp q)
        have e1 : mCmp .ne x 0 = false := by simp only [mCmp, decide_eq_false_iff_not]; exact q'
        rw [e1] at K0
        exact K0 H locs ls hW hL.tl rfl
    | lt =>
      refine lv_if_lt hx hb hd ht (fun q => ?_) (fun q => ?_)
      · have q' := (cI_lt hL.hd inI_0).mp q
        have e1 : mCmp .lt x 0 = true := by simp only [mCmp, decide_eq_true_eq]; exact q'
        rw [e1] at K0
        exact K0 H locs ls hW hL.tl rfl
      · have q' := fun z => q ((cI_lt hL.hd inI_0).mpr z)
        have e1 : mCmp .lt x 0 = false := by simp only [mCmp, decide_eq_false_iff_not]; exact q'
        rw [e1] at K0
        exact K0 H locs ls hW hL.tl rfl
    | ge =>
      refine lv_if_ge hx hb hd ht (fun q => ?_) (fun q => ?_)
      · have q' := (cI_le inI_0 hL.hd).mp q
        have e1 : mCmp .ge x 0 = true := by simp only [mCmp, decide_eq_true_eq]; exact q'
        rw [e1] at K0
        exact K0 H locs ls hW hL.tl rfl
      · have q' := fun z => q ((cI_le inI_0 hL.hd).mpr z)
        have e1 : mCmp .ge x 0 = false := by simp only [mCmp, decide_eq_false_iff_not]; exact q'
        rw [e1] at K0
        exact K0 H locs ls hW hL.tl rfl
    | gt =>
      refine lv_if_gt hx hb hd ht (fun q => ?_) (fun q => ?_)
      · have q' := (cI_lt inI_0 hL.hd).mp q
        have e1 : mCmp .gt x 0 = true := by simp only [mCmp, decide_eq_true_eq]; exact q'
        rw [e1] at K0
        exact K0 H locs ls hW hL.tl rfl
      · have q' := fun z => q ((cI_lt inI_0 hL.hd).mpr z)
        have e1 : mCmp .gt x 0 = false := by simp only [mCmp, decide_eq_false_iff_not]; exact q'
        rw [e1] at K0
        exact K0 H locs ls hW hL.tl rfl
    | le =>
      refine lv_if_le hx hb hd ht (fun q => ?_) (fun q => ?_)
      · have q' := (cI_le hL.hd inI_0).mp q
        have e1 : mCmp .le x 0 = true := by simp only [mCmp, decide_eq_true_eq]; exact q'
        rw [e1] at K0
        exact K0 H locs ls hW hL.tl rfl
      · have q' := fun z => q ((cI_le hL.hd inI_0).mpr z)
        have e1 : mCmp .le x 0 = false := by simp only [mCmp, decide_eq_false_iff_not]; exact q'
        rw [e1] at K0
        exact K0 H locs ls hW hL.tl rfl
  | tableswitch df lo hi offs =>
    obtain ⟨x, S', t, rfl, h1, rfl⟩ := hs
    have hr : inI x := hL.hd
    rcases h1 with ⟨h1, ht⟩ | ⟨h1, h2, off, ho, ht⟩
    · exact lv_tableOut hx hb hd (by rw [cI_t hr]; exact h1) ht (K0 H locs ls hW hL.tl rfl)
    · exact lv_tableIn hx hb hd (by rw [cI_t hr]; omega) (by rw [cI_t hr]; omega) (by rw [cI_t hr]; exact ho) ht (K0 H locs ls hW hL.tl rfl)
  | arraylength =>
    obtain ⟨a, ce, n, S', rfl, rfl, hc, hce, hn, rfl⟩ := hs
    exact m_alen hx hb hK hG hAz hW hc hce hn hd (K0 H locs ls hW (hL.tl.push (show inI ((n.length : Nat) : Int) from ⟨by omega, by omega⟩)) rfl)
  | iaload =>
    obtain ⟨x, a, li, S', rfl, rfl, hc, h0, h1, rfl⟩ := hs
    exact m_iaload hx hb hK hG hAz hW hc h0 h1 hL.hd hd (K0 H locs ls hW (hL.tl.tl.push (getD_ok inI_0 (mhok_get hW.2.2.2.1 hc) _)) rfl)
  | laload =>
    obtain ⟨x, a, li, S', rfl, rfl, hc, h0, h1, rfl⟩ := hs
    exact m_laload hx hb hK hG hAz hW hc h0 h1 hL.hd hd (K0 H locs ls hW (hL.tl.tl.push (getD_ok inJ_0 (mhok_get hW.2.2.2.1 hc) _)) rfl)
  | iastore =>
    obtain ⟨v, x, a, li, S', rfl, rfl, ha, hc, h0, h1, rfl⟩ := hs
    refine m_iastore hx hb hK hW ha hc h0 h1 hL.tl.hd hL.hd hd (fun H' locs' hW' => K0 H' locs' ls hW' ?_ rfl)
    rw [List.length_set]
    exact hL.tl.tl.tl
  | lastore =>
    obtain ⟨v, x, a, li, S', rfl, rfl, ha, hc, h0, h1, rfl⟩ := hs
    refine m_lastore hx hb hK hW ha hc h0 h1 hL.tl.hd hL.hd hd (fun H' locs' hW' => K0 H' locs' ls hW' ?_ rfl)
    rw [List.length_set]
    exact hL.tl.tl.tl
  | getfield idx =>
    obtain ⟨a, ci, fs, k, v, S', rfl, rfl, hf, ha, hc, hv, hvn, rfl⟩ := hs
    exact m_getfield hx hb hts hown hK hW hf ha hc hv hd (K0 H locs ls hW (hL.tl.push ((mhok_get hW.2.2.2.1 hc) v (List.mem_of_getElem? hv))) rfl)
  | putfield idx =>
    obtain ⟨a, ci, fs, k, v, S', rfl, rfl, hf, ha, hc, hkl, hft, hfin, rfl⟩ := hs
    refine m_putfield hx hb hts hown hini hK hW hf ha hc hkl hft hfin hL.hd hd (fun H' locs' hW' => K0 H' locs' ls hW' ?_ rfl)
    rw [List.length_set]
    exact hL.tl.tl
  | getstatic idx =>
    obtain ⟨rfl, hw, rfl⟩ := hs
    exact m_getstatic hx hb hts hown hG hAz hW hw hd (K0 H locs ls hW (hL.push (show 0 < h.length from by have := hW.2.2.2.2.2.two; omega)) rfl)
  | new idx =>
    obtain ⟨ci, rfl, hf, hb1, hb2, rfl⟩ := hs
    have e9 : ∀ q, (S.map (mtau (ad ++ [q]))) = S.map (mtau ad) := fun q => mtaus_app (fun v hv => by rw [hW.2.2.2.2.1]; exact hL.1 v hv)
    refine m_new hx hb hts hown hK hA hW hf (by omega) (by omega) hd (fun H' q hW' => ?_)
    have z := K H' locs (cells + 1) (slots + mNf ci) [q] ls hW' ((hL.ext hW.2.2.2.2.1.symm (by simp)).push (by simp [mok])) ⟨by show cells + 1 + (b.1 - 1) = cb; omega, by show slots + mNf ci + (b.2 - mNf ci) = sb; omega⟩
    rw [← e9 q]
    exact z
  | newarray t =>
    obtain ⟨x, S', rfl, rfl, h0, h1, hb1, hb2, ho⟩ := hs
    have e9 : ∀ q, (S'.map (mtau (ad ++ [q]))) = S'.map (mtau ad) := fun q => mtaus_app (fun v hv => by rw [hW.2.2.2.2.1]; exact hL.tl.1 v hv)
    rcases ho with ⟨rfl, rfl⟩ | ⟨rfl, rfl⟩
    · refine m_newi hx hb hts hK hA hW h0 h1 (by omega) (by omega) hd (fun H' q hW' => ?_)
      have z := K H' locs (cells + 1) (slots + x.toNat) [q] ls hW' ((hL.tl.ext hW.2.2.2.2.1.symm (by simp)).push (by simp [mok])) ⟨by show cells + 1 + (b.1 - 1) = cb; omega, by show slots + x.toNat + (b.2 - x.toNat) = sb; omega⟩
      rw [← e9 q]
      exact z
    · refine m_newl hx hb hts hK hA hW h0 h1 (by omega) (by omega) hd (fun H' q hW' => ?_)
      have z := K H' locs (cells + 1) (slots + x.toNat) [q] ls hW' ((hL.tl.ext hW.2.2.2.2.1.symm (by simp)).push (by simp [mok])) ⟨by show cells + 1 + (b.1 - 1) = cb; omega, by show slots + x.toNat + (b.2 - x.toNat) = sb; omega⟩
      rw [← e9 q]
      exact z
  | invokespecial idx =>
    obtain ⟨a, S', rfl, hd1, rfl, hr8, hw, rfl⟩ := hs
    exact m_objInit hx hb hml hts hown hL.2.2.1.1 ⟨by omega, by omega⟩ hr8 hw hd (K0 H locs ls hW hL.tl rfl)
  | invokestatic idx =>
    obtain ⟨n, dp, sp, a1, a0, l0, l1, S', rfl, hd1, rfl, hr8, hw, h1, h0, hc0, hc1, hn, hsp, hdp, g0, g1, rfl⟩ := hs
    refine m_copy hx hb hml hts hown hL.2.2.1.1 ⟨by omega, by omega⟩ hK hW hr8 hw h1 h0 hc0 hc1 hn hsp hdp g0 g1 hL.hd hL.tl.tl.tl.hd hL.tl.hd hd (fun H' locs' hW' => K0 H' locs' ls hW' ?_ rfl)
    rw [List.length_set]
    exact hL.tl.tl.tl.tl.tl
  | _ => exact (show False from hs).elim
end MSS
