/-! numbers of the small machine and of the machine -/
theorem cI_t {x : Int} (h : inI x) : (Int32.ofInt x).toInt = x := Int32.toInt_ofInt_of_le (by unfold inI at h; omega) (by unfold inI at h; omega)
theorem cJ_t {x : Int} (h : inJ x) : (Int64.ofInt x).toInt = x := Int64.toInt_ofInt_of_le (by unfold inJ at h; omega) (by unfold inJ at h; omega)
theorem cI_in (x : Int32) : inI x.toInt := by
  have h1 := x.minValue_le_toInt
  have h2 := x.toInt_le
  have e1 : Int32.minValue.toInt = -2147483648 := by decide
  have e2 : Int32.maxValue.toInt = 2147483647 := by decide
  exact ⟨by omega, by omega⟩
theorem cI_r (x : Int32) : Int32.ofInt x.toInt = x := Int32.ofInt_toInt x
theorem cI_lt {x y : Int} (hx : inI x) (hy : inI y) : Int32.ofInt x < Int32.ofInt y ↔ x < y := by rw [Int32.lt_iff_toInt_lt, cI_t hx, cI_t hy]
theorem cI_le {x y : Int} (hx : inI x) (hy : inI y) : Int32.ofInt x ≤ Int32.ofInt y ↔ x ≤ y := by rw [Int32.le_iff_toInt_le, cI_t hx, cI_t hy]
theorem cI_eq {x y : Int} (hx : inI x) (hy : inI y) : Int32.ofInt x = Int32.ofInt y ↔ x = y := by rw [← Int32.toInt_inj, cI_t hx, cI_t hy]
theorem cJ_lt {x y : Int} (hx : inJ x) (hy : inJ y) : Int64.ofInt x < Int64.ofInt y ↔ x < y := by rw [Int64.lt_iff_toInt_lt, cJ_t hx, cJ_t hy]
theorem cJ_eq {x y : Int} (hx : inJ x) (hy : inJ y) : Int64.ofInt x = Int64.ofInt y ↔ x = y := by rw [← Int64.toInt_inj, cJ_t hx, cJ_t hy]
theorem inI_0 : inI 0 := ⟨by decide, by decide⟩
theorem inJ_0 : inJ 0 := ⟨by decide, by decide⟩
theorem cI_div {x y : Int} (hx : inI x) (hy : inI y) (h0 : 0 ≤ x) (h1 : 0 < y) : Int32.ofInt x / Int32.ofInt y = Int32.ofInt (x / y) := by
  have hq : inI (x / y) := by
    have a := Int.ediv_nonneg h0 (Int.le_of_lt h1)
    have b := Int.ediv_le_self y h0
    unfold inI at *
    omega
  apply Int32.toInt_inj.mp
  rw [cI_t hq, Int32.toInt_div_of_ne_right, cI_t hx, cI_t hy, Int.tdiv_eq_ediv_of_nonneg h0]
  intro h
  have := congrArg Int32.toInt h
  rw [cI_t hy] at this
  have e : (-1 : Int32).toInt = -1 := by decide
  omega
theorem cJ_div {x y : Int} (hx : inJ x) (hy : inJ y) (h0 : 0 ≤ x) (h1 : 0 < y) : Int64.ofInt x / Int64.ofInt y = Int64.ofInt (x / y) := by
  have hq : inJ (x / y) := by
    have a := Int.ediv_nonneg h0 (Int.le_of_lt h1)
    have b := Int.ediv_le_self y h0
    unfold inJ at *
    omega
  apply Int64.toInt_inj.mp
  rw [cJ_t hq, Int64.toInt_div_of_ne_right, cJ_t hx, cJ_t hy, Int.tdiv_eq_ediv_of_nonneg h0]
  intro h
  have := congrArg Int64.toInt h
  rw [cJ_t hy] at this
  have e : (-1 : Int64).toInt = -1 := by decide
  omega
theorem cI_rem {x y : Int} (hx : inI x) (hy : inI y) (h0 : 0 ≤ x) (h1 : 0 < y) : Int32.ofInt x - Int32.ofInt x / Int32.ofInt y * Int32.ofInt y = Int32.ofInt (x % y) := by
  rw [cI_div hx hy h0 h1, ← Int32.ofInt_mul, ← Int32.ofInt_sub]
  congr 1
  have := Int.mul_ediv_add_emod x y
  have c := Int.mul_comm (x / y) y
  omega
theorem cJ_rem {x y : Int} (hx : inJ x) (hy : inJ y) (h0 : 0 ≤ x) (h1 : 0 < y) : Int64.ofInt x - Int64.ofInt x / Int64.ofInt y * Int64.ofInt y = Int64.ofInt (x % y) := by
  rw [cJ_div hx hy h0 h1, ← Int64.ofInt_mul, ← Int64.ofInt_sub]
  congr 1
  have := Int.mul_ediv_add_emod x y
  have c := Int.mul_comm (x / y) y
  omega
theorem cI_cmp {x y : Int} (hx : inJ x) (hy : inJ y) : lg_cmp (Int64.ofInt x) (Int64.ofInt y) = Int32.ofInt (if y < x then 1 else if x = y then 0 else -1) := by
  unfold lg_cmp
  simp only [gt_iff_lt, cJ_lt hy hx, cJ_eq hx hy]
  by_cases a : y < x
  · simp [a]
  · by_cases b : x = y
    · simp [b]
    · simp [a, b]
theorem cI_vp {x : Int} {n : Nat} (h0 : 0 ≤ x) (h1 : x < n) (hx : inI x) : vp_in (Int32.ofInt x) n := by
  rw [vp_in_iff, cI_t hx]
  exact ⟨h0, h1⟩
theorem cI_cl {x : Int} (hx : inI x) : (Int32.ofInt x).toNatClampNeg = x.toNat := Int32.toNatClampNeg_ofInt_of_le (by unfold inI at hx; omega) (by unfold inI at hx; omega)
theorem cI_and (x y : Int) : Int32.ofInt x &&& Int32.ofInt y = Int32.ofInt (mAnd x y) := (cI_r _).symm
theorem cI_or (x y : Int) : Int32.ofInt x ||| Int32.ofInt y = Int32.ofInt (mOr x y) := (cI_r _).symm
theorem cI_shl (x y : Int) : Int32.ofInt x <<< (Int32.ofInt y &&& 31) = Int32.ofInt (mShl x y) := (cI_r _).symm
theorem cI_shr (x y : Int) : Int32.ofInt x >>> (Int32.ofInt y &&& 31) = Int32.ofInt (mShr x y) := (cI_r _).symm
theorem cI_ushr (x y : Int) : ((Int32.ofInt x).toUInt32 >>> ((Int32.ofInt y).toUInt32 &&& Int32.toUInt32 31)).toInt32 = Int32.ofInt (mUshr x y) := (cI_r _).symm
theorem cI_b {n : Int} (h : -128 ≤ n) (h2 : n < 128) : (Int8.ofInt n).toInt32 = Int32.ofInt n := by
  apply Int32.toInt_inj.mp
  rw [Int8.toInt_toInt32, Int8.toInt_ofInt_of_le h h2, cI_t ⟨by omega, by omega⟩]
theorem cI_s {n : Int} (h : -32768 ≤ n) (h2 : n < 32768) : (Int16.ofInt n).toInt32 = Int32.ofInt n := by
  apply Int32.toInt_inj.mp
  rw [Int16.toInt_toInt32, Int16.toInt_ofInt_of_le h h2, cI_t ⟨by omega, by omega⟩]
theorem cI_l {x : Int} (h : inI x) : (Int32.ofInt x).toInt64 = Int64.ofInt x := by
  apply Int64.toInt_inj.mp
  rw [Int32.toInt_toInt64, cI_t h, cJ_t (by unfold inI at h; unfold inJ; omega)]
/-! worlds: the list of cells, at addresses -/
def mtau (ad : List Nat) (v : mV) : Value := match v with
  | .inl x => .int (Int32.ofInt x)
  | .inr (.inl x) => .long (Int64.ofInt x)
  | .inr (.inr (some k)) => .ref (ad.getD k 0)
  | .inr (.inr none) => .null
def menc (cI cJ : ClassId) (ad : List Nat) (c : mC) : va_E := match c with
  | .inl o => .inr (o.1, o.2.map (mtau ad))
  | .inr (.inl l) => .inl (cI, l.length, .inl (fun j => Int32.ofInt (l.getD j 0)))
  | .inr (.inr l) => .inl (cJ, l.length, .inr (.inl (fun j => Int64.ofInt (l.getD j 0))))
def mok (n : Nat) (v : mV) : Prop := match v with
  | .inl x => inI x
  | .inr (.inl x) => inJ x
  | .inr (.inr (some k)) => k < n
  | .inr (.inr none) => True
def mcok (n : Nat) (c : mC) : Prop := match c with
  | .inl o => ∀ v ∈ o.2, mok n v
  | .inr (.inl l) => ∀ x ∈ l, inI x
  | .inr (.inr l) => ∀ x ∈ l, inJ x
def mhok (h : List mC) : Prop := ∀ c ∈ h, mcok h.length c
def mwd (cI cJ : ClassId) (ad : List Nat) (h : List mC) : va_W := List.zipWith (fun a c => (a, menc cI cJ ad c)) (ad.drop 2) (h.drop 2)
theorem mok_le {n n' : Nat} {v : mV} (h : mok n v) (hn : n ≤ n') : mok n' v := by
  rcases v with x | x | _ | k <;> simp only [mok] at h ⊢ <;> first | exact h | omega
theorem mcok_le {n n' : Nat} {c : mC} (h : mcok n c) (hn : n ≤ n') : mcok n' c := by
  rcases c with o | l | l
  · exact fun v hv => mok_le (h v hv) hn
  · exact h
  · exact h
theorem mtau_app {ad : List Nat} {ex : List Nat} {v : mV} (h : mok ad.length v) : mtau (ad ++ ex) v = mtau ad v := by
  rcases v with x | x | _ | k
  · rfl
  · rfl
  · rfl
  · simp only [mok] at h
    simp only [mtau]
    congr 1
    simp only [List.getD_eq_getElem?_getD, List.getElem?_append_left h]
theorem menc_app {cI cJ : ClassId} {ad ex : List Nat} {c : mC} (h : mcok ad.length c) : menc cI cJ (ad ++ ex) c = menc cI cJ ad c := by
  rcases c with o | l | l
  · simp only [menc]
    congr 2
    exact List.map_congr_left fun v hv => mtau_app (h v hv)
  · rfl
  · rfl
theorem mwd_get {cI cJ : ClassId} {ad : List Nat} {h : List mC} {k : Nat} {c : mC} (hl : ad.length = h.length) (hk : 2 ≤ k) (hc : h[k]? = some c) : (mwd cI cJ ad h)[k - 2]? = some (ad.getD k 0, menc cI cJ ad c) := by
  have hlt : k < h.length := (List.getElem?_eq_some_iff.mp hc).1
  unfold mwd
  rw [List.getElem?_zipWith]
  have e : 2 + (k - 2) = k := by omega
  rw [List.getElem?_drop, List.getElem?_drop, e, hc, List.getElem?_eq_getElem (by omega : k < ad.length)]
  simp [List.getD_eq_getElem?_getD, List.getElem?_eq_getElem (by omega : k < ad.length)]
theorem mwd_set {cI cJ : ClassId} {ad : List Nat} {h : List mC} {k : Nat} {c : mC} (hl : ad.length = h.length) (hk : 2 ≤ k) (hlt : k < h.length) : mwd cI cJ ad (h.set k c) = (mwd cI cJ ad h).set (k - 2) (ad.getD k 0, menc cI cJ ad c) := by
  unfold mwd
  apply List.ext_getElem?
  intro j
  rw [List.getElem?_zipWith, List.getElem?_set]
  by_cases e : k - 2 = j
  · subst e
    have e : 2 + (k - 2) = k := by omega
    have hl2 : k - 2 < (List.zipWith (fun a c => (a, menc cI cJ ad c)) (List.drop 2 ad) (List.drop 2 h)).length := by
      simp only [List.length_zipWith, List.length_drop]; omega
    rw [if_pos rfl, if_pos hl2, List.getElem?_drop, List.getElem?_drop, e, List.getElem?_set_self hlt, List.getElem?_eq_getElem (by omega : k < ad.length)]
    simp [List.getD_eq_getElem?_getD, List.getElem?_eq_getElem (by omega : k < ad.length)]
  · rw [if_neg e, List.getElem?_zipWith, List.getElem?_drop, List.getElem?_drop, List.getElem?_drop, List.getElem?_set_ne (by omega)]
theorem mwd_push {cI cJ : ClassId} {ad : List Nat} {h : List mC} {q : Nat} {c : mC} (hl : ad.length = h.length) (h2 : 2 ≤ h.length) (hok : mhok h) : mwd cI cJ (ad ++ [q]) (h ++ [c]) = mwd cI cJ ad h ++ [(q, menc cI cJ (ad ++ [q]) c)] := by
  unfold mwd
  rw [List.drop_append_of_le_length (by omega), List.drop_append_of_le_length (by omega), List.zipWith_append (by simp only [List.length_drop]; omega)]
  congr 1
  apply List.ext_getElem?
  intro j
  rw [List.getElem?_zipWith, List.getElem?_zipWith]
  cases ha : (List.drop 2 ad)[j]? with
  | none => rfl
  | some a =>
    cases hc : (List.drop 2 h)[j]? with
    | none => rfl
    | some c =>
      have hm : c ∈ h := List.mem_of_mem_drop (List.mem_of_getElem? hc)
      simp only []
      rw [menc_app (by rw [hl]; exact hok c hm)]
theorem mhok_set {h : List mC} {k : Nat} {c : mC} (hok : mhok h) (hc : mcok h.length c) : mhok (h.set k c) := by
  intro c' hm
  rw [List.length_set]
  rcases List.mem_or_eq_of_mem_set hm with hm | rfl
  · exact hok c' hm
  · exact hc
theorem mhok_push {h : List mC} {c : mC} (hok : mhok h) (hc : mcok h.length c) : mhok (h ++ [c]) := by
  intro c' hm
  rw [List.length_append]
  rcases List.mem_append.mp hm with hm | hm
  · exact mcok_le (hok c' hm) (by simp)
  · rw [List.mem_singleton.mp hm]
    exact mcok_le hc (by simp)
theorem mhok_get {h : List mC} {k : Nat} {c : mC} (hok : mhok h) (hc : h[k]? = some c) : mcok h.length c := hok c (List.mem_of_getElem? hc)
/-! locals -/
def mnu (ad : List Nat) (i : Nat) (v : mV) : Option (Nat × Value) := match v with
  | .inr (.inr none) => none
  | w => some (i, mtau ad w)
def lvOf (ad : List Nat) (L : List mV) : List (Nat × Value) := (List.range L.length).filterMap (fun i => (L[i]?).bind (mnu ad i))
theorem mnu_some {ad : List Nat} {i : Nat} {v : mV} (h : v ≠ mU) : mnu ad i v = some (i, mtau ad v) := by
  rcases v with x | x | _ | k
  · rfl
  · rfl
  · exact absurd rfl h
  · rfl
theorem mnu_inv {ad : List Nat} {i : Nat} {v : mV} {q : Nat × Value} (h : mnu ad i v = some q) : v ≠ mU ∧ q = (i, mtau ad v) := by
  rcases v with x | x | _ | k
  · cases h; exact ⟨(fun e => nomatch e), rfl⟩
  · cases h; exact ⟨(fun e => nomatch e), rfl⟩
  · cases h
  · cases h; exact ⟨(fun e => nomatch e), rfl⟩
theorem mem_lvOf {ad : List Nat} {L : List mV} {q : Nat × Value} : q ∈ lvOf ad L ↔ ∃ i v, L[i]? = some v ∧ v ≠ mU ∧ q = (i, mtau ad v) := by
  unfold lvOf
  rw [List.mem_filterMap]
  constructor
  · rintro ⟨i, hi, h⟩
    obtain ⟨v, h1, h2⟩ := Option.bind_eq_some_iff.mp h
    obtain ⟨h3, h4⟩ := mnu_inv h2
    exact ⟨i, v, h1, h3, h4⟩
  · rintro ⟨i, v, h1, h2, rfl⟩
    exact ⟨i, List.mem_range.mpr (List.getElem?_eq_some_iff.mp h1).1, by rw [h1]; exact mnu_some h2⟩
theorem lv_has_of {ls : Array Slot} {n : Nat} {l l' : List (Nat × Value)} (h : lv_has ls n l) (hl : ∀ q ∈ l', q ∈ l) : lv_has ls n l' := ⟨h.1, h.2.1, fun q hq => h.2.2 q (hl q hq)⟩
theorem lvOf_at {ad : List Nat} {L : List mV} {ls : Array Slot} {n i : Nat} {v : mV} (h : lv_has ls n (lvOf ad L)) (hi : L[i]? = some v) (hv : v ≠ mU) : ls[i]? = some (.val (mtau ad v)) := h.2.2 (i, mtau ad v) (mem_lvOf.mpr ⟨i, v, hi, hv, rfl⟩)
theorem mtau_cat {ad : List Nat} {v : mV} : (mtau ad v).category = mCat v := by
  rcases v with x | x | _ | k <;> rfl
theorem mCat_long {v : mV} : mCat v = 2 ↔ mLong v = true := by
  rcases v with x | x | _ | k <;> simp [mCat, mLong]
/-- one slot written -/
theorem lvOf_set1 {ad : List Nat} {L : List mV} {i : Nat} {v : mV} (hi : i < L.length) (hb : mBefore L i) : ∀ q ∈ lvOf ad (L.set i v), q ∈ (i, mtau ad v) :: (lvOf ad L).filter (fun q => !(q.1 == i) && !(q.1 + 1 == i && q.2.category == 2)) := by
  intro q hq
  obtain ⟨j, w, h1, h2, rfl⟩ := mem_lvOf.mp hq
  rw [List.getElem?_set] at h1
  by_cases e : i = j
  · subst e
    rw [if_pos rfl, if_pos hi] at h1
    cases h1
    exact List.mem_cons_self
  · rw [if_neg e] at h1
    refine List.mem_cons_of_mem _ (List.mem_filter.mpr ⟨mem_lvOf.mpr ⟨j, w, h1, h2, rfl⟩, ?_⟩)
    simp only [Bool.and_eq_true, Bool.not_eq_true', beq_eq_false_iff_ne, ne_eq, Bool.and_eq_false_iff]
    refine ⟨fun x => e x.symm, ?_⟩
    by_cases e2 : j + 1 = i
    · right
      rcases hb with hb | hb
      · omega
      · rw [mtau_cat, mCat_long]
        have : L.getD (i - 1) mU = w := by
          rw [List.getD_eq_getElem?_getD, show i - 1 = j by omega, h1]
          rfl
        rw [this] at hb
        rw [hb]
        decide
    · exact Or.inl e2
/-- two slots written -/
theorem lvOf_set2 {ad : List Nat} {L : List mV} {i : Nat} {v : mV} (hi : i + 1 < L.length) (hb : mBefore L i) : ∀ q ∈ lvOf ad ((L.set i v).set (i + 1) mU), q ∈ (i, mtau ad v) :: (lvOf ad L).filter (fun q => !(q.1 == i) && (!(q.1 == i + 1) && !(q.1 + 1 == i && q.2.category == 2))) := by
  intro q hq
  obtain ⟨j, w, h1, h2, rfl⟩ := mem_lvOf.mp hq
  rw [List.getElem?_set] at h1
  by_cases e1 : i + 1 = j
  · subst e1
    rw [if_pos rfl, if_pos (by rw [List.length_set]; exact hi)] at h1
    cases h1
    exact absurd rfl h2
  · rw [if_neg e1, List.getElem?_set] at h1
    by_cases e : i = j
    · subst e
      rw [if_pos rfl, if_pos (by omega)] at h1
      cases h1
      exact List.mem_cons_self
    · rw [if_neg e] at h1
      refine List.mem_cons_of_mem _ (List.mem_filter.mpr ⟨mem_lvOf.mpr ⟨j, w, h1, h2, rfl⟩, ?_⟩)
      simp only [Bool.and_eq_true, Bool.not_eq_true', beq_eq_false_iff_ne, ne_eq, Bool.and_eq_false_iff]
      refine ⟨fun x => e x.symm, fun x => e1 x.symm, ?_⟩
      by_cases e2 : j + 1 = i
      · right
        rcases hb with hb | hb
        · omega
        · rw [mtau_cat, mCat_long]
          have : L.getD (i - 1) mU = w := by
            rw [List.getD_eq_getElem?_getD, show i - 1 = j by omega, h1]
            rfl
          rw [this] at hb
          rw [hb]
          decide
      · exact Or.inl e2
/-- the arguments of a call, as the callee's locals -/
theorem mArgs_in {ad : List Nat} : ∀ (As : List mV) (off : Nat) (i : Nat) (v : mV), (As.flatMap (fun v => if mLong v = true then [v, mU] else [v]))[i]? = some v → v ≠ mU → (off + i, mtau ad v) ∈ lv_args off (As.map (mtau ad))
  | [], _, i, v, h, _ => by simp at h
  | a :: As, off, i, v, h, hv => by
    rw [List.flatMap_cons] at h
    rw [List.map_cons]
    unfold lv_args
    by_cases hl : mLong a = true
    · rw [if_pos hl] at h
      rw [if_pos (by rw [mtau_cat]; exact mCat_long.mpr hl)]
      match i, h with
      | 0, h =>
        simp at h
        subst h
        exact List.mem_cons_self
      | 1, h =>
        simp at h
        exact absurd h.symm hv
      | i + 2, h =>
        have h' : (As.flatMap (fun v => if mLong v = true then [v, mU] else [v]))[i]? = some v := by simpa using h
        have := mArgs_in (ad := ad) As (off + 2) i v h' hv
        rw [show off + 2 + i = off + (i + 2) by omega] at this
        exact List.mem_cons_of_mem _ this
    · rw [if_neg hl] at h
      rw [if_neg (by rw [mtau_cat]; exact fun q => hl (mCat_long.mp q))]
      match i, h with
      | 0, h =>
        simp at h
        subst h
        exact List.mem_cons_self
      | i + 1, h =>
        have h' : (As.flatMap (fun v => if mLong v = true then [v, mU] else [v]))[i]? = some v := by simpa using h
        have := mArgs_in (ad := ad) As (off + 1) i v h' hv
        rw [show off + 1 + i = off + (i + 1) by omega] at this
        exact List.mem_cons_of_mem _ this
theorem mArgs_sl {ad : List Nat} : ∀ (As : List mV), (lg_sl (As.map (mtau ad))).length = (As.flatMap (fun v => if mLong v = true then [v, mU] else [v])).length
  | [] => rfl
  | a :: As => by
    have ih := mArgs_sl (ad := ad) As
    unfold lg_sl at ih ⊢
    rw [List.map_cons, List.flatMap_cons, List.flatMap_cons, List.length_append, List.length_append, ih]
    congr 1
    by_cases hl : mLong a = true
    · rw [if_pos hl, if_pos (by rw [mtau_cat]; exact mCat_long.mpr hl)]
      rfl
    · rw [if_neg hl, if_neg (by rw [mtau_cat]; exact fun q => hl (mCat_long.mp q))]
      rfl
theorem mArgs_has {ad : List Nat} {As : List mV} {n : Nat} (hn : (mArgs n As).length = n) : lv_has ((lg_sl (As.map (mtau ad)) ++ List.replicate (n - (lg_sl (As.map (mtau ad))).length) Slot.unset).toArray) n (lvOf ad (mArgs n As)) := by
  have hle : (lg_sl (As.map (mtau ad))).length ≤ n := by
    rw [mArgs_sl]
    unfold mArgs at hn
    rw [List.length_append] at hn
    omega
  refine lv_has_of (lv_entry (As.map (mtau ad)) hle) ?_
  intro q hq
  obtain ⟨i, v, h1, h2, rfl⟩ := mem_lvOf.mp hq
  unfold mArgs at h1
  by_cases hi : i < (As.flatMap (fun v => if mLong v = true then [v, mU] else [v])).length
  · rw [List.getElem?_append_left hi] at h1
    have := mArgs_in (ad := ad) As 0 i v h1 h2
    rwa [Nat.zero_add] at this
  · rw [List.getElem?_append_right (by omega), List.getElem?_replicate] at h1
    split at h1
    · cases h1
      exact absurd rfl h2
    · cases h1
theorem mArgs_ok {n k : Nat} {As : List mV} (h : ∀ v ∈ As, mok k v) : ∀ v ∈ mArgs n As, mok k v := by
  intro v hv
  unfold mArgs at hv
  rcases List.mem_append.mp hv with hv | hv
  · obtain ⟨a, ha, hv⟩ := List.mem_flatMap.mp hv
    by_cases hl : mLong a = true
    · rw [if_pos hl] at hv
      rcases List.mem_cons.mp hv with rfl | hv
      · exact h _ ha
      · rw [List.mem_singleton.mp hv]
        exact trivial
    · rw [if_neg hl] at hv
      rw [List.mem_singleton.mp hv]
      exact h _ ha
  · rw [(List.mem_replicate.mp hv).2]
    exact trivial
