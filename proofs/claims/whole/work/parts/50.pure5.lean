/-! who can come, without the masks; any part above 0 (rows laid by wip/whole) -/
/-- each node has its set -/
theorem nd_ex {sz : Int} {pl wi ch : List Int} (hs : sz = 2 ∨ sz = 4 ∨ sz = 8) (hv : v8 pl) (hch : chB ch) (hcs : chS ch) (hdi : DisG sz pl) (hwv : v8 wi) (hwg : WiG sz pl wi) : ∀ (k : Nat) (m : Int), m.toNat < k → 0 ≤ m → m < sz - 1 → ∃ l t u : Nat, NdOk pl (odR pl wi ch sz (rdO sz m - 1).toNat) (fpO sz m) (hfA sz m) l ∧ NdOk pl (odR pl wi ch sz (rdO sz m - 1).toNat) (fpO sz m + hfA sz m) (hfA sz m) t ∧ NdOk pl (odR pl wi ch sz (rdO sz m).toNat) (fpO sz m) (2 * hfA sz m) u
  | 0, _, h, _, _ => by omega
  | k + 1, m, hk, h0, h1 => by
    obtain ⟨⟨w1, F0, F2, r1, r3, rl, pw⟩, hA, hB, hx⟩ := ix2 hs h0 h1
    have ih := fun m2 a b c => nd_ex hs hv hch hcs hdi hwv hwg k m2 a b c
    have hLT : ∃ l t : Nat, NdOk pl (odR pl wi ch sz (rdO sz m - 1).toNat) (fpO sz m) (hfA sz m) l ∧ NdOk pl (odR pl wi ch sz (rdO sz m - 1).toNat) (fpO sz m + hfA sz m) (hfA sz m) t := by
      by_cases c : 2 * m < sz
      · obtain ⟨a1, a2, a3, a4⟩ := hA c
        rw [a1, a2, a3]
        exact ⟨_, _, nd_place hv, nd_place hv⟩
      · obtain ⟨a1, a2, a3, a4, a5, a6, a7⟩ := hB c
        obtain ⟨_, _, u1, _, _, i1⟩ := ih (2 * m - sz) (by omega) (by omega) (by omega)
        obtain ⟨_, _, u2, _, _, i2⟩ := ih (2 * m + 1 - sz) (by omega) (by omega) (by omega)
        rw [a1, a2, a5] at i1
        rw [a3, a4, a6] at i2
        exact ⟨u1, u2, i1, i2⟩
    obtain ⟨l, t, hl, ht⟩ := hLT
    refine ⟨l, t, wsF ch l t (tld (rd8 wi m)), hl, ht, ?_⟩
    have hn := fun y => (odR_in (pl := pl) (wi := wi) (sz := sz) hch (rdO sz m - 1).toNat (by omega) y).1
    have hwn := rd8_in hwv m
    refine nd_step (r := rdO sz m) (wn := rd8 wi m) hv hch hcs hn (odR_8 hch _ (by omega)) r1 r3 rfl w1 (fun x x0 x1 => ?_) hl ht (fun x y x0 x1 y0 y1 => hdi x y (by omega) (by omega) (by omega) (by omega)) hwn (hwg m h0 h1)
    obtain ⟨z, rfl⟩ := Int.eq_ofNat_of_zero_le (by omega : 0 ≤ x)
    have hz := hx z (by omega) x0 x1
    obtain ⟨q, hq⟩ : ∃ q : Nat, rdO sz m = (q : Int) + 1 := ⟨(rdO sz m - 1).toNat, by omega⟩
    rw [hq] at hz
    rw [hq, show ((q : Int) + 1).toNat = q + 1 by omega, show ((q : Int) + 1 - 1).toNat = q by omega]
    show wmV _ _ _ (rd8 wi (fmA sz ((q : Int) + 1) + (z : Int) / p2A ((q : Int) + 1))) ((q : Int) + 1) ((z : Int) / p2A ((q : Int) + 1) * p2A ((q : Int) + 1)) (z : Int) = _
    rw [hz.1, hz.2]
/-- any part above 0 -/
def anF (P : Int → Int) : Nat → Bool
  | 0 => false
  | n + 1 => anF P n || decide (0 < P n)
theorem anF_iff {P : Int → Int} : ∀ n, anF P n = true ↔ ∃ i : Nat, i < n ∧ 0 < P i
  | 0 => by
    constructor
    · intro h; exact absurd (show false = true from h) (by decide)
    · rintro ⟨i, h, -⟩; omega
  | n + 1 => by
    unfold anF
    rw [Bool.or_eq_true, anF_iff n, decide_eq_true_eq]
    constructor
    · rintro (⟨i, h1, h2⟩ | h)
      · exact ⟨i, by omega, h2⟩
      · exact ⟨n, by omega, h⟩
    · rintro ⟨i, h1, h2⟩
      by_cases e : i = n
      · subst e; exact Or.inr h2
      · exact Or.inl ⟨i, by omega, h2⟩
theorem anB_F {l : List Int} {P : Int → Int} (h : ∀ a : Int, 0 ≤ a → a < 8 → gI l a = P a) : anB l 8 = anF P 8 := by
  have e : (anB l 8 = true) ↔ (anF P 8 = true) := by
    rw [anB_iff, anF_iff]
    constructor
    · rintro ⟨i, h1, h2⟩; exact ⟨i, h1, by rw [← h i (by omega) (by omega)]; exact h2⟩
    · rintro ⟨i, h1, h2⟩; exact ⟨i, h1, by rw [h i (by omega) (by omega)]; exact h2⟩
  exact Bool.eq_iff_iff.mpr e
theorem anF_fr {pl : List Int} {f P : Int → Int} {a w W K : Int} {u : Nat} (hv : v8 pl) (hf8 : ∀ x, 0 < f x → rd8 pl x ≠ 8) (hK : 0 < K) (hN : NdOk pl f a w u) (F : FrOk pl f a w P W K) : anF P 8 = true ↔ ∃ x, a ≤ x ∧ x < a + w ∧ rd8 pl x ≠ 8 := by
  obtain ⟨n1, n2, n3⟩ := hN
  obtain ⟨F1, F2, F3, F4⟩ := F
  rw [anF_iff]
  constructor
  · rintro ⟨i, i1, i2⟩
    refine Classical.byContradiction (fun q => ?_)
    rw [F4 i i1 (fun x x0 x1 z => q ⟨x, x0, x1, by omega⟩)] at i2
    exact absurd i2 (by decide)
  · rintro ⟨x, x0, x1, x2⟩
    have hu : u ≠ 0 := fun z => x2 (n3.mp z x x0 x1)
    obtain ⟨p, hp, pp⟩ : ∃ p : Nat, p < 8 ∧ u.testBit p = true := Classical.byContradiction (fun q => hu ((tb_zero n1).mpr (fun p hp pp => q ⟨p, hp, pp⟩)))
    obtain ⟨y, y0, y1, y2, y3⟩ := (n2 p hp).mp pp
    have e := F3 y y0 y1 (hf8 y y3)
    have e2 := Int.mul_pos y3 F1
    rw [y2] at e
    have h0 := F2 p (by omega) (by omega)
    refine ⟨p, hp, ?_⟩
    by_cases z : P p = 0
    · rw [z, Int.zero_mul] at e; omega
    · omega
