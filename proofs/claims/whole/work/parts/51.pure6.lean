/-! what work leaves, by the odds (rows laid by wip/whole) -/
/-- what work leaves for a match -/
def WkAt (dec : Bool) (sz : Int) (ch wm rw pt wh : List Int) (m : Int) : Prop := gI wh m = frW (ndW sz wh (2 * m)) (ndW sz wh (2 * m + 1)) (dec = true ∧ gI wm m ≠ -9) (anF (nd1 sz rw pt (2 * m)) 8 = true) (anF (nd1 sz rw pt (2 * m + 1)) 8 = true) ∧ ∀ a : Int, 0 ≤ a → a < 8 → gI pt (8 * m + a) = frP ch (nd1 sz rw pt (2 * m)) (nd1 sz rw pt (2 * m + 1)) (dec = true ∧ gI wm m ≠ -9) (gI wm m) (anF (nd1 sz rw pt (2 * m)) 8 = true) (anF (nd1 sz rw pt (2 * m + 1)) 8 = true) a
theorem FrOk.congr {pl : List Int} {f P P' : Int → Int} {a w W K : Int} (hv : v8 pl) (F : FrOk pl f a w P W K) (h : ∀ p : Int, 0 ≤ p → p < 8 → P' p = P p) : FrOk pl f a w P' W K := by
  obtain ⟨F1, F2, F3, F4⟩ := F
  refine ⟨F1, fun p p0 p8 => by rw [h p p0 p8]; exact F2 p p0 p8, fun x x0 x1 x8 => ?_, fun p hp hn => by rw [h p (by omega) (by omega)]; exact F4 p hp hn⟩
  have := rd8_in hv x
  rw [h _ this.1 (by omega)]
  exact F3 x x0 x1 x8
theorem fr_place {pl wi ch : List Int} {sz x : Int} (P : Int → Int) (hP : ∀ a : Int, 0 ≤ a → a < 8 → P a = if rd8 pl x = a then 1 else 0) (hv : v8 pl) : FrOk pl (odR pl wi ch sz 0) x 1 P 1 (pts 0) := by
  refine FrOk.congr (P := fun a => if rd8 pl x = a then 1 else 0) hv ⟨by decide, fun p _ _ => by show 0 ≤ (if rd8 pl x = p then (1 : Int) else 0); split <;> decide, fun y y0 y1 y8 => ?_, fun p hp hn => if_neg (hn x (by omega) (by omega))⟩ hP
  have e : y = x := by omega
  subst e
  show (if rd8 pl y = rd8 pl y then (1 : Int) else 0) * pts 0 = odR pl wi ch sz 0 y * 1
  unfold odR
  rw [if_pos rfl, if_neg y8]
  rfl
theorem pts_st {r : Int} (h1 : 1 ≤ r) (h3 : r ≤ 3) : pts r = 12 * pts (r - 1) * pts (r - 1) := by
  rcases (show r = 1 ∨ r = 2 ∨ r = 3 by omega) with rfl | rfl | rfl <;> decide
theorem frP_congr {ch : List Int} {P1 P2 : Int → Int} {d1 d2 : Prop} [Decidable d1] [Decidable d2] {w1 w2 : Int} {f1 f2 : Prop} [Decidable f1] [Decidable f2] {p : Int} (hd : d1 ↔ d2) (hw : d2 → w1 = w2) : frP ch P1 P2 d1 w1 f1 f2 p = frP ch P1 P2 d2 w2 f1 f2 p := by
  unfold frP
  by_cases c : d2
  · rw [if_pos (hd.mpr c), if_pos c, hw c]
  · rw [if_neg (fun z => c (hd.mp z)), if_neg c]
theorem frW_congr {W1 W2 : Int} {d1 d2 f1 f2 : Prop} [Decidable d1] [Decidable d2] [Decidable f1] [Decidable f2] (hd : d1 ↔ d2) : frW W1 W2 d1 f1 f2 = frW W1 W2 d2 f1 f2 := by
  unfold frW
  by_cases c : d2
  · rw [if_pos (hd.mpr c), if_pos c]
  · rw [if_neg (fun z => c (hd.mp z)), if_neg c]
/-- sides and match: parts of wholes are odds -/
def FrAll (pl wi ch rw pt wh : List Int) (sz m : Int) : Prop := FrOk pl (odR pl wi ch sz (rdO sz m - 1).toNat) (fpO sz m) (hfA sz m) (nd1 sz rw pt (2 * m)) (ndW sz wh (2 * m)) (pts (rdO sz m - 1)) ∧ FrOk pl (odR pl wi ch sz (rdO sz m - 1).toNat) (fpO sz m + hfA sz m) (hfA sz m) (nd1 sz rw pt (2 * m + 1)) (ndW sz wh (2 * m + 1)) (pts (rdO sz m - 1)) ∧ FrOk pl (odR pl wi ch sz (rdO sz m).toNat) (fpO sz m) (2 * hfA sz m) (fun a => gI pt (8 * m + a)) (gI wh m) (pts (rdO sz m))
theorem wk_fr {dec : Bool} {sz : Int} {pl wi wm ch rw pt wh : List Int} (hs : sz = 2 ∨ sz = 4 ∨ sz = 8) (hv : v8 pl) (hch : chB ch) (hcs : chS ch) (hdi : DisG sz pl) (hwv : v8 wi) (hwg : WiG sz pl wi) (hrw : ∀ x : Int, 0 ≤ x → x < sz → gI rw x = rd8 pl x) (hdc : ∀ m : Int, 0 ≤ m → m < sz - 1 → ((dec = true ∧ gI wm m ≠ -9) ↔ rd8 wi m ≠ 8) ∧ (rd8 wi m ≠ 8 → gI wm m = rd8 wi m)) (hwk : ∀ m : Int, 0 ≤ m → m < sz - 1 → WkAt dec sz ch wm rw pt wh m) : ∀ (k : Nat) (m : Int), m.toNat < k → 0 ≤ m → m < sz - 1 → FrAll pl wi ch rw pt wh sz m
  | 0, _, h, _, _ => by omega
  | k + 1, m, hk, h0, h1 => by
    obtain ⟨⟨w1, F0, F2, r1, r3, rl, pw⟩, hA, hB, hx⟩ := ix2 hs h0 h1
    have ih := fun m2 a b c => wk_fr hs hv hch hcs hdi hwv hwg hrw hdc hwk k m2 a b c
    obtain ⟨l, t, u, hl, ht, -⟩ := nd_ex hs hv hch hcs hdi hwv hwg (m.toNat + 1) m (Nat.lt_succ_self _) h0 h1
    have hLT : FrOk pl (odR pl wi ch sz (rdO sz m - 1).toNat) (fpO sz m) (hfA sz m) (nd1 sz rw pt (2 * m)) (ndW sz wh (2 * m)) (pts (rdO sz m - 1)) ∧ FrOk pl (odR pl wi ch sz (rdO sz m - 1).toNat) (fpO sz m + hfA sz m) (hfA sz m) (nd1 sz rw pt (2 * m + 1)) (ndW sz wh (2 * m + 1)) (pts (rdO sz m - 1)) := by
      by_cases c : 2 * m < sz
      · obtain ⟨a1, a2, a3, a4⟩ := hA c
        have e1 : ndW sz wh (2 * m) = 1 := by unfold ndW; rw [if_pos c]
        have e2 : ndW sz wh (2 * m + 1) = 1 := by unfold ndW; rw [if_pos a4]
        rw [a1, a2, a3, e1, e2]
        exact ⟨fr_place _ (fun a _ _ => by unfold nd1; rw [if_pos c, hrw _ (by omega) c]) hv, fr_place _ (fun a _ _ => by unfold nd1; rw [if_pos a4, hrw _ (by omega) a4]) hv⟩
      · obtain ⟨a1, a2, a3, a4, a5, a6, a7⟩ := hB c
        have i1 := (ih (2 * m - sz) (by omega) (by omega) (by omega)).2.2
        have i2 := (ih (2 * m + 1 - sz) (by omega) (by omega) (by omega)).2.2
        rw [a1, a2, a5] at i1
        rw [a3, a4, a6] at i2
        have e1 : ndW sz wh (2 * m) = gI wh (2 * m - sz) := by unfold ndW; rw [if_neg c]
        have e2 : ndW sz wh (2 * m + 1) = gI wh (2 * m + 1 - sz) := by unfold ndW; rw [if_neg (by omega)]
        rw [e1, e2]
        exact ⟨i1.congr hv (fun p _ _ => by unfold nd1; rw [if_neg c]), i2.congr hv (fun p _ _ => by unfold nd1; rw [if_neg (by omega)])⟩
    refine ⟨hLT.1, hLT.2, ?_⟩
    have hn := fun y => (odR_in (pl := pl) (wi := wi) (sz := sz) hch (rdO sz m - 1).toNat (by omega) y).1
    have h8 := odR_8 (pl := pl) (wi := wi) (sz := sz) hch (rdO sz m - 1).toNat (by omega)
    have hK := pts_pos (r := rdO sz m - 1) (by omega) (by omega)
    obtain ⟨k1, k2⟩ := hwk m h0 h1
    obtain ⟨d1, d2⟩ := hdc m h0 h1
    rw [frW_congr d1] at k1
    have b1 := anF_fr hv h8 hK hl hLT.1
    have b2 := anF_fr hv h8 hK ht hLT.2
    rw [show fpO sz m + hfA sz m + hfA sz m = fpO sz m + 2 * hfA sz m by omega] at b2
    rw [k1]
    refine FrOk.congr hv (fr_step (r := rdO sz m) (wn := rd8 wi m) (ch := ch) hv hch hn h8 r1 r3 rfl w1 rfl (pts_st r1 r3) (fun x x0 x1 => ?_) hLT.1 hLT.2 (fun x y x0 x1 y0 y1 => hdi x y (by omega) (by omega) (by omega) (by omega)) (fun z => (hwg m h0 h1 z).1) b1 b2) (fun p p0 p8 => by rw [k2 p p0 p8]; exact frP_congr d1 d2)
    clear b1 b2 d1 d2 k1 k2
    obtain ⟨z, rfl⟩ := Int.eq_ofNat_of_zero_le (by omega : 0 ≤ x)
    have hz := hx z (by omega) x0 x1
    obtain ⟨q, hq⟩ : ∃ q : Nat, rdO sz m = (q : Int) + 1 := ⟨(rdO sz m - 1).toNat, by omega⟩
    rw [hq] at hz
    rw [hq, show ((q : Int) + 1).toNat = q + 1 by omega, show ((q : Int) + 1 - 1).toNat = q by omega]
    show wmV _ _ _ (rd8 wi (fmA sz ((q : Int) + 1) + (z : Int) / p2A ((q : Int) + 1))) ((q : Int) + 1) ((z : Int) / p2A ((q : Int) + 1) * p2A ((q : Int) + 1)) (z : Int) = _
    rw [hz.1, hz.2]
