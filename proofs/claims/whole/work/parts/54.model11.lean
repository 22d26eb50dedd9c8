/-! the model: work, all matches (rows laid by wip/whole) -/
def ptB (r : Int) : Int := if r = 0 then 1 else if r = 1 then 192 else if r = 2 then 7077888 else 9618527719784448
theorem ptB_st {r : Int} (h1 : 1 ≤ r) (h3 : r ≤ 3) : 1 ≤ ptB (r - 1) ∧ 192 * (ptB (r - 1) * ptB (r - 1)) ≤ 9618527719784448 ∧ 192 * (ptB (r - 1) * ptB (r - 1)) ≤ ptB r ∧ 1 ≤ ptB r ∧ 1 ≤ pts (r - 1) ∧ pts (r - 1) ≤ 1728 ∧ 1 ≤ pts r := by
  rcases (show r = 1 ∨ r = 2 ∨ r = 3 by omega) with rfl | rfl | rfl <;> decide
/-- what work has left, and how large, so far -/
def WkI (dec : Bool) (sz : Int) (ch wm rw pt wh : List Int) (x : Int) : Prop := ∀ m : Int, 0 ≤ m → m < x → WkAt dec sz ch wm rw pt wh m ∧ (1 ≤ gI wh m ∧ gI wh m ≤ pts (rdO sz m)) ∧ ∀ a : Int, 0 ≤ a → a < 8 → 0 ≤ gI pt (8 * m + a) ∧ gI pt (8 * m + a) ≤ ptB (rdO sz m)
theorem anF_c {P Q : Int → Int} (h : ∀ a : Int, 0 ≤ a → a < 8 → P a = Q a) : anF P 8 = anF Q 8 := by
  have e : (anF P 8 = true) ↔ (anF Q 8 = true) := by
    rw [anF_iff, anF_iff]
    constructor
    · rintro ⟨i, h1, h2⟩; exact ⟨i, h1, by rw [← h i (by omega) (by omega)]; exact h2⟩
    · rintro ⟨i, h1, h2⟩; exact ⟨i, h1, by rw [h i (by omega) (by omega)]; exact h2⟩
  exact Bool.eq_iff_iff.mpr e
theorem frP_c {ch : List Int} {P1 P2 Q1 Q2 : Int → Int} {D : Prop} [Decidable D] {w : Int} {f1 f2 : Prop} [Decidable f1] [Decidable f2] {p : Int} (h1 : ∀ a : Int, 0 ≤ a → a < 8 → P1 a = Q1 a) (h2 : ∀ a : Int, 0 ≤ a → a < 8 → P2 a = Q2 a) (p0 : 0 ≤ p) (p8 : p < 8) : frP ch P1 P2 D w f1 f2 p = frP ch Q1 Q2 D w f1 f2 p := by
  unfold frP
  rw [h1 p p0 p8, h2 p p0 p8, sumN_congr (f := fun b : Nat => (Q1 p * P2 b + Q2 p * P1 b) * gI ch (8 * p + b)) (g := fun b : Nat => (Q1 p * Q2 b + Q2 p * Q1 b) * gI ch (8 * p + b)) 8 (fun b hb => by rw [h1 b (by omega) (by omega), h2 b (by omega) (by omega)])]
theorem WkAt.congr {dec : Bool} {sz : Int} {ch wm rw pt wh pt1 wh1 : List Int} {m : Int} (h : WkAt dec sz ch wm rw pt wh m) (n1 : ∀ a : Int, 0 ≤ a → a < 8 → nd1 sz rw pt1 (2 * m) a = nd1 sz rw pt (2 * m) a) (n2 : ∀ a : Int, 0 ≤ a → a < 8 → nd1 sz rw pt1 (2 * m + 1) a = nd1 sz rw pt (2 * m + 1) a) (w1 : ndW sz wh1 (2 * m) = ndW sz wh (2 * m)) (w2 : ndW sz wh1 (2 * m + 1) = ndW sz wh (2 * m + 1)) (e1 : gI wh1 m = gI wh m) (e2 : ∀ a : Int, 0 ≤ a → a < 8 → gI pt1 (8 * m + a) = gI pt (8 * m + a)) : WkAt dec sz ch wm rw pt1 wh1 m := by
  obtain ⟨h1, h2⟩ := h
  refine ⟨?_, fun a a0 a1 => ?_⟩
  · rw [e1, w1, w2, anF_c n1, anF_c n2]; exact h1
  · rw [e2 a a0 a1, frP_c n1 n2 a0 a1, anF_c n1, anF_c n2]; exact h2 a a0 a1
theorem nd1_c {sz : Int} {rw pt pt1 : List Int} {e x a : Int} (he : e < sz ∨ e - sz < x) (h : ∀ t : Int, 0 ≤ t → (t < 8 * x ∨ 8 * x + 8 ≤ t) → gI pt1 t = gI pt t) (a0 : 0 ≤ a) (a8 : a < 8) : nd1 sz rw pt1 e a = nd1 sz rw pt e a := by
  unfold nd1
  split
  · rfl
  · exact h _ (by omega) (by omega)
theorem ndW_c {sz : Int} {wh wh1 : List Int} {e x : Int} (he : e < sz ∨ e - sz < x) (h : ∀ t : Int, 0 ≤ t → t ≠ x → gI wh1 t = gI wh t) : ndW sz wh1 e = ndW sz wh e := by
  unfold ndW
  split
  · rfl
  · exact h _ (by omega) (by omega)
theorem wk_side {dec : Bool} {sz : Int} {ch wm rw pt wh on tw : List Int} {x wo wt : Int} (hs : sz = 2 ∨ sz = 4 ∨ sz = 8) (hw : WkI dec sz ch wm rw pt wh x) (x0 : 0 ≤ x) (x1 : x < sz - 1) (hsd : SdOk sz rw pt wh x on tw wo wt) : sdB (ptB (rdO sz x - 1)) on tw ∧ (1 ≤ wo ∧ wo ≤ pts (rdO sz x - 1)) ∧ (1 ≤ wt ∧ wt ≤ pts (rdO sz x - 1)) := by
  obtain ⟨hs1, rfl, rfl⟩ := hsd
  obtain ⟨-, hA, hB, -⟩ := ix2 hs x0 x1
  by_cases c : 2 * x < sz
  · obtain ⟨r1, -, -, c2⟩ := hA c
    rw [r1]
    have e1 : ndW sz wh (2 * x) = 1 := by unfold ndW; rw [if_pos c]
    have e2 : ndW sz wh (2 * x + 1) = 1 := by unfold ndW; rw [if_pos c2]
    rw [e1, e2]
    refine ⟨fun a a0 a8 => ?_, by decide, by decide⟩
    rw [(hs1 a a0 a8).1, (hs1 a a0 a8).2]
    unfold nd1
    rw [if_pos c, if_pos c2]
    have : ptB (1 - 1) = 1 := rfl
    rw [this]
    constructor <;> split <;> decide
  · obtain ⟨r1, -, r2, -, -, -, lt⟩ := hB c
    have i1 := hw (2 * x - sz) (by omega) (by omega)
    have i2 := hw (2 * x + 1 - sz) (by omega) lt
    rw [r1] at i1
    rw [r2] at i2
    have e1 : ndW sz wh (2 * x) = gI wh (2 * x - sz) := by unfold ndW; rw [if_neg c]
    have e2 : ndW sz wh (2 * x + 1) = gI wh (2 * x + 1 - sz) := by unfold ndW; rw [if_neg (by omega)]
    rw [e1, e2]
    refine ⟨fun a a0 a8 => ?_, i1.2.1, i2.2.1⟩
    rw [(hs1 a a0 a8).1, (hs1 a a0 a8).2]
    unfold nd1
    rw [if_neg c, if_neg (by omega)]
    exact ⟨i1.2.2 a a0 a8, i2.2.2 a a0 a8⟩
theorem WkI_step {dec : Bool} {sz : Int} {ch wm rw pt wh pt1 wh1 on tw : List Int} {x wo wt : Int} (hs : sz = 2 ∨ sz = 4 ∨ sz = 8) (hch : chB ch) (hw : WkI dec sz ch wm rw pt wh x) (x0 : 0 ≤ x) (x1 : x < sz - 1) (hsd : SdOk sz rw pt wh x on tw wo wt) (hp : ∀ t : Int, 0 ≤ t → (t < 8 * x ∨ 8 * x + 8 ≤ t) → gI pt1 t = gI pt t) (hh : ∀ t : Int, 0 ≤ t → t ≠ x → gI wh1 t = gI wh t) (k1 : gI wh1 x = frW wo wt (dec = true ∧ gI wm x ≠ -9) (anB on 8 = true) (anB tw 8 = true)) (k2 : ∀ a : Int, 0 ≤ a → a < 8 → gI pt1 (8 * x + a) = frP ch (gI on) (gI tw) (dec = true ∧ gI wm x ≠ -9) (gI wm x) (anB on 8 = true) (anB tw 8 = true) a) : WkI dec sz ch wm rw pt1 wh1 (x + 1) := by
  intro m m0 m1
  have hi := rd_ix hs (show 0 ≤ m from m0) (by omega : m < sz - 1)
  have c1 : 2 * m < sz ∨ 2 * m - sz < x := by by_cases e : rdO sz m = 1 <;> omega
  have c2 : 2 * m + 1 < sz ∨ 2 * m + 1 - sz < x := by by_cases e : rdO sz m = 1 <;> omega
  by_cases e : m = x
  · subst e
    obtain ⟨sb, b1, b2⟩ := wk_side hs hw m0 (by omega) hsd
    obtain ⟨hs1, e1, e2⟩ := hsd
    have f1 : anB on 8 = anF (nd1 sz rw pt1 (2 * m)) 8 := anB_F (fun a a0 a8 => (hs1 a a0 a8).1.trans (nd1_c c1 hp a0 a8).symm)
    have f2 : anB tw 8 = anF (nd1 sz rw pt1 (2 * m + 1)) 8 := anB_F (fun a a0 a8 => (hs1 a a0 a8).2.trans (nd1_c c2 hp a0 a8).symm)
    have hl := lrA_in hs
    obtain ⟨q1, q2, q3, q4, q5, q6, q7⟩ := ptB_st hi.1 (by omega)
    have pst := pts_st hi.1 (by omega)
    refine ⟨⟨?_, fun a a0 a8 => ?_⟩, ?_, fun a a0 a8 => ?_⟩
    · rw [k1, f1, f2, ndW_c c1 hh, ndW_c c2 hh, e1, e2]
    · rw [k2 a a0 a8, f1, f2]
      exact frP_c (fun a a0 a8 => (hs1 a a0 a8).1.trans (nd1_c c1 hp a0 a8).symm) (fun a a0 a8 => (hs1 a a0 a8).2.trans (nd1_c c2 hp a0 a8).symm) a0 a8
    · rw [k1]
      have t1 := mul_in (by omega : 0 ≤ wo) b1.2 (by omega : 0 ≤ wt) b2.2
      have t2 := Int.mul_pos (by omega : 0 < wo) (by omega : 0 < wt)
      have t3 : 1 * pts (rdO sz m - 1) ≤ pts (rdO sz m - 1) * pts (rdO sz m - 1) := Int.mul_le_mul_of_nonneg_right q5 (by omega)
      rw [Int.mul_assoc] at pst
      unfold frW
      rw [Int.mul_assoc]
      generalize wo * wt = A at *
      generalize pts (rdO sz m - 1) * pts (rdO sz m - 1) = B at *
      generalize pts (rdO sz m - 1) = C at *
      clear hi hs hs1 sb c1 c2
      (repeat' split) <;> omega
    · rw [k2 a a0 a8]
      have v := wkV_in hch sb q1 a0 a8
      unfold frP
      split
      · split <;> omega
      · exact ⟨v.1, Int.le_trans v.2 q3⟩
  · have g := hw m m0 (by omega)
    refine ⟨g.1.congr (fun a a0 a8 => nd1_c c1 hp a0 a8) (fun a a0 a8 => nd1_c c2 hp a0 a8) (ndW_c c1 hh) (ndW_c c2 hh) (hh m m0 e) (fun a a0 a8 => hp _ (by omega) (by omega)), by rw [hh m m0 e]; exact g.2.1, fun a a0 a8 => by rw [hp _ (by omega) (by omega)]; exact g.2.2 a a0 a8⟩
theorem wk_d (d : Nat) {h : List mC} {g : Nat} {n sz : Int} {ch ap pl wm lf rt ws rw pt wh on tw : List Int} {wo wt il dr : Int} {dn : List Int} (hM : MU h g n sz ch ap pl wm lf rt ws rw pt wh on tw wo wt il dr dn) {K : Int} (hb : sdB K on tw) (hK1 : 1 ≤ K) (hK2 : 192 * (K * K) ≤ 9618527719784448) (hch : chB ch) {dec : Bool} {m : Int} (q0 : 0 ≤ m) (q7 : m < 7) {Q : Option mV → List mC → Prop} (hQ : ∀ (h1 : List mC) (pt1 wh1 : List Int) (u5 u6 u7 u8 : mV), MU h1 g n sz ch ap pl wm lf rt ws rw pt1 wh1 on tw wo wt il dr dn → (∀ a : Int, 0 ≤ a → a < 8 → gI pt1 (8 * m + a) = frP ch (gI on) (gI tw) (dec = true ∧ gI wm m ≠ -9) (gI wm m) (anB on 8 = true) (anB tw 8 = true) a) → (∀ t : Int, 0 ≤ t → (t < 8 * m ∨ 8 * m + 8 ≤ t) → gI pt1 t = gI pt t) → (gI wh1 m = if (dec = true ∧ gI wm m ≠ -9) then 1 else gI wh m) → (∀ t : Int, 0 ≤ t → t ≠ m → gI wh1 t = gI wh t) → (∀ j : Nat, (j < g ∨ g + 14 ≤ j) → h1[j]? = h[j]?) → mLong u7 = false → Wp d mX4_work 268 [mR g, mI (bI (dec = true)), mI m, mI (bI (anB on 8 = true)), mI (bI (anB tw 8 = true)), u5, u6, u7, u8] [] h1 (0, 0) Q) {u5 u6 u7 u8 : mV} (hu : mLong u7 = false) : Wp d mX4_work 76 [mR g, mI (bI (dec = true)), mI m, mI (bI (anB on 8 = true)), mI (bI (anB tw 8 = true)), u5, u6, u7, u8] [] h (0, 0) Q := by
  refine wk_a d hM hb hK1 hK2 hch q0 q7 (fun h1 pt1 u6 u7 u8 hM w1 w2 hf hu => ?_) hu
  clear hb
  obtain ⟨m0, m1, mch, map, mpl, mwm, mlf, mrt, mws, mrw, mpt, mwh, mon, mtw, mdn, lch, lap, lpl, lwm, llf, lrt, lws, lrw, lpt, lwh, lon, ltw, ldn, m8⟩ := id hM
  refine wp_il1 (q := 203) dX4_work_202 rfl (wp_ifb_eq (t := 268) (q := 206) dX4_work_203 rfl rfl (fun c203 => ?_) (fun c203 => ?_))
  · first
      | exact hQ _ _ wh _ _ _ _ hM (fun a a0 a8 => (w1 a a0 a8).trans (show wkV on tw ch a = _ from (if_neg (fun z => c203 z.1)).symm)) w2 (if_neg (fun z => c203 z.1)).symm (fun _ _ _ => rfl) hf hu
      | exact hQ _ _ wh _ _ _ _ hM (fun a a0 a8 => (w1 a a0 a8).trans (show wkV on tw ch a = _ from (if_neg (fun z => z.2 c214)).symm)) w2 (if_neg (fun z => z.2 c214)).symm (fun _ _ _ => rfl) hf hu
  · refine wp_al0 (q := 207) dX4_work_206 rfl (wp_getf (q := 210) dX4_work_207 rfl f27 m0 m1 rfl (fun z => nomatch z) (wp_il2 (q := 211) dX4_work_210 rfl (wp_iaload (q := 212) dX4_work_211 rfl mwm (by omega) (by omega) (wp_bi (q := 214) dX4_work_212 rfl (by decide) (by decide) (wp_icmp_eq (t := 268) (q := 217) dX4_work_214 rfl rfl (fun c214 => ?_) (fun c214 => ?_))))))
    · first
        | exact hQ _ _ wh _ _ _ _ hM (fun a a0 a8 => (w1 a a0 a8).trans (show wkV on tw ch a = _ from (if_neg (fun z => c203 z.1)).symm)) w2 (if_neg (fun z => c203 z.1)).symm (fun _ _ _ => rfl) hf hu
        | exact hQ _ _ wh _ _ _ _ hM (fun a a0 a8 => (w1 a a0 a8).trans (show wkV on tw ch a = _ from (if_neg (fun z => z.2 c214)).symm)) w2 (if_neg (fun z => z.2 c214)).symm (fun _ _ _ => rfl) hf hu
    · refine wp_al0 (q := 218) dX4_work_217 rfl (wp_getf (q := 221) dX4_work_218 rfl f33 m0 m1 rfl (fun z => nomatch z) (wp_il2 (q := 222) dX4_work_221 rfl (wp_lc1 (q := 223) dX4_work_222 rfl (wp_lastore (q := 224) dX4_work_223 rfl (by omega) mwh (by omega) (by omega) ?_))))
      refine wk_c d (hM.sWh (x := sI wh m 1) ((sI_len _ _ _).trans lwh)) q0 q7 (fun h2 pt2 u6 u7 u8 hM v1 v2 hf2 hu => ?_) hu
      have hD : (dec = true ∧ gI wm m ≠ -9) := ⟨c203, c214⟩
      exact hQ _ _ _ _ _ _ _ hM (fun a a0 a8 => (v1 a a0 a8).trans (show _ = frP _ _ _ _ _ _ _ _ from (if_pos hD).symm)) (fun t t0 t1 => (v2 t t0 t1).trans (w2 t t0 t1)) (by rw [if_pos hD]; exact gI_eq q0 (by omega)) (fun t t0 t1 => gI_ne q0 t0 (by omega)) (fun j hj => by rw [hf2 j hj, fr_set (by omega)]; exact hf j hj) hu
theorem mt_work (d : Nat) {h : List mC} {g : Nat} {n sz : Int} {ch ap pl wm lf rt ws rw pt wh on tw : List Int} {wo wt il dr : Int} {dn : List Int} (hM : MU h g n sz ch ap pl wm lf rt ws rw pt wh on tw wo wt il dr dn) (hch : chB ch) {dec : Bool} : Ct (d + 3) mX4_work [mR g, mI (bI (dec = true))] h (fun r9 h9 => r9 = none ∧ (∃ (pt wh on tw : List Int) (wo wt : Int), MU h9 g n sz ch ap pl wm lf rt ws rw pt wh on tw wo wt il dr dn ∧ WkI dec sz ch wm rw pt wh (sz - 1)) ∧ ∀ j : Nat, (j < g ∨ g + 14 ≤ j) → h9[j]? = h[j]?) := by
  have key : ∀ j : Nat, j ≤ (sz - 1).toNat → ∀ (h1 : List mC) (pt wh on tw : List Int) (wo wt x : Int) (u3 u4 u5 u6 u7 u8 : mV), x = j → MU h1 g n sz ch ap pl wm lf rt ws rw pt wh on tw wo wt il dr dn → WkI dec sz ch wm rw pt wh x → (∀ j : Nat, (j < g ∨ g + 14 ≤ j) → h1[j]? = h[j]?) → mLong u7 = false → Wp (d + 3) mX4_work 2 [mR g, mI (bI (dec = true)), mI x, u3, u4, u5, u6, u7, u8] [] h1 (0, 0) (fun r9 h9 => r9 = none ∧ (∃ (pt wh on tw : List Int) (wo wt : Int), MU h9 g n sz ch ap pl wm lf rt ws rw pt wh on tw wo wt il dr dn ∧ WkI dec sz ch wm rw pt wh (sz - 1)) ∧ ∀ j : Nat, (j < g ∨ g + 14 ≤ j) → h9[j]? = h[j]?) := by
    refine loop_up _ _ ?_ ?_
    · intro h1 pt wh on tw wo wt x u3 u4 u5 u6 u7 u8 hx hM hw hf hu
      clear hch
      obtain ⟨m0, m1, mch, map, mpl, mwm, mlf, mrt, mws, mrw, mpt, mwh, mon, mtw, mdn, lch, lap, lpl, lwm, llf, lrt, lws, lrw, lpt, lwh, lon, ltw, ldn, m8⟩ := id hM
      refine wp_il2 (q := 3) dX4_work_2 rfl (wp_al0 (q := 4) dX4_work_3 rfl (wp_getf (q := 7) dX4_work_4 rfl f23 m0 m1 rfl (fun z => nomatch z) (wp_ic (q := 8) dX4_work_7 rfl (by decide) (by decide) (wp_isub (q := 9) dX4_work_8 rfl (by omega) (by omega) (wp_icmp_ge (t := 274) (q := 12) dX4_work_9 rfl rfl (fun c9 => ?_) (fun c9 => ?_))))))
      · refine wp_vret dX4_work_274 rfl ?_
        exact ⟨rfl, ⟨pt, wh, on, tw, wo, wt, hM, by rw [show sz - 1 = x by omega]; exact hw⟩, hf⟩
      · exfalso; omega
    · intro j hj ih h1 pt wh on tw wo wt x u3 u4 u5 u6 u7 u8 hx hM hw hf hu
      obtain ⟨m0, m1, mch, map, mpl, mwm, mlf, mrt, mws, mrw, mpt, mwh, mon, mtw, mdn, lch, lap, lpl, lwm, llf, lrt, lws, lrw, lpt, lwh, lon, ltw, ldn, m8⟩ := id hM
      have x0 : 0 ≤ x := by omega
      have x1 : x < sz - 1 := by omega
      refine wp_il2 (q := 3) dX4_work_2 rfl (wp_al0 (q := 4) dX4_work_3 rfl (wp_getf (q := 7) dX4_work_4 rfl f23 m0 m1 rfl (fun z => nomatch z) (wp_ic (q := 8) dX4_work_7 rfl (by decide) (by decide) (wp_isub (q := 9) dX4_work_8 rfl (by omega) (by omega) (wp_icmp_ge (t := 274) (q := 12) dX4_work_9 rfl rfl (fun c9 => ?_) (fun c9 => ?_))))))
      · exfalso; omega
      · refine wp_al0 (q := 13) dX4_work_12 rfl (wp_il2 (q := 14) dX4_work_13 rfl (wp_v1 (q := 17) dX4_work_14 rfl q149 (Nat.le_of_ble_eq_true rfl) rfl m0 m1 rfl rfl ((mt_sides 0 hM x0 x1).up (by omega)) (fun r9 h9 e9 => ?_)))
        obtain ⟨rfl, ⟨on1, tw1, wo1, wt1, hM, hsd⟩, hf9⟩ := e9
        obtain ⟨m0, m1, mch, map, mpl, mwm, mlf, mrt, mws, mrw, mpt, mwh, mon, mtw, mdn, lch, lap, lpl, lwm, llf, lrt, lws, lrw, lpt, lwh, lon, ltw, ldn, m8⟩ := id hM
        show Wp _ _ _ _ [] _ _ _
        refine wp_al0 (q := 18) dX4_work_17 rfl (wp_getf (q := 21) dX4_work_18 rfl f34 m0 m1 rfl (fun z => nomatch z) (wp_s1I (q := 24) dX4_work_21 rfl q150 (Nat.le_of_ble_eq_true rfl) rfl rfl rfl ((mt_hasAny 0 (by omega) mon lon).up (by omega)) (wp_is3 (q := 25) dX4_work_24 rfl rfl (wp_al0 (q := 26) dX4_work_25 rfl (wp_getf (q := 29) dX4_work_26 rfl f35 m0 m1 rfl (fun z => nomatch z) (wp_s1I (q := 32) dX4_work_29 rfl q150 (Nat.le_of_ble_eq_true rfl) rfl rfl rfl ((mt_hasAny 0 (by omega) mtw ltw).up (by omega)) (wp_is4 (q := 34) dX4_work_32 rfl rfl ?_)))))))
        have hsb := wk_side m8 hw x0 x1 hsd
        have hi := rd_ix m8 x0 x1
        have hlr := lrA_in m8
        have hq := ptB_st hi.1 (by omega)
        have hcont : ∀ W : Int, W = (if ¬ (anB on1 8 = true) then wt1 else if ¬ (anB tw1 8 = true) then wo1 else 12 * wo1 * wt1) → Wp (d + 2 + 1) mX4_work 76 [mR g, mI (bI (dec = true)), mI x, mI (bI (anB on1 8 = true)), mI (bI (anB tw1 8 = true)), u5, u6, u7, u8] [] (h9.set (g + 10) (mJ (sI wh x W))) (0, 0) (fun r9 h9 => r9 = none ∧ (∃ (pt wh on tw : List Int) (wo wt : Int), MU h9 g n sz ch ap pl wm lf rt ws rw pt wh on tw wo wt il dr dn ∧ WkI dec sz ch wm rw pt wh (sz - 1)) ∧ ∀ j : Nat, (j < g ∨ g + 14 ≤ j) → h9[j]? = h[j]?) := by
          intro W hW
          refine wk_d _ (hM.sWh (x := sI wh x W) ((sI_len _ _ _).trans lwh)) hsb.1 hq.1 hq.2.1 hch x0 (by omega) (fun h2 pt2 wh2 u5 u6 u7 u8 hM2 v1 v2 v3 v4 hf2 hu2 => ?_) hu
          rw [gI_eq x0 (by omega), hW] at v3
          have hfin : ∀ j : Nat, (j < g ∨ g + 14 ≤ j) → h2[j]? = h[j]? := fun j hj => by rw [hf2 j hj, fr_set (by omega), hf9 j hj]; exact hf j hj
          have hI2 := WkI_step m8 hch hw x0 x1 hsd v2 (fun t t0 t1 => (v4 t t0 t1).trans (gI_ne x0 t0 (by omega))) v3 v1
          refine wp_ii2 (q := 271) dX4_work_268 rfl rfl (by omega) (by omega) (wp_goto (q := 2) dX4_work_271 rfl ?_)
          exact ih _ _ _ _ _ _ _ _ _ _ _ _ _ _ (by omega) hM2 hI2 hfin hu2
        refine wp_al0 (q := 35) dX4_work_34 rfl (wp_getf (q := 38) dX4_work_35 rfl f33 m0 m1 rfl (fun z => nomatch z) (wp_il2 (q := 39) dX4_work_38 rfl (wp_il3 (q := 40) dX4_work_39 rfl (wp_ifb_ne (t := 50) (q := 43) dX4_work_40 rfl rfl (fun c40 => ?_) (fun c40 => ?_)))))
        · refine wp_il4 (q := 52) dX4_work_50 rfl (wp_ifb_ne (t := 62) (q := 55) dX4_work_52 rfl rfl (fun c52 => ?_) (fun c52 => ?_))
          · have w1 : 1 ≤ wo1 ∧ wo1 ≤ 1728 := ⟨hsb.2.1.1, by have := hsb.2.1.2; omega⟩
            have w2 : 1 ≤ wt1 ∧ wt1 ≤ 1728 := ⟨hsb.2.2.1, by have := hsb.2.2.2; omega⟩
            have w3 := mul_in (by omega : 0 ≤ 12 * wo1) (by omega : 12 * wo1 ≤ 20736) (by omega : 0 ≤ wt1) w2.2
            clear hsb hq hi hw
            refine wp_ldl (12) (q := 65) dX4_work_62 rfl l9 (by decide) (by decide) (wp_al0 (q := 66) dX4_work_65 rfl (wp_getf (q := 69) dX4_work_66 rfl f36 m0 m1 rfl (fun z => nomatch z) (wp_lmul (q := 70) dX4_work_69 rfl (by omega) (by omega) (wp_al0 (q := 71) dX4_work_70 rfl (wp_getf (q := 74) dX4_work_71 rfl f37 m0 m1 rfl (fun z => nomatch z) (wp_lmul (q := 75) dX4_work_74 rfl (by omega) (by omega) (wp_lastore (q := 76) dX4_work_75 rfl (by omega) mwh (by omega) (by omega) ?_)))))))
            exact hcont _ (by first | rw [if_pos c40] | rw [if_neg (fun z => z c40), if_pos c52] | rw [if_neg (fun z => z c40), if_neg (fun z => z c52)])
          · refine wp_al0 (q := 56) dX4_work_55 rfl (wp_getf (q := 59) dX4_work_56 rfl f36 m0 m1 rfl (fun z => nomatch z) (wp_goto (q := 75) dX4_work_59 rfl (wp_lastore (q := 76) dX4_work_75 rfl (by omega) mwh (by omega) (by omega) ?_)))
            exact hcont _ (by first | rw [if_pos c40] | rw [if_neg (fun z => z c40), if_pos c52] | rw [if_neg (fun z => z c40), if_neg (fun z => z c52)])
        · refine wp_al0 (q := 44) dX4_work_43 rfl (wp_getf (q := 47) dX4_work_44 rfl f37 m0 m1 rfl (fun z => nomatch z) (wp_goto (q := 75) dX4_work_47 rfl (wp_lastore (q := 76) dX4_work_75 rfl (by omega) mwh (by omega) (by omega) ?_)))
          exact hcont _ (by first | rw [if_pos c40] | rw [if_neg (fun z => z c40), if_pos c52] | rw [if_neg (fun z => z c40), if_neg (fun z => z c52)])
  show Wp _ mX4_work 0 [mR g, mI (bI (dec = true)), mU, mU, mU, mU, mU, mU, mU] [] h (0, 0) _
  refine wp_ic (q := 1) dX4_work_0 rfl (by decide) (by decide) (wp_is2 (q := 2) dX4_work_1 rfl rfl ?_)
  exact key 0 (Nat.zero_le _) h pt wh on tw wo wt 0 _ _ _ _ _ _ rfl hM (fun m m0 m1 => by omega) (fun _ _ => rfl) rfl
