/-! the model: hasAny, sides (rows laid by wip/whole) -/
def anB (l : List Int) : Nat → Bool
  | 0 => false
  | n + 1 => anB l n || decide (0 < gI l n)
theorem anB_iff {l : List Int} : ∀ n, anB l n = true ↔ ∃ i : Nat, i < n ∧ 0 < gI l i
  | 0 => by
    constructor
    · intro h; exact absurd (show false = true from h) (by decide)
    · rintro ⟨i, h, -⟩; omega
  | n + 1 => by
    unfold anB
    rw [Bool.or_eq_true, anB_iff n, decide_eq_true_eq]
    constructor
    · rintro (⟨i, h1, h2⟩ | h)
      · exact ⟨i, by omega, h2⟩
      · exact ⟨n, by omega, h⟩
    · rintro ⟨i, h1, h2⟩
      by_cases e : i = n
      · subst e; exact Or.inr h2
      · exact Or.inl ⟨i, by omega, h2⟩
theorem mt_hasAny (d : Nat) {h : List mC} {a : Nat} {l : List Int} (ha : 2 ≤ a) (hc : h[a]? = some (mJ l)) (hl : l.length = 8) : Rt (d + 0) mX4_hasAny [mR a] h (some (mI (bI (anB l 8 = true)))) h := by
  have key : ∀ (j : Nat), j ≤ 8 → ∀ (c x : Int), x = j → c = bI (anB l j = true) → Wp (d + 0) mX4_hasAny 4 [mR a, mI c, mI x] [] h (0, 0) (fun r' h' => r' = some (mI (bI (anB l 8 = true))) ∧ h' = h) := by
    refine loop_up _ _ ?_ ?_
    · intro c x hx hv
      refine wp_il2 (q := 5) dX4_hasAny_4 rfl (wp_bi (q := 7) dX4_hasAny_5 rfl (by decide) (by decide) (wp_icmp_ge (t := 34) (q := 10) dX4_hasAny_7 rfl rfl (fun c7 => ?_) (fun c7 => ?_)))
      · refine wp_il1 (q := 35) dX4_hasAny_34 rfl (wp_bret dX4_hasAny_35 rfl (by rw [hv]; exact bI_01) ?_)
        exact ⟨rI hv, rfl⟩
      · exfalso; omega
    · intro j hj ih c x hx hv
      subst hx
      have hst : anB l (j + 1) = (anB l j || decide (0 < gI l j)) := rfl
      have b01 := bI_01 (p := anB l j = true)
      refine wp_il2 (q := 5) dX4_hasAny_4 rfl (wp_bi (q := 7) dX4_hasAny_5 rfl (by decide) (by decide) (wp_icmp_ge (t := 34) (q := 10) dX4_hasAny_7 rfl rfl (fun c7 => ?_) (fun c7 => ?_)))
      · exfalso; omega
      · refine wp_il1 (q := 11) dX4_hasAny_10 rfl (wp_if_ne (t := 22) (q := 14) dX4_hasAny_11 rfl rfl (fun c11 => ?_) (fun c11 => ?_))
        · have d11 : anB l j = true := Decidable.byContradiction (fun z => c11 (hv.trans (bI_f z)))
          refine wp_ic (q := 23) dX4_hasAny_22 rfl (by decide) (by decide) (wp_goto (q := 27) dX4_hasAny_23 rfl (wp_is1 (q := 28) dX4_hasAny_27 rfl rfl (wp_ii2 (q := 31) dX4_hasAny_28 rfl rfl (by omega) (by omega) (wp_goto (q := 4) dX4_hasAny_31 rfl ?_))))
          refine ih _ _ (by omega) ?_
          first
            | rw [bI_t (by rw [hst, d11]; rfl)]
            | rw [bI_t (by rw [hst, decide_eq_true d19, Bool.or_true])]
            | rw [bI_f (by rw [hst, Bool.eq_false_iff.mpr d11, decide_eq_false d19]; decide)]
        · have d11 : ¬ anB l j = true := fun z => by rw [bI_t z] at hv; omega
          refine wp_al0 (q := 15) dX4_hasAny_14 rfl (wp_il2 (q := 16) dX4_hasAny_15 rfl (wp_laload (q := 17) dX4_hasAny_16 rfl hc (by omega) (by omega) (wp_lc0 (q := 18) dX4_hasAny_17 rfl (wp_lcmp_le (q1 := 19) (t := 26) (q := 22) dX4_hasAny_18 rfl dX4_hasAny_19 rfl rfl (fun c19 => ?_) (fun c19 => ?_)))))
          · have d19 : ¬ 0 < gI l j := Int.not_lt.mpr c19
            refine wp_ic (q := 27) dX4_hasAny_26 rfl (by decide) (by decide) (wp_is1 (q := 28) dX4_hasAny_27 rfl rfl (wp_ii2 (q := 31) dX4_hasAny_28 rfl rfl (by omega) (by omega) (wp_goto (q := 4) dX4_hasAny_31 rfl ?_)))
            refine ih _ _ (by omega) ?_
            first
              | rw [bI_t (by rw [hst, d11]; rfl)]
              | rw [bI_t (by rw [hst, decide_eq_true d19, Bool.or_true])]
              | rw [bI_f (by rw [hst, Bool.eq_false_iff.mpr d11, decide_eq_false d19]; decide)]
          · have d19 : 0 < gI l j := c19
            refine wp_ic (q := 23) dX4_hasAny_22 rfl (by decide) (by decide) (wp_goto (q := 27) dX4_hasAny_23 rfl (wp_is1 (q := 28) dX4_hasAny_27 rfl rfl (wp_ii2 (q := 31) dX4_hasAny_28 rfl rfl (by omega) (by omega) (wp_goto (q := 4) dX4_hasAny_31 rfl ?_))))
            refine ih _ _ (by omega) ?_
            first
              | rw [bI_t (by rw [hst, d11]; rfl)]
              | rw [bI_t (by rw [hst, decide_eq_true d19, Bool.or_true])]
              | rw [bI_f (by rw [hst, Bool.eq_false_iff.mpr d11, decide_eq_false d19]; decide)]
  show Wp _ mX4_hasAny 0 [mR a, mU, mU] [] h (0, 0) _
  refine wp_ic (q := 1) dX4_hasAny_0 rfl (by decide) (by decide) (wp_is1 (q := 2) dX4_hasAny_1 rfl rfl (wp_ic (q := 3) dX4_hasAny_2 rfl (by decide) (by decide) (wp_is2 (q := 4) dX4_hasAny_3 rfl rfl ?_)))
  exact key 0 (Nat.zero_le _) 0 0 rfl rfl
/-- a node's part for a player, and its whole: a place, or a match -/
def nd1 (sz : Int) (rw pt : List Int) (e a : Int) : Int := if e < sz then (if gI rw e = a then 1 else 0) else gI pt (8 * (e - sz) + a)
def ndW (sz : Int) (wh : List Int) (e : Int) : Int := if e < sz then 1 else gI wh (e - sz)
def SdOk (sz : Int) (rw pt wh : List Int) (m : Int) (on tw : List Int) (wo wt : Int) : Prop := (∀ a : Int, 0 ≤ a → a < 8 → gI on a = nd1 sz rw pt (2 * m) a ∧ gI tw a = nd1 sz rw pt (2 * m + 1) a) ∧ wo = ndW sz wh (2 * m) ∧ wt = ndW sz wh (2 * m + 1)
theorem mt_sides (d : Nat) {h : List mC} {g : Nat} {n sz : Int} {ch ap pl wm lf rt ws rw pt wh on tw : List Int} {wo wt il dr : Int} {dn : List Int} (hM : MU h g n sz ch ap pl wm lf rt ws rw pt wh on tw wo wt il dr dn) {m : Int} (hm0 : 0 ≤ m) (hm1 : m < sz - 1) : Ct (d + 2) mX4_sides [mR g, mI m] h (fun r9 h9 => r9 = none ∧ (∃ (on tw : List Int) (wo wt : Int), MU h9 g n sz ch ap pl wm lf rt ws rw pt wh on tw wo wt il dr dn ∧ SdOk sz rw pt wh m on tw wo wt) ∧ ∀ j : Nat, (j < g ∨ g + 14 ≤ j) → h9[j]? = h[j]?) := by
  obtain ⟨m0, m1, mch, map, mpl, mwm, mlf, mrt, mws, mrw, mpt, mwh, mon, mtw, mdn, lch, lap, lpl, lwm, llf, lrt, lws, lrw, lpt, lwh, lon, ltw, ldn, m8⟩ := id hM
  have hlr := lrA_in m8
  obtain ⟨i1, i2, i3, i4, i5', i6'⟩ := rd_ix m8 hm0 hm1
  have i5 := fun _ : Nat => i5'
  have i6 := fun _ : Nat => i6'
  clear i5' i6'
  have gA1 : Nat → rdO sz m = 1 → 2 * (m - fmA sz (rdO sz m)) = 2 * m := fun _ z => by have := i5 0 z; omega
  have oW1 : Nat → rdO sz m = 1 → (1 : Int) = ndW sz wh (2 * m) := fun _ z => by unfold ndW; rw [if_pos (by have := i5 0 z; omega)]
  have oV1 : Nat → rdO sz m = 1 → (1 : Int) = ndW sz wh (2 * m + 1) := fun _ z => by unfold ndW; rw [if_pos (by have := i5 0 z; omega)]
  have oW2 : Nat → rdO sz m ≠ 1 → wh.getD (fmA sz (rdO sz m - 1) + 2 * (m - fmA sz (rdO sz m))).toNat 0 = ndW sz wh (2 * m) := fun _ z => by have := i6 0 z; rw [this.1]; unfold ndW; rw [if_neg (by omega)]; rfl
  have oV2 : Nat → rdO sz m ≠ 1 → wh.getD (fmA sz (rdO sz m - 1) + 2 * (m - fmA sz (rdO sz m)) + 1).toNat 0 = ndW sz wh (2 * m + 1) := fun _ z => by have := i6 0 z; rw [this.1]; unfold ndW; rw [if_neg (by omega), show 2 * m + 1 - sz = 2 * m - sz + 1 by omega]; rfl
  have key : ∀ j : Nat, j ≤ 8 → ∀ (h1 : List mC) (on tw : List Int) (x : Int), x = j → MU h1 g n sz ch ap pl wm lf rt ws rw pt wh on tw wo wt il dr dn → (∀ a : Int, 0 ≤ a → a < x → gI on a = nd1 sz rw pt (2 * m) a ∧ gI tw a = nd1 sz rw pt (2 * m + 1) a) → (∀ j : Nat, (j < g ∨ g + 14 ≤ j) → h1[j]? = h[j]?) → Wp (d + 2) mX4_sides 17 [mR g, mI m, mI (rdO sz m), mI (m - fmA sz (rdO sz m)), mI x] [] h1 (0, 0) (fun r9 h9 => r9 = none ∧ (∃ (on tw : List Int) (wo wt : Int), MU h9 g n sz ch ap pl wm lf rt ws rw pt wh on tw wo wt il dr dn ∧ SdOk sz rw pt wh m on tw wo wt) ∧ ∀ j : Nat, (j < g ∨ g + 14 ≤ j) → h9[j]? = h[j]?) := by
    refine loop_up 8 _ ?_ ?_
    · intro h1 on tw x hx hM hw hf
      obtain ⟨m0, m1, mch, map, mpl, mwm, mlf, mrt, mws, mrw, mpt, mwh, mon, mtw, mdn, lch, lap, lpl, lwm, llf, lrt, lws, lrw, lpt, lwh, lon, ltw, ldn, m8⟩ := id hM
      refine wp_il4 (q := 19) dX4_sides_17 rfl (wp_bi (q := 21) dX4_sides_19 rfl (by decide) (by decide) (wp_icmp_ge (t := 150) (q := 24) dX4_sides_21 rfl rfl (fun c21 => ?_) (fun c21 => ?_)))
      · refine wp_al0 (q := 151) dX4_sides_150 rfl (wp_il2 (q := 152) dX4_sides_151 rfl (wp_ic (q := 153) dX4_sides_152 rfl (by decide) (by decide) (wp_icmp_ne (t := 160) (q := 156) dX4_sides_153 rfl rfl (fun c153 => ?_) (fun c153 => ?_))))
        · have j6 := i6 0 c153
          refine wp_al0 (q := 161) dX4_sides_160 rfl (wp_getf (q := 164) dX4_sides_161 rfl f33 m0 m1 rfl (fun z => nomatch z) (wp_al0 (q := 165) dX4_sides_164 rfl (wp_il2 (q := 166) dX4_sides_165 rfl (wp_ic (q := 167) dX4_sides_166 rfl (by decide) (by decide) (wp_isub (q := 168) dX4_sides_167 rfl (by omega) (by omega) (wp_v1I (q := 171) dX4_sides_168 rfl q136 (Nat.le_of_ble_eq_true rfl) rfl m0 m1 rfl rfl ((mt_startOf 0 hM (by omega) (by omega)).up (by omega)) (wp_ic (q := 172) dX4_sides_171 rfl (by decide) (by decide) (wp_il3 (q := 173) dX4_sides_172 rfl (wp_imul (q := 174) dX4_sides_173 rfl (by omega) (by omega) (wp_iadd (q := 175) dX4_sides_174 rfl (by omega) (by omega) (wp_laload (q := 176) dX4_sides_175 rfl mwh (by omega) (by omega) ?_)))))))))))
          rw [oW2 0 c153]
          refine wp_putf (q := 179) dX4_sides_176 rfl f36 m0 m1 (Nat.le_of_ble_eq_true rfl) trivial (fun z => absurd z (by decide)) ?_
          have hM := hM.sWo (x := ndW sz wh (2 * m))
          obtain ⟨m0, m1, mch, map, mpl, mwm, mlf, mrt, mws, mrw, mpt, mwh, mon, mtw, mdn, lch, lap, lpl, lwm, llf, lrt, lws, lrw, lpt, lwh, lon, ltw, ldn, m8⟩ := id hM
          refine wp_al0 (q := 180) dX4_sides_179 rfl (wp_il2 (q := 181) dX4_sides_180 rfl (wp_ic (q := 182) dX4_sides_181 rfl (by decide) (by decide) (wp_icmp_ne (t := 189) (q := 185) dX4_sides_182 rfl rfl (fun c182 => ?_) (fun c182 => ?_))))
          · have j6 := i6 0 c182
            refine wp_al0 (q := 190) dX4_sides_189 rfl (wp_getf (q := 193) dX4_sides_190 rfl f33 m0 m1 rfl (fun z => nomatch z) (wp_al0 (q := 194) dX4_sides_193 rfl (wp_il2 (q := 195) dX4_sides_194 rfl (wp_ic (q := 196) dX4_sides_195 rfl (by decide) (by decide) (wp_isub (q := 197) dX4_sides_196 rfl (by omega) (by omega) (wp_v1I (q := 200) dX4_sides_197 rfl q136 (Nat.le_of_ble_eq_true rfl) rfl m0 m1 rfl rfl ((mt_startOf 0 hM (by omega) (by omega)).up (by omega)) (wp_ic (q := 201) dX4_sides_200 rfl (by decide) (by decide) (wp_il3 (q := 202) dX4_sides_201 rfl (wp_imul (q := 203) dX4_sides_202 rfl (by omega) (by omega) (wp_iadd (q := 204) dX4_sides_203 rfl (by omega) (by omega) (wp_ic (q := 205) dX4_sides_204 rfl (by decide) (by decide) (wp_iadd (q := 206) dX4_sides_205 rfl (by omega) (by omega) (wp_laload (q := 207) dX4_sides_206 rfl mwh (by omega) (by omega) ?_)))))))))))))
            rw [oV2 0 c182]
            refine wp_putf (q := 210) dX4_sides_207 rfl f37 m0 m1 (Nat.le_of_ble_eq_true rfl) trivial (fun z => absurd z (by decide)) ?_
            have hM := hM.sWt (x := ndW sz wh (2 * m + 1))
            refine wp_vret dX4_sides_210 rfl ?_
            exact ⟨rfl, ⟨on, tw, _, _, hM, fun a a0 a1 => hw a a0 (by omega), rfl, rfl⟩, fun j hj => by rw [fr_set (by omega), fr_set (by omega)]; exact hf j hj⟩
          · refine wp_lc1 (q := 186) dX4_sides_185 rfl ?_
            rw [show (mL 1 : mV) = mL (ndW sz wh (2 * m + 1)) by rw [← oV1 0 c182]]
            refine wp_goto (q := 207) dX4_sides_186 rfl (wp_putf (q := 210) dX4_sides_207 rfl f37 m0 m1 (Nat.le_of_ble_eq_true rfl) trivial (fun z => absurd z (by decide)) ?_)
            have hM := hM.sWt (x := ndW sz wh (2 * m + 1))
            refine wp_vret dX4_sides_210 rfl ?_
            exact ⟨rfl, ⟨on, tw, _, _, hM, fun a a0 a1 => hw a a0 (by omega), rfl, rfl⟩, fun j hj => by rw [fr_set (by omega), fr_set (by omega)]; exact hf j hj⟩
        · refine wp_lc1 (q := 157) dX4_sides_156 rfl ?_
          rw [show (mL 1 : mV) = mL (ndW sz wh (2 * m)) by rw [← oW1 0 c153]]
          refine wp_goto (q := 176) dX4_sides_157 rfl (wp_putf (q := 179) dX4_sides_176 rfl f36 m0 m1 (Nat.le_of_ble_eq_true rfl) trivial (fun z => absurd z (by decide)) ?_)
          have hM := hM.sWo (x := ndW sz wh (2 * m))
          obtain ⟨m0, m1, mch, map, mpl, mwm, mlf, mrt, mws, mrw, mpt, mwh, mon, mtw, mdn, lch, lap, lpl, lwm, llf, lrt, lws, lrw, lpt, lwh, lon, ltw, ldn, m8⟩ := id hM
          refine wp_al0 (q := 180) dX4_sides_179 rfl (wp_il2 (q := 181) dX4_sides_180 rfl (wp_ic (q := 182) dX4_sides_181 rfl (by decide) (by decide) (wp_icmp_ne (t := 189) (q := 185) dX4_sides_182 rfl rfl (fun c182 => ?_) (fun c182 => ?_))))
          · have j6 := i6 0 c182
            refine wp_al0 (q := 190) dX4_sides_189 rfl (wp_getf (q := 193) dX4_sides_190 rfl f33 m0 m1 rfl (fun z => nomatch z) (wp_al0 (q := 194) dX4_sides_193 rfl (wp_il2 (q := 195) dX4_sides_194 rfl (wp_ic (q := 196) dX4_sides_195 rfl (by decide) (by decide) (wp_isub (q := 197) dX4_sides_196 rfl (by omega) (by omega) (wp_v1I (q := 200) dX4_sides_197 rfl q136 (Nat.le_of_ble_eq_true rfl) rfl m0 m1 rfl rfl ((mt_startOf 0 hM (by omega) (by omega)).up (by omega)) (wp_ic (q := 201) dX4_sides_200 rfl (by decide) (by decide) (wp_il3 (q := 202) dX4_sides_201 rfl (wp_imul (q := 203) dX4_sides_202 rfl (by omega) (by omega) (wp_iadd (q := 204) dX4_sides_203 rfl (by omega) (by omega) (wp_ic (q := 205) dX4_sides_204 rfl (by decide) (by decide) (wp_iadd (q := 206) dX4_sides_205 rfl (by omega) (by omega) (wp_laload (q := 207) dX4_sides_206 rfl mwh (by omega) (by omega) ?_)))))))))))))
            rw [oV2 0 c182]
            refine wp_putf (q := 210) dX4_sides_207 rfl f37 m0 m1 (Nat.le_of_ble_eq_true rfl) trivial (fun z => absurd z (by decide)) ?_
            have hM := hM.sWt (x := ndW sz wh (2 * m + 1))
            refine wp_vret dX4_sides_210 rfl ?_
            exact ⟨rfl, ⟨on, tw, _, _, hM, fun a a0 a1 => hw a a0 (by omega), rfl, rfl⟩, fun j hj => by rw [fr_set (by omega), fr_set (by omega)]; exact hf j hj⟩
          · refine wp_lc1 (q := 186) dX4_sides_185 rfl ?_
            rw [show (mL 1 : mV) = mL (ndW sz wh (2 * m + 1)) by rw [← oV1 0 c182]]
            refine wp_goto (q := 207) dX4_sides_186 rfl (wp_putf (q := 210) dX4_sides_207 rfl f37 m0 m1 (Nat.le_of_ble_eq_true rfl) trivial (fun z => absurd z (by decide)) ?_)
            have hM := hM.sWt (x := ndW sz wh (2 * m + 1))
            refine wp_vret dX4_sides_210 rfl ?_
            exact ⟨rfl, ⟨on, tw, _, _, hM, fun a a0 a1 => hw a a0 (by omega), rfl, rfl⟩, fun j hj => by rw [fr_set (by omega), fr_set (by omega)]; exact hf j hj⟩
      · exfalso; omega
    · intro j hj ih h1 on tw x hx hM hw hf
      obtain ⟨m0, m1, mch, map, mpl, mwm, mlf, mrt, mws, mrw, mpt, mwh, mon, mtw, mdn, lch, lap, lpl, lwm, llf, lrt, lws, lrw, lpt, lwh, lon, ltw, ldn, m8⟩ := id hM
      have lon0 := lon
      have ltw0 := ltw
      have nA1 : Nat → rdO sz m = 1 → rw.getD (2 * (m - fmA sz (rdO sz m))).toNat 0 = gI rw (2 * m) := fun _ z => by rw [gA1 0 z]; rfl
      have nB1 : Nat → rdO sz m = 1 → rw.getD (2 * (m - fmA sz (rdO sz m)) + 1).toNat 0 = gI rw (2 * m + 1) := fun _ z => by rw [gA1 0 z]; rfl
      have uA : Nat → rdO sz m = 1 → (nd1 sz rw pt (2 * m) x) = if gI rw (2 * m) = x then 1 else 0 := fun _ z => by unfold nd1; rw [if_pos (by have := i5 0 z; omega)]
      have uB : Nat → rdO sz m = 1 → (nd1 sz rw pt (2 * m + 1) x) = if gI rw (2 * m + 1) = x then 1 else 0 := fun _ z => by unfold nd1; rw [if_pos (by have := i5 0 z; omega)]
      have nA2 : Nat → rdO sz m ≠ 1 → pt.getD (8 * (fmA sz (rdO sz m - 1) + 2 * (m - fmA sz (rdO sz m))) + x).toNat 0 = (nd1 sz rw pt (2 * m) x) := fun _ z => by have := i6 0 z; rw [this.1]; unfold nd1; rw [if_neg (by omega)]; rfl
      have nB2 : Nat → rdO sz m ≠ 1 → pt.getD (8 * (fmA sz (rdO sz m - 1) + 2 * (m - fmA sz (rdO sz m)) + 1) + x).toNat 0 = (nd1 sz rw pt (2 * m + 1) x) := fun _ z => by have := i6 0 z; rw [this.1]; unfold nd1; rw [if_neg (by omega), show 2 * m + 1 - sz = 2 * m - sz + 1 by omega]; rfl
      refine wp_il4 (q := 19) dX4_sides_17 rfl (wp_bi (q := 21) dX4_sides_19 rfl (by decide) (by decide) (wp_icmp_ge (t := 150) (q := 24) dX4_sides_21 rfl rfl (fun c21 => ?_) (fun c21 => ?_)))
      · exfalso; omega
      · refine wp_il2 (q := 25) dX4_sides_24 rfl (wp_ic (q := 26) dX4_sides_25 rfl (by decide) (by decide) (wp_icmp_ne (t := 84) (q := 29) dX4_sides_26 rfl rfl (fun c26 => ?_) (fun c26 => ?_)))
        · have j6 := i6 0 c26
          refine wp_al0 (q := 85) dX4_sides_84 rfl (wp_getf (q := 88) dX4_sides_85 rfl f34 m0 m1 rfl (fun z => nomatch z) (wp_il4 (q := 90) dX4_sides_88 rfl (wp_al0 (q := 91) dX4_sides_90 rfl (wp_getf (q := 94) dX4_sides_91 rfl f32 m0 m1 rfl (fun z => nomatch z) (wp_bi (q := 96) dX4_sides_94 rfl (by decide) (by decide) (wp_al0 (q := 97) dX4_sides_96 rfl (wp_il2 (q := 98) dX4_sides_97 rfl (wp_ic (q := 99) dX4_sides_98 rfl (by decide) (by decide) (wp_isub (q := 100) dX4_sides_99 rfl (by omega) (by omega) (wp_v1I (q := 103) dX4_sides_100 rfl q136 (Nat.le_of_ble_eq_true rfl) rfl m0 m1 rfl rfl ((mt_startOf 0 hM (by omega) (by omega)).up (by omega)) (wp_ic (q := 104) dX4_sides_103 rfl (by decide) (by decide) (wp_il3 (q := 105) dX4_sides_104 rfl (wp_imul (q := 106) dX4_sides_105 rfl (by omega) (by omega) ?_)))))))))))))
          refine wp_iadd (q := 107) dX4_sides_106 rfl (by omega) (by omega) (wp_imul (q := 108) dX4_sides_107 rfl (by omega) (by omega) (wp_il4 (q := 110) dX4_sides_108 rfl (wp_iadd (q := 111) dX4_sides_110 rfl (by omega) (by omega) (wp_laload (q := 112) dX4_sides_111 rfl mpt (by omega) (by omega) ?_))))
          rw [nA2 0 c26]
          refine wp_lastore (q := 113) dX4_sides_112 rfl (by omega) mon (by omega) (by omega) ?_
          have hM := hM.sOn (x := sI on x (nd1 sz rw pt (2 * m) x)) ((sI_len _ _ _).trans lon0)
          obtain ⟨m0, m1, mch, map, mpl, mwm, mlf, mrt, mws, mrw, mpt, mwh, mon, mtw, mdn, lch, lap, lpl, lwm, llf, lrt, lws, lrw, lpt, lwh, lon, ltw, ldn, m8⟩ := id hM
          refine wp_al0 (q := 114) dX4_sides_113 rfl (wp_getf (q := 117) dX4_sides_114 rfl f35 m0 m1 rfl (fun z => nomatch z) (wp_il4 (q := 119) dX4_sides_117 rfl (wp_al0 (q := 120) dX4_sides_119 rfl (wp_getf (q := 123) dX4_sides_120 rfl f32 m0 m1 rfl (fun z => nomatch z) (wp_bi (q := 125) dX4_sides_123 rfl (by decide) (by decide) (wp_al0 (q := 126) dX4_sides_125 rfl (wp_il2 (q := 127) dX4_sides_126 rfl (wp_ic (q := 128) dX4_sides_127 rfl (by decide) (by decide) (wp_isub (q := 129) dX4_sides_128 rfl (by omega) (by omega) (wp_v1I (q := 132) dX4_sides_129 rfl q136 (Nat.le_of_ble_eq_true rfl) rfl m0 m1 rfl rfl ((mt_startOf 0 hM (by omega) (by omega)).up (by omega)) (wp_ic (q := 133) dX4_sides_132 rfl (by decide) (by decide) (wp_il3 (q := 134) dX4_sides_133 rfl (wp_imul (q := 135) dX4_sides_134 rfl (by omega) (by omega) ?_)))))))))))))
          refine wp_iadd (q := 136) dX4_sides_135 rfl (by omega) (by omega) (wp_ic (q := 137) dX4_sides_136 rfl (by decide) (by decide) (wp_iadd (q := 138) dX4_sides_137 rfl (by omega) (by omega) (wp_imul (q := 139) dX4_sides_138 rfl (by omega) (by omega) (wp_il4 (q := 141) dX4_sides_139 rfl (wp_iadd (q := 142) dX4_sides_141 rfl (by omega) (by omega) (wp_laload (q := 143) dX4_sides_142 rfl mpt (by omega) (by omega) ?_))))))
          rw [nB2 0 c26]
          refine wp_lastore (q := 144) dX4_sides_143 rfl (by omega) mtw (by omega) (by omega) ?_
          have hM := hM.sTw (x := sI tw x (nd1 sz rw pt (2 * m + 1) x)) ((sI_len _ _ _).trans ltw0)
          refine wp_ii4 (q := 147) dX4_sides_144 rfl rfl (by omega) (by omega) (wp_goto (q := 17) dX4_sides_147 rfl ?_)
          refine ih _ _ _ _ (by omega) hM (fun a a0 a1 => ?_) (fun j hj => by rw [fr_set (by omega), fr_set (by omega)]; exact hf j hj)
          by_cases e : a = x
          · rw [e, gI_eq (by omega) (by omega), gI_eq (by omega) (by omega)]
            exact ⟨rfl, rfl⟩
          · rw [gI_ne (by omega) a0 (by omega), gI_ne (by omega) a0 (by omega)]
            exact hw a a0 (by omega)
        · have j5 := i5 0 c26
          have j1 := gA1 0 c26
          refine wp_al0 (q := 30) dX4_sides_29 rfl (wp_getf (q := 33) dX4_sides_30 rfl f34 m0 m1 rfl (fun z => nomatch z) (wp_il4 (q := 35) dX4_sides_33 rfl (wp_al0 (q := 36) dX4_sides_35 rfl (wp_getf (q := 39) dX4_sides_36 rfl f31 m0 m1 rfl (fun z => nomatch z) (wp_ic (q := 40) dX4_sides_39 rfl (by decide) (by decide) (wp_il3 (q := 41) dX4_sides_40 rfl (wp_imul (q := 42) dX4_sides_41 rfl (by omega) (by omega) (wp_iaload (q := 43) dX4_sides_42 rfl mrw (by omega) (by omega) ?_))))))))
          rw [nA1 0 c26]
          refine wp_il4 (q := 45) dX4_sides_43 rfl (wp_icmp_ne (t := 52) (q := 48) dX4_sides_45 rfl rfl (fun c45 => ?_) (fun c45 => ?_))
          · refine wp_lc0 (q := 53) dX4_sides_52 rfl ?_
            rw [show (mL 0 : mV) = mL (nd1 sz rw pt (2 * m) x) by rw [uA 0 c26, if_neg c45]]
            refine wp_lastore (q := 54) dX4_sides_53 rfl (by omega) mon (by omega) (by omega) ?_
            have hM := hM.sOn (x := sI on x (nd1 sz rw pt (2 * m) x)) ((sI_len _ _ _).trans lon0)
            obtain ⟨m0, m1, mch, map, mpl, mwm, mlf, mrt, mws, mrw, mpt, mwh, mon, mtw, mdn, lch, lap, lpl, lwm, llf, lrt, lws, lrw, lpt, lwh, lon, ltw, ldn, m8⟩ := id hM
            refine wp_al0 (q := 55) dX4_sides_54 rfl (wp_getf (q := 58) dX4_sides_55 rfl f35 m0 m1 rfl (fun z => nomatch z) (wp_il4 (q := 60) dX4_sides_58 rfl (wp_al0 (q := 61) dX4_sides_60 rfl (wp_getf (q := 64) dX4_sides_61 rfl f31 m0 m1 rfl (fun z => nomatch z) (wp_ic (q := 65) dX4_sides_64 rfl (by decide) (by decide) (wp_il3 (q := 66) dX4_sides_65 rfl (wp_imul (q := 67) dX4_sides_66 rfl (by omega) (by omega) (wp_ic (q := 68) dX4_sides_67 rfl (by decide) (by decide) (wp_iadd (q := 69) dX4_sides_68 rfl (by omega) (by omega) (wp_iaload (q := 70) dX4_sides_69 rfl mrw (by omega) (by omega) ?_))))))))))
            rw [nB1 0 c26]
            refine wp_il4 (q := 72) dX4_sides_70 rfl (wp_icmp_ne (t := 79) (q := 75) dX4_sides_72 rfl rfl (fun c72 => ?_) (fun c72 => ?_))
            · refine wp_lc0 (q := 80) dX4_sides_79 rfl ?_
              rw [show (mL 0 : mV) = mL (nd1 sz rw pt (2 * m + 1) x) by rw [uB 0 c26, if_neg c72]]
              refine wp_lastore (q := 81) dX4_sides_80 rfl (by omega) mtw (by omega) (by omega) ?_
              have hM := hM.sTw (x := sI tw x (nd1 sz rw pt (2 * m + 1) x)) ((sI_len _ _ _).trans ltw0)
              refine wp_goto (q := 144) dX4_sides_81 rfl (wp_ii4 (q := 147) dX4_sides_144 rfl rfl (by omega) (by omega) (wp_goto (q := 17) dX4_sides_147 rfl ?_))
              refine ih _ _ _ _ (by omega) hM (fun a a0 a1 => ?_) (fun j hj => by rw [fr_set (by omega), fr_set (by omega)]; exact hf j hj)
              by_cases e : a = x
              · rw [e, gI_eq (by omega) (by omega), gI_eq (by omega) (by omega)]
                exact ⟨rfl, rfl⟩
              · rw [gI_ne (by omega) a0 (by omega), gI_ne (by omega) a0 (by omega)]
                exact hw a a0 (by omega)
            · refine wp_lc1 (q := 76) dX4_sides_75 rfl ?_
              rw [show (mL 1 : mV) = mL (nd1 sz rw pt (2 * m + 1) x) by rw [uB 0 c26, if_pos c72]]
              refine wp_goto (q := 80) dX4_sides_76 rfl (wp_lastore (q := 81) dX4_sides_80 rfl (by omega) mtw (by omega) (by omega) ?_)
              have hM := hM.sTw (x := sI tw x (nd1 sz rw pt (2 * m + 1) x)) ((sI_len _ _ _).trans ltw0)
              refine wp_goto (q := 144) dX4_sides_81 rfl (wp_ii4 (q := 147) dX4_sides_144 rfl rfl (by omega) (by omega) (wp_goto (q := 17) dX4_sides_147 rfl ?_))
              refine ih _ _ _ _ (by omega) hM (fun a a0 a1 => ?_) (fun j hj => by rw [fr_set (by omega), fr_set (by omega)]; exact hf j hj)
              by_cases e : a = x
              · rw [e, gI_eq (by omega) (by omega), gI_eq (by omega) (by omega)]
                exact ⟨rfl, rfl⟩
              · rw [gI_ne (by omega) a0 (by omega), gI_ne (by omega) a0 (by omega)]
                exact hw a a0 (by omega)
          · refine wp_lc1 (q := 49) dX4_sides_48 rfl ?_
            rw [show (mL 1 : mV) = mL (nd1 sz rw pt (2 * m) x) by rw [uA 0 c26, if_pos c45]]
            refine wp_goto (q := 53) dX4_sides_49 rfl (wp_lastore (q := 54) dX4_sides_53 rfl (by omega) mon (by omega) (by omega) ?_)
            have hM := hM.sOn (x := sI on x (nd1 sz rw pt (2 * m) x)) ((sI_len _ _ _).trans lon0)
            obtain ⟨m0, m1, mch, map, mpl, mwm, mlf, mrt, mws, mrw, mpt, mwh, mon, mtw, mdn, lch, lap, lpl, lwm, llf, lrt, lws, lrw, lpt, lwh, lon, ltw, ldn, m8⟩ := id hM
            refine wp_al0 (q := 55) dX4_sides_54 rfl (wp_getf (q := 58) dX4_sides_55 rfl f35 m0 m1 rfl (fun z => nomatch z) (wp_il4 (q := 60) dX4_sides_58 rfl (wp_al0 (q := 61) dX4_sides_60 rfl (wp_getf (q := 64) dX4_sides_61 rfl f31 m0 m1 rfl (fun z => nomatch z) (wp_ic (q := 65) dX4_sides_64 rfl (by decide) (by decide) (wp_il3 (q := 66) dX4_sides_65 rfl (wp_imul (q := 67) dX4_sides_66 rfl (by omega) (by omega) (wp_ic (q := 68) dX4_sides_67 rfl (by decide) (by decide) (wp_iadd (q := 69) dX4_sides_68 rfl (by omega) (by omega) (wp_iaload (q := 70) dX4_sides_69 rfl mrw (by omega) (by omega) ?_))))))))))
            rw [nB1 0 c26]
            refine wp_il4 (q := 72) dX4_sides_70 rfl (wp_icmp_ne (t := 79) (q := 75) dX4_sides_72 rfl rfl (fun c72 => ?_) (fun c72 => ?_))
            · refine wp_lc0 (q := 80) dX4_sides_79 rfl ?_
              rw [show (mL 0 : mV) = mL (nd1 sz rw pt (2 * m + 1) x) by rw [uB 0 c26, if_neg c72]]
              refine wp_lastore (q := 81) dX4_sides_80 rfl (by omega) mtw (by omega) (by omega) ?_
              have hM := hM.sTw (x := sI tw x (nd1 sz rw pt (2 * m + 1) x)) ((sI_len _ _ _).trans ltw0)
              refine wp_goto (q := 144) dX4_sides_81 rfl (wp_ii4 (q := 147) dX4_sides_144 rfl rfl (by omega) (by omega) (wp_goto (q := 17) dX4_sides_147 rfl ?_))
              refine ih _ _ _ _ (by omega) hM (fun a a0 a1 => ?_) (fun j hj => by rw [fr_set (by omega), fr_set (by omega)]; exact hf j hj)
              by_cases e : a = x
              · rw [e, gI_eq (by omega) (by omega), gI_eq (by omega) (by omega)]
                exact ⟨rfl, rfl⟩
              · rw [gI_ne (by omega) a0 (by omega), gI_ne (by omega) a0 (by omega)]
                exact hw a a0 (by omega)
            · refine wp_lc1 (q := 76) dX4_sides_75 rfl ?_
              rw [show (mL 1 : mV) = mL (nd1 sz rw pt (2 * m + 1) x) by rw [uB 0 c26, if_pos c72]]
              refine wp_goto (q := 80) dX4_sides_76 rfl (wp_lastore (q := 81) dX4_sides_80 rfl (by omega) mtw (by omega) (by omega) ?_)
              have hM := hM.sTw (x := sI tw x (nd1 sz rw pt (2 * m + 1) x)) ((sI_len _ _ _).trans ltw0)
              refine wp_goto (q := 144) dX4_sides_81 rfl (wp_ii4 (q := 147) dX4_sides_144 rfl rfl (by omega) (by omega) (wp_goto (q := 17) dX4_sides_147 rfl ?_))
              refine ih _ _ _ _ (by omega) hM (fun a a0 a1 => ?_) (fun j hj => by rw [fr_set (by omega), fr_set (by omega)]; exact hf j hj)
              by_cases e : a = x
              · rw [e, gI_eq (by omega) (by omega), gI_eq (by omega) (by omega)]
                exact ⟨rfl, rfl⟩
              · rw [gI_ne (by omega) a0 (by omega), gI_ne (by omega) a0 (by omega)]
                exact hw a a0 (by omega)
  show Wp _ mX4_sides 0 [mR g, mI m, mU, mU, mU] [] h (0, 0) _
  refine wp_al0 (q := 1) dX4_sides_0 rfl (wp_il1 (q := 2) dX4_sides_1 rfl (wp_v1I (q := 5) dX4_sides_2 rfl q134 (Nat.le_of_ble_eq_true rfl) rfl m0 m1 rfl rfl ((mt_roundOf 0 hM hm0 hm1).up (by omega)) (wp_is2 (q := 6) dX4_sides_5 rfl rfl (wp_il1 (q := 7) dX4_sides_6 rfl (wp_al0 (q := 8) dX4_sides_7 rfl (wp_il2 (q := 9) dX4_sides_8 rfl (wp_v1I (q := 12) dX4_sides_9 rfl q136 (Nat.le_of_ble_eq_true rfl) rfl m0 m1 rfl rfl ((mt_startOf 0 hM i1 i2).up (by omega)) (wp_isub (q := 13) dX4_sides_12 rfl (by omega) (by omega) (wp_is3 (q := 14) dX4_sides_13 rfl rfl (wp_ic (q := 15) dX4_sides_14 rfl (by decide) (by decide) (wp_is4 (q := 17) dX4_sides_15 rfl rfl ?_)))))))))))
  exact key 0 (Nat.zero_le _) h on tw 0 rfl hM (fun a a0 a1 => by omega) (fun _ _ => rfl)
