/-! the model: like, the search (rows laid by wip/whole) -/
theorem GW_of {n sz : Nat} {ch ro pl wi : List Int} (hI : Inv n sz ch ro pl wi) : GW sz pl := by
  have hn := hI.hn
  have hs := hI.hs
  refine ⟨hI.pll, fun x _ _ => hI.hv x, fun x y x0 x8 y0 y8 e n8 => ?_, hI.hpt⟩
  by_cases c1 : x < sz
  · by_cases c2 : y < sz
    · exact hI.hdi x y x0 c1 y0 c2 (by rw [rd8_g x0 x8, rd8_g y0 y8]; exact e) (by rw [rd8_g x0 x8]; exact n8)
    · exact absurd (e.trans (hI.hpt y (by omega) y8)) n8
  · exact absurd (hI.hpt x (by omega) x8) n8
theorem ord_sz {n sz : Nat} {ch ro pl wi : List Int} (hI : Inv n sz ch ro pl wi) : GW sz (ordL pl sz) ∧ SubL pl (ordL pl sz) := by
  have hG := GW_of hI
  have hs := hI.hs
  have hs2 : sz = 2 ∨ sz = 4 ∨ sz = 8 := by omega
  rcases hs2 with rfl | rfl | rfl
  · exact (ord_2 hG).2
  · exact (ord_4 hG).2
  · exact (ord_8 hG).2
/-- not all placed: the row is no draw -/
theorem lk_none {n sz : Nat} {ch ro pl wi : List Int} (hI : Inv n sz ch ro pl wi) (hc : cnt8 pl 0 sz < n) : lkA (rowsO n sz ro) (ordL pl sz) = -1 := by
  have hn := hI.hn
  have hs := hI.hs
  refine Classical.byContradiction (fun hne => ?_)
  have h1 := fndF_in (f := fun i => bI (∀ x : Nat, x < 8 → drA (rowsO n sz ro) i x = gI (ordL pl sz) x)) (v := 1) (n := (rowsO n sz ro).length) _ (Nat.le_refl _)
  have h2 := h1.2.2 hne
  have hi : 0 ≤ lkA (rowsO n sz ro) (ordL pl sz) ∧ lkA (rowsO n sz ro) (ordL pl sz) < ((rowsO n sz ro).length : Nat) := by
    unfold lkA at hne ⊢
    omega
  have h3 : ∀ x : Nat, x < 8 → drA (rowsO n sz ro) (lkA (rowsO n sz ro) (ordL pl sz)) x = gI (ordL pl sz) x := Classical.byContradiction (fun z => by
    have h4 : bI (∀ x : Nat, x < 8 → drA (rowsO n sz ro) (lkA (rowsO n sz ro) (ordL pl sz)) x = gI (ordL pl sz) x) = 1 := h2
    rw [bI_f z] at h4
    exact absurd h4 (by decide))
  obtain ⟨g1, g2, g3, g4⟩ := drG (ro := ro) (by omega : n ≤ 8) (by omega : sz ≤ 8) hi.1 hi.2
  have hall : ∀ v : Nat, v < n → ∃ x : Int, 0 ≤ x ∧ x < sz ∧ rd8 pl x = v := fun v hv => by
    obtain ⟨x, x0, x1, hx⟩ := g4 v (by omega) (by omega)
    obtain ⟨a, rfl⟩ := Int.eq_ofNat_of_zero_le x0
    have e := h3 a (by omega)
    obtain ⟨y, y0, y8, hy⟩ := (ord_sz hI).2 a (by omega) (by omega)
    have e2 : gI pl y = v := by
      rw [← hy, ← e]
      exact hx
    have y1 : y < sz := Classical.byContradiction (fun z => by
      have := hI.hpt y (by omega) y8
      omega)
    exact ⟨y, y0, y1, by rw [rd8_g y0 y8]; exact e2⟩
  have := cnt_n (pl := pl) (by omega : n ≤ 8) (by omega : sz ≤ 8) (fun x x0 x1 => by
    have a := hI.hpn x x0 (by omega)
    have b := rd8_in hI.hv x
    omega) (fun x => rd8_in hI.hv x) hI.hdi hall
  omega
theorem cnt_sz {sz : Nat} {pl : List Int} (h8 : sz ≤ 8) : sumN (fun i => bI (gI pl i ≠ 8)) sz = cnt8 pl 0 sz := by
  unfold cnt8
  rw [Int.sub_zero, Int.toNat_natCast]
  refine sumN_congr sz (fun i hi => ?_)
  rw [Int.zero_add, rd8_g (by omega) (by omega)]
theorem ms_like (d : Nat) {h : List mC} {g n sz : Nat} {ch ro pl wi : List Int} (hS : MS h g n sz ch ro pl wi) (hI : Inv n sz ch ro pl wi) : Ct (d + 4) mX4_like [mR g] h (fun r9 h9 => r9 = some (mI (spLike n sz ro pl)) ∧ MS h9 g n sz ch ro pl wi ∧ ∀ j : Nat, (j < g ∨ g + 14 ≤ j) → h9[j]? = h[j]?) := by
  obtain ⟨wm, lf, rt, ws, rw, pt, wh, on, tw, wo, wt, il, dr, dn, hM, hwm, hil, hdr, hf0⟩ := id hS
  obtain ⟨m0, m1, mch, map, mpl, mwm, mlf, mrt, mws, mrw, mpt, mwh, mon, mtw, mdn, lch, lap, lpl, lwm, llf, lrt, lws, lrw, lpt, lwh, lon, ltw, ldn, m8⟩ := id hM
  have hrl := rowsO_le n sz ro
  have hn8 := hI.hn
  show Wp _ mX4_like 0 [mR g, mU, mU, mU, mU, mU, mU] [] h (0, 0) _
  refine wp_al0 (q := 1) dX4_like_0 rfl (wp_v0 (q := 4) dX4_like_1 rfl q156 (Nat.le_of_ble_eq_true rfl) rfl m0 m1 rfl rfl ((ms_list 0 hS hI).up (by omega)) (fun r9 h9 e9 => ?_))
  obtain ⟨rfl, hS2, hf20⟩ := e9
  show Wp _ _ _ _ [] _ _ _
  obtain ⟨wm, lf, rt, ws, rw, pt, wh, on, tw, wo, wt, il, dr, dn, hM, hwm, hil, hdr, hil1⟩ := id hS2
  obtain ⟨m0, m1, mch, map, mpl, mwm, mlf, mrt, mws, mrw, mpt, mwh, mon, mtw, mdn, lch, lap, lpl, lwm, llf, lrt, lws, lrw, lpt, lwh, lon, ltw, ldn, m8⟩ := id hM
  obtain ⟨hdl, hrw⟩ := hdr hil1
  refine wp_ic (q := 5) dX4_like_4 rfl (by decide) (by decide) (wp_is1 (q := 6) dX4_like_5 rfl rfl (wp_al0 (q := 7) dX4_like_6 rfl (wp_v0 (q := 10) dX4_like_7 rfl q147 (Nat.le_of_ble_eq_true rfl) rfl m0 m1 rfl rfl ((mt_layPlaces 0 hM).up (by omega)) (fun r9 h9 e9 => ?_))))
  obtain ⟨rfl, hM, hf9⟩ := e9
  show Wp _ _ _ _ [] _ _ _
  obtain ⟨m0, m1, mch, map, mpl, mwm, mlf, mrt, mws, mrw, mpt, mwh, mon, mtw, mdn, lch, lap, lpl, lwm, llf, lrt, lws, lrw, lpt, lwh, lon, ltw, ldn, m8⟩ := id hM
  refine wp_ic (q := 11) dX4_like_10 rfl (by decide) (by decide) (wp_is2 (q := 12) dX4_like_11 rfl rfl ?_)
  have key1 : ∀ j : Nat, j ≤ sz → ∀ (cc q : Int) (u3 u4 u5 u6 : mV), q = j → cc = sumN (fun i => bI (gI pl i ≠ 8)) j → mLong u3 = false → mLong u4 = false → mLong u5 = false → Wp (d + 4) mX4_like 12 [mR g, mI cc, mI q, u3, u4, u5, u6] [] h9 (0, 0) (fun r9 h9 => r9 = some (mI (spLike n sz ro pl)) ∧ MS h9 g n sz ch ro pl wi ∧ ∀ j : Nat, (j < g ∨ g + 14 ≤ j) → h9[j]? = h[j]?) := by
    refine loop_up _ _ ?_ ?_
    · intro cc q u3 u4 u5 u6 hq hcc hu3 hu4 hu5
      rw [cnt_sz (by omega)] at hcc
      refine wp_il2 (q := 13) dX4_like_12 rfl (wp_al0 (q := 14) dX4_like_13 rfl (wp_getf (q := 17) dX4_like_14 rfl f23 m0 m1 rfl (fun z => nomatch z) (wp_icmp_ge (t := 45) (q := 20) dX4_like_17 rfl rfl (fun c17 => ?_) (fun c17 => ?_))))
      · refine wp_il1 (q := 46) dX4_like_45 rfl (wp_al0 (q := 47) dX4_like_46 rfl (wp_getf (q := 50) dX4_like_47 rfl f22 m0 m1 rfl (fun z => nomatch z) (wp_icmp_ge (t := 56) (q := 53) dX4_like_50 rfl rfl (fun c50 => ?_) (fun c50 => ?_))))
        · refine lk_ord (d + 2) hM (by omega) (GW_of hI) (fun h2 w3 u3 u4 u5 u6 hM hf2 t3 => ?_) rfl (by assumption) (by assumption) (by assumption)
          clear hcc
          obtain ⟨m0, m1, mch, map, mpl, mwm, mlf, mrt, mws, mrw, mpt, mwh, mon, mtw, mdn, lch, lap, lpl, lwm, llf, lrt, lws, lrw, lpt, lwh, lon, ltw, ldn, m8⟩ := id hM
          have hT : spLike n sz ro pl = if lkA (rowsO n sz ro) (ordL pl sz) = -1 then -9 else lkA (rowsO n sz ro) (ordL pl sz) := rfl
          have hT2 : lkA (rowsO n sz ro) (ordL pl sz) = fndF (fun i => bI (∀ x : Nat, x < 8 → drA (rowsO n sz ro) i x = gI (ordL pl sz) x)) 1 (rowsO n sz ro).length (rowsO n sz ro).length := rfl
          obtain ⟨T, hTe⟩ : ∃ T, T = lkA (rowsO n sz ro) (ordL pl sz) := ⟨_, rfl⟩
          rw [← hTe] at hT hT2
          have hfr : ∀ j : Nat, (j < g ∨ g + 14 ≤ j) → h2[j]? = h[j]? := fun j hj => (hf2 j hj).trans ((hf9 j hj).trans (hf20 j hj))
          have hor := ord_sz hI
          have key : ∀ j : Nat, j ≤ (rowsO n sz ro).length → ∀ (i : Int) (u3 u4 : mV), i = j → fndF (fun i => bI (∀ x : Nat, x < 8 → drA (rowsO n sz ro) i x = gI (ordL pl sz) x)) 1 (rowsO n sz ro).length ((rowsO n sz ro).length - j) = T → mLong u3 = false → Wp (d + 4) mX4_like 166 [mR g, mI cc, mI i, u3, u4, u5, u6] [] h2 (0, 0) (fun r9 h9 => r9 = some (mI (spLike n sz ro pl)) ∧ MS h9 g n sz ch ro pl wi ∧ ∀ j : Nat, (j < g ∨ g + 14 ≤ j) → h9[j]? = h[j]?) := by
            refine loop_up _ _ ?_ ?_
            · intro i u3 u4 hi hc hu3
              rw [Nat.sub_self] at hc
              have hc2 : T = -1 := hc.symm
              rw [if_pos hc2] at hT
              refine wp_il2 (q := 167) dX4_like_166 rfl (wp_al0 (q := 168) dX4_like_167 rfl (wp_getf (q := 171) dX4_like_168 rfl f39 m0 m1 rfl (fun z => nomatch z) (wp_icmp_ge (t := 238) (q := 174) dX4_like_171 rfl rfl (fun c171 => ?_) (fun c171 => ?_))))
              · refine wp_bi (q := 240) dX4_like_238 rfl (by decide) (by decide) (wp_iret dX4_like_240 rfl ?_)
                exact ⟨rI hT.symm, ⟨wm, lf, rt, ws, (ordL pl sz), pt, wh, on, tw, wo, wt, il, dr, dn, hM, hwm, hil, hdr, trivial⟩, hfr⟩
              · exfalso; omega
            · intro j hj ih i u3 u4 hi hc hu3
              have i0 : 0 ≤ i := by omega
              have i1 : i < ((rowsO n sz ro).length : Nat) := by omega
              have e0 : (rowsO n sz ro).length - j = ((rowsO n sz ro).length - (j + 1)) + 1 := by omega
              rw [e0] at hc
              unfold fndF at hc
              have e1 : (((rowsO n sz ro).length - ((rowsO n sz ro).length - (j + 1) + 1) : Nat) : Int) = i := by omega
              rw [e1] at hc
              have hg3 := (drG (ro := ro) (by omega : n ≤ 8) (by omega : sz ≤ 8) i0 i1).2.2.1
              have hS : (∀ x : Nat, x < sz → drA (rowsO n sz ro) i x = gI (ordL pl sz) x) ↔ (∀ x : Nat, x < 8 → drA (rowsO n sz ro) i x = gI (ordL pl sz) x) := ⟨fun z x hx => by
                by_cases c : x < sz
                · exact z x c
                · rw [hor.1.2.2.2 x (by omega) (by omega)]
                  exact hg3 x (by omega) (by omega), fun z x hx => z x (by omega)⟩
              have k2 : ∀ l : Nat, l ≤ sz → ∀ (s q : Int), q = l → s = bI (∀ x : Nat, x < l → drA (rowsO n sz ro) i x = gI (ordL pl sz) x) → Wp (d + 4) mX4_like 179 [mR g, mI cc, mI i, mI s, mI q, u5, u6] [] h2 (0, 0) (fun r9 h9 => r9 = some (mI (spLike n sz ro pl)) ∧ MS h9 g n sz ch ro pl wi ∧ ∀ j : Nat, (j < g ∨ g + 14 ≤ j) → h9[j]? = h[j]?) := by
                refine loop_up _ _ ?_ ?_
                · intro s q hq hs
                  rw [bI_c hS] at hs
                  rw [hs]
                  refine wp_il4 (q := 181) dX4_like_179 rfl (wp_al0 (q := 182) dX4_like_181 rfl (wp_getf (q := 185) dX4_like_182 rfl f23 m0 m1 rfl (fun z => nomatch z) (wp_icmp_ge (t := 226) (q := 188) dX4_like_185 rfl rfl (fun c185 => ?_) (fun c185 => ?_))))
                  · refine wp_il3 (q := 227) dX4_like_226 rfl (wp_ifb_eq (t := 232) (q := 230) dX4_like_227 rfl rfl (fun c227 => ?_) (fun c227 => ?_))
                    · rw [if_neg (by rw [bI_f c227]; decide)] at hc
                      refine wp_ii2 (q := 235) dX4_like_232 rfl rfl (by omega) (by omega) (wp_goto (q := 166) dX4_like_235 rfl ?_)
                      exact ih _ _ _ (by omega) hc rfl
                    · rw [if_pos (bI_t c227)] at hc
                      refine wp_il2 (q := 231) dX4_like_230 rfl (wp_iret dX4_like_231 rfl ?_)
                      rw [← hc, if_neg (by omega)] at hT
                      exact ⟨rI hT.symm, ⟨wm, lf, rt, ws, (ordL pl sz), pt, wh, on, tw, wo, wt, il, dr, dn, hM, hwm, hil, hdr, trivial⟩, hfr⟩
                  · exfalso; omega
                · intro l hl ihl s q hq hs
                  have z3 := hrw.dn i0 i1 (x := q) (by omega) (by omega)
                  have z4 : dn.getD (8 * i + q).toNat 0 = drA (rowsO n sz ro) i q := z3
                  have hstep : (∀ x : Nat, x < l + 1 → drA (rowsO n sz ro) i x = gI (ordL pl sz) x) ↔ ((∀ x : Nat, x < l → drA (rowsO n sz ro) i x = gI (ordL pl sz) x) ∧ drA (rowsO n sz ro) i q = gI (ordL pl sz) q) := by
                    rw [hq]
                    exact ⟨fun z => ⟨fun x hx => z x (by omega), z l (by omega)⟩, fun z x hx => by
                      by_cases c : x = l
                      · rw [c]; exact z.2
                      · exact z.1 x (by omega)⟩
                  clear ih hS
                  rw [hs]
                  refine wp_il4 (q := 181) dX4_like_179 rfl (wp_al0 (q := 182) dX4_like_181 rfl (wp_getf (q := 185) dX4_like_182 rfl f23 m0 m1 rfl (fun z => nomatch z) (wp_icmp_ge (t := 226) (q := 188) dX4_like_185 rfl rfl (fun c185 => ?_) (fun c185 => ?_))))
                  · exfalso; omega
                  · refine wp_il3 (q := 189) dX4_like_188 rfl (wp_ifb_eq (t := 218) (q := 192) dX4_like_189 rfl rfl (fun c189 => ?_) (fun c189 => ?_))
                    · refine wp_ic (q := 219) dX4_like_218 rfl (by decide) (by decide) (wp_is3 (q := 220) dX4_like_219 rfl rfl (wp_ii4 (q := 223) dX4_like_220 rfl rfl (by omega) (by omega) (wp_goto (q := 179) dX4_like_223 rfl ?_)))
                      first
                        | exact ihl _ _ (by omega) (bI_f (fun z => c189 (hstep.mp z).1)).symm
                        | exact ihl _ _ (by omega) (bI_f (fun z => c211 (hstep.mp z).2)).symm
                        | exact ihl _ _ (by omega) (bI_t (hstep.mpr ⟨c189, c211⟩)).symm
                    · refine wp_al0 (q := 193) dX4_like_192 rfl (wp_getf (q := 196) dX4_like_193 rfl f40 m0 m1 rfl (fun z => nomatch z) (wp_bi (q := 198) dX4_like_196 rfl (by decide) (by decide) (wp_il2 (q := 199) dX4_like_198 rfl (wp_imul (q := 200) dX4_like_199 rfl (by omega) (by omega) (wp_il4 (q := 202) dX4_like_200 rfl (wp_iadd (q := 203) dX4_like_202 rfl (by omega) (by omega) (wp_iaload (q := 204) dX4_like_203 rfl mdn (by omega) (by omega) ?_)))))))
                      rw [z4]
                      refine wp_al0 (q := 205) dX4_like_204 rfl (wp_getf (q := 208) dX4_like_205 rfl f31 m0 m1 rfl (fun z => nomatch z) (wp_il4 (q := 210) dX4_like_208 rfl (wp_iaload (q := 211) dX4_like_210 rfl mrw (by omega) (by omega) (wp_icmp_ne (t := 218) (q := 214) dX4_like_211 rfl rfl (fun c211 => ?_) (fun c211 => ?_)))))
                      · refine wp_ic (q := 219) dX4_like_218 rfl (by decide) (by decide) (wp_is3 (q := 220) dX4_like_219 rfl rfl (wp_ii4 (q := 223) dX4_like_220 rfl rfl (by omega) (by omega) (wp_goto (q := 179) dX4_like_223 rfl ?_)))
                        first
                          | exact ihl _ _ (by omega) (bI_f (fun z => c189 (hstep.mp z).1)).symm
                          | exact ihl _ _ (by omega) (bI_f (fun z => c211 (hstep.mp z).2)).symm
                          | exact ihl _ _ (by omega) (bI_t (hstep.mpr ⟨c189, c211⟩)).symm
                      · refine wp_ic (q := 215) dX4_like_214 rfl (by decide) (by decide) (wp_goto (q := 219) dX4_like_215 rfl (wp_is3 (q := 220) dX4_like_219 rfl rfl (wp_ii4 (q := 223) dX4_like_220 rfl rfl (by omega) (by omega) (wp_goto (q := 179) dX4_like_223 rfl ?_))))
                        first
                          | exact ihl _ _ (by omega) (bI_f (fun z => c189 (hstep.mp z).1)).symm
                          | exact ihl _ _ (by omega) (bI_f (fun z => c211 (hstep.mp z).2)).symm
                          | exact ihl _ _ (by omega) (bI_t (hstep.mpr ⟨c189, c211⟩)).symm
              refine wp_il2 (q := 167) dX4_like_166 rfl (wp_al0 (q := 168) dX4_like_167 rfl (wp_getf (q := 171) dX4_like_168 rfl f39 m0 m1 rfl (fun z => nomatch z) (wp_icmp_ge (t := 238) (q := 174) dX4_like_171 rfl rfl (fun c171 => ?_) (fun c171 => ?_))))
              · exfalso; omega
              · refine wp_ic (q := 175) dX4_like_174 rfl (by decide) (by decide) (wp_is3 (q := 176) dX4_like_175 rfl rfl (wp_ic (q := 177) dX4_like_176 rfl (by decide) (by decide) (wp_is4 (q := 179) dX4_like_177 rfl rfl ?_)))
                exact k2 0 (Nat.zero_le _) 1 0 rfl (bI_t (fun x hx => absurd hx (Nat.not_lt_zero x))).symm
          refine wp_ic (q := 165) dX4_like_164 rfl (by decide) (by decide) (wp_is2 (q := 166) dX4_like_165 rfl rfl ?_)
          exact key 0 (Nat.zero_le _) 0 _ _ rfl hT2.symm t3
        · refine wp_bi (q := 55) dX4_like_53 rfl (by decide) (by decide) (wp_iret dX4_like_55 rfl ?_)
          exact ⟨rI (by unfold spLike; rw [lk_none hI (by omega)]; rfl), ⟨wm, lf, rt, ws, pl, pt, wh, on, tw, wo, wt, il, dr, dn, hM, hwm, hil, hdr, trivial⟩, fun j hj => (hf9 j hj).trans (hf20 j hj)⟩
      · exfalso; omega
    · intro j hj ih cc q u3 u4 u5 u6 hq hcc hu3 hu4 hu5
      have bo := sumB_in (p := fun i : Nat => gI pl i ≠ 8) j
      have e1 : sumN (fun i => bI (gI pl i ≠ 8)) (j + 1) = cc + bI (gI pl q ≠ 8) := by rw [hcc, hq]; rfl
      rw [← hcc] at bo
      refine wp_il2 (q := 13) dX4_like_12 rfl (wp_al0 (q := 14) dX4_like_13 rfl (wp_getf (q := 17) dX4_like_14 rfl f23 m0 m1 rfl (fun z => nomatch z) (wp_icmp_ge (t := 45) (q := 20) dX4_like_17 rfl rfl (fun c17 => ?_) (fun c17 => ?_))))
      · exfalso; omega
      · refine wp_il1 (q := 21) dX4_like_20 rfl (wp_al0 (q := 22) dX4_like_21 rfl (wp_getf (q := 25) dX4_like_22 rfl f31 m0 m1 rfl (fun z => nomatch z) (wp_il2 (q := 26) dX4_like_25 rfl (wp_iaload (q := 27) dX4_like_26 rfl mrw (by omega) (by omega) (wp_bi (q := 29) dX4_like_27 rfl (by decide) (by decide) (wp_icmp_ne (t := 36) (q := 32) dX4_like_29 rfl rfl (fun c29 => ?_) (fun c29 => ?_)))))))
        · have c29 : gI pl q ≠ 8 := c29
          rw [bI_t c29] at e1
          refine wp_ic (q := 37) dX4_like_36 rfl (by decide) (by decide) (wp_iadd (q := 38) dX4_like_37 rfl (by omega) (by omega) (wp_is1 (q := 39) dX4_like_38 rfl rfl (wp_ii2 (q := 42) dX4_like_39 rfl rfl (by omega) (by omega) (wp_goto (q := 12) dX4_like_42 rfl ?_))))
          exact ih _ _ _ _ _ _ (by omega) (by omega) hu3 hu4 hu5
        · have c29 : gI pl q = 8 := c29
          rw [bI_f (fun z => z c29)] at e1
          refine wp_ic (q := 33) dX4_like_32 rfl (by decide) (by decide) (wp_goto (q := 37) dX4_like_33 rfl (wp_iadd (q := 38) dX4_like_37 rfl (by omega) (by omega) (wp_is1 (q := 39) dX4_like_38 rfl rfl (wp_ii2 (q := 42) dX4_like_39 rfl rfl (by omega) (by omega) (wp_goto (q := 12) dX4_like_42 rfl ?_)))))
          exact ih _ _ _ _ _ _ (by omega) (by omega) hu3 hu4 hu5
  exact key1 0 (Nat.zero_le _) 0 0 _ _ _ _ rfl rfl rfl rfl rfl
