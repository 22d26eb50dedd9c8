/-! the model: work (rows laid by wip/whole) -/
/-- one match: each player's part, of both sides' -/
def wkT (on tw ch : List Int) (a : Int) (b : Nat) : Int := (gI on a * gI tw b + gI tw a * gI on b) * gI ch (8 * a + b)
def wkV (on tw ch : List Int) (a : Int) : Int := if anB on 8 = true ∧ anB tw 8 = true then sumN (wkT on tw ch a) 8 else gI on a + gI tw a
abbrev sdB (K : Int) (on tw : List Int) : Prop := ∀ a : Int, 0 ≤ a → a < 8 → (0 ≤ gI on a ∧ gI on a ≤ K) ∧ (0 ≤ gI tw a ∧ gI tw a ≤ K)
theorem mul_in {A B K L : Int} (a0 : 0 ≤ A) (a1 : A ≤ K) (b0 : 0 ≤ B) (b1 : B ≤ L) : 0 ≤ A * B ∧ A * B ≤ K * L := ⟨Int.mul_nonneg a0 b0, Int.mul_le_mul a1 b1 b0 (Int.le_trans a0 a1)⟩
theorem wkT_in {on tw ch : List Int} {K a : Int} (hch : chB ch) (hb : sdB K on tw) (a0 : 0 ≤ a) (a8 : a < 8) {b : Nat} (b8 : b < 8) : (0 ≤ gI on a * gI tw b ∧ gI on a * gI tw b ≤ K * K) ∧ (0 ≤ gI tw a * gI on b ∧ gI tw a * gI on b ≤ K * K) ∧ 0 ≤ wkT on tw ch a b ∧ wkT on tw ch a b ≤ 24 * (K * K) := by
  have h1 := hb a a0 a8
  have h2 := hb b (by omega) (by omega)
  have e1 := mul_in h1.1.1 h1.1.2 h2.2.1 h2.2.2
  have e2 := mul_in h1.2.1 h1.2.2 h2.1.1 h2.1.2
  have hc := hch (8 * a + b)
  have e3 := mul_in (by omega : 0 ≤ gI on a * gI tw b + gI tw a * gI on b) (by omega : _ ≤ 2 * (K * K)) hc.1 hc.2
  refine ⟨e1, e2, e3.1, ?_⟩
  have : 2 * (K * K) * 12 = 24 * (K * K) := by generalize K * K = k; omega
  rw [← this]
  exact e3.2
theorem wkS_in {on tw ch : List Int} {K a : Int} (hch : chB ch) (hb : sdB K on tw) (a0 : 0 ≤ a) (a8 : a < 8) : ∀ j : Nat, j ≤ 8 → 0 ≤ sumN (wkT on tw ch a) j ∧ sumN (wkT on tw ch a) j ≤ (j : Int) * (24 * (K * K))
  | 0, _ => by
    rw [show ((0 : Nat) : Int) * (24 * (K * K)) = 0 from Int.zero_mul _]
    exact ⟨Int.le_refl _, Int.le_refl _⟩
  | j + 1, h => by
    have i1 := wkS_in hch hb a0 a8 j (by omega)
    have i2 := (wkT_in hch hb a0 a8 (b := j) (by omega)).2.2
    have e : ((j + 1 : Nat) : Int) * (24 * (K * K)) = (j : Int) * (24 * (K * K)) + 24 * (K * K) := by rw [Int.natCast_add, Int.add_mul]; omega
    rw [e]
    show 0 ≤ sumN (wkT on tw ch a) j + wkT on tw ch a j ∧ sumN (wkT on tw ch a) j + wkT on tw ch a j ≤ _
    generalize (j : Int) * (24 * (K * K)) = M at *
    omega
theorem wkM {K : Int} {j : Nat} (h0 : 0 ≤ K * K) (hj : j ≤ 8) : (j : Int) * (24 * (K * K)) ≤ 192 * (K * K) := by
  have := Int.mul_le_mul_of_nonneg_right (show (j : Int) ≤ 8 by omega) (show 0 ≤ 24 * (K * K) by omega)
  generalize (j : Int) * (24 * (K * K)) = M at *
  omega
theorem wkV_in {on tw ch : List Int} {K a : Int} (hch : chB ch) (hb : sdB K on tw) (hK : 1 ≤ K) (a0 : 0 ≤ a) (a8 : a < 8) : 0 ≤ wkV on tw ch a ∧ wkV on tw ch a ≤ 192 * (K * K) := by
  have h1 := hb a a0 a8
  have k1 : 1 * K ≤ K * K := Int.mul_le_mul_of_nonneg_right hK (by omega)
  have s := wkS_in hch hb a0 a8 8 (Nat.le_refl 8)
  have s2 := wkM (K := K) (j := 8) (by omega) (Nat.le_refl 8)
  unfold wkV
  split <;> omega
theorem wk_b (d : Nat) {h : List mC} {g : Nat} {n sz : Int} {ch ap pl wm lf rt ws rw pt wh on tw : List Int} {wo wt il dr : Int} {dn : List Int} (hM : MU h g n sz ch ap pl wm lf rt ws rw pt wh on tw wo wt il dr dn) {K : Int} (hb : sdB K on tw) (hK1 : 1 ≤ K) (hK2 : 192 * (K * K) ≤ 9618527719784448) (hch : chB ch) {e m f s a : Int} (a0 : 0 ≤ a) (a8 : a < 8) {Q : Option mV → List mC → Prop} (hQ : ∀ v : Int, v = sumN (wkT on tw ch a) 8 → Wp d mX4_work 182 [mR g, mI e, mI m, mI f, mI s, mI a, mL v, mU, mI 8] [] h (0, 0) Q) {u8 : mV} : Wp d mX4_work 115 [mR g, mI e, mI m, mI f, mI s, mI a, mL 0, mU, u8] [] h (0, 0) Q := by
  obtain ⟨m0, m1, mch, map, mpl, mwm, mlf, mrt, mws, mrw, mpt, mwh, mon, mtw, mdn, lch, lap, lpl, lwm, llf, lrt, lws, lrw, lpt, lwh, lon, ltw, ldn, m8⟩ := id hM
  have k0 : 0 ≤ K * K := Int.mul_nonneg (by omega) (by omega)
  have key : ∀ (j : Nat), j ≤ 8 → ∀ (v y : Int), y = j → v = sumN (wkT on tw ch a) j → Wp d mX4_work 118 [mR g, mI e, mI m, mI f, mI s, mI a, mL v, mU, mI y] [] h (0, 0) Q := by
    refine loop_up 8 _ ?_ ?_
    · intro v y hy hv
      refine wp_il8 (q := 120) dX4_work_118 rfl (wp_bi (q := 122) dX4_work_120 rfl (by decide) (by decide) (wp_icmp_ge (t := 182) (q := 125) dX4_work_122 rfl rfl (fun c122 => ?_) (fun c122 => ?_)))
      · rw [show y = 8 by omega]
        exact hQ _ hv
      · exfalso; omega
    · intro j hj ih v y hy hv
      have t := wkT_in hch hb a0 a8 (b := j) hj
      have i1 := wkS_in hch hb a0 a8 j (by omega)
      have i2 := wkM (j := j) k0 (by omega)
      have e1 : sumN (wkT on tw ch a) (j + 1) = v + wkT on tw ch a j := by rw [hv]; rfl
      rw [← hv] at i1
      unfold wkT at t e1
      rw [← hy] at t i1 i2 e1
      have t1 : 0 ≤ on.getD a.toNat 0 * tw.getD y.toNat 0 ∧ on.getD a.toNat 0 * tw.getD y.toNat 0 ≤ K * K := t.1
      have t2 : 0 ≤ tw.getD a.toNat 0 * on.getD y.toNat 0 ∧ tw.getD a.toNat 0 * on.getD y.toNat 0 ≤ K * K := t.2.1
      have t3 : 0 ≤ (on.getD a.toNat 0 * tw.getD y.toNat 0 + tw.getD a.toNat 0 * on.getD y.toNat 0) * ch.getD (8 * a + y).toNat 0 ∧ (on.getD a.toNat 0 * tw.getD y.toNat 0 + tw.getD a.toNat 0 * on.getD y.toNat 0) * ch.getD (8 * a + y).toNat 0 ≤ 24 * (K * K) := t.2.2
      clear t
      generalize y * (24 * (K * K)) = M at i1 i2
      generalize K * K = KK at *
      refine wp_il8 (q := 120) dX4_work_118 rfl (wp_bi (q := 122) dX4_work_120 rfl (by decide) (by decide) (wp_icmp_ge (t := 182) (q := 125) dX4_work_122 rfl rfl (fun c122 => ?_) (fun c122 => ?_)))
      · exfalso; omega
      · refine wp_ll6 (q := 127) dX4_work_125 rfl (wp_al0 (q := 128) dX4_work_127 rfl (wp_getf (q := 131) dX4_work_128 rfl f34 m0 m1 rfl (fun z => nomatch z) (wp_il5 (q := 133) dX4_work_131 rfl (wp_laload (q := 134) dX4_work_133 rfl mon (by omega) (by omega) (wp_al0 (q := 135) dX4_work_134 rfl (wp_getf (q := 138) dX4_work_135 rfl f35 m0 m1 rfl (fun z => nomatch z) (wp_il8 (q := 140) dX4_work_138 rfl (wp_laload (q := 141) dX4_work_140 rfl mtw (by omega) (by omega) (wp_lmul (q := 142) dX4_work_141 rfl (by omega) (by omega) (wp_al0 (q := 143) dX4_work_142 rfl (wp_getf (q := 146) dX4_work_143 rfl f35 m0 m1 rfl (fun z => nomatch z) (wp_il5 (q := 148) dX4_work_146 rfl (wp_laload (q := 149) dX4_work_148 rfl mtw (by omega) (by omega) ?_)))))))))))))
        refine wp_al0 (q := 150) dX4_work_149 rfl (wp_getf (q := 153) dX4_work_150 rfl f34 m0 m1 rfl (fun z => nomatch z) (wp_il8 (q := 155) dX4_work_153 rfl (wp_laload (q := 156) dX4_work_155 rfl mon (by omega) (by omega) (wp_lmul (q := 157) dX4_work_156 rfl (by omega) (by omega) (wp_ladd (q := 158) dX4_work_157 rfl (by omega) (by omega) (wp_al0 (q := 159) dX4_work_158 rfl (wp_getf (q := 162) dX4_work_159 rfl f24 m0 m1 rfl (fun z => nomatch z) (wp_bi (q := 164) dX4_work_162 rfl (by decide) (by decide) (wp_il5 (q := 166) dX4_work_164 rfl (wp_imul (q := 167) dX4_work_166 rfl (by omega) (by omega) (wp_il8 (q := 169) dX4_work_167 rfl (wp_iadd (q := 170) dX4_work_169 rfl (by omega) (by omega) (wp_iaload (q := 171) dX4_work_170 rfl mch (by omega) (by omega) ?_)))))))))))))
        refine wp_i2l (q := 172) dX4_work_171 rfl (wp_lmul (q := 173) dX4_work_172 rfl (by omega) (by omega) (wp_ladd (q := 174) dX4_work_173 rfl (by omega) (by omega) (wp_ls6 (q := 176) dX4_work_174 rfl rfl (wp_ii8 (q := 179) dX4_work_176 rfl rfl (by omega) (by omega) (wp_goto (q := 118) dX4_work_179 rfl ?_)))))
        exact ih _ _ (by omega) e1.symm
  refine wp_ic (q := 116) dX4_work_115 rfl (by decide) (by decide) (wp_is8 (q := 118) dX4_work_116 rfl rfl ?_)
  exact key 0 (Nat.zero_le _) 0 0 rfl rfl
theorem wk_a (d : Nat) {h : List mC} {g : Nat} {n sz : Int} {ch ap pl wm lf rt ws rw pt wh on tw : List Int} {wo wt il dr : Int} {dn : List Int} (hM : MU h g n sz ch ap pl wm lf rt ws rw pt wh on tw wo wt il dr dn) {K : Int} (hb : sdB K on tw) (hK1 : 1 ≤ K) (hK2 : 192 * (K * K) ≤ 9618527719784448) (hch : chB ch) {e m : Int} (q0 : 0 ≤ m) (q7 : m < 7) {Q : Option mV → List mC → Prop} (hQ : ∀ (h1 : List mC) (pt1 : List Int) (u6 u7 u8 : mV), MU h1 g n sz ch ap pl wm lf rt ws rw pt1 wh on tw wo wt il dr dn → (∀ a : Int, 0 ≤ a → a < 8 → gI pt1 (8 * m + a) = wkV on tw ch a) → (∀ t : Int, 0 ≤ t → (t < 8 * m ∨ 8 * m + 8 ≤ t) → gI pt1 t = gI pt t) → (∀ j : Nat, (j < g ∨ g + 14 ≤ j) → h1[j]? = h[j]?) → mLong u7 = false → Wp d mX4_work 202 [mR g, mI e, mI m, mI (bI (anB on 8 = true)), mI (bI (anB tw 8 = true)), mI 8, u6, u7, u8] [] h1 (0, 0) Q) {u5 u6 u7 u8 : mV} (hu : mLong u7 = false) : Wp d mX4_work 76 [mR g, mI e, mI m, mI (bI (anB on 8 = true)), mI (bI (anB tw 8 = true)), u5, u6, u7, u8] [] h (0, 0) Q := by
  have key : ∀ (j : Nat), j ≤ 8 → ∀ (h1 : List mC) (pt1 : List Int) (x : Int) (u6 u7 u8 : mV), x = j → MU h1 g n sz ch ap pl wm lf rt ws rw pt1 wh on tw wo wt il dr dn → (∀ a : Int, 0 ≤ a → a < x → gI pt1 (8 * m + a) = wkV on tw ch a) → (∀ t : Int, 0 ≤ t → (t < 8 * m ∨ 8 * m + 8 ≤ t) → gI pt1 t = gI pt t) → (∀ j : Nat, (j < g ∨ g + 14 ≤ j) → h1[j]? = h[j]?) → mLong u7 = false → Wp d mX4_work 79 [mR g, mI e, mI m, mI (bI (anB on 8 = true)), mI (bI (anB tw 8 = true)), mI x, u6, u7, u8] [] h1 (0, 0) Q := by
    refine loop_up 8 _ ?_ ?_
    · intro h1 pt1 x u6 u7 u8 hx hM hw hw2 hf hu
      clear hb hch
      obtain ⟨m0, m1, mch, map, mpl, mwm, mlf, mrt, mws, mrw, mpt, mwh, mon, mtw, mdn, lch, lap, lpl, lwm, llf, lrt, lws, lrw, lpt, lwh, lon, ltw, ldn, m8⟩ := id hM
      refine wp_il5 (q := 81) dX4_work_79 rfl (wp_bi (q := 83) dX4_work_81 rfl (by decide) (by decide) (wp_icmp_ge (t := 202) (q := 86) dX4_work_83 rfl rfl (fun c83 => ?_) (fun c83 => ?_)))
      · rw [show x = 8 by omega]
        exact hQ _ _ _ _ _ hM (fun a a0 a1 => hw a a0 (by omega)) hw2 hf hu
      · exfalso; omega
    · intro j hj ih h1 pt1 x u6 u7 u8 hx hM hw hw2 hf hu
      have x0 : 0 ≤ x := by omega
      have x8 : x < 8 := by omega
      have hst : ∀ (v : Int) (u8 : mV), v = wkV on tw ch x → Wp d mX4_work 182 [mR g, mI e, mI m, mI (bI (anB on 8 = true)), mI (bI (anB tw 8 = true)), mI x, mL v, mU, u8] [] h1 (0, 0) Q := by
        intro v u8 hv
        clear hb hch
        obtain ⟨m0, m1, mch, map, mpl, mwm, mlf, mrt, mws, mrw, mpt, mwh, mon, mtw, mdn, lch, lap, lpl, lwm, llf, lrt, lws, lrw, lpt, lwh, lon, ltw, ldn, m8⟩ := id hM
        refine wp_al0 (q := 183) dX4_work_182 rfl (wp_getf (q := 186) dX4_work_183 rfl f32 m0 m1 rfl (fun z => nomatch z) (wp_bi (q := 188) dX4_work_186 rfl (by decide) (by decide) (wp_il2 (q := 189) dX4_work_188 rfl (wp_imul (q := 190) dX4_work_189 rfl (by omega) (by omega) (wp_il5 (q := 192) dX4_work_190 rfl (wp_iadd (q := 193) dX4_work_192 rfl (by omega) (by omega) (wp_ll6 (q := 195) dX4_work_193 rfl (wp_lastore (q := 196) dX4_work_195 rfl (by omega) mpt (by omega) (by omega) (wp_ii5 (q := 199) dX4_work_196 rfl rfl (by omega) (by omega) (wp_goto (q := 79) dX4_work_199 rfl ?_))))))))))
        refine ih _ (sI pt1 (8 * m + x) v) _ _ _ _ (by omega) (hM.sPt ((sI_len _ _ _).trans lpt)) (fun a a0 a1 => ?_) (fun t t0 t1 => ?_) (fun j hj => by rw [fr_set (by omega)]; exact hf j hj) rfl
        · by_cases e : a = x
          · rw [e, gI_eq (by omega) (by omega)]; exact hv
          · rw [gI_ne (by omega) (by omega) (by omega)]; exact hw a a0 (by omega)
        · rw [gI_ne (by omega) t0 (by omega)]; exact hw2 t t0 t1
      have bx := hb x x0 x8
      have k1 : 1 * K ≤ K * K := Int.mul_le_mul_of_nonneg_right hK1 (by omega)
      have b1 : 0 ≤ on.getD x.toNat 0 ∧ on.getD x.toNat 0 ≤ K := bx.1
      have b2 : 0 ≤ tw.getD x.toNat 0 ∧ tw.getD x.toNat 0 ≤ K := bx.2
      have hb' := fun _ : Nat => hb
      have hch' := fun _ : Nat => hch
      clear hb hch
      obtain ⟨m0, m1, mch, map, mpl, mwm, mlf, mrt, mws, mrw, mpt, mwh, mon, mtw, mdn, lch, lap, lpl, lwm, llf, lrt, lws, lrw, lpt, lwh, lon, ltw, ldn, m8⟩ := id hM
      refine wp_il5 (q := 81) dX4_work_79 rfl (wp_bi (q := 83) dX4_work_81 rfl (by decide) (by decide) (wp_icmp_ge (t := 202) (q := 86) dX4_work_83 rfl rfl (fun c83 => ?_) (fun c83 => ?_)))
      · exfalso; omega
      · refine wp_al0 (q := 87) dX4_work_86 rfl (wp_getf (q := 90) dX4_work_87 rfl f34 m0 m1 rfl (fun z => nomatch z) (wp_il5 (q := 92) dX4_work_90 rfl (wp_laload (q := 93) dX4_work_92 rfl mon (by omega) (by omega) (wp_al0 (q := 94) dX4_work_93 rfl (wp_getf (q := 97) dX4_work_94 rfl f35 m0 m1 rfl (fun z => nomatch z) (wp_il5 (q := 99) dX4_work_97 rfl (wp_laload (q := 100) dX4_work_99 rfl mtw (by omega) (by omega) (wp_ladd (q := 101) dX4_work_100 rfl (by omega) (by omega) (wp_ls6 (q := 103) dX4_work_101 rfl rfl (wp_il3 (q := 104) dX4_work_103 rfl (wp_ifb_eq (t := 182) (q := 107) dX4_work_104 rfl rfl (fun c104 => ?_) (fun c104 => ?_))))))))))))
        · first
            | exact hst _ _ (show _ = wkV on tw ch x from (if_neg (fun z => c104 z.1)).symm)
            | exact hst _ _ (show _ = wkV on tw ch x from (if_neg (fun z => c109 z.2)).symm)
        · refine wp_il4 (q := 109) dX4_work_107 rfl (wp_ifb_eq (t := 182) (q := 112) dX4_work_109 rfl rfl (fun c109 => ?_) (fun c109 => ?_))
          · first
              | exact hst _ _ (show _ = wkV on tw ch x from (if_neg (fun z => c104 z.1)).symm)
              | exact hst _ _ (show _ = wkV on tw ch x from (if_neg (fun z => c109 z.2)).symm)
          · refine wp_lc0 (q := 113) dX4_work_112 rfl (wp_ls6 (q := 115) dX4_work_113 rfl rfl ?_)
            exact wk_b d hM (hb' 0) hK1 hK2 (hch' 0) x0 x8 (fun v hv => hst v _ (hv.trans (show _ = wkV on tw ch x from (if_pos ⟨c104, c109⟩).symm)))
  refine wp_ic (q := 77) dX4_work_76 rfl (by decide) (by decide) (wp_is5 (q := 79) dX4_work_77 rfl rfl ?_)
  exact key 0 (Nat.zero_le _) h pt 0 _ _ _ rfl hM (fun a a0 a1 => by omega) (fun _ _ _ => rfl) (fun _ _ => rfl) hu
theorem wk_c (d : Nat) {h : List mC} {g : Nat} {n sz : Int} {ch ap pl wm lf rt ws rw pt wh on tw : List Int} {wo wt il dr : Int} {dn : List Int} (hM : MU h g n sz ch ap pl wm lf rt ws rw pt wh on tw wo wt il dr dn) {e m f s : Int} (q0 : 0 ≤ m) (q7 : m < 7) {Q : Option mV → List mC → Prop} (hQ : ∀ (h1 : List mC) (pt1 : List Int) (u6 u7 u8 : mV), MU h1 g n sz ch ap pl wm lf rt ws rw pt1 wh on tw wo wt il dr dn → (∀ a : Int, 0 ≤ a → a < 8 → gI pt1 (8 * m + a) = if a = gI wm m then 1 else 0) → (∀ t : Int, 0 ≤ t → (t < 8 * m ∨ 8 * m + 8 ≤ t) → gI pt1 t = gI pt t) → (∀ j : Nat, (j < g ∨ g + 14 ≤ j) → h1[j]? = h[j]?) → mLong u7 = false → Wp d mX4_work 268 [mR g, mI e, mI m, mI f, mI s, mI 8, u6, u7, u8] [] h1 (0, 0) Q) {u5 u6 u7 u8 : mV} (hu : mLong u7 = false) : Wp d mX4_work 224 [mR g, mI e, mI m, mI f, mI s, u5, u6, u7, u8] [] h (0, 0) Q := by
  have key : ∀ (j : Nat), j ≤ 8 → ∀ (h1 : List mC) (pt1 : List Int) (x : Int), x = j → MU h1 g n sz ch ap pl wm lf rt ws rw pt1 wh on tw wo wt il dr dn → (∀ a : Int, 0 ≤ a → a < x → gI pt1 (8 * m + a) = if a = gI wm m then 1 else 0) → (∀ t : Int, 0 ≤ t → (t < 8 * m ∨ 8 * m + 8 ≤ t) → gI pt1 t = gI pt t) → (∀ j : Nat, (j < g ∨ g + 14 ≤ j) → h1[j]? = h[j]?) → Wp d mX4_work 227 [mR g, mI e, mI m, mI f, mI s, mI x, u6, u7, u8] [] h1 (0, 0) Q := by
    refine loop_up 8 _ ?_ ?_
    · intro h1 pt1 x hx hM hw hw2 hf
      obtain ⟨m0, m1, mch, map, mpl, mwm, mlf, mrt, mws, mrw, mpt, mwh, mon, mtw, mdn, lch, lap, lpl, lwm, llf, lrt, lws, lrw, lpt, lwh, lon, ltw, ldn, m8⟩ := id hM
      refine wp_il5 (q := 229) dX4_work_227 rfl (wp_bi (q := 231) dX4_work_229 rfl (by decide) (by decide) (wp_icmp_ge (t := 268) (q := 234) dX4_work_231 rfl rfl (fun c231 => ?_) (fun c231 => ?_)))
      · rw [show x = 8 by omega]
        exact hQ _ _ _ _ _ hM (fun a a0 a1 => hw a a0 (by omega)) hw2 hf hu
      · exfalso; omega
    · intro j hj ih h1 pt1 x hx hM hw hw2 hf
      obtain ⟨m0, m1, mch, map, mpl, mwm, mlf, mrt, mws, mrw, mpt, mwh, mon, mtw, mdn, lch, lap, lpl, lwm, llf, lrt, lws, lrw, lpt, lwh, lon, ltw, ldn, m8⟩ := id hM
      have hst : ∀ v : Int, v = (if x = gI wm m then 1 else 0) → Wp d mX4_work 261 [mR g, mI e, mI m, mI f, mI s, mI x, u6, u7, u8] [mL v, mI (8 * m + x), mR (g + 9)] h1 (0, 0) Q := by
        intro v hv
        refine wp_lastore (q := 262) dX4_work_261 rfl (by omega) mpt (by omega) (by omega) (wp_ii5 (q := 265) dX4_work_262 rfl rfl (by omega) (by omega) (wp_goto (q := 227) dX4_work_265 rfl ?_))
        refine ih _ (sI pt1 (8 * m + x) v) _ (by omega) (hM.sPt ((sI_len _ _ _).trans lpt)) (fun a a0 a1 => ?_) (fun t t0 t1 => ?_) (fun j hj => by rw [fr_set (by omega)]; exact hf j hj)
        · by_cases e : a = x
          · rw [e, gI_eq (by omega) (by omega)]; exact hv
          · rw [gI_ne (by omega) (by omega) (by omega)]; exact hw a a0 (by omega)
        · rw [gI_ne (by omega) t0 (by omega)]; exact hw2 t t0 t1
      refine wp_il5 (q := 229) dX4_work_227 rfl (wp_bi (q := 231) dX4_work_229 rfl (by decide) (by decide) (wp_icmp_ge (t := 268) (q := 234) dX4_work_231 rfl rfl (fun c231 => ?_) (fun c231 => ?_)))
      · exfalso; omega
      · refine wp_al0 (q := 235) dX4_work_234 rfl (wp_getf (q := 238) dX4_work_235 rfl f32 m0 m1 rfl (fun z => nomatch z) (wp_bi (q := 240) dX4_work_238 rfl (by decide) (by decide) (wp_il2 (q := 241) dX4_work_240 rfl (wp_imul (q := 242) dX4_work_241 rfl (by omega) (by omega) (wp_il5 (q := 244) dX4_work_242 rfl (wp_iadd (q := 245) dX4_work_244 rfl (by omega) (by omega) (wp_il5 (q := 247) dX4_work_245 rfl (wp_al0 (q := 248) dX4_work_247 rfl (wp_getf (q := 251) dX4_work_248 rfl f27 m0 m1 rfl (fun z => nomatch z) (wp_il2 (q := 252) dX4_work_251 rfl (wp_iaload (q := 253) dX4_work_252 rfl mwm (by omega) (by omega) (wp_icmp_ne (t := 260) (q := 256) dX4_work_253 rfl rfl (fun c253 => ?_) (fun c253 => ?_)))))))))))))
        · refine wp_lc0 (q := 261) dX4_work_260 rfl ?_
          first
            | exact hst _ (if_pos c253).symm
            | exact hst _ (if_neg c253).symm
        · refine wp_lc1 (q := 257) dX4_work_256 rfl (wp_goto (q := 261) dX4_work_257 rfl ?_)
          first
            | exact hst _ (if_pos c253).symm
            | exact hst _ (if_neg c253).symm
  refine wp_ic (q := 225) dX4_work_224 rfl (by decide) (by decide) (wp_is5 (q := 227) dX4_work_225 rfl rfl ?_)
  exact key 0 (Nat.zero_le _) h pt 0 rfl hM (fun a a0 a1 => by omega) (fun _ _ _ => rfl) (fun _ _ => rfl)
