/-! the law: each call (rows laid by wip/whole) -/
theorem CSx.fr {f : Int → Int → Prop} {h h' : List mC} {k n sz : Nat} {ch ro pl wi : List Int} (hS : CSx f h k n sz ch ro pl wi) (hf : ∀ j : Nat, j < k + 16 → h'[j]? = h[j]?) : CSx f h' k n sz ch ro pl wi := by
  obtain ⟨li, we, od, tsz, tpl, twi, tod, ln, rw, rs, lo, hU, hr⟩ := hS
  obtain ⟨⟨c0, c1⟩, hR, hB, hT, hL, hp⟩ := hU
  exact ⟨li, we, od, tsz, tpl, twi, tod, ln, rw, rs, lo, ⟨⟨c0, (hf k (by omega)).trans c1⟩, hR.fr (fun j _ _ => hf j (by omega)), hB.fr (fun j _ _ => hf j (by omega)), hT.fr (fun j _ _ => hf j (by omega)), hL.fr (fun j _ _ => hf j (by omega)), (hf 0 (by omega)).trans hp⟩, hr⟩
theorem CSx.obj {f : Int → Int → Prop} {h : List mC} {k n sz : Nat} {ch ro pl wi : List Int} (hS : CSx f h k n sz ch ro pl wi) : ∃ fs, h[k]? = some (mO 3 fs) := by
  obtain ⟨li, we, od, tsz, tpl, twi, tod, ln, rw, rs, lo, hU, hr⟩ := hS
  exact ⟨_, hU.1.2⟩
theorem MSx.fr {f : Int → Prop} {h h' : List mC} {g n sz : Nat} {ch ro pl wi : List Int} (hS : MSx f h g n sz ch ro pl wi) (hf : ∀ j : Nat, g ≤ j → j < g + 14 → h'[j]? = h[j]?) : MSx f h' g n sz ch ro pl wi := by
  obtain ⟨wm, lf, rt, ws, rw, pt, wh, on, tw, wo, wt, il, dr, dn, hM, hr⟩ := hS
  exact ⟨wm, lf, rt, ws, rw, pt, wh, on, tw, wo, wt, il, dr, dn, hM.fr hf, hr⟩
theorem MSx.obj {f : Int → Prop} {h : List mC} {g n sz : Nat} {ch ro pl wi : List Int} (hS : MSx f h g n sz ch ro pl wi) : ∃ fs, h[g]? = some (mO 4 fs) := by
  obtain ⟨wm, lf, rt, ws, rw, pt, wh, on, tw, wo, wt, il, dr, dn, hM, hr⟩ := hS
  exact ⟨_, hM.2.1⟩
/-- one call of the script, seen from behind it -/
def LwN (xl : List Int) (i : Int) (Q : Option mV → List mC → Prop) : Prop := ∀ (h2 : List mC) (n2 sz2 : Nat) (ch2 ro2 pl2 wi2 : List Int), h2[1]? = some (mA xl) → CS h2 2 n2 sz2 ch2 ro2 pl2 wi2 → MS h2 18 n2 sz2 ch2 ro2 pl2 wi2 → Inv n2 sz2 ch2 ro2 pl2 wi2 → Wp 40 mL_law 869 [mR 1, mR 2, mR 18, mI i] [] h2 (0, 0) Q
theorem lw_players {xl : List Int} (hl : xl.length ≤ 2560) {Q : Option mV → List mC → Prop} {h : List mC} {n sz : Nat} {ch ro pl wi : List Int} {i : Int} (i0 : 0 ≤ i) (i5 : i + 5 ≤ xl.length) (c1 : h[1]? = some (mA xl)) (hS : CS h 2 n sz ch ro pl wi) (hMS : MS h 18 n sz ch ro pl wi) (hI : Inv n sz ch ro pl wi) (hnext : LwN xl i Q) : Wp 40 mL_law 132 [mR 1, mR 2, mR 18, mI i] [] h (0, 0) Q := by
  have hn8 := hI.hn
  have hs8 := hI.hs
  obtain ⟨x1, e1⟩ : ∃ x, xl.getD (i + 1).toNat 0 = x := ⟨_, rfl⟩
  obtain ⟨x2, e2⟩ : ∃ x, xl.getD (i + 2).toNat 0 = x := ⟨_, rfl⟩
  obtain ⟨x3, e3⟩ : ∃ x, xl.getD (i + 3).toNat 0 = x := ⟨_, rfl⟩
  obtain ⟨x4, e4⟩ : ∃ x, xl.getD (i + 4).toNat 0 = x := ⟨_, rfl⟩
  obtain ⟨fx, cx⟩ := CSx.obj hS
  obtain ⟨fm, cm⟩ := MSx.obj hMS
  refine wp_al1 (q := 133) dL_law_132 rfl (wp_al0 (q := 134) dL_law_133 rfl (wp_il3 (q := 135) dL_law_134 rfl (wp_ic (q := 136) dL_law_135 rfl (by decide) (by decide) (wp_iadd (q := 137) dL_law_136 rfl (by omega) (by omega) (wp_iaload (q := 138) dL_law_137 rfl c1 (by omega) (by omega) ?_)))))
  rw [e1]
  refine wp_v1 (q := 141) dL_law_138 rfl q10 (Nat.le_of_ble_eq_true rfl) rfl (by decide) cx rfl rfl ((cs_players 0 hS (by omega)).up (by omega)) (fun r9 h9 e9 => ?_)
  obtain ⟨rfl, hS9, hf9⟩ := e9
  show Wp _ _ _ _ [mI _] _ _ _
  have hMS := MSx.fr hMS (fun j j0 j1 => hf9 j (Or.inr (by omega)))
  have c1 : h9[1]? = some (mA xl) := (hf9 1 (Or.inl (by omega))).trans c1
  obtain ⟨fm, cm⟩ := MSx.obj hMS
  refine wp_al2 (q := 142) dL_law_141 rfl (wp_al0 (q := 143) dL_law_142 rfl (wp_il3 (q := 144) dL_law_143 rfl (wp_ic (q := 145) dL_law_144 rfl (by decide) (by decide) (wp_iadd (q := 146) dL_law_145 rfl (by omega) (by omega) (wp_iaload (q := 147) dL_law_146 rfl c1 (by omega) (by omega) ?_)))))
  rw [e1]
  refine wp_v1 (q := 150) dL_law_147 rfl q121 (Nat.le_of_ble_eq_true rfl) rfl (by decide) cm rfl rfl ((ms_players 0 hMS hI.hn).up (by omega)) (fun r9 h9 e9 => ?_)
  obtain ⟨rfl, hMS, hf10⟩ := e9
  show Wp _ _ _ _ [mI _, mI _] _ _ _
  have c1 : h9[1]? = some (mA xl) := (hf10 1 (Or.inl (by omega))).trans c1
  refine wp_icmp_eq (t := 869) (q := 153) dL_law_150 rfl rfl (fun c150 => ?_) (fun c150 => ?_)
  · by_cases hc : x1 < 2 ∨ 8 < x1
    · rw [if_pos hc] at hS9 hMS
      exact hnext _ _ _ _ _ _ _ c1 (CSx.fr hS9 (fun j hj => hf10 j (Or.inl (by omega)))) hMS (hI)
    · rw [if_neg hc] at hS9 hMS
      exact hnext _ _ _ _ _ _ _ c1 (CSx.fr hS9 (fun j hj => hf10 j (Or.inl (by omega)))) hMS (Inv_new (by omega) hI.hs)
  · exact absurd rfl c150
theorem lw_chance {xl : List Int} (hl : xl.length ≤ 2560) {Q : Option mV → List mC → Prop} {h : List mC} {n sz : Nat} {ch ro pl wi : List Int} {i : Int} (i0 : 0 ≤ i) (i5 : i + 5 ≤ xl.length) (c1 : h[1]? = some (mA xl)) (hS : CS h 2 n sz ch ro pl wi) (hMS : MS h 18 n sz ch ro pl wi) (hI : Inv n sz ch ro pl wi) (hnext : LwN xl i Q) : Wp 40 mL_law 155 [mR 1, mR 2, mR 18, mI i] [] h (0, 0) Q := by
  have hn8 := hI.hn
  have hs8 := hI.hs
  obtain ⟨x1, e1⟩ : ∃ x, xl.getD (i + 1).toNat 0 = x := ⟨_, rfl⟩
  obtain ⟨x2, e2⟩ : ∃ x, xl.getD (i + 2).toNat 0 = x := ⟨_, rfl⟩
  obtain ⟨x3, e3⟩ : ∃ x, xl.getD (i + 3).toNat 0 = x := ⟨_, rfl⟩
  obtain ⟨x4, e4⟩ : ∃ x, xl.getD (i + 4).toNat 0 = x := ⟨_, rfl⟩
  obtain ⟨fx, cx⟩ := CSx.obj hS
  obtain ⟨fm, cm⟩ := MSx.obj hMS
  refine wp_al1 (q := 156) dL_law_155 rfl (wp_al0 (q := 157) dL_law_156 rfl (wp_il3 (q := 158) dL_law_157 rfl (wp_ic (q := 159) dL_law_158 rfl (by decide) (by decide) (wp_iadd (q := 160) dL_law_159 rfl (by omega) (by omega) (wp_iaload (q := 161) dL_law_160 rfl c1 (by omega) (by omega) ?_)))))
  rw [e1]
  refine wp_al0 (q := 162) dL_law_161 rfl (wp_il3 (q := 163) dL_law_162 rfl (wp_ic (q := 164) dL_law_163 rfl (by decide) (by decide) (wp_iadd (q := 165) dL_law_164 rfl (by omega) (by omega) (wp_iaload (q := 166) dL_law_165 rfl c1 (by omega) (by omega) ?_))))
  rw [e2]
  refine wp_al0 (q := 167) dL_law_166 rfl (wp_il3 (q := 168) dL_law_167 rfl (wp_ic (q := 169) dL_law_168 rfl (by decide) (by decide) (wp_iadd (q := 170) dL_law_169 rfl (by omega) (by omega) (wp_iaload (q := 171) dL_law_170 rfl c1 (by omega) (by omega) ?_))))
  rw [e3]
  refine wp_v3 (q := 174) dL_law_171 rfl q13 (Nat.le_of_ble_eq_true rfl) rfl (by decide) cx rfl rfl ((cs_chance 0 hS (by omega)).up (by omega)) (fun r9 h9 e9 => ?_)
  obtain ⟨rfl, hS9, hf9⟩ := e9
  show Wp _ _ _ _ [mI _] _ _ _
  have hMS := MSx.fr hMS (fun j j0 j1 => hf9 j (Or.inr (by omega)))
  have c1 : h9[1]? = some (mA xl) := (hf9 1 (Or.inl (by omega))).trans c1
  obtain ⟨fm, cm⟩ := MSx.obj hMS
  refine wp_al2 (q := 175) dL_law_174 rfl (wp_al0 (q := 176) dL_law_175 rfl (wp_il3 (q := 177) dL_law_176 rfl (wp_ic (q := 178) dL_law_177 rfl (by decide) (by decide) (wp_iadd (q := 179) dL_law_178 rfl (by omega) (by omega) (wp_iaload (q := 180) dL_law_179 rfl c1 (by omega) (by omega) ?_)))))
  rw [e1]
  refine wp_al0 (q := 181) dL_law_180 rfl (wp_il3 (q := 182) dL_law_181 rfl (wp_ic (q := 183) dL_law_182 rfl (by decide) (by decide) (wp_iadd (q := 184) dL_law_183 rfl (by omega) (by omega) (wp_iaload (q := 185) dL_law_184 rfl c1 (by omega) (by omega) ?_))))
  rw [e2]
  refine wp_al0 (q := 186) dL_law_185 rfl (wp_il3 (q := 187) dL_law_186 rfl (wp_ic (q := 188) dL_law_187 rfl (by decide) (by decide) (wp_iadd (q := 189) dL_law_188 rfl (by omega) (by omega) (wp_iaload (q := 190) dL_law_189 rfl c1 (by omega) (by omega) ?_))))
  rw [e3]
  refine wp_v3 (q := 193) dL_law_190 rfl q123 (Nat.le_of_ble_eq_true rfl) rfl (by decide) cm rfl rfl ((ms_chance 0 hMS hI.hn).up (by omega)) (fun r9 h9 e9 => ?_)
  obtain ⟨rfl, hMS, hf10⟩ := e9
  show Wp _ _ _ _ [mI _, mI _] _ _ _
  have c1 : h9[1]? = some (mA xl) := (hf10 1 (Or.inl (by omega))).trans c1
  refine wp_icmp_eq (t := 869) (q := 196) dL_law_193 rfl rfl (fun c193 => ?_) (fun c193 => ?_)
  · by_cases hc : (0 ≤ x1 ∧ x1 < n) ∧ (0 ≤ x2 ∧ x2 < n) ∧ 0 ≤ x3 ∧ x3 ≤ 12 ∧ x1 ≠ x2
    · rw [if_pos hc] at hS9 hMS
      exact hnext _ _ _ _ _ _ _ c1 (CSx.fr hS9 (fun j hj => hf10 j (Or.inl (by omega)))) hMS (Inv_chance hI hc.1 hc.2.1 ⟨hc.2.2.1, hc.2.2.2.1⟩ hc.2.2.2.2)
    · rw [if_neg hc] at hS9 hMS
      exact hnext _ _ _ _ _ _ _ c1 (CSx.fr hS9 (fun j hj => hf10 j (Or.inl (by omega)))) hMS (hI)
  · exact absurd rfl c193
theorem lw_apart {xl : List Int} (hl : xl.length ≤ 2560) {Q : Option mV → List mC → Prop} {h : List mC} {n sz : Nat} {ch ro pl wi : List Int} {i : Int} (i0 : 0 ≤ i) (i5 : i + 5 ≤ xl.length) (c1 : h[1]? = some (mA xl)) (hS : CS h 2 n sz ch ro pl wi) (hMS : MS h 18 n sz ch ro pl wi) (hI : Inv n sz ch ro pl wi) (hnext : LwN xl i Q) : Wp 40 mL_law 198 [mR 1, mR 2, mR 18, mI i] [] h (0, 0) Q := by
  have hn8 := hI.hn
  have hs8 := hI.hs
  obtain ⟨x1, e1⟩ : ∃ x, xl.getD (i + 1).toNat 0 = x := ⟨_, rfl⟩
  obtain ⟨x2, e2⟩ : ∃ x, xl.getD (i + 2).toNat 0 = x := ⟨_, rfl⟩
  obtain ⟨x3, e3⟩ : ∃ x, xl.getD (i + 3).toNat 0 = x := ⟨_, rfl⟩
  obtain ⟨x4, e4⟩ : ∃ x, xl.getD (i + 4).toNat 0 = x := ⟨_, rfl⟩
  obtain ⟨fx, cx⟩ := CSx.obj hS
  obtain ⟨fm, cm⟩ := MSx.obj hMS
  refine wp_al1 (q := 199) dL_law_198 rfl (wp_al0 (q := 200) dL_law_199 rfl (wp_il3 (q := 201) dL_law_200 rfl (wp_ic (q := 202) dL_law_201 rfl (by decide) (by decide) (wp_iadd (q := 203) dL_law_202 rfl (by omega) (by omega) (wp_iaload (q := 204) dL_law_203 rfl c1 (by omega) (by omega) ?_)))))
  rw [e1]
  refine wp_al0 (q := 205) dL_law_204 rfl (wp_il3 (q := 206) dL_law_205 rfl (wp_ic (q := 207) dL_law_206 rfl (by decide) (by decide) (wp_iadd (q := 208) dL_law_207 rfl (by omega) (by omega) (wp_iaload (q := 209) dL_law_208 rfl c1 (by omega) (by omega) ?_))))
  rw [e2]
  refine wp_al0 (q := 210) dL_law_209 rfl (wp_il3 (q := 211) dL_law_210 rfl (wp_ic (q := 212) dL_law_211 rfl (by decide) (by decide) (wp_iadd (q := 213) dL_law_212 rfl (by omega) (by omega) (wp_iaload (q := 214) dL_law_213 rfl c1 (by omega) (by omega) ?_))))
  rw [e3]
  refine wp_v3 (q := 217) dL_law_214 rfl q18 (Nat.le_of_ble_eq_true rfl) rfl (by decide) cx rfl rfl ((cs_apart 0 hS (by omega)).up (by omega)) (fun r9 h9 e9 => ?_)
  obtain ⟨rfl, hS9, hf9⟩ := e9
  show Wp _ _ _ _ [mI _] _ _ _
  have hMS := MSx.fr hMS (fun j j0 j1 => hf9 j (Or.inr (by omega)))
  have c1 : h9[1]? = some (mA xl) := (hf9 1 (Or.inl (by omega))).trans c1
  obtain ⟨fm, cm⟩ := MSx.obj hMS
  refine wp_al2 (q := 218) dL_law_217 rfl (wp_al0 (q := 219) dL_law_218 rfl (wp_il3 (q := 220) dL_law_219 rfl (wp_ic (q := 221) dL_law_220 rfl (by decide) (by decide) (wp_iadd (q := 222) dL_law_221 rfl (by omega) (by omega) (wp_iaload (q := 223) dL_law_222 rfl c1 (by omega) (by omega) ?_)))))
  rw [e1]
  refine wp_al0 (q := 224) dL_law_223 rfl (wp_il3 (q := 225) dL_law_224 rfl (wp_ic (q := 226) dL_law_225 rfl (by decide) (by decide) (wp_iadd (q := 227) dL_law_226 rfl (by omega) (by omega) (wp_iaload (q := 228) dL_law_227 rfl c1 (by omega) (by omega) ?_))))
  rw [e2]
  refine wp_al0 (q := 229) dL_law_228 rfl (wp_il3 (q := 230) dL_law_229 rfl (wp_ic (q := 231) dL_law_230 rfl (by decide) (by decide) (wp_iadd (q := 232) dL_law_231 rfl (by omega) (by omega) (wp_iaload (q := 233) dL_law_232 rfl c1 (by omega) (by omega) ?_))))
  rw [e3]
  refine wp_v3 (q := 236) dL_law_233 rfl q125 (Nat.le_of_ble_eq_true rfl) rfl (by decide) cm rfl rfl ((ms_apart 0 hMS hI.hn).up (by omega)) (fun r9 h9 e9 => ?_)
  obtain ⟨rfl, hMS, hf10⟩ := e9
  show Wp _ _ _ _ [mI _, mI _] _ _ _
  have c1 : h9[1]? = some (mA xl) := (hf10 1 (Or.inl (by omega))).trans c1
  refine wp_icmp_eq (t := 869) (q := 239) dL_law_236 rfl rfl (fun c236 => ?_) (fun c236 => ?_)
  · by_cases hc : (0 ≤ x1 ∧ x1 < n) ∧ (0 ≤ x2 ∧ x2 < n) ∧ 1 ≤ x3 ∧ x3 ≤ 3 ∧ x1 ≠ x2
    · rw [if_pos hc] at hS9 hMS
      exact hnext _ _ _ _ _ _ _ c1 (CSx.fr hS9 (fun j hj => hf10 j (Or.inl (by omega)))) hMS (Inv_apart hI hc.1 hc.2.1 ⟨hc.2.2.1, hc.2.2.2.1⟩ hc.2.2.2.2)
    · rw [if_neg hc] at hS9 hMS
      exact hnext _ _ _ _ _ _ _ c1 (CSx.fr hS9 (fun j hj => hf10 j (Or.inl (by omega)))) hMS (hI)
  · exact absurd rfl c236
theorem lw_cup {xl : List Int} (hl : xl.length ≤ 2560) {Q : Option mV → List mC → Prop} {h : List mC} {n sz : Nat} {ch ro pl wi : List Int} {i : Int} (i0 : 0 ≤ i) (i5 : i + 5 ≤ xl.length) (c1 : h[1]? = some (mA xl)) (hS : CS h 2 n sz ch ro pl wi) (hMS : MS h 18 n sz ch ro pl wi) (hI : Inv n sz ch ro pl wi) (hnext : LwN xl i Q) : Wp 40 mL_law 241 [mR 1, mR 2, mR 18, mI i] [] h (0, 0) Q := by
  have hn8 := hI.hn
  have hs8 := hI.hs
  obtain ⟨x1, e1⟩ : ∃ x, xl.getD (i + 1).toNat 0 = x := ⟨_, rfl⟩
  obtain ⟨x2, e2⟩ : ∃ x, xl.getD (i + 2).toNat 0 = x := ⟨_, rfl⟩
  obtain ⟨x3, e3⟩ : ∃ x, xl.getD (i + 3).toNat 0 = x := ⟨_, rfl⟩
  obtain ⟨x4, e4⟩ : ∃ x, xl.getD (i + 4).toNat 0 = x := ⟨_, rfl⟩
  obtain ⟨fx, cx⟩ := CSx.obj hS
  obtain ⟨fm, cm⟩ := MSx.obj hMS
  refine wp_al1 (q := 242) dL_law_241 rfl (wp_al0 (q := 243) dL_law_242 rfl (wp_il3 (q := 244) dL_law_243 rfl (wp_ic (q := 245) dL_law_244 rfl (by decide) (by decide) (wp_iadd (q := 246) dL_law_245 rfl (by omega) (by omega) (wp_iaload (q := 247) dL_law_246 rfl c1 (by omega) (by omega) ?_)))))
  rw [e1]
  refine wp_v1 (q := 250) dL_law_247 rfl q21 (Nat.le_of_ble_eq_true rfl) rfl (by decide) cx rfl rfl ((cs_cup 0 hS).up (by omega)) (fun r9 h9 e9 => ?_)
  obtain ⟨rfl, hS9, hf9⟩ := e9
  show Wp _ _ _ _ [mI _] _ _ _
  have hMS := MSx.fr hMS (fun j j0 j1 => hf9 j (Or.inr (by omega)))
  have c1 : h9[1]? = some (mA xl) := (hf9 1 (Or.inl (by omega))).trans c1
  obtain ⟨fm, cm⟩ := MSx.obj hMS
  refine wp_al2 (q := 251) dL_law_250 rfl (wp_al0 (q := 252) dL_law_251 rfl (wp_il3 (q := 253) dL_law_252 rfl (wp_ic (q := 254) dL_law_253 rfl (by decide) (by decide) (wp_iadd (q := 255) dL_law_254 rfl (by omega) (by omega) (wp_iaload (q := 256) dL_law_255 rfl c1 (by omega) (by omega) ?_)))))
  rw [e1]
  refine wp_v1 (q := 259) dL_law_256 rfl q126 (Nat.le_of_ble_eq_true rfl) rfl (by decide) cm rfl rfl ((ms_cup 0 hMS).up (by omega)) (fun r9 h9 e9 => ?_)
  obtain ⟨rfl, hMS, hf10⟩ := e9
  show Wp _ _ _ _ [mI _, mI _] _ _ _
  have c1 : h9[1]? = some (mA xl) := (hf10 1 (Or.inl (by omega))).trans c1
  refine wp_icmp_eq (t := 869) (q := 262) dL_law_259 rfl rfl (fun c259 => ?_) (fun c259 => ?_)
  · by_cases hc : x1 = 2 ∨ x1 = 4 ∨ x1 = 8
    · rw [if_pos hc] at hS9 hMS
      exact hnext _ _ _ _ _ _ _ c1 (CSx.fr hS9 (fun j hj => hf10 j (Or.inl (by omega)))) hMS (Inv_cup hI (by omega))
    · rw [if_neg hc] at hS9 hMS
      exact hnext _ _ _ _ _ _ _ c1 (CSx.fr hS9 (fun j hj => hf10 j (Or.inl (by omega)))) hMS (hI)
  · exact absurd rfl c259
theorem lw_put {xl : List Int} (hl : xl.length ≤ 2560) {Q : Option mV → List mC → Prop} {h : List mC} {n sz : Nat} {ch ro pl wi : List Int} {i : Int} (i0 : 0 ≤ i) (i5 : i + 5 ≤ xl.length) (c1 : h[1]? = some (mA xl)) (hS : CS h 2 n sz ch ro pl wi) (hMS : MS h 18 n sz ch ro pl wi) (hI : Inv n sz ch ro pl wi) (hnext : LwN xl i Q) : Wp 40 mL_law 264 [mR 1, mR 2, mR 18, mI i] [] h (0, 0) Q := by
  have hn8 := hI.hn
  have hs8 := hI.hs
  obtain ⟨x1, e1⟩ : ∃ x, xl.getD (i + 1).toNat 0 = x := ⟨_, rfl⟩
  obtain ⟨x2, e2⟩ : ∃ x, xl.getD (i + 2).toNat 0 = x := ⟨_, rfl⟩
  obtain ⟨x3, e3⟩ : ∃ x, xl.getD (i + 3).toNat 0 = x := ⟨_, rfl⟩
  obtain ⟨x4, e4⟩ : ∃ x, xl.getD (i + 4).toNat 0 = x := ⟨_, rfl⟩
  obtain ⟨fx, cx⟩ := CSx.obj hS
  obtain ⟨fm, cm⟩ := MSx.obj hMS
  refine wp_al1 (q := 265) dL_law_264 rfl (wp_al0 (q := 266) dL_law_265 rfl (wp_il3 (q := 267) dL_law_266 rfl (wp_ic (q := 268) dL_law_267 rfl (by decide) (by decide) (wp_iadd (q := 269) dL_law_268 rfl (by omega) (by omega) (wp_iaload (q := 270) dL_law_269 rfl c1 (by omega) (by omega) ?_)))))
  rw [e1]
  refine wp_al0 (q := 271) dL_law_270 rfl (wp_il3 (q := 272) dL_law_271 rfl (wp_ic (q := 273) dL_law_272 rfl (by decide) (by decide) (wp_iadd (q := 274) dL_law_273 rfl (by omega) (by omega) (wp_iaload (q := 275) dL_law_274 rfl c1 (by omega) (by omega) ?_))))
  rw [e2]
  refine wp_v2 (q := 278) dL_law_275 rfl q23 (Nat.le_of_ble_eq_true rfl) rfl (by decide) cx rfl rfl ((cs_put 0 hS (by omega)).up (by omega)) (fun r9 h9 e9 => ?_)
  obtain ⟨rfl, hS9, hf9⟩ := e9
  show Wp _ _ _ _ [mI _] _ _ _
  have hMS := MSx.fr hMS (fun j j0 j1 => hf9 j (Or.inr (by omega)))
  have c1 : h9[1]? = some (mA xl) := (hf9 1 (Or.inl (by omega))).trans c1
  obtain ⟨fm, cm⟩ := MSx.obj hMS
  refine wp_al2 (q := 279) dL_law_278 rfl (wp_al0 (q := 280) dL_law_279 rfl (wp_il3 (q := 281) dL_law_280 rfl (wp_ic (q := 282) dL_law_281 rfl (by decide) (by decide) (wp_iadd (q := 283) dL_law_282 rfl (by omega) (by omega) (wp_iaload (q := 284) dL_law_283 rfl c1 (by omega) (by omega) ?_)))))
  rw [e1]
  refine wp_al0 (q := 285) dL_law_284 rfl (wp_il3 (q := 286) dL_law_285 rfl (wp_ic (q := 287) dL_law_286 rfl (by decide) (by decide) (wp_iadd (q := 288) dL_law_287 rfl (by omega) (by omega) (wp_iaload (q := 289) dL_law_288 rfl c1 (by omega) (by omega) ?_))))
  rw [e2]
  refine wp_v2 (q := 292) dL_law_289 rfl q127 (Nat.le_of_ble_eq_true rfl) rfl (by decide) cm rfl rfl ((ms_put 0 hMS hI.hn).up (by omega)) (fun r9 h9 e9 => ?_)
  obtain ⟨rfl, hMS, hf10⟩ := e9
  show Wp _ _ _ _ [mI _, mI _] _ _ _
  have c1 : h9[1]? = some (mA xl) := (hf10 1 (Or.inl (by omega))).trans c1
  refine wp_icmp_eq (t := 869) (q := 295) dL_law_292 rfl rfl (fun c292 => ?_) (fun c292 => ?_)
  · by_cases hc : (0 ≤ x1 ∧ x1 < sz) ∧ (x2 = -9 ∨ (0 ≤ x2 ∧ x2 < n)) ∧ (plO pl sz (inn x2) = -1 ∨ plO pl sz (inn x2) = x1)
    · rw [if_pos hc] at hS9 hMS
      exact hnext _ _ _ _ _ _ _ c1 (CSx.fr hS9 (fun j hj => hf10 j (Or.inl (by omega)))) hMS (Inv_put hI hc.1 hc.2.1 hc.2.2)
    · rw [if_neg hc] at hS9 hMS
      exact hnext _ _ _ _ _ _ _ c1 (CSx.fr hS9 (fun j hj => hf10 j (Or.inl (by omega)))) hMS (hI)
  · exact absurd rfl c292
theorem lw_at {xl : List Int} (hl : xl.length ≤ 2560) {Q : Option mV → List mC → Prop} {h : List mC} {n sz : Nat} {ch ro pl wi : List Int} {i : Int} (i0 : 0 ≤ i) (i5 : i + 5 ≤ xl.length) (c1 : h[1]? = some (mA xl)) (hS : CS h 2 n sz ch ro pl wi) (hMS : MS h 18 n sz ch ro pl wi) (hI : Inv n sz ch ro pl wi) (hnext : LwN xl i Q) : Wp 40 mL_law 297 [mR 1, mR 2, mR 18, mI i] [] h (0, 0) Q := by
  have hn8 := hI.hn
  have hs8 := hI.hs
  obtain ⟨x1, e1⟩ : ∃ x, xl.getD (i + 1).toNat 0 = x := ⟨_, rfl⟩
  obtain ⟨x2, e2⟩ : ∃ x, xl.getD (i + 2).toNat 0 = x := ⟨_, rfl⟩
  obtain ⟨x3, e3⟩ : ∃ x, xl.getD (i + 3).toNat 0 = x := ⟨_, rfl⟩
  obtain ⟨x4, e4⟩ : ∃ x, xl.getD (i + 4).toNat 0 = x := ⟨_, rfl⟩
  obtain ⟨fx, cx⟩ := CSx.obj hS
  obtain ⟨fm, cm⟩ := MSx.obj hMS
  refine wp_al1 (q := 298) dL_law_297 rfl (wp_al0 (q := 299) dL_law_298 rfl (wp_il3 (q := 300) dL_law_299 rfl (wp_ic (q := 301) dL_law_300 rfl (by decide) (by decide) (wp_iadd (q := 302) dL_law_301 rfl (by omega) (by omega) (wp_iaload (q := 303) dL_law_302 rfl c1 (by omega) (by omega) ?_)))))
  rw [e1]
  refine wp_v1I (q := 306) dL_law_303 rfl q31 (Nat.le_of_ble_eq_true rfl) rfl (by decide) cx rfl rfl ((cs_at 0 hS).up (by omega)) (wp_al2 (q := 307) dL_law_306 rfl (wp_al0 (q := 308) dL_law_307 rfl (wp_il3 (q := 309) dL_law_308 rfl (wp_ic (q := 310) dL_law_309 rfl (by decide) (by decide) (wp_iadd (q := 311) dL_law_310 rfl (by omega) (by omega) (wp_iaload (q := 312) dL_law_311 rfl c1 (by omega) (by omega) ?_))))))
  rw [e1]
  refine wp_v1I (q := 315) dL_law_312 rfl q130 (Nat.le_of_ble_eq_true rfl) rfl (by decide) cm rfl rfl ((ms_at 0 hMS).up (by omega)) (wp_icmp_eq (t := 869) (q := 318) dL_law_315 rfl rfl (fun c315 => ?_) (fun c315 => ?_))
  · exact hnext _ _ _ _ _ _ _ c1 hS hMS hI
  · exact absurd rfl c315
theorem lw_won {xl : List Int} (hl : xl.length ≤ 2560) {Q : Option mV → List mC → Prop} {h : List mC} {n sz : Nat} {ch ro pl wi : List Int} {i : Int} (i0 : 0 ≤ i) (i5 : i + 5 ≤ xl.length) (c1 : h[1]? = some (mA xl)) (hS : CS h 2 n sz ch ro pl wi) (hMS : MS h 18 n sz ch ro pl wi) (hI : Inv n sz ch ro pl wi) (hnext : LwN xl i Q) : Wp 40 mL_law 320 [mR 1, mR 2, mR 18, mI i] [] h (0, 0) Q := by
  have hn8 := hI.hn
  have hs8 := hI.hs
  obtain ⟨x1, e1⟩ : ∃ x, xl.getD (i + 1).toNat 0 = x := ⟨_, rfl⟩
  obtain ⟨x2, e2⟩ : ∃ x, xl.getD (i + 2).toNat 0 = x := ⟨_, rfl⟩
  obtain ⟨x3, e3⟩ : ∃ x, xl.getD (i + 3).toNat 0 = x := ⟨_, rfl⟩
  obtain ⟨x4, e4⟩ : ∃ x, xl.getD (i + 4).toNat 0 = x := ⟨_, rfl⟩
  obtain ⟨fx, cx⟩ := CSx.obj hS
  obtain ⟨fm, cm⟩ := MSx.obj hMS
  refine wp_al1 (q := 321) dL_law_320 rfl (wp_al0 (q := 322) dL_law_321 rfl (wp_il3 (q := 323) dL_law_322 rfl (wp_ic (q := 324) dL_law_323 rfl (by decide) (by decide) (wp_iadd (q := 325) dL_law_324 rfl (by omega) (by omega) (wp_iaload (q := 326) dL_law_325 rfl c1 (by omega) (by omega) ?_)))))
  rw [e1]
  refine wp_al0 (q := 327) dL_law_326 rfl (wp_il3 (q := 328) dL_law_327 rfl (wp_ic (q := 329) dL_law_328 rfl (by decide) (by decide) (wp_iadd (q := 330) dL_law_329 rfl (by omega) (by omega) (wp_iaload (q := 331) dL_law_330 rfl c1 (by omega) (by omega) ?_))))
  rw [e2]
  refine wp_v2 (q := 334) dL_law_331 rfl q32 (Nat.le_of_ble_eq_true rfl) rfl (by decide) cx rfl rfl ((cs_won 0 hS hI.hv hI.hch (by omega)).up (by omega)) (fun r9 h9 e9 => ?_)
  obtain ⟨od, hW, rfl, hS9, hf9⟩ := e9
  show Wp _ _ _ _ [mI _] _ _ _
  have hMS := MSx.fr hMS (fun j j0 j1 => hf9 j (Or.inr (by omega)))
  have c1 : h9[1]? = some (mA xl) := (hf9 1 (Or.inl (by omega))).trans c1
  obtain ⟨fm, cm⟩ := MSx.obj hMS
  refine wp_al2 (q := 335) dL_law_334 rfl (wp_al0 (q := 336) dL_law_335 rfl (wp_il3 (q := 337) dL_law_336 rfl (wp_ic (q := 338) dL_law_337 rfl (by decide) (by decide) (wp_iadd (q := 339) dL_law_338 rfl (by omega) (by omega) (wp_iaload (q := 340) dL_law_339 rfl c1 (by omega) (by omega) ?_)))))
  rw [e1]
  refine wp_al0 (q := 341) dL_law_340 rfl (wp_il3 (q := 342) dL_law_341 rfl (wp_ic (q := 343) dL_law_342 rfl (by decide) (by decide) (wp_iadd (q := 344) dL_law_343 rfl (by omega) (by omega) (wp_iaload (q := 345) dL_law_344 rfl c1 (by omega) (by omega) ?_))))
  rw [e2]
  refine wp_v2 (q := 348) dL_law_345 rfl q131 (Nat.le_of_ble_eq_true rfl) rfl (by decide) cm rfl rfl ((ms_won 0 hMS hI od hW).up (by omega)) (fun r9 h9 e9 => ?_)
  obtain ⟨rfl, hMS, hf10⟩ := e9
  show Wp _ _ _ _ [mI _, mI _] _ _ _
  have c1 : h9[1]? = some (mA xl) := (hf10 1 (Or.inl (by omega))).trans c1
  refine wp_icmp_eq (t := 869) (q := 351) dL_law_348 rfl rfl (fun c348 => ?_) (fun c348 => ?_)
  · by_cases hc : ((0 ≤ x1 ∧ x1 < (sz : Int) - 1) ∧ (0 ≤ x2 ∧ x2 < n)) ∧ mbA pl wi od sz x1 ∧ ccA od sz x1 (plO pl sz x2)
    · rw [if_pos hc] at hS9 hMS
      exact hnext _ _ _ _ _ _ _ c1 (CSx.fr hS9 (fun j hj => hf10 j (Or.inl (by omega)))) hMS (Inv_won hI hc.1.1.1 hc.1.1.2 hc.1.2 hc.2.1.1 hc.2.2)
    · rw [if_neg hc] at hS9 hMS
      exact hnext _ _ _ _ _ _ _ c1 (CSx.fr hS9 (fun j hj => hf10 j (Or.inl (by omega)))) hMS (hI)
  · exact absurd rfl c348
theorem lw_open {xl : List Int} (hl : xl.length ≤ 2560) {Q : Option mV → List mC → Prop} {h : List mC} {n sz : Nat} {ch ro pl wi : List Int} {i : Int} (i0 : 0 ≤ i) (i5 : i + 5 ≤ xl.length) (c1 : h[1]? = some (mA xl)) (hS : CS h 2 n sz ch ro pl wi) (hMS : MS h 18 n sz ch ro pl wi) (hI : Inv n sz ch ro pl wi) (hnext : LwN xl i Q) : Wp 40 mL_law 353 [mR 1, mR 2, mR 18, mI i] [] h (0, 0) Q := by
  have hn8 := hI.hn
  have hs8 := hI.hs
  obtain ⟨x1, e1⟩ : ∃ x, xl.getD (i + 1).toNat 0 = x := ⟨_, rfl⟩
  obtain ⟨x2, e2⟩ : ∃ x, xl.getD (i + 2).toNat 0 = x := ⟨_, rfl⟩
  obtain ⟨x3, e3⟩ : ∃ x, xl.getD (i + 3).toNat 0 = x := ⟨_, rfl⟩
  obtain ⟨x4, e4⟩ : ∃ x, xl.getD (i + 4).toNat 0 = x := ⟨_, rfl⟩
  obtain ⟨fx, cx⟩ := CSx.obj hS
  obtain ⟨fm, cm⟩ := MSx.obj hMS
  refine wp_al1 (q := 354) dL_law_353 rfl (wp_al0 (q := 355) dL_law_354 rfl (wp_il3 (q := 356) dL_law_355 rfl (wp_ic (q := 357) dL_law_356 rfl (by decide) (by decide) (wp_iadd (q := 358) dL_law_357 rfl (by omega) (by omega) (wp_iaload (q := 359) dL_law_358 rfl c1 (by omega) (by omega) ?_)))))
  rw [e1]
  refine wp_v1 (q := 362) dL_law_359 rfl q55 (Nat.le_of_ble_eq_true rfl) rfl (by decide) cx rfl rfl ((cs_open 0 hS).up (by omega)) (fun r9 h9 e9 => ?_)
  obtain ⟨rfl, hS9, hf9⟩ := e9
  show Wp _ _ _ _ [mI _] _ _ _
  have hMS := MSx.fr hMS (fun j j0 j1 => hf9 j (Or.inr (by omega)))
  have c1 : h9[1]? = some (mA xl) := (hf9 1 (Or.inl (by omega))).trans c1
  obtain ⟨fm, cm⟩ := MSx.obj hMS
  refine wp_al2 (q := 363) dL_law_362 rfl (wp_al0 (q := 364) dL_law_363 rfl (wp_il3 (q := 365) dL_law_364 rfl (wp_ic (q := 366) dL_law_365 rfl (by decide) (by decide) (wp_iadd (q := 367) dL_law_366 rfl (by omega) (by omega) (wp_iaload (q := 368) dL_law_367 rfl c1 (by omega) (by omega) ?_)))))
  rw [e1]
  refine wp_v1 (q := 371) dL_law_368 rfl q143 (Nat.le_of_ble_eq_true rfl) rfl (by decide) cm rfl rfl ((ms_open 0 hMS hI.hwt hI.hwv hI.wil).up (by omega)) (fun r9 h9 e9 => ?_)
  obtain ⟨rfl, hMS, hf10⟩ := e9
  show Wp _ _ _ _ [mI _, mI _] _ _ _
  have c1 : h9[1]? = some (mA xl) := (hf10 1 (Or.inl (by omega))).trans c1
  refine wp_icmp_eq (t := 869) (q := 374) dL_law_371 rfl rfl (fun c371 => ?_) (fun c371 => ?_)
  · by_cases hc : (0 ≤ x1 ∧ x1 < (sz : Int) - 1) ∧ rd8 wi x1 ≠ 8
    · rw [if_pos hc] at hS9 hMS
      exact hnext _ _ _ _ _ _ _ c1 (CSx.fr hS9 (fun j hj => hf10 j (Or.inl (by omega)))) hMS (Inv_open hI 3 x1)
    · rw [if_neg hc] at hS9 hMS
      exact hnext _ _ _ _ _ _ _ c1 (CSx.fr hS9 (fun j hj => hf10 j (Or.inl (by omega)))) hMS (hI)
  · exact absurd rfl c371
theorem lw_match {xl : List Int} (hl : xl.length ≤ 2560) {Q : Option mV → List mC → Prop} {h : List mC} {n sz : Nat} {ch ro pl wi : List Int} {i : Int} (i0 : 0 ≤ i) (i5 : i + 5 ≤ xl.length) (c1 : h[1]? = some (mA xl)) (hS : CS h 2 n sz ch ro pl wi) (hMS : MS h 18 n sz ch ro pl wi) (hI : Inv n sz ch ro pl wi) (hnext : LwN xl i Q) : Wp 40 mL_law 376 [mR 1, mR 2, mR 18, mI i] [] h (0, 0) Q := by
  have hn8 := hI.hn
  have hs8 := hI.hs
  obtain ⟨x1, e1⟩ : ∃ x, xl.getD (i + 1).toNat 0 = x := ⟨_, rfl⟩
  obtain ⟨x2, e2⟩ : ∃ x, xl.getD (i + 2).toNat 0 = x := ⟨_, rfl⟩
  obtain ⟨x3, e3⟩ : ∃ x, xl.getD (i + 3).toNat 0 = x := ⟨_, rfl⟩
  obtain ⟨x4, e4⟩ : ∃ x, xl.getD (i + 4).toNat 0 = x := ⟨_, rfl⟩
  obtain ⟨fx, cx⟩ := CSx.obj hS
  obtain ⟨fm, cm⟩ := MSx.obj hMS
  refine wp_al1 (q := 377) dL_law_376 rfl (wp_al0 (q := 378) dL_law_377 rfl (wp_il3 (q := 379) dL_law_378 rfl (wp_ic (q := 380) dL_law_379 rfl (by decide) (by decide) (wp_iadd (q := 381) dL_law_380 rfl (by omega) (by omega) (wp_iaload (q := 382) dL_law_381 rfl c1 (by omega) (by omega) ?_)))))
  rw [e1]
  refine wp_al0 (q := 383) dL_law_382 rfl (wp_il3 (q := 384) dL_law_383 rfl (wp_ic (q := 385) dL_law_384 rfl (by decide) (by decide) (wp_iadd (q := 386) dL_law_385 rfl (by omega) (by omega) (wp_iaload (q := 387) dL_law_386 rfl c1 (by omega) (by omega) ?_))))
  rw [e2]
  refine wp_v2 (q := 390) dL_law_387 rfl q60 (Nat.le_of_ble_eq_true rfl) rfl (by decide) cx rfl rfl ((cs_match 0 hS hI.hv hI.hch (by omega)).up (by omega)) (fun r9 h9 e9 => ?_)
  obtain ⟨od, hW, rfl, hS9, hf9⟩ := e9
  show Wp _ _ _ _ [mI _] _ _ _
  have hMS := MSx.fr hMS (fun j j0 j1 => hf9 j (Or.inr (by omega)))
  have c1 : h9[1]? = some (mA xl) := (hf9 1 (Or.inl (by omega))).trans c1
  obtain ⟨fm, cm⟩ := MSx.obj hMS
  refine wp_al2 (q := 391) dL_law_390 rfl (wp_al0 (q := 392) dL_law_391 rfl (wp_il3 (q := 393) dL_law_392 rfl (wp_ic (q := 394) dL_law_393 rfl (by decide) (by decide) (wp_iadd (q := 395) dL_law_394 rfl (by omega) (by omega) (wp_iaload (q := 396) dL_law_395 rfl c1 (by omega) (by omega) ?_)))))
  rw [e1]
  refine wp_al0 (q := 397) dL_law_396 rfl (wp_il3 (q := 398) dL_law_397 rfl (wp_ic (q := 399) dL_law_398 rfl (by decide) (by decide) (wp_iadd (q := 400) dL_law_399 rfl (by omega) (by omega) (wp_iaload (q := 401) dL_law_400 rfl c1 (by omega) (by omega) ?_))))
  rw [e2]
  refine wp_v2 (q := 404) dL_law_401 rfl q144 (Nat.le_of_ble_eq_true rfl) rfl (by decide) cm rfl rfl ((ms_match 0 hMS hI od hW).up (by omega)) (fun r9 h9 e9 => ?_)
  obtain ⟨rfl, hMS, hf10⟩ := e9
  show Wp _ _ _ _ [mI _, mI _] _ _ _
  have c1 : h9[1]? = some (mA xl) := (hf10 1 (Or.inl (by omega))).trans c1
  refine wp_icmp_eq (t := 869) (q := 407) dL_law_404 rfl rfl (fun c404 => ?_) (fun c404 => ?_)
  · exact hnext _ _ _ _ _ _ _ c1 (CSx.fr hS9 (fun j hj => hf10 j (Or.inl (by omega)))) hMS hI
  · exact absurd rfl c404
theorem lw_reach {xl : List Int} (hl : xl.length ≤ 2560) {Q : Option mV → List mC → Prop} {h : List mC} {n sz : Nat} {ch ro pl wi : List Int} {i : Int} (i0 : 0 ≤ i) (i5 : i + 5 ≤ xl.length) (c1 : h[1]? = some (mA xl)) (hS : CS h 2 n sz ch ro pl wi) (hMS : MS h 18 n sz ch ro pl wi) (hI : Inv n sz ch ro pl wi) (hnext : LwN xl i Q) : Wp 40 mL_law 409 [mR 1, mR 2, mR 18, mI i] [] h (0, 0) Q := by
  have hn8 := hI.hn
  have hs8 := hI.hs
  obtain ⟨x1, e1⟩ : ∃ x, xl.getD (i + 1).toNat 0 = x := ⟨_, rfl⟩
  obtain ⟨x2, e2⟩ : ∃ x, xl.getD (i + 2).toNat 0 = x := ⟨_, rfl⟩
  obtain ⟨x3, e3⟩ : ∃ x, xl.getD (i + 3).toNat 0 = x := ⟨_, rfl⟩
  obtain ⟨x4, e4⟩ : ∃ x, xl.getD (i + 4).toNat 0 = x := ⟨_, rfl⟩
  obtain ⟨fx, cx⟩ := CSx.obj hS
  obtain ⟨fm, cm⟩ := MSx.obj hMS
  have hB : ∀ b : Int, b = bI (x3 ≠ 0) → Wp 40 mL_law 433 [mR 1, mR 2, mR 18, mI i] [mI b, mI x2, mI x1, mR 2] h (0, 0) Q := by
    intro b hb
    subst hb
    refine wp_v3 (q := 436) dL_law_433 rfl q64 (Nat.le_of_ble_eq_true rfl) rfl (by decide) cx rfl rfl ((cs_reach 0 hS hI.hv hI.hch (by omega) (up := x3 ≠ 0)).up (by omega)) (fun r9 h9 e9 => ?_)
    obtain ⟨od, hW, rfl, hS9, hf9⟩ := e9
    show Wp _ _ _ _ [mL _] _ _ _
    have hMS := MSx.fr hMS (fun j j0 j1 => hf9 j (Or.inr (by omega)))
    have c1 : h9[1]? = some (mA xl) := (hf9 1 (Or.inl (by omega))).trans c1
    obtain ⟨fm, cm⟩ := MSx.obj hMS
    have hC : ∀ b : Int, b = bI (x3 ≠ 0) → Wp 40 mL_law 460 [mR 1, mR 2, mR 18, mI i] [mI b, mI x2, mI x1, mR 18, mL (spReach n sz pl od x1 x2 (x3 ≠ 0))] h9 (0, 0) Q := by
      intro b hb
      subst hb
      refine wp_v3 (q := 463) dL_law_460 rfl q145 (Nat.le_of_ble_eq_true rfl) rfl (by decide) cm rfl rfl ((ms_reach 0 hMS hI od hW (up := x3 ≠ 0)).up (by omega)) (fun r9 h9 e9 => ?_)
      obtain ⟨rfl, hMS, hf10⟩ := e9
      show Wp _ _ _ _ [mL _, mL _] _ _ _
      have c1 : h9[1]? = some (mA xl) := (hf10 1 (Or.inl (by omega))).trans c1
      refine wp_lcmp_eq (q1 := 464) (t := 869) (q := 467) dL_law_463 rfl dL_law_464 rfl rfl (fun c464 => ?_) (fun c464 => ?_)
      · exact hnext _ _ _ _ _ _ _ c1 (CSx.fr hS9 (fun j hj => hf10 j (Or.inl (by omega)))) hMS hI
      · exact absurd rfl c464
    refine wp_al2 (q := 437) dL_law_436 rfl (wp_al0 (q := 438) dL_law_437 rfl (wp_il3 (q := 439) dL_law_438 rfl (wp_ic (q := 440) dL_law_439 rfl (by decide) (by decide) (wp_iadd (q := 441) dL_law_440 rfl (by omega) (by omega) (wp_iaload (q := 442) dL_law_441 rfl c1 (by omega) (by omega) ?_)))))
    rw [e1]
    refine wp_al0 (q := 443) dL_law_442 rfl (wp_il3 (q := 444) dL_law_443 rfl (wp_ic (q := 445) dL_law_444 rfl (by decide) (by decide) (wp_iadd (q := 446) dL_law_445 rfl (by omega) (by omega) (wp_iaload (q := 447) dL_law_446 rfl c1 (by omega) (by omega) ?_))))
    rw [e2]
    refine wp_al0 (q := 448) dL_law_447 rfl (wp_il3 (q := 449) dL_law_448 rfl (wp_ic (q := 450) dL_law_449 rfl (by decide) (by decide) (wp_iadd (q := 451) dL_law_450 rfl (by omega) (by omega) (wp_iaload (q := 452) dL_law_451 rfl c1 (by omega) (by omega) ?_))))
    rw [e3]
    refine wp_if_eq (t := 459) (q := 455) dL_law_452 rfl rfl (fun c452 => ?_) (fun c452 => ?_)
    · refine wp_ic (q := 460) dL_law_459 rfl (by decide) (by decide) ?_
      first
        | exact hC _ (bI_f (fun z => z c452)).symm
        | exact hC _ (bI_t c452).symm
    · refine wp_ic (q := 456) dL_law_455 rfl (by decide) (by decide) (wp_goto (q := 460) dL_law_456 rfl ?_)
      first
        | exact hC _ (bI_f (fun z => z c452)).symm
        | exact hC _ (bI_t c452).symm
  refine wp_al1 (q := 410) dL_law_409 rfl (wp_al0 (q := 411) dL_law_410 rfl (wp_il3 (q := 412) dL_law_411 rfl (wp_ic (q := 413) dL_law_412 rfl (by decide) (by decide) (wp_iadd (q := 414) dL_law_413 rfl (by omega) (by omega) (wp_iaload (q := 415) dL_law_414 rfl c1 (by omega) (by omega) ?_)))))
  rw [e1]
  refine wp_al0 (q := 416) dL_law_415 rfl (wp_il3 (q := 417) dL_law_416 rfl (wp_ic (q := 418) dL_law_417 rfl (by decide) (by decide) (wp_iadd (q := 419) dL_law_418 rfl (by omega) (by omega) (wp_iaload (q := 420) dL_law_419 rfl c1 (by omega) (by omega) ?_))))
  rw [e2]
  refine wp_al0 (q := 421) dL_law_420 rfl (wp_il3 (q := 422) dL_law_421 rfl (wp_ic (q := 423) dL_law_422 rfl (by decide) (by decide) (wp_iadd (q := 424) dL_law_423 rfl (by omega) (by omega) (wp_iaload (q := 425) dL_law_424 rfl c1 (by omega) (by omega) ?_))))
  rw [e3]
  refine wp_if_eq (t := 432) (q := 428) dL_law_425 rfl rfl (fun c425 => ?_) (fun c425 => ?_)
  · refine wp_ic (q := 433) dL_law_432 rfl (by decide) (by decide) ?_
    first
      | exact hB _ (bI_f (fun z => z c425)).symm
      | exact hB _ (bI_t c425).symm
  · refine wp_ic (q := 429) dL_law_428 rfl (by decide) (by decide) (wp_goto (q := 433) dL_law_429 rfl ?_)
    first
      | exact hB _ (bI_f (fun z => z c425)).symm
      | exact hB _ (bI_t c425).symm
theorem lw_meet {xl : List Int} (hl : xl.length ≤ 2560) {Q : Option mV → List mC → Prop} {h : List mC} {n sz : Nat} {ch ro pl wi : List Int} {i : Int} (i0 : 0 ≤ i) (i5 : i + 5 ≤ xl.length) (c1 : h[1]? = some (mA xl)) (hS : CS h 2 n sz ch ro pl wi) (hMS : MS h 18 n sz ch ro pl wi) (hI : Inv n sz ch ro pl wi) (hnext : LwN xl i Q) : Wp 40 mL_law 469 [mR 1, mR 2, mR 18, mI i] [] h (0, 0) Q := by
  have hn8 := hI.hn
  have hs8 := hI.hs
  obtain ⟨x1, e1⟩ : ∃ x, xl.getD (i + 1).toNat 0 = x := ⟨_, rfl⟩
  obtain ⟨x2, e2⟩ : ∃ x, xl.getD (i + 2).toNat 0 = x := ⟨_, rfl⟩
  obtain ⟨x3, e3⟩ : ∃ x, xl.getD (i + 3).toNat 0 = x := ⟨_, rfl⟩
  obtain ⟨x4, e4⟩ : ∃ x, xl.getD (i + 4).toNat 0 = x := ⟨_, rfl⟩
  obtain ⟨fx, cx⟩ := CSx.obj hS
  obtain ⟨fm, cm⟩ := MSx.obj hMS
  have hB : ∀ b : Int, b = bI (x4 ≠ 0) → Wp 40 mL_law 498 [mR 1, mR 2, mR 18, mI i] [mI b, mI x3, mI x2, mI x1, mR 2] h (0, 0) Q := by
    intro b hb
    subst hb
    refine wp_v4 (q := 501) dL_law_498 rfl q70 (Nat.le_of_ble_eq_true rfl) rfl (by decide) cx rfl rfl ((cs_meet 0 hS hI.hv hI.hch (by omega) (up := x4 ≠ 0)).up (by omega)) (fun r9 h9 e9 => ?_)
    obtain ⟨od, hW, rfl, hS9, hf9⟩ := e9
    show Wp _ _ _ _ [mL _] _ _ _
    have hMS := MSx.fr hMS (fun j j0 j1 => hf9 j (Or.inr (by omega)))
    have c1 : h9[1]? = some (mA xl) := (hf9 1 (Or.inl (by omega))).trans c1
    obtain ⟨fm, cm⟩ := MSx.obj hMS
    have hC : ∀ b : Int, b = bI (x4 ≠ 0) → Wp 40 mL_law 530 [mR 1, mR 2, mR 18, mI i] [mI b, mI x3, mI x2, mI x1, mR 18, mL (spMeet n sz pl od x1 x2 x3 (x4 ≠ 0))] h9 (0, 0) Q := by
      intro b hb
      subst hb
      refine wp_v4 (q := 533) dL_law_530 rfl q152 (Nat.le_of_ble_eq_true rfl) rfl (by decide) cm rfl rfl ((ms_meet 0 hMS hI od hW (up := x4 ≠ 0)).up (by omega)) (fun r9 h9 e9 => ?_)
      obtain ⟨rfl, hMS, hf10⟩ := e9
      show Wp _ _ _ _ [mL _, mL _] _ _ _
      have c1 : h9[1]? = some (mA xl) := (hf10 1 (Or.inl (by omega))).trans c1
      refine wp_lcmp_eq (q1 := 534) (t := 869) (q := 537) dL_law_533 rfl dL_law_534 rfl rfl (fun c534 => ?_) (fun c534 => ?_)
      · exact hnext _ _ _ _ _ _ _ c1 (CSx.fr hS9 (fun j hj => hf10 j (Or.inl (by omega)))) hMS hI
      · exact absurd rfl c534
    refine wp_al2 (q := 502) dL_law_501 rfl (wp_al0 (q := 503) dL_law_502 rfl (wp_il3 (q := 504) dL_law_503 rfl (wp_ic (q := 505) dL_law_504 rfl (by decide) (by decide) (wp_iadd (q := 506) dL_law_505 rfl (by omega) (by omega) (wp_iaload (q := 507) dL_law_506 rfl c1 (by omega) (by omega) ?_)))))
    rw [e1]
    refine wp_al0 (q := 508) dL_law_507 rfl (wp_il3 (q := 509) dL_law_508 rfl (wp_ic (q := 510) dL_law_509 rfl (by decide) (by decide) (wp_iadd (q := 511) dL_law_510 rfl (by omega) (by omega) (wp_iaload (q := 512) dL_law_511 rfl c1 (by omega) (by omega) ?_))))
    rw [e2]
    refine wp_al0 (q := 513) dL_law_512 rfl (wp_il3 (q := 514) dL_law_513 rfl (wp_ic (q := 515) dL_law_514 rfl (by decide) (by decide) (wp_iadd (q := 516) dL_law_515 rfl (by omega) (by omega) (wp_iaload (q := 517) dL_law_516 rfl c1 (by omega) (by omega) ?_))))
    rw [e3]
    refine wp_al0 (q := 518) dL_law_517 rfl (wp_il3 (q := 519) dL_law_518 rfl (wp_ic (q := 520) dL_law_519 rfl (by decide) (by decide) (wp_iadd (q := 521) dL_law_520 rfl (by omega) (by omega) (wp_iaload (q := 522) dL_law_521 rfl c1 (by omega) (by omega) ?_))))
    rw [e4]
    refine wp_if_eq (t := 529) (q := 525) dL_law_522 rfl rfl (fun c522 => ?_) (fun c522 => ?_)
    · refine wp_ic (q := 530) dL_law_529 rfl (by decide) (by decide) ?_
      first
        | exact hC _ (bI_f (fun z => z c522)).symm
        | exact hC _ (bI_t c522).symm
    · refine wp_ic (q := 526) dL_law_525 rfl (by decide) (by decide) (wp_goto (q := 530) dL_law_526 rfl ?_)
      first
        | exact hC _ (bI_f (fun z => z c522)).symm
        | exact hC _ (bI_t c522).symm
  refine wp_al1 (q := 470) dL_law_469 rfl (wp_al0 (q := 471) dL_law_470 rfl (wp_il3 (q := 472) dL_law_471 rfl (wp_ic (q := 473) dL_law_472 rfl (by decide) (by decide) (wp_iadd (q := 474) dL_law_473 rfl (by omega) (by omega) (wp_iaload (q := 475) dL_law_474 rfl c1 (by omega) (by omega) ?_)))))
  rw [e1]
  refine wp_al0 (q := 476) dL_law_475 rfl (wp_il3 (q := 477) dL_law_476 rfl (wp_ic (q := 478) dL_law_477 rfl (by decide) (by decide) (wp_iadd (q := 479) dL_law_478 rfl (by omega) (by omega) (wp_iaload (q := 480) dL_law_479 rfl c1 (by omega) (by omega) ?_))))
  rw [e2]
  refine wp_al0 (q := 481) dL_law_480 rfl (wp_il3 (q := 482) dL_law_481 rfl (wp_ic (q := 483) dL_law_482 rfl (by decide) (by decide) (wp_iadd (q := 484) dL_law_483 rfl (by omega) (by omega) (wp_iaload (q := 485) dL_law_484 rfl c1 (by omega) (by omega) ?_))))
  rw [e3]
  refine wp_al0 (q := 486) dL_law_485 rfl (wp_il3 (q := 487) dL_law_486 rfl (wp_ic (q := 488) dL_law_487 rfl (by decide) (by decide) (wp_iadd (q := 489) dL_law_488 rfl (by omega) (by omega) (wp_iaload (q := 490) dL_law_489 rfl c1 (by omega) (by omega) ?_))))
  rw [e4]
  refine wp_if_eq (t := 497) (q := 493) dL_law_490 rfl rfl (fun c490 => ?_) (fun c490 => ?_)
  · refine wp_ic (q := 498) dL_law_497 rfl (by decide) (by decide) ?_
    first
      | exact hB _ (bI_f (fun z => z c490)).symm
      | exact hB _ (bI_t c490).symm
  · refine wp_ic (q := 494) dL_law_493 rfl (by decide) (by decide) (wp_goto (q := 498) dL_law_494 rfl ?_)
    first
      | exact hB _ (bI_f (fun z => z c490)).symm
      | exact hB _ (bI_t c490).symm
theorem lw_can {xl : List Int} (hl : xl.length ≤ 2560) {Q : Option mV → List mC → Prop} {h : List mC} {n sz : Nat} {ch ro pl wi : List Int} {i : Int} (i0 : 0 ≤ i) (i5 : i + 5 ≤ xl.length) (c1 : h[1]? = some (mA xl)) (hS : CS h 2 n sz ch ro pl wi) (hMS : MS h 18 n sz ch ro pl wi) (hI : Inv n sz ch ro pl wi) (hnext : LwN xl i Q) : Wp 40 mL_law 539 [mR 1, mR 2, mR 18, mI i] [] h (0, 0) Q := by
  have hn8 := hI.hn
  have hs8 := hI.hs
  obtain ⟨x1, e1⟩ : ∃ x, xl.getD (i + 1).toNat 0 = x := ⟨_, rfl⟩
  obtain ⟨x2, e2⟩ : ∃ x, xl.getD (i + 2).toNat 0 = x := ⟨_, rfl⟩
  obtain ⟨x3, e3⟩ : ∃ x, xl.getD (i + 3).toNat 0 = x := ⟨_, rfl⟩
  obtain ⟨x4, e4⟩ : ∃ x, xl.getD (i + 4).toNat 0 = x := ⟨_, rfl⟩
  obtain ⟨fx, cx⟩ := CSx.obj hS
  obtain ⟨fm, cm⟩ := MSx.obj hMS
  refine wp_al1 (q := 540) dL_law_539 rfl (wp_al0 (q := 541) dL_law_540 rfl (wp_il3 (q := 542) dL_law_541 rfl (wp_ic (q := 543) dL_law_542 rfl (by decide) (by decide) (wp_iadd (q := 544) dL_law_543 rfl (by omega) (by omega) (wp_iaload (q := 545) dL_law_544 rfl c1 (by omega) (by omega) ?_)))))
  rw [e1]
  refine wp_v1 (q := 548) dL_law_545 rfl q72 (Nat.le_of_ble_eq_true rfl) rfl (by decide) cx rfl rfl ((cs_can 0 hS hI.hv hI.hch (by omega)).up (by omega)) (fun r9 h9 e9 => ?_)
  obtain ⟨od, hW, rfl, hS9, hf9⟩ := e9
  show Wp _ _ _ _ [mI _] _ _ _
  have hMS := MSx.fr hMS (fun j j0 j1 => hf9 j (Or.inr (by omega)))
  have c1 : h9[1]? = some (mA xl) := (hf9 1 (Or.inl (by omega))).trans c1
  obtain ⟨fm, cm⟩ := MSx.obj hMS
  refine wp_al2 (q := 549) dL_law_548 rfl (wp_al0 (q := 550) dL_law_549 rfl (wp_il3 (q := 551) dL_law_550 rfl (wp_ic (q := 552) dL_law_551 rfl (by decide) (by decide) (wp_iadd (q := 553) dL_law_552 rfl (by omega) (by omega) (wp_iaload (q := 554) dL_law_553 rfl c1 (by omega) (by omega) ?_)))))
  rw [e1]
  refine wp_v1 (q := 557) dL_law_554 rfl q154 (Nat.le_of_ble_eq_true rfl) rfl (by decide) cm rfl rfl ((ms_can 0 hMS hI od hW).up (by omega)) (fun r9 h9 e9 => ?_)
  obtain ⟨rfl, hMS, hf10⟩ := e9
  show Wp _ _ _ _ [mI _, mI _] _ _ _
  have c1 : h9[1]? = some (mA xl) := (hf10 1 (Or.inl (by omega))).trans c1
  refine wp_icmp_eq (t := 869) (q := 560) dL_law_557 rfl rfl (fun c557 => ?_) (fun c557 => ?_)
  · exact hnext _ _ _ _ _ _ _ c1 (CSx.fr hS9 (fun j hj => hf10 j (Or.inl (by omega)))) hMS hI
  · exact absurd rfl c557
theorem lw_draws {xl : List Int} (hl : xl.length ≤ 2560) {Q : Option mV → List mC → Prop} {h : List mC} {n sz : Nat} {ch ro pl wi : List Int} {i : Int} (i0 : 0 ≤ i) (i5 : i + 5 ≤ xl.length) (c1 : h[1]? = some (mA xl)) (hS : CS h 2 n sz ch ro pl wi) (hMS : MS h 18 n sz ch ro pl wi) (hI : Inv n sz ch ro pl wi) (hnext : LwN xl i Q) : Wp 40 mL_law 562 [mR 1, mR 2, mR 18, mI i] [] h (0, 0) Q := by
  have hn8 := hI.hn
  have hs8 := hI.hs
  obtain ⟨x1, e1⟩ : ∃ x, xl.getD (i + 1).toNat 0 = x := ⟨_, rfl⟩
  obtain ⟨x2, e2⟩ : ∃ x, xl.getD (i + 2).toNat 0 = x := ⟨_, rfl⟩
  obtain ⟨x3, e3⟩ : ∃ x, xl.getD (i + 3).toNat 0 = x := ⟨_, rfl⟩
  obtain ⟨x4, e4⟩ : ∃ x, xl.getD (i + 4).toNat 0 = x := ⟨_, rfl⟩
  obtain ⟨fx, cx⟩ := CSx.obj hS
  obtain ⟨fm, cm⟩ := MSx.obj hMS
  refine wp_al1 (q := 563) dL_law_562 rfl (wp_v0 (q := 566) dL_law_563 rfl q74 (Nat.le_of_ble_eq_true rfl) rfl (by decide) cx rfl rfl ((cs_draws 0 hS (by omega)).up (by omega)) (fun r9 h9 e9 => ?_))
  obtain ⟨rfl, hS9, hf9⟩ := e9
  show Wp _ _ _ _ [mI _] _ _ _
  have hMS := MSx.fr hMS (fun j j0 j1 => hf9 j (Or.inr (by omega)))
  have c1 : h9[1]? = some (mA xl) := (hf9 1 (Or.inl (by omega))).trans c1
  obtain ⟨fm, cm⟩ := MSx.obj hMS
  refine wp_al2 (q := 567) dL_law_566 rfl (wp_v0 (q := 570) dL_law_567 rfl q155 (Nat.le_of_ble_eq_true rfl) rfl (by decide) cm rfl rfl ((ms_draws 0 hMS hI).up (by omega)) (fun r9 h9 e9 => ?_))
  obtain ⟨rfl, hMS, hf10⟩ := e9
  show Wp _ _ _ _ [mI _, mI _] _ _ _
  have c1 : h9[1]? = some (mA xl) := (hf10 1 (Or.inl (by omega))).trans c1
  refine wp_icmp_eq (t := 869) (q := 573) dL_law_570 rfl rfl (fun c570 => ?_) (fun c570 => ?_)
  · exact hnext _ _ _ _ _ _ _ c1 (CSx.fr hS9 (fun j hj => hf10 j (Or.inl (by omega)))).weak hMS hI
  · exact absurd rfl c570
theorem lw_draw {xl : List Int} (hl : xl.length ≤ 2560) {Q : Option mV → List mC → Prop} {h : List mC} {n sz : Nat} {ch ro pl wi : List Int} {i : Int} (i0 : 0 ≤ i) (i5 : i + 5 ≤ xl.length) (c1 : h[1]? = some (mA xl)) (hS : CS h 2 n sz ch ro pl wi) (hMS : MS h 18 n sz ch ro pl wi) (hI : Inv n sz ch ro pl wi) (hnext : LwN xl i Q) : Wp 40 mL_law 575 [mR 1, mR 2, mR 18, mI i] [] h (0, 0) Q := by
  have hn8 := hI.hn
  have hs8 := hI.hs
  obtain ⟨x1, e1⟩ : ∃ x, xl.getD (i + 1).toNat 0 = x := ⟨_, rfl⟩
  obtain ⟨x2, e2⟩ : ∃ x, xl.getD (i + 2).toNat 0 = x := ⟨_, rfl⟩
  obtain ⟨x3, e3⟩ : ∃ x, xl.getD (i + 3).toNat 0 = x := ⟨_, rfl⟩
  obtain ⟨x4, e4⟩ : ∃ x, xl.getD (i + 4).toNat 0 = x := ⟨_, rfl⟩
  obtain ⟨fx, cx⟩ := CSx.obj hS
  obtain ⟨fm, cm⟩ := MSx.obj hMS
  refine wp_al1 (q := 576) dL_law_575 rfl (wp_al0 (q := 577) dL_law_576 rfl (wp_il3 (q := 578) dL_law_577 rfl (wp_ic (q := 579) dL_law_578 rfl (by decide) (by decide) (wp_iadd (q := 580) dL_law_579 rfl (by omega) (by omega) (wp_iaload (q := 581) dL_law_580 rfl c1 (by omega) (by omega) ?_)))))
  rw [e1]
  refine wp_al0 (q := 582) dL_law_581 rfl (wp_il3 (q := 583) dL_law_582 rfl (wp_ic (q := 584) dL_law_583 rfl (by decide) (by decide) (wp_iadd (q := 585) dL_law_584 rfl (by omega) (by omega) (wp_iaload (q := 586) dL_law_585 rfl c1 (by omega) (by omega) ?_))))
  rw [e2]
  refine wp_v2 (q := 589) dL_law_586 rfl q85 (Nat.le_of_ble_eq_true rfl) rfl (by decide) cx rfl rfl ((cs_draw 0 hS (by omega)).up (by omega)) (fun r9 h9 e9 => ?_)
  obtain ⟨rfl, hS9, hf9⟩ := e9
  show Wp _ _ _ _ [mI _] _ _ _
  have hMS := MSx.fr hMS (fun j j0 j1 => hf9 j (Or.inr (by omega)))
  have c1 : h9[1]? = some (mA xl) := (hf9 1 (Or.inl (by omega))).trans c1
  obtain ⟨fm, cm⟩ := MSx.obj hMS
  refine wp_al2 (q := 590) dL_law_589 rfl (wp_al0 (q := 591) dL_law_590 rfl (wp_il3 (q := 592) dL_law_591 rfl (wp_ic (q := 593) dL_law_592 rfl (by decide) (by decide) (wp_iadd (q := 594) dL_law_593 rfl (by omega) (by omega) (wp_iaload (q := 595) dL_law_594 rfl c1 (by omega) (by omega) ?_)))))
  rw [e1]
  refine wp_al0 (q := 596) dL_law_595 rfl (wp_il3 (q := 597) dL_law_596 rfl (wp_ic (q := 598) dL_law_597 rfl (by decide) (by decide) (wp_iadd (q := 599) dL_law_598 rfl (by omega) (by omega) (wp_iaload (q := 600) dL_law_599 rfl c1 (by omega) (by omega) ?_))))
  rw [e2]
  refine wp_v2 (q := 603) dL_law_600 rfl q161 (Nat.le_of_ble_eq_true rfl) rfl (by decide) cm rfl rfl ((ms_draw 0 hMS hI).up (by omega)) (fun r9 h9 e9 => ?_)
  obtain ⟨rfl, hMS, hf10⟩ := e9
  show Wp _ _ _ _ [mI _, mI _] _ _ _
  have c1 : h9[1]? = some (mA xl) := (hf10 1 (Or.inl (by omega))).trans c1
  refine wp_icmp_eq (t := 869) (q := 606) dL_law_603 rfl rfl (fun c603 => ?_) (fun c603 => ?_)
  · exact hnext _ _ _ _ _ _ _ c1 (CSx.fr hS9 (fun j hj => hf10 j (Or.inl (by omega)))).weak hMS hI
  · exact absurd rfl c603
theorem lw_lay {xl : List Int} (hl : xl.length ≤ 2560) {Q : Option mV → List mC → Prop} {h : List mC} {n sz : Nat} {ch ro pl wi : List Int} {i : Int} (i0 : 0 ≤ i) (i5 : i + 5 ≤ xl.length) (c1 : h[1]? = some (mA xl)) (hS : CS h 2 n sz ch ro pl wi) (hMS : MS h 18 n sz ch ro pl wi) (hI : Inv n sz ch ro pl wi) (hnext : LwN xl i Q) : Wp 40 mL_law 608 [mR 1, mR 2, mR 18, mI i] [] h (0, 0) Q := by
  have hn8 := hI.hn
  have hs8 := hI.hs
  obtain ⟨x1, e1⟩ : ∃ x, xl.getD (i + 1).toNat 0 = x := ⟨_, rfl⟩
  obtain ⟨x2, e2⟩ : ∃ x, xl.getD (i + 2).toNat 0 = x := ⟨_, rfl⟩
  obtain ⟨x3, e3⟩ : ∃ x, xl.getD (i + 3).toNat 0 = x := ⟨_, rfl⟩
  obtain ⟨x4, e4⟩ : ∃ x, xl.getD (i + 4).toNat 0 = x := ⟨_, rfl⟩
  obtain ⟨fx, cx⟩ := CSx.obj hS
  obtain ⟨fm, cm⟩ := MSx.obj hMS
  refine wp_al1 (q := 609) dL_law_608 rfl (wp_al0 (q := 610) dL_law_609 rfl (wp_il3 (q := 611) dL_law_610 rfl (wp_ic (q := 612) dL_law_611 rfl (by decide) (by decide) (wp_iadd (q := 613) dL_law_612 rfl (by omega) (by omega) (wp_iaload (q := 614) dL_law_613 rfl c1 (by omega) (by omega) ?_)))))
  rw [e1]
  refine wp_v1 (q := 617) dL_law_614 rfl q89 (Nat.le_of_ble_eq_true rfl) rfl (by decide) cx rfl rfl ((cs_lay 0 hS (by omega) hI.hpt).up (by omega)) (fun r9 h9 e9 => ?_)
  obtain ⟨rfl, hS9, hf9⟩ := e9
  show Wp _ _ _ _ [mI _] _ _ _
  have hMS := MSx.fr hMS (fun j j0 j1 => hf9 j (Or.inr (by omega)))
  have c1 : h9[1]? = some (mA xl) := (hf9 1 (Or.inl (by omega))).trans c1
  obtain ⟨fm, cm⟩ := MSx.obj hMS
  refine wp_al2 (q := 618) dL_law_617 rfl (wp_al0 (q := 619) dL_law_618 rfl (wp_il3 (q := 620) dL_law_619 rfl (wp_ic (q := 621) dL_law_620 rfl (by decide) (by decide) (wp_iadd (q := 622) dL_law_621 rfl (by omega) (by omega) (wp_iaload (q := 623) dL_law_622 rfl c1 (by omega) (by omega) ?_)))))
  rw [e1]
  refine wp_v1 (q := 626) dL_law_623 rfl q163 (Nat.le_of_ble_eq_true rfl) rfl (by decide) cm rfl rfl ((ms_lay 0 hMS hI).up (by omega)) (fun r9 h9 e9 => ?_)
  obtain ⟨rfl, hMS, hf10⟩ := e9
  show Wp _ _ _ _ [mI _, mI _] _ _ _
  have c1 : h9[1]? = some (mA xl) := (hf10 1 (Or.inl (by omega))).trans c1
  refine wp_icmp_eq (t := 869) (q := 629) dL_law_626 rfl rfl (fun c626 => ?_) (fun c626 => ?_)
  · by_cases hc : 0 ≤ x1 ∧ x1 < ((rowsO n sz ro).length : Nat)
    · rw [if_pos hc] at hS9 hMS
      exact hnext _ _ _ _ _ _ _ c1 (CSx.fr hS9 (fun j hj => hf10 j (Or.inl (by omega)))) hMS (Inv_lay hI hc.1 hc.2)
    · rw [if_neg hc] at hS9 hMS
      exact hnext _ _ _ _ _ _ _ c1 (CSx.fr hS9 (fun j hj => hf10 j (Or.inl (by omega)))) hMS (hI)
  · exact absurd rfl c626
theorem lw_like {xl : List Int} (hl : xl.length ≤ 2560) {Q : Option mV → List mC → Prop} {h : List mC} {n sz : Nat} {ch ro pl wi : List Int} {i : Int} (i0 : 0 ≤ i) (i5 : i + 5 ≤ xl.length) (c1 : h[1]? = some (mA xl)) (hS : CS h 2 n sz ch ro pl wi) (hMS : MS h 18 n sz ch ro pl wi) (hI : Inv n sz ch ro pl wi) (hnext : LwN xl i Q) : Wp 40 mL_law 631 [mR 1, mR 2, mR 18, mI i] [] h (0, 0) Q := by
  have hn8 := hI.hn
  have hs8 := hI.hs
  obtain ⟨x1, e1⟩ : ∃ x, xl.getD (i + 1).toNat 0 = x := ⟨_, rfl⟩
  obtain ⟨x2, e2⟩ : ∃ x, xl.getD (i + 2).toNat 0 = x := ⟨_, rfl⟩
  obtain ⟨x3, e3⟩ : ∃ x, xl.getD (i + 3).toNat 0 = x := ⟨_, rfl⟩
  obtain ⟨x4, e4⟩ : ∃ x, xl.getD (i + 4).toNat 0 = x := ⟨_, rfl⟩
  obtain ⟨fx, cx⟩ := CSx.obj hS
  obtain ⟨fm, cm⟩ := MSx.obj hMS
  refine wp_al1 (q := 632) dL_law_631 rfl (wp_v0 (q := 635) dL_law_632 rfl q94 (Nat.le_of_ble_eq_true rfl) rfl (by decide) cx rfl rfl ((cs_like 0 hS (by omega)).up (by omega)) (fun r9 h9 e9 => ?_))
  obtain ⟨rfl, hS9, hf9⟩ := e9
  show Wp _ _ _ _ [mI _] _ _ _
  have hMS := MSx.fr hMS (fun j j0 j1 => hf9 j (Or.inr (by omega)))
  have c1 : h9[1]? = some (mA xl) := (hf9 1 (Or.inl (by omega))).trans c1
  obtain ⟨fm, cm⟩ := MSx.obj hMS
  refine wp_al2 (q := 636) dL_law_635 rfl (wp_v0 (q := 639) dL_law_636 rfl q164 (Nat.le_of_ble_eq_true rfl) rfl (by decide) cm rfl rfl ((ms_like 0 hMS hI).up (by omega)) (fun r9 h9 e9 => ?_))
  obtain ⟨rfl, hMS, hf10⟩ := e9
  show Wp _ _ _ _ [mI _, mI _] _ _ _
  have c1 : h9[1]? = some (mA xl) := (hf10 1 (Or.inl (by omega))).trans c1
  refine wp_icmp_eq (t := 869) (q := 642) dL_law_639 rfl rfl (fun c639 => ?_) (fun c639 => ?_)
  · exact hnext _ _ _ _ _ _ _ c1 (CSx.fr hS9 (fun j hj => hf10 j (Or.inl (by omega)))) hMS hI
  · exact absurd rfl c639
theorem lw_best {xl : List Int} (hl : xl.length ≤ 2560) {Q : Option mV → List mC → Prop} {h : List mC} {n sz : Nat} {ch ro pl wi : List Int} {i : Int} (i0 : 0 ≤ i) (i5 : i + 5 ≤ xl.length) (c1 : h[1]? = some (mA xl)) (hS : CS h 2 n sz ch ro pl wi) (hMS : MS h 18 n sz ch ro pl wi) (hI : Inv n sz ch ro pl wi) (hnext : LwN xl i Q) : Wp 40 mL_law 644 [mR 1, mR 2, mR 18, mI i] [] h (0, 0) Q := by
  have hn8 := hI.hn
  have hs8 := hI.hs
  obtain ⟨x1, e1⟩ : ∃ x, xl.getD (i + 1).toNat 0 = x := ⟨_, rfl⟩
  obtain ⟨x2, e2⟩ : ∃ x, xl.getD (i + 2).toNat 0 = x := ⟨_, rfl⟩
  obtain ⟨x3, e3⟩ : ∃ x, xl.getD (i + 3).toNat 0 = x := ⟨_, rfl⟩
  obtain ⟨x4, e4⟩ : ∃ x, xl.getD (i + 4).toNat 0 = x := ⟨_, rfl⟩
  obtain ⟨fx, cx⟩ := CSx.obj hS
  obtain ⟨fm, cm⟩ := MSx.obj hMS
  have hB : ∀ b : Int, b = bI (x2 ≠ 0) → Wp 40 mL_law 663 [mR 1, mR 2, mR 18, mI i] [mI b, mI x1, mR 2] h (0, 0) Q := by
    intro b hb
    subst hb
    refine wp_v2 (q := 666) dL_law_663 rfl q100 (Nat.le_of_ble_eq_true rfl) rfl (by decide) cx rfl rfl ((cs_best 0 hS hI.hch (by omega) (least := x2 ≠ 0)).up (by omega)) (fun r9 h9 e9 => ?_)
    obtain ⟨rfl, hS9, hf9⟩ := e9
    show Wp _ _ _ _ [mI _] _ _ _
    have hMS := MSx.fr hMS (fun j j0 j1 => hf9 j (Or.inr (by omega)))
    have c1 : h9[1]? = some (mA xl) := (hf9 1 (Or.inl (by omega))).trans c1
    obtain ⟨fm, cm⟩ := MSx.obj hMS
    have hC : ∀ b : Int, b = bI (x2 ≠ 0) → Wp 40 mL_law 685 [mR 1, mR 2, mR 18, mI i] [mI b, mI x1, mR 18, mI (spBest n sz ro ch x1 (x2 ≠ 0))] h9 (0, 0) Q := by
      intro b hb
      subst hb
      refine wp_v2 (q := 688) dL_law_685 rfl q165 (Nat.le_of_ble_eq_true rfl) rfl (by decide) cm rfl rfl ((ms_best 0 hMS hI (least := x2 ≠ 0)).up (by omega)) (fun r9 h9 e9 => ?_)
      obtain ⟨rfl, hMS, hf10⟩ := e9
      show Wp _ _ _ _ [mI _, mI _] _ _ _
      have c1 : h9[1]? = some (mA xl) := (hf10 1 (Or.inl (by omega))).trans c1
      refine wp_icmp_eq (t := 869) (q := 691) dL_law_688 rfl rfl (fun c688 => ?_) (fun c688 => ?_)
      · exact hnext _ _ _ _ _ _ _ c1 (CSx.fr hS9 (fun j hj => hf10 j (Or.inl (by omega)))) hMS hI
      · exact absurd rfl c688
    refine wp_al2 (q := 667) dL_law_666 rfl (wp_al0 (q := 668) dL_law_667 rfl (wp_il3 (q := 669) dL_law_668 rfl (wp_ic (q := 670) dL_law_669 rfl (by decide) (by decide) (wp_iadd (q := 671) dL_law_670 rfl (by omega) (by omega) (wp_iaload (q := 672) dL_law_671 rfl c1 (by omega) (by omega) ?_)))))
    rw [e1]
    refine wp_al0 (q := 673) dL_law_672 rfl (wp_il3 (q := 674) dL_law_673 rfl (wp_ic (q := 675) dL_law_674 rfl (by decide) (by decide) (wp_iadd (q := 676) dL_law_675 rfl (by omega) (by omega) (wp_iaload (q := 677) dL_law_676 rfl c1 (by omega) (by omega) ?_))))
    rw [e2]
    refine wp_if_eq (t := 684) (q := 680) dL_law_677 rfl rfl (fun c677 => ?_) (fun c677 => ?_)
    · refine wp_ic (q := 685) dL_law_684 rfl (by decide) (by decide) ?_
      first
        | exact hC _ (bI_f (fun z => z c677)).symm
        | exact hC _ (bI_t c677).symm
    · refine wp_ic (q := 681) dL_law_680 rfl (by decide) (by decide) (wp_goto (q := 685) dL_law_681 rfl ?_)
      first
        | exact hC _ (bI_f (fun z => z c677)).symm
        | exact hC _ (bI_t c677).symm
  refine wp_al1 (q := 645) dL_law_644 rfl (wp_al0 (q := 646) dL_law_645 rfl (wp_il3 (q := 647) dL_law_646 rfl (wp_ic (q := 648) dL_law_647 rfl (by decide) (by decide) (wp_iadd (q := 649) dL_law_648 rfl (by omega) (by omega) (wp_iaload (q := 650) dL_law_649 rfl c1 (by omega) (by omega) ?_)))))
  rw [e1]
  refine wp_al0 (q := 651) dL_law_650 rfl (wp_il3 (q := 652) dL_law_651 rfl (wp_ic (q := 653) dL_law_652 rfl (by decide) (by decide) (wp_iadd (q := 654) dL_law_653 rfl (by omega) (by omega) (wp_iaload (q := 655) dL_law_654 rfl c1 (by omega) (by omega) ?_))))
  rw [e2]
  refine wp_if_eq (t := 662) (q := 658) dL_law_655 rfl rfl (fun c655 => ?_) (fun c655 => ?_)
  · refine wp_ic (q := 663) dL_law_662 rfl (by decide) (by decide) ?_
    first
      | exact hB _ (bI_f (fun z => z c655)).symm
      | exact hB _ (bI_t c655).symm
  · refine wp_ic (q := 659) dL_law_658 rfl (by decide) (by decide) (wp_goto (q := 663) dL_law_659 rfl ?_)
    first
      | exact hB _ (bI_f (fun z => z c655)).symm
      | exact hB _ (bI_t c655).symm
theorem lw_wins {xl : List Int} (hl : xl.length ≤ 2560) {Q : Option mV → List mC → Prop} {h : List mC} {n sz : Nat} {ch ro pl wi : List Int} {i : Int} (i0 : 0 ≤ i) (i5 : i + 5 ≤ xl.length) (c1 : h[1]? = some (mA xl)) (hS : CS h 2 n sz ch ro pl wi) (hMS : MS h 18 n sz ch ro pl wi) (hI : Inv n sz ch ro pl wi) (hnext : LwN xl i Q) : Wp 40 mL_law 693 [mR 1, mR 2, mR 18, mI i] [] h (0, 0) Q := by
  have hn8 := hI.hn
  have hs8 := hI.hs
  obtain ⟨x1, e1⟩ : ∃ x, xl.getD (i + 1).toNat 0 = x := ⟨_, rfl⟩
  obtain ⟨x2, e2⟩ : ∃ x, xl.getD (i + 2).toNat 0 = x := ⟨_, rfl⟩
  obtain ⟨x3, e3⟩ : ∃ x, xl.getD (i + 3).toNat 0 = x := ⟨_, rfl⟩
  obtain ⟨x4, e4⟩ : ∃ x, xl.getD (i + 4).toNat 0 = x := ⟨_, rfl⟩
  obtain ⟨fx, cx⟩ := CSx.obj hS
  obtain ⟨fm, cm⟩ := MSx.obj hMS
  have hB : ∀ b : Int, b = bI (x3 ≠ 0) → Wp 40 mL_law 717 [mR 1, mR 2, mR 18, mI i] [mI b, mI x2, mI x1, mR 2] h (0, 0) Q := by
    intro b hb
    subst hb
    refine wp_v3 (q := 720) dL_law_717 rfl q109 (Nat.le_of_ble_eq_true rfl) rfl (by decide) cx rfl rfl ((cs_wins 0 hS hI.hch (by omega) (up := x3 ≠ 0)).up (by omega)) (fun r9 h9 e9 => ?_)
    obtain ⟨rfl, hS9, hf9⟩ := e9
    show Wp _ _ _ _ [mL _] _ _ _
    have hMS := MSx.fr hMS (fun j j0 j1 => hf9 j (Or.inr (by omega)))
    have c1 : h9[1]? = some (mA xl) := (hf9 1 (Or.inl (by omega))).trans c1
    obtain ⟨fm, cm⟩ := MSx.obj hMS
    have hC : ∀ b : Int, b = bI (x3 ≠ 0) → Wp 40 mL_law 744 [mR 1, mR 2, mR 18, mI i] [mI b, mI x2, mI x1, mR 18, mL (spWins n sz ro ch x1 x2 (x3 ≠ 0))] h9 (0, 0) Q := by
      intro b hb
      subst hb
      refine wp_v3 (q := 747) dL_law_744 rfl q167 (Nat.le_of_ble_eq_true rfl) rfl (by decide) cm rfl rfl ((ms_wins 0 hMS hI (up := x3 ≠ 0)).up (by omega)) (fun r9 h9 e9 => ?_)
      obtain ⟨rfl, hMS, hf10⟩ := e9
      show Wp _ _ _ _ [mL _, mL _] _ _ _
      have c1 : h9[1]? = some (mA xl) := (hf10 1 (Or.inl (by omega))).trans c1
      refine wp_lcmp_eq (q1 := 748) (t := 869) (q := 751) dL_law_747 rfl dL_law_748 rfl rfl (fun c748 => ?_) (fun c748 => ?_)
      · exact hnext _ _ _ _ _ _ _ c1 (CSx.fr hS9 (fun j hj => hf10 j (Or.inl (by omega)))) hMS hI
      · exact absurd rfl c748
    refine wp_al2 (q := 721) dL_law_720 rfl (wp_al0 (q := 722) dL_law_721 rfl (wp_il3 (q := 723) dL_law_722 rfl (wp_ic (q := 724) dL_law_723 rfl (by decide) (by decide) (wp_iadd (q := 725) dL_law_724 rfl (by omega) (by omega) (wp_iaload (q := 726) dL_law_725 rfl c1 (by omega) (by omega) ?_)))))
    rw [e1]
    refine wp_al0 (q := 727) dL_law_726 rfl (wp_il3 (q := 728) dL_law_727 rfl (wp_ic (q := 729) dL_law_728 rfl (by decide) (by decide) (wp_iadd (q := 730) dL_law_729 rfl (by omega) (by omega) (wp_iaload (q := 731) dL_law_730 rfl c1 (by omega) (by omega) ?_))))
    rw [e2]
    refine wp_al0 (q := 732) dL_law_731 rfl (wp_il3 (q := 733) dL_law_732 rfl (wp_ic (q := 734) dL_law_733 rfl (by decide) (by decide) (wp_iadd (q := 735) dL_law_734 rfl (by omega) (by omega) (wp_iaload (q := 736) dL_law_735 rfl c1 (by omega) (by omega) ?_))))
    rw [e3]
    refine wp_if_eq (t := 743) (q := 739) dL_law_736 rfl rfl (fun c736 => ?_) (fun c736 => ?_)
    · refine wp_ic (q := 744) dL_law_743 rfl (by decide) (by decide) ?_
      first
        | exact hC _ (bI_f (fun z => z c736)).symm
        | exact hC _ (bI_t c736).symm
    · refine wp_ic (q := 740) dL_law_739 rfl (by decide) (by decide) (wp_goto (q := 744) dL_law_740 rfl ?_)
      first
        | exact hC _ (bI_f (fun z => z c736)).symm
        | exact hC _ (bI_t c736).symm
  refine wp_al1 (q := 694) dL_law_693 rfl (wp_al0 (q := 695) dL_law_694 rfl (wp_il3 (q := 696) dL_law_695 rfl (wp_ic (q := 697) dL_law_696 rfl (by decide) (by decide) (wp_iadd (q := 698) dL_law_697 rfl (by omega) (by omega) (wp_iaload (q := 699) dL_law_698 rfl c1 (by omega) (by omega) ?_)))))
  rw [e1]
  refine wp_al0 (q := 700) dL_law_699 rfl (wp_il3 (q := 701) dL_law_700 rfl (wp_ic (q := 702) dL_law_701 rfl (by decide) (by decide) (wp_iadd (q := 703) dL_law_702 rfl (by omega) (by omega) (wp_iaload (q := 704) dL_law_703 rfl c1 (by omega) (by omega) ?_))))
  rw [e2]
  refine wp_al0 (q := 705) dL_law_704 rfl (wp_il3 (q := 706) dL_law_705 rfl (wp_ic (q := 707) dL_law_706 rfl (by decide) (by decide) (wp_iadd (q := 708) dL_law_707 rfl (by omega) (by omega) (wp_iaload (q := 709) dL_law_708 rfl c1 (by omega) (by omega) ?_))))
  rw [e3]
  refine wp_if_eq (t := 716) (q := 712) dL_law_709 rfl rfl (fun c709 => ?_) (fun c709 => ?_)
  · refine wp_ic (q := 717) dL_law_716 rfl (by decide) (by decide) ?_
    first
      | exact hB _ (bI_f (fun z => z c709)).symm
      | exact hB _ (bI_t c709).symm
  · refine wp_ic (q := 713) dL_law_712 rfl (by decide) (by decide) (wp_goto (q := 717) dL_law_713 rfl ?_)
    first
      | exact hB _ (bI_f (fun z => z c709)).symm
      | exact hB _ (bI_t c709).symm
theorem lw_mean {xl : List Int} (hl : xl.length ≤ 2560) {Q : Option mV → List mC → Prop} {h : List mC} {n sz : Nat} {ch ro pl wi : List Int} {i : Int} (i0 : 0 ≤ i) (i5 : i + 5 ≤ xl.length) (c1 : h[1]? = some (mA xl)) (hS : CS h 2 n sz ch ro pl wi) (hMS : MS h 18 n sz ch ro pl wi) (hI : Inv n sz ch ro pl wi) (hnext : LwN xl i Q) : Wp 40 mL_law 753 [mR 1, mR 2, mR 18, mI i] [] h (0, 0) Q := by
  have hn8 := hI.hn
  have hs8 := hI.hs
  obtain ⟨x1, e1⟩ : ∃ x, xl.getD (i + 1).toNat 0 = x := ⟨_, rfl⟩
  obtain ⟨x2, e2⟩ : ∃ x, xl.getD (i + 2).toNat 0 = x := ⟨_, rfl⟩
  obtain ⟨x3, e3⟩ : ∃ x, xl.getD (i + 3).toNat 0 = x := ⟨_, rfl⟩
  obtain ⟨x4, e4⟩ : ∃ x, xl.getD (i + 4).toNat 0 = x := ⟨_, rfl⟩
  obtain ⟨fx, cx⟩ := CSx.obj hS
  obtain ⟨fm, cm⟩ := MSx.obj hMS
  have hB : ∀ b : Int, b = bI (x2 ≠ 0) → Wp 40 mL_law 772 [mR 1, mR 2, mR 18, mI i] [mI b, mI x1, mR 2] h (0, 0) Q := by
    intro b hb
    subst hb
    refine wp_v2 (q := 775) dL_law_772 rfl q110 (Nat.le_of_ble_eq_true rfl) rfl (by decide) cx rfl rfl ((cs_mean 0 hS hI.hch (by omega) (up := x2 ≠ 0)).up (by omega)) (fun r9 h9 e9 => ?_)
    obtain ⟨rfl, hS9, hf9⟩ := e9
    show Wp _ _ _ _ [mL _] _ _ _
    have hMS := MSx.fr hMS (fun j j0 j1 => hf9 j (Or.inr (by omega)))
    have c1 : h9[1]? = some (mA xl) := (hf9 1 (Or.inl (by omega))).trans c1
    obtain ⟨fm, cm⟩ := MSx.obj hMS
    have hC : ∀ b : Int, b = bI (x2 ≠ 0) → Wp 40 mL_law 794 [mR 1, mR 2, mR 18, mI i] [mI b, mI x1, mR 18, mL (spMean n sz ro ch x1 (x2 ≠ 0))] h9 (0, 0) Q := by
      intro b hb
      subst hb
      refine wp_v2 (q := 797) dL_law_794 rfl q168 (Nat.le_of_ble_eq_true rfl) rfl (by decide) cm rfl rfl ((ms_mean 0 hMS hI (up := x2 ≠ 0)).up (by omega)) (fun r9 h9 e9 => ?_)
      obtain ⟨rfl, hMS, hf10⟩ := e9
      show Wp _ _ _ _ [mL _, mL _] _ _ _
      have c1 : h9[1]? = some (mA xl) := (hf10 1 (Or.inl (by omega))).trans c1
      refine wp_lcmp_eq (q1 := 798) (t := 869) (q := 801) dL_law_797 rfl dL_law_798 rfl rfl (fun c798 => ?_) (fun c798 => ?_)
      · exact hnext _ _ _ _ _ _ _ c1 (CSx.fr hS9 (fun j hj => hf10 j (Or.inl (by omega)))) hMS hI
      · exact absurd rfl c798
    refine wp_al2 (q := 776) dL_law_775 rfl (wp_al0 (q := 777) dL_law_776 rfl (wp_il3 (q := 778) dL_law_777 rfl (wp_ic (q := 779) dL_law_778 rfl (by decide) (by decide) (wp_iadd (q := 780) dL_law_779 rfl (by omega) (by omega) (wp_iaload (q := 781) dL_law_780 rfl c1 (by omega) (by omega) ?_)))))
    rw [e1]
    refine wp_al0 (q := 782) dL_law_781 rfl (wp_il3 (q := 783) dL_law_782 rfl (wp_ic (q := 784) dL_law_783 rfl (by decide) (by decide) (wp_iadd (q := 785) dL_law_784 rfl (by omega) (by omega) (wp_iaload (q := 786) dL_law_785 rfl c1 (by omega) (by omega) ?_))))
    rw [e2]
    refine wp_if_eq (t := 793) (q := 789) dL_law_786 rfl rfl (fun c786 => ?_) (fun c786 => ?_)
    · refine wp_ic (q := 794) dL_law_793 rfl (by decide) (by decide) ?_
      first
        | exact hC _ (bI_f (fun z => z c786)).symm
        | exact hC _ (bI_t c786).symm
    · refine wp_ic (q := 790) dL_law_789 rfl (by decide) (by decide) (wp_goto (q := 794) dL_law_790 rfl ?_)
      first
        | exact hC _ (bI_f (fun z => z c786)).symm
        | exact hC _ (bI_t c786).symm
  refine wp_al1 (q := 754) dL_law_753 rfl (wp_al0 (q := 755) dL_law_754 rfl (wp_il3 (q := 756) dL_law_755 rfl (wp_ic (q := 757) dL_law_756 rfl (by decide) (by decide) (wp_iadd (q := 758) dL_law_757 rfl (by omega) (by omega) (wp_iaload (q := 759) dL_law_758 rfl c1 (by omega) (by omega) ?_)))))
  rw [e1]
  refine wp_al0 (q := 760) dL_law_759 rfl (wp_il3 (q := 761) dL_law_760 rfl (wp_ic (q := 762) dL_law_761 rfl (by decide) (by decide) (wp_iadd (q := 763) dL_law_762 rfl (by omega) (by omega) (wp_iaload (q := 764) dL_law_763 rfl c1 (by omega) (by omega) ?_))))
  rw [e2]
  refine wp_if_eq (t := 771) (q := 767) dL_law_764 rfl rfl (fun c764 => ?_) (fun c764 => ?_)
  · refine wp_ic (q := 772) dL_law_771 rfl (by decide) (by decide) ?_
    first
      | exact hB _ (bI_f (fun z => z c764)).symm
      | exact hB _ (bI_t c764).symm
  · refine wp_ic (q := 768) dL_law_767 rfl (by decide) (by decide) (wp_goto (q := 772) dL_law_768 rfl ?_)
    first
      | exact hB _ (bI_f (fun z => z c764)).symm
      | exact hB _ (bI_t c764).symm
theorem lw_first {xl : List Int} (hl : xl.length ≤ 2560) {Q : Option mV → List mC → Prop} {h : List mC} {n sz : Nat} {ch ro pl wi : List Int} {i : Int} (i0 : 0 ≤ i) (i5 : i + 5 ≤ xl.length) (c1 : h[1]? = some (mA xl)) (hS : CS h 2 n sz ch ro pl wi) (hMS : MS h 18 n sz ch ro pl wi) (hI : Inv n sz ch ro pl wi) (hnext : LwN xl i Q) : Wp 40 mL_law 803 [mR 1, mR 2, mR 18, mI i] [] h (0, 0) Q := by
  have hn8 := hI.hn
  have hs8 := hI.hs
  obtain ⟨x1, e1⟩ : ∃ x, xl.getD (i + 1).toNat 0 = x := ⟨_, rfl⟩
  obtain ⟨x2, e2⟩ : ∃ x, xl.getD (i + 2).toNat 0 = x := ⟨_, rfl⟩
  obtain ⟨x3, e3⟩ : ∃ x, xl.getD (i + 3).toNat 0 = x := ⟨_, rfl⟩
  obtain ⟨x4, e4⟩ : ∃ x, xl.getD (i + 4).toNat 0 = x := ⟨_, rfl⟩
  obtain ⟨fx, cx⟩ := CSx.obj hS
  obtain ⟨fm, cm⟩ := MSx.obj hMS
  refine wp_al1 (q := 804) dL_law_803 rfl (wp_al0 (q := 805) dL_law_804 rfl (wp_il3 (q := 806) dL_law_805 rfl (wp_ic (q := 807) dL_law_806 rfl (by decide) (by decide) (wp_iadd (q := 808) dL_law_807 rfl (by omega) (by omega) (wp_iaload (q := 809) dL_law_808 rfl c1 (by omega) (by omega) ?_)))))
  rw [e1]
  refine wp_al0 (q := 810) dL_law_809 rfl (wp_il3 (q := 811) dL_law_810 rfl (wp_ic (q := 812) dL_law_811 rfl (by decide) (by decide) (wp_iadd (q := 813) dL_law_812 rfl (by omega) (by omega) (wp_iaload (q := 814) dL_law_813 rfl c1 (by omega) (by omega) ?_))))
  rw [e2]
  refine wp_al0 (q := 815) dL_law_814 rfl (wp_il3 (q := 816) dL_law_815 rfl (wp_ic (q := 817) dL_law_816 rfl (by decide) (by decide) (wp_iadd (q := 818) dL_law_817 rfl (by omega) (by omega) (wp_iaload (q := 819) dL_law_818 rfl c1 (by omega) (by omega) ?_))))
  rw [e3]
  refine wp_v3 (q := 822) dL_law_819 rfl q111 (Nat.le_of_ble_eq_true rfl) rfl (by decide) cx rfl rfl ((cs_first 0 hS (by omega)).up (by omega)) (fun r9 h9 e9 => ?_)
  obtain ⟨rfl, hS9, hf9⟩ := e9
  show Wp _ _ _ _ [mI _] _ _ _
  have hMS := MSx.fr hMS (fun j j0 j1 => hf9 j (Or.inr (by omega)))
  have c1 : h9[1]? = some (mA xl) := (hf9 1 (Or.inl (by omega))).trans c1
  obtain ⟨fm, cm⟩ := MSx.obj hMS
  refine wp_al2 (q := 823) dL_law_822 rfl (wp_al0 (q := 824) dL_law_823 rfl (wp_il3 (q := 825) dL_law_824 rfl (wp_ic (q := 826) dL_law_825 rfl (by decide) (by decide) (wp_iadd (q := 827) dL_law_826 rfl (by omega) (by omega) (wp_iaload (q := 828) dL_law_827 rfl c1 (by omega) (by omega) ?_)))))
  rw [e1]
  refine wp_al0 (q := 829) dL_law_828 rfl (wp_il3 (q := 830) dL_law_829 rfl (wp_ic (q := 831) dL_law_830 rfl (by decide) (by decide) (wp_iadd (q := 832) dL_law_831 rfl (by omega) (by omega) (wp_iaload (q := 833) dL_law_832 rfl c1 (by omega) (by omega) ?_))))
  rw [e2]
  refine wp_al0 (q := 834) dL_law_833 rfl (wp_il3 (q := 835) dL_law_834 rfl (wp_ic (q := 836) dL_law_835 rfl (by decide) (by decide) (wp_iadd (q := 837) dL_law_836 rfl (by omega) (by omega) (wp_iaload (q := 838) dL_law_837 rfl c1 (by omega) (by omega) ?_))))
  rw [e3]
  refine wp_v3 (q := 841) dL_law_838 rfl q169 (Nat.le_of_ble_eq_true rfl) rfl (by decide) cm rfl rfl ((ms_first 0 hMS hI).up (by omega)) (fun r9 h9 e9 => ?_)
  obtain ⟨rfl, hMS, hf10⟩ := e9
  show Wp _ _ _ _ [mI _, mI _] _ _ _
  have c1 : h9[1]? = some (mA xl) := (hf10 1 (Or.inl (by omega))).trans c1
  refine wp_icmp_eq (t := 869) (q := 844) dL_law_841 rfl rfl (fun c841 => ?_) (fun c841 => ?_)
  · exact hnext _ _ _ _ _ _ _ c1 (CSx.fr hS9 (fun j hj => hf10 j (Or.inl (by omega)))) hMS hI
  · exact absurd rfl c841
theorem lw_count {xl : List Int} (hl : xl.length ≤ 2560) {Q : Option mV → List mC → Prop} {h : List mC} {n sz : Nat} {ch ro pl wi : List Int} {i : Int} (i0 : 0 ≤ i) (i5 : i + 5 ≤ xl.length) (c1 : h[1]? = some (mA xl)) (hS : CS h 2 n sz ch ro pl wi) (hMS : MS h 18 n sz ch ro pl wi) (hI : Inv n sz ch ro pl wi) (hnext : LwN xl i Q) : Wp 40 mL_law 846 [mR 1, mR 2, mR 18, mI i] [] h (0, 0) Q := by
  have hn8 := hI.hn
  have hs8 := hI.hs
  obtain ⟨x1, e1⟩ : ∃ x, xl.getD (i + 1).toNat 0 = x := ⟨_, rfl⟩
  obtain ⟨x2, e2⟩ : ∃ x, xl.getD (i + 2).toNat 0 = x := ⟨_, rfl⟩
  obtain ⟨x3, e3⟩ : ∃ x, xl.getD (i + 3).toNat 0 = x := ⟨_, rfl⟩
  obtain ⟨x4, e4⟩ : ∃ x, xl.getD (i + 4).toNat 0 = x := ⟨_, rfl⟩
  obtain ⟨fx, cx⟩ := CSx.obj hS
  obtain ⟨fm, cm⟩ := MSx.obj hMS
  refine wp_al1 (q := 847) dL_law_846 rfl (wp_al0 (q := 848) dL_law_847 rfl (wp_il3 (q := 849) dL_law_848 rfl (wp_ic (q := 850) dL_law_849 rfl (by decide) (by decide) (wp_iadd (q := 851) dL_law_850 rfl (by omega) (by omega) (wp_iaload (q := 852) dL_law_851 rfl c1 (by omega) (by omega) ?_)))))
  rw [e1]
  refine wp_v1I (q := 855) dL_law_852 rfl q113 (Nat.le_of_ble_eq_true rfl) rfl (by decide) cx rfl rfl ((cs_count 0 hS (by omega)).up (by omega)) (wp_al2 (q := 856) dL_law_855 rfl (wp_al0 (q := 857) dL_law_856 rfl (wp_il3 (q := 858) dL_law_857 rfl (wp_ic (q := 859) dL_law_858 rfl (by decide) (by decide) (wp_iadd (q := 860) dL_law_859 rfl (by omega) (by omega) (wp_iaload (q := 861) dL_law_860 rfl c1 (by omega) (by omega) ?_))))))
  rw [e1]
  refine wp_v1I (q := 864) dL_law_861 rfl q170 (Nat.le_of_ble_eq_true rfl) rfl (by decide) cm rfl rfl ((ms_count 0 hMS hI.hn hI.hwt hI.hwv hI.hpt hI.hro).up (by omega)) (wp_icmp_eq (t := 869) (q := 867) dL_law_864 rfl rfl (fun c864 => ?_) (fun c864 => ?_))
  · exact hnext _ _ _ _ _ _ _ c1 hS hMS hI
  · exact absurd rfl c864
