/-! how many draws there are at most (rows laid by wip/whole) -/
def cntV (F : Nat → Nat) : Nat → Nat
  | 0 => 0
  | v + 1 => cntV F v + F v
def lfN (x : Nat) : Nat := 1681924096 / 16 ^ x % 16
def okN (u c x v : Nat) : Bool := !(u.testBit v) && (bif Nat.beq x 0 then Nat.beq v 0 else Nat.blt (c / 16 ^ lfN x % 16) v)
/-- how many rows begin so: places left, place, empty ones left, who is placed, the row as a number -/
def cntR (n : Nat) : Nat → Nat → Nat → Nat → Nat → Nat
  | 0, _, _, _, _ => 1
  | g + 1, x, e, u, c => cntV (fun v => bif okN u c x v then cntR n g (x + 1) e (u ||| 2 ^ v) (c + v * 16 ^ x) else 0) n + (bif Nat.beq e 0 then 0 else cntR n g (x + 1) (e - 1) u (c + 8 * 16 ^ x))
theorem lfN_eq : ∀ x : Nat, x < 8 → ((lfN x : Nat) : Int) = lfA x := by decide
set_option maxRecDepth 100000 in
theorem cnt_82 : cntR 2 8 0 6 0 0 ≤ 315 := by decide +kernel
set_option maxRecDepth 100000 in
theorem cnt_83 : cntR 3 8 0 5 0 0 ≤ 315 := by decide +kernel
set_option maxRecDepth 100000 in
theorem cnt_84 : cntR 4 8 0 4 0 0 ≤ 315 := by decide +kernel
set_option maxRecDepth 100000 in
theorem cnt_85 : cntR 5 8 0 3 0 0 ≤ 315 := by decide +kernel
set_option maxRecDepth 100000 in
theorem cnt_86 : cntR 6 8 0 2 0 0 ≤ 315 := by decide +kernel
set_option maxRecDepth 100000 in
theorem cnt_87 : cntR 7 8 0 1 0 0 ≤ 315 := by decide +kernel
set_option maxRecDepth 100000 in
theorem cnt_88 : cntR 8 8 0 0 0 0 ≤ 315 := by decide +kernel
set_option maxRecDepth 100000 in
theorem cnt_42 : cntR 2 4 0 2 0 0 ≤ 315 := by decide +kernel
set_option maxRecDepth 100000 in
theorem cnt_43 : cntR 3 4 0 1 0 0 ≤ 315 := by decide +kernel
set_option maxRecDepth 100000 in
theorem cnt_44 : cntR 4 4 0 0 0 0 ≤ 315 := by decide +kernel
set_option maxRecDepth 100000 in
theorem cnt_22 : cntR 2 2 0 0 0 0 ≤ 315 := by decide +kernel
theorem cnt_all {n sz : Nat} (h2 : 2 ≤ n) (hle : n ≤ sz) (hs : sz = 2 ∨ sz = 4 ∨ sz = 8) : cntR n sz 0 (sz - n) 0 0 ≤ 315 := by
  rcases (show (n = 2 ∧ sz = 8) ∨ (n = 3 ∧ sz = 8) ∨ (n = 4 ∧ sz = 8) ∨ (n = 5 ∧ sz = 8) ∨ (n = 6 ∧ sz = 8) ∨ (n = 7 ∧ sz = 8) ∨ (n = 8 ∧ sz = 8) ∨ (n = 2 ∧ sz = 4) ∨ (n = 3 ∧ sz = 4) ∨ (n = 4 ∧ sz = 4) ∨ (n = 2 ∧ sz = 2) by omega) with ⟨rfl, rfl⟩ | ⟨rfl, rfl⟩ | ⟨rfl, rfl⟩ | ⟨rfl, rfl⟩ | ⟨rfl, rfl⟩ | ⟨rfl, rfl⟩ | ⟨rfl, rfl⟩ | ⟨rfl, rfl⟩ | ⟨rfl, rfl⟩ | ⟨rfl, rfl⟩ | ⟨rfl, rfl⟩
  · exact cnt_82
  · exact cnt_83
  · exact cnt_84
  · exact cnt_85
  · exact cnt_86
  · exact cnt_87
  · exact cnt_88
  · exact cnt_42
  · exact cnt_43
  · exact cnt_44
  · exact cnt_22
theorem cntV_le {F a : Nat → Nat} : ∀ n : Nat, (∀ p, p < n → a p ≤ F p) → ((List.range n).map a).sum ≤ cntV F n
  | 0, _ => Nat.le_refl _
  | n + 1, h => by
    rw [List.range_succ, List.map_append, List.sum_append]
    have i1 := cntV_le n (fun p hp => h p (by omega))
    have i2 := h n (by omega)
    show _ + (a n + 0) ≤ cntV F n + F n
    omega
theorem dg1 {c v x : Nat} (hc : c < 16 ^ x) (hv : v < 16) : (c + v * 16 ^ x) / 16 ^ x % 16 = v := by
  rw [Nat.add_mul_div_right _ _ (Nat.lt_of_le_of_lt (Nat.zero_le _) hc), Nat.div_eq_of_lt hc, Nat.zero_add, Nat.mod_eq_of_lt hv]
theorem dg2 {c v x i : Nat} (hi : i < x) : (c + v * 16 ^ x) / 16 ^ i % 16 = c / 16 ^ i % 16 := by
  have e : v * 16 ^ x = v * 16 ^ (x - i - 1) * 16 * 16 ^ i := by
    rw [Nat.mul_assoc, Nat.mul_assoc]
    congr 1
    rw [← Nat.mul_assoc, ← Nat.pow_succ, ← Nat.pow_add]
    congr 1
    omega
  rw [e, Nat.add_mul_div_right _ _ (Nat.pow_pos (by decide)), Nat.add_mul_mod_self_right]
theorem dg3 {c v x : Nat} (hc : c < 16 ^ x) (hv : v < 16) : c + v * 16 ^ x < 16 ^ (x + 1) := by
  have := Nat.mul_le_mul_right (16 ^ x) (show v + 1 ≤ 16 by omega)
  rw [Nat.add_mul, Nat.one_mul] at this
  rw [Nat.pow_succ, Nat.mul_comm (16 ^ x) 16]
  omega
theorem fillR_cnt {n sz : Nat} {ro : List Int} (hn : n ≤ 8) (h8 : sz ≤ 8) : ∀ (g u e c : Nat) (pr : List Int), pr.length + g = sz → PreG n sz u pr → (e : Int) = sz - n - (pr.length - pcN u) → c < 16 ^ pr.length → (∀ i : Nat, i < pr.length → gI pr i = ((c / 16 ^ i % 16 : Nat) : Int)) → (fillR n sz ro g u pr).length ≤ cntR n g pr.length e u c
  | 0, u, e, c, pr, _, _, _, _, _ => Nat.le_refl 1
  | g + 1, u, e, c, pr, hl, hG, he, hc, hd => by
    have nx : ∀ v : Nat, v < 16 → (pr ++ [(v : Int)]).length = pr.length + 1 ∧ c + v * 16 ^ pr.length < 16 ^ (pr ++ [(v : Int)]).length ∧ ∀ i : Nat, i < (pr ++ [(v : Int)]).length → gI (pr ++ [(v : Int)]) i = (((c + v * 16 ^ pr.length) / 16 ^ i % 16 : Nat) : Int) := by
      intro v hv
      have l1 : (pr ++ [(v : Int)]).length = pr.length + 1 := by rw [List.length_append, List.length_singleton]
      refine ⟨l1, by rw [l1]; exact dg3 hc hv, fun i hi => ?_⟩
      rw [l1] at hi
      by_cases q : i = pr.length
      · subst q
        rw [gI_last, dg1 hc hv]
      · rw [gI_init (by omega), dg2 (by omega)]
        exact hd i (by omega)
    unfold fillR cntR
    rw [List.length_append, List.length_flatMap]
    refine Nat.add_le_add (cntV_le n (fun p hp => ?_)) ?_
    · split
      · rename_i hok
        have hk : okN u c pr.length p = true := by
          unfold okN
          rw [hok.1]
          rcases hok.2.1 with ⟨a, b⟩ | ⟨a, b⟩
          · rw [show pr.length = 0 by omega, show p = 0 by omega]
            rfl
          · have x0 : Nat.beq pr.length 0 = false := by
              cases q : pr.length with
              | zero => omega
              | succ k => rfl
            have lf := lfN_eq pr.length (by omega)
            have li := lfA_in (x := (pr.length : Int)) (by omega) (by omega)
            have z := hd (lfN pr.length) (by omega)
            rw [lf] at z
            rw [z] at b
            rw [x0]
            show Nat.blt _ _ = true
            exact Nat.ble_eq_true_of_le (by omega)
        rw [hk]
        show _ ≤ cntR n g (pr.length + 1) e (u ||| 2 ^ p) (c + p * 16 ^ pr.length)
        obtain ⟨n1, n2, n3⟩ := nx p (by omega)
        have hG2 := hG.put hn hp hok.1
        have := fillR_cnt (ro := ro) hn h8 g (u ||| 2 ^ p) e (c + p * 16 ^ pr.length) (pr ++ [(p : Int)]) (by rw [n1]; omega) hG2 (by rw [n1, pc_or u hG.1 p (by omega) hok.1]; omega) n2 n3
        rw [n1] at this
        exact this
      · exact Nat.zero_le _
    · split
      · rename_i hg
        have e0 : Nat.beq e 0 = false := by
          cases e with
          | zero => omega
          | succ k => rfl
        rw [e0]
        show _ ≤ cntR n g (pr.length + 1) (e - 1) u (c + 8 * 16 ^ pr.length)
        obtain ⟨n1, n2, n3⟩ := nx 8 (by omega)
        have n4 : (pr ++ [(8 : Int)]).length = pr.length + 1 := n1
        have := fillR_cnt (ro := ro) hn h8 g u (e - 1) (c + 8 * 16 ^ pr.length) (pr ++ [(8 : Int)]) (by rw [n4]; omega) (hG.gap hg) (by rw [n4]; omega) n2 n3
        rw [n4] at this
        exact this
      · exact Nat.zero_le _
theorem PreG_0 {n sz : Nat} (hle : n ≤ sz) : PreG n sz 0 [] := by
  refine ⟨by decide, fun x hx => absurd hx (Nat.not_lt_zero x), fun x y hx => absurd hx (Nat.not_lt_zero x), fun i hi => ?_, ?_⟩
  · simp
  · have : pcN 0 = 0 := by decide
    rw [this]
    simp
    omega
/-- no more draws than the class has room for -/
theorem fillR_315 {n sz : Nat} {ro : List Int} (h2 : 2 ≤ n) (hle : n ≤ sz) (hs : sz = 2 ∨ sz = 4 ∨ sz = 8) : (fillR n sz ro sz 0 []).length ≤ 315 := by
  refine Nat.le_trans ?_ (cnt_all h2 hle hs)
  refine fillR_cnt (by omega) (by omega) sz 0 (sz - n) 0 [] (by simp) (PreG_0 hle) ?_ (by decide) (fun i hi => absurd hi (Nat.not_lt_zero i))
  have : pcN 0 = 0 := by decide
  rw [this]
  simp
  omega
