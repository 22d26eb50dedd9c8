/-! sums over players and over places (rows laid by wip/whole) -/
theorem sumN_mul (c : Int) (f : Nat → Int) : ∀ n, sumN (fun i => c * f i) n = c * sumN f n
  | 0 => (Int.mul_zero c).symm
  | n + 1 => by
    show sumN (fun i => c * f i) n + c * f n = c * (sumN f n + f n)
    rw [sumN_mul c f n, Int.mul_add]
/-- a sum over the players, told over the places where they stand -/
theorem sum_reix {pl : List Int} {a : Int} {w : Nat} {P : Int → Int} (hdis : ∀ x y : Int, a ≤ x → x < a + w → a ≤ y → y < a + w → rd8 pl x = rd8 pl y → rd8 pl x ≠ 8 → x = y) (h8 : ∀ x : Int, 0 ≤ rd8 pl x ∧ rd8 pl x ≤ 8) (hP : ∀ p : Nat, p < 8 → (∀ x : Int, a ≤ x → x < a + w → rd8 pl x ≠ p) → P p = 0) : sumN (fun b => P b) 8 = sumN (fun i => if rd8 pl (a + i) = 8 then 0 else P (rd8 pl (a + i))) w := by
  have a1 : sumN (fun b => P b) 8 = sumN (fun b => sumN (fun i => if rd8 pl (a + i) = b then P b else 0) w) 8 := sumN_congr 8 (fun b hb => by
    by_cases e : ∃ k : Nat, k < w ∧ rd8 pl (a + k) = b
    · obtain ⟨k, k1, k2⟩ := e
      have z := sumN_one (k := k) k1 (f := fun i => if rd8 pl (a + i) = b then P b else 0) (fun i hi hne => if_neg (fun q => hne (by
        have := hdis (a + i) (a + k) (by omega) (by omega) (by omega) (by omega) (by omega) (by omega)
        omega)))
      rw [z, if_pos k2]
    · have z : ∀ i, i < w → (if rd8 pl (a + i) = b then P b else 0) = 0 := fun i hi => if_neg (fun q => e ⟨i, hi, q⟩)
      rw [hP b hb (fun x x0 x1 q => e ⟨(x - a).toNat, by omega, by rw [show a + (((x - a).toNat : Nat) : Int) = x by omega]; exact q⟩)]
      exact (sumN_zero w).symm.trans (sumN_congr w (fun i hi => by
        split
        · rename_i q; exact absurd ⟨i, hi, q⟩ e
        · rfl)))
  rw [a1, sumN_swap (fun b i => if rd8 pl (a + i) = b then P b else 0) w 8]
  refine sumN_congr w (fun i hi => ?_)
  have hi8 := h8 (a + i)
  by_cases e : rd8 pl (a + i) = 8
  · rw [if_pos e]
    exact (sumN_congr 8 (fun b hb => if_neg (by omega))).trans (sumN_zero 8)
  · rw [if_neg e, sumN_one (k := (rd8 pl (a + i)).toNat) (by omega) (fun b hb hne => if_neg (by omega)), if_pos (by omega)]
    congr 1
    omega
