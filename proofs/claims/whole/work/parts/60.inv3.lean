/-! the invariant kept: won (rows laid by wip/whole) -/
theorem cnt8_ex {pl : List Int} {a b : Int} (h : ¬ cnt8 pl a b = 0) : ∃ x, a ≤ x ∧ x < b ∧ rd8 pl x ≠ 8 :=
  Classical.byContradiction (fun q => h (cnt8_z.mpr (fun x x0 x1 => Classical.byContradiction (fun z => q ⟨x, x0, x1, z⟩))))
theorem Inv_won {n sz : Nat} {ch ro pl wi od : List Int} (hI : Inv n sz ch ro pl wi) {m v : Int} (m0 : 0 ≤ m) (m1 : m < (sz : Int) - 1) (hv : 0 ≤ v ∧ v < n) (hk : kdA pl wi sz m = 2) (hc : ccA od sz m (plO pl sz v)) : Inv n sz ch ro pl (sI wi m v) := by
  have hn := hI.hn
  have hs := hI.hs
  have hl := hI.wil
  have hr := fun y a b => rd8_set (y := y) (v := v) hl m0 (by omega) a b
  obtain ⟨⟨w1, F0, F2, r1, r3, rl, pw⟩, -, -, -⟩ := ix2 hs m0 m1
  refine ⟨hI.hn, hI.hs, hI.chl, hI.rol, hI.pll, by rw [sI_len]; exact hl, hI.hch, hI.hcs, hI.hro, hI.hv, hI.hpn, hI.hpt, hI.hdi, v8_set hI.hwv (by omega) (by omega), fun y y0 y1 => ?_, fun q q0 q1 h => ?_⟩
  · rw [hr y (by omega) y1, if_neg (by omega)]
    exact hI.hwt y y0 y1
  · rw [hr q q0 (by omega)] at h ⊢
    by_cases c : q = m
    · subst c
      rw [if_pos rfl]
      have c1 : fpO sz q ≤ plO pl sz v := hc.1
      have c2 : plO pl sz v < fpO sz q + p2A (rdO sz q) := hc.2.1
      have hpl := plO_in (pl := pl) (sz := sz) (v := v)
      refine ⟨⟨plO pl sz v, c1, by omega, (plO_iff (by omega) hI.hdi (by omega) (by omega) hpl.2).mpr rfl⟩, ?_⟩
      have hz : ¬ cnt8 pl (fpO sz q) (fpO sz q + hfA sz q) = 0 ∧ ¬ cnt8 pl (fpO sz q + hfA sz q) (fpO sz q + p2A (rdO sz q)) = 0 := by
        have e : (if cnt8 pl (fpO sz q) (fpO sz q + hfA sz q) = 0 ∧ cnt8 pl (fpO sz q + hfA sz q) (fpO sz q + p2A (rdO sz q)) = 0 then (0 : Int) else if cnt8 pl (fpO sz q) (fpO sz q + hfA sz q) = 0 ∨ cnt8 pl (fpO sz q + hfA sz q) (fpO sz q + p2A (rdO sz q)) = 0 then 1 else if rd8 wi q = 8 then 2 else 3) = 2 := hk
        generalize cnt8 pl (fpO sz q) (fpO sz q + hfA sz q) = A at *
        generalize cnt8 pl (fpO sz q + hfA sz q) (fpO sz q + p2A (rdO sz q)) = B at *
        by_cases z1 : A = 0 ∧ B = 0
        · rw [if_pos z1] at e; exact absurd e (by decide)
        · rw [if_neg z1] at e
          by_cases z2 : A = 0 ∨ B = 0
          · rw [if_pos z2] at e; exact absurd e (by decide)
          · exact ⟨fun z => z2 (Or.inl z), fun z => z2 (Or.inr z)⟩
      obtain ⟨x, x0, x1, x2⟩ := cnt8_ex hz.1
      obtain ⟨y, y0, y1, y2⟩ := cnt8_ex hz.2
      exact ⟨⟨x, x0, x1, x2⟩, ⟨y, y0, by omega, y2⟩⟩
    · rw [if_neg c] at h ⊢
      exact hI.hwg q q0 q1 h
