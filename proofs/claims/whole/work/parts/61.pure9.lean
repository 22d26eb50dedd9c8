/-! the draws in order: both searches find the same (rows laid by wip/whole) -/
/-- a block is behind another one -/
def bhF (f : Int → Int) : Nat → Int → Int → Bool
  | 0, _, _ => false
  | n + 1, a, b => if f a = f b then bhF f n (a + 1) (b + 1) else decide (f b < f a)
def hvB (f : Int → Int) (sz p : Int) : Bool := (!decide ((p + 1) % 2 = 0 ∧ 1 < sz) || !bhF f 1 (p - 1) p) && ((!decide ((p + 1) % 4 = 0 ∧ 2 < sz) || !bhF f 2 (p - 3) (p - 1)) && (!decide ((p + 1) % 8 = 0 ∧ 4 < sz) || !bhF f 4 (p - 7) (p - 3)))
/-- of one's own, and not to meet too early -/
def fnB (ro : List Int) (f : Int → Int) (x v : Int) : Nat → Bool
  | 0 => true
  | q + 1 => fnB ro f x v q && decide (f q ≠ v ∧ (f q = 8 ∨ gI ro (8 * v + f q) ≤ mrA x q))
def ecN (f : Int → Int) (p : Nat) : Int := sumN (fun i => bI (f i = 8)) p
/-- the model's fits -/
def fitB (n sz : Nat) (ro : List Int) (f : Int → Int) (p : Nat) : Bool := (if f p = 8 then decide (ecN f p < (sz : Int) - n) else fnB ro f p (f p) p) && hvB f sz p
/-- the class' rule for a place -/
def fitR (n sz : Nat) (ro : List Int) (f : Int → Int) (p : Nat) : Prop := if f p = 8 then ecN f p < (sz : Int) - n else (∀ q : Nat, q < p → f q ≠ f p) ∧ koA f p (f p) ∧ kaA ro f p (f p)
theorem bhF_s {f : Int → Int} {n : Nat} {a b : Int} : bhF f (n + 1) a b = true ↔ (f b < f a ∨ (f a = f b ∧ bhF f n (a + 1) (b + 1) = true)) := by
  show (if f a = f b then bhF f n (a + 1) (b + 1) else decide (f b < f a)) = true ↔ _
  by_cases h : f a = f b
  · rw [if_pos h]; exact ⟨fun z => Or.inr ⟨h, z⟩, fun z => z.elim (fun y => absurd y (by omega)) (fun y => y.2)⟩
  · rw [if_neg h, decide_eq_true_eq]; exact ⟨fun z => Or.inl z, fun z => z.elim (fun y => y) (fun y => absurd y.1 h)⟩
theorem bhF_1 {f : Int → Int} {a b : Int} : bhF f 1 a b = true ↔ f b < f a := by
  rw [bhF_s]
  exact ⟨fun z => z.elim (fun y => y) (fun y => absurd (show false = true from y.2) (by decide)), fun z => Or.inl z⟩
theorem bhF_2 {f : Int → Int} {a b a1 b1 : Int} (ha : a + 1 = a1) (hb : b + 1 = b1) : bhF f 2 a b = true ↔ (f b < f a ∨ (f a = f b ∧ f b1 < f a1)) := by
  subst ha; subst hb
  rw [bhF_s, bhF_1]
theorem bhF_4 {f : Int → Int} {a b a1 b1 a2 b2 a3 b3 : Int} (ha : a + 1 = a1) (hb : b + 1 = b1) (ha2 : a1 + 1 = a2) (hb2 : b1 + 1 = b2) (ha3 : a2 + 1 = a3) (hb3 : b2 + 1 = b3) : bhF f 4 a b = true ↔ (f b < f a ∨ (f a = f b ∧ (f b1 < f a1 ∨ (f a1 = f b1 ∧ (f b2 < f a2 ∨ (f a2 = f b2 ∧ f b3 < f a3)))))) := by
  subst ha; subst hb; subst ha2; subst hb2; subst ha3; subst hb3
  rw [bhF_s, bhF_s, bhF_s, bhF_1]
theorem fnB_iff {ro : List Int} {f : Int → Int} {x v : Int} : ∀ q : Nat, fnB ro f x v q = true ↔ ∀ i : Nat, i < q → f i ≠ v ∧ (f i = 8 ∨ gI ro (8 * v + f i) ≤ mrA x i)
  | 0 => ⟨fun _ i hi => absurd hi (Nat.not_lt_zero i), fun _ => rfl⟩
  | q + 1 => by
    unfold fnB
    rw [Bool.and_eq_true, fnB_iff q, decide_eq_true_eq]
    constructor
    · rintro ⟨h1, h2⟩ i hi
      by_cases e : i = q
      · subst e; exact h2
      · exact h1 i (by omega)
    · intro h
      exact ⟨fun i hi => h i (by omega), h q (by omega)⟩
theorem fitB_iff {n sz : Nat} {ro : List Int} {f : Int → Int} {p : Nat} : fitB n sz ro f p = true ↔ (if f p = 8 then ecN f p < (sz : Int) - n else ∀ i : Nat, i < p → f i ≠ f p ∧ (f i = 8 ∨ gI ro (8 * f p + f i) ≤ mrA p i)) ∧ hvB f sz p = true := by
  unfold fitB
  rw [Bool.and_eq_true]
  by_cases e : f p = 8
  · rw [if_pos e, if_pos e, decide_eq_true_eq]
  · rw [if_neg e, if_neg e, fnB_iff]
theorem nb_not {c b : Bool} : (!c || !b) = true ↔ (c = true → ¬ b = true) := by cases c <;> cases b <;> simp
theorem hvB_iff {f : Int → Int} {sz p : Int} : hvB f sz p = true ↔ (((p + 1) % 2 = 0 ∧ 1 < sz) → ¬ f p < f (p - 1)) ∧ (((p + 1) % 4 = 0 ∧ 2 < sz) → ¬ (f (p - 1) < f (p - 3) ∨ (f (p - 3) = f (p - 1) ∧ f p < f (p - 2)))) ∧ (((p + 1) % 8 = 0 ∧ 4 < sz) → ¬ (f (p - 3) < f (p - 7) ∨ (f (p - 7) = f (p - 3) ∧ (f (p - 2) < f (p - 6) ∨ (f (p - 6) = f (p - 2) ∧ (f (p - 1) < f (p - 5) ∨ (f (p - 5) = f (p - 1) ∧ f p < f (p - 4)))))))) := by
  unfold hvB
  rw [Bool.and_eq_true, Bool.and_eq_true, nb_not, nb_not, nb_not, decide_eq_true_eq, decide_eq_true_eq, decide_eq_true_eq, bhF_1, bhF_2 (a1 := p - 2) (b1 := p) (by omega) (by omega), bhF_4 (a1 := p - 6) (a2 := p - 5) (a3 := p - 4) (b1 := p - 2) (b2 := p - 1) (b3 := p) (by omega) (by omega) (by omega) (by omega) (by omega) (by omega)]
theorem mrA_sym {x y : Int} : mrA x y = mrA y x := by
  unfold mrA
  (repeat' split) <;> omega
theorem ec_congr {f g : Int → Int} (p : Nat) (h : ∀ q : Nat, q < p → f q = g q) : ecN f p = ecN g p := sumN_congr p (fun i hi => by rw [h i hi])
theorem fitB_congr {n sz : Nat} {ro : List Int} {f g : Int → Int} {p : Nat} (h : ∀ q : Nat, q ≤ p → f q = g q) : fitB n sz ro f p = fitB n sz ro g p := by
  have hI : ∀ q : Int, 0 ≤ q → q ≤ p → f q = g q := fun q q0 q1 => by
    obtain ⟨k, rfl⟩ := Int.eq_ofNat_of_zero_le q0
    exact h k (by omega)
  have e : fitB n sz ro f p = true ↔ fitB n sz ro g p = true := by
    rw [fitB_iff, fitB_iff, ← h p (Nat.le_refl _), ec_congr p (fun q hq => h q (by omega))]
    have a : hvB f sz p = true ↔ hvB g sz p = true := by
      rw [hvB_iff, hvB_iff]
      refine and_congr ?_ (and_congr ?_ ?_)
      · by_cases c : ((p : Int) + 1) % 2 = 0 ∧ 1 < (sz : Int)
        · rw [hI p (by omega) (by omega), hI (p - 1) (by omega) (by omega)]
        · exact ⟨fun _ z => absurd z c, fun _ z => absurd z c⟩
      · by_cases c : ((p : Int) + 1) % 4 = 0 ∧ 2 < (sz : Int)
        · rw [hI p (by omega) (by omega), hI (p - 1) (by omega) (by omega), hI (p - 2) (by omega) (by omega), hI (p - 3) (by omega) (by omega)]
        · exact ⟨fun _ z => absurd z c, fun _ z => absurd z c⟩
      · by_cases c : ((p : Int) + 1) % 8 = 0 ∧ 4 < (sz : Int)
        · rw [hI p (by omega) (by omega), hI (p - 1) (by omega) (by omega), hI (p - 2) (by omega) (by omega), hI (p - 3) (by omega) (by omega), hI (p - 4) (by omega) (by omega), hI (p - 5) (by omega) (by omega), hI (p - 6) (by omega) (by omega), hI (p - 7) (by omega) (by omega)]
        · exact ⟨fun _ z => absurd z c, fun _ z => absurd z c⟩
    rw [a]
    refine and_congr ?_ Iff.rfl
    split
    · exact Iff.rfl
    · exact ⟨fun z i hi => by rw [← h i (by omega)]; exact z i hi, fun z i hi => by rw [h i (by omega)]; exact z i hi⟩
  exact Bool.eq_iff_iff.mpr e
theorem fitR_congr {n sz : Nat} {ro : List Int} {f g : Int → Int} {p : Nat} (h8 : p < 8) (h : ∀ q : Nat, q ≤ p → f q = g q) : fitR n sz ro f p ↔ fitR n sz ro g p := by
  unfold fitR
  rw [← h p (Nat.le_refl _), ec_congr p (fun q hq => h q (by omega))]
  split
  · exact Iff.rfl
  · refine and_congr ⟨fun z i hi => by rw [← h i (by omega)]; exact z i hi, fun z i hi => by rw [h i (by omega)]; exact z i hi⟩ (and_congr ?_ ⟨fun z i hi => by rw [← h i (by omega)]; exact z i hi, fun z i hi => by rw [h i (by omega)]; exact z i hi⟩)
    unfold koA
    by_cases c : p = 0
    · subst c
      exact ⟨fun z => z.elim Or.inl (fun y => absurd rfl y.1), fun z => z.elim Or.inl (fun y => absurd rfl y.1)⟩
    · have li := lfA_in (x := (p : Int)) (by omega) (by omega)
      obtain ⟨k, hk⟩ := Int.eq_ofNat_of_zero_le li.1
      rw [hk, h k (by omega)]
