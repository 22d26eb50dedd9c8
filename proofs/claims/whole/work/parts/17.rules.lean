/-! RULES: an instruction each, locals and stack as patterns (written by wip/whole/rules.py) -/
/-- a run of a method from its start: what it answers and the cells behind it -/
def Ct (d : Nat) (M : mM) (As : List mV) (h : List mC) (Q : Option mV → List mC → Prop) : Prop := Wp d M 0 (mArgs (mMax M) As) [] h (mCel M, mSlo M) Q
def Rt (d : Nat) (M : mM) (As : List mV) (h : List mC) (r : Option mV) (h2 : List mC) : Prop := Ct d M As h (fun r' h' => r' = r ∧ h' = h2)
def bI (p : Prop) [Decidable p] : Int := if p then 1 else 0
theorem bI_t {p : Prop} [Decidable p] (h : p) : bI p = 1 := if_pos h
theorem bI_f {p : Prop} [Decidable p] (h : ¬ p) : bI p = 0 := if_neg h
theorem bI_c {p q : Prop} [Decidable p] [Decidable q] (h : p ↔ q) : bI p = bI q := by
  by_cases hp : p
  · rw [bI_t hp, bI_t (h.mp hp)]
  · rw [bI_f hp, bI_f (fun x => hp (h.mpr x))]
theorem Ct.deep {d : Nat} {M : mM} {As : List mV} {h : List mC} {Q : Option mV → List mC → Prop} (k : Ct d M As h Q) (j : Nat) : Ct (d + j) M As h Q := wp_deep k j
theorem Rt.deep {d : Nat} {M : mM} {As : List mV} {h h2 : List mC} {r : Option mV} (k : Rt d M As h r h2) (j : Nat) : Rt (d + j) M As h r h2 := wp_deep k j
theorem Rt.to {d : Nat} {M : mM} {As : List mV} {h h2 h3 : List mC} {r r2 : Option mV} (k : Rt d M As h r h2) (e1 : r = r2) (e2 : h2 = h3) : Rt d M As h r2 h3 := by subst e1; subst e2; exact k
section WPR
variable {d : Nat} {M : mM} {pc q : Nat} {L S : List mV} {h : List mC} {b : Nat × Nat} {Q : Option mV → List mC → Prop}
theorem wp_il0 {x : Int} {l : List mV} (hd : decode (mCode M) pc = .ok (.iload_n 0, 1)) (hq : pc + 1 = q) (k : Wp d M q (mI x :: l) (mI x :: S) h b Q) : Wp d M pc (mI x :: l) S h b Q :=
  wp_ss hd (q, (mI x :: l), mI x :: S, h, b) ⟨x, rfl, rfl, by rw [← hq]⟩ k
theorem wp_ll0 {x : Int} {l : List mV} (hd : decode (mCode M) pc = .ok (.lload_n 0, 1)) (hq : pc + 1 = q) (k : Wp d M q (mL x :: l) (mL x :: S) h b Q) : Wp d M pc (mL x :: l) S h b Q :=
  wp_ss hd (q, (mL x :: l), mL x :: S, h, b) ⟨x, rfl, rfl, by rw [← hq]⟩ k
theorem wp_al0 {x : Nat} {l : List mV} (hd : decode (mCode M) pc = .ok (.aload_n 0, 1)) (hq : pc + 1 = q) (k : Wp d M q (mR x :: l) (mR x :: S) h b Q) : Wp d M pc (mR x :: l) S h b Q :=
  wp_ss hd (q, (mR x :: l), mR x :: S, h, b) ⟨x, rfl, rfl, by rw [← hq]⟩ k
theorem wp_is0 {c : mV} {x : Int} {l : List mV} (hd : decode (mCode M) pc = .ok (.istore_n 0, 1)) (hq : pc + 1 = q) (k : Wp d M q (mI x :: l) S h b Q) : Wp d M pc (c :: l) (mI x :: S) h b Q :=
  wp_ss hd (q, (mI x :: l), S, h, b) ⟨x, S, rfl, rfl, by show (0 : Nat) < _; simp only [List.length_cons]; omega, Or.inl rfl, by rw [← hq]; rfl⟩ k
theorem wp_as0 {c : mV} {x : Nat} {l : List mV} (hd : decode (mCode M) pc = .ok (.astore_n 0, 1)) (hq : pc + 1 = q) (k : Wp d M q (mR x :: l) S h b Q) : Wp d M pc (c :: l) (mR x :: S) h b Q :=
  wp_ss hd (q, (mR x :: l), S, h, b) ⟨x, S, rfl, rfl, by show (0 : Nat) < _; simp only [List.length_cons]; omega, Or.inl rfl, by rw [← hq]; rfl⟩ k
theorem wp_ls0 {c c2 : mV} {x : Int} {l : List mV} (hd : decode (mCode M) pc = .ok (.lstore_n 0, 1)) (hq : pc + 1 = q) (k : Wp d M q (mL x :: mU :: l) S h b Q) : Wp d M pc (c :: c2 :: l) (mL x :: S) h b Q :=
  wp_ss hd (q, (mL x :: mU :: l), S, h, b) ⟨x, S, rfl, rfl, by show (0 : Nat) + 1 < _; simp only [List.length_cons]; omega, Or.inl rfl, by rw [← hq]; rfl⟩ k
theorem wp_ii0 {n x : Int} {l : List mV} (hd : decode (mCode M) pc = .ok (.iinc 0 n, 3)) (hq : pc + 3 = q) (h1 : -2147483648 ≤ x + n) (h2 : x + n ≤ 2147483647) (k : Wp d M q (mI (x + n) :: l) S h b Q) : Wp d M pc (mI x :: l) S h b Q :=
  wp_ss hd (q, (mI (x + n) :: l), S, h, b) ⟨x, rfl, rfl, Or.inl rfl, ⟨h1, h2⟩, by rw [← hq]; rfl⟩ k
theorem wp_il1 {a0 : mV} {x : Int} {l : List mV} (hd : decode (mCode M) pc = .ok (.iload_n 1, 1)) (hq : pc + 1 = q) (k : Wp d M q (a0 :: mI x :: l) (mI x :: S) h b Q) : Wp d M pc (a0 :: mI x :: l) S h b Q :=
  wp_ss hd (q, (a0 :: mI x :: l), mI x :: S, h, b) ⟨x, rfl, rfl, by rw [← hq]⟩ k
theorem wp_ll1 {a0 : mV} {x : Int} {l : List mV} (hd : decode (mCode M) pc = .ok (.lload_n 1, 1)) (hq : pc + 1 = q) (k : Wp d M q (a0 :: mL x :: l) (mL x :: S) h b Q) : Wp d M pc (a0 :: mL x :: l) S h b Q :=
  wp_ss hd (q, (a0 :: mL x :: l), mL x :: S, h, b) ⟨x, rfl, rfl, by rw [← hq]⟩ k
theorem wp_al1 {a0 : mV} {x : Nat} {l : List mV} (hd : decode (mCode M) pc = .ok (.aload_n 1, 1)) (hq : pc + 1 = q) (k : Wp d M q (a0 :: mR x :: l) (mR x :: S) h b Q) : Wp d M pc (a0 :: mR x :: l) S h b Q :=
  wp_ss hd (q, (a0 :: mR x :: l), mR x :: S, h, b) ⟨x, rfl, rfl, by rw [← hq]⟩ k
theorem wp_is1 {a0 : mV} {c : mV} {x : Int} {l : List mV} (hd : decode (mCode M) pc = .ok (.istore_n 1, 1)) (hq : pc + 1 = q) (hb : mLong a0 = false) (k : Wp d M q (a0 :: mI x :: l) S h b Q) : Wp d M pc (a0 :: c :: l) (mI x :: S) h b Q :=
  wp_ss hd (q, (a0 :: mI x :: l), S, h, b) ⟨x, S, rfl, rfl, by show (1 : Nat) < _; simp only [List.length_cons]; omega, Or.inr hb, by rw [← hq]; rfl⟩ k
theorem wp_as1 {a0 : mV} {c : mV} {x : Nat} {l : List mV} (hd : decode (mCode M) pc = .ok (.astore_n 1, 1)) (hq : pc + 1 = q) (hb : mLong a0 = false) (k : Wp d M q (a0 :: mR x :: l) S h b Q) : Wp d M pc (a0 :: c :: l) (mR x :: S) h b Q :=
  wp_ss hd (q, (a0 :: mR x :: l), S, h, b) ⟨x, S, rfl, rfl, by show (1 : Nat) < _; simp only [List.length_cons]; omega, Or.inr hb, by rw [← hq]; rfl⟩ k
theorem wp_ls1 {a0 : mV} {c c2 : mV} {x : Int} {l : List mV} (hd : decode (mCode M) pc = .ok (.lstore_n 1, 1)) (hq : pc + 1 = q) (hb : mLong a0 = false) (k : Wp d M q (a0 :: mL x :: mU :: l) S h b Q) : Wp d M pc (a0 :: c :: c2 :: l) (mL x :: S) h b Q :=
  wp_ss hd (q, (a0 :: mL x :: mU :: l), S, h, b) ⟨x, S, rfl, rfl, by show (1 : Nat) + 1 < _; simp only [List.length_cons]; omega, Or.inr hb, by rw [← hq]; rfl⟩ k
theorem wp_ii1 {a0 : mV} {n x : Int} {l : List mV} (hd : decode (mCode M) pc = .ok (.iinc 1 n, 3)) (hq : pc + 3 = q) (hb : mLong a0 = false) (h1 : -2147483648 ≤ x + n) (h2 : x + n ≤ 2147483647) (k : Wp d M q (a0 :: mI (x + n) :: l) S h b Q) : Wp d M pc (a0 :: mI x :: l) S h b Q :=
  wp_ss hd (q, (a0 :: mI (x + n) :: l), S, h, b) ⟨x, rfl, rfl, Or.inr hb, ⟨h1, h2⟩, by rw [← hq]; rfl⟩ k
theorem wp_il2 {a0 a1 : mV} {x : Int} {l : List mV} (hd : decode (mCode M) pc = .ok (.iload_n 2, 1)) (hq : pc + 1 = q) (k : Wp d M q (a0 :: a1 :: mI x :: l) (mI x :: S) h b Q) : Wp d M pc (a0 :: a1 :: mI x :: l) S h b Q :=
  wp_ss hd (q, (a0 :: a1 :: mI x :: l), mI x :: S, h, b) ⟨x, rfl, rfl, by rw [← hq]⟩ k
theorem wp_ll2 {a0 a1 : mV} {x : Int} {l : List mV} (hd : decode (mCode M) pc = .ok (.lload_n 2, 1)) (hq : pc + 1 = q) (k : Wp d M q (a0 :: a1 :: mL x :: l) (mL x :: S) h b Q) : Wp d M pc (a0 :: a1 :: mL x :: l) S h b Q :=
  wp_ss hd (q, (a0 :: a1 :: mL x :: l), mL x :: S, h, b) ⟨x, rfl, rfl, by rw [← hq]⟩ k
theorem wp_al2 {a0 a1 : mV} {x : Nat} {l : List mV} (hd : decode (mCode M) pc = .ok (.aload_n 2, 1)) (hq : pc + 1 = q) (k : Wp d M q (a0 :: a1 :: mR x :: l) (mR x :: S) h b Q) : Wp d M pc (a0 :: a1 :: mR x :: l) S h b Q :=
  wp_ss hd (q, (a0 :: a1 :: mR x :: l), mR x :: S, h, b) ⟨x, rfl, rfl, by rw [← hq]⟩ k
theorem wp_is2 {a0 a1 : mV} {c : mV} {x : Int} {l : List mV} (hd : decode (mCode M) pc = .ok (.istore_n 2, 1)) (hq : pc + 1 = q) (hb : mLong a1 = false) (k : Wp d M q (a0 :: a1 :: mI x :: l) S h b Q) : Wp d M pc (a0 :: a1 :: c :: l) (mI x :: S) h b Q :=
  wp_ss hd (q, (a0 :: a1 :: mI x :: l), S, h, b) ⟨x, S, rfl, rfl, by show (2 : Nat) < _; simp only [List.length_cons]; omega, Or.inr hb, by rw [← hq]; rfl⟩ k
theorem wp_as2 {a0 a1 : mV} {c : mV} {x : Nat} {l : List mV} (hd : decode (mCode M) pc = .ok (.astore_n 2, 1)) (hq : pc + 1 = q) (hb : mLong a1 = false) (k : Wp d M q (a0 :: a1 :: mR x :: l) S h b Q) : Wp d M pc (a0 :: a1 :: c :: l) (mR x :: S) h b Q :=
  wp_ss hd (q, (a0 :: a1 :: mR x :: l), S, h, b) ⟨x, S, rfl, rfl, by show (2 : Nat) < _; simp only [List.length_cons]; omega, Or.inr hb, by rw [← hq]; rfl⟩ k
theorem wp_ls2 {a0 a1 : mV} {c c2 : mV} {x : Int} {l : List mV} (hd : decode (mCode M) pc = .ok (.lstore_n 2, 1)) (hq : pc + 1 = q) (hb : mLong a1 = false) (k : Wp d M q (a0 :: a1 :: mL x :: mU :: l) S h b Q) : Wp d M pc (a0 :: a1 :: c :: c2 :: l) (mL x :: S) h b Q :=
  wp_ss hd (q, (a0 :: a1 :: mL x :: mU :: l), S, h, b) ⟨x, S, rfl, rfl, by show (2 : Nat) + 1 < _; simp only [List.length_cons]; omega, Or.inr hb, by rw [← hq]; rfl⟩ k
theorem wp_ii2 {a0 a1 : mV} {n x : Int} {l : List mV} (hd : decode (mCode M) pc = .ok (.iinc 2 n, 3)) (hq : pc + 3 = q) (hb : mLong a1 = false) (h1 : -2147483648 ≤ x + n) (h2 : x + n ≤ 2147483647) (k : Wp d M q (a0 :: a1 :: mI (x + n) :: l) S h b Q) : Wp d M pc (a0 :: a1 :: mI x :: l) S h b Q :=
  wp_ss hd (q, (a0 :: a1 :: mI (x + n) :: l), S, h, b) ⟨x, rfl, rfl, Or.inr hb, ⟨h1, h2⟩, by rw [← hq]; rfl⟩ k
theorem wp_il3 {a0 a1 a2 : mV} {x : Int} {l : List mV} (hd : decode (mCode M) pc = .ok (.iload_n 3, 1)) (hq : pc + 1 = q) (k : Wp d M q (a0 :: a1 :: a2 :: mI x :: l) (mI x :: S) h b Q) : Wp d M pc (a0 :: a1 :: a2 :: mI x :: l) S h b Q :=
  wp_ss hd (q, (a0 :: a1 :: a2 :: mI x :: l), mI x :: S, h, b) ⟨x, rfl, rfl, by rw [← hq]⟩ k
theorem wp_ll3 {a0 a1 a2 : mV} {x : Int} {l : List mV} (hd : decode (mCode M) pc = .ok (.lload_n 3, 1)) (hq : pc + 1 = q) (k : Wp d M q (a0 :: a1 :: a2 :: mL x :: l) (mL x :: S) h b Q) : Wp d M pc (a0 :: a1 :: a2 :: mL x :: l) S h b Q :=
  wp_ss hd (q, (a0 :: a1 :: a2 :: mL x :: l), mL x :: S, h, b) ⟨x, rfl, rfl, by rw [← hq]⟩ k
theorem wp_al3 {a0 a1 a2 : mV} {x : Nat} {l : List mV} (hd : decode (mCode M) pc = .ok (.aload_n 3, 1)) (hq : pc + 1 = q) (k : Wp d M q (a0 :: a1 :: a2 :: mR x :: l) (mR x :: S) h b Q) : Wp d M pc (a0 :: a1 :: a2 :: mR x :: l) S h b Q :=
  wp_ss hd (q, (a0 :: a1 :: a2 :: mR x :: l), mR x :: S, h, b) ⟨x, rfl, rfl, by rw [← hq]⟩ k
theorem wp_is3 {a0 a1 a2 : mV} {c : mV} {x : Int} {l : List mV} (hd : decode (mCode M) pc = .ok (.istore_n 3, 1)) (hq : pc + 1 = q) (hb : mLong a2 = false) (k : Wp d M q (a0 :: a1 :: a2 :: mI x :: l) S h b Q) : Wp d M pc (a0 :: a1 :: a2 :: c :: l) (mI x :: S) h b Q :=
  wp_ss hd (q, (a0 :: a1 :: a2 :: mI x :: l), S, h, b) ⟨x, S, rfl, rfl, by show (3 : Nat) < _; simp only [List.length_cons]; omega, Or.inr hb, by rw [← hq]; rfl⟩ k
theorem wp_as3 {a0 a1 a2 : mV} {c : mV} {x : Nat} {l : List mV} (hd : decode (mCode M) pc = .ok (.astore_n 3, 1)) (hq : pc + 1 = q) (hb : mLong a2 = false) (k : Wp d M q (a0 :: a1 :: a2 :: mR x :: l) S h b Q) : Wp d M pc (a0 :: a1 :: a2 :: c :: l) (mR x :: S) h b Q :=
  wp_ss hd (q, (a0 :: a1 :: a2 :: mR x :: l), S, h, b) ⟨x, S, rfl, rfl, by show (3 : Nat) < _; simp only [List.length_cons]; omega, Or.inr hb, by rw [← hq]; rfl⟩ k
theorem wp_ls3 {a0 a1 a2 : mV} {c c2 : mV} {x : Int} {l : List mV} (hd : decode (mCode M) pc = .ok (.lstore_n 3, 1)) (hq : pc + 1 = q) (hb : mLong a2 = false) (k : Wp d M q (a0 :: a1 :: a2 :: mL x :: mU :: l) S h b Q) : Wp d M pc (a0 :: a1 :: a2 :: c :: c2 :: l) (mL x :: S) h b Q :=
  wp_ss hd (q, (a0 :: a1 :: a2 :: mL x :: mU :: l), S, h, b) ⟨x, S, rfl, rfl, by show (3 : Nat) + 1 < _; simp only [List.length_cons]; omega, Or.inr hb, by rw [← hq]; rfl⟩ k
theorem wp_ii3 {a0 a1 a2 : mV} {n x : Int} {l : List mV} (hd : decode (mCode M) pc = .ok (.iinc 3 n, 3)) (hq : pc + 3 = q) (hb : mLong a2 = false) (h1 : -2147483648 ≤ x + n) (h2 : x + n ≤ 2147483647) (k : Wp d M q (a0 :: a1 :: a2 :: mI (x + n) :: l) S h b Q) : Wp d M pc (a0 :: a1 :: a2 :: mI x :: l) S h b Q :=
  wp_ss hd (q, (a0 :: a1 :: a2 :: mI (x + n) :: l), S, h, b) ⟨x, rfl, rfl, Or.inr hb, ⟨h1, h2⟩, by rw [← hq]; rfl⟩ k
theorem wp_il4 {a0 a1 a2 a3 : mV} {x : Int} {l : List mV} (hd : decode (mCode M) pc = .ok (.iload 4, 2)) (hq : pc + 2 = q) (k : Wp d M q (a0 :: a1 :: a2 :: a3 :: mI x :: l) (mI x :: S) h b Q) : Wp d M pc (a0 :: a1 :: a2 :: a3 :: mI x :: l) S h b Q :=
  wp_ss hd (q, (a0 :: a1 :: a2 :: a3 :: mI x :: l), mI x :: S, h, b) ⟨x, rfl, rfl, by rw [← hq]⟩ k
theorem wp_ll4 {a0 a1 a2 a3 : mV} {x : Int} {l : List mV} (hd : decode (mCode M) pc = .ok (.lload 4, 2)) (hq : pc + 2 = q) (k : Wp d M q (a0 :: a1 :: a2 :: a3 :: mL x :: l) (mL x :: S) h b Q) : Wp d M pc (a0 :: a1 :: a2 :: a3 :: mL x :: l) S h b Q :=
  wp_ss hd (q, (a0 :: a1 :: a2 :: a3 :: mL x :: l), mL x :: S, h, b) ⟨x, rfl, rfl, by rw [← hq]⟩ k
theorem wp_al4 {a0 a1 a2 a3 : mV} {x : Nat} {l : List mV} (hd : decode (mCode M) pc = .ok (.aload 4, 2)) (hq : pc + 2 = q) (k : Wp d M q (a0 :: a1 :: a2 :: a3 :: mR x :: l) (mR x :: S) h b Q) : Wp d M pc (a0 :: a1 :: a2 :: a3 :: mR x :: l) S h b Q :=
  wp_ss hd (q, (a0 :: a1 :: a2 :: a3 :: mR x :: l), mR x :: S, h, b) ⟨x, rfl, rfl, by rw [← hq]⟩ k
theorem wp_is4 {a0 a1 a2 a3 : mV} {c : mV} {x : Int} {l : List mV} (hd : decode (mCode M) pc = .ok (.istore 4, 2)) (hq : pc + 2 = q) (hb : mLong a3 = false) (k : Wp d M q (a0 :: a1 :: a2 :: a3 :: mI x :: l) S h b Q) : Wp d M pc (a0 :: a1 :: a2 :: a3 :: c :: l) (mI x :: S) h b Q :=
  wp_ss hd (q, (a0 :: a1 :: a2 :: a3 :: mI x :: l), S, h, b) ⟨x, S, rfl, rfl, by show (4 : Nat) < _; simp only [List.length_cons]; omega, Or.inr hb, by rw [← hq]; rfl⟩ k
theorem wp_as4 {a0 a1 a2 a3 : mV} {c : mV} {x : Nat} {l : List mV} (hd : decode (mCode M) pc = .ok (.astore 4, 2)) (hq : pc + 2 = q) (hb : mLong a3 = false) (k : Wp d M q (a0 :: a1 :: a2 :: a3 :: mR x :: l) S h b Q) : Wp d M pc (a0 :: a1 :: a2 :: a3 :: c :: l) (mR x :: S) h b Q :=
  wp_ss hd (q, (a0 :: a1 :: a2 :: a3 :: mR x :: l), S, h, b) ⟨x, S, rfl, rfl, by show (4 : Nat) < _; simp only [List.length_cons]; omega, Or.inr hb, by rw [← hq]; rfl⟩ k
theorem wp_ls4 {a0 a1 a2 a3 : mV} {c c2 : mV} {x : Int} {l : List mV} (hd : decode (mCode M) pc = .ok (.lstore 4, 2)) (hq : pc + 2 = q) (hb : mLong a3 = false) (k : Wp d M q (a0 :: a1 :: a2 :: a3 :: mL x :: mU :: l) S h b Q) : Wp d M pc (a0 :: a1 :: a2 :: a3 :: c :: c2 :: l) (mL x :: S) h b Q :=
  wp_ss hd (q, (a0 :: a1 :: a2 :: a3 :: mL x :: mU :: l), S, h, b) ⟨x, S, rfl, rfl, by show (4 : Nat) + 1 < _; simp only [List.length_cons]; omega, Or.inr hb, by rw [← hq]; rfl⟩ k
theorem wp_ii4 {a0 a1 a2 a3 : mV} {n x : Int} {l : List mV} (hd : decode (mCode M) pc = .ok (.iinc 4 n, 3)) (hq : pc + 3 = q) (hb : mLong a3 = false) (h1 : -2147483648 ≤ x + n) (h2 : x + n ≤ 2147483647) (k : Wp d M q (a0 :: a1 :: a2 :: a3 :: mI (x + n) :: l) S h b Q) : Wp d M pc (a0 :: a1 :: a2 :: a3 :: mI x :: l) S h b Q :=
  wp_ss hd (q, (a0 :: a1 :: a2 :: a3 :: mI (x + n) :: l), S, h, b) ⟨x, rfl, rfl, Or.inr hb, ⟨h1, h2⟩, by rw [← hq]; rfl⟩ k
theorem wp_il5 {a0 a1 a2 a3 a4 : mV} {x : Int} {l : List mV} (hd : decode (mCode M) pc = .ok (.iload 5, 2)) (hq : pc + 2 = q) (k : Wp d M q (a0 :: a1 :: a2 :: a3 :: a4 :: mI x :: l) (mI x :: S) h b Q) : Wp d M pc (a0 :: a1 :: a2 :: a3 :: a4 :: mI x :: l) S h b Q :=
  wp_ss hd (q, (a0 :: a1 :: a2 :: a3 :: a4 :: mI x :: l), mI x :: S, h, b) ⟨x, rfl, rfl, by rw [← hq]⟩ k
theorem wp_ll5 {a0 a1 a2 a3 a4 : mV} {x : Int} {l : List mV} (hd : decode (mCode M) pc = .ok (.lload 5, 2)) (hq : pc + 2 = q) (k : Wp d M q (a0 :: a1 :: a2 :: a3 :: a4 :: mL x :: l) (mL x :: S) h b Q) : Wp d M pc (a0 :: a1 :: a2 :: a3 :: a4 :: mL x :: l) S h b Q :=
  wp_ss hd (q, (a0 :: a1 :: a2 :: a3 :: a4 :: mL x :: l), mL x :: S, h, b) ⟨x, rfl, rfl, by rw [← hq]⟩ k
theorem wp_al5 {a0 a1 a2 a3 a4 : mV} {x : Nat} {l : List mV} (hd : decode (mCode M) pc = .ok (.aload 5, 2)) (hq : pc + 2 = q) (k : Wp d M q (a0 :: a1 :: a2 :: a3 :: a4 :: mR x :: l) (mR x :: S) h b Q) : Wp d M pc (a0 :: a1 :: a2 :: a3 :: a4 :: mR x :: l) S h b Q :=
  wp_ss hd (q, (a0 :: a1 :: a2 :: a3 :: a4 :: mR x :: l), mR x :: S, h, b) ⟨x, rfl, rfl, by rw [← hq]⟩ k
theorem wp_is5 {a0 a1 a2 a3 a4 : mV} {c : mV} {x : Int} {l : List mV} (hd : decode (mCode M) pc = .ok (.istore 5, 2)) (hq : pc + 2 = q) (hb : mLong a4 = false) (k : Wp d M q (a0 :: a1 :: a2 :: a3 :: a4 :: mI x :: l) S h b Q) : Wp d M pc (a0 :: a1 :: a2 :: a3 :: a4 :: c :: l) (mI x :: S) h b Q :=
  wp_ss hd (q, (a0 :: a1 :: a2 :: a3 :: a4 :: mI x :: l), S, h, b) ⟨x, S, rfl, rfl, by show (5 : Nat) < _; simp only [List.length_cons]; omega, Or.inr hb, by rw [← hq]; rfl⟩ k
theorem wp_as5 {a0 a1 a2 a3 a4 : mV} {c : mV} {x : Nat} {l : List mV} (hd : decode (mCode M) pc = .ok (.astore 5, 2)) (hq : pc + 2 = q) (hb : mLong a4 = false) (k : Wp d M q (a0 :: a1 :: a2 :: a3 :: a4 :: mR x :: l) S h b Q) : Wp d M pc (a0 :: a1 :: a2 :: a3 :: a4 :: c :: l) (mR x :: S) h b Q :=
  wp_ss hd (q, (a0 :: a1 :: a2 :: a3 :: a4 :: mR x :: l), S, h, b) ⟨x, S, rfl, rfl, by show (5 : Nat) < _; simp only [List.length_cons]; omega, Or.inr hb, by rw [← hq]; rfl⟩ k
theorem wp_ls5 {a0 a1 a2 a3 a4 : mV} {c c2 : mV} {x : Int} {l : List mV} (hd : decode (mCode M) pc = .ok (.lstore 5, 2)) (hq : pc + 2 = q) (hb : mLong a4 = false) (k : Wp d M q (a0 :: a1 :: a2 :: a3 :: a4 :: mL x :: mU :: l) S h b Q) : Wp d M pc (a0 :: a1 :: a2 :: a3 :: a4 :: c :: c2 :: l) (mL x :: S) h b Q :=
  wp_ss hd (q, (a0 :: a1 :: a2 :: a3 :: a4 :: mL x :: mU :: l), S, h, b) ⟨x, S, rfl, rfl, by show (5 : Nat) + 1 < _; simp only [List.length_cons]; omega, Or.inr hb, by rw [← hq]; rfl⟩ k
theorem wp_ii5 {a0 a1 a2 a3 a4 : mV} {n x : Int} {l : List mV} (hd : decode (mCode M) pc = .ok (.iinc 5 n, 3)) (hq : pc + 3 = q) (hb : mLong a4 = false) (h1 : -2147483648 ≤ x + n) (h2 : x + n ≤ 2147483647) (k : Wp d M q (a0 :: a1 :: a2 :: a3 :: a4 :: mI (x + n) :: l) S h b Q) : Wp d M pc (a0 :: a1 :: a2 :: a3 :: a4 :: mI x :: l) S h b Q :=
  wp_ss hd (q, (a0 :: a1 :: a2 :: a3 :: a4 :: mI (x + n) :: l), S, h, b) ⟨x, rfl, rfl, Or.inr hb, ⟨h1, h2⟩, by rw [← hq]; rfl⟩ k
theorem wp_il6 {a0 a1 a2 a3 a4 a5 : mV} {x : Int} {l : List mV} (hd : decode (mCode M) pc = .ok (.iload 6, 2)) (hq : pc + 2 = q) (k : Wp d M q (a0 :: a1 :: a2 :: a3 :: a4 :: a5 :: mI x :: l) (mI x :: S) h b Q) : Wp d M pc (a0 :: a1 :: a2 :: a3 :: a4 :: a5 :: mI x :: l) S h b Q :=
  wp_ss hd (q, (a0 :: a1 :: a2 :: a3 :: a4 :: a5 :: mI x :: l), mI x :: S, h, b) ⟨x, rfl, rfl, by rw [← hq]⟩ k
theorem wp_ll6 {a0 a1 a2 a3 a4 a5 : mV} {x : Int} {l : List mV} (hd : decode (mCode M) pc = .ok (.lload 6, 2)) (hq : pc + 2 = q) (k : Wp d M q (a0 :: a1 :: a2 :: a3 :: a4 :: a5 :: mL x :: l) (mL x :: S) h b Q) : Wp d M pc (a0 :: a1 :: a2 :: a3 :: a4 :: a5 :: mL x :: l) S h b Q :=
  wp_ss hd (q, (a0 :: a1 :: a2 :: a3 :: a4 :: a5 :: mL x :: l), mL x :: S, h, b) ⟨x, rfl, rfl, by rw [← hq]⟩ k
theorem wp_al6 {a0 a1 a2 a3 a4 a5 : mV} {x : Nat} {l : List mV} (hd : decode (mCode M) pc = .ok (.aload 6, 2)) (hq : pc + 2 = q) (k : Wp d M q (a0 :: a1 :: a2 :: a3 :: a4 :: a5 :: mR x :: l) (mR x :: S) h b Q) : Wp d M pc (a0 :: a1 :: a2 :: a3 :: a4 :: a5 :: mR x :: l) S h b Q :=
  wp_ss hd (q, (a0 :: a1 :: a2 :: a3 :: a4 :: a5 :: mR x :: l), mR x :: S, h, b) ⟨x, rfl, rfl, by rw [← hq]⟩ k
theorem wp_is6 {a0 a1 a2 a3 a4 a5 : mV} {c : mV} {x : Int} {l : List mV} (hd : decode (mCode M) pc = .ok (.istore 6, 2)) (hq : pc + 2 = q) (hb : mLong a5 = false) (k : Wp d M q (a0 :: a1 :: a2 :: a3 :: a4 :: a5 :: mI x :: l) S h b Q) : Wp d M pc (a0 :: a1 :: a2 :: a3 :: a4 :: a5 :: c :: l) (mI x :: S) h b Q :=
  wp_ss hd (q, (a0 :: a1 :: a2 :: a3 :: a4 :: a5 :: mI x :: l), S, h, b) ⟨x, S, rfl, rfl, by show (6 : Nat) < _; simp only [List.length_cons]; omega, Or.inr hb, by rw [← hq]; rfl⟩ k
theorem wp_as6 {a0 a1 a2 a3 a4 a5 : mV} {c : mV} {x : Nat} {l : List mV} (hd : decode (mCode M) pc = .ok (.astore 6, 2)) (hq : pc + 2 = q) (hb : mLong a5 = false) (k : Wp d M q (a0 :: a1 :: a2 :: a3 :: a4 :: a5 :: mR x :: l) S h b Q) : Wp d M pc (a0 :: a1 :: a2 :: a3 :: a4 :: a5 :: c :: l) (mR x :: S) h b Q :=
  wp_ss hd (q, (a0 :: a1 :: a2 :: a3 :: a4 :: a5 :: mR x :: l), S, h, b) ⟨x, S, rfl, rfl, by show (6 : Nat) < _; simp only [List.length_cons]; omega, Or.inr hb, by rw [← hq]; rfl⟩ k
theorem wp_ls6 {a0 a1 a2 a3 a4 a5 : mV} {c c2 : mV} {x : Int} {l : List mV} (hd : decode (mCode M) pc = .ok (.lstore 6, 2)) (hq : pc + 2 = q) (hb : mLong a5 = false) (k : Wp d M q (a0 :: a1 :: a2 :: a3 :: a4 :: a5 :: mL x :: mU :: l) S h b Q) : Wp d M pc (a0 :: a1 :: a2 :: a3 :: a4 :: a5 :: c :: c2 :: l) (mL x :: S) h b Q :=
  wp_ss hd (q, (a0 :: a1 :: a2 :: a3 :: a4 :: a5 :: mL x :: mU :: l), S, h, b) ⟨x, S, rfl, rfl, by show (6 : Nat) + 1 < _; simp only [List.length_cons]; omega, Or.inr hb, by rw [← hq]; rfl⟩ k
theorem wp_ii6 {a0 a1 a2 a3 a4 a5 : mV} {n x : Int} {l : List mV} (hd : decode (mCode M) pc = .ok (.iinc 6 n, 3)) (hq : pc + 3 = q) (hb : mLong a5 = false) (h1 : -2147483648 ≤ x + n) (h2 : x + n ≤ 2147483647) (k : Wp d M q (a0 :: a1 :: a2 :: a3 :: a4 :: a5 :: mI (x + n) :: l) S h b Q) : Wp d M pc (a0 :: a1 :: a2 :: a3 :: a4 :: a5 :: mI x :: l) S h b Q :=
  wp_ss hd (q, (a0 :: a1 :: a2 :: a3 :: a4 :: a5 :: mI (x + n) :: l), S, h, b) ⟨x, rfl, rfl, Or.inr hb, ⟨h1, h2⟩, by rw [← hq]; rfl⟩ k
theorem wp_il7 {a0 a1 a2 a3 a4 a5 a6 : mV} {x : Int} {l : List mV} (hd : decode (mCode M) pc = .ok (.iload 7, 2)) (hq : pc + 2 = q) (k : Wp d M q (a0 :: a1 :: a2 :: a3 :: a4 :: a5 :: a6 :: mI x :: l) (mI x :: S) h b Q) : Wp d M pc (a0 :: a1 :: a2 :: a3 :: a4 :: a5 :: a6 :: mI x :: l) S h b Q :=
  wp_ss hd (q, (a0 :: a1 :: a2 :: a3 :: a4 :: a5 :: a6 :: mI x :: l), mI x :: S, h, b) ⟨x, rfl, rfl, by rw [← hq]⟩ k
theorem wp_ll7 {a0 a1 a2 a3 a4 a5 a6 : mV} {x : Int} {l : List mV} (hd : decode (mCode M) pc = .ok (.lload 7, 2)) (hq : pc + 2 = q) (k : Wp d M q (a0 :: a1 :: a2 :: a3 :: a4 :: a5 :: a6 :: mL x :: l) (mL x :: S) h b Q) : Wp d M pc (a0 :: a1 :: a2 :: a3 :: a4 :: a5 :: a6 :: mL x :: l) S h b Q :=
  wp_ss hd (q, (a0 :: a1 :: a2 :: a3 :: a4 :: a5 :: a6 :: mL x :: l), mL x :: S, h, b) ⟨x, rfl, rfl, by rw [← hq]⟩ k
theorem wp_al7 {a0 a1 a2 a3 a4 a5 a6 : mV} {x : Nat} {l : List mV} (hd : decode (mCode M) pc = .ok (.aload 7, 2)) (hq : pc + 2 = q) (k : Wp d M q (a0 :: a1 :: a2 :: a3 :: a4 :: a5 :: a6 :: mR x :: l) (mR x :: S) h b Q) : Wp d M pc (a0 :: a1 :: a2 :: a3 :: a4 :: a5 :: a6 :: mR x :: l) S h b Q :=
  wp_ss hd (q, (a0 :: a1 :: a2 :: a3 :: a4 :: a5 :: a6 :: mR x :: l), mR x :: S, h, b) ⟨x, rfl, rfl, by rw [← hq]⟩ k
theorem wp_is7 {a0 a1 a2 a3 a4 a5 a6 : mV} {c : mV} {x : Int} {l : List mV} (hd : decode (mCode M) pc = .ok (.istore 7, 2)) (hq : pc + 2 = q) (hb : mLong a6 = false) (k : Wp d M q (a0 :: a1 :: a2 :: a3 :: a4 :: a5 :: a6 :: mI x :: l) S h b Q) : Wp d M pc (a0 :: a1 :: a2 :: a3 :: a4 :: a5 :: a6 :: c :: l) (mI x :: S) h b Q :=
  wp_ss hd (q, (a0 :: a1 :: a2 :: a3 :: a4 :: a5 :: a6 :: mI x :: l), S, h, b) ⟨x, S, rfl, rfl, by show (7 : Nat) < _; simp only [List.length_cons]; omega, Or.inr hb, by rw [← hq]; rfl⟩ k
theorem wp_as7 {a0 a1 a2 a3 a4 a5 a6 : mV} {c : mV} {x : Nat} {l : List mV} (hd : decode (mCode M) pc = .ok (.astore 7, 2)) (hq : pc + 2 = q) (hb : mLong a6 = false) (k : Wp d M q (a0 :: a1 :: a2 :: a3 :: a4 :: a5 :: a6 :: mR x :: l) S h b Q) : Wp d M pc (a0 :: a1 :: a2 :: a3 :: a4 :: a5 :: a6 :: c :: l) (mR x :: S) h b Q :=
  wp_ss hd (q, (a0 :: a1 :: a2 :: a3 :: a4 :: a5 :: a6 :: mR x :: l), S, h, b) ⟨x, S, rfl, rfl, by show (7 : Nat) < _; simp only [List.length_cons]; omega, Or.inr hb, by rw [← hq]; rfl⟩ k
theorem wp_ls7 {a0 a1 a2 a3 a4 a5 a6 : mV} {c c2 : mV} {x : Int} {l : List mV} (hd : decode (mCode M) pc = .ok (.lstore 7, 2)) (hq : pc + 2 = q) (hb : mLong a6 = false) (k : Wp d M q (a0 :: a1 :: a2 :: a3 :: a4 :: a5 :: a6 :: mL x :: mU :: l) S h b Q) : Wp d M pc (a0 :: a1 :: a2 :: a3 :: a4 :: a5 :: a6 :: c :: c2 :: l) (mL x :: S) h b Q :=
  wp_ss hd (q, (a0 :: a1 :: a2 :: a3 :: a4 :: a5 :: a6 :: mL x :: mU :: l), S, h, b) ⟨x, S, rfl, rfl, by show (7 : Nat) + 1 < _; simp only [List.length_cons]; omega, Or.inr hb, by rw [← hq]; rfl⟩ k
theorem wp_ii7 {a0 a1 a2 a3 a4 a5 a6 : mV} {n x : Int} {l : List mV} (hd : decode (mCode M) pc = .ok (.iinc 7 n, 3)) (hq : pc + 3 = q) (hb : mLong a6 = false) (h1 : -2147483648 ≤ x + n) (h2 : x + n ≤ 2147483647) (k : Wp d M q (a0 :: a1 :: a2 :: a3 :: a4 :: a5 :: a6 :: mI (x + n) :: l) S h b Q) : Wp d M pc (a0 :: a1 :: a2 :: a3 :: a4 :: a5 :: a6 :: mI x :: l) S h b Q :=
  wp_ss hd (q, (a0 :: a1 :: a2 :: a3 :: a4 :: a5 :: a6 :: mI (x + n) :: l), S, h, b) ⟨x, rfl, rfl, Or.inr hb, ⟨h1, h2⟩, by rw [← hq]; rfl⟩ k
theorem wp_il8 {a0 a1 a2 a3 a4 a5 a6 a7 : mV} {x : Int} {l : List mV} (hd : decode (mCode M) pc = .ok (.iload 8, 2)) (hq : pc + 2 = q) (k : Wp d M q (a0 :: a1 :: a2 :: a3 :: a4 :: a5 :: a6 :: a7 :: mI x :: l) (mI x :: S) h b Q) : Wp d M pc (a0 :: a1 :: a2 :: a3 :: a4 :: a5 :: a6 :: a7 :: mI x :: l) S h b Q :=
  wp_ss hd (q, (a0 :: a1 :: a2 :: a3 :: a4 :: a5 :: a6 :: a7 :: mI x :: l), mI x :: S, h, b) ⟨x, rfl, rfl, by rw [← hq]⟩ k
theorem wp_ll8 {a0 a1 a2 a3 a4 a5 a6 a7 : mV} {x : Int} {l : List mV} (hd : decode (mCode M) pc = .ok (.lload 8, 2)) (hq : pc + 2 = q) (k : Wp d M q (a0 :: a1 :: a2 :: a3 :: a4 :: a5 :: a6 :: a7 :: mL x :: l) (mL x :: S) h b Q) : Wp d M pc (a0 :: a1 :: a2 :: a3 :: a4 :: a5 :: a6 :: a7 :: mL x :: l) S h b Q :=
  wp_ss hd (q, (a0 :: a1 :: a2 :: a3 :: a4 :: a5 :: a6 :: a7 :: mL x :: l), mL x :: S, h, b) ⟨x, rfl, rfl, by rw [← hq]⟩ k
theorem wp_al8 {a0 a1 a2 a3 a4 a5 a6 a7 : mV} {x : Nat} {l : List mV} (hd : decode (mCode M) pc = .ok (.aload 8, 2)) (hq : pc + 2 = q) (k : Wp d M q (a0 :: a1 :: a2 :: a3 :: a4 :: a5 :: a6 :: a7 :: mR x :: l) (mR x :: S) h b Q) : Wp d M pc (a0 :: a1 :: a2 :: a3 :: a4 :: a5 :: a6 :: a7 :: mR x :: l) S h b Q :=
  wp_ss hd (q, (a0 :: a1 :: a2 :: a3 :: a4 :: a5 :: a6 :: a7 :: mR x :: l), mR x :: S, h, b) ⟨x, rfl, rfl, by rw [← hq]⟩ k
theorem wp_is8 {a0 a1 a2 a3 a4 a5 a6 a7 : mV} {c : mV} {x : Int} {l : List mV} (hd : decode (mCode M) pc = .ok (.istore 8, 2)) (hq : pc + 2 = q) (hb : mLong a7 = false) (k : Wp d M q (a0 :: a1 :: a2 :: a3 :: a4 :: a5 :: a6 :: a7 :: mI x :: l) S h b Q) : Wp d M pc (a0 :: a1 :: a2 :: a3 :: a4 :: a5 :: a6 :: a7 :: c :: l) (mI x :: S) h b Q :=
  wp_ss hd (q, (a0 :: a1 :: a2 :: a3 :: a4 :: a5 :: a6 :: a7 :: mI x :: l), S, h, b) ⟨x, S, rfl, rfl, by show (8 : Nat) < _; simp only [List.length_cons]; omega, Or.inr hb, by rw [← hq]; rfl⟩ k
theorem wp_as8 {a0 a1 a2 a3 a4 a5 a6 a7 : mV} {c : mV} {x : Nat} {l : List mV} (hd : decode (mCode M) pc = .ok (.astore 8, 2)) (hq : pc + 2 = q) (hb : mLong a7 = false) (k : Wp d M q (a0 :: a1 :: a2 :: a3 :: a4 :: a5 :: a6 :: a7 :: mR x :: l) S h b Q) : Wp d M pc (a0 :: a1 :: a2 :: a3 :: a4 :: a5 :: a6 :: a7 :: c :: l) (mR x :: S) h b Q :=
  wp_ss hd (q, (a0 :: a1 :: a2 :: a3 :: a4 :: a5 :: a6 :: a7 :: mR x :: l), S, h, b) ⟨x, S, rfl, rfl, by show (8 : Nat) < _; simp only [List.length_cons]; omega, Or.inr hb, by rw [← hq]; rfl⟩ k
theorem wp_ls8 {a0 a1 a2 a3 a4 a5 a6 a7 : mV} {c c2 : mV} {x : Int} {l : List mV} (hd : decode (mCode M) pc = .ok (.lstore 8, 2)) (hq : pc + 2 = q) (hb : mLong a7 = false) (k : Wp d M q (a0 :: a1 :: a2 :: a3 :: a4 :: a5 :: a6 :: a7 :: mL x :: mU :: l) S h b Q) : Wp d M pc (a0 :: a1 :: a2 :: a3 :: a4 :: a5 :: a6 :: a7 :: c :: c2 :: l) (mL x :: S) h b Q :=
  wp_ss hd (q, (a0 :: a1 :: a2 :: a3 :: a4 :: a5 :: a6 :: a7 :: mL x :: mU :: l), S, h, b) ⟨x, S, rfl, rfl, by show (8 : Nat) + 1 < _; simp only [List.length_cons]; omega, Or.inr hb, by rw [← hq]; rfl⟩ k
theorem wp_ii8 {a0 a1 a2 a3 a4 a5 a6 a7 : mV} {n x : Int} {l : List mV} (hd : decode (mCode M) pc = .ok (.iinc 8 n, 3)) (hq : pc + 3 = q) (hb : mLong a7 = false) (h1 : -2147483648 ≤ x + n) (h2 : x + n ≤ 2147483647) (k : Wp d M q (a0 :: a1 :: a2 :: a3 :: a4 :: a5 :: a6 :: a7 :: mI (x + n) :: l) S h b Q) : Wp d M pc (a0 :: a1 :: a2 :: a3 :: a4 :: a5 :: a6 :: a7 :: mI x :: l) S h b Q :=
  wp_ss hd (q, (a0 :: a1 :: a2 :: a3 :: a4 :: a5 :: a6 :: a7 :: mI (x + n) :: l), S, h, b) ⟨x, rfl, rfl, Or.inr hb, ⟨h1, h2⟩, by rw [← hq]; rfl⟩ k
theorem wp_il9 {a0 a1 a2 a3 a4 a5 a6 a7 a8 : mV} {x : Int} {l : List mV} (hd : decode (mCode M) pc = .ok (.iload 9, 2)) (hq : pc + 2 = q) (k : Wp d M q (a0 :: a1 :: a2 :: a3 :: a4 :: a5 :: a6 :: a7 :: a8 :: mI x :: l) (mI x :: S) h b Q) : Wp d M pc (a0 :: a1 :: a2 :: a3 :: a4 :: a5 :: a6 :: a7 :: a8 :: mI x :: l) S h b Q :=
  wp_ss hd (q, (a0 :: a1 :: a2 :: a3 :: a4 :: a5 :: a6 :: a7 :: a8 :: mI x :: l), mI x :: S, h, b) ⟨x, rfl, rfl, by rw [← hq]⟩ k
theorem wp_ll9 {a0 a1 a2 a3 a4 a5 a6 a7 a8 : mV} {x : Int} {l : List mV} (hd : decode (mCode M) pc = .ok (.lload 9, 2)) (hq : pc + 2 = q) (k : Wp d M q (a0 :: a1 :: a2 :: a3 :: a4 :: a5 :: a6 :: a7 :: a8 :: mL x :: l) (mL x :: S) h b Q) : Wp d M pc (a0 :: a1 :: a2 :: a3 :: a4 :: a5 :: a6 :: a7 :: a8 :: mL x :: l) S h b Q :=
  wp_ss hd (q, (a0 :: a1 :: a2 :: a3 :: a4 :: a5 :: a6 :: a7 :: a8 :: mL x :: l), mL x :: S, h, b) ⟨x, rfl, rfl, by rw [← hq]⟩ k
theorem wp_al9 {a0 a1 a2 a3 a4 a5 a6 a7 a8 : mV} {x : Nat} {l : List mV} (hd : decode (mCode M) pc = .ok (.aload 9, 2)) (hq : pc + 2 = q) (k : Wp d M q (a0 :: a1 :: a2 :: a3 :: a4 :: a5 :: a6 :: a7 :: a8 :: mR x :: l) (mR x :: S) h b Q) : Wp d M pc (a0 :: a1 :: a2 :: a3 :: a4 :: a5 :: a6 :: a7 :: a8 :: mR x :: l) S h b Q :=
  wp_ss hd (q, (a0 :: a1 :: a2 :: a3 :: a4 :: a5 :: a6 :: a7 :: a8 :: mR x :: l), mR x :: S, h, b) ⟨x, rfl, rfl, by rw [← hq]⟩ k
theorem wp_is9 {a0 a1 a2 a3 a4 a5 a6 a7 a8 : mV} {c : mV} {x : Int} {l : List mV} (hd : decode (mCode M) pc = .ok (.istore 9, 2)) (hq : pc + 2 = q) (hb : mLong a8 = false) (k : Wp d M q (a0 :: a1 :: a2 :: a3 :: a4 :: a5 :: a6 :: a7 :: a8 :: mI x :: l) S h b Q) : Wp d M pc (a0 :: a1 :: a2 :: a3 :: a4 :: a5 :: a6 :: a7 :: a8 :: c :: l) (mI x :: S) h b Q :=
  wp_ss hd (q, (a0 :: a1 :: a2 :: a3 :: a4 :: a5 :: a6 :: a7 :: a8 :: mI x :: l), S, h, b) ⟨x, S, rfl, rfl, by show (9 : Nat) < _; simp only [List.length_cons]; omega, Or.inr hb, by rw [← hq]; rfl⟩ k
theorem wp_as9 {a0 a1 a2 a3 a4 a5 a6 a7 a8 : mV} {c : mV} {x : Nat} {l : List mV} (hd : decode (mCode M) pc = .ok (.astore 9, 2)) (hq : pc + 2 = q) (hb : mLong a8 = false) (k : Wp d M q (a0 :: a1 :: a2 :: a3 :: a4 :: a5 :: a6 :: a7 :: a8 :: mR x :: l) S h b Q) : Wp d M pc (a0 :: a1 :: a2 :: a3 :: a4 :: a5 :: a6 :: a7 :: a8 :: c :: l) (mR x :: S) h b Q :=
  wp_ss hd (q, (a0 :: a1 :: a2 :: a3 :: a4 :: a5 :: a6 :: a7 :: a8 :: mR x :: l), S, h, b) ⟨x, S, rfl, rfl, by show (9 : Nat) < _; simp only [List.length_cons]; omega, Or.inr hb, by rw [← hq]; rfl⟩ k
theorem wp_ls9 {a0 a1 a2 a3 a4 a5 a6 a7 a8 : mV} {c c2 : mV} {x : Int} {l : List mV} (hd : decode (mCode M) pc = .ok (.lstore 9, 2)) (hq : pc + 2 = q) (hb : mLong a8 = false) (k : Wp d M q (a0 :: a1 :: a2 :: a3 :: a4 :: a5 :: a6 :: a7 :: a8 :: mL x :: mU :: l) S h b Q) : Wp d M pc (a0 :: a1 :: a2 :: a3 :: a4 :: a5 :: a6 :: a7 :: a8 :: c :: c2 :: l) (mL x :: S) h b Q :=
  wp_ss hd (q, (a0 :: a1 :: a2 :: a3 :: a4 :: a5 :: a6 :: a7 :: a8 :: mL x :: mU :: l), S, h, b) ⟨x, S, rfl, rfl, by show (9 : Nat) + 1 < _; simp only [List.length_cons]; omega, Or.inr hb, by rw [← hq]; rfl⟩ k
theorem wp_ii9 {a0 a1 a2 a3 a4 a5 a6 a7 a8 : mV} {n x : Int} {l : List mV} (hd : decode (mCode M) pc = .ok (.iinc 9 n, 3)) (hq : pc + 3 = q) (hb : mLong a8 = false) (h1 : -2147483648 ≤ x + n) (h2 : x + n ≤ 2147483647) (k : Wp d M q (a0 :: a1 :: a2 :: a3 :: a4 :: a5 :: a6 :: a7 :: a8 :: mI (x + n) :: l) S h b Q) : Wp d M pc (a0 :: a1 :: a2 :: a3 :: a4 :: a5 :: a6 :: a7 :: a8 :: mI x :: l) S h b Q :=
  wp_ss hd (q, (a0 :: a1 :: a2 :: a3 :: a4 :: a5 :: a6 :: a7 :: a8 :: mI (x + n) :: l), S, h, b) ⟨x, rfl, rfl, Or.inr hb, ⟨h1, h2⟩, by rw [← hq]; rfl⟩ k
theorem wp_il10 {a0 a1 a2 a3 a4 a5 a6 a7 a8 a9 : mV} {x : Int} {l : List mV} (hd : decode (mCode M) pc = .ok (.iload 10, 2)) (hq : pc + 2 = q) (k : Wp d M q (a0 :: a1 :: a2 :: a3 :: a4 :: a5 :: a6 :: a7 :: a8 :: a9 :: mI x :: l) (mI x :: S) h b Q) : Wp d M pc (a0 :: a1 :: a2 :: a3 :: a4 :: a5 :: a6 :: a7 :: a8 :: a9 :: mI x :: l) S h b Q :=
  wp_ss hd (q, (a0 :: a1 :: a2 :: a3 :: a4 :: a5 :: a6 :: a7 :: a8 :: a9 :: mI x :: l), mI x :: S, h, b) ⟨x, rfl, rfl, by rw [← hq]⟩ k
theorem wp_ll10 {a0 a1 a2 a3 a4 a5 a6 a7 a8 a9 : mV} {x : Int} {l : List mV} (hd : decode (mCode M) pc = .ok (.lload 10, 2)) (hq : pc + 2 = q) (k : Wp d M q (a0 :: a1 :: a2 :: a3 :: a4 :: a5 :: a6 :: a7 :: a8 :: a9 :: mL x :: l) (mL x :: S) h b Q) : Wp d M pc (a0 :: a1 :: a2 :: a3 :: a4 :: a5 :: a6 :: a7 :: a8 :: a9 :: mL x :: l) S h b Q :=
  wp_ss hd (q, (a0 :: a1 :: a2 :: a3 :: a4 :: a5 :: a6 :: a7 :: a8 :: a9 :: mL x :: l), mL x :: S, h, b) ⟨x, rfl, rfl, by rw [← hq]⟩ k
theorem wp_al10 {a0 a1 a2 a3 a4 a5 a6 a7 a8 a9 : mV} {x : Nat} {l : List mV} (hd : decode (mCode M) pc = .ok (.aload 10, 2)) (hq : pc + 2 = q) (k : Wp d M q (a0 :: a1 :: a2 :: a3 :: a4 :: a5 :: a6 :: a7 :: a8 :: a9 :: mR x :: l) (mR x :: S) h b Q) : Wp d M pc (a0 :: a1 :: a2 :: a3 :: a4 :: a5 :: a6 :: a7 :: a8 :: a9 :: mR x :: l) S h b Q :=
  wp_ss hd (q, (a0 :: a1 :: a2 :: a3 :: a4 :: a5 :: a6 :: a7 :: a8 :: a9 :: mR x :: l), mR x :: S, h, b) ⟨x, rfl, rfl, by rw [← hq]⟩ k
theorem wp_is10 {a0 a1 a2 a3 a4 a5 a6 a7 a8 a9 : mV} {c : mV} {x : Int} {l : List mV} (hd : decode (mCode M) pc = .ok (.istore 10, 2)) (hq : pc + 2 = q) (hb : mLong a9 = false) (k : Wp d M q (a0 :: a1 :: a2 :: a3 :: a4 :: a5 :: a6 :: a7 :: a8 :: a9 :: mI x :: l) S h b Q) : Wp d M pc (a0 :: a1 :: a2 :: a3 :: a4 :: a5 :: a6 :: a7 :: a8 :: a9 :: c :: l) (mI x :: S) h b Q :=
  wp_ss hd (q, (a0 :: a1 :: a2 :: a3 :: a4 :: a5 :: a6 :: a7 :: a8 :: a9 :: mI x :: l), S, h, b) ⟨x, S, rfl, rfl, by show (10 : Nat) < _; simp only [List.length_cons]; omega, Or.inr hb, by rw [← hq]; rfl⟩ k
theorem wp_as10 {a0 a1 a2 a3 a4 a5 a6 a7 a8 a9 : mV} {c : mV} {x : Nat} {l : List mV} (hd : decode (mCode M) pc = .ok (.astore 10, 2)) (hq : pc + 2 = q) (hb : mLong a9 = false) (k : Wp d M q (a0 :: a1 :: a2 :: a3 :: a4 :: a5 :: a6 :: a7 :: a8 :: a9 :: mR x :: l) S h b Q) : Wp d M pc (a0 :: a1 :: a2 :: a3 :: a4 :: a5 :: a6 :: a7 :: a8 :: a9 :: c :: l) (mR x :: S) h b Q :=
  wp_ss hd (q, (a0 :: a1 :: a2 :: a3 :: a4 :: a5 :: a6 :: a7 :: a8 :: a9 :: mR x :: l), S, h, b) ⟨x, S, rfl, rfl, by show (10 : Nat) < _; simp only [List.length_cons]; omega, Or.inr hb, by rw [← hq]; rfl⟩ k
theorem wp_ls10 {a0 a1 a2 a3 a4 a5 a6 a7 a8 a9 : mV} {c c2 : mV} {x : Int} {l : List mV} (hd : decode (mCode M) pc = .ok (.lstore 10, 2)) (hq : pc + 2 = q) (hb : mLong a9 = false) (k : Wp d M q (a0 :: a1 :: a2 :: a3 :: a4 :: a5 :: a6 :: a7 :: a8 :: a9 :: mL x :: mU :: l) S h b Q) : Wp d M pc (a0 :: a1 :: a2 :: a3 :: a4 :: a5 :: a6 :: a7 :: a8 :: a9 :: c :: c2 :: l) (mL x :: S) h b Q :=
  wp_ss hd (q, (a0 :: a1 :: a2 :: a3 :: a4 :: a5 :: a6 :: a7 :: a8 :: a9 :: mL x :: mU :: l), S, h, b) ⟨x, S, rfl, rfl, by show (10 : Nat) + 1 < _; simp only [List.length_cons]; omega, Or.inr hb, by rw [← hq]; rfl⟩ k
theorem wp_ii10 {a0 a1 a2 a3 a4 a5 a6 a7 a8 a9 : mV} {n x : Int} {l : List mV} (hd : decode (mCode M) pc = .ok (.iinc 10 n, 3)) (hq : pc + 3 = q) (hb : mLong a9 = false) (h1 : -2147483648 ≤ x + n) (h2 : x + n ≤ 2147483647) (k : Wp d M q (a0 :: a1 :: a2 :: a3 :: a4 :: a5 :: a6 :: a7 :: a8 :: a9 :: mI (x + n) :: l) S h b Q) : Wp d M pc (a0 :: a1 :: a2 :: a3 :: a4 :: a5 :: a6 :: a7 :: a8 :: a9 :: mI x :: l) S h b Q :=
  wp_ss hd (q, (a0 :: a1 :: a2 :: a3 :: a4 :: a5 :: a6 :: a7 :: a8 :: a9 :: mI (x + n) :: l), S, h, b) ⟨x, rfl, rfl, Or.inr hb, ⟨h1, h2⟩, by rw [← hq]; rfl⟩ k
theorem wp_il11 {a0 a1 a2 a3 a4 a5 a6 a7 a8 a9 a10 : mV} {x : Int} {l : List mV} (hd : decode (mCode M) pc = .ok (.iload 11, 2)) (hq : pc + 2 = q) (k : Wp d M q (a0 :: a1 :: a2 :: a3 :: a4 :: a5 :: a6 :: a7 :: a8 :: a9 :: a10 :: mI x :: l) (mI x :: S) h b Q) : Wp d M pc (a0 :: a1 :: a2 :: a3 :: a4 :: a5 :: a6 :: a7 :: a8 :: a9 :: a10 :: mI x :: l) S h b Q :=
  wp_ss hd (q, (a0 :: a1 :: a2 :: a3 :: a4 :: a5 :: a6 :: a7 :: a8 :: a9 :: a10 :: mI x :: l), mI x :: S, h, b) ⟨x, rfl, rfl, by rw [← hq]⟩ k
theorem wp_ll11 {a0 a1 a2 a3 a4 a5 a6 a7 a8 a9 a10 : mV} {x : Int} {l : List mV} (hd : decode (mCode M) pc = .ok (.lload 11, 2)) (hq : pc + 2 = q) (k : Wp d M q (a0 :: a1 :: a2 :: a3 :: a4 :: a5 :: a6 :: a7 :: a8 :: a9 :: a10 :: mL x :: l) (mL x :: S) h b Q) : Wp d M pc (a0 :: a1 :: a2 :: a3 :: a4 :: a5 :: a6 :: a7 :: a8 :: a9 :: a10 :: mL x :: l) S h b Q :=
  wp_ss hd (q, (a0 :: a1 :: a2 :: a3 :: a4 :: a5 :: a6 :: a7 :: a8 :: a9 :: a10 :: mL x :: l), mL x :: S, h, b) ⟨x, rfl, rfl, by rw [← hq]⟩ k
theorem wp_al11 {a0 a1 a2 a3 a4 a5 a6 a7 a8 a9 a10 : mV} {x : Nat} {l : List mV} (hd : decode (mCode M) pc = .ok (.aload 11, 2)) (hq : pc + 2 = q) (k : Wp d M q (a0 :: a1 :: a2 :: a3 :: a4 :: a5 :: a6 :: a7 :: a8 :: a9 :: a10 :: mR x :: l) (mR x :: S) h b Q) : Wp d M pc (a0 :: a1 :: a2 :: a3 :: a4 :: a5 :: a6 :: a7 :: a8 :: a9 :: a10 :: mR x :: l) S h b Q :=
  wp_ss hd (q, (a0 :: a1 :: a2 :: a3 :: a4 :: a5 :: a6 :: a7 :: a8 :: a9 :: a10 :: mR x :: l), mR x :: S, h, b) ⟨x, rfl, rfl, by rw [← hq]⟩ k
theorem wp_is11 {a0 a1 a2 a3 a4 a5 a6 a7 a8 a9 a10 : mV} {c : mV} {x : Int} {l : List mV} (hd : decode (mCode M) pc = .ok (.istore 11, 2)) (hq : pc + 2 = q) (hb : mLong a10 = false) (k : Wp d M q (a0 :: a1 :: a2 :: a3 :: a4 :: a5 :: a6 :: a7 :: a8 :: a9 :: a10 :: mI x :: l) S h b Q) : Wp d M pc (a0 :: a1 :: a2 :: a3 :: a4 :: a5 :: a6 :: a7 :: a8 :: a9 :: a10 :: c :: l) (mI x :: S) h b Q :=
  wp_ss hd (q, (a0 :: a1 :: a2 :: a3 :: a4 :: a5 :: a6 :: a7 :: a8 :: a9 :: a10 :: mI x :: l), S, h, b) ⟨x, S, rfl, rfl, by show (11 : Nat) < _; simp only [List.length_cons]; omega, Or.inr hb, by rw [← hq]; rfl⟩ k
theorem wp_as11 {a0 a1 a2 a3 a4 a5 a6 a7 a8 a9 a10 : mV} {c : mV} {x : Nat} {l : List mV} (hd : decode (mCode M) pc = .ok (.astore 11, 2)) (hq : pc + 2 = q) (hb : mLong a10 = false) (k : Wp d M q (a0 :: a1 :: a2 :: a3 :: a4 :: a5 :: a6 :: a7 :: a8 :: a9 :: a10 :: mR x :: l) S h b Q) : Wp d M pc (a0 :: a1 :: a2 :: a3 :: a4 :: a5 :: a6 :: a7 :: a8 :: a9 :: a10 :: c :: l) (mR x :: S) h b Q :=
  wp_ss hd (q, (a0 :: a1 :: a2 :: a3 :: a4 :: a5 :: a6 :: a7 :: a8 :: a9 :: a10 :: mR x :: l), S, h, b) ⟨x, S, rfl, rfl, by show (11 : Nat) < _; simp only [List.length_cons]; omega, Or.inr hb, by rw [← hq]; rfl⟩ k
theorem wp_ls11 {a0 a1 a2 a3 a4 a5 a6 a7 a8 a9 a10 : mV} {c c2 : mV} {x : Int} {l : List mV} (hd : decode (mCode M) pc = .ok (.lstore 11, 2)) (hq : pc + 2 = q) (hb : mLong a10 = false) (k : Wp d M q (a0 :: a1 :: a2 :: a3 :: a4 :: a5 :: a6 :: a7 :: a8 :: a9 :: a10 :: mL x :: mU :: l) S h b Q) : Wp d M pc (a0 :: a1 :: a2 :: a3 :: a4 :: a5 :: a6 :: a7 :: a8 :: a9 :: a10 :: c :: c2 :: l) (mL x :: S) h b Q :=
  wp_ss hd (q, (a0 :: a1 :: a2 :: a3 :: a4 :: a5 :: a6 :: a7 :: a8 :: a9 :: a10 :: mL x :: mU :: l), S, h, b) ⟨x, S, rfl, rfl, by show (11 : Nat) + 1 < _; simp only [List.length_cons]; omega, Or.inr hb, by rw [← hq]; rfl⟩ k
theorem wp_ii11 {a0 a1 a2 a3 a4 a5 a6 a7 a8 a9 a10 : mV} {n x : Int} {l : List mV} (hd : decode (mCode M) pc = .ok (.iinc 11 n, 3)) (hq : pc + 3 = q) (hb : mLong a10 = false) (h1 : -2147483648 ≤ x + n) (h2 : x + n ≤ 2147483647) (k : Wp d M q (a0 :: a1 :: a2 :: a3 :: a4 :: a5 :: a6 :: a7 :: a8 :: a9 :: a10 :: mI (x + n) :: l) S h b Q) : Wp d M pc (a0 :: a1 :: a2 :: a3 :: a4 :: a5 :: a6 :: a7 :: a8 :: a9 :: a10 :: mI x :: l) S h b Q :=
  wp_ss hd (q, (a0 :: a1 :: a2 :: a3 :: a4 :: a5 :: a6 :: a7 :: a8 :: a9 :: a10 :: mI (x + n) :: l), S, h, b) ⟨x, rfl, rfl, Or.inr hb, ⟨h1, h2⟩, by rw [← hq]; rfl⟩ k
theorem wp_il12 {a0 a1 a2 a3 a4 a5 a6 a7 a8 a9 a10 a11 : mV} {x : Int} {l : List mV} (hd : decode (mCode M) pc = .ok (.iload 12, 2)) (hq : pc + 2 = q) (k : Wp d M q (a0 :: a1 :: a2 :: a3 :: a4 :: a5 :: a6 :: a7 :: a8 :: a9 :: a10 :: a11 :: mI x :: l) (mI x :: S) h b Q) : Wp d M pc (a0 :: a1 :: a2 :: a3 :: a4 :: a5 :: a6 :: a7 :: a8 :: a9 :: a10 :: a11 :: mI x :: l) S h b Q :=
  wp_ss hd (q, (a0 :: a1 :: a2 :: a3 :: a4 :: a5 :: a6 :: a7 :: a8 :: a9 :: a10 :: a11 :: mI x :: l), mI x :: S, h, b) ⟨x, rfl, rfl, by rw [← hq]⟩ k
theorem wp_ll12 {a0 a1 a2 a3 a4 a5 a6 a7 a8 a9 a10 a11 : mV} {x : Int} {l : List mV} (hd : decode (mCode M) pc = .ok (.lload 12, 2)) (hq : pc + 2 = q) (k : Wp d M q (a0 :: a1 :: a2 :: a3 :: a4 :: a5 :: a6 :: a7 :: a8 :: a9 :: a10 :: a11 :: mL x :: l) (mL x :: S) h b Q) : Wp d M pc (a0 :: a1 :: a2 :: a3 :: a4 :: a5 :: a6 :: a7 :: a8 :: a9 :: a10 :: a11 :: mL x :: l) S h b Q :=
  wp_ss hd (q, (a0 :: a1 :: a2 :: a3 :: a4 :: a5 :: a6 :: a7 :: a8 :: a9 :: a10 :: a11 :: mL x :: l), mL x :: S, h, b) ⟨x, rfl, rfl, by rw [← hq]⟩ k
theorem wp_al12 {a0 a1 a2 a3 a4 a5 a6 a7 a8 a9 a10 a11 : mV} {x : Nat} {l : List mV} (hd : decode (mCode M) pc = .ok (.aload 12, 2)) (hq : pc + 2 = q) (k : Wp d M q (a0 :: a1 :: a2 :: a3 :: a4 :: a5 :: a6 :: a7 :: a8 :: a9 :: a10 :: a11 :: mR x :: l) (mR x :: S) h b Q) : Wp d M pc (a0 :: a1 :: a2 :: a3 :: a4 :: a5 :: a6 :: a7 :: a8 :: a9 :: a10 :: a11 :: mR x :: l) S h b Q :=
  wp_ss hd (q, (a0 :: a1 :: a2 :: a3 :: a4 :: a5 :: a6 :: a7 :: a8 :: a9 :: a10 :: a11 :: mR x :: l), mR x :: S, h, b) ⟨x, rfl, rfl, by rw [← hq]⟩ k
theorem wp_is12 {a0 a1 a2 a3 a4 a5 a6 a7 a8 a9 a10 a11 : mV} {c : mV} {x : Int} {l : List mV} (hd : decode (mCode M) pc = .ok (.istore 12, 2)) (hq : pc + 2 = q) (hb : mLong a11 = false) (k : Wp d M q (a0 :: a1 :: a2 :: a3 :: a4 :: a5 :: a6 :: a7 :: a8 :: a9 :: a10 :: a11 :: mI x :: l) S h b Q) : Wp d M pc (a0 :: a1 :: a2 :: a3 :: a4 :: a5 :: a6 :: a7 :: a8 :: a9 :: a10 :: a11 :: c :: l) (mI x :: S) h b Q :=
  wp_ss hd (q, (a0 :: a1 :: a2 :: a3 :: a4 :: a5 :: a6 :: a7 :: a8 :: a9 :: a10 :: a11 :: mI x :: l), S, h, b) ⟨x, S, rfl, rfl, by show (12 : Nat) < _; simp only [List.length_cons]; omega, Or.inr hb, by rw [← hq]; rfl⟩ k
theorem wp_as12 {a0 a1 a2 a3 a4 a5 a6 a7 a8 a9 a10 a11 : mV} {c : mV} {x : Nat} {l : List mV} (hd : decode (mCode M) pc = .ok (.astore 12, 2)) (hq : pc + 2 = q) (hb : mLong a11 = false) (k : Wp d M q (a0 :: a1 :: a2 :: a3 :: a4 :: a5 :: a6 :: a7 :: a8 :: a9 :: a10 :: a11 :: mR x :: l) S h b Q) : Wp d M pc (a0 :: a1 :: a2 :: a3 :: a4 :: a5 :: a6 :: a7 :: a8 :: a9 :: a10 :: a11 :: c :: l) (mR x :: S) h b Q :=
  wp_ss hd (q, (a0 :: a1 :: a2 :: a3 :: a4 :: a5 :: a6 :: a7 :: a8 :: a9 :: a10 :: a11 :: mR x :: l), S, h, b) ⟨x, S, rfl, rfl, by show (12 : Nat) < _; simp only [List.length_cons]; omega, Or.inr hb, by rw [← hq]; rfl⟩ k
theorem wp_ls12 {a0 a1 a2 a3 a4 a5 a6 a7 a8 a9 a10 a11 : mV} {c c2 : mV} {x : Int} {l : List mV} (hd : decode (mCode M) pc = .ok (.lstore 12, 2)) (hq : pc + 2 = q) (hb : mLong a11 = false) (k : Wp d M q (a0 :: a1 :: a2 :: a3 :: a4 :: a5 :: a6 :: a7 :: a8 :: a9 :: a10 :: a11 :: mL x :: mU :: l) S h b Q) : Wp d M pc (a0 :: a1 :: a2 :: a3 :: a4 :: a5 :: a6 :: a7 :: a8 :: a9 :: a10 :: a11 :: c :: c2 :: l) (mL x :: S) h b Q :=
  wp_ss hd (q, (a0 :: a1 :: a2 :: a3 :: a4 :: a5 :: a6 :: a7 :: a8 :: a9 :: a10 :: a11 :: mL x :: mU :: l), S, h, b) ⟨x, S, rfl, rfl, by show (12 : Nat) + 1 < _; simp only [List.length_cons]; omega, Or.inr hb, by rw [← hq]; rfl⟩ k
theorem wp_ii12 {a0 a1 a2 a3 a4 a5 a6 a7 a8 a9 a10 a11 : mV} {n x : Int} {l : List mV} (hd : decode (mCode M) pc = .ok (.iinc 12 n, 3)) (hq : pc + 3 = q) (hb : mLong a11 = false) (h1 : -2147483648 ≤ x + n) (h2 : x + n ≤ 2147483647) (k : Wp d M q (a0 :: a1 :: a2 :: a3 :: a4 :: a5 :: a6 :: a7 :: a8 :: a9 :: a10 :: a11 :: mI (x + n) :: l) S h b Q) : Wp d M pc (a0 :: a1 :: a2 :: a3 :: a4 :: a5 :: a6 :: a7 :: a8 :: a9 :: a10 :: a11 :: mI x :: l) S h b Q :=
  wp_ss hd (q, (a0 :: a1 :: a2 :: a3 :: a4 :: a5 :: a6 :: a7 :: a8 :: a9 :: a10 :: a11 :: mI (x + n) :: l), S, h, b) ⟨x, rfl, rfl, Or.inr hb, ⟨h1, h2⟩, by rw [← hq]; rfl⟩ k
theorem wp_ic {n : Int} (hd : decode (mCode M) pc = .ok (.iconst n, 1)) (hq : pc + 1 = q) (h1 : -2147483648 ≤ n) (h2 : n ≤ 2147483647) (k : Wp d M q L (mI n :: S) h b Q) : Wp d M pc L S h b Q :=
  wp_ss hd (q, L, mI n :: S, h, b) ⟨rfl, ⟨h1, h2⟩, by rw [← hq]⟩ k
theorem wp_bi {n : Int} (hd : decode (mCode M) pc = .ok (.bipush n, 2)) (hq : pc + 2 = q) (h1 : -128 ≤ n) (h2 : n < 128) (k : Wp d M q L (mI n :: S) h b Q) : Wp d M pc L S h b Q :=
  wp_ss hd (q, L, mI n :: S, h, b) ⟨rfl, h1, h2, by rw [← hq]⟩ k
theorem wp_si {n : Int} (hd : decode (mCode M) pc = .ok (.sipush n, 3)) (hq : pc + 3 = q) (h1 : -32768 ≤ n) (h2 : n < 32768) (k : Wp d M q L (mI n :: S) h b Q) : Wp d M pc L S h b Q :=
  wp_ss hd (q, L, mI n :: S, h, b) ⟨rfl, h1, h2, by rw [← hq]⟩ k
theorem wp_lc0  (hd : decode (mCode M) pc = .ok (.lconst 0, 1)) (hq : pc + 1 = q) (k : Wp d M q L (mL 0 :: S) h b Q) : Wp d M pc L S h b Q :=
  wp_ss hd (q, L, mL 0 :: S, h, b) ⟨rfl, by rw [← hq]; rfl⟩ k
theorem wp_lc1  (hd : decode (mCode M) pc = .ok (.lconst 1, 1)) (hq : pc + 1 = q) (k : Wp d M q L (mL 1 :: S) h b Q) : Wp d M pc L S h b Q :=
  wp_ss hd (q, L, mL 1 :: S, h, b) ⟨rfl, by rw [← hq]; rfl⟩ k
theorem wp_ldl {idx : Nat} (x : Int) (hd : decode (mCode M) pc = .ok (.ldc2_w idx, 3)) (hq : pc + 3 = q) (hw : Cond.constantLong (mN (mOwn M)) idx (Int64.ofInt x) ∈ gT) (h1 : -9223372036854775808 ≤ x) (h2 : x ≤ 9223372036854775807) (k : Wp d M q L (mL x :: S) h b Q) : Wp d M pc L S h b Q :=
  wp_ss hd (q, L, mL x :: S, h, b) ⟨x, rfl, ⟨h1, h2⟩, hw, by rw [← hq]⟩ k
theorem wp_ldi {idx : Nat} (x : Int) (hd : decode (mCode M) pc = .ok (.ldc_w idx, 3)) (hq : pc + 3 = q) (hw : Cond.constant (mN (mOwn M)) idx (Int32.ofInt x) ∈ gT) (h1 : -2147483648 ≤ x) (h2 : x ≤ 2147483647) (k : Wp d M q L (mI x :: S) h b Q) : Wp d M pc L S h b Q :=
  wp_ss hd (q, L, mI x :: S, h, b) ⟨x, rfl, ⟨h1, h2⟩, hw, by rw [← hq]⟩ k
theorem wp_iadd {x y : Int} (hd : decode (mCode M) pc = .ok (.iadd, 1)) (hq : pc + 1 = q) (h1 : -2147483648 ≤ x + y) (h2 : x + y ≤ 2147483647) (k : Wp d M q L (mI (x + y) :: S) h b Q) : Wp d M pc L (mI y :: mI x :: S) h b Q :=
  wp_ss hd (q, L, mI (x + y) :: S, h, b) ⟨x, y, S, rfl, rfl, ⟨h1, h2⟩, by rw [← hq]⟩ k
theorem wp_isub {x y : Int} (hd : decode (mCode M) pc = .ok (.isub, 1)) (hq : pc + 1 = q) (h1 : -2147483648 ≤ x - y) (h2 : x - y ≤ 2147483647) (k : Wp d M q L (mI (x - y) :: S) h b Q) : Wp d M pc L (mI y :: mI x :: S) h b Q :=
  wp_ss hd (q, L, mI (x - y) :: S, h, b) ⟨x, y, S, rfl, rfl, ⟨h1, h2⟩, by rw [← hq]⟩ k
theorem wp_imul {x y : Int} (hd : decode (mCode M) pc = .ok (.imul, 1)) (hq : pc + 1 = q) (h1 : -2147483648 ≤ x * y) (h2 : x * y ≤ 2147483647) (k : Wp d M q L (mI (x * y) :: S) h b Q) : Wp d M pc L (mI y :: mI x :: S) h b Q :=
  wp_ss hd (q, L, mI (x * y) :: S, h, b) ⟨x, y, S, rfl, rfl, ⟨h1, h2⟩, by rw [← hq]⟩ k
theorem wp_ladd {x y : Int} (hd : decode (mCode M) pc = .ok (.ladd, 1)) (hq : pc + 1 = q) (h1 : -9223372036854775808 ≤ x + y) (h2 : x + y ≤ 9223372036854775807) (k : Wp d M q L (mL (x + y) :: S) h b Q) : Wp d M pc L (mL y :: mL x :: S) h b Q :=
  wp_ss hd (q, L, mL (x + y) :: S, h, b) ⟨x, y, S, rfl, rfl, ⟨h1, h2⟩, by rw [← hq]⟩ k
theorem wp_lsub {x y : Int} (hd : decode (mCode M) pc = .ok (.lsub, 1)) (hq : pc + 1 = q) (h1 : -9223372036854775808 ≤ x - y) (h2 : x - y ≤ 9223372036854775807) (k : Wp d M q L (mL (x - y) :: S) h b Q) : Wp d M pc L (mL y :: mL x :: S) h b Q :=
  wp_ss hd (q, L, mL (x - y) :: S, h, b) ⟨x, y, S, rfl, rfl, ⟨h1, h2⟩, by rw [← hq]⟩ k
theorem wp_lmul {x y : Int} (hd : decode (mCode M) pc = .ok (.lmul, 1)) (hq : pc + 1 = q) (h1 : -9223372036854775808 ≤ x * y) (h2 : x * y ≤ 9223372036854775807) (k : Wp d M q L (mL (x * y) :: S) h b Q) : Wp d M pc L (mL y :: mL x :: S) h b Q :=
  wp_ss hd (q, L, mL (x * y) :: S, h, b) ⟨x, y, S, rfl, rfl, ⟨h1, h2⟩, by rw [← hq]⟩ k
theorem wp_idiv {x y : Int} (hd : decode (mCode M) pc = .ok (.idiv, 1)) (hq : pc + 1 = q) (h1 : 0 ≤ x) (h2 : 0 < y) (k : Wp d M q L (mI (x / y) :: S) h b Q) : Wp d M pc L (mI y :: mI x :: S) h b Q :=
  wp_ss hd (q, L, mI (x / y) :: S, h, b) ⟨x, y, S, rfl, rfl, h1, h2, by rw [← hq]⟩ k
theorem wp_irem {x y : Int} (hd : decode (mCode M) pc = .ok (.irem, 1)) (hq : pc + 1 = q) (h1 : 0 ≤ x) (h2 : 0 < y) (k : Wp d M q L (mI (x % y) :: S) h b Q) : Wp d M pc L (mI y :: mI x :: S) h b Q :=
  wp_ss hd (q, L, mI (x % y) :: S, h, b) ⟨x, y, S, rfl, rfl, h1, h2, by rw [← hq]⟩ k
theorem wp_ldiv {x y : Int} (hd : decode (mCode M) pc = .ok (.ldiv, 1)) (hq : pc + 1 = q) (h1 : 0 ≤ x) (h2 : 0 < y) (k : Wp d M q L (mL (x / y) :: S) h b Q) : Wp d M pc L (mL y :: mL x :: S) h b Q :=
  wp_ss hd (q, L, mL (x / y) :: S, h, b) ⟨x, y, S, rfl, rfl, h1, h2, by rw [← hq]⟩ k
theorem wp_lrem {x y : Int} (hd : decode (mCode M) pc = .ok (.lrem, 1)) (hq : pc + 1 = q) (h1 : 0 ≤ x) (h2 : 0 < y) (k : Wp d M q L (mL (x % y) :: S) h b Q) : Wp d M pc L (mL y :: mL x :: S) h b Q :=
  wp_ss hd (q, L, mL (x % y) :: S, h, b) ⟨x, y, S, rfl, rfl, h1, h2, by rw [← hq]⟩ k
theorem wp_iand {x y : Int} (z : Int) (hd : decode (mCode M) pc = .ok (.iand, 1)) (hq : pc + 1 = q) (hz : mAnd x y = z) (k : Wp d M q L (mI z :: S) h b Q) : Wp d M pc L (mI y :: mI x :: S) h b Q :=
  wp_ss hd (q, L, mI z :: S, h, b) ⟨x, y, S, rfl, rfl, by rw [← hq, ← hz]⟩ k
theorem wp_ior {x y : Int} (z : Int) (hd : decode (mCode M) pc = .ok (.ior, 1)) (hq : pc + 1 = q) (hz : mOr x y = z) (k : Wp d M q L (mI z :: S) h b Q) : Wp d M pc L (mI y :: mI x :: S) h b Q :=
  wp_ss hd (q, L, mI z :: S, h, b) ⟨x, y, S, rfl, rfl, by rw [← hq, ← hz]⟩ k
theorem wp_ishl {x y : Int} (z : Int) (hd : decode (mCode M) pc = .ok (.ishl, 1)) (hq : pc + 1 = q) (hz : mShl x y = z) (k : Wp d M q L (mI z :: S) h b Q) : Wp d M pc L (mI y :: mI x :: S) h b Q :=
  wp_ss hd (q, L, mI z :: S, h, b) ⟨x, y, S, rfl, rfl, by rw [← hq, ← hz]⟩ k
theorem wp_ishr {x y : Int} (z : Int) (hd : decode (mCode M) pc = .ok (.ishr, 1)) (hq : pc + 1 = q) (hz : mShr x y = z) (k : Wp d M q L (mI z :: S) h b Q) : Wp d M pc L (mI y :: mI x :: S) h b Q :=
  wp_ss hd (q, L, mI z :: S, h, b) ⟨x, y, S, rfl, rfl, by rw [← hq, ← hz]⟩ k
theorem wp_iushr {x y : Int} (z : Int) (hd : decode (mCode M) pc = .ok (.iushr, 1)) (hq : pc + 1 = q) (hz : mUshr x y = z) (k : Wp d M q L (mI z :: S) h b Q) : Wp d M pc L (mI y :: mI x :: S) h b Q :=
  wp_ss hd (q, L, mI z :: S, h, b) ⟨x, y, S, rfl, rfl, by rw [← hq, ← hz]⟩ k
theorem wp_ineg {x : Int} (hd : decode (mCode M) pc = .ok (.ineg, 1)) (hq : pc + 1 = q) (h1 : -2147483648 ≤ -x) (h2 : -x ≤ 2147483647) (k : Wp d M q L (mI (-x) :: S) h b Q) : Wp d M pc L (mI x :: S) h b Q :=
  wp_ss hd (q, L, mI (-x) :: S, h, b) ⟨x, S, rfl, rfl, ⟨h1, h2⟩, by rw [← hq]⟩ k
theorem wp_i2l {x : Int} (hd : decode (mCode M) pc = .ok (.i2l, 1)) (hq : pc + 1 = q) (k : Wp d M q L (mL x :: S) h b Q) : Wp d M pc L (mI x :: S) h b Q :=
  wp_ss hd (q, L, mL x :: S, h, b) ⟨x, S, rfl, rfl, by rw [← hq]⟩ k
theorem wp_dupI {x : Int} (hd : decode (mCode M) pc = .ok (.dup, 1)) (hq : pc + 1 = q) (k : Wp d M q L (mI x :: mI x :: S) h b Q) : Wp d M pc L (mI x :: S) h b Q :=
  wp_ss hd (q, L, mI x :: mI x :: S, h, b) ⟨_, S, rfl, rfl, rfl, by rw [← hq]⟩ k
theorem wp_dupR {x : Nat} (hd : decode (mCode M) pc = .ok (.dup, 1)) (hq : pc + 1 = q) (k : Wp d M q L (mR x :: mR x :: S) h b Q) : Wp d M pc L (mR x :: S) h b Q :=
  wp_ss hd (q, L, mR x :: mR x :: S, h, b) ⟨_, S, rfl, rfl, rfl, by rw [← hq]⟩ k
theorem wp_dup2 {x : Int} {y : Nat} (hd : decode (mCode M) pc = .ok (.dup2, 1)) (hq : pc + 1 = q) (k : Wp d M q L (mI x :: mR y :: mI x :: mR y :: S) h b Q) : Wp d M pc L (mI x :: mR y :: S) h b Q :=
  wp_ss hd (q, L, mI x :: mR y :: mI x :: mR y :: S, h, b) ⟨_, _, S, rfl, rfl, rfl, rfl, by rw [← hq]⟩ k
theorem wp_goto {off : Int} (hd : decode (mCode M) pc = .ok (.goto off, 3)) (hq : (pc : Int) + off = (q : Int)) (k : Wp d M q L S h b Q) : Wp d M pc L S h b Q :=
  wp_ss hd (q, L, S, h, b) ⟨q, rfl, hq, rfl⟩ k
theorem wp_icmp_eq {x y : Int} {off : Int} {t : Nat} (hd : decode (mCode M) pc = .ok (.if_icmp .eq off, 3)) (ht : (pc : Int) + off = (t : Int)) (hq : pc + 3 = q) (kt : x = y → Wp d M t L S h b Q) (kf : x ≠ y → Wp d M q L S h b Q) : Wp d M pc L (mI y :: mI x :: S) h b Q := by
  by_cases hc : x = y
  · exact wp_ss hd (t, L, S, h, b) (by
      have e : mCmp .eq x y = true := by simp only [mCmp, decide_eq_true_eq]; exact hc
      have z : mSS d (mOwn M) ((mY M).name = "<init>") (.if_icmp .eq off) 3 pc L (mI y :: mI x :: S) h b (if mCmp .eq x y = true then t else pc + 3, L, S, h, b) := ⟨x, y, S, t, rfl, rfl, ht, rfl⟩
      rw [if_pos e] at z
      exact z) (kt hc)
  · exact wp_ss hd (q, L, S, h, b) (by
      have e : ¬ mCmp .eq x y = true := by simp only [mCmp, decide_eq_true_eq]; exact hc
      have z : mSS d (mOwn M) ((mY M).name = "<init>") (.if_icmp .eq off) 3 pc L (mI y :: mI x :: S) h b (if mCmp .eq x y = true then t else pc + 3, L, S, h, b) := ⟨x, y, S, t, rfl, rfl, ht, rfl⟩
      rw [if_neg e, hq] at z
      exact z) (kf (by omega))
theorem wp_if_eq {x : Int} {off : Int} {t : Nat} (hd : decode (mCode M) pc = .ok (.ifCond .eq off, 3)) (ht : (pc : Int) + off = (t : Int)) (hq : pc + 3 = q) (kt : x = 0 → Wp d M t L S h b Q) (kf : x ≠ 0 → Wp d M q L S h b Q) : Wp d M pc L (mI x :: S) h b Q := by
  by_cases hc : x = 0
  · exact wp_ss hd (t, L, S, h, b) (by
      have e : mCmp .eq x 0 = true := by simp only [mCmp, decide_eq_true_eq]; exact hc
      have z : mSS d (mOwn M) ((mY M).name = "<init>") (.ifCond .eq off) 3 pc L (mI x :: S) h b (if mCmp .eq x 0 = true then t else pc + 3, L, S, h, b) := ⟨x, S, t, rfl, rfl, ht, rfl⟩
      rw [if_pos e] at z
      exact z) (kt hc)
  · exact wp_ss hd (q, L, S, h, b) (by
      have e : ¬ mCmp .eq x 0 = true := by simp only [mCmp, decide_eq_true_eq]; exact hc
      have z : mSS d (mOwn M) ((mY M).name = "<init>") (.ifCond .eq off) 3 pc L (mI x :: S) h b (if mCmp .eq x 0 = true then t else pc + 3, L, S, h, b) := ⟨x, S, t, rfl, rfl, ht, rfl⟩
      rw [if_neg e, hq] at z
      exact z) (kf (by omega))
theorem wp_lcmp_eq {x y : Int} {off : Int} {t q1 : Nat} (hd : decode (mCode M) pc = .ok (.lcmp, 1)) (hq1 : pc + 1 = q1) (hd2 : decode (mCode M) q1 = .ok (.ifCond .eq off, 3)) (ht : (q1 : Int) + off = (t : Int)) (hq : q1 + 3 = q) (kt : x = y → Wp d M t L S h b Q) (kf : x ≠ y → Wp d M q L S h b Q) : Wp d M pc L (mL y :: mL x :: S) h b Q := by
  refine wp_ss hd (q1, L, mI (if y < x then 1 else if x = y then 0 else -1) :: S, h, b) ⟨x, y, S, rfl, rfl, by rw [← hq1]⟩ ?_
  refine wp_if_eq hd2 ht hq (fun z => kt ?_) (fun z => kf ?_)
  all_goals
    by_cases h1 : y < x
    · rw [if_pos h1] at z; omega
    · by_cases h2 : x = y
      · rw [if_neg h1, if_pos h2] at z; omega
      · rw [if_neg h1, if_neg h2] at z; omega
theorem wp_icmp_ne {x y : Int} {off : Int} {t : Nat} (hd : decode (mCode M) pc = .ok (.if_icmp .ne off, 3)) (ht : (pc : Int) + off = (t : Int)) (hq : pc + 3 = q) (kt : x ≠ y → Wp d M t L S h b Q) (kf : x = y → Wp d M q L S h b Q) : Wp d M pc L (mI y :: mI x :: S) h b Q := by
  by_cases hc : x ≠ y
  · exact wp_ss hd (t, L, S, h, b) (by
      have e : mCmp .ne x y = true := by simp only [mCmp, decide_eq_true_eq]; exact hc
      have z : mSS d (mOwn M) ((mY M).name = "<init>") (.if_icmp .ne off) 3 pc L (mI y :: mI x :: S) h b (if mCmp .ne x y = true then t else pc + 3, L, S, h, b) := ⟨x, y, S, t, rfl, rfl, ht, rfl⟩
      rw [if_pos e] at z
      exact z) (kt hc)
  · exact wp_ss hd (q, L, S, h, b) (by
      have e : ¬ mCmp .ne x y = true := by simp only [mCmp, decide_eq_true_eq]; exact hc
      have z : mSS d (mOwn M) ((mY M).name = "<init>") (.if_icmp .ne off) 3 pc L (mI y :: mI x :: S) h b (if mCmp .ne x y = true then t else pc + 3, L, S, h, b) := ⟨x, y, S, t, rfl, rfl, ht, rfl⟩
      rw [if_neg e, hq] at z
      exact z) (kf (by omega))
theorem wp_if_ne {x : Int} {off : Int} {t : Nat} (hd : decode (mCode M) pc = .ok (.ifCond .ne off, 3)) (ht : (pc : Int) + off = (t : Int)) (hq : pc + 3 = q) (kt : x ≠ 0 → Wp d M t L S h b Q) (kf : x = 0 → Wp d M q L S h b Q) : Wp d M pc L (mI x :: S) h b Q := by
  by_cases hc : x ≠ 0
  · exact wp_ss hd (t, L, S, h, b) (by
      have e : mCmp .ne x 0 = true := by simp only [mCmp, decide_eq_true_eq]; exact hc
      have z : mSS d (mOwn M) ((mY M).name = "<init>") (.ifCond .ne off) 3 pc L (mI x :: S) h b (if mCmp .ne x 0 = true then t else pc + 3, L, S, h, b) := ⟨x, S, t, rfl, rfl, ht, rfl⟩
      rw [if_pos e] at z
      exact z) (kt hc)
  · exact wp_ss hd (q, L, S, h, b) (by
      have e : ¬ mCmp .ne x 0 = true := by simp only [mCmp, decide_eq_true_eq]; exact hc
      have z : mSS d (mOwn M) ((mY M).name = "<init>") (.ifCond .ne off) 3 pc L (mI x :: S) h b (if mCmp .ne x 0 = true then t else pc + 3, L, S, h, b) := ⟨x, S, t, rfl, rfl, ht, rfl⟩
      rw [if_neg e, hq] at z
      exact z) (kf (by omega))
theorem wp_lcmp_ne {x y : Int} {off : Int} {t q1 : Nat} (hd : decode (mCode M) pc = .ok (.lcmp, 1)) (hq1 : pc + 1 = q1) (hd2 : decode (mCode M) q1 = .ok (.ifCond .ne off, 3)) (ht : (q1 : Int) + off = (t : Int)) (hq : q1 + 3 = q) (kt : x ≠ y → Wp d M t L S h b Q) (kf : x = y → Wp d M q L S h b Q) : Wp d M pc L (mL y :: mL x :: S) h b Q := by
  refine wp_ss hd (q1, L, mI (if y < x then 1 else if x = y then 0 else -1) :: S, h, b) ⟨x, y, S, rfl, rfl, by rw [← hq1]⟩ ?_
  refine wp_if_ne hd2 ht hq (fun z => kt ?_) (fun z => kf ?_)
  all_goals
    by_cases h1 : y < x
    · rw [if_pos h1] at z; omega
    · by_cases h2 : x = y
      · rw [if_neg h1, if_pos h2] at z; omega
      · rw [if_neg h1, if_neg h2] at z; omega
theorem wp_icmp_lt {x y : Int} {off : Int} {t : Nat} (hd : decode (mCode M) pc = .ok (.if_icmp .lt off, 3)) (ht : (pc : Int) + off = (t : Int)) (hq : pc + 3 = q) (kt : x < y → Wp d M t L S h b Q) (kf : y ≤ x → Wp d M q L S h b Q) : Wp d M pc L (mI y :: mI x :: S) h b Q := by
  by_cases hc : x < y
  · exact wp_ss hd (t, L, S, h, b) (by
      have e : mCmp .lt x y = true := by simp only [mCmp, decide_eq_true_eq]; exact hc
      have z : mSS d (mOwn M) ((mY M).name = "<init>") (.if_icmp .lt off) 3 pc L (mI y :: mI x :: S) h b (if mCmp .lt x y = true then t else pc + 3, L, S, h, b) := ⟨x, y, S, t, rfl, rfl, ht, rfl⟩
      rw [if_pos e] at z
      exact z) (kt hc)
  · exact wp_ss hd (q, L, S, h, b) (by
      have e : ¬ mCmp .lt x y = true := by simp only [mCmp, decide_eq_true_eq]; exact hc
      have z : mSS d (mOwn M) ((mY M).name = "<init>") (.if_icmp .lt off) 3 pc L (mI y :: mI x :: S) h b (if mCmp .lt x y = true then t else pc + 3, L, S, h, b) := ⟨x, y, S, t, rfl, rfl, ht, rfl⟩
      rw [if_neg e, hq] at z
      exact z) (kf (by omega))
theorem wp_if_lt {x : Int} {off : Int} {t : Nat} (hd : decode (mCode M) pc = .ok (.ifCond .lt off, 3)) (ht : (pc : Int) + off = (t : Int)) (hq : pc + 3 = q) (kt : x < 0 → Wp d M t L S h b Q) (kf : 0 ≤ x → Wp d M q L S h b Q) : Wp d M pc L (mI x :: S) h b Q := by
  by_cases hc : x < 0
  · exact wp_ss hd (t, L, S, h, b) (by
      have e : mCmp .lt x 0 = true := by simp only [mCmp, decide_eq_true_eq]; exact hc
      have z : mSS d (mOwn M) ((mY M).name = "<init>") (.ifCond .lt off) 3 pc L (mI x :: S) h b (if mCmp .lt x 0 = true then t else pc + 3, L, S, h, b) := ⟨x, S, t, rfl, rfl, ht, rfl⟩
      rw [if_pos e] at z
      exact z) (kt hc)
  · exact wp_ss hd (q, L, S, h, b) (by
      have e : ¬ mCmp .lt x 0 = true := by simp only [mCmp, decide_eq_true_eq]; exact hc
      have z : mSS d (mOwn M) ((mY M).name = "<init>") (.ifCond .lt off) 3 pc L (mI x :: S) h b (if mCmp .lt x 0 = true then t else pc + 3, L, S, h, b) := ⟨x, S, t, rfl, rfl, ht, rfl⟩
      rw [if_neg e, hq] at z
      exact z) (kf (by omega))
theorem wp_lcmp_lt {x y : Int} {off : Int} {t q1 : Nat} (hd : decode (mCode M) pc = .ok (.lcmp, 1)) (hq1 : pc + 1 = q1) (hd2 : decode (mCode M) q1 = .ok (.ifCond .lt off, 3)) (ht : (q1 : Int) + off = (t : Int)) (hq : q1 + 3 = q) (kt : x < y → Wp d M t L S h b Q) (kf : y ≤ x → Wp d M q L S h b Q) : Wp d M pc L (mL y :: mL x :: S) h b Q := by
  refine wp_ss hd (q1, L, mI (if y < x then 1 else if x = y then 0 else -1) :: S, h, b) ⟨x, y, S, rfl, rfl, by rw [← hq1]⟩ ?_
  refine wp_if_lt hd2 ht hq (fun z => kt ?_) (fun z => kf ?_)
  all_goals
    by_cases h1 : y < x
    · rw [if_pos h1] at z; omega
    · by_cases h2 : x = y
      · rw [if_neg h1, if_pos h2] at z; omega
      · rw [if_neg h1, if_neg h2] at z; omega
theorem wp_icmp_ge {x y : Int} {off : Int} {t : Nat} (hd : decode (mCode M) pc = .ok (.if_icmp .ge off, 3)) (ht : (pc : Int) + off = (t : Int)) (hq : pc + 3 = q) (kt : y ≤ x → Wp d M t L S h b Q) (kf : x < y → Wp d M q L S h b Q) : Wp d M pc L (mI y :: mI x :: S) h b Q := by
  by_cases hc : y ≤ x
  · exact wp_ss hd (t, L, S, h, b) (by
      have e : mCmp .ge x y = true := by simp only [mCmp, decide_eq_true_eq]; exact hc
      have z : mSS d (mOwn M) ((mY M).name = "<init>") (.if_icmp .ge off) 3 pc L (mI y :: mI x :: S) h b (if mCmp .ge x y = true then t else pc + 3, L, S, h, b) := ⟨x, y, S, t, rfl, rfl, ht, rfl⟩
      rw [if_pos e] at z
      exact z) (kt hc)
  · exact wp_ss hd (q, L, S, h, b) (by
      have e : ¬ mCmp .ge x y = true := by simp only [mCmp, decide_eq_true_eq]; exact hc
      have z : mSS d (mOwn M) ((mY M).name = "<init>") (.if_icmp .ge off) 3 pc L (mI y :: mI x :: S) h b (if mCmp .ge x y = true then t else pc + 3, L, S, h, b) := ⟨x, y, S, t, rfl, rfl, ht, rfl⟩
      rw [if_neg e, hq] at z
      exact z) (kf (by omega))
theorem wp_if_ge {x : Int} {off : Int} {t : Nat} (hd : decode (mCode M) pc = .ok (.ifCond .ge off, 3)) (ht : (pc : Int) + off = (t : Int)) (hq : pc + 3 = q) (kt : 0 ≤ x → Wp d M t L S h b Q) (kf : x < 0 → Wp d M q L S h b Q) : Wp d M pc L (mI x :: S) h b Q := by
  by_cases hc : 0 ≤ x
  · exact wp_ss hd (t, L, S, h, b) (by
      have e : mCmp .ge x 0 = true := by simp only [mCmp, decide_eq_true_eq]; exact hc
      have z : mSS d (mOwn M) ((mY M).name = "<init>") (.ifCond .ge off) 3 pc L (mI x :: S) h b (if mCmp .ge x 0 = true then t else pc + 3, L, S, h, b) := ⟨x, S, t, rfl, rfl, ht, rfl⟩
      rw [if_pos e] at z
      exact z) (kt hc)
  · exact wp_ss hd (q, L, S, h, b) (by
      have e : ¬ mCmp .ge x 0 = true := by simp only [mCmp, decide_eq_true_eq]; exact hc
      have z : mSS d (mOwn M) ((mY M).name = "<init>") (.ifCond .ge off) 3 pc L (mI x :: S) h b (if mCmp .ge x 0 = true then t else pc + 3, L, S, h, b) := ⟨x, S, t, rfl, rfl, ht, rfl⟩
      rw [if_neg e, hq] at z
      exact z) (kf (by omega))
theorem wp_lcmp_ge {x y : Int} {off : Int} {t q1 : Nat} (hd : decode (mCode M) pc = .ok (.lcmp, 1)) (hq1 : pc + 1 = q1) (hd2 : decode (mCode M) q1 = .ok (.ifCond .ge off, 3)) (ht : (q1 : Int) + off = (t : Int)) (hq : q1 + 3 = q) (kt : y ≤ x → Wp d M t L S h b Q) (kf : x < y → Wp d M q L S h b Q) : Wp d M pc L (mL y :: mL x :: S) h b Q := by
  refine wp_ss hd (q1, L, mI (if y < x then 1 else if x = y then 0 else -1) :: S, h, b) ⟨x, y, S, rfl, rfl, by rw [← hq1]⟩ ?_
  refine wp_if_ge hd2 ht hq (fun z => kt ?_) (fun z => kf ?_)
  all_goals
    by_cases h1 : y < x
    · rw [if_pos h1] at z; omega
    · by_cases h2 : x = y
      · rw [if_neg h1, if_pos h2] at z; omega
      · rw [if_neg h1, if_neg h2] at z; omega
theorem wp_icmp_gt {x y : Int} {off : Int} {t : Nat} (hd : decode (mCode M) pc = .ok (.if_icmp .gt off, 3)) (ht : (pc : Int) + off = (t : Int)) (hq : pc + 3 = q) (kt : y < x → Wp d M t L S h b Q) (kf : x ≤ y → Wp d M q L S h b Q) : Wp d M pc L (mI y :: mI x :: S) h b Q := by
  by_cases hc : y < x
  · exact wp_ss hd (t, L, S, h, b) (by
      have e : mCmp .gt x y = true := by simp only [mCmp, decide_eq_true_eq]; exact hc
      have z : mSS d (mOwn M) ((mY M).name = "<init>") (.if_icmp .gt off) 3 pc L (mI y :: mI x :: S) h b (if mCmp .gt x y = true then t else pc + 3, L, S, h, b) := ⟨x, y, S, t, rfl, rfl, ht, rfl⟩
      rw [if_pos e] at z
      exact z) (kt hc)
  · exact wp_ss hd (q, L, S, h, b) (by
      have e : ¬ mCmp .gt x y = true := by simp only [mCmp, decide_eq_true_eq]; exact hc
      have z : mSS d (mOwn M) ((mY M).name = "<init>") (.if_icmp .gt off) 3 pc L (mI y :: mI x :: S) h b (if mCmp .gt x y = true then t else pc + 3, L, S, h, b) := ⟨x, y, S, t, rfl, rfl, ht, rfl⟩
      rw [if_neg e, hq] at z
      exact z) (kf (by omega))
theorem wp_if_gt {x : Int} {off : Int} {t : Nat} (hd : decode (mCode M) pc = .ok (.ifCond .gt off, 3)) (ht : (pc : Int) + off = (t : Int)) (hq : pc + 3 = q) (kt : 0 < x → Wp d M t L S h b Q) (kf : x ≤ 0 → Wp d M q L S h b Q) : Wp d M pc L (mI x :: S) h b Q := by
  by_cases hc : 0 < x
  · exact wp_ss hd (t, L, S, h, b) (by
      have e : mCmp .gt x 0 = true := by simp only [mCmp, decide_eq_true_eq]; exact hc
      have z : mSS d (mOwn M) ((mY M).name = "<init>") (.ifCond .gt off) 3 pc L (mI x :: S) h b (if mCmp .gt x 0 = true then t else pc + 3, L, S, h, b) := ⟨x, S, t, rfl, rfl, ht, rfl⟩
      rw [if_pos e] at z
      exact z) (kt hc)
  · exact wp_ss hd (q, L, S, h, b) (by
      have e : ¬ mCmp .gt x 0 = true := by simp only [mCmp, decide_eq_true_eq]; exact hc
      have z : mSS d (mOwn M) ((mY M).name = "<init>") (.ifCond .gt off) 3 pc L (mI x :: S) h b (if mCmp .gt x 0 = true then t else pc + 3, L, S, h, b) := ⟨x, S, t, rfl, rfl, ht, rfl⟩
      rw [if_neg e, hq] at z
      exact z) (kf (by omega))
theorem wp_lcmp_gt {x y : Int} {off : Int} {t q1 : Nat} (hd : decode (mCode M) pc = .ok (.lcmp, 1)) (hq1 : pc + 1 = q1) (hd2 : decode (mCode M) q1 = .ok (.ifCond .gt off, 3)) (ht : (q1 : Int) + off = (t : Int)) (hq : q1 + 3 = q) (kt : y < x → Wp d M t L S h b Q) (kf : x ≤ y → Wp d M q L S h b Q) : Wp d M pc L (mL y :: mL x :: S) h b Q := by
  refine wp_ss hd (q1, L, mI (if y < x then 1 else if x = y then 0 else -1) :: S, h, b) ⟨x, y, S, rfl, rfl, by rw [← hq1]⟩ ?_
  refine wp_if_gt hd2 ht hq (fun z => kt ?_) (fun z => kf ?_)
  all_goals
    by_cases h1 : y < x
    · rw [if_pos h1] at z; omega
    · by_cases h2 : x = y
      · rw [if_neg h1, if_pos h2] at z; omega
      · rw [if_neg h1, if_neg h2] at z; omega
theorem wp_icmp_le {x y : Int} {off : Int} {t : Nat} (hd : decode (mCode M) pc = .ok (.if_icmp .le off, 3)) (ht : (pc : Int) + off = (t : Int)) (hq : pc + 3 = q) (kt : x ≤ y → Wp d M t L S h b Q) (kf : y < x → Wp d M q L S h b Q) : Wp d M pc L (mI y :: mI x :: S) h b Q := by
  by_cases hc : x ≤ y
  · exact wp_ss hd (t, L, S, h, b) (by
      have e : mCmp .le x y = true := by simp only [mCmp, decide_eq_true_eq]; exact hc
      have z : mSS d (mOwn M) ((mY M).name = "<init>") (.if_icmp .le off) 3 pc L (mI y :: mI x :: S) h b (if mCmp .le x y = true then t else pc + 3, L, S, h, b) := ⟨x, y, S, t, rfl, rfl, ht, rfl⟩
      rw [if_pos e] at z
      exact z) (kt hc)
  · exact wp_ss hd (q, L, S, h, b) (by
      have e : ¬ mCmp .le x y = true := by simp only [mCmp, decide_eq_true_eq]; exact hc
      have z : mSS d (mOwn M) ((mY M).name = "<init>") (.if_icmp .le off) 3 pc L (mI y :: mI x :: S) h b (if mCmp .le x y = true then t else pc + 3, L, S, h, b) := ⟨x, y, S, t, rfl, rfl, ht, rfl⟩
      rw [if_neg e, hq] at z
      exact z) (kf (by omega))
theorem wp_if_le {x : Int} {off : Int} {t : Nat} (hd : decode (mCode M) pc = .ok (.ifCond .le off, 3)) (ht : (pc : Int) + off = (t : Int)) (hq : pc + 3 = q) (kt : x ≤ 0 → Wp d M t L S h b Q) (kf : 0 < x → Wp d M q L S h b Q) : Wp d M pc L (mI x :: S) h b Q := by
  by_cases hc : x ≤ 0
  · exact wp_ss hd (t, L, S, h, b) (by
      have e : mCmp .le x 0 = true := by simp only [mCmp, decide_eq_true_eq]; exact hc
      have z : mSS d (mOwn M) ((mY M).name = "<init>") (.ifCond .le off) 3 pc L (mI x :: S) h b (if mCmp .le x 0 = true then t else pc + 3, L, S, h, b) := ⟨x, S, t, rfl, rfl, ht, rfl⟩
      rw [if_pos e] at z
      exact z) (kt hc)
  · exact wp_ss hd (q, L, S, h, b) (by
      have e : ¬ mCmp .le x 0 = true := by simp only [mCmp, decide_eq_true_eq]; exact hc
      have z : mSS d (mOwn M) ((mY M).name = "<init>") (.ifCond .le off) 3 pc L (mI x :: S) h b (if mCmp .le x 0 = true then t else pc + 3, L, S, h, b) := ⟨x, S, t, rfl, rfl, ht, rfl⟩
      rw [if_neg e, hq] at z
      exact z) (kf (by omega))
theorem wp_lcmp_le {x y : Int} {off : Int} {t q1 : Nat} (hd : decode (mCode M) pc = .ok (.lcmp, 1)) (hq1 : pc + 1 = q1) (hd2 : decode (mCode M) q1 = .ok (.ifCond .le off, 3)) (ht : (q1 : Int) + off = (t : Int)) (hq : q1 + 3 = q) (kt : x ≤ y → Wp d M t L S h b Q) (kf : y < x → Wp d M q L S h b Q) : Wp d M pc L (mL y :: mL x :: S) h b Q := by
  refine wp_ss hd (q1, L, mI (if y < x then 1 else if x = y then 0 else -1) :: S, h, b) ⟨x, y, S, rfl, rfl, by rw [← hq1]⟩ ?_
  refine wp_if_le hd2 ht hq (fun z => kt ?_) (fun z => kf ?_)
  all_goals
    by_cases h1 : y < x
    · rw [if_pos h1] at z; omega
    · by_cases h2 : x = y
      · rw [if_neg h1, if_pos h2] at z; omega
      · rw [if_neg h1, if_neg h2] at z; omega
theorem wp_ifb_eq {p : Prop} [Decidable p] {off : Int} {t : Nat} (hd : decode (mCode M) pc = .ok (.ifCond .eq off, 3)) (ht : (pc : Int) + off = (t : Int)) (hq : pc + 3 = q) (kt : ¬ p → Wp d M t L S h b Q) (kf : p → Wp d M q L S h b Q) : Wp d M pc L (mI (bI p) :: S) h b Q :=
  wp_if_eq hd ht hq (fun z => kt (fun hp => by rw [bI_t hp] at z; omega)) (fun z => kf (Decidable.byContradiction fun hp => z (bI_f hp)))
theorem wp_ifb_ne {p : Prop} [Decidable p] {off : Int} {t : Nat} (hd : decode (mCode M) pc = .ok (.ifCond .ne off, 3)) (ht : (pc : Int) + off = (t : Int)) (hq : pc + 3 = q) (kt : p → Wp d M t L S h b Q) (kf : ¬ p → Wp d M q L S h b Q) : Wp d M pc L (mI (bI p) :: S) h b Q :=
  wp_if_ne hd ht hq (fun z => kt (Decidable.byContradiction fun hp => z (bI_f hp))) (fun z => kf (fun hp => by rw [bI_t hp] at z; omega))
theorem wp_tsi {x df lo hi off : Int} {offs : Array Int} {len t : Nat} (hd : decode (mCode M) pc = .ok (.tableswitch df lo hi offs, len)) (h1 : lo ≤ x) (h2 : x ≤ hi) (ho : offs[(x - lo).toNat]? = some off) (ht : (pc : Int) + off = (t : Int)) (k : Wp d M t L S h b Q) : Wp d M pc L (mI x :: S) h b Q :=
  wp_ss hd (t, L, S, h, b) ⟨x, S, t, rfl, Or.inr ⟨h1, h2, off, ho, ht⟩, rfl⟩ k
theorem wp_tso {x df lo hi : Int} {offs : Array Int} {len t : Nat} (hd : decode (mCode M) pc = .ok (.tableswitch df lo hi offs, len)) (h1 : x < lo ∨ hi < x) (ht : (pc : Int) + df = (t : Int)) (k : Wp d M t L S h b Q) : Wp d M pc L (mI x :: S) h b Q :=
  wp_ss hd (t, L, S, h, b) ⟨x, S, t, rfl, Or.inl ⟨h1, ht⟩, rfl⟩ k
theorem wp_aleni {a : Nat} {l : List Int} (hd : decode (mCode M) pc = .ok (.arraylength, 1)) (hq : pc + 1 = q) (hc : h[a]? = some (mA l)) (hn : l.length < 2147483648) (k : Wp d M q L (mI l.length :: S) h b Q) : Wp d M pc L (mR a :: S) h b Q :=
  wp_ss hd (q, L, mI l.length :: S, h, b) ⟨a, _, l, S, rfl, rfl, hc, Or.inl rfl, hn, by rw [← hq]⟩ k
theorem wp_alenl {a : Nat} {l : List Int} (hd : decode (mCode M) pc = .ok (.arraylength, 1)) (hq : pc + 1 = q) (hc : h[a]? = some (mJ l)) (hn : l.length < 2147483648) (k : Wp d M q L (mI l.length :: S) h b Q) : Wp d M pc L (mR a :: S) h b Q :=
  wp_ss hd (q, L, mI l.length :: S, h, b) ⟨a, _, l, S, rfl, rfl, hc, Or.inr rfl, hn, by rw [← hq]⟩ k
theorem wp_iaload {a : Nat} {x : Int} {l : List Int} (hd : decode (mCode M) pc = .ok (.iaload, 1)) (hq : pc + 1 = q) (hc : h[a]? = some (mA l)) (h0 : 0 ≤ x) (h1 : x < l.length) (k : Wp d M q L (mI (l.getD x.toNat 0) :: S) h b Q) : Wp d M pc L (mI x :: mR a :: S) h b Q :=
  wp_ss hd (q, L, mI (l.getD x.toNat 0) :: S, h, b) ⟨x, a, l, S, rfl, rfl, hc, h0, h1, by rw [← hq]⟩ k
theorem wp_laload {a : Nat} {x : Int} {l : List Int} (hd : decode (mCode M) pc = .ok (.laload, 1)) (hq : pc + 1 = q) (hc : h[a]? = some (mJ l)) (h0 : 0 ≤ x) (h1 : x < l.length) (k : Wp d M q L (mL (l.getD x.toNat 0) :: S) h b Q) : Wp d M pc L (mI x :: mR a :: S) h b Q :=
  wp_ss hd (q, L, mL (l.getD x.toNat 0) :: S, h, b) ⟨x, a, l, S, rfl, rfl, hc, h0, h1, by rw [← hq]⟩ k
theorem wp_iastore {a : Nat} {x v : Int} {l : List Int} (hd : decode (mCode M) pc = .ok (.iastore, 1)) (hq : pc + 1 = q) (ha : 2 ≤ a) (hc : h[a]? = some (mA l)) (h0 : 0 ≤ x) (h1 : x < l.length) (k : Wp d M q L S (h.set a (mA (l.set x.toNat v))) b Q) : Wp d M pc L (mI v :: mI x :: mR a :: S) h b Q :=
  wp_ss hd (q, L, S, h.set a (mA (l.set x.toNat v)), b) ⟨v, x, a, l, S, rfl, rfl, ha, hc, h0, h1, by rw [← hq]⟩ k
theorem wp_lastore {a : Nat} {x v : Int} {l : List Int} (hd : decode (mCode M) pc = .ok (.lastore, 1)) (hq : pc + 1 = q) (ha : 2 ≤ a) (hc : h[a]? = some (mJ l)) (h0 : 0 ≤ x) (h1 : x < l.length) (k : Wp d M q L S (h.set a (mJ (l.set x.toNat v))) b Q) : Wp d M pc L (mL v :: mI x :: mR a :: S) h b Q :=
  wp_ss hd (q, L, S, h.set a (mJ (l.set x.toNat v)), b) ⟨v, x, a, l, S, rfl, rfl, ha, hc, h0, h1, by rw [← hq]⟩ k
theorem wp_getf {a ci fk idx : Nat} {fs : List mV} {v : mV} (hd : decode (mCode M) pc = .ok (.getfield idx, 3)) (hq : pc + 3 = q) (hf : mFok (mOwn M) idx ci fk) (ha : 2 ≤ a) (hc : h[a]? = some (mO ci fs)) (hv : fs[fk]? = some v) (hn : v ≠ mU) (k : Wp d M q L (v :: S) h b Q) : Wp d M pc L (mR a :: S) h b Q :=
  wp_ss hd (q, L, v :: S, h, b) ⟨a, ci, fs, fk, v, S, rfl, rfl, hf, ha, hc, hv, hn, by rw [← hq]⟩ k
theorem wp_putf {a ci fk idx : Nat} {fs : List mV} {v : mV} (hd : decode (mCode M) pc = .ok (.putfield idx, 3)) (hq : pc + 3 = q) (hf : mFok (mOwn M) idx ci fk) (ha : 2 ≤ a) (hc : h[a]? = some (mO ci fs)) (hl : fk < fs.length) (ht : mFit (mTy ci fk) v) (hn : mFin ci fk = true → (mY M).name = "<init>" ∧ mOwn M = ci) (k : Wp d M q L S (h.set a (mO ci (fs.set fk v))) b Q) : Wp d M pc L (v :: mR a :: S) h b Q :=
  wp_ss hd (q, L, S, h.set a (mO ci (fs.set fk v)), b) ⟨a, ci, fs, fk, v, S, rfl, rfl, hf, ha, hc, hl, ht, hn, by rw [← hq]⟩ k
theorem wp_gets {idx : Nat} (hd : decode (mCode M) pc = .ok (.getstatic idx, 3)) (hq : pc + 3 = q) (hw : Cond.fieldLink (mN (mOwn M)) idx "CupDraws" "PARTS" "[J" ∈ gT) (k : Wp d M q L (mR 0 :: S) h b Q) : Wp d M pc L S h b Q :=
  wp_ss hd (q, L, mR 0 :: S, h, b) ⟨rfl, hw, by rw [← hq]⟩ k
theorem wp_new {ci idx mc ms mc' ms' : Nat} {D : List mV} (hd : decode (mCode M) pc = .ok (.new idx, 3)) (hq : pc + 3 = q) (hf : mNok (mOwn M) idx ci) (h1 : mc = mc' + 1) (h2 : ms = ms' + mNf ci) (hD : mDefs ci = D) (k : Wp d M q L (mR h.length :: S) (h ++ [mO ci D]) (mc', ms') Q) : Wp d M pc L S h (mc, ms) Q := by
  subst hD
  exact wp_ss hd (q, L, mR h.length :: S, h ++ [mO ci (mDefs ci)], (mc', ms')) ⟨ci, rfl, hf, by show 1 ≤ mc; omega, by show mNf ci ≤ ms; omega, by rw [← hq]; simp only [Prod.mk.injEq, true_and]; omega⟩ k
theorem wp_newi {x : Int} {mc ms mc' ms' : Nat} (hd : decode (mCode M) pc = .ok (.newarray .int, 2)) (hq : pc + 2 = q) (h0 : 0 ≤ x) (hx : x ≤ 10000) (h1 : mc = mc' + 1) (h2 : ms = ms' + x.toNat) (k : Wp d M q L (mR h.length :: S) (h ++ [mA (List.replicate x.toNat 0)]) (mc', ms') Q) : Wp d M pc L (mI x :: S) h (mc, ms) Q :=
  wp_ss hd (q, L, mR h.length :: S, h ++ [mA (List.replicate x.toNat 0)], (mc', ms')) ⟨x, S, rfl, rfl, h0, hx, by show 1 ≤ mc; omega, by show x.toNat ≤ ms; omega, Or.inl ⟨rfl, by rw [← hq]; simp only [Prod.mk.injEq, true_and]; omega⟩⟩ k
theorem wp_newl {x : Int} {mc ms mc' ms' : Nat} (hd : decode (mCode M) pc = .ok (.newarray .long, 2)) (hq : pc + 2 = q) (h0 : 0 ≤ x) (hx : x ≤ 10000) (h1 : mc = mc' + 1) (h2 : ms = ms' + x.toNat) (k : Wp d M q L (mR h.length :: S) (h ++ [mJ (List.replicate x.toNat 0)]) (mc', ms') Q) : Wp d M pc L (mI x :: S) h (mc, ms) Q :=
  wp_ss hd (q, L, mR h.length :: S, h ++ [mJ (List.replicate x.toNat 0)], (mc', ms')) ⟨x, S, rfl, rfl, h0, hx, by show 1 ≤ mc; omega, by show x.toNat ≤ ms; omega, Or.inr ⟨rfl, by rw [← hq]; simp only [Prod.mk.injEq, true_and]; omega⟩⟩ k
theorem wp_obj {d' a idx : Nat} (hd : decode (mCode M) pc = .ok (.invokespecial idx, 3)) (hq : pc + 3 = q) (hw : Cond.methodLink (mN (mOwn M)) idx objectInit ∈ gT) (hr : mCats S ≤ 8) (k : Wp (d' + 1) M q L S h b Q) : Wp (d' + 1) M pc L (mR a :: S) h b Q :=
  wp_ss hd (q, L, S, h, b) ⟨a, S, rfl, by omega, rfl, hr, hw, by rw [← hq]⟩ k
theorem wp_copy {d' idx a0 a1 : Nat} {n dp sp : Int} {l0 l1 : List Int} (hd : decode (mCode M) pc = .ok (.invokestatic idx, 3)) (hq : pc + 3 = q) (hw : Cond.methodLink (mN (mOwn M)) idx arraycopyName ∈ gT) (hr : mCats S ≤ 8) (h1 : 2 ≤ a1) (h0 : 2 ≤ a0) (hc0 : h[a0]? = some (mA l0)) (hc1 : h[a1]? = some (mA l1)) (hn : 0 ≤ n) (hs : 0 ≤ sp) (hp : 0 ≤ dp) (g0 : sp + n ≤ l0.length) (g1 : dp + n ≤ l1.length) (k : Wp (d' + 1) M q L S (h.set a1 (mA (mCpy l0 l1 sp.toNat dp.toNat n.toNat))) b Q) : Wp (d' + 1) M pc L (mI n :: mI dp :: mR a1 :: mI sp :: mR a0 :: S) h b Q :=
  wp_ss hd (q, L, S, h.set a1 (mA (mCpy l0 l1 sp.toNat dp.toNat n.toNat)), b) ⟨n, dp, sp, a1, a0, l0, l1, S, rfl, by omega, rfl, hr, hw, h1, h0, hc0, hc1, hn, hs, hp, g0, g1, by rw [← hq]⟩ k
theorem wp_iret {x : Int} (hd : decode (mCode M) pc = .ok (.ireturn, 1)) (ht : mRet M = some .int) (k : Q (some (mI x)) h) : Wp d M pc L [mI x] h b Q := wp_rr hd (some (mI x)) ⟨x, rfl, rfl, Or.inl ht, rfl⟩ k
theorem wp_bret {x : Int} (hd : decode (mCode M) pc = .ok (.ireturn, 1)) (ht : mRet M = some .boolean) (hx : x = 0 ∨ x = 1) (k : Q (some (mI x)) h) : Wp d M pc L [mI x] h b Q := wp_rr hd (some (mI x)) ⟨x, rfl, rfl, Or.inr ⟨ht, hx⟩, rfl⟩ k
theorem wp_lret {x : Int} (hd : decode (mCode M) pc = .ok (.lreturn, 1)) (ht : mRet M = some .long) (k : Q (some (mL x)) h) : Wp d M pc L [mL x] h b Q := wp_rr hd (some (mL x)) ⟨x, rfl, rfl, ht, rfl⟩ k
theorem wp_vret (hd : decode (mCode M) pc = .ok (.return_, 1)) (ht : mRet M = none) (k : Q none h) : Wp d M pc L [] h b Q := wp_rr hd none ⟨rfl, rfl, ht, rfl⟩ k
theorem wp_v0 {d2 idx : Nat} {M2 : mM} {a : Nat} {fs : List mV} {Q2 : Option mV → List mC → Prop} (hd : decode (mCode M) pc = .ok (.invokevirtual idx, 3)) (hq : pc + 3 = q) (hT : mTok (mOwn M) idx 0 0 M2) (hr : mCats S ≤ 8) (hm : (mArgs (mMax M2) [mR a]).length = mMax M2) (ha : 2 ≤ a) (hc : h[a]? = some (mO (mOwn M2) fs)) (hz1 : mCel M2 = 0) (hz2 : mSlo M2 = 0) (hct : Ct d2 M2 [mR a] h Q2) (k : ∀ r h2, Q2 r h2 → Wp (d2 + 1) M q L (r.toList ++ S) h2 b Q) : Wp (d2 + 1) M pc L (mR a :: S) h b Q :=
  wp_cc hd ⟨d2, idx, 0, 0, M2, [mR a], S, Q2, rfl, rfl, rfl, hT, rfl, rfl, hr, hm, fun _ => ⟨a, fs, rfl, ha, hc⟩, by omega, by omega, hct, fun r h2 hq2 => by
    have e : (b.1 - mCel M2, b.2 - mSlo M2) = b := by rw [hz1, hz2]; rfl
    rw [e, hq]
    exact k r h2 hq2⟩
theorem wp_v0I {d2 idx : Nat} {M2 : mM} {a : Nat} {fs : List mV} {x : mV} {h2 : List mC} (hd : decode (mCode M) pc = .ok (.invokevirtual idx, 3)) (hq : pc + 3 = q) (hT : mTok (mOwn M) idx 0 0 M2) (hr : mCats S ≤ 8) (hm : (mArgs (mMax M2) [mR a]).length = mMax M2) (ha : 2 ≤ a) (hc : h[a]? = some (mO (mOwn M2) fs)) (hz1 : mCel M2 = 0) (hz2 : mSlo M2 = 0) (hct : Rt d2 M2 [mR a] h (some x) h2) (k : Wp (d2 + 1) M q L (x :: S) h2 b Q) : Wp (d2 + 1) M pc L (mR a :: S) h b Q :=
  wp_v0 hd hq hT hr hm ha hc hz1 hz2 hct (fun r h3 hq3 => by obtain ⟨rfl, rfl⟩ := hq3; exact k)
theorem wp_v0V {d2 idx : Nat} {M2 : mM} {a : Nat} {fs : List mV} {h2 : List mC} (hd : decode (mCode M) pc = .ok (.invokevirtual idx, 3)) (hq : pc + 3 = q) (hT : mTok (mOwn M) idx 0 0 M2) (hr : mCats S ≤ 8) (hm : (mArgs (mMax M2) [mR a]).length = mMax M2) (ha : 2 ≤ a) (hc : h[a]? = some (mO (mOwn M2) fs)) (hz1 : mCel M2 = 0) (hz2 : mSlo M2 = 0) (hct : Rt d2 M2 [mR a] h none h2) (k : Wp (d2 + 1) M q L S h2 b Q) : Wp (d2 + 1) M pc L (mR a :: S) h b Q :=
  wp_v0 hd hq hT hr hm ha hc hz1 hz2 hct (fun r h3 hq3 => by obtain ⟨rfl, rfl⟩ := hq3; exact k)
theorem wp_v1 {d2 idx : Nat} {M2 : mM} {v1 : mV} {a : Nat} {fs : List mV} {Q2 : Option mV → List mC → Prop} (hd : decode (mCode M) pc = .ok (.invokevirtual idx, 3)) (hq : pc + 3 = q) (hT : mTok (mOwn M) idx 0 1 M2) (hr : mCats S ≤ 8) (hm : (mArgs (mMax M2) [mR a, v1]).length = mMax M2) (ha : 2 ≤ a) (hc : h[a]? = some (mO (mOwn M2) fs)) (hz1 : mCel M2 = 0) (hz2 : mSlo M2 = 0) (hct : Ct d2 M2 [mR a, v1] h Q2) (k : ∀ r h2, Q2 r h2 → Wp (d2 + 1) M q L (r.toList ++ S) h2 b Q) : Wp (d2 + 1) M pc L (v1 :: mR a :: S) h b Q :=
  wp_cc hd ⟨d2, idx, 0, 1, M2, [mR a, v1], S, Q2, rfl, rfl, rfl, hT, rfl, rfl, hr, hm, fun _ => ⟨a, fs, rfl, ha, hc⟩, by omega, by omega, hct, fun r h2 hq2 => by
    have e : (b.1 - mCel M2, b.2 - mSlo M2) = b := by rw [hz1, hz2]; rfl
    rw [e, hq]
    exact k r h2 hq2⟩
theorem wp_v1I {d2 idx : Nat} {M2 : mM} {v1 : mV} {a : Nat} {fs : List mV} {x : mV} {h2 : List mC} (hd : decode (mCode M) pc = .ok (.invokevirtual idx, 3)) (hq : pc + 3 = q) (hT : mTok (mOwn M) idx 0 1 M2) (hr : mCats S ≤ 8) (hm : (mArgs (mMax M2) [mR a, v1]).length = mMax M2) (ha : 2 ≤ a) (hc : h[a]? = some (mO (mOwn M2) fs)) (hz1 : mCel M2 = 0) (hz2 : mSlo M2 = 0) (hct : Rt d2 M2 [mR a, v1] h (some x) h2) (k : Wp (d2 + 1) M q L (x :: S) h2 b Q) : Wp (d2 + 1) M pc L (v1 :: mR a :: S) h b Q :=
  wp_v1 hd hq hT hr hm ha hc hz1 hz2 hct (fun r h3 hq3 => by obtain ⟨rfl, rfl⟩ := hq3; exact k)
theorem wp_v1V {d2 idx : Nat} {M2 : mM} {v1 : mV} {a : Nat} {fs : List mV} {h2 : List mC} (hd : decode (mCode M) pc = .ok (.invokevirtual idx, 3)) (hq : pc + 3 = q) (hT : mTok (mOwn M) idx 0 1 M2) (hr : mCats S ≤ 8) (hm : (mArgs (mMax M2) [mR a, v1]).length = mMax M2) (ha : 2 ≤ a) (hc : h[a]? = some (mO (mOwn M2) fs)) (hz1 : mCel M2 = 0) (hz2 : mSlo M2 = 0) (hct : Rt d2 M2 [mR a, v1] h none h2) (k : Wp (d2 + 1) M q L S h2 b Q) : Wp (d2 + 1) M pc L (v1 :: mR a :: S) h b Q :=
  wp_v1 hd hq hT hr hm ha hc hz1 hz2 hct (fun r h3 hq3 => by obtain ⟨rfl, rfl⟩ := hq3; exact k)
theorem wp_v2 {d2 idx : Nat} {M2 : mM} {v1 v2 : mV} {a : Nat} {fs : List mV} {Q2 : Option mV → List mC → Prop} (hd : decode (mCode M) pc = .ok (.invokevirtual idx, 3)) (hq : pc + 3 = q) (hT : mTok (mOwn M) idx 0 2 M2) (hr : mCats S ≤ 8) (hm : (mArgs (mMax M2) [mR a, v1, v2]).length = mMax M2) (ha : 2 ≤ a) (hc : h[a]? = some (mO (mOwn M2) fs)) (hz1 : mCel M2 = 0) (hz2 : mSlo M2 = 0) (hct : Ct d2 M2 [mR a, v1, v2] h Q2) (k : ∀ r h2, Q2 r h2 → Wp (d2 + 1) M q L (r.toList ++ S) h2 b Q) : Wp (d2 + 1) M pc L (v2 :: v1 :: mR a :: S) h b Q :=
  wp_cc hd ⟨d2, idx, 0, 2, M2, [mR a, v1, v2], S, Q2, rfl, rfl, rfl, hT, rfl, rfl, hr, hm, fun _ => ⟨a, fs, rfl, ha, hc⟩, by omega, by omega, hct, fun r h2 hq2 => by
    have e : (b.1 - mCel M2, b.2 - mSlo M2) = b := by rw [hz1, hz2]; rfl
    rw [e, hq]
    exact k r h2 hq2⟩
theorem wp_v2I {d2 idx : Nat} {M2 : mM} {v1 v2 : mV} {a : Nat} {fs : List mV} {x : mV} {h2 : List mC} (hd : decode (mCode M) pc = .ok (.invokevirtual idx, 3)) (hq : pc + 3 = q) (hT : mTok (mOwn M) idx 0 2 M2) (hr : mCats S ≤ 8) (hm : (mArgs (mMax M2) [mR a, v1, v2]).length = mMax M2) (ha : 2 ≤ a) (hc : h[a]? = some (mO (mOwn M2) fs)) (hz1 : mCel M2 = 0) (hz2 : mSlo M2 = 0) (hct : Rt d2 M2 [mR a, v1, v2] h (some x) h2) (k : Wp (d2 + 1) M q L (x :: S) h2 b Q) : Wp (d2 + 1) M pc L (v2 :: v1 :: mR a :: S) h b Q :=
  wp_v2 hd hq hT hr hm ha hc hz1 hz2 hct (fun r h3 hq3 => by obtain ⟨rfl, rfl⟩ := hq3; exact k)
theorem wp_v2V {d2 idx : Nat} {M2 : mM} {v1 v2 : mV} {a : Nat} {fs : List mV} {h2 : List mC} (hd : decode (mCode M) pc = .ok (.invokevirtual idx, 3)) (hq : pc + 3 = q) (hT : mTok (mOwn M) idx 0 2 M2) (hr : mCats S ≤ 8) (hm : (mArgs (mMax M2) [mR a, v1, v2]).length = mMax M2) (ha : 2 ≤ a) (hc : h[a]? = some (mO (mOwn M2) fs)) (hz1 : mCel M2 = 0) (hz2 : mSlo M2 = 0) (hct : Rt d2 M2 [mR a, v1, v2] h none h2) (k : Wp (d2 + 1) M q L S h2 b Q) : Wp (d2 + 1) M pc L (v2 :: v1 :: mR a :: S) h b Q :=
  wp_v2 hd hq hT hr hm ha hc hz1 hz2 hct (fun r h3 hq3 => by obtain ⟨rfl, rfl⟩ := hq3; exact k)
theorem wp_v3 {d2 idx : Nat} {M2 : mM} {v1 v2 v3 : mV} {a : Nat} {fs : List mV} {Q2 : Option mV → List mC → Prop} (hd : decode (mCode M) pc = .ok (.invokevirtual idx, 3)) (hq : pc + 3 = q) (hT : mTok (mOwn M) idx 0 3 M2) (hr : mCats S ≤ 8) (hm : (mArgs (mMax M2) [mR a, v1, v2, v3]).length = mMax M2) (ha : 2 ≤ a) (hc : h[a]? = some (mO (mOwn M2) fs)) (hz1 : mCel M2 = 0) (hz2 : mSlo M2 = 0) (hct : Ct d2 M2 [mR a, v1, v2, v3] h Q2) (k : ∀ r h2, Q2 r h2 → Wp (d2 + 1) M q L (r.toList ++ S) h2 b Q) : Wp (d2 + 1) M pc L (v3 :: v2 :: v1 :: mR a :: S) h b Q :=
  wp_cc hd ⟨d2, idx, 0, 3, M2, [mR a, v1, v2, v3], S, Q2, rfl, rfl, rfl, hT, rfl, rfl, hr, hm, fun _ => ⟨a, fs, rfl, ha, hc⟩, by omega, by omega, hct, fun r h2 hq2 => by
    have e : (b.1 - mCel M2, b.2 - mSlo M2) = b := by rw [hz1, hz2]; rfl
    rw [e, hq]
    exact k r h2 hq2⟩
theorem wp_v3I {d2 idx : Nat} {M2 : mM} {v1 v2 v3 : mV} {a : Nat} {fs : List mV} {x : mV} {h2 : List mC} (hd : decode (mCode M) pc = .ok (.invokevirtual idx, 3)) (hq : pc + 3 = q) (hT : mTok (mOwn M) idx 0 3 M2) (hr : mCats S ≤ 8) (hm : (mArgs (mMax M2) [mR a, v1, v2, v3]).length = mMax M2) (ha : 2 ≤ a) (hc : h[a]? = some (mO (mOwn M2) fs)) (hz1 : mCel M2 = 0) (hz2 : mSlo M2 = 0) (hct : Rt d2 M2 [mR a, v1, v2, v3] h (some x) h2) (k : Wp (d2 + 1) M q L (x :: S) h2 b Q) : Wp (d2 + 1) M pc L (v3 :: v2 :: v1 :: mR a :: S) h b Q :=
  wp_v3 hd hq hT hr hm ha hc hz1 hz2 hct (fun r h3 hq3 => by obtain ⟨rfl, rfl⟩ := hq3; exact k)
theorem wp_v3V {d2 idx : Nat} {M2 : mM} {v1 v2 v3 : mV} {a : Nat} {fs : List mV} {h2 : List mC} (hd : decode (mCode M) pc = .ok (.invokevirtual idx, 3)) (hq : pc + 3 = q) (hT : mTok (mOwn M) idx 0 3 M2) (hr : mCats S ≤ 8) (hm : (mArgs (mMax M2) [mR a, v1, v2, v3]).length = mMax M2) (ha : 2 ≤ a) (hc : h[a]? = some (mO (mOwn M2) fs)) (hz1 : mCel M2 = 0) (hz2 : mSlo M2 = 0) (hct : Rt d2 M2 [mR a, v1, v2, v3] h none h2) (k : Wp (d2 + 1) M q L S h2 b Q) : Wp (d2 + 1) M pc L (v3 :: v2 :: v1 :: mR a :: S) h b Q :=
  wp_v3 hd hq hT hr hm ha hc hz1 hz2 hct (fun r h3 hq3 => by obtain ⟨rfl, rfl⟩ := hq3; exact k)
theorem wp_v4 {d2 idx : Nat} {M2 : mM} {v1 v2 v3 v4 : mV} {a : Nat} {fs : List mV} {Q2 : Option mV → List mC → Prop} (hd : decode (mCode M) pc = .ok (.invokevirtual idx, 3)) (hq : pc + 3 = q) (hT : mTok (mOwn M) idx 0 4 M2) (hr : mCats S ≤ 8) (hm : (mArgs (mMax M2) [mR a, v1, v2, v3, v4]).length = mMax M2) (ha : 2 ≤ a) (hc : h[a]? = some (mO (mOwn M2) fs)) (hz1 : mCel M2 = 0) (hz2 : mSlo M2 = 0) (hct : Ct d2 M2 [mR a, v1, v2, v3, v4] h Q2) (k : ∀ r h2, Q2 r h2 → Wp (d2 + 1) M q L (r.toList ++ S) h2 b Q) : Wp (d2 + 1) M pc L (v4 :: v3 :: v2 :: v1 :: mR a :: S) h b Q :=
  wp_cc hd ⟨d2, idx, 0, 4, M2, [mR a, v1, v2, v3, v4], S, Q2, rfl, rfl, rfl, hT, rfl, rfl, hr, hm, fun _ => ⟨a, fs, rfl, ha, hc⟩, by omega, by omega, hct, fun r h2 hq2 => by
    have e : (b.1 - mCel M2, b.2 - mSlo M2) = b := by rw [hz1, hz2]; rfl
    rw [e, hq]
    exact k r h2 hq2⟩
theorem wp_v4I {d2 idx : Nat} {M2 : mM} {v1 v2 v3 v4 : mV} {a : Nat} {fs : List mV} {x : mV} {h2 : List mC} (hd : decode (mCode M) pc = .ok (.invokevirtual idx, 3)) (hq : pc + 3 = q) (hT : mTok (mOwn M) idx 0 4 M2) (hr : mCats S ≤ 8) (hm : (mArgs (mMax M2) [mR a, v1, v2, v3, v4]).length = mMax M2) (ha : 2 ≤ a) (hc : h[a]? = some (mO (mOwn M2) fs)) (hz1 : mCel M2 = 0) (hz2 : mSlo M2 = 0) (hct : Rt d2 M2 [mR a, v1, v2, v3, v4] h (some x) h2) (k : Wp (d2 + 1) M q L (x :: S) h2 b Q) : Wp (d2 + 1) M pc L (v4 :: v3 :: v2 :: v1 :: mR a :: S) h b Q :=
  wp_v4 hd hq hT hr hm ha hc hz1 hz2 hct (fun r h3 hq3 => by obtain ⟨rfl, rfl⟩ := hq3; exact k)
theorem wp_v4V {d2 idx : Nat} {M2 : mM} {v1 v2 v3 v4 : mV} {a : Nat} {fs : List mV} {h2 : List mC} (hd : decode (mCode M) pc = .ok (.invokevirtual idx, 3)) (hq : pc + 3 = q) (hT : mTok (mOwn M) idx 0 4 M2) (hr : mCats S ≤ 8) (hm : (mArgs (mMax M2) [mR a, v1, v2, v3, v4]).length = mMax M2) (ha : 2 ≤ a) (hc : h[a]? = some (mO (mOwn M2) fs)) (hz1 : mCel M2 = 0) (hz2 : mSlo M2 = 0) (hct : Rt d2 M2 [mR a, v1, v2, v3, v4] h none h2) (k : Wp (d2 + 1) M q L S h2 b Q) : Wp (d2 + 1) M pc L (v4 :: v3 :: v2 :: v1 :: mR a :: S) h b Q :=
  wp_v4 hd hq hT hr hm ha hc hz1 hz2 hct (fun r h3 hq3 => by obtain ⟨rfl, rfl⟩ := hq3; exact k)
theorem wp_v5 {d2 idx : Nat} {M2 : mM} {v1 v2 v3 v4 v5 : mV} {a : Nat} {fs : List mV} {Q2 : Option mV → List mC → Prop} (hd : decode (mCode M) pc = .ok (.invokevirtual idx, 3)) (hq : pc + 3 = q) (hT : mTok (mOwn M) idx 0 5 M2) (hr : mCats S ≤ 8) (hm : (mArgs (mMax M2) [mR a, v1, v2, v3, v4, v5]).length = mMax M2) (ha : 2 ≤ a) (hc : h[a]? = some (mO (mOwn M2) fs)) (hz1 : mCel M2 = 0) (hz2 : mSlo M2 = 0) (hct : Ct d2 M2 [mR a, v1, v2, v3, v4, v5] h Q2) (k : ∀ r h2, Q2 r h2 → Wp (d2 + 1) M q L (r.toList ++ S) h2 b Q) : Wp (d2 + 1) M pc L (v5 :: v4 :: v3 :: v2 :: v1 :: mR a :: S) h b Q :=
  wp_cc hd ⟨d2, idx, 0, 5, M2, [mR a, v1, v2, v3, v4, v5], S, Q2, rfl, rfl, rfl, hT, rfl, rfl, hr, hm, fun _ => ⟨a, fs, rfl, ha, hc⟩, by omega, by omega, hct, fun r h2 hq2 => by
    have e : (b.1 - mCel M2, b.2 - mSlo M2) = b := by rw [hz1, hz2]; rfl
    rw [e, hq]
    exact k r h2 hq2⟩
theorem wp_v5I {d2 idx : Nat} {M2 : mM} {v1 v2 v3 v4 v5 : mV} {a : Nat} {fs : List mV} {x : mV} {h2 : List mC} (hd : decode (mCode M) pc = .ok (.invokevirtual idx, 3)) (hq : pc + 3 = q) (hT : mTok (mOwn M) idx 0 5 M2) (hr : mCats S ≤ 8) (hm : (mArgs (mMax M2) [mR a, v1, v2, v3, v4, v5]).length = mMax M2) (ha : 2 ≤ a) (hc : h[a]? = some (mO (mOwn M2) fs)) (hz1 : mCel M2 = 0) (hz2 : mSlo M2 = 0) (hct : Rt d2 M2 [mR a, v1, v2, v3, v4, v5] h (some x) h2) (k : Wp (d2 + 1) M q L (x :: S) h2 b Q) : Wp (d2 + 1) M pc L (v5 :: v4 :: v3 :: v2 :: v1 :: mR a :: S) h b Q :=
  wp_v5 hd hq hT hr hm ha hc hz1 hz2 hct (fun r h3 hq3 => by obtain ⟨rfl, rfl⟩ := hq3; exact k)
theorem wp_v5V {d2 idx : Nat} {M2 : mM} {v1 v2 v3 v4 v5 : mV} {a : Nat} {fs : List mV} {h2 : List mC} (hd : decode (mCode M) pc = .ok (.invokevirtual idx, 3)) (hq : pc + 3 = q) (hT : mTok (mOwn M) idx 0 5 M2) (hr : mCats S ≤ 8) (hm : (mArgs (mMax M2) [mR a, v1, v2, v3, v4, v5]).length = mMax M2) (ha : 2 ≤ a) (hc : h[a]? = some (mO (mOwn M2) fs)) (hz1 : mCel M2 = 0) (hz2 : mSlo M2 = 0) (hct : Rt d2 M2 [mR a, v1, v2, v3, v4, v5] h none h2) (k : Wp (d2 + 1) M q L S h2 b Q) : Wp (d2 + 1) M pc L (v5 :: v4 :: v3 :: v2 :: v1 :: mR a :: S) h b Q :=
  wp_v5 hd hq hT hr hm ha hc hz1 hz2 hct (fun r h3 hq3 => by obtain ⟨rfl, rfl⟩ := hq3; exact k)
theorem wp_s0 {d2 idx : Nat} {M2 : mM} {Q2 : Option mV → List mC → Prop} (hd : decode (mCode M) pc = .ok (.invokestatic idx, 3)) (hq : pc + 3 = q) (hT : mTok (mOwn M) idx 1 0 M2) (hr : mCats S ≤ 8) (hm : (mArgs (mMax M2) []).length = mMax M2) (hz1 : mCel M2 = 0) (hz2 : mSlo M2 = 0) (hct : Ct d2 M2 [] h Q2) (k : ∀ r h2, Q2 r h2 → Wp (d2 + 1) M q L (r.toList ++ S) h2 b Q) : Wp (d2 + 1) M pc L (S) h b Q :=
  wp_cc hd ⟨d2, idx, 1, 0, M2, [], S, Q2, rfl, rfl, rfl, hT, rfl, rfl, hr, hm, fun z => by omega, by omega, by omega, hct, fun r h2 hq2 => by
    have e : (b.1 - mCel M2, b.2 - mSlo M2) = b := by rw [hz1, hz2]; rfl
    rw [e, hq]
    exact k r h2 hq2⟩
theorem wp_s0I {d2 idx : Nat} {M2 : mM} {x : mV} {h2 : List mC} (hd : decode (mCode M) pc = .ok (.invokestatic idx, 3)) (hq : pc + 3 = q) (hT : mTok (mOwn M) idx 1 0 M2) (hr : mCats S ≤ 8) (hm : (mArgs (mMax M2) []).length = mMax M2) (hz1 : mCel M2 = 0) (hz2 : mSlo M2 = 0) (hct : Rt d2 M2 [] h (some x) h2) (k : Wp (d2 + 1) M q L (x :: S) h2 b Q) : Wp (d2 + 1) M pc L (S) h b Q :=
  wp_s0 hd hq hT hr hm hz1 hz2 hct (fun r h3 hq3 => by obtain ⟨rfl, rfl⟩ := hq3; exact k)
theorem wp_s0V {d2 idx : Nat} {M2 : mM} {h2 : List mC} (hd : decode (mCode M) pc = .ok (.invokestatic idx, 3)) (hq : pc + 3 = q) (hT : mTok (mOwn M) idx 1 0 M2) (hr : mCats S ≤ 8) (hm : (mArgs (mMax M2) []).length = mMax M2) (hz1 : mCel M2 = 0) (hz2 : mSlo M2 = 0) (hct : Rt d2 M2 [] h none h2) (k : Wp (d2 + 1) M q L S h2 b Q) : Wp (d2 + 1) M pc L (S) h b Q :=
  wp_s0 hd hq hT hr hm hz1 hz2 hct (fun r h3 hq3 => by obtain ⟨rfl, rfl⟩ := hq3; exact k)
theorem wp_s1 {d2 idx : Nat} {M2 : mM} {v1 : mV} {Q2 : Option mV → List mC → Prop} (hd : decode (mCode M) pc = .ok (.invokestatic idx, 3)) (hq : pc + 3 = q) (hT : mTok (mOwn M) idx 1 1 M2) (hr : mCats S ≤ 8) (hm : (mArgs (mMax M2) [v1]).length = mMax M2) (hz1 : mCel M2 = 0) (hz2 : mSlo M2 = 0) (hct : Ct d2 M2 [v1] h Q2) (k : ∀ r h2, Q2 r h2 → Wp (d2 + 1) M q L (r.toList ++ S) h2 b Q) : Wp (d2 + 1) M pc L (v1 :: S) h b Q :=
  wp_cc hd ⟨d2, idx, 1, 1, M2, [v1], S, Q2, rfl, rfl, rfl, hT, rfl, rfl, hr, hm, fun z => by omega, by omega, by omega, hct, fun r h2 hq2 => by
    have e : (b.1 - mCel M2, b.2 - mSlo M2) = b := by rw [hz1, hz2]; rfl
    rw [e, hq]
    exact k r h2 hq2⟩
theorem wp_s1I {d2 idx : Nat} {M2 : mM} {v1 : mV} {x : mV} {h2 : List mC} (hd : decode (mCode M) pc = .ok (.invokestatic idx, 3)) (hq : pc + 3 = q) (hT : mTok (mOwn M) idx 1 1 M2) (hr : mCats S ≤ 8) (hm : (mArgs (mMax M2) [v1]).length = mMax M2) (hz1 : mCel M2 = 0) (hz2 : mSlo M2 = 0) (hct : Rt d2 M2 [v1] h (some x) h2) (k : Wp (d2 + 1) M q L (x :: S) h2 b Q) : Wp (d2 + 1) M pc L (v1 :: S) h b Q :=
  wp_s1 hd hq hT hr hm hz1 hz2 hct (fun r h3 hq3 => by obtain ⟨rfl, rfl⟩ := hq3; exact k)
theorem wp_s1V {d2 idx : Nat} {M2 : mM} {v1 : mV} {h2 : List mC} (hd : decode (mCode M) pc = .ok (.invokestatic idx, 3)) (hq : pc + 3 = q) (hT : mTok (mOwn M) idx 1 1 M2) (hr : mCats S ≤ 8) (hm : (mArgs (mMax M2) [v1]).length = mMax M2) (hz1 : mCel M2 = 0) (hz2 : mSlo M2 = 0) (hct : Rt d2 M2 [v1] h none h2) (k : Wp (d2 + 1) M q L S h2 b Q) : Wp (d2 + 1) M pc L (v1 :: S) h b Q :=
  wp_s1 hd hq hT hr hm hz1 hz2 hct (fun r h3 hq3 => by obtain ⟨rfl, rfl⟩ := hq3; exact k)
theorem wp_s2 {d2 idx : Nat} {M2 : mM} {v1 v2 : mV} {Q2 : Option mV → List mC → Prop} (hd : decode (mCode M) pc = .ok (.invokestatic idx, 3)) (hq : pc + 3 = q) (hT : mTok (mOwn M) idx 1 2 M2) (hr : mCats S ≤ 8) (hm : (mArgs (mMax M2) [v1, v2]).length = mMax M2) (hz1 : mCel M2 = 0) (hz2 : mSlo M2 = 0) (hct : Ct d2 M2 [v1, v2] h Q2) (k : ∀ r h2, Q2 r h2 → Wp (d2 + 1) M q L (r.toList ++ S) h2 b Q) : Wp (d2 + 1) M pc L (v2 :: v1 :: S) h b Q :=
  wp_cc hd ⟨d2, idx, 1, 2, M2, [v1, v2], S, Q2, rfl, rfl, rfl, hT, rfl, rfl, hr, hm, fun z => by omega, by omega, by omega, hct, fun r h2 hq2 => by
    have e : (b.1 - mCel M2, b.2 - mSlo M2) = b := by rw [hz1, hz2]; rfl
    rw [e, hq]
    exact k r h2 hq2⟩
theorem wp_s2I {d2 idx : Nat} {M2 : mM} {v1 v2 : mV} {x : mV} {h2 : List mC} (hd : decode (mCode M) pc = .ok (.invokestatic idx, 3)) (hq : pc + 3 = q) (hT : mTok (mOwn M) idx 1 2 M2) (hr : mCats S ≤ 8) (hm : (mArgs (mMax M2) [v1, v2]).length = mMax M2) (hz1 : mCel M2 = 0) (hz2 : mSlo M2 = 0) (hct : Rt d2 M2 [v1, v2] h (some x) h2) (k : Wp (d2 + 1) M q L (x :: S) h2 b Q) : Wp (d2 + 1) M pc L (v2 :: v1 :: S) h b Q :=
  wp_s2 hd hq hT hr hm hz1 hz2 hct (fun r h3 hq3 => by obtain ⟨rfl, rfl⟩ := hq3; exact k)
theorem wp_s2V {d2 idx : Nat} {M2 : mM} {v1 v2 : mV} {h2 : List mC} (hd : decode (mCode M) pc = .ok (.invokestatic idx, 3)) (hq : pc + 3 = q) (hT : mTok (mOwn M) idx 1 2 M2) (hr : mCats S ≤ 8) (hm : (mArgs (mMax M2) [v1, v2]).length = mMax M2) (hz1 : mCel M2 = 0) (hz2 : mSlo M2 = 0) (hct : Rt d2 M2 [v1, v2] h none h2) (k : Wp (d2 + 1) M q L S h2 b Q) : Wp (d2 + 1) M pc L (v2 :: v1 :: S) h b Q :=
  wp_s2 hd hq hT hr hm hz1 hz2 hct (fun r h3 hq3 => by obtain ⟨rfl, rfl⟩ := hq3; exact k)
theorem wp_s3 {d2 idx : Nat} {M2 : mM} {v1 v2 v3 : mV} {Q2 : Option mV → List mC → Prop} (hd : decode (mCode M) pc = .ok (.invokestatic idx, 3)) (hq : pc + 3 = q) (hT : mTok (mOwn M) idx 1 3 M2) (hr : mCats S ≤ 8) (hm : (mArgs (mMax M2) [v1, v2, v3]).length = mMax M2) (hz1 : mCel M2 = 0) (hz2 : mSlo M2 = 0) (hct : Ct d2 M2 [v1, v2, v3] h Q2) (k : ∀ r h2, Q2 r h2 → Wp (d2 + 1) M q L (r.toList ++ S) h2 b Q) : Wp (d2 + 1) M pc L (v3 :: v2 :: v1 :: S) h b Q :=
  wp_cc hd ⟨d2, idx, 1, 3, M2, [v1, v2, v3], S, Q2, rfl, rfl, rfl, hT, rfl, rfl, hr, hm, fun z => by omega, by omega, by omega, hct, fun r h2 hq2 => by
    have e : (b.1 - mCel M2, b.2 - mSlo M2) = b := by rw [hz1, hz2]; rfl
    rw [e, hq]
    exact k r h2 hq2⟩
theorem wp_s3I {d2 idx : Nat} {M2 : mM} {v1 v2 v3 : mV} {x : mV} {h2 : List mC} (hd : decode (mCode M) pc = .ok (.invokestatic idx, 3)) (hq : pc + 3 = q) (hT : mTok (mOwn M) idx 1 3 M2) (hr : mCats S ≤ 8) (hm : (mArgs (mMax M2) [v1, v2, v3]).length = mMax M2) (hz1 : mCel M2 = 0) (hz2 : mSlo M2 = 0) (hct : Rt d2 M2 [v1, v2, v3] h (some x) h2) (k : Wp (d2 + 1) M q L (x :: S) h2 b Q) : Wp (d2 + 1) M pc L (v3 :: v2 :: v1 :: S) h b Q :=
  wp_s3 hd hq hT hr hm hz1 hz2 hct (fun r h3 hq3 => by obtain ⟨rfl, rfl⟩ := hq3; exact k)
theorem wp_s3V {d2 idx : Nat} {M2 : mM} {v1 v2 v3 : mV} {h2 : List mC} (hd : decode (mCode M) pc = .ok (.invokestatic idx, 3)) (hq : pc + 3 = q) (hT : mTok (mOwn M) idx 1 3 M2) (hr : mCats S ≤ 8) (hm : (mArgs (mMax M2) [v1, v2, v3]).length = mMax M2) (hz1 : mCel M2 = 0) (hz2 : mSlo M2 = 0) (hct : Rt d2 M2 [v1, v2, v3] h none h2) (k : Wp (d2 + 1) M q L S h2 b Q) : Wp (d2 + 1) M pc L (v3 :: v2 :: v1 :: S) h b Q :=
  wp_s3 hd hq hT hr hm hz1 hz2 hct (fun r h3 hq3 => by obtain ⟨rfl, rfl⟩ := hq3; exact k)
theorem wp_s4 {d2 idx : Nat} {M2 : mM} {v1 v2 v3 v4 : mV} {Q2 : Option mV → List mC → Prop} (hd : decode (mCode M) pc = .ok (.invokestatic idx, 3)) (hq : pc + 3 = q) (hT : mTok (mOwn M) idx 1 4 M2) (hr : mCats S ≤ 8) (hm : (mArgs (mMax M2) [v1, v2, v3, v4]).length = mMax M2) (hz1 : mCel M2 = 0) (hz2 : mSlo M2 = 0) (hct : Ct d2 M2 [v1, v2, v3, v4] h Q2) (k : ∀ r h2, Q2 r h2 → Wp (d2 + 1) M q L (r.toList ++ S) h2 b Q) : Wp (d2 + 1) M pc L (v4 :: v3 :: v2 :: v1 :: S) h b Q :=
  wp_cc hd ⟨d2, idx, 1, 4, M2, [v1, v2, v3, v4], S, Q2, rfl, rfl, rfl, hT, rfl, rfl, hr, hm, fun z => by omega, by omega, by omega, hct, fun r h2 hq2 => by
    have e : (b.1 - mCel M2, b.2 - mSlo M2) = b := by rw [hz1, hz2]; rfl
    rw [e, hq]
    exact k r h2 hq2⟩
theorem wp_s4I {d2 idx : Nat} {M2 : mM} {v1 v2 v3 v4 : mV} {x : mV} {h2 : List mC} (hd : decode (mCode M) pc = .ok (.invokestatic idx, 3)) (hq : pc + 3 = q) (hT : mTok (mOwn M) idx 1 4 M2) (hr : mCats S ≤ 8) (hm : (mArgs (mMax M2) [v1, v2, v3, v4]).length = mMax M2) (hz1 : mCel M2 = 0) (hz2 : mSlo M2 = 0) (hct : Rt d2 M2 [v1, v2, v3, v4] h (some x) h2) (k : Wp (d2 + 1) M q L (x :: S) h2 b Q) : Wp (d2 + 1) M pc L (v4 :: v3 :: v2 :: v1 :: S) h b Q :=
  wp_s4 hd hq hT hr hm hz1 hz2 hct (fun r h3 hq3 => by obtain ⟨rfl, rfl⟩ := hq3; exact k)
theorem wp_s4V {d2 idx : Nat} {M2 : mM} {v1 v2 v3 v4 : mV} {h2 : List mC} (hd : decode (mCode M) pc = .ok (.invokestatic idx, 3)) (hq : pc + 3 = q) (hT : mTok (mOwn M) idx 1 4 M2) (hr : mCats S ≤ 8) (hm : (mArgs (mMax M2) [v1, v2, v3, v4]).length = mMax M2) (hz1 : mCel M2 = 0) (hz2 : mSlo M2 = 0) (hct : Rt d2 M2 [v1, v2, v3, v4] h none h2) (k : Wp (d2 + 1) M q L S h2 b Q) : Wp (d2 + 1) M pc L (v4 :: v3 :: v2 :: v1 :: S) h b Q :=
  wp_s4 hd hq hT hr hm hz1 hz2 hct (fun r h3 hq3 => by obtain ⟨rfl, rfl⟩ := hq3; exact k)
theorem wp_s5 {d2 idx : Nat} {M2 : mM} {v1 v2 v3 v4 v5 : mV} {Q2 : Option mV → List mC → Prop} (hd : decode (mCode M) pc = .ok (.invokestatic idx, 3)) (hq : pc + 3 = q) (hT : mTok (mOwn M) idx 1 5 M2) (hr : mCats S ≤ 8) (hm : (mArgs (mMax M2) [v1, v2, v3, v4, v5]).length = mMax M2) (hz1 : mCel M2 = 0) (hz2 : mSlo M2 = 0) (hct : Ct d2 M2 [v1, v2, v3, v4, v5] h Q2) (k : ∀ r h2, Q2 r h2 → Wp (d2 + 1) M q L (r.toList ++ S) h2 b Q) : Wp (d2 + 1) M pc L (v5 :: v4 :: v3 :: v2 :: v1 :: S) h b Q :=
  wp_cc hd ⟨d2, idx, 1, 5, M2, [v1, v2, v3, v4, v5], S, Q2, rfl, rfl, rfl, hT, rfl, rfl, hr, hm, fun z => by omega, by omega, by omega, hct, fun r h2 hq2 => by
    have e : (b.1 - mCel M2, b.2 - mSlo M2) = b := by rw [hz1, hz2]; rfl
    rw [e, hq]
    exact k r h2 hq2⟩
theorem wp_s5I {d2 idx : Nat} {M2 : mM} {v1 v2 v3 v4 v5 : mV} {x : mV} {h2 : List mC} (hd : decode (mCode M) pc = .ok (.invokestatic idx, 3)) (hq : pc + 3 = q) (hT : mTok (mOwn M) idx 1 5 M2) (hr : mCats S ≤ 8) (hm : (mArgs (mMax M2) [v1, v2, v3, v4, v5]).length = mMax M2) (hz1 : mCel M2 = 0) (hz2 : mSlo M2 = 0) (hct : Rt d2 M2 [v1, v2, v3, v4, v5] h (some x) h2) (k : Wp (d2 + 1) M q L (x :: S) h2 b Q) : Wp (d2 + 1) M pc L (v5 :: v4 :: v3 :: v2 :: v1 :: S) h b Q :=
  wp_s5 hd hq hT hr hm hz1 hz2 hct (fun r h3 hq3 => by obtain ⟨rfl, rfl⟩ := hq3; exact k)
theorem wp_s5V {d2 idx : Nat} {M2 : mM} {v1 v2 v3 v4 v5 : mV} {h2 : List mC} (hd : decode (mCode M) pc = .ok (.invokestatic idx, 3)) (hq : pc + 3 = q) (hT : mTok (mOwn M) idx 1 5 M2) (hr : mCats S ≤ 8) (hm : (mArgs (mMax M2) [v1, v2, v3, v4, v5]).length = mMax M2) (hz1 : mCel M2 = 0) (hz2 : mSlo M2 = 0) (hct : Rt d2 M2 [v1, v2, v3, v4, v5] h none h2) (k : Wp (d2 + 1) M q L S h2 b Q) : Wp (d2 + 1) M pc L (v5 :: v4 :: v3 :: v2 :: v1 :: S) h b Q :=
  wp_s5 hd hq hT hr hm hz1 hz2 hct (fun r h3 hq3 => by obtain ⟨rfl, rfl⟩ := hq3; exact k)
theorem wp_n0 {d2 idx : Nat} {M2 : mM} {Q2 : Option mV → List mC → Prop} (hd : decode (mCode M) pc = .ok (.invokestatic idx, 3)) (hq : pc + 3 = q) (hT : mTok (mOwn M) idx 3 0 M2) (hr : mCats S ≤ 8) (hm : (mArgs (mMax M2) []).length = mMax M2) (hz1 : mCel M2 = 0) (hz2 : mSlo M2 = 0) (hct : Ct d2 M2 [] h Q2) (k : ∀ r h2, Q2 r h2 → Wp (d2 + 1) M q L (r.toList ++ S) h2 b Q) : Wp (d2 + 1) M pc L (S) h b Q :=
  wp_cc hd ⟨d2, idx, 3, 0, M2, [], S, Q2, rfl, rfl, rfl, hT, rfl, rfl, hr, hm, fun z => by omega, by omega, by omega, hct, fun r h2 hq2 => by
    have e : (b.1 - mCel M2, b.2 - mSlo M2) = b := by rw [hz1, hz2]; rfl
    rw [e, hq]
    exact k r h2 hq2⟩
theorem wp_n0I {d2 idx : Nat} {M2 : mM} {x : mV} {h2 : List mC} (hd : decode (mCode M) pc = .ok (.invokestatic idx, 3)) (hq : pc + 3 = q) (hT : mTok (mOwn M) idx 3 0 M2) (hr : mCats S ≤ 8) (hm : (mArgs (mMax M2) []).length = mMax M2) (hz1 : mCel M2 = 0) (hz2 : mSlo M2 = 0) (hct : Rt d2 M2 [] h (some x) h2) (k : Wp (d2 + 1) M q L (x :: S) h2 b Q) : Wp (d2 + 1) M pc L (S) h b Q :=
  wp_n0 hd hq hT hr hm hz1 hz2 hct (fun r h3 hq3 => by obtain ⟨rfl, rfl⟩ := hq3; exact k)
theorem wp_n0V {d2 idx : Nat} {M2 : mM} {h2 : List mC} (hd : decode (mCode M) pc = .ok (.invokestatic idx, 3)) (hq : pc + 3 = q) (hT : mTok (mOwn M) idx 3 0 M2) (hr : mCats S ≤ 8) (hm : (mArgs (mMax M2) []).length = mMax M2) (hz1 : mCel M2 = 0) (hz2 : mSlo M2 = 0) (hct : Rt d2 M2 [] h none h2) (k : Wp (d2 + 1) M q L S h2 b Q) : Wp (d2 + 1) M pc L (S) h b Q :=
  wp_n0 hd hq hT hr hm hz1 hz2 hct (fun r h3 hq3 => by obtain ⟨rfl, rfl⟩ := hq3; exact k)
theorem wp_n1 {d2 idx : Nat} {M2 : mM} {v1 : mV} {Q2 : Option mV → List mC → Prop} (hd : decode (mCode M) pc = .ok (.invokestatic idx, 3)) (hq : pc + 3 = q) (hT : mTok (mOwn M) idx 3 1 M2) (hr : mCats S ≤ 8) (hm : (mArgs (mMax M2) [v1]).length = mMax M2) (hz1 : mCel M2 = 0) (hz2 : mSlo M2 = 0) (hct : Ct d2 M2 [v1] h Q2) (k : ∀ r h2, Q2 r h2 → Wp (d2 + 1) M q L (r.toList ++ S) h2 b Q) : Wp (d2 + 1) M pc L (v1 :: S) h b Q :=
  wp_cc hd ⟨d2, idx, 3, 1, M2, [v1], S, Q2, rfl, rfl, rfl, hT, rfl, rfl, hr, hm, fun z => by omega, by omega, by omega, hct, fun r h2 hq2 => by
    have e : (b.1 - mCel M2, b.2 - mSlo M2) = b := by rw [hz1, hz2]; rfl
    rw [e, hq]
    exact k r h2 hq2⟩
theorem wp_n1I {d2 idx : Nat} {M2 : mM} {v1 : mV} {x : mV} {h2 : List mC} (hd : decode (mCode M) pc = .ok (.invokestatic idx, 3)) (hq : pc + 3 = q) (hT : mTok (mOwn M) idx 3 1 M2) (hr : mCats S ≤ 8) (hm : (mArgs (mMax M2) [v1]).length = mMax M2) (hz1 : mCel M2 = 0) (hz2 : mSlo M2 = 0) (hct : Rt d2 M2 [v1] h (some x) h2) (k : Wp (d2 + 1) M q L (x :: S) h2 b Q) : Wp (d2 + 1) M pc L (v1 :: S) h b Q :=
  wp_n1 hd hq hT hr hm hz1 hz2 hct (fun r h3 hq3 => by obtain ⟨rfl, rfl⟩ := hq3; exact k)
theorem wp_n1V {d2 idx : Nat} {M2 : mM} {v1 : mV} {h2 : List mC} (hd : decode (mCode M) pc = .ok (.invokestatic idx, 3)) (hq : pc + 3 = q) (hT : mTok (mOwn M) idx 3 1 M2) (hr : mCats S ≤ 8) (hm : (mArgs (mMax M2) [v1]).length = mMax M2) (hz1 : mCel M2 = 0) (hz2 : mSlo M2 = 0) (hct : Rt d2 M2 [v1] h none h2) (k : Wp (d2 + 1) M q L S h2 b Q) : Wp (d2 + 1) M pc L (v1 :: S) h b Q :=
  wp_n1 hd hq hT hr hm hz1 hz2 hct (fun r h3 hq3 => by obtain ⟨rfl, rfl⟩ := hq3; exact k)
theorem wp_n2 {d2 idx : Nat} {M2 : mM} {v1 v2 : mV} {Q2 : Option mV → List mC → Prop} (hd : decode (mCode M) pc = .ok (.invokestatic idx, 3)) (hq : pc + 3 = q) (hT : mTok (mOwn M) idx 3 2 M2) (hr : mCats S ≤ 8) (hm : (mArgs (mMax M2) [v1, v2]).length = mMax M2) (hz1 : mCel M2 = 0) (hz2 : mSlo M2 = 0) (hct : Ct d2 M2 [v1, v2] h Q2) (k : ∀ r h2, Q2 r h2 → Wp (d2 + 1) M q L (r.toList ++ S) h2 b Q) : Wp (d2 + 1) M pc L (v2 :: v1 :: S) h b Q :=
  wp_cc hd ⟨d2, idx, 3, 2, M2, [v1, v2], S, Q2, rfl, rfl, rfl, hT, rfl, rfl, hr, hm, fun z => by omega, by omega, by omega, hct, fun r h2 hq2 => by
    have e : (b.1 - mCel M2, b.2 - mSlo M2) = b := by rw [hz1, hz2]; rfl
    rw [e, hq]
    exact k r h2 hq2⟩
theorem wp_n2I {d2 idx : Nat} {M2 : mM} {v1 v2 : mV} {x : mV} {h2 : List mC} (hd : decode (mCode M) pc = .ok (.invokestatic idx, 3)) (hq : pc + 3 = q) (hT : mTok (mOwn M) idx 3 2 M2) (hr : mCats S ≤ 8) (hm : (mArgs (mMax M2) [v1, v2]).length = mMax M2) (hz1 : mCel M2 = 0) (hz2 : mSlo M2 = 0) (hct : Rt d2 M2 [v1, v2] h (some x) h2) (k : Wp (d2 + 1) M q L (x :: S) h2 b Q) : Wp (d2 + 1) M pc L (v2 :: v1 :: S) h b Q :=
  wp_n2 hd hq hT hr hm hz1 hz2 hct (fun r h3 hq3 => by obtain ⟨rfl, rfl⟩ := hq3; exact k)
theorem wp_n2V {d2 idx : Nat} {M2 : mM} {v1 v2 : mV} {h2 : List mC} (hd : decode (mCode M) pc = .ok (.invokestatic idx, 3)) (hq : pc + 3 = q) (hT : mTok (mOwn M) idx 3 2 M2) (hr : mCats S ≤ 8) (hm : (mArgs (mMax M2) [v1, v2]).length = mMax M2) (hz1 : mCel M2 = 0) (hz2 : mSlo M2 = 0) (hct : Rt d2 M2 [v1, v2] h none h2) (k : Wp (d2 + 1) M q L S h2 b Q) : Wp (d2 + 1) M pc L (v2 :: v1 :: S) h b Q :=
  wp_n2 hd hq hT hr hm hz1 hz2 hct (fun r h3 hq3 => by obtain ⟨rfl, rfl⟩ := hq3; exact k)
theorem wp_n3 {d2 idx : Nat} {M2 : mM} {v1 v2 v3 : mV} {Q2 : Option mV → List mC → Prop} (hd : decode (mCode M) pc = .ok (.invokestatic idx, 3)) (hq : pc + 3 = q) (hT : mTok (mOwn M) idx 3 3 M2) (hr : mCats S ≤ 8) (hm : (mArgs (mMax M2) [v1, v2, v3]).length = mMax M2) (hz1 : mCel M2 = 0) (hz2 : mSlo M2 = 0) (hct : Ct d2 M2 [v1, v2, v3] h Q2) (k : ∀ r h2, Q2 r h2 → Wp (d2 + 1) M q L (r.toList ++ S) h2 b Q) : Wp (d2 + 1) M pc L (v3 :: v2 :: v1 :: S) h b Q :=
  wp_cc hd ⟨d2, idx, 3, 3, M2, [v1, v2, v3], S, Q2, rfl, rfl, rfl, hT, rfl, rfl, hr, hm, fun z => by omega, by omega, by omega, hct, fun r h2 hq2 => by
    have e : (b.1 - mCel M2, b.2 - mSlo M2) = b := by rw [hz1, hz2]; rfl
    rw [e, hq]
    exact k r h2 hq2⟩
theorem wp_n3I {d2 idx : Nat} {M2 : mM} {v1 v2 v3 : mV} {x : mV} {h2 : List mC} (hd : decode (mCode M) pc = .ok (.invokestatic idx, 3)) (hq : pc + 3 = q) (hT : mTok (mOwn M) idx 3 3 M2) (hr : mCats S ≤ 8) (hm : (mArgs (mMax M2) [v1, v2, v3]).length = mMax M2) (hz1 : mCel M2 = 0) (hz2 : mSlo M2 = 0) (hct : Rt d2 M2 [v1, v2, v3] h (some x) h2) (k : Wp (d2 + 1) M q L (x :: S) h2 b Q) : Wp (d2 + 1) M pc L (v3 :: v2 :: v1 :: S) h b Q :=
  wp_n3 hd hq hT hr hm hz1 hz2 hct (fun r h3 hq3 => by obtain ⟨rfl, rfl⟩ := hq3; exact k)
theorem wp_n3V {d2 idx : Nat} {M2 : mM} {v1 v2 v3 : mV} {h2 : List mC} (hd : decode (mCode M) pc = .ok (.invokestatic idx, 3)) (hq : pc + 3 = q) (hT : mTok (mOwn M) idx 3 3 M2) (hr : mCats S ≤ 8) (hm : (mArgs (mMax M2) [v1, v2, v3]).length = mMax M2) (hz1 : mCel M2 = 0) (hz2 : mSlo M2 = 0) (hct : Rt d2 M2 [v1, v2, v3] h none h2) (k : Wp (d2 + 1) M q L S h2 b Q) : Wp (d2 + 1) M pc L (v3 :: v2 :: v1 :: S) h b Q :=
  wp_n3 hd hq hT hr hm hz1 hz2 hct (fun r h3 hq3 => by obtain ⟨rfl, rfl⟩ := hq3; exact k)
theorem wp_n4 {d2 idx : Nat} {M2 : mM} {v1 v2 v3 v4 : mV} {Q2 : Option mV → List mC → Prop} (hd : decode (mCode M) pc = .ok (.invokestatic idx, 3)) (hq : pc + 3 = q) (hT : mTok (mOwn M) idx 3 4 M2) (hr : mCats S ≤ 8) (hm : (mArgs (mMax M2) [v1, v2, v3, v4]).length = mMax M2) (hz1 : mCel M2 = 0) (hz2 : mSlo M2 = 0) (hct : Ct d2 M2 [v1, v2, v3, v4] h Q2) (k : ∀ r h2, Q2 r h2 → Wp (d2 + 1) M q L (r.toList ++ S) h2 b Q) : Wp (d2 + 1) M pc L (v4 :: v3 :: v2 :: v1 :: S) h b Q :=
  wp_cc hd ⟨d2, idx, 3, 4, M2, [v1, v2, v3, v4], S, Q2, rfl, rfl, rfl, hT, rfl, rfl, hr, hm, fun z => by omega, by omega, by omega, hct, fun r h2 hq2 => by
    have e : (b.1 - mCel M2, b.2 - mSlo M2) = b := by rw [hz1, hz2]; rfl
    rw [e, hq]
    exact k r h2 hq2⟩
theorem wp_n4I {d2 idx : Nat} {M2 : mM} {v1 v2 v3 v4 : mV} {x : mV} {h2 : List mC} (hd : decode (mCode M) pc = .ok (.invokestatic idx, 3)) (hq : pc + 3 = q) (hT : mTok (mOwn M) idx 3 4 M2) (hr : mCats S ≤ 8) (hm : (mArgs (mMax M2) [v1, v2, v3, v4]).length = mMax M2) (hz1 : mCel M2 = 0) (hz2 : mSlo M2 = 0) (hct : Rt d2 M2 [v1, v2, v3, v4] h (some x) h2) (k : Wp (d2 + 1) M q L (x :: S) h2 b Q) : Wp (d2 + 1) M pc L (v4 :: v3 :: v2 :: v1 :: S) h b Q :=
  wp_n4 hd hq hT hr hm hz1 hz2 hct (fun r h3 hq3 => by obtain ⟨rfl, rfl⟩ := hq3; exact k)
theorem wp_n4V {d2 idx : Nat} {M2 : mM} {v1 v2 v3 v4 : mV} {h2 : List mC} (hd : decode (mCode M) pc = .ok (.invokestatic idx, 3)) (hq : pc + 3 = q) (hT : mTok (mOwn M) idx 3 4 M2) (hr : mCats S ≤ 8) (hm : (mArgs (mMax M2) [v1, v2, v3, v4]).length = mMax M2) (hz1 : mCel M2 = 0) (hz2 : mSlo M2 = 0) (hct : Rt d2 M2 [v1, v2, v3, v4] h none h2) (k : Wp (d2 + 1) M q L S h2 b Q) : Wp (d2 + 1) M pc L (v4 :: v3 :: v2 :: v1 :: S) h b Q :=
  wp_n4 hd hq hT hr hm hz1 hz2 hct (fun r h3 hq3 => by obtain ⟨rfl, rfl⟩ := hq3; exact k)
theorem wp_n5 {d2 idx : Nat} {M2 : mM} {v1 v2 v3 v4 v5 : mV} {Q2 : Option mV → List mC → Prop} (hd : decode (mCode M) pc = .ok (.invokestatic idx, 3)) (hq : pc + 3 = q) (hT : mTok (mOwn M) idx 3 5 M2) (hr : mCats S ≤ 8) (hm : (mArgs (mMax M2) [v1, v2, v3, v4, v5]).length = mMax M2) (hz1 : mCel M2 = 0) (hz2 : mSlo M2 = 0) (hct : Ct d2 M2 [v1, v2, v3, v4, v5] h Q2) (k : ∀ r h2, Q2 r h2 → Wp (d2 + 1) M q L (r.toList ++ S) h2 b Q) : Wp (d2 + 1) M pc L (v5 :: v4 :: v3 :: v2 :: v1 :: S) h b Q :=
  wp_cc hd ⟨d2, idx, 3, 5, M2, [v1, v2, v3, v4, v5], S, Q2, rfl, rfl, rfl, hT, rfl, rfl, hr, hm, fun z => by omega, by omega, by omega, hct, fun r h2 hq2 => by
    have e : (b.1 - mCel M2, b.2 - mSlo M2) = b := by rw [hz1, hz2]; rfl
    rw [e, hq]
    exact k r h2 hq2⟩
theorem wp_n5I {d2 idx : Nat} {M2 : mM} {v1 v2 v3 v4 v5 : mV} {x : mV} {h2 : List mC} (hd : decode (mCode M) pc = .ok (.invokestatic idx, 3)) (hq : pc + 3 = q) (hT : mTok (mOwn M) idx 3 5 M2) (hr : mCats S ≤ 8) (hm : (mArgs (mMax M2) [v1, v2, v3, v4, v5]).length = mMax M2) (hz1 : mCel M2 = 0) (hz2 : mSlo M2 = 0) (hct : Rt d2 M2 [v1, v2, v3, v4, v5] h (some x) h2) (k : Wp (d2 + 1) M q L (x :: S) h2 b Q) : Wp (d2 + 1) M pc L (v5 :: v4 :: v3 :: v2 :: v1 :: S) h b Q :=
  wp_n5 hd hq hT hr hm hz1 hz2 hct (fun r h3 hq3 => by obtain ⟨rfl, rfl⟩ := hq3; exact k)
theorem wp_n5V {d2 idx : Nat} {M2 : mM} {v1 v2 v3 v4 v5 : mV} {h2 : List mC} (hd : decode (mCode M) pc = .ok (.invokestatic idx, 3)) (hq : pc + 3 = q) (hT : mTok (mOwn M) idx 3 5 M2) (hr : mCats S ≤ 8) (hm : (mArgs (mMax M2) [v1, v2, v3, v4, v5]).length = mMax M2) (hz1 : mCel M2 = 0) (hz2 : mSlo M2 = 0) (hct : Rt d2 M2 [v1, v2, v3, v4, v5] h none h2) (k : Wp (d2 + 1) M q L S h2 b Q) : Wp (d2 + 1) M pc L (v5 :: v4 :: v3 :: v2 :: v1 :: S) h b Q :=
  wp_n5 hd hq hT hr hm hz1 hz2 hct (fun r h3 hq3 => by obtain ⟨rfl, rfl⟩ := hq3; exact k)
theorem wp_i0 {d2 idx mc ms mc2 ms2 : Nat} {M2 : mM} {a : Nat} {fs : List mV} {Q2 : Option mV → List mC → Prop} (hd : decode (mCode M) pc = .ok (.invokespecial idx, 3)) (hq : pc + 3 = q) (hT : mTok (mOwn M) idx 2 0 M2) (hr : mCats S ≤ 8) (hm : (mArgs (mMax M2) [mR a]).length = mMax M2) (ha : 2 ≤ a) (hc : h[a]? = some (mO (mOwn M2) fs)) (hb1 : mc = mc2 + mCel M2) (hb2 : ms = ms2 + mSlo M2) (hct : Ct d2 M2 [mR a] h Q2) (hN : ∀ r h2, Q2 r h2 → r = none ∧ Q2 none h2) (k : ∀ h2, Q2 none h2 → Wp (d2 + 1) M q L S h2 (mc2, ms2) Q) : Wp (d2 + 1) M pc L (mR a :: S) h (mc, ms) Q :=
  wp_cc hd ⟨d2, idx, 2, 0, M2, [mR a], S, fun r h2 => r = none ∧ Q2 none h2, rfl, rfl, rfl, hT, rfl, rfl, hr, hm, fun _ => ⟨a, fs, rfl, ha, hc⟩, by show _ ≤ mc; omega, by show _ ≤ ms; omega, wp_post hct (fun r h2 hq2 => hN r h2 hq2), fun r h2 hq2 => by
    obtain ⟨rfl, hq3⟩ := hq2
    have e1 : mc - mCel M2 = mc2 := by omega
    have e2 : ms - mSlo M2 = ms2 := by omega
    show Wp _ M (pc + 3) L S h2 (mc - mCel M2, ms - mSlo M2) Q
    rw [e1, e2, hq]
    exact k h2 hq3⟩
theorem wp_i1 {d2 idx mc ms mc2 ms2 : Nat} {M2 : mM} {v1 : mV} {a : Nat} {fs : List mV} {Q2 : Option mV → List mC → Prop} (hd : decode (mCode M) pc = .ok (.invokespecial idx, 3)) (hq : pc + 3 = q) (hT : mTok (mOwn M) idx 2 1 M2) (hr : mCats S ≤ 8) (hm : (mArgs (mMax M2) [mR a, v1]).length = mMax M2) (ha : 2 ≤ a) (hc : h[a]? = some (mO (mOwn M2) fs)) (hb1 : mc = mc2 + mCel M2) (hb2 : ms = ms2 + mSlo M2) (hct : Ct d2 M2 [mR a, v1] h Q2) (hN : ∀ r h2, Q2 r h2 → r = none ∧ Q2 none h2) (k : ∀ h2, Q2 none h2 → Wp (d2 + 1) M q L S h2 (mc2, ms2) Q) : Wp (d2 + 1) M pc L (v1 :: mR a :: S) h (mc, ms) Q :=
  wp_cc hd ⟨d2, idx, 2, 1, M2, [mR a, v1], S, fun r h2 => r = none ∧ Q2 none h2, rfl, rfl, rfl, hT, rfl, rfl, hr, hm, fun _ => ⟨a, fs, rfl, ha, hc⟩, by show _ ≤ mc; omega, by show _ ≤ ms; omega, wp_post hct (fun r h2 hq2 => hN r h2 hq2), fun r h2 hq2 => by
    obtain ⟨rfl, hq3⟩ := hq2
    have e1 : mc - mCel M2 = mc2 := by omega
    have e2 : ms - mSlo M2 = ms2 := by omega
    show Wp _ M (pc + 3) L S h2 (mc - mCel M2, ms - mSlo M2) Q
    rw [e1, e2, hq]
    exact k h2 hq3⟩
theorem wp_i2 {d2 idx mc ms mc2 ms2 : Nat} {M2 : mM} {v1 v2 : mV} {a : Nat} {fs : List mV} {Q2 : Option mV → List mC → Prop} (hd : decode (mCode M) pc = .ok (.invokespecial idx, 3)) (hq : pc + 3 = q) (hT : mTok (mOwn M) idx 2 2 M2) (hr : mCats S ≤ 8) (hm : (mArgs (mMax M2) [mR a, v1, v2]).length = mMax M2) (ha : 2 ≤ a) (hc : h[a]? = some (mO (mOwn M2) fs)) (hb1 : mc = mc2 + mCel M2) (hb2 : ms = ms2 + mSlo M2) (hct : Ct d2 M2 [mR a, v1, v2] h Q2) (hN : ∀ r h2, Q2 r h2 → r = none ∧ Q2 none h2) (k : ∀ h2, Q2 none h2 → Wp (d2 + 1) M q L S h2 (mc2, ms2) Q) : Wp (d2 + 1) M pc L (v2 :: v1 :: mR a :: S) h (mc, ms) Q :=
  wp_cc hd ⟨d2, idx, 2, 2, M2, [mR a, v1, v2], S, fun r h2 => r = none ∧ Q2 none h2, rfl, rfl, rfl, hT, rfl, rfl, hr, hm, fun _ => ⟨a, fs, rfl, ha, hc⟩, by show _ ≤ mc; omega, by show _ ≤ ms; omega, wp_post hct (fun r h2 hq2 => hN r h2 hq2), fun r h2 hq2 => by
    obtain ⟨rfl, hq3⟩ := hq2
    have e1 : mc - mCel M2 = mc2 := by omega
    have e2 : ms - mSlo M2 = ms2 := by omega
    show Wp _ M (pc + 3) L S h2 (mc - mCel M2, ms - mSlo M2) Q
    rw [e1, e2, hq]
    exact k h2 hq3⟩
theorem wp_i3 {d2 idx mc ms mc2 ms2 : Nat} {M2 : mM} {v1 v2 v3 : mV} {a : Nat} {fs : List mV} {Q2 : Option mV → List mC → Prop} (hd : decode (mCode M) pc = .ok (.invokespecial idx, 3)) (hq : pc + 3 = q) (hT : mTok (mOwn M) idx 2 3 M2) (hr : mCats S ≤ 8) (hm : (mArgs (mMax M2) [mR a, v1, v2, v3]).length = mMax M2) (ha : 2 ≤ a) (hc : h[a]? = some (mO (mOwn M2) fs)) (hb1 : mc = mc2 + mCel M2) (hb2 : ms = ms2 + mSlo M2) (hct : Ct d2 M2 [mR a, v1, v2, v3] h Q2) (hN : ∀ r h2, Q2 r h2 → r = none ∧ Q2 none h2) (k : ∀ h2, Q2 none h2 → Wp (d2 + 1) M q L S h2 (mc2, ms2) Q) : Wp (d2 + 1) M pc L (v3 :: v2 :: v1 :: mR a :: S) h (mc, ms) Q :=
  wp_cc hd ⟨d2, idx, 2, 3, M2, [mR a, v1, v2, v3], S, fun r h2 => r = none ∧ Q2 none h2, rfl, rfl, rfl, hT, rfl, rfl, hr, hm, fun _ => ⟨a, fs, rfl, ha, hc⟩, by show _ ≤ mc; omega, by show _ ≤ ms; omega, wp_post hct (fun r h2 hq2 => hN r h2 hq2), fun r h2 hq2 => by
    obtain ⟨rfl, hq3⟩ := hq2
    have e1 : mc - mCel M2 = mc2 := by omega
    have e2 : ms - mSlo M2 = ms2 := by omega
    show Wp _ M (pc + 3) L S h2 (mc - mCel M2, ms - mSlo M2) Q
    rw [e1, e2, hq]
    exact k h2 hq3⟩
theorem wp_i4 {d2 idx mc ms mc2 ms2 : Nat} {M2 : mM} {v1 v2 v3 v4 : mV} {a : Nat} {fs : List mV} {Q2 : Option mV → List mC → Prop} (hd : decode (mCode M) pc = .ok (.invokespecial idx, 3)) (hq : pc + 3 = q) (hT : mTok (mOwn M) idx 2 4 M2) (hr : mCats S ≤ 8) (hm : (mArgs (mMax M2) [mR a, v1, v2, v3, v4]).length = mMax M2) (ha : 2 ≤ a) (hc : h[a]? = some (mO (mOwn M2) fs)) (hb1 : mc = mc2 + mCel M2) (hb2 : ms = ms2 + mSlo M2) (hct : Ct d2 M2 [mR a, v1, v2, v3, v4] h Q2) (hN : ∀ r h2, Q2 r h2 → r = none ∧ Q2 none h2) (k : ∀ h2, Q2 none h2 → Wp (d2 + 1) M q L S h2 (mc2, ms2) Q) : Wp (d2 + 1) M pc L (v4 :: v3 :: v2 :: v1 :: mR a :: S) h (mc, ms) Q :=
  wp_cc hd ⟨d2, idx, 2, 4, M2, [mR a, v1, v2, v3, v4], S, fun r h2 => r = none ∧ Q2 none h2, rfl, rfl, rfl, hT, rfl, rfl, hr, hm, fun _ => ⟨a, fs, rfl, ha, hc⟩, by show _ ≤ mc; omega, by show _ ≤ ms; omega, wp_post hct (fun r h2 hq2 => hN r h2 hq2), fun r h2 hq2 => by
    obtain ⟨rfl, hq3⟩ := hq2
    have e1 : mc - mCel M2 = mc2 := by omega
    have e2 : ms - mSlo M2 = ms2 := by omega
    show Wp _ M (pc + 3) L S h2 (mc - mCel M2, ms - mSlo M2) Q
    rw [e1, e2, hq]
    exact k h2 hq3⟩
theorem wp_i5 {d2 idx mc ms mc2 ms2 : Nat} {M2 : mM} {v1 v2 v3 v4 v5 : mV} {a : Nat} {fs : List mV} {Q2 : Option mV → List mC → Prop} (hd : decode (mCode M) pc = .ok (.invokespecial idx, 3)) (hq : pc + 3 = q) (hT : mTok (mOwn M) idx 2 5 M2) (hr : mCats S ≤ 8) (hm : (mArgs (mMax M2) [mR a, v1, v2, v3, v4, v5]).length = mMax M2) (ha : 2 ≤ a) (hc : h[a]? = some (mO (mOwn M2) fs)) (hb1 : mc = mc2 + mCel M2) (hb2 : ms = ms2 + mSlo M2) (hct : Ct d2 M2 [mR a, v1, v2, v3, v4, v5] h Q2) (hN : ∀ r h2, Q2 r h2 → r = none ∧ Q2 none h2) (k : ∀ h2, Q2 none h2 → Wp (d2 + 1) M q L S h2 (mc2, ms2) Q) : Wp (d2 + 1) M pc L (v5 :: v4 :: v3 :: v2 :: v1 :: mR a :: S) h (mc, ms) Q :=
  wp_cc hd ⟨d2, idx, 2, 5, M2, [mR a, v1, v2, v3, v4, v5], S, fun r h2 => r = none ∧ Q2 none h2, rfl, rfl, rfl, hT, rfl, rfl, hr, hm, fun _ => ⟨a, fs, rfl, ha, hc⟩, by show _ ≤ mc; omega, by show _ ≤ ms; omega, wp_post hct (fun r h2 hq2 => hN r h2 hq2), fun r h2 hq2 => by
    obtain ⟨rfl, hq3⟩ := hq2
    have e1 : mc - mCel M2 = mc2 := by omega
    have e2 : ms - mSlo M2 = ms2 := by omega
    show Wp _ M (pc + 3) L S h2 (mc - mCel M2, ms - mSlo M2) Q
    rw [e1, e2, hq]
    exact k h2 hq3⟩
end WPR
