/-! the constructors (rows laid by wip/whole) -/
theorem ga_lt {l : List mC} {c x : mC} {j : Nat} (h : l[j]? = some x) : (l ++ [c])[j]? = some x := by
  rw [List.getElem?_append_left (List.getElem?_eq_some_iff.mp h).1]
  exact h
theorem ga_eq {l : List mC} {c : mC} {n : Nat} (h : l.length = n) : (l ++ [c])[n]? = some c := by
  subst h
  rw [List.getElem?_append_right (Nat.le_refl _), Nat.sub_self]
  rfl
theorem ga_len {l : List mC} {c : mC} {n m : Nat} (h : l.length = n) (e : m = n + 1) : (l ++ [c]).length = m := by rw [List.length_append, h, e]; rfl
theorem fr_app {l : List mC} {c : mC} {j n : Nat} (h : l.length = n) (hj : j < n) : (l ++ [c])[j]? = l[j]? := List.getElem?_append_left (by omega)
theorem RoAt.ap {h : List mC} {k : Nat} {n : Int} {ch ro : List Int} {c : mC} {L : Nat} (hB : RoAt h k n ch ro) (hl : h.length = L) (hk : k + 3 ≤ L) : RoAt (h ++ [c]) k n ch ro := hB.fr (fun j j0 j1 => fr_app hl (by omega))
theorem BrAt.ap {h : List mC} {k : Nat} {sz : Int} {pl wi od : List Int} {c : mC} {L : Nat} (hB : BrAt h k sz pl wi od) (hl : h.length = L) (hk : k + 4 ≤ L) : BrAt (h ++ [c]) k sz pl wi od := hB.fr (fun j j0 j1 => fr_app hl (by omega))
theorem ct_resize0 (d : Nat) {h : List mC} {k : Nat} {s0 : Int} {pl wi od : List Int} (hk : 2 ≤ k) (c : h[k]? = some (mO 0 [mI s0, mR (k + 1), mR (k + 2), mR (k + 3)])) (a1 : h[k + 1]? = some (mA pl)) (a2 : h[k + 2]? = some (mA wi)) (a3 : h[k + 3]? = some (mJ od)) (l1 : pl.length = 8) (l2 : wi.length = 8) (l3 : od.length = 32) : Rt (d + 3) mX0_resize [mR k, mI 8] h (none) (((h.set k (mO 0 [mI 8, mR (k + 1), mR (k + 2), mR (k + 3)])).set (k + 1) (mA (List.replicate 8 8))).set (k + 2) (mA (List.replicate 8 8))) ∧ BrAt (((h.set k (mO 0 [mI 8, mR (k + 1), mR (k + 2), mR (k + 3)])).set (k + 1) (mA (List.replicate 8 8))).set (k + 2) (mA (List.replicate 8 8))) k 8 (List.replicate 8 8) (List.replicate 8 8) od := by
  have hB : BrAt (h.set k (mO 0 [mI 8, mR (k + 1), mR (k + 2), mR (k + 3)])) k 8 pl wi od := ⟨hk, gs_eq c, gs_ne a1 (by omega), gs_ne a2 (by omega), gs_ne a3 (by omega), l1, l2, l3, by decide⟩
  refine ⟨?_, (hB.setP (pl' := List.replicate 8 8) (by decide)).setW (wi' := List.replicate 8 8) (by decide)⟩
  show Wp _ mX0_resize 0 [mR k, mI 8] [] h (0, 0) _
  refine wp_al0 (q := 1) dX0_resize_0 rfl (wp_il1 (q := 2) dX0_resize_1 rfl (wp_putf (q := 5) dX0_resize_2 rfl f5 hk c (Nat.le_of_ble_eq_true rfl) trivial (fun z => absurd z (by decide)) ?_))
  obtain ⟨b0, b1, b2, b3, b4, b5, b6, b7, b8⟩ := id hB
  refine wp_al0 (q := 6) dX0_resize_5 rfl (wp_v0V (q := 9) dX0_resize_6 rfl q6 (Nat.le_of_ble_eq_true rfl) rfl b0 b1 rfl rfl (ct_clear d hB) (wp_vret dX0_resize_9 rfl ?_))
  exact ⟨rfl, rfl⟩
theorem ci_X0 (d : Nat) {h : List mC} {k : Nat} (hk : 2 ≤ k) (hc : h[k]? = some (mO 0 [mI 0, mU, mU, mU])) (hL : h.length = k + 1) : Ct (d + 4) mX0_init [mR k] h (fun r9 h9 => r9 = none ∧ h9.length = k + 4 ∧ BrAt h9 k 8 (List.replicate 8 8) (List.replicate 8 8) (List.replicate 32 0) ∧ ∀ j : Nat, j < k → h9[j]? = h[j]?) := by
  show Wp _ mX0_init 0 [mR k] [] h (3, 48) _
  have o : ∀ j : Nat, j < k → h[j]? = h[j]? := fun _ _ => rfl
  refine wp_al0 (q := 1) dX0_init_0 rfl (wp_obj (q := 4) dX0_init_1 rfl oi2 (Nat.le_of_ble_eq_true rfl) ?_)
  refine wp_al0 (q := 5) dX0_init_4 rfl (wp_bi (q := 7) dX0_init_5 rfl (by decide) (by decide) (wp_newi (q := 9) (mc' := 2) (ms' := 40) dX0_init_7 rfl (by decide) (by decide) rfl rfl ?_))
  rw [hL]
  show Wp _ _ _ _ _ (h ++ [mA (List.replicate 8 0)]) _ _
  have L1 : (h ++ [mA (List.replicate 8 0)]).length = k + 2 := ga_len hL rfl
  have c1 : (h ++ [mA (List.replicate 8 0)])[k]? = some (mO 0 [mI 0, mU, mU, mU]) := ga_lt hc
  have o1 : ∀ j : Nat, j < k → (h ++ [mA (List.replicate 8 0)])[j]? = h[j]? := fun j hj => (fr_app hL (by omega)).trans (o j hj)
  have a1_1 : (h ++ [mA (List.replicate 8 0)])[k + 1]? = some (mA (List.replicate 8 0)) := ga_eq hL
  clear hc hL o
  generalize h ++ [mA (List.replicate 8 0)] = x1 at *
  refine wp_putf (q := 12) dX0_init_9 rfl f8 hk c1 (Nat.le_of_ble_eq_true rfl) trivial (fun _ => ⟨rfl, rfl⟩) ?_
  show Wp _ _ _ _ _ (x1.set k (mO 0 [mI 0, mR (k + 1), mU, mU])) _ _
  have L2 : (x1.set k (mO 0 [mI 0, mR (k + 1), mU, mU])).length = k + 2 := (List.length_set ..).trans L1
  have c2 : (x1.set k (mO 0 [mI 0, mR (k + 1), mU, mU]))[k]? = some (mO 0 [mI 0, mR (k + 1), mU, mU]) := gs_eq c1
  have a1_2 : (x1.set k (mO 0 [mI 0, mR (k + 1), mU, mU]))[k + 1]? = some (mA (List.replicate 8 0)) := gs_ne a1_1 (by omega)
  have o2 : ∀ j : Nat, j < k → (x1.set k (mO 0 [mI 0, mR (k + 1), mU, mU]))[j]? = h[j]? := fun j hj => (fr_set (by omega)).trans (o1 j hj)
  clear c1 L1 o1 a1_1
  generalize x1.set k (mO 0 [mI 0, mR (k + 1), mU, mU]) = x2 at *
  refine wp_al0 (q := 13) dX0_init_12 rfl (wp_bi (q := 15) dX0_init_13 rfl (by decide) (by decide) (wp_newi (q := 17) (mc' := 1) (ms' := 32) dX0_init_15 rfl (by decide) (by decide) rfl rfl ?_))
  rw [L2]
  show Wp _ _ _ _ _ (x2 ++ [mA (List.replicate 8 0)]) _ _
  have L3 : (x2 ++ [mA (List.replicate 8 0)]).length = k + 3 := ga_len L2 rfl
  have c3 : (x2 ++ [mA (List.replicate 8 0)])[k]? = some (mO 0 [mI 0, mR (k + 1), mU, mU]) := ga_lt c2
  have a1_3 : (x2 ++ [mA (List.replicate 8 0)])[k + 1]? = some (mA (List.replicate 8 0)) := ga_lt a1_2
  have o3 : ∀ j : Nat, j < k → (x2 ++ [mA (List.replicate 8 0)])[j]? = h[j]? := fun j hj => (fr_app L2 (by omega)).trans (o2 j hj)
  have a2_3 : (x2 ++ [mA (List.replicate 8 0)])[k + 2]? = some (mA (List.replicate 8 0)) := ga_eq L2
  clear c2 L2 o2 a1_2
  generalize x2 ++ [mA (List.replicate 8 0)] = x3 at *
  refine wp_putf (q := 20) dX0_init_17 rfl f9 hk c3 (Nat.le_of_ble_eq_true rfl) trivial (fun _ => ⟨rfl, rfl⟩) ?_
  show Wp _ _ _ _ _ (x3.set k (mO 0 [mI 0, mR (k + 1), mR (k + 2), mU])) _ _
  have L4 : (x3.set k (mO 0 [mI 0, mR (k + 1), mR (k + 2), mU])).length = k + 3 := (List.length_set ..).trans L3
  have c4 : (x3.set k (mO 0 [mI 0, mR (k + 1), mR (k + 2), mU]))[k]? = some (mO 0 [mI 0, mR (k + 1), mR (k + 2), mU]) := gs_eq c3
  have a1_4 : (x3.set k (mO 0 [mI 0, mR (k + 1), mR (k + 2), mU]))[k + 1]? = some (mA (List.replicate 8 0)) := gs_ne a1_3 (by omega)
  have a2_4 : (x3.set k (mO 0 [mI 0, mR (k + 1), mR (k + 2), mU]))[k + 2]? = some (mA (List.replicate 8 0)) := gs_ne a2_3 (by omega)
  have o4 : ∀ j : Nat, j < k → (x3.set k (mO 0 [mI 0, mR (k + 1), mR (k + 2), mU]))[j]? = h[j]? := fun j hj => (fr_set (by omega)).trans (o3 j hj)
  clear c3 L3 o3 a1_3 a2_3
  generalize x3.set k (mO 0 [mI 0, mR (k + 1), mR (k + 2), mU]) = x4 at *
  refine wp_al0 (q := 21) dX0_init_20 rfl (wp_bi (q := 23) dX0_init_21 rfl (by decide) (by decide) (wp_newl (q := 25) (mc' := 0) (ms' := 0) dX0_init_23 rfl (by decide) (by decide) rfl rfl ?_))
  rw [L4]
  show Wp _ _ _ _ _ (x4 ++ [mJ (List.replicate 32 0)]) _ _
  have L5 : (x4 ++ [mJ (List.replicate 32 0)]).length = k + 4 := ga_len L4 rfl
  have c5 : (x4 ++ [mJ (List.replicate 32 0)])[k]? = some (mO 0 [mI 0, mR (k + 1), mR (k + 2), mU]) := ga_lt c4
  have a1_5 : (x4 ++ [mJ (List.replicate 32 0)])[k + 1]? = some (mA (List.replicate 8 0)) := ga_lt a1_4
  have a2_5 : (x4 ++ [mJ (List.replicate 32 0)])[k + 2]? = some (mA (List.replicate 8 0)) := ga_lt a2_4
  have o5 : ∀ j : Nat, j < k → (x4 ++ [mJ (List.replicate 32 0)])[j]? = h[j]? := fun j hj => (fr_app L4 (by omega)).trans (o4 j hj)
  have a3_5 : (x4 ++ [mJ (List.replicate 32 0)])[k + 3]? = some (mJ (List.replicate 32 0)) := ga_eq L4
  clear c4 L4 o4 a1_4 a2_4
  generalize x4 ++ [mJ (List.replicate 32 0)] = x5 at *
  refine wp_putf (q := 28) dX0_init_25 rfl f10 hk c5 (Nat.le_of_ble_eq_true rfl) trivial (fun _ => ⟨rfl, rfl⟩) ?_
  show Wp _ _ _ _ _ (x5.set k (mO 0 [mI 0, mR (k + 1), mR (k + 2), mR (k + 3)])) _ _
  have L6 : (x5.set k (mO 0 [mI 0, mR (k + 1), mR (k + 2), mR (k + 3)])).length = k + 4 := (List.length_set ..).trans L5
  have c6 : (x5.set k (mO 0 [mI 0, mR (k + 1), mR (k + 2), mR (k + 3)]))[k]? = some (mO 0 [mI 0, mR (k + 1), mR (k + 2), mR (k + 3)]) := gs_eq c5
  have a1_6 : (x5.set k (mO 0 [mI 0, mR (k + 1), mR (k + 2), mR (k + 3)]))[k + 1]? = some (mA (List.replicate 8 0)) := gs_ne a1_5 (by omega)
  have a2_6 : (x5.set k (mO 0 [mI 0, mR (k + 1), mR (k + 2), mR (k + 3)]))[k + 2]? = some (mA (List.replicate 8 0)) := gs_ne a2_5 (by omega)
  have a3_6 : (x5.set k (mO 0 [mI 0, mR (k + 1), mR (k + 2), mR (k + 3)]))[k + 3]? = some (mJ (List.replicate 32 0)) := gs_ne a3_5 (by omega)
  have o6 : ∀ j : Nat, j < k → (x5.set k (mO 0 [mI 0, mR (k + 1), mR (k + 2), mR (k + 3)]))[j]? = h[j]? := fun j hj => (fr_set (by omega)).trans (o5 j hj)
  clear c5 L5 o5 a1_5 a2_5 a3_5
  generalize x5.set k (mO 0 [mI 0, mR (k + 1), mR (k + 2), mR (k + 3)]) = x6 at *
  obtain ⟨a1, a2, a3⟩ := show _ ∧ _ ∧ _ from ⟨a1_6, a2_6, a3_6⟩
  have rz := ct_resize0 0 hk c6 a1 a2 a3 List.length_replicate List.length_replicate List.length_replicate
  refine wp_al0 (q := 29) dX0_init_28 rfl (wp_bi (q := 31) dX0_init_29 rfl (by decide) (by decide) (wp_v1V (q := 34) dX0_init_31 rfl q5 (Nat.le_of_ble_eq_true rfl) rfl hk c6 rfl rfl (rz.1.up (by omega)) ?_))
  refine wp_vret dX0_init_34 rfl ?_
  exact ⟨rfl, by rw [List.length_set, List.length_set, List.length_set]; exact L6, rz.2, fun j hj => by rw [fr_set (by omega), fr_set (by omega), fr_set (by omega)]; exact o6 j hj⟩
theorem ci_X1 (d : Nat) {h : List mC} {k : Nat} (hk : 2 ≤ k) (hc : h[k]? = some (mO 1 [mI 0, mU, mU, mU])) (hL : h.length = k + 1) : Ct (d + 4) mX1_init [mR k] h (fun r9 h9 => r9 = none ∧ h9.length = k + 4 ∧ LiAt h9 k 0 (List.replicate 8 0) (List.replicate 2520 0) (List.replicate 2520 0) ∧ ∀ j : Nat, j < k → h9[j]? = h[j]?) := by
  show Wp _ mX1_init 0 [mR k] [] h (3, 5048) _
  have o : ∀ j : Nat, j < k → h[j]? = h[j]? := fun _ _ => rfl
  refine wp_al0 (q := 1) dX1_init_0 rfl (wp_obj (q := 4) dX1_init_1 rfl oi3 (Nat.le_of_ble_eq_true rfl) ?_)
  refine wp_al0 (q := 5) dX1_init_4 rfl (wp_bi (q := 7) dX1_init_5 rfl (by decide) (by decide) (wp_newi (q := 9) (mc' := 2) (ms' := 5040) dX1_init_7 rfl (by decide) (by decide) rfl rfl ?_))
  rw [hL]
  show Wp _ _ _ _ _ (h ++ [mA (List.replicate 8 0)]) _ _
  have L1 : (h ++ [mA (List.replicate 8 0)]).length = k + 2 := ga_len hL rfl
  have c1 : (h ++ [mA (List.replicate 8 0)])[k]? = some (mO 1 [mI 0, mU, mU, mU]) := ga_lt hc
  have o1 : ∀ j : Nat, j < k → (h ++ [mA (List.replicate 8 0)])[j]? = h[j]? := fun j hj => (fr_app hL (by omega)).trans (o j hj)
  have a1_1 : (h ++ [mA (List.replicate 8 0)])[k + 1]? = some (mA (List.replicate 8 0)) := ga_eq hL
  clear hc hL o
  generalize h ++ [mA (List.replicate 8 0)] = x1 at *
  refine wp_putf (q := 12) dX1_init_9 rfl f13 hk c1 (Nat.le_of_ble_eq_true rfl) trivial (fun _ => ⟨rfl, rfl⟩) ?_
  show Wp _ _ _ _ _ (x1.set k (mO 1 [mI 0, mR (k + 1), mU, mU])) _ _
  have L2 : (x1.set k (mO 1 [mI 0, mR (k + 1), mU, mU])).length = k + 2 := (List.length_set ..).trans L1
  have c2 : (x1.set k (mO 1 [mI 0, mR (k + 1), mU, mU]))[k]? = some (mO 1 [mI 0, mR (k + 1), mU, mU]) := gs_eq c1
  have a1_2 : (x1.set k (mO 1 [mI 0, mR (k + 1), mU, mU]))[k + 1]? = some (mA (List.replicate 8 0)) := gs_ne a1_1 (by omega)
  have o2 : ∀ j : Nat, j < k → (x1.set k (mO 1 [mI 0, mR (k + 1), mU, mU]))[j]? = h[j]? := fun j hj => (fr_set (by omega)).trans (o1 j hj)
  clear c1 L1 o1 a1_1
  generalize x1.set k (mO 1 [mI 0, mR (k + 1), mU, mU]) = x2 at *
  refine wp_al0 (q := 13) dX1_init_12 rfl (wp_si (q := 16) dX1_init_13 rfl (by decide) (by decide) (wp_newi (q := 18) (mc' := 1) (ms' := 2520) dX1_init_16 rfl (by decide) (by decide) rfl rfl ?_))
  rw [L2]
  show Wp _ _ _ _ _ (x2 ++ [mA (List.replicate 2520 0)]) _ _
  have L3 : (x2 ++ [mA (List.replicate 2520 0)]).length = k + 3 := ga_len L2 rfl
  have c3 : (x2 ++ [mA (List.replicate 2520 0)])[k]? = some (mO 1 [mI 0, mR (k + 1), mU, mU]) := ga_lt c2
  have a1_3 : (x2 ++ [mA (List.replicate 2520 0)])[k + 1]? = some (mA (List.replicate 8 0)) := ga_lt a1_2
  have o3 : ∀ j : Nat, j < k → (x2 ++ [mA (List.replicate 2520 0)])[j]? = h[j]? := fun j hj => (fr_app L2 (by omega)).trans (o2 j hj)
  have a2_3 : (x2 ++ [mA (List.replicate 2520 0)])[k + 2]? = some (mA (List.replicate 2520 0)) := ga_eq L2
  clear c2 L2 o2 a1_2
  generalize x2 ++ [mA (List.replicate 2520 0)] = x3 at *
  refine wp_putf (q := 21) dX1_init_18 rfl f14 hk c3 (Nat.le_of_ble_eq_true rfl) trivial (fun _ => ⟨rfl, rfl⟩) ?_
  show Wp _ _ _ _ _ (x3.set k (mO 1 [mI 0, mR (k + 1), mR (k + 2), mU])) _ _
  have L4 : (x3.set k (mO 1 [mI 0, mR (k + 1), mR (k + 2), mU])).length = k + 3 := (List.length_set ..).trans L3
  have c4 : (x3.set k (mO 1 [mI 0, mR (k + 1), mR (k + 2), mU]))[k]? = some (mO 1 [mI 0, mR (k + 1), mR (k + 2), mU]) := gs_eq c3
  have a1_4 : (x3.set k (mO 1 [mI 0, mR (k + 1), mR (k + 2), mU]))[k + 1]? = some (mA (List.replicate 8 0)) := gs_ne a1_3 (by omega)
  have a2_4 : (x3.set k (mO 1 [mI 0, mR (k + 1), mR (k + 2), mU]))[k + 2]? = some (mA (List.replicate 2520 0)) := gs_ne a2_3 (by omega)
  have o4 : ∀ j : Nat, j < k → (x3.set k (mO 1 [mI 0, mR (k + 1), mR (k + 2), mU]))[j]? = h[j]? := fun j hj => (fr_set (by omega)).trans (o3 j hj)
  clear c3 L3 o3 a1_3 a2_3
  generalize x3.set k (mO 1 [mI 0, mR (k + 1), mR (k + 2), mU]) = x4 at *
  refine wp_al0 (q := 22) dX1_init_21 rfl (wp_si (q := 25) dX1_init_22 rfl (by decide) (by decide) (wp_newl (q := 27) (mc' := 0) (ms' := 0) dX1_init_25 rfl (by decide) (by decide) rfl rfl ?_))
  rw [L4]
  show Wp _ _ _ _ _ (x4 ++ [mJ (List.replicate 2520 0)]) _ _
  have L5 : (x4 ++ [mJ (List.replicate 2520 0)]).length = k + 4 := ga_len L4 rfl
  have c5 : (x4 ++ [mJ (List.replicate 2520 0)])[k]? = some (mO 1 [mI 0, mR (k + 1), mR (k + 2), mU]) := ga_lt c4
  have a1_5 : (x4 ++ [mJ (List.replicate 2520 0)])[k + 1]? = some (mA (List.replicate 8 0)) := ga_lt a1_4
  have a2_5 : (x4 ++ [mJ (List.replicate 2520 0)])[k + 2]? = some (mA (List.replicate 2520 0)) := ga_lt a2_4
  have o5 : ∀ j : Nat, j < k → (x4 ++ [mJ (List.replicate 2520 0)])[j]? = h[j]? := fun j hj => (fr_app L4 (by omega)).trans (o4 j hj)
  have a3_5 : (x4 ++ [mJ (List.replicate 2520 0)])[k + 3]? = some (mJ (List.replicate 2520 0)) := ga_eq L4
  clear c4 L4 o4 a1_4 a2_4
  generalize x4 ++ [mJ (List.replicate 2520 0)] = x5 at *
  refine wp_putf (q := 30) dX1_init_27 rfl f15 hk c5 (Nat.le_of_ble_eq_true rfl) trivial (fun _ => ⟨rfl, rfl⟩) ?_
  show Wp _ _ _ _ _ (x5.set k (mO 1 [mI 0, mR (k + 1), mR (k + 2), mR (k + 3)])) _ _
  have L6 : (x5.set k (mO 1 [mI 0, mR (k + 1), mR (k + 2), mR (k + 3)])).length = k + 4 := (List.length_set ..).trans L5
  have c6 : (x5.set k (mO 1 [mI 0, mR (k + 1), mR (k + 2), mR (k + 3)]))[k]? = some (mO 1 [mI 0, mR (k + 1), mR (k + 2), mR (k + 3)]) := gs_eq c5
  have a1_6 : (x5.set k (mO 1 [mI 0, mR (k + 1), mR (k + 2), mR (k + 3)]))[k + 1]? = some (mA (List.replicate 8 0)) := gs_ne a1_5 (by omega)
  have a2_6 : (x5.set k (mO 1 [mI 0, mR (k + 1), mR (k + 2), mR (k + 3)]))[k + 2]? = some (mA (List.replicate 2520 0)) := gs_ne a2_5 (by omega)
  have a3_6 : (x5.set k (mO 1 [mI 0, mR (k + 1), mR (k + 2), mR (k + 3)]))[k + 3]? = some (mJ (List.replicate 2520 0)) := gs_ne a3_5 (by omega)
  have o6 : ∀ j : Nat, j < k → (x5.set k (mO 1 [mI 0, mR (k + 1), mR (k + 2), mR (k + 3)]))[j]? = h[j]? := fun j hj => (fr_set (by omega)).trans (o5 j hj)
  clear c5 L5 o5 a1_5 a2_5 a3_5
  generalize x5.set k (mO 1 [mI 0, mR (k + 1), mR (k + 2), mR (k + 3)]) = x6 at *
  refine wp_vret dX1_init_30 rfl ?_
  obtain ⟨a1, a2, a3⟩ := show _ ∧ _ ∧ _ from ⟨a1_6, a2_6, a3_6⟩
  exact ⟨rfl, L6, ⟨hk, c6, a1, a2, a3, List.length_replicate, List.length_replicate, List.length_replicate, by decide, by decide⟩, o6⟩
theorem ci_X2 (d : Nat) {h : List mC} {k : Nat} (hk : 2 ≤ k) (hc : h[k]? = some (mO 2 [mI 0, mU, mU])) (hL : h.length = k + 1) : Ct (d + 4) mX2_init [mR k] h (fun r9 h9 => r9 = none ∧ h9.length = k + 3 ∧ RoAt h9 k 2 (List.replicate 64 6) (List.replicate 64 1) ∧ ∀ j : Nat, j < k → h9[j]? = h[j]?) := by
  show Wp _ mX2_init 0 [mR k] [] h (2, 128) _
  have o : ∀ j : Nat, j < k → h[j]? = h[j]? := fun _ _ => rfl
  refine wp_al0 (q := 1) dX2_init_0 rfl (wp_obj (q := 4) dX2_init_1 rfl oi1 (Nat.le_of_ble_eq_true rfl) ?_)
  refine wp_al0 (q := 5) dX2_init_4 rfl (wp_bi (q := 7) dX2_init_5 rfl (by decide) (by decide) (wp_newi (q := 9) (mc' := 1) (ms' := 64) dX2_init_7 rfl (by decide) (by decide) rfl rfl ?_))
  rw [hL]
  show Wp _ _ _ _ _ (h ++ [mA (List.replicate 64 0)]) _ _
  have L1 : (h ++ [mA (List.replicate 64 0)]).length = k + 2 := ga_len hL rfl
  have c1 : (h ++ [mA (List.replicate 64 0)])[k]? = some (mO 2 [mI 0, mU, mU]) := ga_lt hc
  have o1 : ∀ j : Nat, j < k → (h ++ [mA (List.replicate 64 0)])[j]? = h[j]? := fun j hj => (fr_app hL (by omega)).trans (o j hj)
  have a1_1 : (h ++ [mA (List.replicate 64 0)])[k + 1]? = some (mA (List.replicate 64 0)) := ga_eq hL
  clear hc hL o
  generalize h ++ [mA (List.replicate 64 0)] = x1 at *
  refine wp_putf (q := 12) dX2_init_9 rfl f3 hk c1 (Nat.le_of_ble_eq_true rfl) trivial (fun _ => ⟨rfl, rfl⟩) ?_
  show Wp _ _ _ _ _ (x1.set k (mO 2 [mI 0, mR (k + 1), mU])) _ _
  have L2 : (x1.set k (mO 2 [mI 0, mR (k + 1), mU])).length = k + 2 := (List.length_set ..).trans L1
  have c2 : (x1.set k (mO 2 [mI 0, mR (k + 1), mU]))[k]? = some (mO 2 [mI 0, mR (k + 1), mU]) := gs_eq c1
  have a1_2 : (x1.set k (mO 2 [mI 0, mR (k + 1), mU]))[k + 1]? = some (mA (List.replicate 64 0)) := gs_ne a1_1 (by omega)
  have o2 : ∀ j : Nat, j < k → (x1.set k (mO 2 [mI 0, mR (k + 1), mU]))[j]? = h[j]? := fun j hj => (fr_set (by omega)).trans (o1 j hj)
  clear c1 L1 o1 a1_1
  generalize x1.set k (mO 2 [mI 0, mR (k + 1), mU]) = x2 at *
  refine wp_al0 (q := 13) dX2_init_12 rfl (wp_bi (q := 15) dX2_init_13 rfl (by decide) (by decide) (wp_newi (q := 17) (mc' := 0) (ms' := 0) dX2_init_15 rfl (by decide) (by decide) rfl rfl ?_))
  rw [L2]
  show Wp _ _ _ _ _ (x2 ++ [mA (List.replicate 64 0)]) _ _
  have L3 : (x2 ++ [mA (List.replicate 64 0)]).length = k + 3 := ga_len L2 rfl
  have c3 : (x2 ++ [mA (List.replicate 64 0)])[k]? = some (mO 2 [mI 0, mR (k + 1), mU]) := ga_lt c2
  have a1_3 : (x2 ++ [mA (List.replicate 64 0)])[k + 1]? = some (mA (List.replicate 64 0)) := ga_lt a1_2
  have o3 : ∀ j : Nat, j < k → (x2 ++ [mA (List.replicate 64 0)])[j]? = h[j]? := fun j hj => (fr_app L2 (by omega)).trans (o2 j hj)
  have a2_3 : (x2 ++ [mA (List.replicate 64 0)])[k + 2]? = some (mA (List.replicate 64 0)) := ga_eq L2
  clear c2 L2 o2 a1_2
  generalize x2 ++ [mA (List.replicate 64 0)] = x3 at *
  refine wp_putf (q := 20) dX2_init_17 rfl f4 hk c3 (Nat.le_of_ble_eq_true rfl) trivial (fun _ => ⟨rfl, rfl⟩) ?_
  show Wp _ _ _ _ _ (x3.set k (mO 2 [mI 0, mR (k + 1), mR (k + 2)])) _ _
  have L4 : (x3.set k (mO 2 [mI 0, mR (k + 1), mR (k + 2)])).length = k + 3 := (List.length_set ..).trans L3
  have c4 : (x3.set k (mO 2 [mI 0, mR (k + 1), mR (k + 2)]))[k]? = some (mO 2 [mI 0, mR (k + 1), mR (k + 2)]) := gs_eq c3
  have a1_4 : (x3.set k (mO 2 [mI 0, mR (k + 1), mR (k + 2)]))[k + 1]? = some (mA (List.replicate 64 0)) := gs_ne a1_3 (by omega)
  have a2_4 : (x3.set k (mO 2 [mI 0, mR (k + 1), mR (k + 2)]))[k + 2]? = some (mA (List.replicate 64 0)) := gs_ne a2_3 (by omega)
  have o4 : ∀ j : Nat, j < k → (x3.set k (mO 2 [mI 0, mR (k + 1), mR (k + 2)]))[j]? = h[j]? := fun j hj => (fr_set (by omega)).trans (o3 j hj)
  clear c3 L3 o3 a1_3 a2_3
  generalize x3.set k (mO 2 [mI 0, mR (k + 1), mR (k + 2)]) = x4 at *
  obtain ⟨a1, a2⟩ := show _ ∧ _ from ⟨a1_4, a2_4⟩
  have hR : RoAt x4 k 0 (List.replicate 64 0) (List.replicate 64 0) := ⟨hk, c4, a1, a2, List.length_replicate, List.length_replicate⟩
  refine wp_al0 (q := 21) dX2_init_20 rfl (wp_ic (q := 22) dX2_init_21 rfl (by decide) (by decide) (wp_v1V (q := 25) dX2_init_22 rfl q2 (Nat.le_of_ble_eq_true rfl) rfl hk c4 rfl rfl ((ct_renew 0 hR (x := 2)).up (by omega)) ?_))
  refine wp_vret dX2_init_25 rfl ?_
  exact ⟨rfl, by rw [List.length_set, List.length_set, List.length_set]; exact L4, ((hR.setN (n' := 2)).setC (ch' := List.replicate 64 6) List.length_replicate).setR (ro' := List.replicate 64 1) List.length_replicate, fun j hj => by rw [fr_set (by omega), fr_set (by omega), fr_set (by omega)]; exact o4 j hj⟩
theorem ci_X3 (d : Nat) {h : List mC} {k : Nat} (hk : 2 ≤ k) (hc : h[k]? = some (mO 3 [mU, mU, mU, mU, mI 0, mI 0])) (hL : h.length = k + 1) (hp : h[0]? = some (mJ mPT)) : Ct (d + 5) mX3_init [mR k] h (fun r9 h9 => r9 = none ∧ h9.length = k + 16 ∧ CS h9 k 2 8 (List.replicate 64 6) (List.replicate 64 1) (List.replicate 8 8) (List.replicate 8 8) ∧ ∀ j : Nat, j < k → h9[j]? = h[j]?) := by
  show Wp _ mX3_init 0 [mR k] [] h (15, 5287) _
  have o : ∀ j : Nat, j < k → h[j]? = h[j]? := fun _ _ => rfl
  refine wp_al0 (q := 1) dX3_init_0 rfl (wp_obj (q := 4) dX3_init_1 rfl oi0 (Nat.le_of_ble_eq_true rfl) ?_)
  refine wp_al0 (q := 5) dX3_init_4 rfl (wp_new (q := 8) (mc' := 14) (ms' := 5284) (D := [mI 0, mU, mU]) dX3_init_5 rfl n1 rfl rfl rfl ?_)
  rw [hL]
  have L1 : (h ++ [mO 2 [mI 0, mU, mU]]).length = k + 2 := ga_len hL rfl
  have c1 : (h ++ [mO 2 [mI 0, mU, mU]])[k]? = some (mO 3 [mU, mU, mU, mU, mI 0, mI 0]) := ga_lt hc
  have o1 : ∀ j : Nat, j < k → (h ++ [mO 2 [mI 0, mU, mU]])[j]? = h[j]? := fun j hj => (fr_app hL (by omega)).trans (o j hj)
  have a1_1 : (h ++ [mO 2 [mI 0, mU, mU]])[k + 1]? = some (mO 2 [mI 0, mU, mU]) := ga_eq hL
  clear hc hL o
  generalize h ++ [mO 2 [mI 0, mU, mU]] = x1 at *
  refine wp_dupR (q := 9) dX3_init_8 rfl (wp_i0 (q := 12) (mc2 := 12) (ms2 := 5156) dX3_init_9 rfl q1 (Nat.le_of_ble_eq_true rfl) rfl (by omega) a1_1 rfl rfl ((ci_X2 0 (k := k + 1) (by omega) a1_1 L1).up (by omega)) (fun r h2 z => ⟨z.1, rfl, z.2⟩) (fun x2 z => ?_))
  obtain ⟨-, L2, s1_2, z2⟩ := z
  have L2 : x2.length = k + 4 := L2
  have c2 : x2[k]? = some (mO 3 [mU, mU, mU, mU, mI 0, mI 0]) := (z2 k (by omega)).trans c1
  have o2 : ∀ j : Nat, j < k → x2[j]? = h[j]? := fun j hj => (z2 j (by omega)).trans (o1 j hj)
  clear z2 c1 L1 o1 a1_1
  refine wp_putf (q := 15) dX3_init_12 rfl f16 hk c2 (Nat.le_of_ble_eq_true rfl) trivial (fun _ => ⟨rfl, rfl⟩) ?_
  show Wp _ _ _ _ _ (x2.set k (mO 3 [mR (k + 1), mU, mU, mU, mI 0, mI 0])) _ _
  have L3 : (x2.set k (mO 3 [mR (k + 1), mU, mU, mU, mI 0, mI 0])).length = k + 4 := (List.length_set ..).trans L2
  have c3 : (x2.set k (mO 3 [mR (k + 1), mU, mU, mU, mI 0, mI 0]))[k]? = some (mO 3 [mR (k + 1), mU, mU, mU, mI 0, mI 0]) := gs_eq c2
  have s1_3 : RoAt (x2.set k (mO 3 [mR (k + 1), mU, mU, mU, mI 0, mI 0])) (k + 1) 2 (List.replicate 64 6) (List.replicate 64 1) := s1_2.fr (fun j j0 j1 => fr_set (by omega))
  have o3 : ∀ j : Nat, j < k → (x2.set k (mO 3 [mR (k + 1), mU, mU, mU, mI 0, mI 0]))[j]? = h[j]? := fun j hj => (fr_set (by omega)).trans (o2 j hj)
  clear c2 L2 o2 s1_2
  generalize x2.set k (mO 3 [mR (k + 1), mU, mU, mU, mI 0, mI 0]) = x3 at *
  refine wp_al0 (q := 16) dX3_init_15 rfl (wp_new (q := 19) (mc' := 11) (ms' := 5152) (D := [mI 0, mU, mU, mU]) dX3_init_16 rfl n2 rfl rfl rfl ?_)
  rw [L3]
  have L4 : (x3 ++ [mO 0 [mI 0, mU, mU, mU]]).length = k + 5 := ga_len L3 rfl
  have c4 : (x3 ++ [mO 0 [mI 0, mU, mU, mU]])[k]? = some (mO 3 [mR (k + 1), mU, mU, mU, mI 0, mI 0]) := ga_lt c3
  have s1_4 : RoAt (x3 ++ [mO 0 [mI 0, mU, mU, mU]]) (k + 1) 2 (List.replicate 64 6) (List.replicate 64 1) := s1_3.ap L3 (by omega)
  have o4 : ∀ j : Nat, j < k → (x3 ++ [mO 0 [mI 0, mU, mU, mU]])[j]? = h[j]? := fun j hj => (fr_app L3 (by omega)).trans (o3 j hj)
  have a4_4 : (x3 ++ [mO 0 [mI 0, mU, mU, mU]])[k + 4]? = some (mO 0 [mI 0, mU, mU, mU]) := ga_eq L3
  clear c3 L3 o3 s1_3
  generalize x3 ++ [mO 0 [mI 0, mU, mU, mU]] = x4 at *
  refine wp_dupR (q := 20) dX3_init_19 rfl (wp_i0 (q := 23) (mc2 := 8) (ms2 := 5104) dX3_init_20 rfl q4 (Nat.le_of_ble_eq_true rfl) rfl (by omega) a4_4 rfl rfl ((ci_X0 0 (k := k + 4) (by omega) a4_4 L4).up (by omega)) (fun r h2 z => ⟨z.1, rfl, z.2⟩) (fun x5 z => ?_))
  obtain ⟨-, L5, s4_5, z5⟩ := z
  have L5 : x5.length = k + 8 := L5
  have c5 : x5[k]? = some (mO 3 [mR (k + 1), mU, mU, mU, mI 0, mI 0]) := (z5 k (by omega)).trans c4
  have s1_5 : RoAt x5 (k + 1) 2 (List.replicate 64 6) (List.replicate 64 1) := s1_4.fr (fun j j0 j1 => z5 j (by omega))
  have o5 : ∀ j : Nat, j < k → x5[j]? = h[j]? := fun j hj => (z5 j (by omega)).trans (o4 j hj)
  clear z5 c4 L4 o4 a4_4 s1_4
  refine wp_putf (q := 26) dX3_init_23 rfl f17 hk c5 (Nat.le_of_ble_eq_true rfl) trivial (fun _ => ⟨rfl, rfl⟩) ?_
  show Wp _ _ _ _ _ (x5.set k (mO 3 [mR (k + 1), mR (k + 4), mU, mU, mI 0, mI 0])) _ _
  have L6 : (x5.set k (mO 3 [mR (k + 1), mR (k + 4), mU, mU, mI 0, mI 0])).length = k + 8 := (List.length_set ..).trans L5
  have c6 : (x5.set k (mO 3 [mR (k + 1), mR (k + 4), mU, mU, mI 0, mI 0]))[k]? = some (mO 3 [mR (k + 1), mR (k + 4), mU, mU, mI 0, mI 0]) := gs_eq c5
  have s1_6 : RoAt (x5.set k (mO 3 [mR (k + 1), mR (k + 4), mU, mU, mI 0, mI 0])) (k + 1) 2 (List.replicate 64 6) (List.replicate 64 1) := s1_5.fr (fun j j0 j1 => fr_set (by omega))
  have s4_6 : BrAt (x5.set k (mO 3 [mR (k + 1), mR (k + 4), mU, mU, mI 0, mI 0])) (k + 4) 8 (List.replicate 8 8) (List.replicate 8 8) (List.replicate 32 0) := s4_5.fr (fun j j0 j1 => fr_set (by omega))
  have o6 : ∀ j : Nat, j < k → (x5.set k (mO 3 [mR (k + 1), mR (k + 4), mU, mU, mI 0, mI 0]))[j]? = h[j]? := fun j hj => (fr_set (by omega)).trans (o5 j hj)
  clear c5 L5 o5 s1_5 s4_5
  generalize x5.set k (mO 3 [mR (k + 1), mR (k + 4), mU, mU, mI 0, mI 0]) = x6 at *
  refine wp_al0 (q := 27) dX3_init_26 rfl (wp_new (q := 30) (mc' := 7) (ms' := 5100) (D := [mI 0, mU, mU, mU]) dX3_init_27 rfl n2 rfl rfl rfl ?_)
  rw [L6]
  have L7 : (x6 ++ [mO 0 [mI 0, mU, mU, mU]]).length = k + 9 := ga_len L6 rfl
  have c7 : (x6 ++ [mO 0 [mI 0, mU, mU, mU]])[k]? = some (mO 3 [mR (k + 1), mR (k + 4), mU, mU, mI 0, mI 0]) := ga_lt c6
  have s1_7 : RoAt (x6 ++ [mO 0 [mI 0, mU, mU, mU]]) (k + 1) 2 (List.replicate 64 6) (List.replicate 64 1) := s1_6.ap L6 (by omega)
  have s4_7 : BrAt (x6 ++ [mO 0 [mI 0, mU, mU, mU]]) (k + 4) 8 (List.replicate 8 8) (List.replicate 8 8) (List.replicate 32 0) := s4_6.ap L6 (by omega)
  have o7 : ∀ j : Nat, j < k → (x6 ++ [mO 0 [mI 0, mU, mU, mU]])[j]? = h[j]? := fun j hj => (fr_app L6 (by omega)).trans (o6 j hj)
  have a8_7 : (x6 ++ [mO 0 [mI 0, mU, mU, mU]])[k + 8]? = some (mO 0 [mI 0, mU, mU, mU]) := ga_eq L6
  clear c6 L6 o6 s1_6 s4_6
  generalize x6 ++ [mO 0 [mI 0, mU, mU, mU]] = x7 at *
  refine wp_dupR (q := 31) dX3_init_30 rfl (wp_i0 (q := 34) (mc2 := 4) (ms2 := 5052) dX3_init_31 rfl q4 (Nat.le_of_ble_eq_true rfl) rfl (by omega) a8_7 rfl rfl ((ci_X0 0 (k := k + 8) (by omega) a8_7 L7).up (by omega)) (fun r h2 z => ⟨z.1, rfl, z.2⟩) (fun x8 z => ?_))
  obtain ⟨-, L8, s8_8, z8⟩ := z
  have L8 : x8.length = k + 12 := L8
  have c8 : x8[k]? = some (mO 3 [mR (k + 1), mR (k + 4), mU, mU, mI 0, mI 0]) := (z8 k (by omega)).trans c7
  have s1_8 : RoAt x8 (k + 1) 2 (List.replicate 64 6) (List.replicate 64 1) := s1_7.fr (fun j j0 j1 => z8 j (by omega))
  have s4_8 : BrAt x8 (k + 4) 8 (List.replicate 8 8) (List.replicate 8 8) (List.replicate 32 0) := s4_7.fr (fun j j0 j1 => z8 j (by omega))
  have o8 : ∀ j : Nat, j < k → x8[j]? = h[j]? := fun j hj => (z8 j (by omega)).trans (o7 j hj)
  clear z8 c7 L7 o7 a8_7 s1_7 s4_7
  refine wp_putf (q := 37) dX3_init_34 rfl f18 hk c8 (Nat.le_of_ble_eq_true rfl) trivial (fun _ => ⟨rfl, rfl⟩) ?_
  show Wp _ _ _ _ _ (x8.set k (mO 3 [mR (k + 1), mR (k + 4), mR (k + 8), mU, mI 0, mI 0])) _ _
  have L9 : (x8.set k (mO 3 [mR (k + 1), mR (k + 4), mR (k + 8), mU, mI 0, mI 0])).length = k + 12 := (List.length_set ..).trans L8
  have c9 : (x8.set k (mO 3 [mR (k + 1), mR (k + 4), mR (k + 8), mU, mI 0, mI 0]))[k]? = some (mO 3 [mR (k + 1), mR (k + 4), mR (k + 8), mU, mI 0, mI 0]) := gs_eq c8
  have s1_9 : RoAt (x8.set k (mO 3 [mR (k + 1), mR (k + 4), mR (k + 8), mU, mI 0, mI 0])) (k + 1) 2 (List.replicate 64 6) (List.replicate 64 1) := s1_8.fr (fun j j0 j1 => fr_set (by omega))
  have s4_9 : BrAt (x8.set k (mO 3 [mR (k + 1), mR (k + 4), mR (k + 8), mU, mI 0, mI 0])) (k + 4) 8 (List.replicate 8 8) (List.replicate 8 8) (List.replicate 32 0) := s4_8.fr (fun j j0 j1 => fr_set (by omega))
  have s8_9 : BrAt (x8.set k (mO 3 [mR (k + 1), mR (k + 4), mR (k + 8), mU, mI 0, mI 0])) (k + 8) 8 (List.replicate 8 8) (List.replicate 8 8) (List.replicate 32 0) := s8_8.fr (fun j j0 j1 => fr_set (by omega))
  have o9 : ∀ j : Nat, j < k → (x8.set k (mO 3 [mR (k + 1), mR (k + 4), mR (k + 8), mU, mI 0, mI 0]))[j]? = h[j]? := fun j hj => (fr_set (by omega)).trans (o8 j hj)
  clear c8 L8 o8 s1_8 s4_8 s8_8
  generalize x8.set k (mO 3 [mR (k + 1), mR (k + 4), mR (k + 8), mU, mI 0, mI 0]) = x9 at *
  refine wp_al0 (q := 38) dX3_init_37 rfl (wp_new (q := 41) (mc' := 3) (ms' := 5048) (D := [mI 0, mU, mU, mU]) dX3_init_38 rfl n3 rfl rfl rfl ?_)
  rw [L9]
  have L10 : (x9 ++ [mO 1 [mI 0, mU, mU, mU]]).length = k + 13 := ga_len L9 rfl
  have c10 : (x9 ++ [mO 1 [mI 0, mU, mU, mU]])[k]? = some (mO 3 [mR (k + 1), mR (k + 4), mR (k + 8), mU, mI 0, mI 0]) := ga_lt c9
  have s1_10 : RoAt (x9 ++ [mO 1 [mI 0, mU, mU, mU]]) (k + 1) 2 (List.replicate 64 6) (List.replicate 64 1) := s1_9.ap L9 (by omega)
  have s4_10 : BrAt (x9 ++ [mO 1 [mI 0, mU, mU, mU]]) (k + 4) 8 (List.replicate 8 8) (List.replicate 8 8) (List.replicate 32 0) := s4_9.ap L9 (by omega)
  have s8_10 : BrAt (x9 ++ [mO 1 [mI 0, mU, mU, mU]]) (k + 8) 8 (List.replicate 8 8) (List.replicate 8 8) (List.replicate 32 0) := s8_9.ap L9 (by omega)
  have o10 : ∀ j : Nat, j < k → (x9 ++ [mO 1 [mI 0, mU, mU, mU]])[j]? = h[j]? := fun j hj => (fr_app L9 (by omega)).trans (o9 j hj)
  have a12_10 : (x9 ++ [mO 1 [mI 0, mU, mU, mU]])[k + 12]? = some (mO 1 [mI 0, mU, mU, mU]) := ga_eq L9
  clear c9 L9 o9 s1_9 s4_9 s8_9
  generalize x9 ++ [mO 1 [mI 0, mU, mU, mU]] = x10 at *
  refine wp_dupR (q := 42) dX3_init_41 rfl (wp_i0 (q := 45) (mc2 := 0) (ms2 := 0) dX3_init_42 rfl q9 (Nat.le_of_ble_eq_true rfl) rfl (by omega) a12_10 rfl rfl ((ci_X1 0 (k := k + 12) (by omega) a12_10 L10).up (by omega)) (fun r h2 z => ⟨z.1, rfl, z.2⟩) (fun x11 z => ?_))
  obtain ⟨-, L11, s12_11, z11⟩ := z
  have L11 : x11.length = k + 16 := L11
  have c11 : x11[k]? = some (mO 3 [mR (k + 1), mR (k + 4), mR (k + 8), mU, mI 0, mI 0]) := (z11 k (by omega)).trans c10
  have s1_11 : RoAt x11 (k + 1) 2 (List.replicate 64 6) (List.replicate 64 1) := s1_10.fr (fun j j0 j1 => z11 j (by omega))
  have s4_11 : BrAt x11 (k + 4) 8 (List.replicate 8 8) (List.replicate 8 8) (List.replicate 32 0) := s4_10.fr (fun j j0 j1 => z11 j (by omega))
  have s8_11 : BrAt x11 (k + 8) 8 (List.replicate 8 8) (List.replicate 8 8) (List.replicate 32 0) := s8_10.fr (fun j j0 j1 => z11 j (by omega))
  have o11 : ∀ j : Nat, j < k → x11[j]? = h[j]? := fun j hj => (z11 j (by omega)).trans (o10 j hj)
  clear z11 c10 L10 o10 a12_10 s1_10 s4_10 s8_10
  refine wp_putf (q := 48) dX3_init_45 rfl f19 hk c11 (Nat.le_of_ble_eq_true rfl) trivial (fun _ => ⟨rfl, rfl⟩) ?_
  show Wp _ _ _ _ _ (x11.set k (mO 3 [mR (k + 1), mR (k + 4), mR (k + 8), mR (k + 12), mI 0, mI 0])) _ _
  have L12 : (x11.set k (mO 3 [mR (k + 1), mR (k + 4), mR (k + 8), mR (k + 12), mI 0, mI 0])).length = k + 16 := (List.length_set ..).trans L11
  have c12 : (x11.set k (mO 3 [mR (k + 1), mR (k + 4), mR (k + 8), mR (k + 12), mI 0, mI 0]))[k]? = some (mO 3 [mR (k + 1), mR (k + 4), mR (k + 8), mR (k + 12), mI 0, mI 0]) := gs_eq c11
  have s1_12 : RoAt (x11.set k (mO 3 [mR (k + 1), mR (k + 4), mR (k + 8), mR (k + 12), mI 0, mI 0])) (k + 1) 2 (List.replicate 64 6) (List.replicate 64 1) := s1_11.fr (fun j j0 j1 => fr_set (by omega))
  have s4_12 : BrAt (x11.set k (mO 3 [mR (k + 1), mR (k + 4), mR (k + 8), mR (k + 12), mI 0, mI 0])) (k + 4) 8 (List.replicate 8 8) (List.replicate 8 8) (List.replicate 32 0) := s4_11.fr (fun j j0 j1 => fr_set (by omega))
  have s8_12 : BrAt (x11.set k (mO 3 [mR (k + 1), mR (k + 4), mR (k + 8), mR (k + 12), mI 0, mI 0])) (k + 8) 8 (List.replicate 8 8) (List.replicate 8 8) (List.replicate 32 0) := s8_11.fr (fun j j0 j1 => fr_set (by omega))
  have s12_12 : LiAt (x11.set k (mO 3 [mR (k + 1), mR (k + 4), mR (k + 8), mR (k + 12), mI 0, mI 0])) (k + 12) 0 (List.replicate 8 0) (List.replicate 2520 0) (List.replicate 2520 0) := s12_11.fr (fun j j0 j1 => fr_set (by omega))
  have o12 : ∀ j : Nat, j < k → (x11.set k (mO 3 [mR (k + 1), mR (k + 4), mR (k + 8), mR (k + 12), mI 0, mI 0]))[j]? = h[j]? := fun j hj => (fr_set (by omega)).trans (o11 j hj)
  clear c11 L11 o11 s1_11 s4_11 s8_11 s12_11
  generalize x11.set k (mO 3 [mR (k + 1), mR (k + 4), mR (k + 8), mR (k + 12), mI 0, mI 0]) = x12 at *
  refine wp_al0 (q := 49) dX3_init_48 rfl (wp_ic (q := 50) dX3_init_49 rfl (by decide) (by decide) (wp_putf (q := 53) dX3_init_50 rfl f20 hk c12 (Nat.le_of_ble_eq_true rfl) (Or.inl rfl) (fun _ => ⟨rfl, rfl⟩) ?_))
  show Wp _ _ _ _ _ (x12.set k (mO 3 [mR (k + 1), mR (k + 4), mR (k + 8), mR (k + 12), mI 0, mI 0])) _ _
  have L13 : (x12.set k (mO 3 [mR (k + 1), mR (k + 4), mR (k + 8), mR (k + 12), mI 0, mI 0])).length = k + 16 := (List.length_set ..).trans L12
  have c13 : (x12.set k (mO 3 [mR (k + 1), mR (k + 4), mR (k + 8), mR (k + 12), mI 0, mI 0]))[k]? = some (mO 3 [mR (k + 1), mR (k + 4), mR (k + 8), mR (k + 12), mI 0, mI 0]) := gs_eq c12
  have s1_13 : RoAt (x12.set k (mO 3 [mR (k + 1), mR (k + 4), mR (k + 8), mR (k + 12), mI 0, mI 0])) (k + 1) 2 (List.replicate 64 6) (List.replicate 64 1) := s1_12.fr (fun j j0 j1 => fr_set (by omega))
  have s4_13 : BrAt (x12.set k (mO 3 [mR (k + 1), mR (k + 4), mR (k + 8), mR (k + 12), mI 0, mI 0])) (k + 4) 8 (List.replicate 8 8) (List.replicate 8 8) (List.replicate 32 0) := s4_12.fr (fun j j0 j1 => fr_set (by omega))
  have s8_13 : BrAt (x12.set k (mO 3 [mR (k + 1), mR (k + 4), mR (k + 8), mR (k + 12), mI 0, mI 0])) (k + 8) 8 (List.replicate 8 8) (List.replicate 8 8) (List.replicate 32 0) := s8_12.fr (fun j j0 j1 => fr_set (by omega))
  have s12_13 : LiAt (x12.set k (mO 3 [mR (k + 1), mR (k + 4), mR (k + 8), mR (k + 12), mI 0, mI 0])) (k + 12) 0 (List.replicate 8 0) (List.replicate 2520 0) (List.replicate 2520 0) := s12_12.fr (fun j j0 j1 => fr_set (by omega))
  have o13 : ∀ j : Nat, j < k → (x12.set k (mO 3 [mR (k + 1), mR (k + 4), mR (k + 8), mR (k + 12), mI 0, mI 0]))[j]? = h[j]? := fun j hj => (fr_set (by omega)).trans (o12 j hj)
  clear c12 L12 o12 s1_12 s4_12 s8_12 s12_12
  generalize x12.set k (mO 3 [mR (k + 1), mR (k + 4), mR (k + 8), mR (k + 12), mI 0, mI 0]) = x13 at *
  refine wp_al0 (q := 54) dX3_init_53 rfl (wp_ic (q := 55) dX3_init_54 rfl (by decide) (by decide) (wp_putf (q := 58) dX3_init_55 rfl f21 hk c13 (Nat.le_of_ble_eq_true rfl) (Or.inl rfl) (fun _ => ⟨rfl, rfl⟩) ?_))
  show Wp _ _ _ _ _ (x13.set k (mO 3 [mR (k + 1), mR (k + 4), mR (k + 8), mR (k + 12), mI 0, mI 0])) _ _
  have L14 : (x13.set k (mO 3 [mR (k + 1), mR (k + 4), mR (k + 8), mR (k + 12), mI 0, mI 0])).length = k + 16 := (List.length_set ..).trans L13
  have c14 : (x13.set k (mO 3 [mR (k + 1), mR (k + 4), mR (k + 8), mR (k + 12), mI 0, mI 0]))[k]? = some (mO 3 [mR (k + 1), mR (k + 4), mR (k + 8), mR (k + 12), mI 0, mI 0]) := gs_eq c13
  have s1_14 : RoAt (x13.set k (mO 3 [mR (k + 1), mR (k + 4), mR (k + 8), mR (k + 12), mI 0, mI 0])) (k + 1) 2 (List.replicate 64 6) (List.replicate 64 1) := s1_13.fr (fun j j0 j1 => fr_set (by omega))
  have s4_14 : BrAt (x13.set k (mO 3 [mR (k + 1), mR (k + 4), mR (k + 8), mR (k + 12), mI 0, mI 0])) (k + 4) 8 (List.replicate 8 8) (List.replicate 8 8) (List.replicate 32 0) := s4_13.fr (fun j j0 j1 => fr_set (by omega))
  have s8_14 : BrAt (x13.set k (mO 3 [mR (k + 1), mR (k + 4), mR (k + 8), mR (k + 12), mI 0, mI 0])) (k + 8) 8 (List.replicate 8 8) (List.replicate 8 8) (List.replicate 32 0) := s8_13.fr (fun j j0 j1 => fr_set (by omega))
  have s12_14 : LiAt (x13.set k (mO 3 [mR (k + 1), mR (k + 4), mR (k + 8), mR (k + 12), mI 0, mI 0])) (k + 12) 0 (List.replicate 8 0) (List.replicate 2520 0) (List.replicate 2520 0) := s12_13.fr (fun j j0 j1 => fr_set (by omega))
  have o14 : ∀ j : Nat, j < k → (x13.set k (mO 3 [mR (k + 1), mR (k + 4), mR (k + 8), mR (k + 12), mI 0, mI 0]))[j]? = h[j]? := fun j hj => (fr_set (by omega)).trans (o13 j hj)
  clear c13 L13 o13 s1_13 s4_13 s8_13 s12_13
  generalize x13.set k (mO 3 [mR (k + 1), mR (k + 4), mR (k + 8), mR (k + 12), mI 0, mI 0]) = x14 at *
  refine wp_vret dX3_init_58 rfl ?_
  obtain ⟨s1, s4, s8, s12⟩ := show _ ∧ _ ∧ _ ∧ _ from ⟨s1_14, s4_14, s8_14, s12_14⟩
  have hz : ∀ i : Int, 0 ≤ gI (List.replicate 2520 0) i ∧ gI (List.replicate 2520 0) i ≤ 8 := fun i => by
    unfold gI
    rw [List.getD_eq_getElem?_getD, List.getElem?_replicate]
    split <;> decide
  exact ⟨rfl, L14, ⟨0, 0, _, 8, _, _, _, 0, _, _, _, ⟨⟨hk, c14⟩, s1, s4, s8, s12, (o14 0 (by omega)).trans hp⟩, hz, Or.inl rfl, Or.inl rfl, fun z => absurd z (by decide), fun z => absurd z (by decide), trivial⟩, o14⟩
theorem ci_X4 (d : Nat) {h : List mC} {k : Nat} (hk : 2 ≤ k) (hc : h[k]? = some (mO 4 [mI 0, mI 0, mU, mU, mU, mU, mU, mU, mU, mU, mU, mU, mU, mU, mL 0, mL 0, mI 0, mI 0, mU])) (hL : h.length = k + 1) : Ct (d + 4) mX4_init [mR k] h (fun r9 h9 => r9 = none ∧ MS h9 k 2 8 (List.replicate 64 6) (List.replicate 64 1) (List.replicate 8 8) (List.replicate 8 8) ∧ ∀ j : Nat, j < k → h9[j]? = h[j]?) := by
  show Wp _ mX4_init 0 [mR k] [] h (13, 3451) _
  have o : ∀ j : Nat, j < k → h[j]? = h[j]? := fun _ _ => rfl
  refine wp_al0 (q := 1) dX4_init_0 rfl (wp_obj (q := 4) dX4_init_1 rfl oi4 (Nat.le_of_ble_eq_true rfl) ?_)
  refine wp_al0 (q := 5) dX4_init_4 rfl (wp_ic (q := 6) dX4_init_5 rfl (by decide) (by decide) (wp_putf (q := 9) dX4_init_6 rfl f22 hk hc (Nat.le_of_ble_eq_true rfl) trivial (fun _ => ⟨rfl, rfl⟩) ?_))
  show Wp _ _ _ _ _ (h.set k (mO 4 [mI 2, mI 0, mU, mU, mU, mU, mU, mU, mU, mU, mU, mU, mU, mU, mL 0, mL 0, mI 0, mI 0, mU])) _ _
  have L1 : (h.set k (mO 4 [mI 2, mI 0, mU, mU, mU, mU, mU, mU, mU, mU, mU, mU, mU, mU, mL 0, mL 0, mI 0, mI 0, mU])).length = k + 1 := (List.length_set ..).trans hL
  have c1 : (h.set k (mO 4 [mI 2, mI 0, mU, mU, mU, mU, mU, mU, mU, mU, mU, mU, mU, mU, mL 0, mL 0, mI 0, mI 0, mU]))[k]? = some (mO 4 [mI 2, mI 0, mU, mU, mU, mU, mU, mU, mU, mU, mU, mU, mU, mU, mL 0, mL 0, mI 0, mI 0, mU]) := gs_eq hc
  have o1 : ∀ j : Nat, j < k → (h.set k (mO 4 [mI 2, mI 0, mU, mU, mU, mU, mU, mU, mU, mU, mU, mU, mU, mU, mL 0, mL 0, mI 0, mI 0, mU]))[j]? = h[j]? := fun j hj => (fr_set (by omega)).trans (o j hj)
  clear hc hL o
  generalize h.set k (mO 4 [mI 2, mI 0, mU, mU, mU, mU, mU, mU, mU, mU, mU, mU, mU, mU, mL 0, mL 0, mI 0, mI 0, mU]) = x1 at *
  refine wp_al0 (q := 10) dX4_init_9 rfl (wp_bi (q := 12) dX4_init_10 rfl (by decide) (by decide) (wp_putf (q := 15) dX4_init_12 rfl f23 hk c1 (Nat.le_of_ble_eq_true rfl) trivial (fun _ => ⟨rfl, rfl⟩) ?_))
  show Wp _ _ _ _ _ (x1.set k (mO 4 [mI 2, mI 8, mU, mU, mU, mU, mU, mU, mU, mU, mU, mU, mU, mU, mL 0, mL 0, mI 0, mI 0, mU])) _ _
  have L2 : (x1.set k (mO 4 [mI 2, mI 8, mU, mU, mU, mU, mU, mU, mU, mU, mU, mU, mU, mU, mL 0, mL 0, mI 0, mI 0, mU])).length = k + 1 := (List.length_set ..).trans L1
  have c2 : (x1.set k (mO 4 [mI 2, mI 8, mU, mU, mU, mU, mU, mU, mU, mU, mU, mU, mU, mU, mL 0, mL 0, mI 0, mI 0, mU]))[k]? = some (mO 4 [mI 2, mI 8, mU, mU, mU, mU, mU, mU, mU, mU, mU, mU, mU, mU, mL 0, mL 0, mI 0, mI 0, mU]) := gs_eq c1
  have o2 : ∀ j : Nat, j < k → (x1.set k (mO 4 [mI 2, mI 8, mU, mU, mU, mU, mU, mU, mU, mU, mU, mU, mU, mU, mL 0, mL 0, mI 0, mI 0, mU]))[j]? = h[j]? := fun j hj => (fr_set (by omega)).trans (o1 j hj)
  clear c1 L1 o1
  generalize x1.set k (mO 4 [mI 2, mI 8, mU, mU, mU, mU, mU, mU, mU, mU, mU, mU, mU, mU, mL 0, mL 0, mI 0, mI 0, mU]) = x2 at *
  refine wp_al0 (q := 16) dX4_init_15 rfl (wp_bi (q := 18) dX4_init_16 rfl (by decide) (by decide) (wp_newi (q := 20) (mc' := 12) (ms' := 3387) dX4_init_18 rfl (by decide) (by decide) rfl rfl ?_))
  rw [L2]
  show Wp _ _ _ _ _ (x2 ++ [mA (List.replicate 64 0)]) _ _
  have L3 : (x2 ++ [mA (List.replicate 64 0)]).length = k + 2 := ga_len L2 rfl
  have c3 : (x2 ++ [mA (List.replicate 64 0)])[k]? = some (mO 4 [mI 2, mI 8, mU, mU, mU, mU, mU, mU, mU, mU, mU, mU, mU, mU, mL 0, mL 0, mI 0, mI 0, mU]) := ga_lt c2
  have o3 : ∀ j : Nat, j < k → (x2 ++ [mA (List.replicate 64 0)])[j]? = h[j]? := fun j hj => (fr_app L2 (by omega)).trans (o2 j hj)
  have a1_3 : (x2 ++ [mA (List.replicate 64 0)])[k + 1]? = some (mA (List.replicate 64 0)) := ga_eq L2
  clear c2 L2 o2
  generalize x2 ++ [mA (List.replicate 64 0)] = x3 at *
  refine wp_putf (q := 23) dX4_init_20 rfl f24 hk c3 (Nat.le_of_ble_eq_true rfl) trivial (fun _ => ⟨rfl, rfl⟩) ?_
  show Wp _ _ _ _ _ (x3.set k (mO 4 [mI 2, mI 8, mR (k + 1), mU, mU, mU, mU, mU, mU, mU, mU, mU, mU, mU, mL 0, mL 0, mI 0, mI 0, mU])) _ _
  have L4 : (x3.set k (mO 4 [mI 2, mI 8, mR (k + 1), mU, mU, mU, mU, mU, mU, mU, mU, mU, mU, mU, mL 0, mL 0, mI 0, mI 0, mU])).length = k + 2 := (List.length_set ..).trans L3
  have c4 : (x3.set k (mO 4 [mI 2, mI 8, mR (k + 1), mU, mU, mU, mU, mU, mU, mU, mU, mU, mU, mU, mL 0, mL 0, mI 0, mI 0, mU]))[k]? = some (mO 4 [mI 2, mI 8, mR (k + 1), mU, mU, mU, mU, mU, mU, mU, mU, mU, mU, mU, mL 0, mL 0, mI 0, mI 0, mU]) := gs_eq c3
  have a1_4 : (x3.set k (mO 4 [mI 2, mI 8, mR (k + 1), mU, mU, mU, mU, mU, mU, mU, mU, mU, mU, mU, mL 0, mL 0, mI 0, mI 0, mU]))[k + 1]? = some (mA (List.replicate 64 0)) := gs_ne a1_3 (by omega)
  have o4 : ∀ j : Nat, j < k → (x3.set k (mO 4 [mI 2, mI 8, mR (k + 1), mU, mU, mU, mU, mU, mU, mU, mU, mU, mU, mU, mL 0, mL 0, mI 0, mI 0, mU]))[j]? = h[j]? := fun j hj => (fr_set (by omega)).trans (o3 j hj)
  clear c3 L3 o3 a1_3
  generalize x3.set k (mO 4 [mI 2, mI 8, mR (k + 1), mU, mU, mU, mU, mU, mU, mU, mU, mU, mU, mU, mL 0, mL 0, mI 0, mI 0, mU]) = x4 at *
  refine wp_al0 (q := 24) dX4_init_23 rfl (wp_bi (q := 26) dX4_init_24 rfl (by decide) (by decide) (wp_newi (q := 28) (mc' := 11) (ms' := 3323) dX4_init_26 rfl (by decide) (by decide) rfl rfl ?_))
  rw [L4]
  show Wp _ _ _ _ _ (x4 ++ [mA (List.replicate 64 0)]) _ _
  have L5 : (x4 ++ [mA (List.replicate 64 0)]).length = k + 3 := ga_len L4 rfl
  have c5 : (x4 ++ [mA (List.replicate 64 0)])[k]? = some (mO 4 [mI 2, mI 8, mR (k + 1), mU, mU, mU, mU, mU, mU, mU, mU, mU, mU, mU, mL 0, mL 0, mI 0, mI 0, mU]) := ga_lt c4
  have a1_5 : (x4 ++ [mA (List.replicate 64 0)])[k + 1]? = some (mA (List.replicate 64 0)) := ga_lt a1_4
  have o5 : ∀ j : Nat, j < k → (x4 ++ [mA (List.replicate 64 0)])[j]? = h[j]? := fun j hj => (fr_app L4 (by omega)).trans (o4 j hj)
  have a2_5 : (x4 ++ [mA (List.replicate 64 0)])[k + 2]? = some (mA (List.replicate 64 0)) := ga_eq L4
  clear c4 L4 o4 a1_4
  generalize x4 ++ [mA (List.replicate 64 0)] = x5 at *
  refine wp_putf (q := 31) dX4_init_28 rfl f25 hk c5 (Nat.le_of_ble_eq_true rfl) trivial (fun _ => ⟨rfl, rfl⟩) ?_
  show Wp _ _ _ _ _ (x5.set k (mO 4 [mI 2, mI 8, mR (k + 1), mR (k + 2), mU, mU, mU, mU, mU, mU, mU, mU, mU, mU, mL 0, mL 0, mI 0, mI 0, mU])) _ _
  have L6 : (x5.set k (mO 4 [mI 2, mI 8, mR (k + 1), mR (k + 2), mU, mU, mU, mU, mU, mU, mU, mU, mU, mU, mL 0, mL 0, mI 0, mI 0, mU])).length = k + 3 := (List.length_set ..).trans L5
  have c6 : (x5.set k (mO 4 [mI 2, mI 8, mR (k + 1), mR (k + 2), mU, mU, mU, mU, mU, mU, mU, mU, mU, mU, mL 0, mL 0, mI 0, mI 0, mU]))[k]? = some (mO 4 [mI 2, mI 8, mR (k + 1), mR (k + 2), mU, mU, mU, mU, mU, mU, mU, mU, mU, mU, mL 0, mL 0, mI 0, mI 0, mU]) := gs_eq c5
  have a1_6 : (x5.set k (mO 4 [mI 2, mI 8, mR (k + 1), mR (k + 2), mU, mU, mU, mU, mU, mU, mU, mU, mU, mU, mL 0, mL 0, mI 0, mI 0, mU]))[k + 1]? = some (mA (List.replicate 64 0)) := gs_ne a1_5 (by omega)
  have a2_6 : (x5.set k (mO 4 [mI 2, mI 8, mR (k + 1), mR (k + 2), mU, mU, mU, mU, mU, mU, mU, mU, mU, mU, mL 0, mL 0, mI 0, mI 0, mU]))[k + 2]? = some (mA (List.replicate 64 0)) := gs_ne a2_5 (by omega)
  have o6 : ∀ j : Nat, j < k → (x5.set k (mO 4 [mI 2, mI 8, mR (k + 1), mR (k + 2), mU, mU, mU, mU, mU, mU, mU, mU, mU, mU, mL 0, mL 0, mI 0, mI 0, mU]))[j]? = h[j]? := fun j hj => (fr_set (by omega)).trans (o5 j hj)
  clear c5 L5 o5 a1_5 a2_5
  generalize x5.set k (mO 4 [mI 2, mI 8, mR (k + 1), mR (k + 2), mU, mU, mU, mU, mU, mU, mU, mU, mU, mU, mL 0, mL 0, mI 0, mI 0, mU]) = x6 at *
  refine wp_al0 (q := 32) dX4_init_31 rfl (wp_bi (q := 34) dX4_init_32 rfl (by decide) (by decide) (wp_newi (q := 36) (mc' := 10) (ms' := 3315) dX4_init_34 rfl (by decide) (by decide) rfl rfl ?_))
  rw [L6]
  show Wp _ _ _ _ _ (x6 ++ [mA (List.replicate 8 0)]) _ _
  have L7 : (x6 ++ [mA (List.replicate 8 0)]).length = k + 4 := ga_len L6 rfl
  have c7 : (x6 ++ [mA (List.replicate 8 0)])[k]? = some (mO 4 [mI 2, mI 8, mR (k + 1), mR (k + 2), mU, mU, mU, mU, mU, mU, mU, mU, mU, mU, mL 0, mL 0, mI 0, mI 0, mU]) := ga_lt c6
  have a1_7 : (x6 ++ [mA (List.replicate 8 0)])[k + 1]? = some (mA (List.replicate 64 0)) := ga_lt a1_6
  have a2_7 : (x6 ++ [mA (List.replicate 8 0)])[k + 2]? = some (mA (List.replicate 64 0)) := ga_lt a2_6
  have o7 : ∀ j : Nat, j < k → (x6 ++ [mA (List.replicate 8 0)])[j]? = h[j]? := fun j hj => (fr_app L6 (by omega)).trans (o6 j hj)
  have a3_7 : (x6 ++ [mA (List.replicate 8 0)])[k + 3]? = some (mA (List.replicate 8 0)) := ga_eq L6
  clear c6 L6 o6 a1_6 a2_6
  generalize x6 ++ [mA (List.replicate 8 0)] = x7 at *
  refine wp_putf (q := 39) dX4_init_36 rfl f26 hk c7 (Nat.le_of_ble_eq_true rfl) trivial (fun _ => ⟨rfl, rfl⟩) ?_
  show Wp _ _ _ _ _ (x7.set k (mO 4 [mI 2, mI 8, mR (k + 1), mR (k + 2), mR (k + 3), mU, mU, mU, mU, mU, mU, mU, mU, mU, mL 0, mL 0, mI 0, mI 0, mU])) _ _
  have L8 : (x7.set k (mO 4 [mI 2, mI 8, mR (k + 1), mR (k + 2), mR (k + 3), mU, mU, mU, mU, mU, mU, mU, mU, mU, mL 0, mL 0, mI 0, mI 0, mU])).length = k + 4 := (List.length_set ..).trans L7
  have c8 : (x7.set k (mO 4 [mI 2, mI 8, mR (k + 1), mR (k + 2), mR (k + 3), mU, mU, mU, mU, mU, mU, mU, mU, mU, mL 0, mL 0, mI 0, mI 0, mU]))[k]? = some (mO 4 [mI 2, mI 8, mR (k + 1), mR (k + 2), mR (k + 3), mU, mU, mU, mU, mU, mU, mU, mU, mU, mL 0, mL 0, mI 0, mI 0, mU]) := gs_eq c7
  have a1_8 : (x7.set k (mO 4 [mI 2, mI 8, mR (k + 1), mR (k + 2), mR (k + 3), mU, mU, mU, mU, mU, mU, mU, mU, mU, mL 0, mL 0, mI 0, mI 0, mU]))[k + 1]? = some (mA (List.replicate 64 0)) := gs_ne a1_7 (by omega)
  have a2_8 : (x7.set k (mO 4 [mI 2, mI 8, mR (k + 1), mR (k + 2), mR (k + 3), mU, mU, mU, mU, mU, mU, mU, mU, mU, mL 0, mL 0, mI 0, mI 0, mU]))[k + 2]? = some (mA (List.replicate 64 0)) := gs_ne a2_7 (by omega)
  have a3_8 : (x7.set k (mO 4 [mI 2, mI 8, mR (k + 1), mR (k + 2), mR (k + 3), mU, mU, mU, mU, mU, mU, mU, mU, mU, mL 0, mL 0, mI 0, mI 0, mU]))[k + 3]? = some (mA (List.replicate 8 0)) := gs_ne a3_7 (by omega)
  have o8 : ∀ j : Nat, j < k → (x7.set k (mO 4 [mI 2, mI 8, mR (k + 1), mR (k + 2), mR (k + 3), mU, mU, mU, mU, mU, mU, mU, mU, mU, mL 0, mL 0, mI 0, mI 0, mU]))[j]? = h[j]? := fun j hj => (fr_set (by omega)).trans (o7 j hj)
  clear c7 L7 o7 a1_7 a2_7 a3_7
  generalize x7.set k (mO 4 [mI 2, mI 8, mR (k + 1), mR (k + 2), mR (k + 3), mU, mU, mU, mU, mU, mU, mU, mU, mU, mL 0, mL 0, mI 0, mI 0, mU]) = x8 at *
  refine wp_al0 (q := 40) dX4_init_39 rfl (wp_bi (q := 42) dX4_init_40 rfl (by decide) (by decide) (wp_newi (q := 44) (mc' := 9) (ms' := 3308) dX4_init_42 rfl (by decide) (by decide) rfl rfl ?_))
  rw [L8]
  show Wp _ _ _ _ _ (x8 ++ [mA (List.replicate 7 0)]) _ _
  have L9 : (x8 ++ [mA (List.replicate 7 0)]).length = k + 5 := ga_len L8 rfl
  have c9 : (x8 ++ [mA (List.replicate 7 0)])[k]? = some (mO 4 [mI 2, mI 8, mR (k + 1), mR (k + 2), mR (k + 3), mU, mU, mU, mU, mU, mU, mU, mU, mU, mL 0, mL 0, mI 0, mI 0, mU]) := ga_lt c8
  have a1_9 : (x8 ++ [mA (List.replicate 7 0)])[k + 1]? = some (mA (List.replicate 64 0)) := ga_lt a1_8
  have a2_9 : (x8 ++ [mA (List.replicate 7 0)])[k + 2]? = some (mA (List.replicate 64 0)) := ga_lt a2_8
  have a3_9 : (x8 ++ [mA (List.replicate 7 0)])[k + 3]? = some (mA (List.replicate 8 0)) := ga_lt a3_8
  have o9 : ∀ j : Nat, j < k → (x8 ++ [mA (List.replicate 7 0)])[j]? = h[j]? := fun j hj => (fr_app L8 (by omega)).trans (o8 j hj)
  have a4_9 : (x8 ++ [mA (List.replicate 7 0)])[k + 4]? = some (mA (List.replicate 7 0)) := ga_eq L8
  clear c8 L8 o8 a1_8 a2_8 a3_8
  generalize x8 ++ [mA (List.replicate 7 0)] = x9 at *
  refine wp_putf (q := 47) dX4_init_44 rfl f27 hk c9 (Nat.le_of_ble_eq_true rfl) trivial (fun _ => ⟨rfl, rfl⟩) ?_
  show Wp _ _ _ _ _ (x9.set k (mO 4 [mI 2, mI 8, mR (k + 1), mR (k + 2), mR (k + 3), mR (k + 4), mU, mU, mU, mU, mU, mU, mU, mU, mL 0, mL 0, mI 0, mI 0, mU])) _ _
  have L10 : (x9.set k (mO 4 [mI 2, mI 8, mR (k + 1), mR (k + 2), mR (k + 3), mR (k + 4), mU, mU, mU, mU, mU, mU, mU, mU, mL 0, mL 0, mI 0, mI 0, mU])).length = k + 5 := (List.length_set ..).trans L9
  have c10 : (x9.set k (mO 4 [mI 2, mI 8, mR (k + 1), mR (k + 2), mR (k + 3), mR (k + 4), mU, mU, mU, mU, mU, mU, mU, mU, mL 0, mL 0, mI 0, mI 0, mU]))[k]? = some (mO 4 [mI 2, mI 8, mR (k + 1), mR (k + 2), mR (k + 3), mR (k + 4), mU, mU, mU, mU, mU, mU, mU, mU, mL 0, mL 0, mI 0, mI 0, mU]) := gs_eq c9
  have a1_10 : (x9.set k (mO 4 [mI 2, mI 8, mR (k + 1), mR (k + 2), mR (k + 3), mR (k + 4), mU, mU, mU, mU, mU, mU, mU, mU, mL 0, mL 0, mI 0, mI 0, mU]))[k + 1]? = some (mA (List.replicate 64 0)) := gs_ne a1_9 (by omega)
  have a2_10 : (x9.set k (mO 4 [mI 2, mI 8, mR (k + 1), mR (k + 2), mR (k + 3), mR (k + 4), mU, mU, mU, mU, mU, mU, mU, mU, mL 0, mL 0, mI 0, mI 0, mU]))[k + 2]? = some (mA (List.replicate 64 0)) := gs_ne a2_9 (by omega)
  have a3_10 : (x9.set k (mO 4 [mI 2, mI 8, mR (k + 1), mR (k + 2), mR (k + 3), mR (k + 4), mU, mU, mU, mU, mU, mU, mU, mU, mL 0, mL 0, mI 0, mI 0, mU]))[k + 3]? = some (mA (List.replicate 8 0)) := gs_ne a3_9 (by omega)
  have a4_10 : (x9.set k (mO 4 [mI 2, mI 8, mR (k + 1), mR (k + 2), mR (k + 3), mR (k + 4), mU, mU, mU, mU, mU, mU, mU, mU, mL 0, mL 0, mI 0, mI 0, mU]))[k + 4]? = some (mA (List.replicate 7 0)) := gs_ne a4_9 (by omega)
  have o10 : ∀ j : Nat, j < k → (x9.set k (mO 4 [mI 2, mI 8, mR (k + 1), mR (k + 2), mR (k + 3), mR (k + 4), mU, mU, mU, mU, mU, mU, mU, mU, mL 0, mL 0, mI 0, mI 0, mU]))[j]? = h[j]? := fun j hj => (fr_set (by omega)).trans (o9 j hj)
  clear c9 L9 o9 a1_9 a2_9 a3_9 a4_9
  generalize x9.set k (mO 4 [mI 2, mI 8, mR (k + 1), mR (k + 2), mR (k + 3), mR (k + 4), mU, mU, mU, mU, mU, mU, mU, mU, mL 0, mL 0, mI 0, mI 0, mU]) = x10 at *
  refine wp_al0 (q := 48) dX4_init_47 rfl (wp_bi (q := 50) dX4_init_48 rfl (by decide) (by decide) (wp_newi (q := 52) (mc' := 8) (ms' := 3301) dX4_init_50 rfl (by decide) (by decide) rfl rfl ?_))
  rw [L10]
  show Wp _ _ _ _ _ (x10 ++ [mA (List.replicate 7 0)]) _ _
  have L11 : (x10 ++ [mA (List.replicate 7 0)]).length = k + 6 := ga_len L10 rfl
  have c11 : (x10 ++ [mA (List.replicate 7 0)])[k]? = some (mO 4 [mI 2, mI 8, mR (k + 1), mR (k + 2), mR (k + 3), mR (k + 4), mU, mU, mU, mU, mU, mU, mU, mU, mL 0, mL 0, mI 0, mI 0, mU]) := ga_lt c10
  have a1_11 : (x10 ++ [mA (List.replicate 7 0)])[k + 1]? = some (mA (List.replicate 64 0)) := ga_lt a1_10
  have a2_11 : (x10 ++ [mA (List.replicate 7 0)])[k + 2]? = some (mA (List.replicate 64 0)) := ga_lt a2_10
  have a3_11 : (x10 ++ [mA (List.replicate 7 0)])[k + 3]? = some (mA (List.replicate 8 0)) := ga_lt a3_10
  have a4_11 : (x10 ++ [mA (List.replicate 7 0)])[k + 4]? = some (mA (List.replicate 7 0)) := ga_lt a4_10
  have o11 : ∀ j : Nat, j < k → (x10 ++ [mA (List.replicate 7 0)])[j]? = h[j]? := fun j hj => (fr_app L10 (by omega)).trans (o10 j hj)
  have a5_11 : (x10 ++ [mA (List.replicate 7 0)])[k + 5]? = some (mA (List.replicate 7 0)) := ga_eq L10
  clear c10 L10 o10 a1_10 a2_10 a3_10 a4_10
  generalize x10 ++ [mA (List.replicate 7 0)] = x11 at *
  refine wp_putf (q := 55) dX4_init_52 rfl f28 hk c11 (Nat.le_of_ble_eq_true rfl) trivial (fun _ => ⟨rfl, rfl⟩) ?_
  show Wp _ _ _ _ _ (x11.set k (mO 4 [mI 2, mI 8, mR (k + 1), mR (k + 2), mR (k + 3), mR (k + 4), mR (k + 5), mU, mU, mU, mU, mU, mU, mU, mL 0, mL 0, mI 0, mI 0, mU])) _ _
  have L12 : (x11.set k (mO 4 [mI 2, mI 8, mR (k + 1), mR (k + 2), mR (k + 3), mR (k + 4), mR (k + 5), mU, mU, mU, mU, mU, mU, mU, mL 0, mL 0, mI 0, mI 0, mU])).length = k + 6 := (List.length_set ..).trans L11
  have c12 : (x11.set k (mO 4 [mI 2, mI 8, mR (k + 1), mR (k + 2), mR (k + 3), mR (k + 4), mR (k + 5), mU, mU, mU, mU, mU, mU, mU, mL 0, mL 0, mI 0, mI 0, mU]))[k]? = some (mO 4 [mI 2, mI 8, mR (k + 1), mR (k + 2), mR (k + 3), mR (k + 4), mR (k + 5), mU, mU, mU, mU, mU, mU, mU, mL 0, mL 0, mI 0, mI 0, mU]) := gs_eq c11
  have a1_12 : (x11.set k (mO 4 [mI 2, mI 8, mR (k + 1), mR (k + 2), mR (k + 3), mR (k + 4), mR (k + 5), mU, mU, mU, mU, mU, mU, mU, mL 0, mL 0, mI 0, mI 0, mU]))[k + 1]? = some (mA (List.replicate 64 0)) := gs_ne a1_11 (by omega)
  have a2_12 : (x11.set k (mO 4 [mI 2, mI 8, mR (k + 1), mR (k + 2), mR (k + 3), mR (k + 4), mR (k + 5), mU, mU, mU, mU, mU, mU, mU, mL 0, mL 0, mI 0, mI 0, mU]))[k + 2]? = some (mA (List.replicate 64 0)) := gs_ne a2_11 (by omega)
  have a3_12 : (x11.set k (mO 4 [mI 2, mI 8, mR (k + 1), mR (k + 2), mR (k + 3), mR (k + 4), mR (k + 5), mU, mU, mU, mU, mU, mU, mU, mL 0, mL 0, mI 0, mI 0, mU]))[k + 3]? = some (mA (List.replicate 8 0)) := gs_ne a3_11 (by omega)
  have a4_12 : (x11.set k (mO 4 [mI 2, mI 8, mR (k + 1), mR (k + 2), mR (k + 3), mR (k + 4), mR (k + 5), mU, mU, mU, mU, mU, mU, mU, mL 0, mL 0, mI 0, mI 0, mU]))[k + 4]? = some (mA (List.replicate 7 0)) := gs_ne a4_11 (by omega)
  have a5_12 : (x11.set k (mO 4 [mI 2, mI 8, mR (k + 1), mR (k + 2), mR (k + 3), mR (k + 4), mR (k + 5), mU, mU, mU, mU, mU, mU, mU, mL 0, mL 0, mI 0, mI 0, mU]))[k + 5]? = some (mA (List.replicate 7 0)) := gs_ne a5_11 (by omega)
  have o12 : ∀ j : Nat, j < k → (x11.set k (mO 4 [mI 2, mI 8, mR (k + 1), mR (k + 2), mR (k + 3), mR (k + 4), mR (k + 5), mU, mU, mU, mU, mU, mU, mU, mL 0, mL 0, mI 0, mI 0, mU]))[j]? = h[j]? := fun j hj => (fr_set (by omega)).trans (o11 j hj)
  clear c11 L11 o11 a1_11 a2_11 a3_11 a4_11 a5_11
  generalize x11.set k (mO 4 [mI 2, mI 8, mR (k + 1), mR (k + 2), mR (k + 3), mR (k + 4), mR (k + 5), mU, mU, mU, mU, mU, mU, mU, mL 0, mL 0, mI 0, mI 0, mU]) = x12 at *
  refine wp_al0 (q := 56) dX4_init_55 rfl (wp_bi (q := 58) dX4_init_56 rfl (by decide) (by decide) (wp_newi (q := 60) (mc' := 7) (ms' := 3294) dX4_init_58 rfl (by decide) (by decide) rfl rfl ?_))
  rw [L12]
  show Wp _ _ _ _ _ (x12 ++ [mA (List.replicate 7 0)]) _ _
  have L13 : (x12 ++ [mA (List.replicate 7 0)]).length = k + 7 := ga_len L12 rfl
  have c13 : (x12 ++ [mA (List.replicate 7 0)])[k]? = some (mO 4 [mI 2, mI 8, mR (k + 1), mR (k + 2), mR (k + 3), mR (k + 4), mR (k + 5), mU, mU, mU, mU, mU, mU, mU, mL 0, mL 0, mI 0, mI 0, mU]) := ga_lt c12
  have a1_13 : (x12 ++ [mA (List.replicate 7 0)])[k + 1]? = some (mA (List.replicate 64 0)) := ga_lt a1_12
  have a2_13 : (x12 ++ [mA (List.replicate 7 0)])[k + 2]? = some (mA (List.replicate 64 0)) := ga_lt a2_12
  have a3_13 : (x12 ++ [mA (List.replicate 7 0)])[k + 3]? = some (mA (List.replicate 8 0)) := ga_lt a3_12
  have a4_13 : (x12 ++ [mA (List.replicate 7 0)])[k + 4]? = some (mA (List.replicate 7 0)) := ga_lt a4_12
  have a5_13 : (x12 ++ [mA (List.replicate 7 0)])[k + 5]? = some (mA (List.replicate 7 0)) := ga_lt a5_12
  have o13 : ∀ j : Nat, j < k → (x12 ++ [mA (List.replicate 7 0)])[j]? = h[j]? := fun j hj => (fr_app L12 (by omega)).trans (o12 j hj)
  have a6_13 : (x12 ++ [mA (List.replicate 7 0)])[k + 6]? = some (mA (List.replicate 7 0)) := ga_eq L12
  clear c12 L12 o12 a1_12 a2_12 a3_12 a4_12 a5_12
  generalize x12 ++ [mA (List.replicate 7 0)] = x13 at *
  refine wp_putf (q := 63) dX4_init_60 rfl f29 hk c13 (Nat.le_of_ble_eq_true rfl) trivial (fun _ => ⟨rfl, rfl⟩) ?_
  show Wp _ _ _ _ _ (x13.set k (mO 4 [mI 2, mI 8, mR (k + 1), mR (k + 2), mR (k + 3), mR (k + 4), mR (k + 5), mR (k + 6), mU, mU, mU, mU, mU, mU, mL 0, mL 0, mI 0, mI 0, mU])) _ _
  have L14 : (x13.set k (mO 4 [mI 2, mI 8, mR (k + 1), mR (k + 2), mR (k + 3), mR (k + 4), mR (k + 5), mR (k + 6), mU, mU, mU, mU, mU, mU, mL 0, mL 0, mI 0, mI 0, mU])).length = k + 7 := (List.length_set ..).trans L13
  have c14 : (x13.set k (mO 4 [mI 2, mI 8, mR (k + 1), mR (k + 2), mR (k + 3), mR (k + 4), mR (k + 5), mR (k + 6), mU, mU, mU, mU, mU, mU, mL 0, mL 0, mI 0, mI 0, mU]))[k]? = some (mO 4 [mI 2, mI 8, mR (k + 1), mR (k + 2), mR (k + 3), mR (k + 4), mR (k + 5), mR (k + 6), mU, mU, mU, mU, mU, mU, mL 0, mL 0, mI 0, mI 0, mU]) := gs_eq c13
  have a1_14 : (x13.set k (mO 4 [mI 2, mI 8, mR (k + 1), mR (k + 2), mR (k + 3), mR (k + 4), mR (k + 5), mR (k + 6), mU, mU, mU, mU, mU, mU, mL 0, mL 0, mI 0, mI 0, mU]))[k + 1]? = some (mA (List.replicate 64 0)) := gs_ne a1_13 (by omega)
  have a2_14 : (x13.set k (mO 4 [mI 2, mI 8, mR (k + 1), mR (k + 2), mR (k + 3), mR (k + 4), mR (k + 5), mR (k + 6), mU, mU, mU, mU, mU, mU, mL 0, mL 0, mI 0, mI 0, mU]))[k + 2]? = some (mA (List.replicate 64 0)) := gs_ne a2_13 (by omega)
  have a3_14 : (x13.set k (mO 4 [mI 2, mI 8, mR (k + 1), mR (k + 2), mR (k + 3), mR (k + 4), mR (k + 5), mR (k + 6), mU, mU, mU, mU, mU, mU, mL 0, mL 0, mI 0, mI 0, mU]))[k + 3]? = some (mA (List.replicate 8 0)) := gs_ne a3_13 (by omega)
  have a4_14 : (x13.set k (mO 4 [mI 2, mI 8, mR (k + 1), mR (k + 2), mR (k + 3), mR (k + 4), mR (k + 5), mR (k + 6), mU, mU, mU, mU, mU, mU, mL 0, mL 0, mI 0, mI 0, mU]))[k + 4]? = some (mA (List.replicate 7 0)) := gs_ne a4_13 (by omega)
  have a5_14 : (x13.set k (mO 4 [mI 2, mI 8, mR (k + 1), mR (k + 2), mR (k + 3), mR (k + 4), mR (k + 5), mR (k + 6), mU, mU, mU, mU, mU, mU, mL 0, mL 0, mI 0, mI 0, mU]))[k + 5]? = some (mA (List.replicate 7 0)) := gs_ne a5_13 (by omega)
  have a6_14 : (x13.set k (mO 4 [mI 2, mI 8, mR (k + 1), mR (k + 2), mR (k + 3), mR (k + 4), mR (k + 5), mR (k + 6), mU, mU, mU, mU, mU, mU, mL 0, mL 0, mI 0, mI 0, mU]))[k + 6]? = some (mA (List.replicate 7 0)) := gs_ne a6_13 (by omega)
  have o14 : ∀ j : Nat, j < k → (x13.set k (mO 4 [mI 2, mI 8, mR (k + 1), mR (k + 2), mR (k + 3), mR (k + 4), mR (k + 5), mR (k + 6), mU, mU, mU, mU, mU, mU, mL 0, mL 0, mI 0, mI 0, mU]))[j]? = h[j]? := fun j hj => (fr_set (by omega)).trans (o13 j hj)
  clear c13 L13 o13 a1_13 a2_13 a3_13 a4_13 a5_13 a6_13
  generalize x13.set k (mO 4 [mI 2, mI 8, mR (k + 1), mR (k + 2), mR (k + 3), mR (k + 4), mR (k + 5), mR (k + 6), mU, mU, mU, mU, mU, mU, mL 0, mL 0, mI 0, mI 0, mU]) = x14 at *
  refine wp_al0 (q := 64) dX4_init_63 rfl (wp_bi (q := 66) dX4_init_64 rfl (by decide) (by decide) (wp_newi (q := 68) (mc' := 6) (ms' := 3287) dX4_init_66 rfl (by decide) (by decide) rfl rfl ?_))
  rw [L14]
  show Wp _ _ _ _ _ (x14 ++ [mA (List.replicate 7 0)]) _ _
  have L15 : (x14 ++ [mA (List.replicate 7 0)]).length = k + 8 := ga_len L14 rfl
  have c15 : (x14 ++ [mA (List.replicate 7 0)])[k]? = some (mO 4 [mI 2, mI 8, mR (k + 1), mR (k + 2), mR (k + 3), mR (k + 4), mR (k + 5), mR (k + 6), mU, mU, mU, mU, mU, mU, mL 0, mL 0, mI 0, mI 0, mU]) := ga_lt c14
  have a1_15 : (x14 ++ [mA (List.replicate 7 0)])[k + 1]? = some (mA (List.replicate 64 0)) := ga_lt a1_14
  have a2_15 : (x14 ++ [mA (List.replicate 7 0)])[k + 2]? = some (mA (List.replicate 64 0)) := ga_lt a2_14
  have a3_15 : (x14 ++ [mA (List.replicate 7 0)])[k + 3]? = some (mA (List.replicate 8 0)) := ga_lt a3_14
  have a4_15 : (x14 ++ [mA (List.replicate 7 0)])[k + 4]? = some (mA (List.replicate 7 0)) := ga_lt a4_14
  have a5_15 : (x14 ++ [mA (List.replicate 7 0)])[k + 5]? = some (mA (List.replicate 7 0)) := ga_lt a5_14
  have a6_15 : (x14 ++ [mA (List.replicate 7 0)])[k + 6]? = some (mA (List.replicate 7 0)) := ga_lt a6_14
  have o15 : ∀ j : Nat, j < k → (x14 ++ [mA (List.replicate 7 0)])[j]? = h[j]? := fun j hj => (fr_app L14 (by omega)).trans (o14 j hj)
  have a7_15 : (x14 ++ [mA (List.replicate 7 0)])[k + 7]? = some (mA (List.replicate 7 0)) := ga_eq L14
  clear c14 L14 o14 a1_14 a2_14 a3_14 a4_14 a5_14 a6_14
  generalize x14 ++ [mA (List.replicate 7 0)] = x15 at *
  refine wp_putf (q := 71) dX4_init_68 rfl f30 hk c15 (Nat.le_of_ble_eq_true rfl) trivial (fun _ => ⟨rfl, rfl⟩) ?_
  show Wp _ _ _ _ _ (x15.set k (mO 4 [mI 2, mI 8, mR (k + 1), mR (k + 2), mR (k + 3), mR (k + 4), mR (k + 5), mR (k + 6), mR (k + 7), mU, mU, mU, mU, mU, mL 0, mL 0, mI 0, mI 0, mU])) _ _
  have L16 : (x15.set k (mO 4 [mI 2, mI 8, mR (k + 1), mR (k + 2), mR (k + 3), mR (k + 4), mR (k + 5), mR (k + 6), mR (k + 7), mU, mU, mU, mU, mU, mL 0, mL 0, mI 0, mI 0, mU])).length = k + 8 := (List.length_set ..).trans L15
  have c16 : (x15.set k (mO 4 [mI 2, mI 8, mR (k + 1), mR (k + 2), mR (k + 3), mR (k + 4), mR (k + 5), mR (k + 6), mR (k + 7), mU, mU, mU, mU, mU, mL 0, mL 0, mI 0, mI 0, mU]))[k]? = some (mO 4 [mI 2, mI 8, mR (k + 1), mR (k + 2), mR (k + 3), mR (k + 4), mR (k + 5), mR (k + 6), mR (k + 7), mU, mU, mU, mU, mU, mL 0, mL 0, mI 0, mI 0, mU]) := gs_eq c15
  have a1_16 : (x15.set k (mO 4 [mI 2, mI 8, mR (k + 1), mR (k + 2), mR (k + 3), mR (k + 4), mR (k + 5), mR (k + 6), mR (k + 7), mU, mU, mU, mU, mU, mL 0, mL 0, mI 0, mI 0, mU]))[k + 1]? = some (mA (List.replicate 64 0)) := gs_ne a1_15 (by omega)
  have a2_16 : (x15.set k (mO 4 [mI 2, mI 8, mR (k + 1), mR (k + 2), mR (k + 3), mR (k + 4), mR (k + 5), mR (k + 6), mR (k + 7), mU, mU, mU, mU, mU, mL 0, mL 0, mI 0, mI 0, mU]))[k + 2]? = some (mA (List.replicate 64 0)) := gs_ne a2_15 (by omega)
  have a3_16 : (x15.set k (mO 4 [mI 2, mI 8, mR (k + 1), mR (k + 2), mR (k + 3), mR (k + 4), mR (k + 5), mR (k + 6), mR (k + 7), mU, mU, mU, mU, mU, mL 0, mL 0, mI 0, mI 0, mU]))[k + 3]? = some (mA (List.replicate 8 0)) := gs_ne a3_15 (by omega)
  have a4_16 : (x15.set k (mO 4 [mI 2, mI 8, mR (k + 1), mR (k + 2), mR (k + 3), mR (k + 4), mR (k + 5), mR (k + 6), mR (k + 7), mU, mU, mU, mU, mU, mL 0, mL 0, mI 0, mI 0, mU]))[k + 4]? = some (mA (List.replicate 7 0)) := gs_ne a4_15 (by omega)
  have a5_16 : (x15.set k (mO 4 [mI 2, mI 8, mR (k + 1), mR (k + 2), mR (k + 3), mR (k + 4), mR (k + 5), mR (k + 6), mR (k + 7), mU, mU, mU, mU, mU, mL 0, mL 0, mI 0, mI 0, mU]))[k + 5]? = some (mA (List.replicate 7 0)) := gs_ne a5_15 (by omega)
  have a6_16 : (x15.set k (mO 4 [mI 2, mI 8, mR (k + 1), mR (k + 2), mR (k + 3), mR (k + 4), mR (k + 5), mR (k + 6), mR (k + 7), mU, mU, mU, mU, mU, mL 0, mL 0, mI 0, mI 0, mU]))[k + 6]? = some (mA (List.replicate 7 0)) := gs_ne a6_15 (by omega)
  have a7_16 : (x15.set k (mO 4 [mI 2, mI 8, mR (k + 1), mR (k + 2), mR (k + 3), mR (k + 4), mR (k + 5), mR (k + 6), mR (k + 7), mU, mU, mU, mU, mU, mL 0, mL 0, mI 0, mI 0, mU]))[k + 7]? = some (mA (List.replicate 7 0)) := gs_ne a7_15 (by omega)
  have o16 : ∀ j : Nat, j < k → (x15.set k (mO 4 [mI 2, mI 8, mR (k + 1), mR (k + 2), mR (k + 3), mR (k + 4), mR (k + 5), mR (k + 6), mR (k + 7), mU, mU, mU, mU, mU, mL 0, mL 0, mI 0, mI 0, mU]))[j]? = h[j]? := fun j hj => (fr_set (by omega)).trans (o15 j hj)
  clear c15 L15 o15 a1_15 a2_15 a3_15 a4_15 a5_15 a6_15 a7_15
  generalize x15.set k (mO 4 [mI 2, mI 8, mR (k + 1), mR (k + 2), mR (k + 3), mR (k + 4), mR (k + 5), mR (k + 6), mR (k + 7), mU, mU, mU, mU, mU, mL 0, mL 0, mI 0, mI 0, mU]) = x16 at *
  refine wp_al0 (q := 72) dX4_init_71 rfl (wp_bi (q := 74) dX4_init_72 rfl (by decide) (by decide) (wp_newi (q := 76) (mc' := 5) (ms' := 3279) dX4_init_74 rfl (by decide) (by decide) rfl rfl ?_))
  rw [L16]
  show Wp _ _ _ _ _ (x16 ++ [mA (List.replicate 8 0)]) _ _
  have L17 : (x16 ++ [mA (List.replicate 8 0)]).length = k + 9 := ga_len L16 rfl
  have c17 : (x16 ++ [mA (List.replicate 8 0)])[k]? = some (mO 4 [mI 2, mI 8, mR (k + 1), mR (k + 2), mR (k + 3), mR (k + 4), mR (k + 5), mR (k + 6), mR (k + 7), mU, mU, mU, mU, mU, mL 0, mL 0, mI 0, mI 0, mU]) := ga_lt c16
  have a1_17 : (x16 ++ [mA (List.replicate 8 0)])[k + 1]? = some (mA (List.replicate 64 0)) := ga_lt a1_16
  have a2_17 : (x16 ++ [mA (List.replicate 8 0)])[k + 2]? = some (mA (List.replicate 64 0)) := ga_lt a2_16
  have a3_17 : (x16 ++ [mA (List.replicate 8 0)])[k + 3]? = some (mA (List.replicate 8 0)) := ga_lt a3_16
  have a4_17 : (x16 ++ [mA (List.replicate 8 0)])[k + 4]? = some (mA (List.replicate 7 0)) := ga_lt a4_16
  have a5_17 : (x16 ++ [mA (List.replicate 8 0)])[k + 5]? = some (mA (List.replicate 7 0)) := ga_lt a5_16
  have a6_17 : (x16 ++ [mA (List.replicate 8 0)])[k + 6]? = some (mA (List.replicate 7 0)) := ga_lt a6_16
  have a7_17 : (x16 ++ [mA (List.replicate 8 0)])[k + 7]? = some (mA (List.replicate 7 0)) := ga_lt a7_16
  have o17 : ∀ j : Nat, j < k → (x16 ++ [mA (List.replicate 8 0)])[j]? = h[j]? := fun j hj => (fr_app L16 (by omega)).trans (o16 j hj)
  have a8_17 : (x16 ++ [mA (List.replicate 8 0)])[k + 8]? = some (mA (List.replicate 8 0)) := ga_eq L16
  clear c16 L16 o16 a1_16 a2_16 a3_16 a4_16 a5_16 a6_16 a7_16
  generalize x16 ++ [mA (List.replicate 8 0)] = x17 at *
  refine wp_putf (q := 79) dX4_init_76 rfl f31 hk c17 (Nat.le_of_ble_eq_true rfl) trivial (fun _ => ⟨rfl, rfl⟩) ?_
  show Wp _ _ _ _ _ (x17.set k (mO 4 [mI 2, mI 8, mR (k + 1), mR (k + 2), mR (k + 3), mR (k + 4), mR (k + 5), mR (k + 6), mR (k + 7), mR (k + 8), mU, mU, mU, mU, mL 0, mL 0, mI 0, mI 0, mU])) _ _
  have L18 : (x17.set k (mO 4 [mI 2, mI 8, mR (k + 1), mR (k + 2), mR (k + 3), mR (k + 4), mR (k + 5), mR (k + 6), mR (k + 7), mR (k + 8), mU, mU, mU, mU, mL 0, mL 0, mI 0, mI 0, mU])).length = k + 9 := (List.length_set ..).trans L17
  have c18 : (x17.set k (mO 4 [mI 2, mI 8, mR (k + 1), mR (k + 2), mR (k + 3), mR (k + 4), mR (k + 5), mR (k + 6), mR (k + 7), mR (k + 8), mU, mU, mU, mU, mL 0, mL 0, mI 0, mI 0, mU]))[k]? = some (mO 4 [mI 2, mI 8, mR (k + 1), mR (k + 2), mR (k + 3), mR (k + 4), mR (k + 5), mR (k + 6), mR (k + 7), mR (k + 8), mU, mU, mU, mU, mL 0, mL 0, mI 0, mI 0, mU]) := gs_eq c17
  have a1_18 : (x17.set k (mO 4 [mI 2, mI 8, mR (k + 1), mR (k + 2), mR (k + 3), mR (k + 4), mR (k + 5), mR (k + 6), mR (k + 7), mR (k + 8), mU, mU, mU, mU, mL 0, mL 0, mI 0, mI 0, mU]))[k + 1]? = some (mA (List.replicate 64 0)) := gs_ne a1_17 (by omega)
  have a2_18 : (x17.set k (mO 4 [mI 2, mI 8, mR (k + 1), mR (k + 2), mR (k + 3), mR (k + 4), mR (k + 5), mR (k + 6), mR (k + 7), mR (k + 8), mU, mU, mU, mU, mL 0, mL 0, mI 0, mI 0, mU]))[k + 2]? = some (mA (List.replicate 64 0)) := gs_ne a2_17 (by omega)
  have a3_18 : (x17.set k (mO 4 [mI 2, mI 8, mR (k + 1), mR (k + 2), mR (k + 3), mR (k + 4), mR (k + 5), mR (k + 6), mR (k + 7), mR (k + 8), mU, mU, mU, mU, mL 0, mL 0, mI 0, mI 0, mU]))[k + 3]? = some (mA (List.replicate 8 0)) := gs_ne a3_17 (by omega)
  have a4_18 : (x17.set k (mO 4 [mI 2, mI 8, mR (k + 1), mR (k + 2), mR (k + 3), mR (k + 4), mR (k + 5), mR (k + 6), mR (k + 7), mR (k + 8), mU, mU, mU, mU, mL 0, mL 0, mI 0, mI 0, mU]))[k + 4]? = some (mA (List.replicate 7 0)) := gs_ne a4_17 (by omega)
  have a5_18 : (x17.set k (mO 4 [mI 2, mI 8, mR (k + 1), mR (k + 2), mR (k + 3), mR (k + 4), mR (k + 5), mR (k + 6), mR (k + 7), mR (k + 8), mU, mU, mU, mU, mL 0, mL 0, mI 0, mI 0, mU]))[k + 5]? = some (mA (List.replicate 7 0)) := gs_ne a5_17 (by omega)
  have a6_18 : (x17.set k (mO 4 [mI 2, mI 8, mR (k + 1), mR (k + 2), mR (k + 3), mR (k + 4), mR (k + 5), mR (k + 6), mR (k + 7), mR (k + 8), mU, mU, mU, mU, mL 0, mL 0, mI 0, mI 0, mU]))[k + 6]? = some (mA (List.replicate 7 0)) := gs_ne a6_17 (by omega)
  have a7_18 : (x17.set k (mO 4 [mI 2, mI 8, mR (k + 1), mR (k + 2), mR (k + 3), mR (k + 4), mR (k + 5), mR (k + 6), mR (k + 7), mR (k + 8), mU, mU, mU, mU, mL 0, mL 0, mI 0, mI 0, mU]))[k + 7]? = some (mA (List.replicate 7 0)) := gs_ne a7_17 (by omega)
  have a8_18 : (x17.set k (mO 4 [mI 2, mI 8, mR (k + 1), mR (k + 2), mR (k + 3), mR (k + 4), mR (k + 5), mR (k + 6), mR (k + 7), mR (k + 8), mU, mU, mU, mU, mL 0, mL 0, mI 0, mI 0, mU]))[k + 8]? = some (mA (List.replicate 8 0)) := gs_ne a8_17 (by omega)
  have o18 : ∀ j : Nat, j < k → (x17.set k (mO 4 [mI 2, mI 8, mR (k + 1), mR (k + 2), mR (k + 3), mR (k + 4), mR (k + 5), mR (k + 6), mR (k + 7), mR (k + 8), mU, mU, mU, mU, mL 0, mL 0, mI 0, mI 0, mU]))[j]? = h[j]? := fun j hj => (fr_set (by omega)).trans (o17 j hj)
  clear c17 L17 o17 a1_17 a2_17 a3_17 a4_17 a5_17 a6_17 a7_17 a8_17
  generalize x17.set k (mO 4 [mI 2, mI 8, mR (k + 1), mR (k + 2), mR (k + 3), mR (k + 4), mR (k + 5), mR (k + 6), mR (k + 7), mR (k + 8), mU, mU, mU, mU, mL 0, mL 0, mI 0, mI 0, mU]) = x18 at *
  refine wp_al0 (q := 80) dX4_init_79 rfl (wp_bi (q := 82) dX4_init_80 rfl (by decide) (by decide) (wp_newl (q := 84) (mc' := 4) (ms' := 3223) dX4_init_82 rfl (by decide) (by decide) rfl rfl ?_))
  rw [L18]
  show Wp _ _ _ _ _ (x18 ++ [mJ (List.replicate 56 0)]) _ _
  have L19 : (x18 ++ [mJ (List.replicate 56 0)]).length = k + 10 := ga_len L18 rfl
  have c19 : (x18 ++ [mJ (List.replicate 56 0)])[k]? = some (mO 4 [mI 2, mI 8, mR (k + 1), mR (k + 2), mR (k + 3), mR (k + 4), mR (k + 5), mR (k + 6), mR (k + 7), mR (k + 8), mU, mU, mU, mU, mL 0, mL 0, mI 0, mI 0, mU]) := ga_lt c18
  have a1_19 : (x18 ++ [mJ (List.replicate 56 0)])[k + 1]? = some (mA (List.replicate 64 0)) := ga_lt a1_18
  have a2_19 : (x18 ++ [mJ (List.replicate 56 0)])[k + 2]? = some (mA (List.replicate 64 0)) := ga_lt a2_18
  have a3_19 : (x18 ++ [mJ (List.replicate 56 0)])[k + 3]? = some (mA (List.replicate 8 0)) := ga_lt a3_18
  have a4_19 : (x18 ++ [mJ (List.replicate 56 0)])[k + 4]? = some (mA (List.replicate 7 0)) := ga_lt a4_18
  have a5_19 : (x18 ++ [mJ (List.replicate 56 0)])[k + 5]? = some (mA (List.replicate 7 0)) := ga_lt a5_18
  have a6_19 : (x18 ++ [mJ (List.replicate 56 0)])[k + 6]? = some (mA (List.replicate 7 0)) := ga_lt a6_18
  have a7_19 : (x18 ++ [mJ (List.replicate 56 0)])[k + 7]? = some (mA (List.replicate 7 0)) := ga_lt a7_18
  have a8_19 : (x18 ++ [mJ (List.replicate 56 0)])[k + 8]? = some (mA (List.replicate 8 0)) := ga_lt a8_18
  have o19 : ∀ j : Nat, j < k → (x18 ++ [mJ (List.replicate 56 0)])[j]? = h[j]? := fun j hj => (fr_app L18 (by omega)).trans (o18 j hj)
  have a9_19 : (x18 ++ [mJ (List.replicate 56 0)])[k + 9]? = some (mJ (List.replicate 56 0)) := ga_eq L18
  clear c18 L18 o18 a1_18 a2_18 a3_18 a4_18 a5_18 a6_18 a7_18 a8_18
  generalize x18 ++ [mJ (List.replicate 56 0)] = x19 at *
  refine wp_putf (q := 87) dX4_init_84 rfl f32 hk c19 (Nat.le_of_ble_eq_true rfl) trivial (fun _ => ⟨rfl, rfl⟩) ?_
  show Wp _ _ _ _ _ (x19.set k (mO 4 [mI 2, mI 8, mR (k + 1), mR (k + 2), mR (k + 3), mR (k + 4), mR (k + 5), mR (k + 6), mR (k + 7), mR (k + 8), mR (k + 9), mU, mU, mU, mL 0, mL 0, mI 0, mI 0, mU])) _ _
  have L20 : (x19.set k (mO 4 [mI 2, mI 8, mR (k + 1), mR (k + 2), mR (k + 3), mR (k + 4), mR (k + 5), mR (k + 6), mR (k + 7), mR (k + 8), mR (k + 9), mU, mU, mU, mL 0, mL 0, mI 0, mI 0, mU])).length = k + 10 := (List.length_set ..).trans L19
  have c20 : (x19.set k (mO 4 [mI 2, mI 8, mR (k + 1), mR (k + 2), mR (k + 3), mR (k + 4), mR (k + 5), mR (k + 6), mR (k + 7), mR (k + 8), mR (k + 9), mU, mU, mU, mL 0, mL 0, mI 0, mI 0, mU]))[k]? = some (mO 4 [mI 2, mI 8, mR (k + 1), mR (k + 2), mR (k + 3), mR (k + 4), mR (k + 5), mR (k + 6), mR (k + 7), mR (k + 8), mR (k + 9), mU, mU, mU, mL 0, mL 0, mI 0, mI 0, mU]) := gs_eq c19
  have a1_20 : (x19.set k (mO 4 [mI 2, mI 8, mR (k + 1), mR (k + 2), mR (k + 3), mR (k + 4), mR (k + 5), mR (k + 6), mR (k + 7), mR (k + 8), mR (k + 9), mU, mU, mU, mL 0, mL 0, mI 0, mI 0, mU]))[k + 1]? = some (mA (List.replicate 64 0)) := gs_ne a1_19 (by omega)
  have a2_20 : (x19.set k (mO 4 [mI 2, mI 8, mR (k + 1), mR (k + 2), mR (k + 3), mR (k + 4), mR (k + 5), mR (k + 6), mR (k + 7), mR (k + 8), mR (k + 9), mU, mU, mU, mL 0, mL 0, mI 0, mI 0, mU]))[k + 2]? = some (mA (List.replicate 64 0)) := gs_ne a2_19 (by omega)
  have a3_20 : (x19.set k (mO 4 [mI 2, mI 8, mR (k + 1), mR (k + 2), mR (k + 3), mR (k + 4), mR (k + 5), mR (k + 6), mR (k + 7), mR (k + 8), mR (k + 9), mU, mU, mU, mL 0, mL 0, mI 0, mI 0, mU]))[k + 3]? = some (mA (List.replicate 8 0)) := gs_ne a3_19 (by omega)
  have a4_20 : (x19.set k (mO 4 [mI 2, mI 8, mR (k + 1), mR (k + 2), mR (k + 3), mR (k + 4), mR (k + 5), mR (k + 6), mR (k + 7), mR (k + 8), mR (k + 9), mU, mU, mU, mL 0, mL 0, mI 0, mI 0, mU]))[k + 4]? = some (mA (List.replicate 7 0)) := gs_ne a4_19 (by omega)
  have a5_20 : (x19.set k (mO 4 [mI 2, mI 8, mR (k + 1), mR (k + 2), mR (k + 3), mR (k + 4), mR (k + 5), mR (k + 6), mR (k + 7), mR (k + 8), mR (k + 9), mU, mU, mU, mL 0, mL 0, mI 0, mI 0, mU]))[k + 5]? = some (mA (List.replicate 7 0)) := gs_ne a5_19 (by omega)
  have a6_20 : (x19.set k (mO 4 [mI 2, mI 8, mR (k + 1), mR (k + 2), mR (k + 3), mR (k + 4), mR (k + 5), mR (k + 6), mR (k + 7), mR (k + 8), mR (k + 9), mU, mU, mU, mL 0, mL 0, mI 0, mI 0, mU]))[k + 6]? = some (mA (List.replicate 7 0)) := gs_ne a6_19 (by omega)
  have a7_20 : (x19.set k (mO 4 [mI 2, mI 8, mR (k + 1), mR (k + 2), mR (k + 3), mR (k + 4), mR (k + 5), mR (k + 6), mR (k + 7), mR (k + 8), mR (k + 9), mU, mU, mU, mL 0, mL 0, mI 0, mI 0, mU]))[k + 7]? = some (mA (List.replicate 7 0)) := gs_ne a7_19 (by omega)
  have a8_20 : (x19.set k (mO 4 [mI 2, mI 8, mR (k + 1), mR (k + 2), mR (k + 3), mR (k + 4), mR (k + 5), mR (k + 6), mR (k + 7), mR (k + 8), mR (k + 9), mU, mU, mU, mL 0, mL 0, mI 0, mI 0, mU]))[k + 8]? = some (mA (List.replicate 8 0)) := gs_ne a8_19 (by omega)
  have a9_20 : (x19.set k (mO 4 [mI 2, mI 8, mR (k + 1), mR (k + 2), mR (k + 3), mR (k + 4), mR (k + 5), mR (k + 6), mR (k + 7), mR (k + 8), mR (k + 9), mU, mU, mU, mL 0, mL 0, mI 0, mI 0, mU]))[k + 9]? = some (mJ (List.replicate 56 0)) := gs_ne a9_19 (by omega)
  have o20 : ∀ j : Nat, j < k → (x19.set k (mO 4 [mI 2, mI 8, mR (k + 1), mR (k + 2), mR (k + 3), mR (k + 4), mR (k + 5), mR (k + 6), mR (k + 7), mR (k + 8), mR (k + 9), mU, mU, mU, mL 0, mL 0, mI 0, mI 0, mU]))[j]? = h[j]? := fun j hj => (fr_set (by omega)).trans (o19 j hj)
  clear c19 L19 o19 a1_19 a2_19 a3_19 a4_19 a5_19 a6_19 a7_19 a8_19 a9_19
  generalize x19.set k (mO 4 [mI 2, mI 8, mR (k + 1), mR (k + 2), mR (k + 3), mR (k + 4), mR (k + 5), mR (k + 6), mR (k + 7), mR (k + 8), mR (k + 9), mU, mU, mU, mL 0, mL 0, mI 0, mI 0, mU]) = x20 at *
  refine wp_al0 (q := 88) dX4_init_87 rfl (wp_bi (q := 90) dX4_init_88 rfl (by decide) (by decide) (wp_newl (q := 92) (mc' := 3) (ms' := 3216) dX4_init_90 rfl (by decide) (by decide) rfl rfl ?_))
  rw [L20]
  show Wp _ _ _ _ _ (x20 ++ [mJ (List.replicate 7 0)]) _ _
  have L21 : (x20 ++ [mJ (List.replicate 7 0)]).length = k + 11 := ga_len L20 rfl
  have c21 : (x20 ++ [mJ (List.replicate 7 0)])[k]? = some (mO 4 [mI 2, mI 8, mR (k + 1), mR (k + 2), mR (k + 3), mR (k + 4), mR (k + 5), mR (k + 6), mR (k + 7), mR (k + 8), mR (k + 9), mU, mU, mU, mL 0, mL 0, mI 0, mI 0, mU]) := ga_lt c20
  have a1_21 : (x20 ++ [mJ (List.replicate 7 0)])[k + 1]? = some (mA (List.replicate 64 0)) := ga_lt a1_20
  have a2_21 : (x20 ++ [mJ (List.replicate 7 0)])[k + 2]? = some (mA (List.replicate 64 0)) := ga_lt a2_20
  have a3_21 : (x20 ++ [mJ (List.replicate 7 0)])[k + 3]? = some (mA (List.replicate 8 0)) := ga_lt a3_20
  have a4_21 : (x20 ++ [mJ (List.replicate 7 0)])[k + 4]? = some (mA (List.replicate 7 0)) := ga_lt a4_20
  have a5_21 : (x20 ++ [mJ (List.replicate 7 0)])[k + 5]? = some (mA (List.replicate 7 0)) := ga_lt a5_20
  have a6_21 : (x20 ++ [mJ (List.replicate 7 0)])[k + 6]? = some (mA (List.replicate 7 0)) := ga_lt a6_20
  have a7_21 : (x20 ++ [mJ (List.replicate 7 0)])[k + 7]? = some (mA (List.replicate 7 0)) := ga_lt a7_20
  have a8_21 : (x20 ++ [mJ (List.replicate 7 0)])[k + 8]? = some (mA (List.replicate 8 0)) := ga_lt a8_20
  have a9_21 : (x20 ++ [mJ (List.replicate 7 0)])[k + 9]? = some (mJ (List.replicate 56 0)) := ga_lt a9_20
  have o21 : ∀ j : Nat, j < k → (x20 ++ [mJ (List.replicate 7 0)])[j]? = h[j]? := fun j hj => (fr_app L20 (by omega)).trans (o20 j hj)
  have a10_21 : (x20 ++ [mJ (List.replicate 7 0)])[k + 10]? = some (mJ (List.replicate 7 0)) := ga_eq L20
  clear c20 L20 o20 a1_20 a2_20 a3_20 a4_20 a5_20 a6_20 a7_20 a8_20 a9_20
  generalize x20 ++ [mJ (List.replicate 7 0)] = x21 at *
  refine wp_putf (q := 95) dX4_init_92 rfl f33 hk c21 (Nat.le_of_ble_eq_true rfl) trivial (fun _ => ⟨rfl, rfl⟩) ?_
  show Wp _ _ _ _ _ (x21.set k (mO 4 [mI 2, mI 8, mR (k + 1), mR (k + 2), mR (k + 3), mR (k + 4), mR (k + 5), mR (k + 6), mR (k + 7), mR (k + 8), mR (k + 9), mR (k + 10), mU, mU, mL 0, mL 0, mI 0, mI 0, mU])) _ _
  have L22 : (x21.set k (mO 4 [mI 2, mI 8, mR (k + 1), mR (k + 2), mR (k + 3), mR (k + 4), mR (k + 5), mR (k + 6), mR (k + 7), mR (k + 8), mR (k + 9), mR (k + 10), mU, mU, mL 0, mL 0, mI 0, mI 0, mU])).length = k + 11 := (List.length_set ..).trans L21
  have c22 : (x21.set k (mO 4 [mI 2, mI 8, mR (k + 1), mR (k + 2), mR (k + 3), mR (k + 4), mR (k + 5), mR (k + 6), mR (k + 7), mR (k + 8), mR (k + 9), mR (k + 10), mU, mU, mL 0, mL 0, mI 0, mI 0, mU]))[k]? = some (mO 4 [mI 2, mI 8, mR (k + 1), mR (k + 2), mR (k + 3), mR (k + 4), mR (k + 5), mR (k + 6), mR (k + 7), mR (k + 8), mR (k + 9), mR (k + 10), mU, mU, mL 0, mL 0, mI 0, mI 0, mU]) := gs_eq c21
  have a1_22 : (x21.set k (mO 4 [mI 2, mI 8, mR (k + 1), mR (k + 2), mR (k + 3), mR (k + 4), mR (k + 5), mR (k + 6), mR (k + 7), mR (k + 8), mR (k + 9), mR (k + 10), mU, mU, mL 0, mL 0, mI 0, mI 0, mU]))[k + 1]? = some (mA (List.replicate 64 0)) := gs_ne a1_21 (by omega)
  have a2_22 : (x21.set k (mO 4 [mI 2, mI 8, mR (k + 1), mR (k + 2), mR (k + 3), mR (k + 4), mR (k + 5), mR (k + 6), mR (k + 7), mR (k + 8), mR (k + 9), mR (k + 10), mU, mU, mL 0, mL 0, mI 0, mI 0, mU]))[k + 2]? = some (mA (List.replicate 64 0)) := gs_ne a2_21 (by omega)
  have a3_22 : (x21.set k (mO 4 [mI 2, mI 8, mR (k + 1), mR (k + 2), mR (k + 3), mR (k + 4), mR (k + 5), mR (k + 6), mR (k + 7), mR (k + 8), mR (k + 9), mR (k + 10), mU, mU, mL 0, mL 0, mI 0, mI 0, mU]))[k + 3]? = some (mA (List.replicate 8 0)) := gs_ne a3_21 (by omega)
  have a4_22 : (x21.set k (mO 4 [mI 2, mI 8, mR (k + 1), mR (k + 2), mR (k + 3), mR (k + 4), mR (k + 5), mR (k + 6), mR (k + 7), mR (k + 8), mR (k + 9), mR (k + 10), mU, mU, mL 0, mL 0, mI 0, mI 0, mU]))[k + 4]? = some (mA (List.replicate 7 0)) := gs_ne a4_21 (by omega)
  have a5_22 : (x21.set k (mO 4 [mI 2, mI 8, mR (k + 1), mR (k + 2), mR (k + 3), mR (k + 4), mR (k + 5), mR (k + 6), mR (k + 7), mR (k + 8), mR (k + 9), mR (k + 10), mU, mU, mL 0, mL 0, mI 0, mI 0, mU]))[k + 5]? = some (mA (List.replicate 7 0)) := gs_ne a5_21 (by omega)
  have a6_22 : (x21.set k (mO 4 [mI 2, mI 8, mR (k + 1), mR (k + 2), mR (k + 3), mR (k + 4), mR (k + 5), mR (k + 6), mR (k + 7), mR (k + 8), mR (k + 9), mR (k + 10), mU, mU, mL 0, mL 0, mI 0, mI 0, mU]))[k + 6]? = some (mA (List.replicate 7 0)) := gs_ne a6_21 (by omega)
  have a7_22 : (x21.set k (mO 4 [mI 2, mI 8, mR (k + 1), mR (k + 2), mR (k + 3), mR (k + 4), mR (k + 5), mR (k + 6), mR (k + 7), mR (k + 8), mR (k + 9), mR (k + 10), mU, mU, mL 0, mL 0, mI 0, mI 0, mU]))[k + 7]? = some (mA (List.replicate 7 0)) := gs_ne a7_21 (by omega)
  have a8_22 : (x21.set k (mO 4 [mI 2, mI 8, mR (k + 1), mR (k + 2), mR (k + 3), mR (k + 4), mR (k + 5), mR (k + 6), mR (k + 7), mR (k + 8), mR (k + 9), mR (k + 10), mU, mU, mL 0, mL 0, mI 0, mI 0, mU]))[k + 8]? = some (mA (List.replicate 8 0)) := gs_ne a8_21 (by omega)
  have a9_22 : (x21.set k (mO 4 [mI 2, mI 8, mR (k + 1), mR (k + 2), mR (k + 3), mR (k + 4), mR (k + 5), mR (k + 6), mR (k + 7), mR (k + 8), mR (k + 9), mR (k + 10), mU, mU, mL 0, mL 0, mI 0, mI 0, mU]))[k + 9]? = some (mJ (List.replicate 56 0)) := gs_ne a9_21 (by omega)
  have a10_22 : (x21.set k (mO 4 [mI 2, mI 8, mR (k + 1), mR (k + 2), mR (k + 3), mR (k + 4), mR (k + 5), mR (k + 6), mR (k + 7), mR (k + 8), mR (k + 9), mR (k + 10), mU, mU, mL 0, mL 0, mI 0, mI 0, mU]))[k + 10]? = some (mJ (List.replicate 7 0)) := gs_ne a10_21 (by omega)
  have o22 : ∀ j : Nat, j < k → (x21.set k (mO 4 [mI 2, mI 8, mR (k + 1), mR (k + 2), mR (k + 3), mR (k + 4), mR (k + 5), mR (k + 6), mR (k + 7), mR (k + 8), mR (k + 9), mR (k + 10), mU, mU, mL 0, mL 0, mI 0, mI 0, mU]))[j]? = h[j]? := fun j hj => (fr_set (by omega)).trans (o21 j hj)
  clear c21 L21 o21 a1_21 a2_21 a3_21 a4_21 a5_21 a6_21 a7_21 a8_21 a9_21 a10_21
  generalize x21.set k (mO 4 [mI 2, mI 8, mR (k + 1), mR (k + 2), mR (k + 3), mR (k + 4), mR (k + 5), mR (k + 6), mR (k + 7), mR (k + 8), mR (k + 9), mR (k + 10), mU, mU, mL 0, mL 0, mI 0, mI 0, mU]) = x22 at *
  refine wp_al0 (q := 96) dX4_init_95 rfl (wp_bi (q := 98) dX4_init_96 rfl (by decide) (by decide) (wp_newl (q := 100) (mc' := 2) (ms' := 3208) dX4_init_98 rfl (by decide) (by decide) rfl rfl ?_))
  rw [L22]
  show Wp _ _ _ _ _ (x22 ++ [mJ (List.replicate 8 0)]) _ _
  have L23 : (x22 ++ [mJ (List.replicate 8 0)]).length = k + 12 := ga_len L22 rfl
  have c23 : (x22 ++ [mJ (List.replicate 8 0)])[k]? = some (mO 4 [mI 2, mI 8, mR (k + 1), mR (k + 2), mR (k + 3), mR (k + 4), mR (k + 5), mR (k + 6), mR (k + 7), mR (k + 8), mR (k + 9), mR (k + 10), mU, mU, mL 0, mL 0, mI 0, mI 0, mU]) := ga_lt c22
  have a1_23 : (x22 ++ [mJ (List.replicate 8 0)])[k + 1]? = some (mA (List.replicate 64 0)) := ga_lt a1_22
  have a2_23 : (x22 ++ [mJ (List.replicate 8 0)])[k + 2]? = some (mA (List.replicate 64 0)) := ga_lt a2_22
  have a3_23 : (x22 ++ [mJ (List.replicate 8 0)])[k + 3]? = some (mA (List.replicate 8 0)) := ga_lt a3_22
  have a4_23 : (x22 ++ [mJ (List.replicate 8 0)])[k + 4]? = some (mA (List.replicate 7 0)) := ga_lt a4_22
  have a5_23 : (x22 ++ [mJ (List.replicate 8 0)])[k + 5]? = some (mA (List.replicate 7 0)) := ga_lt a5_22
  have a6_23 : (x22 ++ [mJ (List.replicate 8 0)])[k + 6]? = some (mA (List.replicate 7 0)) := ga_lt a6_22
  have a7_23 : (x22 ++ [mJ (List.replicate 8 0)])[k + 7]? = some (mA (List.replicate 7 0)) := ga_lt a7_22
  have a8_23 : (x22 ++ [mJ (List.replicate 8 0)])[k + 8]? = some (mA (List.replicate 8 0)) := ga_lt a8_22
  have a9_23 : (x22 ++ [mJ (List.replicate 8 0)])[k + 9]? = some (mJ (List.replicate 56 0)) := ga_lt a9_22
  have a10_23 : (x22 ++ [mJ (List.replicate 8 0)])[k + 10]? = some (mJ (List.replicate 7 0)) := ga_lt a10_22
  have o23 : ∀ j : Nat, j < k → (x22 ++ [mJ (List.replicate 8 0)])[j]? = h[j]? := fun j hj => (fr_app L22 (by omega)).trans (o22 j hj)
  have a11_23 : (x22 ++ [mJ (List.replicate 8 0)])[k + 11]? = some (mJ (List.replicate 8 0)) := ga_eq L22
  clear c22 L22 o22 a1_22 a2_22 a3_22 a4_22 a5_22 a6_22 a7_22 a8_22 a9_22 a10_22
  generalize x22 ++ [mJ (List.replicate 8 0)] = x23 at *
  refine wp_putf (q := 103) dX4_init_100 rfl f34 hk c23 (Nat.le_of_ble_eq_true rfl) trivial (fun _ => ⟨rfl, rfl⟩) ?_
  show Wp _ _ _ _ _ (x23.set k (mO 4 [mI 2, mI 8, mR (k + 1), mR (k + 2), mR (k + 3), mR (k + 4), mR (k + 5), mR (k + 6), mR (k + 7), mR (k + 8), mR (k + 9), mR (k + 10), mR (k + 11), mU, mL 0, mL 0, mI 0, mI 0, mU])) _ _
  have L24 : (x23.set k (mO 4 [mI 2, mI 8, mR (k + 1), mR (k + 2), mR (k + 3), mR (k + 4), mR (k + 5), mR (k + 6), mR (k + 7), mR (k + 8), mR (k + 9), mR (k + 10), mR (k + 11), mU, mL 0, mL 0, mI 0, mI 0, mU])).length = k + 12 := (List.length_set ..).trans L23
  have c24 : (x23.set k (mO 4 [mI 2, mI 8, mR (k + 1), mR (k + 2), mR (k + 3), mR (k + 4), mR (k + 5), mR (k + 6), mR (k + 7), mR (k + 8), mR (k + 9), mR (k + 10), mR (k + 11), mU, mL 0, mL 0, mI 0, mI 0, mU]))[k]? = some (mO 4 [mI 2, mI 8, mR (k + 1), mR (k + 2), mR (k + 3), mR (k + 4), mR (k + 5), mR (k + 6), mR (k + 7), mR (k + 8), mR (k + 9), mR (k + 10), mR (k + 11), mU, mL 0, mL 0, mI 0, mI 0, mU]) := gs_eq c23
  have a1_24 : (x23.set k (mO 4 [mI 2, mI 8, mR (k + 1), mR (k + 2), mR (k + 3), mR (k + 4), mR (k + 5), mR (k + 6), mR (k + 7), mR (k + 8), mR (k + 9), mR (k + 10), mR (k + 11), mU, mL 0, mL 0, mI 0, mI 0, mU]))[k + 1]? = some (mA (List.replicate 64 0)) := gs_ne a1_23 (by omega)
  have a2_24 : (x23.set k (mO 4 [mI 2, mI 8, mR (k + 1), mR (k + 2), mR (k + 3), mR (k + 4), mR (k + 5), mR (k + 6), mR (k + 7), mR (k + 8), mR (k + 9), mR (k + 10), mR (k + 11), mU, mL 0, mL 0, mI 0, mI 0, mU]))[k + 2]? = some (mA (List.replicate 64 0)) := gs_ne a2_23 (by omega)
  have a3_24 : (x23.set k (mO 4 [mI 2, mI 8, mR (k + 1), mR (k + 2), mR (k + 3), mR (k + 4), mR (k + 5), mR (k + 6), mR (k + 7), mR (k + 8), mR (k + 9), mR (k + 10), mR (k + 11), mU, mL 0, mL 0, mI 0, mI 0, mU]))[k + 3]? = some (mA (List.replicate 8 0)) := gs_ne a3_23 (by omega)
  have a4_24 : (x23.set k (mO 4 [mI 2, mI 8, mR (k + 1), mR (k + 2), mR (k + 3), mR (k + 4), mR (k + 5), mR (k + 6), mR (k + 7), mR (k + 8), mR (k + 9), mR (k + 10), mR (k + 11), mU, mL 0, mL 0, mI 0, mI 0, mU]))[k + 4]? = some (mA (List.replicate 7 0)) := gs_ne a4_23 (by omega)
  have a5_24 : (x23.set k (mO 4 [mI 2, mI 8, mR (k + 1), mR (k + 2), mR (k + 3), mR (k + 4), mR (k + 5), mR (k + 6), mR (k + 7), mR (k + 8), mR (k + 9), mR (k + 10), mR (k + 11), mU, mL 0, mL 0, mI 0, mI 0, mU]))[k + 5]? = some (mA (List.replicate 7 0)) := gs_ne a5_23 (by omega)
  have a6_24 : (x23.set k (mO 4 [mI 2, mI 8, mR (k + 1), mR (k + 2), mR (k + 3), mR (k + 4), mR (k + 5), mR (k + 6), mR (k + 7), mR (k + 8), mR (k + 9), mR (k + 10), mR (k + 11), mU, mL 0, mL 0, mI 0, mI 0, mU]))[k + 6]? = some (mA (List.replicate 7 0)) := gs_ne a6_23 (by omega)
  have a7_24 : (x23.set k (mO 4 [mI 2, mI 8, mR (k + 1), mR (k + 2), mR (k + 3), mR (k + 4), mR (k + 5), mR (k + 6), mR (k + 7), mR (k + 8), mR (k + 9), mR (k + 10), mR (k + 11), mU, mL 0, mL 0, mI 0, mI 0, mU]))[k + 7]? = some (mA (List.replicate 7 0)) := gs_ne a7_23 (by omega)
  have a8_24 : (x23.set k (mO 4 [mI 2, mI 8, mR (k + 1), mR (k + 2), mR (k + 3), mR (k + 4), mR (k + 5), mR (k + 6), mR (k + 7), mR (k + 8), mR (k + 9), mR (k + 10), mR (k + 11), mU, mL 0, mL 0, mI 0, mI 0, mU]))[k + 8]? = some (mA (List.replicate 8 0)) := gs_ne a8_23 (by omega)
  have a9_24 : (x23.set k (mO 4 [mI 2, mI 8, mR (k + 1), mR (k + 2), mR (k + 3), mR (k + 4), mR (k + 5), mR (k + 6), mR (k + 7), mR (k + 8), mR (k + 9), mR (k + 10), mR (k + 11), mU, mL 0, mL 0, mI 0, mI 0, mU]))[k + 9]? = some (mJ (List.replicate 56 0)) := gs_ne a9_23 (by omega)
  have a10_24 : (x23.set k (mO 4 [mI 2, mI 8, mR (k + 1), mR (k + 2), mR (k + 3), mR (k + 4), mR (k + 5), mR (k + 6), mR (k + 7), mR (k + 8), mR (k + 9), mR (k + 10), mR (k + 11), mU, mL 0, mL 0, mI 0, mI 0, mU]))[k + 10]? = some (mJ (List.replicate 7 0)) := gs_ne a10_23 (by omega)
  have a11_24 : (x23.set k (mO 4 [mI 2, mI 8, mR (k + 1), mR (k + 2), mR (k + 3), mR (k + 4), mR (k + 5), mR (k + 6), mR (k + 7), mR (k + 8), mR (k + 9), mR (k + 10), mR (k + 11), mU, mL 0, mL 0, mI 0, mI 0, mU]))[k + 11]? = some (mJ (List.replicate 8 0)) := gs_ne a11_23 (by omega)
  have o24 : ∀ j : Nat, j < k → (x23.set k (mO 4 [mI 2, mI 8, mR (k + 1), mR (k + 2), mR (k + 3), mR (k + 4), mR (k + 5), mR (k + 6), mR (k + 7), mR (k + 8), mR (k + 9), mR (k + 10), mR (k + 11), mU, mL 0, mL 0, mI 0, mI 0, mU]))[j]? = h[j]? := fun j hj => (fr_set (by omega)).trans (o23 j hj)
  clear c23 L23 o23 a1_23 a2_23 a3_23 a4_23 a5_23 a6_23 a7_23 a8_23 a9_23 a10_23 a11_23
  generalize x23.set k (mO 4 [mI 2, mI 8, mR (k + 1), mR (k + 2), mR (k + 3), mR (k + 4), mR (k + 5), mR (k + 6), mR (k + 7), mR (k + 8), mR (k + 9), mR (k + 10), mR (k + 11), mU, mL 0, mL 0, mI 0, mI 0, mU]) = x24 at *
  refine wp_al0 (q := 104) dX4_init_103 rfl (wp_bi (q := 106) dX4_init_104 rfl (by decide) (by decide) (wp_newl (q := 108) (mc' := 1) (ms' := 3200) dX4_init_106 rfl (by decide) (by decide) rfl rfl ?_))
  rw [L24]
  show Wp _ _ _ _ _ (x24 ++ [mJ (List.replicate 8 0)]) _ _
  have L25 : (x24 ++ [mJ (List.replicate 8 0)]).length = k + 13 := ga_len L24 rfl
  have c25 : (x24 ++ [mJ (List.replicate 8 0)])[k]? = some (mO 4 [mI 2, mI 8, mR (k + 1), mR (k + 2), mR (k + 3), mR (k + 4), mR (k + 5), mR (k + 6), mR (k + 7), mR (k + 8), mR (k + 9), mR (k + 10), mR (k + 11), mU, mL 0, mL 0, mI 0, mI 0, mU]) := ga_lt c24
  have a1_25 : (x24 ++ [mJ (List.replicate 8 0)])[k + 1]? = some (mA (List.replicate 64 0)) := ga_lt a1_24
  have a2_25 : (x24 ++ [mJ (List.replicate 8 0)])[k + 2]? = some (mA (List.replicate 64 0)) := ga_lt a2_24
  have a3_25 : (x24 ++ [mJ (List.replicate 8 0)])[k + 3]? = some (mA (List.replicate 8 0)) := ga_lt a3_24
  have a4_25 : (x24 ++ [mJ (List.replicate 8 0)])[k + 4]? = some (mA (List.replicate 7 0)) := ga_lt a4_24
  have a5_25 : (x24 ++ [mJ (List.replicate 8 0)])[k + 5]? = some (mA (List.replicate 7 0)) := ga_lt a5_24
  have a6_25 : (x24 ++ [mJ (List.replicate 8 0)])[k + 6]? = some (mA (List.replicate 7 0)) := ga_lt a6_24
  have a7_25 : (x24 ++ [mJ (List.replicate 8 0)])[k + 7]? = some (mA (List.replicate 7 0)) := ga_lt a7_24
  have a8_25 : (x24 ++ [mJ (List.replicate 8 0)])[k + 8]? = some (mA (List.replicate 8 0)) := ga_lt a8_24
  have a9_25 : (x24 ++ [mJ (List.replicate 8 0)])[k + 9]? = some (mJ (List.replicate 56 0)) := ga_lt a9_24
  have a10_25 : (x24 ++ [mJ (List.replicate 8 0)])[k + 10]? = some (mJ (List.replicate 7 0)) := ga_lt a10_24
  have a11_25 : (x24 ++ [mJ (List.replicate 8 0)])[k + 11]? = some (mJ (List.replicate 8 0)) := ga_lt a11_24
  have o25 : ∀ j : Nat, j < k → (x24 ++ [mJ (List.replicate 8 0)])[j]? = h[j]? := fun j hj => (fr_app L24 (by omega)).trans (o24 j hj)
  have a12_25 : (x24 ++ [mJ (List.replicate 8 0)])[k + 12]? = some (mJ (List.replicate 8 0)) := ga_eq L24
  clear c24 L24 o24 a1_24 a2_24 a3_24 a4_24 a5_24 a6_24 a7_24 a8_24 a9_24 a10_24 a11_24
  generalize x24 ++ [mJ (List.replicate 8 0)] = x25 at *
  refine wp_putf (q := 111) dX4_init_108 rfl f35 hk c25 (Nat.le_of_ble_eq_true rfl) trivial (fun _ => ⟨rfl, rfl⟩) ?_
  show Wp _ _ _ _ _ (x25.set k (mO 4 [mI 2, mI 8, mR (k + 1), mR (k + 2), mR (k + 3), mR (k + 4), mR (k + 5), mR (k + 6), mR (k + 7), mR (k + 8), mR (k + 9), mR (k + 10), mR (k + 11), mR (k + 12), mL 0, mL 0, mI 0, mI 0, mU])) _ _
  have L26 : (x25.set k (mO 4 [mI 2, mI 8, mR (k + 1), mR (k + 2), mR (k + 3), mR (k + 4), mR (k + 5), mR (k + 6), mR (k + 7), mR (k + 8), mR (k + 9), mR (k + 10), mR (k + 11), mR (k + 12), mL 0, mL 0, mI 0, mI 0, mU])).length = k + 13 := (List.length_set ..).trans L25
  have c26 : (x25.set k (mO 4 [mI 2, mI 8, mR (k + 1), mR (k + 2), mR (k + 3), mR (k + 4), mR (k + 5), mR (k + 6), mR (k + 7), mR (k + 8), mR (k + 9), mR (k + 10), mR (k + 11), mR (k + 12), mL 0, mL 0, mI 0, mI 0, mU]))[k]? = some (mO 4 [mI 2, mI 8, mR (k + 1), mR (k + 2), mR (k + 3), mR (k + 4), mR (k + 5), mR (k + 6), mR (k + 7), mR (k + 8), mR (k + 9), mR (k + 10), mR (k + 11), mR (k + 12), mL 0, mL 0, mI 0, mI 0, mU]) := gs_eq c25
  have a1_26 : (x25.set k (mO 4 [mI 2, mI 8, mR (k + 1), mR (k + 2), mR (k + 3), mR (k + 4), mR (k + 5), mR (k + 6), mR (k + 7), mR (k + 8), mR (k + 9), mR (k + 10), mR (k + 11), mR (k + 12), mL 0, mL 0, mI 0, mI 0, mU]))[k + 1]? = some (mA (List.replicate 64 0)) := gs_ne a1_25 (by omega)
  have a2_26 : (x25.set k (mO 4 [mI 2, mI 8, mR (k + 1), mR (k + 2), mR (k + 3), mR (k + 4), mR (k + 5), mR (k + 6), mR (k + 7), mR (k + 8), mR (k + 9), mR (k + 10), mR (k + 11), mR (k + 12), mL 0, mL 0, mI 0, mI 0, mU]))[k + 2]? = some (mA (List.replicate 64 0)) := gs_ne a2_25 (by omega)
  have a3_26 : (x25.set k (mO 4 [mI 2, mI 8, mR (k + 1), mR (k + 2), mR (k + 3), mR (k + 4), mR (k + 5), mR (k + 6), mR (k + 7), mR (k + 8), mR (k + 9), mR (k + 10), mR (k + 11), mR (k + 12), mL 0, mL 0, mI 0, mI 0, mU]))[k + 3]? = some (mA (List.replicate 8 0)) := gs_ne a3_25 (by omega)
  have a4_26 : (x25.set k (mO 4 [mI 2, mI 8, mR (k + 1), mR (k + 2), mR (k + 3), mR (k + 4), mR (k + 5), mR (k + 6), mR (k + 7), mR (k + 8), mR (k + 9), mR (k + 10), mR (k + 11), mR (k + 12), mL 0, mL 0, mI 0, mI 0, mU]))[k + 4]? = some (mA (List.replicate 7 0)) := gs_ne a4_25 (by omega)
  have a5_26 : (x25.set k (mO 4 [mI 2, mI 8, mR (k + 1), mR (k + 2), mR (k + 3), mR (k + 4), mR (k + 5), mR (k + 6), mR (k + 7), mR (k + 8), mR (k + 9), mR (k + 10), mR (k + 11), mR (k + 12), mL 0, mL 0, mI 0, mI 0, mU]))[k + 5]? = some (mA (List.replicate 7 0)) := gs_ne a5_25 (by omega)
  have a6_26 : (x25.set k (mO 4 [mI 2, mI 8, mR (k + 1), mR (k + 2), mR (k + 3), mR (k + 4), mR (k + 5), mR (k + 6), mR (k + 7), mR (k + 8), mR (k + 9), mR (k + 10), mR (k + 11), mR (k + 12), mL 0, mL 0, mI 0, mI 0, mU]))[k + 6]? = some (mA (List.replicate 7 0)) := gs_ne a6_25 (by omega)
  have a7_26 : (x25.set k (mO 4 [mI 2, mI 8, mR (k + 1), mR (k + 2), mR (k + 3), mR (k + 4), mR (k + 5), mR (k + 6), mR (k + 7), mR (k + 8), mR (k + 9), mR (k + 10), mR (k + 11), mR (k + 12), mL 0, mL 0, mI 0, mI 0, mU]))[k + 7]? = some (mA (List.replicate 7 0)) := gs_ne a7_25 (by omega)
  have a8_26 : (x25.set k (mO 4 [mI 2, mI 8, mR (k + 1), mR (k + 2), mR (k + 3), mR (k + 4), mR (k + 5), mR (k + 6), mR (k + 7), mR (k + 8), mR (k + 9), mR (k + 10), mR (k + 11), mR (k + 12), mL 0, mL 0, mI 0, mI 0, mU]))[k + 8]? = some (mA (List.replicate 8 0)) := gs_ne a8_25 (by omega)
  have a9_26 : (x25.set k (mO 4 [mI 2, mI 8, mR (k + 1), mR (k + 2), mR (k + 3), mR (k + 4), mR (k + 5), mR (k + 6), mR (k + 7), mR (k + 8), mR (k + 9), mR (k + 10), mR (k + 11), mR (k + 12), mL 0, mL 0, mI 0, mI 0, mU]))[k + 9]? = some (mJ (List.replicate 56 0)) := gs_ne a9_25 (by omega)
  have a10_26 : (x25.set k (mO 4 [mI 2, mI 8, mR (k + 1), mR (k + 2), mR (k + 3), mR (k + 4), mR (k + 5), mR (k + 6), mR (k + 7), mR (k + 8), mR (k + 9), mR (k + 10), mR (k + 11), mR (k + 12), mL 0, mL 0, mI 0, mI 0, mU]))[k + 10]? = some (mJ (List.replicate 7 0)) := gs_ne a10_25 (by omega)
  have a11_26 : (x25.set k (mO 4 [mI 2, mI 8, mR (k + 1), mR (k + 2), mR (k + 3), mR (k + 4), mR (k + 5), mR (k + 6), mR (k + 7), mR (k + 8), mR (k + 9), mR (k + 10), mR (k + 11), mR (k + 12), mL 0, mL 0, mI 0, mI 0, mU]))[k + 11]? = some (mJ (List.replicate 8 0)) := gs_ne a11_25 (by omega)
  have a12_26 : (x25.set k (mO 4 [mI 2, mI 8, mR (k + 1), mR (k + 2), mR (k + 3), mR (k + 4), mR (k + 5), mR (k + 6), mR (k + 7), mR (k + 8), mR (k + 9), mR (k + 10), mR (k + 11), mR (k + 12), mL 0, mL 0, mI 0, mI 0, mU]))[k + 12]? = some (mJ (List.replicate 8 0)) := gs_ne a12_25 (by omega)
  have o26 : ∀ j : Nat, j < k → (x25.set k (mO 4 [mI 2, mI 8, mR (k + 1), mR (k + 2), mR (k + 3), mR (k + 4), mR (k + 5), mR (k + 6), mR (k + 7), mR (k + 8), mR (k + 9), mR (k + 10), mR (k + 11), mR (k + 12), mL 0, mL 0, mI 0, mI 0, mU]))[j]? = h[j]? := fun j hj => (fr_set (by omega)).trans (o25 j hj)
  clear c25 L25 o25 a1_25 a2_25 a3_25 a4_25 a5_25 a6_25 a7_25 a8_25 a9_25 a10_25 a11_25 a12_25
  generalize x25.set k (mO 4 [mI 2, mI 8, mR (k + 1), mR (k + 2), mR (k + 3), mR (k + 4), mR (k + 5), mR (k + 6), mR (k + 7), mR (k + 8), mR (k + 9), mR (k + 10), mR (k + 11), mR (k + 12), mL 0, mL 0, mI 0, mI 0, mU]) = x26 at *
  refine wp_al0 (q := 112) dX4_init_111 rfl (wp_si (q := 115) dX4_init_112 rfl (by decide) (by decide) (wp_newi (q := 117) (mc' := 0) (ms' := 0) dX4_init_115 rfl (by decide) (by decide) rfl rfl ?_))
  rw [L26]
  show Wp _ _ _ _ _ (x26 ++ [mA (List.replicate 3200 0)]) _ _
  have L27 : (x26 ++ [mA (List.replicate 3200 0)]).length = k + 14 := ga_len L26 rfl
  have c27 : (x26 ++ [mA (List.replicate 3200 0)])[k]? = some (mO 4 [mI 2, mI 8, mR (k + 1), mR (k + 2), mR (k + 3), mR (k + 4), mR (k + 5), mR (k + 6), mR (k + 7), mR (k + 8), mR (k + 9), mR (k + 10), mR (k + 11), mR (k + 12), mL 0, mL 0, mI 0, mI 0, mU]) := ga_lt c26
  have a1_27 : (x26 ++ [mA (List.replicate 3200 0)])[k + 1]? = some (mA (List.replicate 64 0)) := ga_lt a1_26
  have a2_27 : (x26 ++ [mA (List.replicate 3200 0)])[k + 2]? = some (mA (List.replicate 64 0)) := ga_lt a2_26
  have a3_27 : (x26 ++ [mA (List.replicate 3200 0)])[k + 3]? = some (mA (List.replicate 8 0)) := ga_lt a3_26
  have a4_27 : (x26 ++ [mA (List.replicate 3200 0)])[k + 4]? = some (mA (List.replicate 7 0)) := ga_lt a4_26
  have a5_27 : (x26 ++ [mA (List.replicate 3200 0)])[k + 5]? = some (mA (List.replicate 7 0)) := ga_lt a5_26
  have a6_27 : (x26 ++ [mA (List.replicate 3200 0)])[k + 6]? = some (mA (List.replicate 7 0)) := ga_lt a6_26
  have a7_27 : (x26 ++ [mA (List.replicate 3200 0)])[k + 7]? = some (mA (List.replicate 7 0)) := ga_lt a7_26
  have a8_27 : (x26 ++ [mA (List.replicate 3200 0)])[k + 8]? = some (mA (List.replicate 8 0)) := ga_lt a8_26
  have a9_27 : (x26 ++ [mA (List.replicate 3200 0)])[k + 9]? = some (mJ (List.replicate 56 0)) := ga_lt a9_26
  have a10_27 : (x26 ++ [mA (List.replicate 3200 0)])[k + 10]? = some (mJ (List.replicate 7 0)) := ga_lt a10_26
  have a11_27 : (x26 ++ [mA (List.replicate 3200 0)])[k + 11]? = some (mJ (List.replicate 8 0)) := ga_lt a11_26
  have a12_27 : (x26 ++ [mA (List.replicate 3200 0)])[k + 12]? = some (mJ (List.replicate 8 0)) := ga_lt a12_26
  have o27 : ∀ j : Nat, j < k → (x26 ++ [mA (List.replicate 3200 0)])[j]? = h[j]? := fun j hj => (fr_app L26 (by omega)).trans (o26 j hj)
  have a13_27 : (x26 ++ [mA (List.replicate 3200 0)])[k + 13]? = some (mA (List.replicate 3200 0)) := ga_eq L26
  clear c26 L26 o26 a1_26 a2_26 a3_26 a4_26 a5_26 a6_26 a7_26 a8_26 a9_26 a10_26 a11_26 a12_26
  generalize x26 ++ [mA (List.replicate 3200 0)] = x27 at *
  refine wp_putf (q := 120) dX4_init_117 rfl f40 hk c27 (Nat.le_of_ble_eq_true rfl) trivial (fun _ => ⟨rfl, rfl⟩) ?_
  show Wp _ _ _ _ _ (x27.set k (mO 4 [mI 2, mI 8, mR (k + 1), mR (k + 2), mR (k + 3), mR (k + 4), mR (k + 5), mR (k + 6), mR (k + 7), mR (k + 8), mR (k + 9), mR (k + 10), mR (k + 11), mR (k + 12), mL 0, mL 0, mI 0, mI 0, mR (k + 13)])) _ _
  have L28 : (x27.set k (mO 4 [mI 2, mI 8, mR (k + 1), mR (k + 2), mR (k + 3), mR (k + 4), mR (k + 5), mR (k + 6), mR (k + 7), mR (k + 8), mR (k + 9), mR (k + 10), mR (k + 11), mR (k + 12), mL 0, mL 0, mI 0, mI 0, mR (k + 13)])).length = k + 14 := (List.length_set ..).trans L27
  have c28 : (x27.set k (mO 4 [mI 2, mI 8, mR (k + 1), mR (k + 2), mR (k + 3), mR (k + 4), mR (k + 5), mR (k + 6), mR (k + 7), mR (k + 8), mR (k + 9), mR (k + 10), mR (k + 11), mR (k + 12), mL 0, mL 0, mI 0, mI 0, mR (k + 13)]))[k]? = some (mO 4 [mI 2, mI 8, mR (k + 1), mR (k + 2), mR (k + 3), mR (k + 4), mR (k + 5), mR (k + 6), mR (k + 7), mR (k + 8), mR (k + 9), mR (k + 10), mR (k + 11), mR (k + 12), mL 0, mL 0, mI 0, mI 0, mR (k + 13)]) := gs_eq c27
  have a1_28 : (x27.set k (mO 4 [mI 2, mI 8, mR (k + 1), mR (k + 2), mR (k + 3), mR (k + 4), mR (k + 5), mR (k + 6), mR (k + 7), mR (k + 8), mR (k + 9), mR (k + 10), mR (k + 11), mR (k + 12), mL 0, mL 0, mI 0, mI 0, mR (k + 13)]))[k + 1]? = some (mA (List.replicate 64 0)) := gs_ne a1_27 (by omega)
  have a2_28 : (x27.set k (mO 4 [mI 2, mI 8, mR (k + 1), mR (k + 2), mR (k + 3), mR (k + 4), mR (k + 5), mR (k + 6), mR (k + 7), mR (k + 8), mR (k + 9), mR (k + 10), mR (k + 11), mR (k + 12), mL 0, mL 0, mI 0, mI 0, mR (k + 13)]))[k + 2]? = some (mA (List.replicate 64 0)) := gs_ne a2_27 (by omega)
  have a3_28 : (x27.set k (mO 4 [mI 2, mI 8, mR (k + 1), mR (k + 2), mR (k + 3), mR (k + 4), mR (k + 5), mR (k + 6), mR (k + 7), mR (k + 8), mR (k + 9), mR (k + 10), mR (k + 11), mR (k + 12), mL 0, mL 0, mI 0, mI 0, mR (k + 13)]))[k + 3]? = some (mA (List.replicate 8 0)) := gs_ne a3_27 (by omega)
  have a4_28 : (x27.set k (mO 4 [mI 2, mI 8, mR (k + 1), mR (k + 2), mR (k + 3), mR (k + 4), mR (k + 5), mR (k + 6), mR (k + 7), mR (k + 8), mR (k + 9), mR (k + 10), mR (k + 11), mR (k + 12), mL 0, mL 0, mI 0, mI 0, mR (k + 13)]))[k + 4]? = some (mA (List.replicate 7 0)) := gs_ne a4_27 (by omega)
  have a5_28 : (x27.set k (mO 4 [mI 2, mI 8, mR (k + 1), mR (k + 2), mR (k + 3), mR (k + 4), mR (k + 5), mR (k + 6), mR (k + 7), mR (k + 8), mR (k + 9), mR (k + 10), mR (k + 11), mR (k + 12), mL 0, mL 0, mI 0, mI 0, mR (k + 13)]))[k + 5]? = some (mA (List.replicate 7 0)) := gs_ne a5_27 (by omega)
  have a6_28 : (x27.set k (mO 4 [mI 2, mI 8, mR (k + 1), mR (k + 2), mR (k + 3), mR (k + 4), mR (k + 5), mR (k + 6), mR (k + 7), mR (k + 8), mR (k + 9), mR (k + 10), mR (k + 11), mR (k + 12), mL 0, mL 0, mI 0, mI 0, mR (k + 13)]))[k + 6]? = some (mA (List.replicate 7 0)) := gs_ne a6_27 (by omega)
  have a7_28 : (x27.set k (mO 4 [mI 2, mI 8, mR (k + 1), mR (k + 2), mR (k + 3), mR (k + 4), mR (k + 5), mR (k + 6), mR (k + 7), mR (k + 8), mR (k + 9), mR (k + 10), mR (k + 11), mR (k + 12), mL 0, mL 0, mI 0, mI 0, mR (k + 13)]))[k + 7]? = some (mA (List.replicate 7 0)) := gs_ne a7_27 (by omega)
  have a8_28 : (x27.set k (mO 4 [mI 2, mI 8, mR (k + 1), mR (k + 2), mR (k + 3), mR (k + 4), mR (k + 5), mR (k + 6), mR (k + 7), mR (k + 8), mR (k + 9), mR (k + 10), mR (k + 11), mR (k + 12), mL 0, mL 0, mI 0, mI 0, mR (k + 13)]))[k + 8]? = some (mA (List.replicate 8 0)) := gs_ne a8_27 (by omega)
  have a9_28 : (x27.set k (mO 4 [mI 2, mI 8, mR (k + 1), mR (k + 2), mR (k + 3), mR (k + 4), mR (k + 5), mR (k + 6), mR (k + 7), mR (k + 8), mR (k + 9), mR (k + 10), mR (k + 11), mR (k + 12), mL 0, mL 0, mI 0, mI 0, mR (k + 13)]))[k + 9]? = some (mJ (List.replicate 56 0)) := gs_ne a9_27 (by omega)
  have a10_28 : (x27.set k (mO 4 [mI 2, mI 8, mR (k + 1), mR (k + 2), mR (k + 3), mR (k + 4), mR (k + 5), mR (k + 6), mR (k + 7), mR (k + 8), mR (k + 9), mR (k + 10), mR (k + 11), mR (k + 12), mL 0, mL 0, mI 0, mI 0, mR (k + 13)]))[k + 10]? = some (mJ (List.replicate 7 0)) := gs_ne a10_27 (by omega)
  have a11_28 : (x27.set k (mO 4 [mI 2, mI 8, mR (k + 1), mR (k + 2), mR (k + 3), mR (k + 4), mR (k + 5), mR (k + 6), mR (k + 7), mR (k + 8), mR (k + 9), mR (k + 10), mR (k + 11), mR (k + 12), mL 0, mL 0, mI 0, mI 0, mR (k + 13)]))[k + 11]? = some (mJ (List.replicate 8 0)) := gs_ne a11_27 (by omega)
  have a12_28 : (x27.set k (mO 4 [mI 2, mI 8, mR (k + 1), mR (k + 2), mR (k + 3), mR (k + 4), mR (k + 5), mR (k + 6), mR (k + 7), mR (k + 8), mR (k + 9), mR (k + 10), mR (k + 11), mR (k + 12), mL 0, mL 0, mI 0, mI 0, mR (k + 13)]))[k + 12]? = some (mJ (List.replicate 8 0)) := gs_ne a12_27 (by omega)
  have a13_28 : (x27.set k (mO 4 [mI 2, mI 8, mR (k + 1), mR (k + 2), mR (k + 3), mR (k + 4), mR (k + 5), mR (k + 6), mR (k + 7), mR (k + 8), mR (k + 9), mR (k + 10), mR (k + 11), mR (k + 12), mL 0, mL 0, mI 0, mI 0, mR (k + 13)]))[k + 13]? = some (mA (List.replicate 3200 0)) := gs_ne a13_27 (by omega)
  have o28 : ∀ j : Nat, j < k → (x27.set k (mO 4 [mI 2, mI 8, mR (k + 1), mR (k + 2), mR (k + 3), mR (k + 4), mR (k + 5), mR (k + 6), mR (k + 7), mR (k + 8), mR (k + 9), mR (k + 10), mR (k + 11), mR (k + 12), mL 0, mL 0, mI 0, mI 0, mR (k + 13)]))[j]? = h[j]? := fun j hj => (fr_set (by omega)).trans (o27 j hj)
  clear c27 L27 o27 a1_27 a2_27 a3_27 a4_27 a5_27 a6_27 a7_27 a8_27 a9_27 a10_27 a11_27 a12_27 a13_27
  generalize x27.set k (mO 4 [mI 2, mI 8, mR (k + 1), mR (k + 2), mR (k + 3), mR (k + 4), mR (k + 5), mR (k + 6), mR (k + 7), mR (k + 8), mR (k + 9), mR (k + 10), mR (k + 11), mR (k + 12), mL 0, mL 0, mI 0, mI 0, mR (k + 13)]) = x28 at *
  obtain ⟨w1, w2, w3, w4, w5, w6, w7, w8, w9, w10, w11, w12, w13⟩ := show _ ∧ _ ∧ _ ∧ _ ∧ _ ∧ _ ∧ _ ∧ _ ∧ _ ∧ _ ∧ _ ∧ _ ∧ _ from ⟨a1_28, a2_28, a3_28, a4_28, a5_28, a6_28, a7_28, a8_28, a9_28, a10_28, a11_28, a12_28, a13_28⟩
  have hM : MU x28 k 2 8 (List.replicate 64 0) (List.replicate 64 0) (List.replicate 8 0) (List.replicate 7 0) (List.replicate 7 0) (List.replicate 7 0) (List.replicate 7 0) (List.replicate 8 0) (List.replicate 56 0) (List.replicate 7 0) (List.replicate 8 0) (List.replicate 8 0) 0 0 0 0 (List.replicate 3200 0) := ⟨hk, c28, w1, w2, w3, w4, w5, w6, w7, w8, w9, w10, w11, w12, w13, List.length_replicate, List.length_replicate, List.length_replicate, List.length_replicate, List.length_replicate, List.length_replicate, List.length_replicate, List.length_replicate, List.length_replicate, List.length_replicate, List.length_replicate, List.length_replicate, List.length_replicate, by decide⟩
  refine wp_al0 (q := 121) dX4_init_120 rfl (wp_v0 (q := 124) dX4_init_121 rfl q118 (Nat.le_of_ble_eq_true rfl) rfl hk c28 rfl rfl ((mt_begin 0 hM).up (by omega)) (fun r9 h9 e9 => ?_))
  obtain ⟨rfl, hM9, hf9⟩ := e9
  show Wp _ _ _ _ [] _ _ _
  refine wp_vret dX4_init_124 rfl ?_
  exact ⟨rfl, ⟨_, _, _, _, _, _, _, _, _, _, _, _, _, _, hM9, WmO_new, Or.inl rfl, fun z => absurd z (by decide), trivial⟩, fun j hj => (hf9 j (Or.inl hj)).trans (o28 j hj)⟩
