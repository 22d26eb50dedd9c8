/-! the draws in order: the class' rows are the model's (rows laid by wip/whole) -/
def padL (r : List Int) : List Int := r ++ List.replicate (8 - r.length) 8
def PL (n sz : Nat) (ro pr : List Int) (v : Int) : Bool := fitB n sz ro (gI (pr ++ [v])) pr.length
noncomputable def PR (n sz : Nat) (ro pr : List Int) (v : Int) : Bool := @decide (pr.length < 8 → fitR n sz ro (gI (pr ++ [v])) pr.length) (Classical.propDecidable _)
theorem PR_iff {n sz : Nat} {ro pr : List Int} {v : Int} : PR n sz ro pr v = true ↔ (pr.length < 8 → fitR n sz ro (gI (pr ++ [v])) pr.length) := by
  unfold PR
  exact @decide_eq_true_iff _ (Classical.propDecidable _)
theorem fm_cg {α β : Type} {f g : α → List β} : ∀ {l : List α}, (∀ a, a ∈ l → f a = g a) → l.flatMap f = l.flatMap g
  | [], _ => rfl
  | a :: l, h => by
    rw [List.flatMap_cons, List.flatMap_cons, h a List.mem_cons_self, fm_cg (fun b hb => h b (List.mem_cons_of_mem _ hb))]
theorem ok_PR {n sz u p : Nat} {ro pr : List Int} (hn : n ≤ 8) (hl : pr.length < 8) (hG : PreG n sz u pr) (hp : p < n) : okP ro u pr p ↔ PR n sz ro pr (p : Int) = true := by
  rw [PR_iff]
  have e : fitR n sz ro (gI (pr ++ [(p : Int)])) pr.length ↔ okP ro u pr p := by
    unfold fitR
    rw [gI_last, if_neg (show ¬ (p : Int) = 8 by omega)]
    refine and_congr ?_ (and_congr ?_ ?_)
    · have t := hG.2.2.2.1 p (by omega)
      constructor
      · intro h
        cases q : u.testBit p with
        | false => rfl
        | true =>
          obtain ⟨x, hx, hx2⟩ := t.mp q
          exact absurd (gI_init hx ▸ hx2) (h x hx)
      · intro h q hq z
        rw [gI_init hq] at z
        rw [t.mpr ⟨q, hq, z⟩] at h
        cases h
    · unfold koA
      by_cases c : pr.length = 0
      · rw [c]
        exact ⟨fun z => z.elim Or.inl (fun y => absurd rfl y.1), fun z => z.elim Or.inl (fun y => absurd rfl y.1)⟩
      · have li := lfA_in (x := (pr.length : Int)) (by omega) (by omega)
        obtain ⟨k, hk⟩ := Int.eq_ofNat_of_zero_le li.1
        rw [hk, gI_init (by omega)]
    · exact ⟨fun z i hi => by have := z i hi; rw [gI_init hi] at this; exact this, fun z i hi => by rw [gI_init hi]; exact z i hi⟩
  exact ⟨fun z _ => e.mpr z, fun z => e.mp (z hl)⟩
theorem gap_PR {n sz u : Nat} {ro pr : List Int} (hl : pr.length < 8) (he : (pr.length : Int) - pcN u = ecN (gI pr) pr.length) : ((pr.length : Int) - pcN u < (sz : Int) - n) ↔ PR n sz ro pr 8 = true := by
  rw [PR_iff, he]
  have e : fitR n sz ro (gI (pr ++ [8])) pr.length ↔ ecN (gI pr) pr.length < (sz : Int) - n := by
    unfold fitR
    rw [gI_last, if_pos rfl, ec_congr (f := gI (pr ++ [8])) (g := gI pr) pr.length (fun q hq => gI_init hq)]
  exact ⟨fun z _ => e.mpr z, fun z => e.mp (z hl)⟩
theorem ec_app {pr : List Int} {v : Int} : ecN (gI (pr ++ [v])) (pr ++ [v]).length = ecN (gI pr) pr.length + bI (v = 8) := by
  rw [List.length_append, List.length_singleton]
  show ecN (gI (pr ++ [v])) pr.length + bI (gI (pr ++ [v]) (pr.length : Nat) = 8) = _
  rw [gI_last, ec_congr (f := gI (pr ++ [v])) (g := gI pr) pr.length (fun q hq => gI_init hq)]
theorem fillR_dfs {n sz : Nat} {ro : List Int} (hn : n ≤ 8) (h8 : sz ≤ 8) : ∀ (g u : Nat) (pr : List Int), pr.length + g = sz → PreG n sz u pr → (pr.length : Int) - pcN u = ecN (gI pr) pr.length → fillR n sz ro g u pr = (dfs (valN n) (PR n sz ro) g pr).map padL
  | 0, u, pr, _, _, _ => rfl
  | g + 1, u, pr, hl, hG, he => by
    unfold fillR dfs valN
    rw [List.flatMap_append, List.map_append, List.flatMap_map, List.map_flatMap, List.flatMap_cons, List.flatMap_nil, List.append_nil]
    have ln : ∀ v : Int, (pr ++ [v]).length = pr.length + 1 := fun v => by rw [List.length_append, List.length_singleton]
    congr 1
    · refine fm_cg (fun p hp => ?_)
      have hp := List.mem_range.mp hp
      have o := ok_PR (ro := ro) hn (by omega) hG hp
      by_cases c : PR n sz ro pr (p : Int) = true
      · rw [if_pos c, if_pos (o.mpr c)]
        have hk := o.mpr c
        refine fillR_dfs hn h8 g _ _ (by rw [ln]; omega) (hG.put hn hp hk.1) ?_
        rw [ec_app, ln, pc_or u hG.1 p (by omega) hk.1, bI_f (show ¬ (p : Int) = 8 by omega)]
        omega
      · rw [if_neg c, if_neg (fun z => c (o.mp z))]
        rfl
    · have o := gap_PR (n := n) (sz := sz) (ro := ro) (by omega) he
      by_cases c : PR n sz ro pr 8 = true
      · rw [if_pos c, if_pos (o.mpr c)]
        refine fillR_dfs hn h8 g _ _ (by rw [ln]; omega) (hG.gap (o.mpr c)) ?_
        rw [ec_app, ln, bI_t rfl]
        omega
      · rw [if_neg c, if_neg (fun z => c (o.mp z))]
        rfl
theorem valN_in {n : Nat} {v : Int} (h : v ∈ valN n) : 0 ≤ v ∧ (v < n ∨ v = 8) := by
  unfold valN at h
  rcases List.mem_append.mp h with h | h
  · obtain ⟨p, hp, rfl⟩ := List.mem_map.mp h
    have := List.mem_range.mp hp
    omega
  · have := List.mem_singleton.mp h
    omega
theorem rowsO_dfs {n sz : Nat} {ro : List Int} (hs : sz = 2 ∨ sz = 4 ∨ sz = 8) (h2 : 2 ≤ n) (hle : n ≤ sz) (hro : roS ro) : rowsO n sz ro = (dfs (valN n) (PL n sz ro) sz []).map padL ∧ (dfs (valN n) (PL n sz ro) sz []).length ≤ 315 := by
  have e : dfs (valN n) (PL n sz ro) sz [] = dfs (valN n) (PR n sz ro) sz [] := by
    refine dfs_eq (fun r i => fitB n sz ro (gI r) i) (fun r i => @decide (i < 8 → fitR n sz ro (gI r) i) (Classical.propDecidable _)) (fun pr r v hl hp hv => ?_) (fun pr r v hl hp hv => ?_) sz (fun r hl hm => ?_)
    · refine fitB_congr (fun q hq => ?_)
      by_cases c : q = pr.length
      · subst c; rw [gI_last]; exact hv
      · rw [gI_init (by omega)]; exact hp q (by omega)
    · apply Bool.eq_iff_iff.mpr
      rw [PR_iff]
      refine Iff.trans (@decide_eq_true_iff _ (Classical.propDecidable _)) ?_
      have c : ∀ h8 : pr.length < 8, (fitR n sz ro (gI r) pr.length ↔ fitR n sz ro (gI (pr ++ [v])) pr.length) := fun h8 => fitR_congr h8 (fun q hq => by
        by_cases c : q = pr.length
        · subst c; rw [gI_last]; exact hv
        · rw [gI_init (by omega)]; exact hp q (by omega))
      exact ⟨fun z h => (c h).mp (z h), fun z h => (c h).mpr (z h)⟩
    · have f := fit_iff (f := gI r) hs h2 hle hro (fun i hi => valN_in (hm i hi))
      constructor
      · intro h i hi
        exact (@decide_eq_true_iff _ (Classical.propDecidable _)).mpr (fun _ => f.mp h i hi)
      · intro h
        exact f.mpr (fun i hi => (@decide_eq_true_iff _ (Classical.propDecidable _)).mp (h i hi) (by omega))
  have e2 := fillR_dfs (ro := ro) (by omega : n ≤ 8) (by omega : sz ≤ 8) sz 0 [] (by simp) (PreG_0 hle) (by
    have : pcN 0 = 0 := by decide
    rw [this]
    rfl)
  have h315 := fillR_315 (ro := ro) h2 hle hs
  refine ⟨?_, ?_⟩
  · unfold rowsO
    rw [if_pos hle, List.take_of_length_le h315, e2, e]
  · rw [e]
    rw [e2, List.length_map] at h315
    exact h315
