/-! the model: its state, reads, what empties it (rows laid by wip/whole) -/
/-- the model at g: its fields and arrays -/
def MU (h : List mC) (g : Nat) (n sz : Int) (ch ap pl wm lf rt ws rw pt wh on tw : List Int) (wo wt il dr : Int) (dn : List Int) : Prop := 2 ≤ g ∧ h[g]? = some (mO 4 [mI n, mI sz, mR (g + 1), mR (g + 2), mR (g + 3), mR (g + 4), mR (g + 5), mR (g + 6), mR (g + 7), mR (g + 8), mR (g + 9), mR (g + 10), mR (g + 11), mR (g + 12), mL wo, mL wt, mI il, mI dr, mR (g + 13)]) ∧ h[g + 1]? = some (mA ch) ∧ h[g + 2]? = some (mA ap) ∧ h[g + 3]? = some (mA pl) ∧ h[g + 4]? = some (mA wm) ∧ h[g + 5]? = some (mA lf) ∧ h[g + 6]? = some (mA rt) ∧ h[g + 7]? = some (mA ws) ∧ h[g + 8]? = some (mA rw) ∧ h[g + 9]? = some (mJ pt) ∧ h[g + 10]? = some (mJ wh) ∧ h[g + 11]? = some (mJ on) ∧ h[g + 12]? = some (mJ tw) ∧ h[g + 13]? = some (mA dn) ∧ ch.length = 64 ∧ ap.length = 64 ∧ pl.length = 8 ∧ wm.length = 7 ∧ lf.length = 7 ∧ rt.length = 7 ∧ ws.length = 7 ∧ rw.length = 8 ∧ pt.length = 56 ∧ wh.length = 7 ∧ on.length = 8 ∧ tw.length = 8 ∧ dn.length = 3200 ∧ (sz = 2 ∨ sz = 4 ∨ sz = 8)
section MUS
variable {h h1 : List mC} {g : Nat} {n sz : Int} {ch ap pl wm lf rt ws rw pt wh on tw : List Int} {wo wt il dr : Int} {dn : List Int}
theorem MU.fr (hM : MU h g n sz ch ap pl wm lf rt ws rw pt wh on tw wo wt il dr dn) (hf : ∀ j : Nat, g ≤ j → j < g + 14 → h1[j]? = h[j]?) : MU h1 g n sz ch ap pl wm lf rt ws rw pt wh on tw wo wt il dr dn := by
  obtain ⟨m0, m1, mch, map, mpl, mwm, mlf, mrt, mws, mrw, mpt, mwh, mon, mtw, mdn, lch, lap, lpl, lwm, llf, lrt, lws, lrw, lpt, lwh, lon, ltw, ldn, m8⟩ := hM
  exact ⟨m0, (hf g (by omega) (by omega)).trans m1, (hf (g + 1) (by omega) (by omega)).trans mch, (hf (g + 2) (by omega) (by omega)).trans map, (hf (g + 3) (by omega) (by omega)).trans mpl, (hf (g + 4) (by omega) (by omega)).trans mwm, (hf (g + 5) (by omega) (by omega)).trans mlf, (hf (g + 6) (by omega) (by omega)).trans mrt, (hf (g + 7) (by omega) (by omega)).trans mws, (hf (g + 8) (by omega) (by omega)).trans mrw, (hf (g + 9) (by omega) (by omega)).trans mpt, (hf (g + 10) (by omega) (by omega)).trans mwh, (hf (g + 11) (by omega) (by omega)).trans mon, (hf (g + 12) (by omega) (by omega)).trans mtw, (hf (g + 13) (by omega) (by omega)).trans mdn, lch, lap, lpl, lwm, llf, lrt, lws, lrw, lpt, lwh, lon, ltw, ldn, m8⟩
theorem MU.sCh (hM : MU h g n sz ch ap pl wm lf rt ws rw pt wh on tw wo wt il dr dn) {x : List Int} (hl : x.length = 64) : MU (h.set (g + 1) (mA x)) g n sz x ap pl wm lf rt ws rw pt wh on tw wo wt il dr dn := by
  obtain ⟨m0, m1, mch, map, mpl, mwm, mlf, mrt, mws, mrw, mpt, mwh, mon, mtw, mdn, lch, lap, lpl, lwm, llf, lrt, lws, lrw, lpt, lwh, lon, ltw, ldn, m8⟩ := hM
  exact ⟨m0, gs_ne m1 (by omega), gs_eq mch, gs_ne map (by omega), gs_ne mpl (by omega), gs_ne mwm (by omega), gs_ne mlf (by omega), gs_ne mrt (by omega), gs_ne mws (by omega), gs_ne mrw (by omega), gs_ne mpt (by omega), gs_ne mwh (by omega), gs_ne mon (by omega), gs_ne mtw (by omega), gs_ne mdn (by omega), hl, lap, lpl, lwm, llf, lrt, lws, lrw, lpt, lwh, lon, ltw, ldn, m8⟩
theorem MU.sAp (hM : MU h g n sz ch ap pl wm lf rt ws rw pt wh on tw wo wt il dr dn) {x : List Int} (hl : x.length = 64) : MU (h.set (g + 2) (mA x)) g n sz ch x pl wm lf rt ws rw pt wh on tw wo wt il dr dn := by
  obtain ⟨m0, m1, mch, map, mpl, mwm, mlf, mrt, mws, mrw, mpt, mwh, mon, mtw, mdn, lch, lap, lpl, lwm, llf, lrt, lws, lrw, lpt, lwh, lon, ltw, ldn, m8⟩ := hM
  exact ⟨m0, gs_ne m1 (by omega), gs_ne mch (by omega), gs_eq map, gs_ne mpl (by omega), gs_ne mwm (by omega), gs_ne mlf (by omega), gs_ne mrt (by omega), gs_ne mws (by omega), gs_ne mrw (by omega), gs_ne mpt (by omega), gs_ne mwh (by omega), gs_ne mon (by omega), gs_ne mtw (by omega), gs_ne mdn (by omega), lch, hl, lpl, lwm, llf, lrt, lws, lrw, lpt, lwh, lon, ltw, ldn, m8⟩
theorem MU.sPl (hM : MU h g n sz ch ap pl wm lf rt ws rw pt wh on tw wo wt il dr dn) {x : List Int} (hl : x.length = 8) : MU (h.set (g + 3) (mA x)) g n sz ch ap x wm lf rt ws rw pt wh on tw wo wt il dr dn := by
  obtain ⟨m0, m1, mch, map, mpl, mwm, mlf, mrt, mws, mrw, mpt, mwh, mon, mtw, mdn, lch, lap, lpl, lwm, llf, lrt, lws, lrw, lpt, lwh, lon, ltw, ldn, m8⟩ := hM
  exact ⟨m0, gs_ne m1 (by omega), gs_ne mch (by omega), gs_ne map (by omega), gs_eq mpl, gs_ne mwm (by omega), gs_ne mlf (by omega), gs_ne mrt (by omega), gs_ne mws (by omega), gs_ne mrw (by omega), gs_ne mpt (by omega), gs_ne mwh (by omega), gs_ne mon (by omega), gs_ne mtw (by omega), gs_ne mdn (by omega), lch, lap, hl, lwm, llf, lrt, lws, lrw, lpt, lwh, lon, ltw, ldn, m8⟩
theorem MU.sWm (hM : MU h g n sz ch ap pl wm lf rt ws rw pt wh on tw wo wt il dr dn) {x : List Int} (hl : x.length = 7) : MU (h.set (g + 4) (mA x)) g n sz ch ap pl x lf rt ws rw pt wh on tw wo wt il dr dn := by
  obtain ⟨m0, m1, mch, map, mpl, mwm, mlf, mrt, mws, mrw, mpt, mwh, mon, mtw, mdn, lch, lap, lpl, lwm, llf, lrt, lws, lrw, lpt, lwh, lon, ltw, ldn, m8⟩ := hM
  exact ⟨m0, gs_ne m1 (by omega), gs_ne mch (by omega), gs_ne map (by omega), gs_ne mpl (by omega), gs_eq mwm, gs_ne mlf (by omega), gs_ne mrt (by omega), gs_ne mws (by omega), gs_ne mrw (by omega), gs_ne mpt (by omega), gs_ne mwh (by omega), gs_ne mon (by omega), gs_ne mtw (by omega), gs_ne mdn (by omega), lch, lap, lpl, hl, llf, lrt, lws, lrw, lpt, lwh, lon, ltw, ldn, m8⟩
theorem MU.sLf (hM : MU h g n sz ch ap pl wm lf rt ws rw pt wh on tw wo wt il dr dn) {x : List Int} (hl : x.length = 7) : MU (h.set (g + 5) (mA x)) g n sz ch ap pl wm x rt ws rw pt wh on tw wo wt il dr dn := by
  obtain ⟨m0, m1, mch, map, mpl, mwm, mlf, mrt, mws, mrw, mpt, mwh, mon, mtw, mdn, lch, lap, lpl, lwm, llf, lrt, lws, lrw, lpt, lwh, lon, ltw, ldn, m8⟩ := hM
  exact ⟨m0, gs_ne m1 (by omega), gs_ne mch (by omega), gs_ne map (by omega), gs_ne mpl (by omega), gs_ne mwm (by omega), gs_eq mlf, gs_ne mrt (by omega), gs_ne mws (by omega), gs_ne mrw (by omega), gs_ne mpt (by omega), gs_ne mwh (by omega), gs_ne mon (by omega), gs_ne mtw (by omega), gs_ne mdn (by omega), lch, lap, lpl, lwm, hl, lrt, lws, lrw, lpt, lwh, lon, ltw, ldn, m8⟩
theorem MU.sRt (hM : MU h g n sz ch ap pl wm lf rt ws rw pt wh on tw wo wt il dr dn) {x : List Int} (hl : x.length = 7) : MU (h.set (g + 6) (mA x)) g n sz ch ap pl wm lf x ws rw pt wh on tw wo wt il dr dn := by
  obtain ⟨m0, m1, mch, map, mpl, mwm, mlf, mrt, mws, mrw, mpt, mwh, mon, mtw, mdn, lch, lap, lpl, lwm, llf, lrt, lws, lrw, lpt, lwh, lon, ltw, ldn, m8⟩ := hM
  exact ⟨m0, gs_ne m1 (by omega), gs_ne mch (by omega), gs_ne map (by omega), gs_ne mpl (by omega), gs_ne mwm (by omega), gs_ne mlf (by omega), gs_eq mrt, gs_ne mws (by omega), gs_ne mrw (by omega), gs_ne mpt (by omega), gs_ne mwh (by omega), gs_ne mon (by omega), gs_ne mtw (by omega), gs_ne mdn (by omega), lch, lap, lpl, lwm, llf, hl, lws, lrw, lpt, lwh, lon, ltw, ldn, m8⟩
theorem MU.sWs (hM : MU h g n sz ch ap pl wm lf rt ws rw pt wh on tw wo wt il dr dn) {x : List Int} (hl : x.length = 7) : MU (h.set (g + 7) (mA x)) g n sz ch ap pl wm lf rt x rw pt wh on tw wo wt il dr dn := by
  obtain ⟨m0, m1, mch, map, mpl, mwm, mlf, mrt, mws, mrw, mpt, mwh, mon, mtw, mdn, lch, lap, lpl, lwm, llf, lrt, lws, lrw, lpt, lwh, lon, ltw, ldn, m8⟩ := hM
  exact ⟨m0, gs_ne m1 (by omega), gs_ne mch (by omega), gs_ne map (by omega), gs_ne mpl (by omega), gs_ne mwm (by omega), gs_ne mlf (by omega), gs_ne mrt (by omega), gs_eq mws, gs_ne mrw (by omega), gs_ne mpt (by omega), gs_ne mwh (by omega), gs_ne mon (by omega), gs_ne mtw (by omega), gs_ne mdn (by omega), lch, lap, lpl, lwm, llf, lrt, hl, lrw, lpt, lwh, lon, ltw, ldn, m8⟩
theorem MU.sRw (hM : MU h g n sz ch ap pl wm lf rt ws rw pt wh on tw wo wt il dr dn) {x : List Int} (hl : x.length = 8) : MU (h.set (g + 8) (mA x)) g n sz ch ap pl wm lf rt ws x pt wh on tw wo wt il dr dn := by
  obtain ⟨m0, m1, mch, map, mpl, mwm, mlf, mrt, mws, mrw, mpt, mwh, mon, mtw, mdn, lch, lap, lpl, lwm, llf, lrt, lws, lrw, lpt, lwh, lon, ltw, ldn, m8⟩ := hM
  exact ⟨m0, gs_ne m1 (by omega), gs_ne mch (by omega), gs_ne map (by omega), gs_ne mpl (by omega), gs_ne mwm (by omega), gs_ne mlf (by omega), gs_ne mrt (by omega), gs_ne mws (by omega), gs_eq mrw, gs_ne mpt (by omega), gs_ne mwh (by omega), gs_ne mon (by omega), gs_ne mtw (by omega), gs_ne mdn (by omega), lch, lap, lpl, lwm, llf, lrt, lws, hl, lpt, lwh, lon, ltw, ldn, m8⟩
theorem MU.sPt (hM : MU h g n sz ch ap pl wm lf rt ws rw pt wh on tw wo wt il dr dn) {x : List Int} (hl : x.length = 56) : MU (h.set (g + 9) (mJ x)) g n sz ch ap pl wm lf rt ws rw x wh on tw wo wt il dr dn := by
  obtain ⟨m0, m1, mch, map, mpl, mwm, mlf, mrt, mws, mrw, mpt, mwh, mon, mtw, mdn, lch, lap, lpl, lwm, llf, lrt, lws, lrw, lpt, lwh, lon, ltw, ldn, m8⟩ := hM
  exact ⟨m0, gs_ne m1 (by omega), gs_ne mch (by omega), gs_ne map (by omega), gs_ne mpl (by omega), gs_ne mwm (by omega), gs_ne mlf (by omega), gs_ne mrt (by omega), gs_ne mws (by omega), gs_ne mrw (by omega), gs_eq mpt, gs_ne mwh (by omega), gs_ne mon (by omega), gs_ne mtw (by omega), gs_ne mdn (by omega), lch, lap, lpl, lwm, llf, lrt, lws, lrw, hl, lwh, lon, ltw, ldn, m8⟩
theorem MU.sWh (hM : MU h g n sz ch ap pl wm lf rt ws rw pt wh on tw wo wt il dr dn) {x : List Int} (hl : x.length = 7) : MU (h.set (g + 10) (mJ x)) g n sz ch ap pl wm lf rt ws rw pt x on tw wo wt il dr dn := by
  obtain ⟨m0, m1, mch, map, mpl, mwm, mlf, mrt, mws, mrw, mpt, mwh, mon, mtw, mdn, lch, lap, lpl, lwm, llf, lrt, lws, lrw, lpt, lwh, lon, ltw, ldn, m8⟩ := hM
  exact ⟨m0, gs_ne m1 (by omega), gs_ne mch (by omega), gs_ne map (by omega), gs_ne mpl (by omega), gs_ne mwm (by omega), gs_ne mlf (by omega), gs_ne mrt (by omega), gs_ne mws (by omega), gs_ne mrw (by omega), gs_ne mpt (by omega), gs_eq mwh, gs_ne mon (by omega), gs_ne mtw (by omega), gs_ne mdn (by omega), lch, lap, lpl, lwm, llf, lrt, lws, lrw, lpt, hl, lon, ltw, ldn, m8⟩
theorem MU.sOn (hM : MU h g n sz ch ap pl wm lf rt ws rw pt wh on tw wo wt il dr dn) {x : List Int} (hl : x.length = 8) : MU (h.set (g + 11) (mJ x)) g n sz ch ap pl wm lf rt ws rw pt wh x tw wo wt il dr dn := by
  obtain ⟨m0, m1, mch, map, mpl, mwm, mlf, mrt, mws, mrw, mpt, mwh, mon, mtw, mdn, lch, lap, lpl, lwm, llf, lrt, lws, lrw, lpt, lwh, lon, ltw, ldn, m8⟩ := hM
  exact ⟨m0, gs_ne m1 (by omega), gs_ne mch (by omega), gs_ne map (by omega), gs_ne mpl (by omega), gs_ne mwm (by omega), gs_ne mlf (by omega), gs_ne mrt (by omega), gs_ne mws (by omega), gs_ne mrw (by omega), gs_ne mpt (by omega), gs_ne mwh (by omega), gs_eq mon, gs_ne mtw (by omega), gs_ne mdn (by omega), lch, lap, lpl, lwm, llf, lrt, lws, lrw, lpt, lwh, hl, ltw, ldn, m8⟩
theorem MU.sTw (hM : MU h g n sz ch ap pl wm lf rt ws rw pt wh on tw wo wt il dr dn) {x : List Int} (hl : x.length = 8) : MU (h.set (g + 12) (mJ x)) g n sz ch ap pl wm lf rt ws rw pt wh on x wo wt il dr dn := by
  obtain ⟨m0, m1, mch, map, mpl, mwm, mlf, mrt, mws, mrw, mpt, mwh, mon, mtw, mdn, lch, lap, lpl, lwm, llf, lrt, lws, lrw, lpt, lwh, lon, ltw, ldn, m8⟩ := hM
  exact ⟨m0, gs_ne m1 (by omega), gs_ne mch (by omega), gs_ne map (by omega), gs_ne mpl (by omega), gs_ne mwm (by omega), gs_ne mlf (by omega), gs_ne mrt (by omega), gs_ne mws (by omega), gs_ne mrw (by omega), gs_ne mpt (by omega), gs_ne mwh (by omega), gs_ne mon (by omega), gs_eq mtw, gs_ne mdn (by omega), lch, lap, lpl, lwm, llf, lrt, lws, lrw, lpt, lwh, lon, hl, ldn, m8⟩
theorem MU.sDn (hM : MU h g n sz ch ap pl wm lf rt ws rw pt wh on tw wo wt il dr dn) {x : List Int} (hl : x.length = 3200) : MU (h.set (g + 13) (mA x)) g n sz ch ap pl wm lf rt ws rw pt wh on tw wo wt il dr x := by
  obtain ⟨m0, m1, mch, map, mpl, mwm, mlf, mrt, mws, mrw, mpt, mwh, mon, mtw, mdn, lch, lap, lpl, lwm, llf, lrt, lws, lrw, lpt, lwh, lon, ltw, ldn, m8⟩ := hM
  exact ⟨m0, gs_ne m1 (by omega), gs_ne mch (by omega), gs_ne map (by omega), gs_ne mpl (by omega), gs_ne mwm (by omega), gs_ne mlf (by omega), gs_ne mrt (by omega), gs_ne mws (by omega), gs_ne mrw (by omega), gs_ne mpt (by omega), gs_ne mwh (by omega), gs_ne mon (by omega), gs_ne mtw (by omega), gs_eq mdn, lch, lap, lpl, lwm, llf, lrt, lws, lrw, lpt, lwh, lon, ltw, hl, m8⟩
theorem MU.sN (hM : MU h g n sz ch ap pl wm lf rt ws rw pt wh on tw wo wt il dr dn) {x : Int} : MU (h.set g (mO 4 [mI x, mI sz, mR (g + 1), mR (g + 2), mR (g + 3), mR (g + 4), mR (g + 5), mR (g + 6), mR (g + 7), mR (g + 8), mR (g + 9), mR (g + 10), mR (g + 11), mR (g + 12), mL wo, mL wt, mI il, mI dr, mR (g + 13)])) g x sz ch ap pl wm lf rt ws rw pt wh on tw wo wt il dr dn := by
  obtain ⟨m0, m1, mch, map, mpl, mwm, mlf, mrt, mws, mrw, mpt, mwh, mon, mtw, mdn, lch, lap, lpl, lwm, llf, lrt, lws, lrw, lpt, lwh, lon, ltw, ldn, m8⟩ := hM
  exact ⟨m0, gs_eq m1, gs_ne mch (by omega), gs_ne map (by omega), gs_ne mpl (by omega), gs_ne mwm (by omega), gs_ne mlf (by omega), gs_ne mrt (by omega), gs_ne mws (by omega), gs_ne mrw (by omega), gs_ne mpt (by omega), gs_ne mwh (by omega), gs_ne mon (by omega), gs_ne mtw (by omega), gs_ne mdn (by omega), lch, lap, lpl, lwm, llf, lrt, lws, lrw, lpt, lwh, lon, ltw, ldn, m8⟩
theorem MU.sSz (hM : MU h g n sz ch ap pl wm lf rt ws rw pt wh on tw wo wt il dr dn) {x : Int} (hx : x = 2 ∨ x = 4 ∨ x = 8) : MU (h.set g (mO 4 [mI n, mI x, mR (g + 1), mR (g + 2), mR (g + 3), mR (g + 4), mR (g + 5), mR (g + 6), mR (g + 7), mR (g + 8), mR (g + 9), mR (g + 10), mR (g + 11), mR (g + 12), mL wo, mL wt, mI il, mI dr, mR (g + 13)])) g n x ch ap pl wm lf rt ws rw pt wh on tw wo wt il dr dn := by
  obtain ⟨m0, m1, mch, map, mpl, mwm, mlf, mrt, mws, mrw, mpt, mwh, mon, mtw, mdn, lch, lap, lpl, lwm, llf, lrt, lws, lrw, lpt, lwh, lon, ltw, ldn, m8⟩ := hM
  exact ⟨m0, gs_eq m1, gs_ne mch (by omega), gs_ne map (by omega), gs_ne mpl (by omega), gs_ne mwm (by omega), gs_ne mlf (by omega), gs_ne mrt (by omega), gs_ne mws (by omega), gs_ne mrw (by omega), gs_ne mpt (by omega), gs_ne mwh (by omega), gs_ne mon (by omega), gs_ne mtw (by omega), gs_ne mdn (by omega), lch, lap, lpl, lwm, llf, lrt, lws, lrw, lpt, lwh, lon, ltw, ldn, hx⟩
theorem MU.sWo (hM : MU h g n sz ch ap pl wm lf rt ws rw pt wh on tw wo wt il dr dn) {x : Int} : MU (h.set g (mO 4 [mI n, mI sz, mR (g + 1), mR (g + 2), mR (g + 3), mR (g + 4), mR (g + 5), mR (g + 6), mR (g + 7), mR (g + 8), mR (g + 9), mR (g + 10), mR (g + 11), mR (g + 12), mL x, mL wt, mI il, mI dr, mR (g + 13)])) g n sz ch ap pl wm lf rt ws rw pt wh on tw x wt il dr dn := by
  obtain ⟨m0, m1, mch, map, mpl, mwm, mlf, mrt, mws, mrw, mpt, mwh, mon, mtw, mdn, lch, lap, lpl, lwm, llf, lrt, lws, lrw, lpt, lwh, lon, ltw, ldn, m8⟩ := hM
  exact ⟨m0, gs_eq m1, gs_ne mch (by omega), gs_ne map (by omega), gs_ne mpl (by omega), gs_ne mwm (by omega), gs_ne mlf (by omega), gs_ne mrt (by omega), gs_ne mws (by omega), gs_ne mrw (by omega), gs_ne mpt (by omega), gs_ne mwh (by omega), gs_ne mon (by omega), gs_ne mtw (by omega), gs_ne mdn (by omega), lch, lap, lpl, lwm, llf, lrt, lws, lrw, lpt, lwh, lon, ltw, ldn, m8⟩
theorem MU.sWt (hM : MU h g n sz ch ap pl wm lf rt ws rw pt wh on tw wo wt il dr dn) {x : Int} : MU (h.set g (mO 4 [mI n, mI sz, mR (g + 1), mR (g + 2), mR (g + 3), mR (g + 4), mR (g + 5), mR (g + 6), mR (g + 7), mR (g + 8), mR (g + 9), mR (g + 10), mR (g + 11), mR (g + 12), mL wo, mL x, mI il, mI dr, mR (g + 13)])) g n sz ch ap pl wm lf rt ws rw pt wh on tw wo x il dr dn := by
  obtain ⟨m0, m1, mch, map, mpl, mwm, mlf, mrt, mws, mrw, mpt, mwh, mon, mtw, mdn, lch, lap, lpl, lwm, llf, lrt, lws, lrw, lpt, lwh, lon, ltw, ldn, m8⟩ := hM
  exact ⟨m0, gs_eq m1, gs_ne mch (by omega), gs_ne map (by omega), gs_ne mpl (by omega), gs_ne mwm (by omega), gs_ne mlf (by omega), gs_ne mrt (by omega), gs_ne mws (by omega), gs_ne mrw (by omega), gs_ne mpt (by omega), gs_ne mwh (by omega), gs_ne mon (by omega), gs_ne mtw (by omega), gs_ne mdn (by omega), lch, lap, lpl, lwm, llf, lrt, lws, lrw, lpt, lwh, lon, ltw, ldn, m8⟩
theorem MU.sIl (hM : MU h g n sz ch ap pl wm lf rt ws rw pt wh on tw wo wt il dr dn) {x : Int} : MU (h.set g (mO 4 [mI n, mI sz, mR (g + 1), mR (g + 2), mR (g + 3), mR (g + 4), mR (g + 5), mR (g + 6), mR (g + 7), mR (g + 8), mR (g + 9), mR (g + 10), mR (g + 11), mR (g + 12), mL wo, mL wt, mI x, mI dr, mR (g + 13)])) g n sz ch ap pl wm lf rt ws rw pt wh on tw wo wt x dr dn := by
  obtain ⟨m0, m1, mch, map, mpl, mwm, mlf, mrt, mws, mrw, mpt, mwh, mon, mtw, mdn, lch, lap, lpl, lwm, llf, lrt, lws, lrw, lpt, lwh, lon, ltw, ldn, m8⟩ := hM
  exact ⟨m0, gs_eq m1, gs_ne mch (by omega), gs_ne map (by omega), gs_ne mpl (by omega), gs_ne mwm (by omega), gs_ne mlf (by omega), gs_ne mrt (by omega), gs_ne mws (by omega), gs_ne mrw (by omega), gs_ne mpt (by omega), gs_ne mwh (by omega), gs_ne mon (by omega), gs_ne mtw (by omega), gs_ne mdn (by omega), lch, lap, lpl, lwm, llf, lrt, lws, lrw, lpt, lwh, lon, ltw, ldn, m8⟩
theorem MU.sDr (hM : MU h g n sz ch ap pl wm lf rt ws rw pt wh on tw wo wt il dr dn) {x : Int} : MU (h.set g (mO 4 [mI n, mI sz, mR (g + 1), mR (g + 2), mR (g + 3), mR (g + 4), mR (g + 5), mR (g + 6), mR (g + 7), mR (g + 8), mR (g + 9), mR (g + 10), mR (g + 11), mR (g + 12), mL wo, mL wt, mI il, mI x, mR (g + 13)])) g n sz ch ap pl wm lf rt ws rw pt wh on tw wo wt il x dn := by
  obtain ⟨m0, m1, mch, map, mpl, mwm, mlf, mrt, mws, mrw, mpt, mwh, mon, mtw, mdn, lch, lap, lpl, lwm, llf, lrt, lws, lrw, lpt, lwh, lon, ltw, ldn, m8⟩ := hM
  exact ⟨m0, gs_eq m1, gs_ne mch (by omega), gs_ne map (by omega), gs_ne mpl (by omega), gs_ne mwm (by omega), gs_ne mlf (by omega), gs_ne mrt (by omega), gs_ne mws (by omega), gs_ne mrw (by omega), gs_ne mpt (by omega), gs_ne mwh (by omega), gs_ne mon (by omega), gs_ne mtw (by omega), gs_ne mdn (by omega), lch, lap, lpl, lwm, llf, lrt, lws, lrw, lpt, lwh, lon, ltw, ldn, m8⟩
end MUS
theorem mt_in (d : Nat) {h : List mC} {x y z : Int} : Rt (d + 0) mX4_in [mL x, mL y, mL z] h (some (mI (bI (y ≤ x ∧ x ≤ z)))) (h) := by
  show Wp _ mX4_in 0 [mL x, mU, mL y, mU, mL z, mU] [] h (0, 0) _
  refine wp_ll0 (q := 1) dX4_in_0 rfl (wp_ll2 (q := 2) dX4_in_1 rfl (wp_lcmp_lt (q1 := 3) (t := 17) (q := 6) dX4_in_2 rfl dX4_in_3 rfl rfl (fun c3 => ?_) (fun c3 => ?_)))
  · refine wp_ic (q := 18) dX4_in_17 rfl (by decide) (by decide) (wp_bret dX4_in_18 rfl (by first | exact Or.inl rfl | exact Or.inr rfl | exact bI_01) ?_)
    exact ⟨by first | rw [bI_t (by omega)] | rw [bI_f (by omega)], rfl⟩
  · refine wp_ll0 (q := 7) dX4_in_6 rfl (wp_ll4 (q := 9) dX4_in_7 rfl (wp_lcmp_gt (q1 := 10) (t := 17) (q := 13) dX4_in_9 rfl dX4_in_10 rfl rfl (fun c10 => ?_) (fun c10 => ?_)))
    · refine wp_ic (q := 18) dX4_in_17 rfl (by decide) (by decide) (wp_bret dX4_in_18 rfl (by first | exact Or.inl rfl | exact Or.inr rfl | exact bI_01) ?_)
      exact ⟨by first | rw [bI_t (by omega)] | rw [bI_f (by omega)], rfl⟩
    · refine wp_ic (q := 14) dX4_in_13 rfl (by decide) (by decide) (wp_goto (q := 18) dX4_in_14 rfl (wp_bret dX4_in_18 rfl (by first | exact Or.inl rfl | exact Or.inr rfl | exact bI_01) ?_))
      exact ⟨by first | rw [bI_t (by omega)] | rw [bI_f (by omega)], rfl⟩
theorem mt_isPlayer (d : Nat) {h : List mC} {g : Nat} {n sz : Int} {ch ap pl wm lf rt ws rw pt wh on tw : List Int} {wo wt il dr : Int} {dn : List Int} (hM : MU h g n sz ch ap pl wm lf rt ws rw pt wh on tw wo wt il dr dn) {x : Int} (hn : -100 ≤ n ∧ n ≤ 100) : Rt (d + 1) mX4_isPlayer [mR g, mI x] h (some (mI (bI (0 ≤ x ∧ x < n)))) (h) := by
  obtain ⟨m0, m1, mch, map, mpl, mwm, mlf, mrt, mws, mrw, mpt, mwh, mon, mtw, mdn, lch, lap, lpl, lwm, llf, lrt, lws, lrw, lpt, lwh, lon, ltw, ldn, m8⟩ := id hM
  show Wp _ mX4_isPlayer 0 [mR g, mI x] [] h (0, 0) _
  refine wp_il1 (q := 1) dX4_isPlayer_0 rfl (wp_i2l (q := 2) dX4_isPlayer_1 rfl (wp_lc0 (q := 3) dX4_isPlayer_2 rfl (wp_al0 (q := 4) dX4_isPlayer_3 rfl (wp_getf (q := 7) dX4_isPlayer_4 rfl f22 m0 m1 rfl (fun z => nomatch z) (wp_ic (q := 8) dX4_isPlayer_7 rfl (by decide) (by decide) (wp_isub (q := 9) dX4_isPlayer_8 rfl (by omega) (by omega) (wp_i2l (q := 10) dX4_isPlayer_9 rfl (wp_s3I (q := 13) dX4_isPlayer_10 rfl q122 (Nat.le_of_ble_eq_true rfl) rfl rfl rfl (mt_in d) (wp_bret dX4_isPlayer_13 rfl (by first | exact Or.inl rfl | exact Or.inr rfl | exact bI_01) ?_)))))))))
  refine ⟨rI ?_, rfl⟩
  first
    | rw [bI_t (by omega), bI_t (by omega)]
    | (unfold bI; (repeat' split) <;> omega)
theorem mt_isPlace (d : Nat) {h : List mC} {g : Nat} {n sz : Int} {ch ap pl wm lf rt ws rw pt wh on tw : List Int} {wo wt il dr : Int} {dn : List Int} (hM : MU h g n sz ch ap pl wm lf rt ws rw pt wh on tw wo wt il dr dn) {x : Int} : Rt (d + 1) mX4_isPlace [mR g, mI x] h (some (mI (bI (0 ≤ x ∧ x < sz)))) (h) := by
  obtain ⟨m0, m1, mch, map, mpl, mwm, mlf, mrt, mws, mrw, mpt, mwh, mon, mtw, mdn, lch, lap, lpl, lwm, llf, lrt, lws, lrw, lpt, lwh, lon, ltw, ldn, m8⟩ := id hM
  show Wp _ mX4_isPlace 0 [mR g, mI x] [] h (0, 0) _
  refine wp_il1 (q := 1) dX4_isPlace_0 rfl (wp_i2l (q := 2) dX4_isPlace_1 rfl (wp_lc0 (q := 3) dX4_isPlace_2 rfl (wp_al0 (q := 4) dX4_isPlace_3 rfl (wp_getf (q := 7) dX4_isPlace_4 rfl f23 m0 m1 rfl (fun z => nomatch z) (wp_ic (q := 8) dX4_isPlace_7 rfl (by decide) (by decide) (wp_isub (q := 9) dX4_isPlace_8 rfl (by omega) (by omega) (wp_i2l (q := 10) dX4_isPlace_9 rfl (wp_s3I (q := 13) dX4_isPlace_10 rfl q122 (Nat.le_of_ble_eq_true rfl) rfl rfl rfl (mt_in d) (wp_bret dX4_isPlace_13 rfl (by first | exact Or.inl rfl | exact Or.inr rfl | exact bI_01) ?_)))))))))
  refine ⟨rI ?_, rfl⟩
  first
    | rw [bI_t (by omega), bI_t (by omega)]
    | (unfold bI; (repeat' split) <;> omega)
theorem mt_isMatch (d : Nat) {h : List mC} {g : Nat} {n sz : Int} {ch ap pl wm lf rt ws rw pt wh on tw : List Int} {wo wt il dr : Int} {dn : List Int} (hM : MU h g n sz ch ap pl wm lf rt ws rw pt wh on tw wo wt il dr dn) {x : Int} : Rt (d + 1) mX4_isMatch [mR g, mI x] h (some (mI (bI (0 ≤ x ∧ x < sz - 1)))) (h) := by
  obtain ⟨m0, m1, mch, map, mpl, mwm, mlf, mrt, mws, mrw, mpt, mwh, mon, mtw, mdn, lch, lap, lpl, lwm, llf, lrt, lws, lrw, lpt, lwh, lon, ltw, ldn, m8⟩ := id hM
  show Wp _ mX4_isMatch 0 [mR g, mI x] [] h (0, 0) _
  refine wp_il1 (q := 1) dX4_isMatch_0 rfl (wp_i2l (q := 2) dX4_isMatch_1 rfl (wp_lc0 (q := 3) dX4_isMatch_2 rfl (wp_al0 (q := 4) dX4_isMatch_3 rfl (wp_getf (q := 7) dX4_isMatch_4 rfl f23 m0 m1 rfl (fun z => nomatch z) (wp_ic (q := 8) dX4_isMatch_7 rfl (by decide) (by decide) (wp_isub (q := 9) dX4_isMatch_8 rfl (by omega) (by omega) (wp_i2l (q := 10) dX4_isMatch_9 rfl (wp_s3I (q := 13) dX4_isMatch_10 rfl q122 (Nat.le_of_ble_eq_true rfl) rfl rfl rfl (mt_in d) (wp_bret dX4_isMatch_13 rfl (by first | exact Or.inl rfl | exact Or.inr rfl | exact bI_01) ?_)))))))))
  refine ⟨rI ?_, rfl⟩
  first
    | rw [bI_t (by omega), bI_t (by omega)]
    | (unfold bI; (repeat' split) <;> omega)
theorem mt_rounds (d : Nat) {h : List mC} {g : Nat} {n sz : Int} {ch ap pl wm lf rt ws rw pt wh on tw : List Int} {wo wt il dr : Int} {dn : List Int} (hM : MU h g n sz ch ap pl wm lf rt ws rw pt wh on tw wo wt il dr dn)  : Rt (d + 0) mX4_rounds [mR g] h (some (mI (lrA sz))) (h) := by
  obtain ⟨m0, m1, mch, map, mpl, mwm, mlf, mrt, mws, mrw, mpt, mwh, mon, mtw, mdn, lch, lap, lpl, lwm, llf, lrt, lws, lrw, lpt, lwh, lon, ltw, ldn, m8⟩ := id hM
  show Wp _ mX4_rounds 0 [mR g] [] h (0, 0) _
  refine wp_al0 (q := 1) dX4_rounds_0 rfl (wp_getf (q := 4) dX4_rounds_1 rfl f23 m0 m1 rfl (fun z => nomatch z) (wp_ic (q := 5) dX4_rounds_4 rfl (by decide) (by decide) (wp_icmp_ne (t := 12) (q := 8) dX4_rounds_5 rfl rfl (fun c5 => ?_) (fun c5 => ?_))))
  · refine wp_al0 (q := 13) dX4_rounds_12 rfl (wp_getf (q := 16) dX4_rounds_13 rfl f23 m0 m1 rfl (fun z => nomatch z) (wp_ic (q := 17) dX4_rounds_16 rfl (by decide) (by decide) (wp_icmp_ne (t := 24) (q := 20) dX4_rounds_17 rfl rfl (fun c17 => ?_) (fun c17 => ?_))))
    · refine wp_ic (q := 25) dX4_rounds_24 rfl (by decide) (by decide) (wp_iret dX4_rounds_25 rfl ?_)
      refine ⟨rI ?_, rfl⟩; unfold lrA; (repeat' split) <;> omega
    · refine wp_ic (q := 21) dX4_rounds_20 rfl (by decide) (by decide) (wp_goto (q := 25) dX4_rounds_21 rfl (wp_iret dX4_rounds_25 rfl ?_))
      refine ⟨rI ?_, rfl⟩; unfold lrA; (repeat' split) <;> omega
  · refine wp_ic (q := 9) dX4_rounds_8 rfl (by decide) (by decide) (wp_goto (q := 25) dX4_rounds_9 rfl (wp_iret dX4_rounds_25 rfl ?_))
    refine ⟨rI ?_, rfl⟩; unfold lrA; (repeat' split) <;> omega
theorem shrS {x r : Int} (h0 : 0 ≤ x) (h1 : x < 100) (r0 : 0 ≤ r) (r1 : r ≤ 3) : mShr x r = x / p2A r := by
  rcases (show r = 0 ∨ r = 1 ∨ r = 2 ∨ r = 3 by omega) with rfl | rfl | rfl | rfl
  · rw [mShr_l h0 (by omega) 0 0 (by decide)]; rfl
  · exact shr1 h0 (by omega)
  · exact shr2 h0 (by omega)
  · exact shr3 h0 (by omega)
theorem mt_startOf (d : Nat) {h : List mC} {g : Nat} {n sz : Int} {ch ap pl wm lf rt ws rw pt wh on tw : List Int} {wo wt il dr : Int} {dn : List Int} (hM : MU h g n sz ch ap pl wm lf rt ws rw pt wh on tw wo wt il dr dn) {r : Int} (r1 : 1 ≤ r) (r3 : r ≤ lrA sz) : Rt (d + 0) mX4_startOf [mR g, mI r] h (some (mI (fmA sz r))) h := by
  obtain ⟨m0, m1, mch, map, mpl, mwm, mlf, mrt, mws, mrw, mpt, mwh, mon, mtw, mdn, lch, lap, lpl, lwm, llf, lrt, lws, lrw, lpt, lwh, lon, ltw, ldn, m8⟩ := id hM
  have e1 : fmA sz 1 = 0 := rfl
  have e2 : fmA sz 2 = sz - sz / 2 := rfl
  have e3 : fmA sz 3 = sz - sz / 4 := rfl
  have hl2 : lrA sz = 1 ∧ sz = 2 ∨ lrA sz = 2 ∧ sz = 4 ∨ lrA sz = 3 ∧ sz = 8 := by rcases m8 with rfl | rfl | rfl <;> decide
  show Wp _ mX4_startOf 0 [mR g, mI r, mU, mU] [] h (0, 0) _
  rcases (show r = 1 ∨ r = 2 ∨ r = 3 by omega) with rfl | rfl | rfl
  · refine wp_ic (q := 1) dX4_startOf_0 rfl (by decide) (by decide) (wp_is2 (q := 2) dX4_startOf_1 rfl rfl (wp_ic (q := 3) dX4_startOf_2 rfl (by decide) (by decide) (wp_is3 (q := 4) dX4_startOf_3 rfl rfl (wp_il3 (q := 5) dX4_startOf_4 rfl (wp_il1 (q := 6) dX4_startOf_5 rfl (wp_icmp_ge (t := 24) (q := 9) dX4_startOf_6 rfl rfl (fun c6 => ?_) (fun c6 => ?_)))))))
    · refine wp_il2 (q := 25) dX4_startOf_24 rfl (wp_iret dX4_startOf_25 rfl ?_)
      exact ⟨rI (by omega), rfl⟩
    · exfalso; omega
  · refine wp_ic (q := 1) dX4_startOf_0 rfl (by decide) (by decide) (wp_is2 (q := 2) dX4_startOf_1 rfl rfl (wp_ic (q := 3) dX4_startOf_2 rfl (by decide) (by decide) (wp_is3 (q := 4) dX4_startOf_3 rfl rfl ?_)))
    show Wp _ mX4_startOf 4 [mR g, mI 2, mI (0), mI 1] [] h (0, 0) _
    refine wp_il3 (q := 5) dX4_startOf_4 rfl (wp_il1 (q := 6) dX4_startOf_5 rfl (wp_icmp_ge (t := 24) (q := 9) dX4_startOf_6 rfl rfl (fun c6 => ?_) (fun c6 => ?_)))
    · exfalso; omega
    · refine wp_il2 (q := 10) dX4_startOf_9 rfl (wp_al0 (q := 11) dX4_startOf_10 rfl (wp_getf (q := 14) dX4_startOf_11 rfl f23 m0 m1 rfl (fun z => nomatch z) (wp_il3 (q := 15) dX4_startOf_14 rfl (wp_ishr (sz / 2) (q := 16) dX4_startOf_15 rfl (shr1 (by omega) (by omega)) (wp_iadd (q := 17) dX4_startOf_16 rfl (by omega) (by omega) (wp_is2 (q := 18) dX4_startOf_17 rfl rfl (wp_ii3 (q := 21) dX4_startOf_18 rfl rfl (by omega) (by omega) (wp_goto (q := 4) dX4_startOf_21 rfl ?_))))))))
      show Wp _ mX4_startOf 4 [mR g, mI 2, mI (0 + sz / 2), mI 2] [] h (0, 0) _
      refine wp_il3 (q := 5) dX4_startOf_4 rfl (wp_il1 (q := 6) dX4_startOf_5 rfl (wp_icmp_ge (t := 24) (q := 9) dX4_startOf_6 rfl rfl (fun c6 => ?_) (fun c6 => ?_)))
      · refine wp_il2 (q := 25) dX4_startOf_24 rfl (wp_iret dX4_startOf_25 rfl ?_)
        exact ⟨rI (by omega), rfl⟩
      · exfalso; omega
  · refine wp_ic (q := 1) dX4_startOf_0 rfl (by decide) (by decide) (wp_is2 (q := 2) dX4_startOf_1 rfl rfl (wp_ic (q := 3) dX4_startOf_2 rfl (by decide) (by decide) (wp_is3 (q := 4) dX4_startOf_3 rfl rfl ?_)))
    show Wp _ mX4_startOf 4 [mR g, mI 3, mI (0), mI 1] [] h (0, 0) _
    refine wp_il3 (q := 5) dX4_startOf_4 rfl (wp_il1 (q := 6) dX4_startOf_5 rfl (wp_icmp_ge (t := 24) (q := 9) dX4_startOf_6 rfl rfl (fun c6 => ?_) (fun c6 => ?_)))
    · exfalso; omega
    · refine wp_il2 (q := 10) dX4_startOf_9 rfl (wp_al0 (q := 11) dX4_startOf_10 rfl (wp_getf (q := 14) dX4_startOf_11 rfl f23 m0 m1 rfl (fun z => nomatch z) (wp_il3 (q := 15) dX4_startOf_14 rfl (wp_ishr (sz / 2) (q := 16) dX4_startOf_15 rfl (shr1 (by omega) (by omega)) (wp_iadd (q := 17) dX4_startOf_16 rfl (by omega) (by omega) (wp_is2 (q := 18) dX4_startOf_17 rfl rfl (wp_ii3 (q := 21) dX4_startOf_18 rfl rfl (by omega) (by omega) (wp_goto (q := 4) dX4_startOf_21 rfl ?_))))))))
      show Wp _ mX4_startOf 4 [mR g, mI 3, mI (0 + sz / 2), mI 2] [] h (0, 0) _
      refine wp_il3 (q := 5) dX4_startOf_4 rfl (wp_il1 (q := 6) dX4_startOf_5 rfl (wp_icmp_ge (t := 24) (q := 9) dX4_startOf_6 rfl rfl (fun c6 => ?_) (fun c6 => ?_)))
      · exfalso; omega
      · refine wp_il2 (q := 10) dX4_startOf_9 rfl (wp_al0 (q := 11) dX4_startOf_10 rfl (wp_getf (q := 14) dX4_startOf_11 rfl f23 m0 m1 rfl (fun z => nomatch z) (wp_il3 (q := 15) dX4_startOf_14 rfl (wp_ishr (sz / 4) (q := 16) dX4_startOf_15 rfl (shr2 (by omega) (by omega)) (wp_iadd (q := 17) dX4_startOf_16 rfl (by omega) (by omega) (wp_is2 (q := 18) dX4_startOf_17 rfl rfl (wp_ii3 (q := 21) dX4_startOf_18 rfl rfl (by omega) (by omega) (wp_goto (q := 4) dX4_startOf_21 rfl ?_))))))))
        show Wp _ mX4_startOf 4 [mR g, mI 3, mI (0 + sz / 2 + sz / 4), mI 3] [] h (0, 0) _
        refine wp_il3 (q := 5) dX4_startOf_4 rfl (wp_il1 (q := 6) dX4_startOf_5 rfl (wp_icmp_ge (t := 24) (q := 9) dX4_startOf_6 rfl rfl (fun c6 => ?_) (fun c6 => ?_)))
        · refine wp_il2 (q := 25) dX4_startOf_24 rfl (wp_iret dX4_startOf_25 rfl ?_)
          exact ⟨rI (by omega), rfl⟩
        · exfalso; omega
theorem mt_roundOf (d : Nat) {h : List mC} {g : Nat} {n sz : Int} {ch ap pl wm lf rt ws rw pt wh on tw : List Int} {wo wt il dr : Int} {dn : List Int} (hM : MU h g n sz ch ap pl wm lf rt ws rw pt wh on tw wo wt il dr dn) {x : Int} (x0 : 0 ≤ x) (x1 : x < sz - 1) : Rt (d + 1) mX4_roundOf [mR g, mI x] h (some (mI (rdO sz x))) h := by
  obtain ⟨m0, m1, mch, map, mpl, mwm, mlf, mrt, mws, mrw, mpt, mwh, mon, mtw, mdn, lch, lap, lpl, lwm, llf, lrt, lws, lrw, lpt, lwh, lon, ltw, ldn, m8⟩ := id hM
  have hl := lrA_in m8
  have f2 : fmA sz 2 = sz - sz / 2 := rfl
  have f3 : fmA sz 3 = sz - sz / 4 := rfl
  have hl2 : lrA sz = 1 ∧ sz = 2 ∨ lrA sz = 2 ∧ sz = 4 ∨ lrA sz = 3 ∧ sz = 8 := by rcases m8 with rfl | rfl | rfl <;> decide
  have l3 : rdO sz x = 3 → sz = 8 → Wp (d + 1) mX4_roundOf 2 [mR g, mI x, mI 3] [] h (0, 0) (fun r' h' => r' = some (mI (rdO sz x)) ∧ h' = h) := by
    intro a1 a2
    refine wp_il2 (q := 3) dX4_roundOf_2 rfl (wp_al0 (q := 4) dX4_roundOf_3 rfl (wp_v0I (q := 7) dX4_roundOf_4 rfl q135 (Nat.le_of_ble_eq_true rfl) rfl m0 m1 rfl rfl (mt_rounds d hM) (wp_icmp_ge (t := 27) (q := 10) dX4_roundOf_7 rfl rfl (fun c7 => ?_) (fun c7 => ?_))))
    · refine wp_il2 (q := 28) dX4_roundOf_27 rfl (wp_iret dX4_roundOf_28 rfl ?_)
      refine ⟨rI ?_, rfl⟩
      first | omega | (unfold rdO; (repeat' split) <;> omega)
    · exfalso; omega
  have l2 : fmA sz 2 ≤ x → sz ≠ 2 → Wp (d + 1) mX4_roundOf 2 [mR g, mI x, mI 2] [] h (0, 0) (fun r' h' => r' = some (mI (rdO sz x)) ∧ h' = h) := by
    intro a1 a2
    refine wp_il2 (q := 3) dX4_roundOf_2 rfl (wp_al0 (q := 4) dX4_roundOf_3 rfl (wp_v0I (q := 7) dX4_roundOf_4 rfl q135 (Nat.le_of_ble_eq_true rfl) rfl m0 m1 rfl rfl (mt_rounds d hM) (wp_icmp_ge (t := 27) (q := 10) dX4_roundOf_7 rfl rfl (fun c7 => ?_) (fun c7 => ?_))))
    · refine wp_il2 (q := 28) dX4_roundOf_27 rfl (wp_iret dX4_roundOf_28 rfl ?_)
      refine ⟨rI ?_, rfl⟩
      first | omega | (unfold rdO; (repeat' split) <;> omega)
    · refine wp_il1 (q := 11) dX4_roundOf_10 rfl (wp_al0 (q := 12) dX4_roundOf_11 rfl (wp_il2 (q := 13) dX4_roundOf_12 rfl (wp_ic (q := 14) dX4_roundOf_13 rfl (by decide) (by decide) (wp_iadd (q := 15) dX4_roundOf_14 rfl (by omega) (by omega) ?_))))
      show Wp _ mX4_roundOf 15 [mR g, mI x, mI 2] [mI 3, mR g, mI x] h (0, 0) _
      refine wp_v1I (q := 18) dX4_roundOf_15 rfl q136 (Nat.le_of_ble_eq_true rfl) rfl m0 m1 rfl rfl (mt_startOf d hM (by omega) (by omega)) ?_
      have g1 : fmA sz 3 = sz - sz / 4 := rfl
      refine wp_icmp_lt (t := 27) (q := 21) dX4_roundOf_18 rfl rfl (fun c18 => ?_) (fun c18 => ?_)
      · refine wp_il2 (q := 28) dX4_roundOf_27 rfl (wp_iret dX4_roundOf_28 rfl ?_)
        refine ⟨rI ?_, rfl⟩
        first | omega | (unfold rdO; (repeat' split) <;> omega)
      · refine wp_ii2 (q := 24) dX4_roundOf_21 rfl rfl (by omega) (by omega) (wp_goto (q := 2) dX4_roundOf_24 rfl ?_)
        exact l3 (by unfold rdO; rw [if_neg (by omega), if_neg (by omega)]) (by omega)
  have l1 : Wp (d + 1) mX4_roundOf 2 [mR g, mI x, mI 1] [] h (0, 0) (fun r' h' => r' = some (mI (rdO sz x)) ∧ h' = h) := by
    skip
    refine wp_il2 (q := 3) dX4_roundOf_2 rfl (wp_al0 (q := 4) dX4_roundOf_3 rfl (wp_v0I (q := 7) dX4_roundOf_4 rfl q135 (Nat.le_of_ble_eq_true rfl) rfl m0 m1 rfl rfl (mt_rounds d hM) (wp_icmp_ge (t := 27) (q := 10) dX4_roundOf_7 rfl rfl (fun c7 => ?_) (fun c7 => ?_))))
    · refine wp_il2 (q := 28) dX4_roundOf_27 rfl (wp_iret dX4_roundOf_28 rfl ?_)
      refine ⟨rI ?_, rfl⟩
      first | omega | (unfold rdO; (repeat' split) <;> omega)
    · refine wp_il1 (q := 11) dX4_roundOf_10 rfl (wp_al0 (q := 12) dX4_roundOf_11 rfl (wp_il2 (q := 13) dX4_roundOf_12 rfl (wp_ic (q := 14) dX4_roundOf_13 rfl (by decide) (by decide) (wp_iadd (q := 15) dX4_roundOf_14 rfl (by omega) (by omega) ?_))))
      show Wp _ mX4_roundOf 15 [mR g, mI x, mI 1] [mI 2, mR g, mI x] h (0, 0) _
      refine wp_v1I (q := 18) dX4_roundOf_15 rfl q136 (Nat.le_of_ble_eq_true rfl) rfl m0 m1 rfl rfl (mt_startOf d hM (by omega) (by omega)) ?_
      have g1 : fmA sz 3 = sz - sz / 4 := rfl
      refine wp_icmp_lt (t := 27) (q := 21) dX4_roundOf_18 rfl rfl (fun c18 => ?_) (fun c18 => ?_)
      · refine wp_il2 (q := 28) dX4_roundOf_27 rfl (wp_iret dX4_roundOf_28 rfl ?_)
        refine ⟨rI ?_, rfl⟩
        first | omega | (unfold rdO; (repeat' split) <;> omega)
      · refine wp_ii2 (q := 24) dX4_roundOf_21 rfl rfl (by omega) (by omega) (wp_goto (q := 2) dX4_roundOf_24 rfl ?_)
        exact l2 (by omega) (by omega)
  show Wp _ mX4_roundOf 0 [mR g, mI x, mU] [] h (0, 0) _
  refine wp_ic (q := 1) dX4_roundOf_0 rfl (by decide) (by decide) (wp_is2 (q := 2) dX4_roundOf_1 rfl rfl ?_)
  exact l1
theorem mt_above (d : Nat) {h : List mC} {g : Nat} {n sz : Int} {ch ap pl wm lf rt ws rw pt wh on tw : List Int} {wo wt il dr : Int} {dn : List Int} (hM : MU h g n sz ch ap pl wm lf rt ws rw pt wh on tw wo wt il dr dn) {x r : Int} (x0 : 0 ≤ x) (x1 : x < 8) (r1 : 1 ≤ r) (r3 : r ≤ lrA sz) : Rt (d + 1) mX4_above [mR g, mI x, mI r] h (some (mI (fmA sz r + x / p2A r))) (h) := by
  obtain ⟨m0, m1, mch, map, mpl, mwm, mlf, mrt, mws, mrw, mpt, mwh, mon, mtw, mdn, lch, lap, lpl, lwm, llf, lrt, lws, lrw, lpt, lwh, lon, ltw, ldn, m8⟩ := id hM
  have hlr := lrA_in m8
  have hfm : 0 ≤ fmA sz r ∧ fmA sz r ≤ 8 := by rcases (show r = 1 ∨ r = 2 ∨ r = 3 by omega) with rfl | rfl | rfl <;> simp only [fmA] <;> simp <;> omega
  have hdv : 0 ≤ x / p2A r ∧ x / p2A r ≤ 8 := by rcases (show r = 1 ∨ r = 2 ∨ r = 3 by omega) with rfl | rfl | rfl <;> simp only [p2A] <;> simp <;> omega
  show Wp _ mX4_above 0 [mR g, mI x, mI r] [] h (0, 0) _
  refine wp_al0 (q := 1) dX4_above_0 rfl (wp_il2 (q := 2) dX4_above_1 rfl (wp_v1I (q := 5) dX4_above_2 rfl q136 (Nat.le_of_ble_eq_true rfl) rfl m0 m1 rfl rfl (mt_startOf d hM r1 r3) (wp_il1 (q := 6) dX4_above_5 rfl (wp_il2 (q := 7) dX4_above_6 rfl (wp_ishr (x / p2A r) (q := 8) dX4_above_7 rfl (shrS x0 (by omega) (by omega) (by omega)) (wp_iadd (q := 9) dX4_above_8 rfl (by omega) (by omega) (wp_iret dX4_above_9 rfl ?_)))))))
  exact ⟨rfl, rfl⟩
theorem mt_meetRound (d : Nat) {h : List mC} {x y : Int} (hx0 : 0 ≤ x) (hx1 : x < 8) (hy0 : 0 ≤ y) (hy1 : y < 8) : Rt (d + 0) mX4_meetRound [mI x, mI y] h (some (mI (mrA x y))) h := by
  have l3 : x / 4 ≠ y / 4 → x / 2 ≠ y / 2 → Wp (d + 0) mX4_meetRound 2 [mI x, mI y, mI 3] [] h (0, 0) (fun r' h' => r' = some (mI (mrA x y)) ∧ h' = h) := by
    intro a1 a2
    refine wp_il0 (q := 3) dX4_meetRound_2 rfl (wp_il2 (q := 4) dX4_meetRound_3 rfl (wp_ishr (x / 8) (q := 5) dX4_meetRound_4 rfl (shr3 hx0 (by omega)) (wp_il1 (q := 6) dX4_meetRound_5 rfl (wp_il2 (q := 7) dX4_meetRound_6 rfl (wp_ishr (y / 8) (q := 8) dX4_meetRound_7 rfl (shr3 hy0 (by omega)) (wp_icmp_eq (t := 17) (q := 11) dX4_meetRound_8 rfl rfl (fun c8 => ?_) (fun c8 => ?_)))))))
    · refine wp_il2 (q := 18) dX4_meetRound_17 rfl (wp_iret dX4_meetRound_18 rfl ?_)
      exact ⟨rI (by unfold mrA; (repeat' split) <;> omega), rfl⟩
    · exfalso; omega
  have l2 : x / 2 ≠ y / 2 → Wp (d + 0) mX4_meetRound 2 [mI x, mI y, mI 2] [] h (0, 0) (fun r' h' => r' = some (mI (mrA x y)) ∧ h' = h) := by
    intro a1
    refine wp_il0 (q := 3) dX4_meetRound_2 rfl (wp_il2 (q := 4) dX4_meetRound_3 rfl (wp_ishr (x / 4) (q := 5) dX4_meetRound_4 rfl (shr2 hx0 (by omega)) (wp_il1 (q := 6) dX4_meetRound_5 rfl (wp_il2 (q := 7) dX4_meetRound_6 rfl (wp_ishr (y / 4) (q := 8) dX4_meetRound_7 rfl (shr2 hy0 (by omega)) (wp_icmp_eq (t := 17) (q := 11) dX4_meetRound_8 rfl rfl (fun c8 => ?_) (fun c8 => ?_)))))))
    · refine wp_il2 (q := 18) dX4_meetRound_17 rfl (wp_iret dX4_meetRound_18 rfl ?_)
      exact ⟨rI (by unfold mrA; (repeat' split) <;> omega), rfl⟩
    · refine wp_ii2 (q := 14) dX4_meetRound_11 rfl rfl (by omega) (by omega) (wp_goto (q := 2) dX4_meetRound_14 rfl ?_)
      exact l3 c8 a1
  have l1 : Wp (d + 0) mX4_meetRound 2 [mI x, mI y, mI 1] [] h (0, 0) (fun r' h' => r' = some (mI (mrA x y)) ∧ h' = h) := by
    skip
    refine wp_il0 (q := 3) dX4_meetRound_2 rfl (wp_il2 (q := 4) dX4_meetRound_3 rfl (wp_ishr (x / 2) (q := 5) dX4_meetRound_4 rfl (shr1 hx0 (by omega)) (wp_il1 (q := 6) dX4_meetRound_5 rfl (wp_il2 (q := 7) dX4_meetRound_6 rfl (wp_ishr (y / 2) (q := 8) dX4_meetRound_7 rfl (shr1 hy0 (by omega)) (wp_icmp_eq (t := 17) (q := 11) dX4_meetRound_8 rfl rfl (fun c8 => ?_) (fun c8 => ?_)))))))
    · refine wp_il2 (q := 18) dX4_meetRound_17 rfl (wp_iret dX4_meetRound_18 rfl ?_)
      exact ⟨rI (by unfold mrA; (repeat' split) <;> omega), rfl⟩
    · refine wp_ii2 (q := 14) dX4_meetRound_11 rfl rfl (by omega) (by omega) (wp_goto (q := 2) dX4_meetRound_14 rfl ?_)
      exact l2 c8
  show Wp _ mX4_meetRound 0 [mI x, mI y, mU] [] h (0, 0) _
  refine wp_ic (q := 1) dX4_meetRound_0 rfl (by decide) (by decide) (wp_is2 (q := 2) dX4_meetRound_1 rfl rfl ?_)
  exact l1
theorem gI_all {l : List Int} {v : Int} (h : ∀ x : Int, 0 ≤ x → x < l.length → gI l x = v) : l = List.replicate l.length v :=
  gI_ext (by rw [List.length_replicate]) (fun x h0 h1 => by rw [h x h0 h1]; unfold gI; rw [List.getD_eq_getElem?_getD, List.getElem?_replicate, if_pos (by omega)]; rfl)
theorem mt_undecide (d : Nat) {h : List mC} {g : Nat} {n sz : Int} {ch ap pl wm lf rt ws rw pt wh on tw : List Int} {wo wt il dr : Int} {dn : List Int} (hM : MU h g n sz ch ap pl wm lf rt ws rw pt wh on tw wo wt il dr dn) : Ct (d + 0) mX4_undecide [mR g] h (fun r9 h9 => r9 = none ∧ MU h9 g n sz ch ap pl (List.replicate 7 (-9)) lf rt ws rw pt wh on tw wo wt il dr dn ∧ ∀ j : Nat, (j < g ∨ g + 14 ≤ j) → h9[j]? = h[j]?) := by
  have key : ∀ j : Nat, j ≤ 7 → ∀ (h1 : List mC) (wm : List Int) (x : Int), x = j → MU h1 g n sz ch ap pl wm lf rt ws rw pt wh on tw wo wt il dr dn → (∀ y : Int, 0 ≤ y → y < x → gI wm y = -9) → (∀ j : Nat, (j < g ∨ g + 14 ≤ j) → h1[j]? = h[j]?) → Wp (d + 0) mX4_undecide 2 [mR g, mI x] [] h1 (0, 0) (fun r9 h9 => r9 = none ∧ MU h9 g n sz ch ap pl (List.replicate 7 (-9)) lf rt ws rw pt wh on tw wo wt il dr dn ∧ ∀ j : Nat, (j < g ∨ g + 14 ≤ j) → h9[j]? = h[j]?) := by
    refine loop_up 7 _ ?_ ?_
    · intro h1 wm x hx hM hw hf
      obtain ⟨m0, m1, mch, map, mpl, mwm, mlf, mrt, mws, mrw, mpt, mwh, mon, mtw, mdn, lch, lap, lpl, lwm, llf, lrt, lws, lrw, lpt, lwh, lon, ltw, ldn, m8⟩ := id hM
      refine wp_il1 (q := 3) dX4_undecide_2 rfl (wp_bi (q := 5) dX4_undecide_3 rfl (by decide) (by decide) (wp_icmp_ge (t := 22) (q := 8) dX4_undecide_5 rfl rfl (fun c5 => ?_) (fun c5 => ?_)))
      · refine wp_vret dX4_undecide_22 rfl ?_
        refine ⟨rfl, ?_, hf⟩
        have e := gI_all (l := wm) (v := -9) (fun y y0 y1 => hw y y0 (by omega))
        rw [lwm] at e
        rw [← e]; exact hM
      · exfalso; omega
    · intro j hj ih h1 wm x hx hM hw hf
      obtain ⟨m0, m1, mch, map, mpl, mwm, mlf, mrt, mws, mrw, mpt, mwh, mon, mtw, mdn, lch, lap, lpl, lwm, llf, lrt, lws, lrw, lpt, lwh, lon, ltw, ldn, m8⟩ := id hM
      refine wp_il1 (q := 3) dX4_undecide_2 rfl (wp_bi (q := 5) dX4_undecide_3 rfl (by decide) (by decide) (wp_icmp_ge (t := 22) (q := 8) dX4_undecide_5 rfl rfl (fun c5 => ?_) (fun c5 => ?_)))
      · exfalso; omega
      · refine wp_al0 (q := 9) dX4_undecide_8 rfl (wp_getf (q := 12) dX4_undecide_9 rfl f27 m0 m1 rfl (fun z => nomatch z) (wp_il1 (q := 13) dX4_undecide_12 rfl (wp_bi (q := 15) dX4_undecide_13 rfl (by decide) (by decide) (wp_iastore (q := 16) dX4_undecide_15 rfl (by omega) mwm (by omega) (by omega) (wp_ii1 (q := 19) dX4_undecide_16 rfl rfl (by omega) (by omega) (wp_goto (q := 2) dX4_undecide_19 rfl ?_))))))
        refine ih _ (sI wm x (-9)) _ (by omega) (hM.sWm ((sI_len _ _ _).trans lwm)) (fun y y0 y1 => ?_) (fun j hj => by rw [fr_set (by omega)]; exact hf j hj)
        by_cases e : y = x
        · rw [e]; exact gI_eq (by omega) (by omega)
        · rw [gI_ne (by omega) y0 (by omega)]; exact hw y y0 (by omega)
  show Wp _ mX4_undecide 0 [mR g, mU] [] h (0, 0) _
  refine wp_ic (q := 1) dX4_undecide_0 rfl (by decide) (by decide) (wp_is1 (q := 2) dX4_undecide_1 rfl rfl ?_)
  exact key 0 (Nat.zero_le _) h wm 0 rfl hM (fun y y0 y1 => by omega) (fun _ _ => rfl)
theorem mt_sweep (d : Nat) {h : List mC} {g : Nat} {n sz : Int} {ch ap pl wm lf rt ws rw pt wh on tw : List Int} {wo wt il dr : Int} {dn : List Int} (hM : MU h g n sz ch ap pl wm lf rt ws rw pt wh on tw wo wt il dr dn) : Ct (d + 1) mX4_sweep [mR g] h (fun r9 h9 => r9 = none ∧ MU h9 g n sz ch ap (List.replicate 8 8) (List.replicate 7 (-9)) lf rt ws rw pt wh on tw wo wt il dr dn ∧ ∀ j : Nat, (j < g ∨ g + 14 ≤ j) → h9[j]? = h[j]?) := by
  have key : ∀ j : Nat, j ≤ 8 → ∀ (h1 : List mC) (pl : List Int) (x : Int), x = j → MU h1 g n sz ch ap pl wm lf rt ws rw pt wh on tw wo wt il dr dn → (∀ y : Int, 0 ≤ y → y < x → gI pl y = 8) → (∀ j : Nat, (j < g ∨ g + 14 ≤ j) → h1[j]? = h[j]?) → Wp (d + 1) mX4_sweep 2 [mR g, mI x] [] h1 (0, 0) (fun r9 h9 => r9 = none ∧ MU h9 g n sz ch ap (List.replicate 8 8) (List.replicate 7 (-9)) lf rt ws rw pt wh on tw wo wt il dr dn ∧ ∀ j : Nat, (j < g ∨ g + 14 ≤ j) → h9[j]? = h[j]?) := by
    refine loop_up 8 _ ?_ ?_
    · intro h1 pl x hx hM hw hf
      obtain ⟨m0, m1, mch, map, mpl, mwm, mlf, mrt, mws, mrw, mpt, mwh, mon, mtw, mdn, lch, lap, lpl, lwm, llf, lrt, lws, lrw, lpt, lwh, lon, ltw, ldn, m8⟩ := id hM
      refine wp_il1 (q := 3) dX4_sweep_2 rfl (wp_bi (q := 5) dX4_sweep_3 rfl (by decide) (by decide) (wp_icmp_ge (t := 22) (q := 8) dX4_sweep_5 rfl rfl (fun c5 => ?_) (fun c5 => ?_)))
      · refine wp_al0 (q := 23) dX4_sweep_22 rfl (wp_v0 (q := 26) dX4_sweep_23 rfl q120 (Nat.le_of_ble_eq_true rfl) rfl m0 m1 rfl rfl (mt_undecide d hM) (fun r9 h9 e9 => ?_))
        obtain ⟨rfl, hM9, hf9⟩ := e9
        show Wp _ _ _ _ [] _ _ _
        refine wp_vret dX4_sweep_26 rfl ?_
        refine ⟨rfl, ?_, fun j hj => by rw [hf9 j hj]; exact hf j hj⟩
        have e := gI_all (l := pl) (v := 8) (fun y y0 y1 => hw y y0 (by omega))
        rw [lpl] at e
        rw [← e]; exact hM9
      · exfalso; omega
    · intro j hj ih h1 pl x hx hM hw hf
      obtain ⟨m0, m1, mch, map, mpl, mwm, mlf, mrt, mws, mrw, mpt, mwh, mon, mtw, mdn, lch, lap, lpl, lwm, llf, lrt, lws, lrw, lpt, lwh, lon, ltw, ldn, m8⟩ := id hM
      refine wp_il1 (q := 3) dX4_sweep_2 rfl (wp_bi (q := 5) dX4_sweep_3 rfl (by decide) (by decide) (wp_icmp_ge (t := 22) (q := 8) dX4_sweep_5 rfl rfl (fun c5 => ?_) (fun c5 => ?_)))
      · exfalso; omega
      · refine wp_al0 (q := 9) dX4_sweep_8 rfl (wp_getf (q := 12) dX4_sweep_9 rfl f26 m0 m1 rfl (fun z => nomatch z) (wp_il1 (q := 13) dX4_sweep_12 rfl (wp_bi (q := 15) dX4_sweep_13 rfl (by decide) (by decide) (wp_iastore (q := 16) dX4_sweep_15 rfl (by omega) mpl (by omega) (by omega) (wp_ii1 (q := 19) dX4_sweep_16 rfl rfl (by omega) (by omega) (wp_goto (q := 2) dX4_sweep_19 rfl ?_))))))
        refine ih _ (sI pl x 8) _ (by omega) (hM.sPl ((sI_len _ _ _).trans lpl)) (fun y y0 y1 => ?_) (fun j hj => by rw [fr_set (by omega)]; exact hf j hj)
        by_cases e : y = x
        · rw [e]; exact gI_eq (by omega) (by omega)
        · rw [gI_ne (by omega) y0 (by omega)]; exact hw y y0 (by omega)
  show Wp _ mX4_sweep 0 [mR g, mU] [] h (0, 0) _
  refine wp_ic (q := 1) dX4_sweep_0 rfl (by decide) (by decide) (wp_is1 (q := 2) dX4_sweep_1 rfl rfl ?_)
  exact key 0 (Nat.zero_le _) h pl 0 rfl hM (fun y y0 y1 => by omega) (fun _ _ => rfl)
theorem mt_begin (d : Nat) {h : List mC} {g : Nat} {n sz : Int} {ch ap pl wm lf rt ws rw pt wh on tw : List Int} {wo wt il dr : Int} {dn : List Int} (hM : MU h g n sz ch ap pl wm lf rt ws rw pt wh on tw wo wt il dr dn) : Ct (d + 2) mX4_begin [mR g] h (fun r9 h9 => r9 = none ∧ MU h9 g n sz (List.replicate 64 6) (List.replicate 64 1) (List.replicate 8 8) (List.replicate 7 (-9)) lf rt ws rw pt wh on tw wo wt 0 dr dn ∧ ∀ j : Nat, (j < g ∨ g + 14 ≤ j) → h9[j]? = h[j]?) := by
  have key : ∀ j : Nat, j ≤ 64 → ∀ (h1 : List mC) (ch ap : List Int) (x : Int), x = j → MU h1 g n sz ch ap pl wm lf rt ws rw pt wh on tw wo wt il dr dn → (∀ y : Int, 0 ≤ y → y < x → gI ch y = 6) → (∀ y : Int, 0 ≤ y → y < x → gI ap y = 1) → (∀ j : Nat, (j < g ∨ g + 14 ≤ j) → h1[j]? = h[j]?) → Wp (d + 2) mX4_begin 2 [mR g, mI x] [] h1 (0, 0) (fun r9 h9 => r9 = none ∧ MU h9 g n sz (List.replicate 64 6) (List.replicate 64 1) (List.replicate 8 8) (List.replicate 7 (-9)) lf rt ws rw pt wh on tw wo wt 0 dr dn ∧ ∀ j : Nat, (j < g ∨ g + 14 ≤ j) → h9[j]? = h[j]?) := by
    refine loop_up 64 _ ?_ ?_
    · intro h1 ch ap x hx hM hw hw2 hf
      obtain ⟨m0, m1, mch, map, mpl, mwm, mlf, mrt, mws, mrw, mpt, mwh, mon, mtw, mdn, lch, lap, lpl, lwm, llf, lrt, lws, lrw, lpt, lwh, lon, ltw, ldn, m8⟩ := id hM
      have e := gI_all (l := ch) (v := 6) (fun y y0 y1 => hw y y0 (by omega))
      have e2 := gI_all (l := ap) (v := 1) (fun y y0 y1 => hw2 y y0 (by omega))
      rw [lch] at e
      rw [lap] at e2
      rw [e, e2] at hM
      obtain ⟨m0, m1, mch, map, mpl, mwm, mlf, mrt, mws, mrw, mpt, mwh, mon, mtw, mdn, lch, lap, lpl, lwm, llf, lrt, lws, lrw, lpt, lwh, lon, ltw, ldn, m8⟩ := id hM
      refine wp_il1 (q := 3) dX4_begin_2 rfl (wp_bi (q := 5) dX4_begin_3 rfl (by decide) (by decide) (wp_icmp_ge (t := 29) (q := 8) dX4_begin_5 rfl rfl (fun c5 => ?_) (fun c5 => ?_)))
      · refine wp_al0 (q := 30) dX4_begin_29 rfl (wp_v0 (q := 33) dX4_begin_30 rfl q119 (Nat.le_of_ble_eq_true rfl) rfl m0 m1 rfl rfl (mt_sweep d hM) (fun r9 h9 e9 => ?_))
        obtain ⟨rfl, hM9, hf9⟩ := e9
        obtain ⟨m0, m1, mch, map, mpl, mwm, mlf, mrt, mws, mrw, mpt, mwh, mon, mtw, mdn, lch, lap, lpl, lwm, llf, lrt, lws, lrw, lpt, lwh, lon, ltw, ldn, m8⟩ := id hM9
        show Wp _ _ _ _ [] _ _ _
        refine wp_al0 (q := 34) dX4_begin_33 rfl (wp_ic (q := 35) dX4_begin_34 rfl (by decide) (by decide) (wp_putf (q := 38) dX4_begin_35 rfl f38 m0 m1 (Nat.le_of_ble_eq_true rfl) (Or.inl rfl) (fun z => absurd z (by decide)) (wp_vret dX4_begin_38 rfl ?_)))
        exact ⟨rfl, hM9.sIl, fun j hj => by rw [fr_set (by omega), hf9 j hj]; exact hf j hj⟩
      · exfalso; omega
    · intro j hj ih h1 ch ap x hx hM hw hw2 hf
      obtain ⟨m0, m1, mch, map, mpl, mwm, mlf, mrt, mws, mrw, mpt, mwh, mon, mtw, mdn, lch, lap, lpl, lwm, llf, lrt, lws, lrw, lpt, lwh, lon, ltw, ldn, m8⟩ := id hM
      refine wp_il1 (q := 3) dX4_begin_2 rfl (wp_bi (q := 5) dX4_begin_3 rfl (by decide) (by decide) (wp_icmp_ge (t := 29) (q := 8) dX4_begin_5 rfl rfl (fun c5 => ?_) (fun c5 => ?_)))
      · exfalso; omega
      · refine wp_al0 (q := 9) dX4_begin_8 rfl (wp_getf (q := 12) dX4_begin_9 rfl f24 m0 m1 rfl (fun z => nomatch z) (wp_il1 (q := 13) dX4_begin_12 rfl (wp_bi (q := 15) dX4_begin_13 rfl (by decide) (by decide) (wp_iastore (q := 16) dX4_begin_15 rfl (by omega) mch (by omega) (by omega) ?_))))
        have hM := hM.sCh (x := sI ch x 6) (by rw [sI_len]; exact lch)
        obtain ⟨m0, m1, mch, map, mpl, mwm, mlf, mrt, mws, mrw, mpt, mwh, mon, mtw, mdn, lch, lap, lpl, lwm, llf, lrt, lws, lrw, lpt, lwh, lon, ltw, ldn, m8⟩ := id hM
        refine wp_al0 (q := 17) dX4_begin_16 rfl (wp_getf (q := 20) dX4_begin_17 rfl f25 m0 m1 rfl (fun z => nomatch z) (wp_il1 (q := 21) dX4_begin_20 rfl (wp_ic (q := 22) dX4_begin_21 rfl (by decide) (by decide) (wp_iastore (q := 23) dX4_begin_22 rfl (by omega) map (by omega) (by omega) (wp_ii1 (q := 26) dX4_begin_23 rfl rfl (by omega) (by omega) (wp_goto (q := 2) dX4_begin_26 rfl ?_))))))
        refine ih _ (sI ch x 6) (sI ap x 1) _ (by omega) (hM.sAp ((sI_len _ _ _).trans lap)) (fun y y0 y1 => ?_) (fun y y0 y1 => ?_) (fun j hj => by rw [fr_set (by omega), fr_set (by omega)]; exact hf j hj)
        · by_cases e : y = x
          · rw [e]; exact gI_eq (by omega) (by rw [sI_len] at lch; omega)
          · rw [gI_ne (by omega) y0 (by omega)]; exact hw y y0 (by omega)
        · by_cases e : y = x
          · rw [e]; exact gI_eq (by omega) (by omega)
          · rw [gI_ne (by omega) y0 (by omega)]; exact hw2 y y0 (by omega)
  show Wp _ mX4_begin 0 [mR g, mU] [] h (0, 0) _
  refine wp_ic (q := 1) dX4_begin_0 rfl (by decide) (by decide) (wp_is1 (q := 2) dX4_begin_1 rfl rfl ?_)
  exact key 0 (Nat.zero_le _) h ch ap 0 rfl hM (fun y y0 y1 => by omega) (fun y y0 y1 => by omega) (fun _ _ => rfl)
/-- the model's place of a player -/
def pcM (pl : List Int) (sz v : Int) : Int := if fndF (gI pl) v sz.toNat sz.toNat = -1 then -9 else fndF (gI pl) v sz.toNat sz.toNat
theorem mt_placeOf (d : Nat) {h : List mC} {g : Nat} {n sz : Int} {ch ap pl wm lf rt ws rw pt wh on tw : List Int} {wo wt il dr : Int} {dn : List Int} (hM : MU h g n sz ch ap pl wm lf rt ws rw pt wh on tw wo wt il dr dn) {v : Int} : Rt (d + 0) mX4_placeOf [mR g, mI v] h (some (mI (pcM pl sz v))) h := by
  obtain ⟨m0, m1, mch, map, mpl, mwm, mlf, mrt, mws, mrw, mpt, mwh, mon, mtw, mdn, lch, lap, lpl, lwm, llf, lrt, lws, lrw, lpt, lwh, lon, ltw, ldn, m8⟩ := id hM
  have key : ∀ (j : Nat), j ≤ sz.toNat → ∀ (x : Int), x = j → fndF (gI pl) v sz.toNat (sz.toNat - j) = fndF (gI pl) v sz.toNat sz.toNat → Wp (d + 0) mX4_placeOf 2 [mR g, mI v, mI x] [] h (0, 0) (fun r' h' => r' = some (mI (pcM pl sz v)) ∧ h' = h) := by
    unfold pcM
    generalize fndF (gI pl) v sz.toNat sz.toNat = T
    refine loop_up _ _ ?_ ?_
    · intro x hx hc
      rw [Nat.sub_self] at hc
      refine wp_il2 (q := 3) dX4_placeOf_2 rfl (wp_al0 (q := 4) dX4_placeOf_3 rfl (wp_getf (q := 7) dX4_placeOf_4 rfl f23 m0 m1 rfl (fun z => nomatch z) (wp_icmp_ge (t := 28) (q := 10) dX4_placeOf_7 rfl rfl (fun c7 => ?_) (fun c7 => ?_))))
      · refine wp_bi (q := 30) dX4_placeOf_28 rfl (by decide) (by decide) (wp_iret dX4_placeOf_30 rfl ?_)
        exact ⟨rI (by rw [← hc]; rfl), rfl⟩
      · exfalso; omega
    · intro j hj ih x hx hc
      have e0 : sz.toNat - j = (sz.toNat - (j + 1)) + 1 := by omega
      rw [e0] at hc
      unfold fndF at hc
      have e1 : ((sz.toNat - (sz.toNat - (j + 1) + 1) : Nat) : Int) = x := by omega
      rw [e1] at hc
      refine wp_il2 (q := 3) dX4_placeOf_2 rfl (wp_al0 (q := 4) dX4_placeOf_3 rfl (wp_getf (q := 7) dX4_placeOf_4 rfl f23 m0 m1 rfl (fun z => nomatch z) (wp_icmp_ge (t := 28) (q := 10) dX4_placeOf_7 rfl rfl (fun c7 => ?_) (fun c7 => ?_))))
      · exfalso; omega
      · refine wp_al0 (q := 11) dX4_placeOf_10 rfl (wp_getf (q := 14) dX4_placeOf_11 rfl f26 m0 m1 rfl (fun z => nomatch z) (wp_il2 (q := 15) dX4_placeOf_14 rfl (wp_iaload (q := 16) dX4_placeOf_15 rfl mpl (by omega) (by omega) (wp_il1 (q := 17) dX4_placeOf_16 rfl (wp_icmp_ne (t := 22) (q := 20) dX4_placeOf_17 rfl rfl (fun c17 => ?_) (fun c17 => ?_))))))
        · have c17 : ¬ gI pl x = v := c17
          rw [if_neg c17] at hc
          refine wp_ii2 (q := 25) dX4_placeOf_22 rfl rfl (by omega) (by omega) (wp_goto (q := 2) dX4_placeOf_25 rfl ?_)
          exact ih _ (by omega) hc
        · have c17 : gI pl x = v := c17
          rw [if_pos c17] at hc
          refine wp_il2 (q := 21) dX4_placeOf_20 rfl (wp_iret dX4_placeOf_21 rfl ?_)
          exact ⟨rI (by rw [← hc, if_neg (by omega)]), rfl⟩
  show Wp _ mX4_placeOf 0 [mR g, mI v, mU] [] h (0, 0) _
  refine wp_ic (q := 1) dX4_placeOf_0 rfl (by decide) (by decide) (wp_is2 (q := 2) dX4_placeOf_1 rfl rfl ?_)
  exact key 0 (Nat.zero_le _) 0 rfl rfl
