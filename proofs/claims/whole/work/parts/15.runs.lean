/-! the owed statements that work a program out -/
theorem i_vc_whole {k : Nat} {u : SX} {v : SY} (I : i_Rel k u v) (hk : k + 5 ≤ 2560) : wpX_whole (fun r => wpY_whole (fun r' v' => r' = r ∧ i_Rel (k + 5) u v') v) u := by
  obtain ⟨n, H, D, O, xT, xR, yT, yR, hh, op, tp, dp, ce, sz, K, A, hA, dA, oA, C, sx, tb, rh, oc, kr, kn, tm, fl, sy, bg, ra, fd, vl, sn, rfl, rfl, P, hs⟩ := I
  obtain ⟨fl', W⟩ := rq_yWhole (hh := hh) (op := op) (fl := fl) (tp := tp) (aT := yT) (aR := yR) (dp := dp) (sz := sz) (ce := ce) (sy := sy) (tm := tm) (bg := bg) (ra := ra) (fd := fd) (vl := vl) (sn := sn) P
  unfold wpX_whole
  refine rq_xIsWhole P (fun z => br_f (by decide) ?_) (fun z => br_t rfl ?_)
  · exact W _ (fun _ => ⟨rfl, rq_mk _ P hs⟩) (fun y => absurd z y)
  · exact W _ (fun y => absurd y z) (fun _ => ⟨rfl, rq_mk _ P hs⟩)
theorem i_vc_result {k : Nat} {u : SX} {v : SY} (I : i_Rel k u v) (hk : k + 5 ≤ 2560) : wpX_result (fun r u' => wpY_result (fun r' v' => r' = r ∧ i_Rel (k + 5) u' v') v) u := by
  obtain ⟨n, H, D, O, xT, xR, yT, yR, hh, op, tp, dp, ce, sz, K, A, hA, dA, oA, C, sx, tb, rh, oc, kr, kn, tm, fl, sy, bg, ra, fd, vl, sn, rfl, rfl, P, hs⟩ := I
  obtain ⟨fl', W⟩ := rq_yWhole (hh := hh) (op := op) (fl := fl) (tp := tp) (aT := yT) (aR := yR) (dp := dp) (sz := sz) (ce := ce) (sy := sy) (tm := tm) (bg := bg) (ra := ra) (fd := fd) (vl := vl) (sn := sn) P
  unfold wpX_result
  refine rq_xIsWhole P (fun z => br_f (by decide) ?_) (fun z => br_t rfl ?_)
  · obtain ⟨sx', tb', rh', oc', kr', kn', tm', sy', bg', ra', fd', vl', sn', tp', dp', he, gX, gY⟩ := rq_eval (hh := nI (H n)) (op := nI (D n)) (fl := fl') (aT := -1) (aR := -1) (xT := xT) (xR := xR) (yT := yT) (yR := yR) (tp := tp) (dp := dp) (ce := ce) (sz := sz) (sx := sx) (tb := tb) (rh := rh) (oc := oc) (kr := kr) (kn := kn) (tm := tm) (sy := sy) (bg := bg) (ra := ra) (fd := fd) (vl := vl) (sn := sn) P z.1 z.2 hs
    refine gX _ ?_
    unfold wpY_result
    refine W _ (fun _ => br_f (by decide) ?_) (fun y => absurd z y)
    refine gY _ ?_
    exact ⟨he.symm, rq_mk _ P hs⟩
  · unfold wpY_result
    refine W _ (fun y => absurd y z) (fun _ => br_t rfl ?_)
    exact ⟨rfl, rq_mk _ P hs⟩
theorem i_vc_reached {k : Nat} {u : SX} {v : SY} (I : i_Rel k u v) (hk : k + 5 ≤ 2560) (v1 : Int32) : wpX_reached (fun r u' => wpY_reached (fun r' v' => r' = r ∧ i_Rel (k + 5) u' v') v v1) u v1 := by
  obtain ⟨n, H, D, O, xT, xR, yT, yR, hh, op, tp, dp, ce, sz, K, A, hA, dA, oA, C, sx, tb, rh, oc, kr, kn, tm, fl, sy, bg, ra, fd, vl, sn, rfl, rfl, P, hs⟩ := I
  have hn := P.1
  obtain ⟨fl', W⟩ := rq_yWhole (hh := hh) (op := op) (fl := fl) (tp := tp) (aT := yT) (aR := yR) (dp := dp) (sz := sz) (ce := ce) (sy := sy) (tm := tm) (bg := bg) (ra := ra) (fd := fd) (vl := vl) (sn := sn) P
  unfold wpX_reached
  refine rq_xIsWhole P (fun z => br_f (by decide) ?_) (fun z => br_t rfl ?_)
  · rcases pk_ix v1 (n := n) (by omega) with y | y | ⟨j, hj, rfl⟩
    · refine br_t y ?_
      unfold wpY_reached
      refine W _ (fun _ => br_f (by decide) (br_t y ?_)) (fun y => absurd z y)
      exact ⟨rfl, rq_mk _ P hs⟩
    · have y' : ¬ v1 < nI n := Int32.not_lt.mpr y
      refine br_c (fun w => ?_) (fun w => br_f y' ?_)
      · unfold wpY_reached
        refine W _ (fun _ => br_f (by decide) (br_t w ?_)) (fun y => absurd z y)
        exact ⟨rfl, rq_mk _ P hs⟩
      · unfold wpY_reached
        refine W _ (fun _ => br_f (by decide) (br_f w (br_f y' ?_))) (fun y => absurd z y)
        exact ⟨rfl, rq_mk _ P hs⟩
    · obtain ⟨sx', tb', rh', oc', kr', kn', tm', sy', bg', ra', fd', vl', sn', tp', dp', he, gX, gY⟩ := rq_eval (hh := nI (H n)) (op := nI (D n)) (fl := fl') (aT := -1) (aR := -1) (xT := xT) (xR := xR) (yT := yT) (yR := yR) (tp := tp) (dp := dp) (ce := ce) (sz := sz) (sx := sx) (tb := tb) (rh := rh) (oc := oc) (kr := kr) (kn := kn) (tm := tm) (sy := sy) (bg := bg) (ra := ra) (fd := fd) (vl := vl) (sn := sn) P z.1 z.2 hs
      refine br_f (nI_pos (by omega)) (br_t (nI_lt hj (by omega)) ?_)
      refine gX _ ?_
      refine ⟨vp_in_nI (by omega) (by omega), ?_⟩
      unfold wpY_reached
      refine W _ (fun _ => br_f (by decide) (br_f (nI_pos (by omega)) (br_t (nI_lt hj (by omega)) ?_))) (fun y => absurd z y)
      refine gY _ ?_
      refine ⟨vp_in_nI (by omega) (by omega), ?_⟩
      exact ⟨rfl, rq_mk _ P hs⟩
  · unfold wpY_reached
    refine W _ (fun y => absurd y z) (fun _ => br_t rfl ?_)
    exact ⟨rfl, rq_mk _ P hs⟩
theorem i_vc_without {k : Nat} {u : SX} {v : SY} (I : i_Rel k u v) (hk : k + 5 ≤ 2560) (v1 : Int32) (v2 : Int32) : wpX_without (fun r u' => wpY_without (fun r' v' => r' = r ∧ i_Rel (k + 5) u' v') v v1 v2) u v1 v2 := by
  obtain ⟨n, H, D, O, xT, xR, yT, yR, hh, op, tp, dp, ce, sz, K, A, hA, dA, oA, C, sx, tb, rh, oc, kr, kn, tm, fl, sy, bg, ra, fd, vl, sn, rfl, rfl, P, hs⟩ := I
  have hn := P.1
  obtain ⟨fl', W⟩ := rq_yWhole (hh := hh) (op := op) (fl := fl) (tp := tp) (aT := yT) (aR := yR) (dp := dp) (sz := sz) (ce := ce) (sy := sy) (tm := tm) (bg := bg) (ra := ra) (fd := fd) (vl := vl) (sn := sn) P
  unfold wpX_without
  refine rq_xIsWhole P (fun z => br_f (by decide) ?_) (fun z => br_t rfl ?_)
  · by_cases h : ∃ a, a < 3 ∧ v1 = nI a
    · obtain ⟨a, ha, rfl⟩ := h
      obtain ⟨s, h6, es⟩ := hs a ha
      refine rq_xTabT ha (br_f (by decide) ?_)
      by_cases c : ∃ q, q < s ∧ v2 = nI q
      · obtain ⟨q, hq, rfl⟩ := c
        refine rq_xRowT ha es h6 hq (br_f (by decide) ?_)
        obtain ⟨sx', tb', rh', oc', kr', kn', tm', sy', bg', ra', fd', vl', sn', tp', dp', he, gX, gY⟩ := rq_eval (hh := nI (H n)) (op := nI (D n)) (fl := fl') (aT := nI a) (aR := nI q) (xT := xT) (xR := xR) (yT := yT) (yR := yR) (tp := tp) (dp := dp) (ce := ce) (sz := sz) (sx := sx) (tb := tb) (rh := rh) (oc := oc) (kr := kr) (kn := kn) (tm := tm) (sy := sy) (bg := bg) (ra := ra) (fd := fd) (vl := vl) (sn := sn) P z.1 z.2 hs
        refine gX _ ?_
        unfold wpY_without
        refine W _ (fun _ => br_f (by decide) ?_) (fun y => absurd z y)
        refine rq_yRowT ha es h6 hq (br_f (by decide) ?_)
        refine gY _ ?_
        exact ⟨he.symm, rq_mk _ P hs⟩
      · refine rq_xRowF ha es h6 c (br_t rfl ?_)
        unfold wpY_without
        refine W _ (fun _ => br_f (by decide) ?_) (fun y => absurd z y)
        refine rq_yRowF ha es h6 c (br_t rfl ?_)
        exact ⟨rfl, rq_mk _ P hs⟩
    · refine rq_xTabF h (br_t rfl ?_)
      unfold wpY_without
      refine W _ (fun _ => br_f (by decide) ?_) (fun y => absurd z y)
      refine rq_yRowN h (br_t rfl ?_)
      exact ⟨rfl, rq_mk _ P hs⟩
  · unfold wpY_without
    refine W _ (fun y => absurd y z) (fun _ => br_t rfl ?_)
    exact ⟨rfl, rq_mk _ P hs⟩
theorem rq_ixX (a q c : Nat) : (nI a * 6 + nI q) * 3 + nI c = nI (18 * a + 3 * q + c) := by
  simp only [rq_c6, rq_c3, pk_mul, nI_add, rq_ix]
theorem rq_ixY (a q c : Nat) : (18 * nI a + 3 * nI q) + nI c = nI (18 * a + 3 * q + c) := by
  simp only [rq_c18, rq_c3, pk_mul, nI_add]
theorem i_vc_store {k : Nat} {u : SX} {v : SY} (I : i_Rel k u v) (hk : k + 5 ≤ 2560) (v1 : Int32) (v2 : Int32) (v3 : Int32) : wpX_store (fun r u' => wpY_store (fun r' v' => r' = r ∧ i_Rel (k + 5) u' v') v v1 v2 v3) u v1 v2 v3 := by
  obtain ⟨n, H, D, O, xT, xR, yT, yR, hh, op, tp, dp, ce, sz, K, A, hA, dA, oA, C, sx, tb, rh, oc, kr, kn, tm, fl, sy, bg, ra, fd, vl, sn, rfl, rfl, P, hs⟩ := I
  have hn := P.1
  unfold wpX_store
  by_cases h : ∃ a, a < 3 ∧ v1 = nI a
  · obtain ⟨a, ha, rfl⟩ := h
    obtain ⟨s, h6, es⟩ := hs a ha
    refine rq_xTabT ha (br_f (by decide) ?_)
    by_cases c : ∃ c, c < 3 ∧ v3 = nI c
    · obtain ⟨c, hc, rfl⟩ := c
      have c2 : nI c ≤ 2 := nI_le (b := 2) (by omega) (by decide)
      refine rq_xColT hc (br_f (by decide) ?_)
      by_cases w : ∃ q, q < s ∧ v2 = nI q
      · obtain ⟨q, hq, rfl⟩ := w
        refine rq_xRowT ha es h6 hq (br_f (by decide) ?_)
        obtain ⟨fl', W⟩ := rq_yWhole (hh := hh) (op := op) (fl := fl) (tp := tp) (aT := yT) (aR := yR) (dp := dp) (sz := sz) (ce := ce) (sy := sy) (tm := tm) (bg := bg) (ra := ra) (fd := fd) (vl := vl) (sn := sn) P
        refine rq_xIsWhole P (fun z => br_f (by decide) ?_) (fun z => br_t rfl ?_)
        · obtain ⟨fl2, W2⟩ := rq_yWhole (hh := nI (H n)) (op := nI (D n)) (fl := fl') (tp := tp) (aT := yT) (aR := yR) (dp := dp) (sz := sz) (ce := ce) (sy := sy) (tm := tm) (bg := bg) (ra := ra) (fd := fd) (vl := vl) (sn := sn) P
          obtain ⟨sx', tb', rh', oc', kr', kn', tm', sy', bg', ra', fd', vl', sn', tp', dp', he, gX, gY⟩ := rq_eval (hh := nI (H n)) (op := nI (D n)) (fl := fl2) (aT := -1) (aR := -1) (xT := xT) (xR := xR) (yT := yT) (yR := yR) (tp := tp) (dp := dp) (ce := ce) (sz := sz) (sx := sx) (tb := tb) (rh := rh) (oc := oc) (kr := kr) (kn := kn) (tm := tm) (sy := sy) (bg := bg) (ra := ra) (fd := fd) (vl := vl) (sn := sn) P z.1 z.2 hs
          refine gX _ ?_
          unfold wpX_cellIndex
          refine ⟨by rw [rq_ixX]; exact vp_in_nI (by omega) (by omega), nm_r (e' := upd ce (18 * a + 3 * q + c) (sx' 0)) (by rw [rq_ixX, nI_clamp (by omega)]) ?_⟩
          unfold wpY_store
          refine rq_yTabT ha (br_f (by decide) (br_f (nI_pos (by omega)) (br_t c2 ?_)))
          refine rq_yRowT ha es h6 hq (br_f (by decide) ?_)
          refine W _ (fun _ => br_f (by decide) ?_) (fun y => absurd z y)
          unfold wpY_result
          refine W2 _ (fun _ => br_f (by decide) ?_) (fun y => absurd z y)
          refine gY _ ?_
          refine ⟨by rw [rq_ixY]; exact vp_in_nI (by omega) (by omega), nm_r (e' := upd ce (18 * a + 3 * q + c) (sx' 0)) (by rw [rq_ixY, nI_clamp (by omega), he]) ?_⟩
          exact ⟨rfl, rq_mk _ P hs⟩
        · unfold wpY_store
          refine rq_yTabT ha (br_f (by decide) (br_f (nI_pos (by omega)) (br_t c2 ?_)))
          refine rq_yRowT ha es h6 hq (br_f (by decide) ?_)
          refine W _ (fun y => absurd y z) (fun _ => br_t rfl ?_)
          exact ⟨rfl, rq_mk _ P hs⟩
      · refine rq_xRowF ha es h6 w (br_t rfl ?_)
        unfold wpY_store
        refine rq_yTabT ha (br_f (by decide) (br_f (nI_pos (by omega)) (br_t c2 ?_)))
        refine rq_yRowF ha es h6 w (br_t rfl ?_)
        exact ⟨rfl, rq_mk _ P hs⟩
    · refine rq_xColF c (br_t rfl ?_)
      unfold wpY_store
      refine rq_yTabT ha (br_f (by decide) ?_)
      rcases pk_ix v3 (n := 3) (by decide) with y | y | y
      · exact br_t y ⟨rfl, rq_mk _ P hs⟩
      · exact br_c (fun _ => ⟨rfl, rq_mk _ P hs⟩) (fun _ => br_f (Int32.not_le.mpr (rq_lt2 y)) ⟨rfl, rq_mk _ P hs⟩)
      · exact absurd y c
  · refine rq_xTabF h (br_t rfl ?_)
    unfold wpY_store
    refine rq_yTabF h (br_t rfl ?_)
    exact ⟨rfl, rq_mk _ P hs⟩
