/-! the owed statements but for token -/
section
variable {tc aT aR : Int32} {ce sz K A hA dA oA C sx tb rh oc kr kn tm : Nat → Int32}
theorem rq_xAdd {post : Int32 → SX → Prop} {a s : Nat} {v2 v3 v4 : Int32} (ha : a < 3) (hs : sz a = nI s) (h : s < 6)
    (hp : post (nI (s + 1)) (tc, aT, aR, upd (upd (upd ce (18 * a + 3 * s) v2) (18 * a + 3 * s + 1) v3) (18 * a + 3 * s + 2) v4, upd sz a (nI (s + 1)), K, A, hA, dA, oA, C, sx, tb, rh, oc, kr, kn, tm)) : wpX_add post (tc, aT, aR, ce, sz, K, A, hA, dA, oA, C, sx, tb, rh, oc, kr, kn, tm) (nI a) v2 v3 v4 := by
  unfold wpX_add
  refine rq_xTabT ha ?_
  unfold wpX_cellIndex
  simp (disch := omega) only [forall_eq, vp_in_nI, nI_clamp, rq_c0, rq_c1, rq_c2, rq_c3, rq_c6, rq_c7, rq_c8, rq_c9, rq_c10, rq_c11, rq_c12, rq_c13, rq_c14, rq_c15, rq_c16, rq_c17, rq_c18, rq_c48, rq_c99, rq_c10368, rq_c30000, rq_eqT, rq_eqF, rq_leT, rq_leF, rq_ltT, rq_ltF, rq_neg, nI_add, pk_mul, pk_sub, pk_div, true_and, and_true, true_implies, false_implies, implies_true, not_true_eq_false, not_false_eq_true, pk_us, Nat.add_sub_cancel, eq_self, hs, rq_ix0]
  exact hp
theorem rq_xAdd6 {post : Int32 → SX → Prop} {a : Nat} {v2 v3 v4 : Int32} (ha : a < 3) (hs : sz a = nI 6) (hp : post (-2) (tc, aT, aR, ce, sz, K, A, hA, dA, oA, C, sx, tb, rh, oc, kr, kn, tm)) : wpX_add post (tc, aT, aR, ce, sz, K, A, hA, dA, oA, C, sx, tb, rh, oc, kr, kn, tm) (nI a) v2 v3 v4 := by
  unfold wpX_add
  refine rq_xTabT ha ?_
  unfold wpX_cellIndex
  simp (disch := omega) only [forall_eq, vp_in_nI, nI_clamp, rq_c0, rq_c1, rq_c2, rq_c3, rq_c6, rq_c7, rq_c8, rq_c9, rq_c10, rq_c11, rq_c12, rq_c13, rq_c14, rq_c15, rq_c16, rq_c17, rq_c18, rq_c48, rq_c99, rq_c10368, rq_c30000, rq_eqT, rq_eqF, rq_leT, rq_leF, rq_ltT, rq_ltF, rq_neg, nI_add, pk_mul, pk_sub, pk_div, true_and, and_true, true_implies, false_implies, implies_true, not_true_eq_false, not_false_eq_true, pk_us, Nat.add_sub_cancel, eq_self, hs]
  exact hp
def rq_sh : (Nat → Int32) → Nat → Nat → (Nat → Int32)
  | f, _, 0 => f
  | f, i, m + 1 => rq_sh (upd f i (f (i + 3))) (i + 1) m
theorem rq_xRem {post : Int32 → SX → Prop} {a s e : Nat} (ha : a < 3) (hs : sz a = nI (s + 1)) (h6 : s ≤ 5) (he : e + 3 ≤ 54) : ∀ (m j : Nat) (ce : Nat → Int32), j + m = e →
    post (nI s) (tc, aT, aR, rq_sh ce j m, upd sz a (nI s), K, A, hA, dA, oA, C, sx, tb, rh, oc, kr, kn, tm) → wX_remove_43 post (nI a) (nI e) tc aT aR (m + 1) (nI j) ce sz K A hA dA oA C sx tb rh oc kr kn tm := by
  intro m
  induction m with
  | zero =>
    intro j ce hj hp
    rw [wX_remove_43]
    simp (disch := omega) only [forall_eq, vp_in_nI, nI_clamp, rq_c0, rq_c1, rq_c2, rq_c3, rq_c6, rq_c7, rq_c8, rq_c9, rq_c10, rq_c11, rq_c12, rq_c13, rq_c14, rq_c15, rq_c16, rq_c17, rq_c18, rq_c48, rq_c99, rq_c10368, rq_c30000, rq_eqT, rq_eqF, rq_leT, rq_leF, rq_ltT, rq_ltF, rq_neg, nI_add, pk_mul, pk_sub, pk_div, true_and, and_true, true_implies, false_implies, implies_true, not_true_eq_false, not_false_eq_true, pk_us, Nat.add_sub_cancel, eq_self, hs]
    exact hp
  | succ m ih =>
    intro j ce hj hp
    rw [wX_remove_43]
    simp (disch := omega) only [forall_eq, vp_in_nI, nI_clamp, rq_c0, rq_c1, rq_c2, rq_c3, rq_c6, rq_c7, rq_c8, rq_c9, rq_c10, rq_c11, rq_c12, rq_c13, rq_c14, rq_c15, rq_c16, rq_c17, rq_c18, rq_c48, rq_c99, rq_c10368, rq_c30000, rq_eqT, rq_eqF, rq_leT, rq_leF, rq_ltT, rq_ltF, rq_neg, nI_add, pk_mul, pk_sub, pk_div, true_and, and_true, true_implies, false_implies, implies_true, not_true_eq_false, not_false_eq_true, pk_us, Nat.add_sub_cancel, eq_self]
    exact ih (j + 1) _ (by omega) hp
theorem rq_xRemove {post : Int32 → SX → Prop} {a s q : Nat} (ha : a < 3) (hs : sz a = nI (s + 1)) (h6 : s ≤ 5) (hq : q ≤ s)
    (hp : post (nI s) (tc, aT, aR, rq_sh ce (18 * a + 3 * q) (3 * s - 3 * q), upd sz a (nI s), K, A, hA, dA, oA, C, sx, tb, rh, oc, kr, kn, tm)) : wpX_remove post (tc, aT, aR, ce, sz, K, A, hA, dA, oA, C, sx, tb, rh, oc, kr, kn, tm) (nI a) (nI q) := by
  unfold wpX_remove
  refine rq_xTabT ha (br_f (by decide) ?_)
  refine rq_xRowT ha hs (by omega) (by omega) (br_f (by decide) ?_)
  unfold wpX_cellIndex
  simp (disch := omega) only [forall_eq, vp_in_nI, nI_clamp, rq_c0, rq_c1, rq_c2, rq_c3, rq_c6, rq_c7, rq_c8, rq_c9, rq_c10, rq_c11, rq_c12, rq_c13, rq_c14, rq_c15, rq_c16, rq_c17, rq_c18, rq_c48, rq_c99, rq_c10368, rq_c30000, rq_eqT, rq_eqF, rq_leT, rq_leF, rq_ltT, rq_ltF, rq_neg, nI_add, pk_mul, pk_sub, pk_div, true_and, and_true, true_implies, false_implies, implies_true, not_true_eq_false, not_false_eq_true, pk_us, Nat.add_sub_cancel, eq_self, hs, rq_ix0]
  exact ⟨_, rq_xRem ha hs h6 (by omega) (3 * s - 3 * q) (18 * a + 3 * q) ce (by omega) hp⟩
end
section
variable {tc hh op tp aT aR dp : Int32} {sz ce K A fl sy tm bg ra fd vl sn : Nat → Int32}
theorem rq_yAdd {post : Int32 → SY → Prop} {a s : Nat} {v2 v3 v4 : Int32} (ha : a < 3) (hs : sz a = nI s) (h : s < 6)
    (hp : post (nI (s + 1)) (tc, hh, op, tp, aT, aR, dp, upd sz a (nI (s + 1)), upd (upd (upd ce (18 * a + 3 * s) v2) (18 * a + 3 * s + 1) v3) (18 * a + 3 * s + 2) v4, K, A, fl, sy, tm, bg, ra, fd, vl, sn)) : wpY_add post (tc, hh, op, tp, aT, aR, dp, sz, ce, K, A, fl, sy, tm, bg, ra, fd, vl, sn) (nI a) v2 v3 v4 := by
  unfold wpY_add
  refine rq_yTabT ha ?_
  simp (disch := omega) only [forall_eq, vp_in_nI, nI_clamp, rq_c0, rq_c1, rq_c2, rq_c3, rq_c6, rq_c7, rq_c8, rq_c9, rq_c10, rq_c11, rq_c12, rq_c13, rq_c14, rq_c15, rq_c16, rq_c17, rq_c18, rq_c48, rq_c99, rq_c10368, rq_c30000, rq_eqT, rq_eqF, rq_leT, rq_leF, rq_ltT, rq_ltF, rq_neg, nI_add, pk_mul, pk_sub, pk_div, true_and, and_true, true_implies, false_implies, implies_true, not_true_eq_false, not_false_eq_true, pk_us, Nat.add_sub_cancel, eq_self, hs]
  exact hp
theorem rq_yAdd6 {post : Int32 → SY → Prop} {a : Nat} {v2 v3 v4 : Int32} (ha : a < 3) (hs : sz a = nI 6) (hp : post (-2) (tc, hh, op, tp, aT, aR, dp, sz, ce, K, A, fl, sy, tm, bg, ra, fd, vl, sn)) : wpY_add post (tc, hh, op, tp, aT, aR, dp, sz, ce, K, A, fl, sy, tm, bg, ra, fd, vl, sn) (nI a) v2 v3 v4 := by
  unfold wpY_add
  refine rq_yTabT ha ?_
  simp (disch := omega) only [forall_eq, vp_in_nI, nI_clamp, rq_c0, rq_c1, rq_c2, rq_c3, rq_c6, rq_c7, rq_c8, rq_c9, rq_c10, rq_c11, rq_c12, rq_c13, rq_c14, rq_c15, rq_c16, rq_c17, rq_c18, rq_c48, rq_c99, rq_c10368, rq_c30000, rq_eqT, rq_eqF, rq_leT, rq_leF, rq_ltT, rq_ltF, rq_neg, nI_add, pk_mul, pk_sub, pk_div, true_and, and_true, true_implies, false_implies, implies_true, not_true_eq_false, not_false_eq_true, pk_us, Nat.add_sub_cancel, eq_self, hs]
  exact hp
theorem rq_yRem {post : Int32 → SY → Prop} {a s e : Nat} (ha : a < 3) (hs : sz a = nI s) (h6 : s ≤ 5) (he : e = 18 * a + 3 * s) : ∀ (m j : Nat) (ce : Nat → Int32), j + m = e →
    post (nI s) (tc, hh, op, tp, aT, aR, dp, sz, rq_sh ce j m, K, A, fl, sy, tm, bg, ra, fd, vl, sn) → wY_remove_41 post (nI a) tc hh op tp aT aR dp (m + 1) (nI j) sz ce K A fl sy tm bg ra fd vl sn := by
  intro m
  induction m with
  | zero =>
    intro j ce hj hp
    rw [wY_remove_41]
    simp (disch := omega) only [forall_eq, vp_in_nI, nI_clamp, rq_c0, rq_c1, rq_c2, rq_c3, rq_c6, rq_c7, rq_c8, rq_c9, rq_c10, rq_c11, rq_c12, rq_c13, rq_c14, rq_c15, rq_c16, rq_c17, rq_c18, rq_c48, rq_c99, rq_c10368, rq_c30000, rq_eqT, rq_eqF, rq_leT, rq_leF, rq_ltT, rq_ltF, rq_neg, nI_add, pk_mul, pk_sub, pk_div, true_and, and_true, true_implies, false_implies, implies_true, not_true_eq_false, not_false_eq_true, pk_us, Nat.add_sub_cancel, eq_self, hs]
    exact hp
  | succ m ih =>
    intro j ce hj hp
    rw [wY_remove_41]
    simp (disch := omega) only [forall_eq, vp_in_nI, nI_clamp, rq_c0, rq_c1, rq_c2, rq_c3, rq_c6, rq_c7, rq_c8, rq_c9, rq_c10, rq_c11, rq_c12, rq_c13, rq_c14, rq_c15, rq_c16, rq_c17, rq_c18, rq_c48, rq_c99, rq_c10368, rq_c30000, rq_eqT, rq_eqF, rq_leT, rq_leF, rq_ltT, rq_ltF, rq_neg, nI_add, pk_mul, pk_sub, pk_div, true_and, and_true, true_implies, false_implies, implies_true, not_true_eq_false, not_false_eq_true, pk_us, Nat.add_sub_cancel, eq_self, hs]
    exact ih (j + 1) _ (by omega) hp
theorem rq_yRemove {post : Int32 → SY → Prop} {a s q : Nat} (ha : a < 3) (hs : sz a = nI (s + 1)) (h6 : s ≤ 5) (hq : q ≤ s)
    (hp : post (nI s) (tc, hh, op, tp, aT, aR, dp, upd sz a (nI s), rq_sh ce (18 * a + 3 * q) (3 * s - 3 * q), K, A, fl, sy, tm, bg, ra, fd, vl, sn)) : wpY_remove post (tc, hh, op, tp, aT, aR, dp, sz, ce, K, A, fl, sy, tm, bg, ra, fd, vl, sn) (nI a) (nI q) := by
  unfold wpY_remove
  refine rq_yTabT ha (br_f (by decide) ?_)
  refine rq_yRowT ha hs (by omega) (by omega) (br_f (by decide) ?_)
  simp (disch := omega) only [forall_eq, vp_in_nI, nI_clamp, rq_c0, rq_c1, rq_c2, rq_c3, rq_c6, rq_c7, rq_c8, rq_c9, rq_c10, rq_c11, rq_c12, rq_c13, rq_c14, rq_c15, rq_c16, rq_c17, rq_c18, rq_c48, rq_c99, rq_c10368, rq_c30000, rq_eqT, rq_eqF, rq_leT, rq_leF, rq_ltT, rq_ltF, rq_neg, nI_add, pk_mul, pk_sub, pk_div, true_and, and_true, true_implies, false_implies, implies_true, not_true_eq_false, not_false_eq_true, pk_us, Nat.add_sub_cancel, eq_self, hs]
  exact ⟨_, rq_yRem ha pk_us h6 rfl (3 * s - 3 * q) (18 * a + 3 * q) ce (by omega) hp⟩
end
theorem i_vc_add {k : Nat} {u : SX} {v : SY} (I : i_Rel k u v) (hk : k + 5 ≤ 2560) (v1 : Int32) (v2 : Int32) (v3 : Int32) (v4 : Int32) : wpX_add (fun r u' => wpY_add (fun r' v' => r' = r ∧ i_Rel (k + 5) u' v') v v1 v2 v3 v4) u v1 v2 v3 v4 := by
  obtain ⟨n, H, D, O, xT, xR, yT, yR, hh, op, tp, dp, ce, sz, K, A, hA, dA, oA, C, sx, tb, rh, oc, kr, kn, tm, fl, sy, bg, ra, fd, vl, sn, rfl, rfl, P, hs⟩ := I
  by_cases h : ∃ a, a < 3 ∧ v1 = nI a
  · obtain ⟨a, ha, rfl⟩ := h
    obtain ⟨s, h6, es⟩ := hs a ha
    by_cases z : s < 6
    · exact rq_xAdd ha es z (rq_yAdd ha es z ⟨rfl, rq_mk _ P (rq_szU hs (by omega))⟩)
    · have e : s = 6 := by omega
      subst e
      exact rq_xAdd6 ha es (rq_yAdd6 ha es ⟨rfl, rq_mk _ P hs⟩)
  · unfold wpX_add
    refine rq_xTabF h (br_t rfl ?_)
    unfold wpY_add
    refine rq_yTabF h (br_t rfl ?_)
    exact ⟨rfl, rq_mk _ P hs⟩
theorem i_vc_remove {k : Nat} {u : SX} {v : SY} (I : i_Rel k u v) (hk : k + 5 ≤ 2560) (v1 : Int32) (v2 : Int32) : wpX_remove (fun r u' => wpY_remove (fun r' v' => r' = r ∧ i_Rel (k + 5) u' v') v v1 v2) u v1 v2 := by
  obtain ⟨n, H, D, O, xT, xR, yT, yR, hh, op, tp, dp, ce, sz, K, A, hA, dA, oA, C, sx, tb, rh, oc, kr, kn, tm, fl, sy, bg, ra, fd, vl, sn, rfl, rfl, P, hs⟩ := I
  by_cases h : ∃ a, a < 3 ∧ v1 = nI a
  · obtain ⟨a, ha, rfl⟩ := h
    obtain ⟨s, h6, es⟩ := hs a ha
    by_cases z : ∃ q, q < s ∧ v2 = nI q
    · obtain ⟨q, hq, rfl⟩ := z
      obtain ⟨s', rfl⟩ : ∃ s', s = s' + 1 := ⟨s - 1, by omega⟩
      exact rq_xRemove ha es (by omega) (by omega) (rq_yRemove ha es (by omega) (by omega) ⟨rfl, rq_mk _ P (rq_szU hs (by omega))⟩)
    · unfold wpX_remove
      refine rq_xTabT ha (br_f (by decide) (rq_xRowF ha es h6 z (br_t rfl ?_)))
      unfold wpY_remove
      refine rq_yTabT ha (br_f (by decide) (rq_yRowF ha es h6 z (br_t rfl ?_)))
      exact ⟨rfl, rq_mk _ P hs⟩
  · unfold wpX_remove
    refine rq_xTabF h (br_t rfl ?_)
    unfold wpY_remove
    refine rq_yTabF h (br_t rfl ?_)
    exact ⟨rfl, rq_mk _ P hs⟩
theorem i_vc_drop {k : Nat} {u : SX} {v : SY} (I : i_Rel k u v) (hk : k + 5 ≤ 2560) : wpX_drop (fun r u' => wpY_drop (fun r' v' => r' = r ∧ i_Rel (k + 5) u' v') v) u := by
  obtain ⟨n, H, D, O, xT, xR, yT, yR, hh, op, tp, dp, ce, sz, K, A, hA, dA, oA, C, sx, tb, rh, oc, kr, kn, tm, fl, sy, bg, ra, fd, vl, sn, rfl, rfl, P, hs⟩ := I
  have hn := P.1
  unfold wpX_drop
  refine pk_eq n 0 (fun z => ?_) (fun z => ?_)
  · subst z
    exact br_t rfl ⟨rfl, rq_mk _ P hs⟩
  · obtain ⟨m, rfl⟩ : ∃ m, n = m + 1 := ⟨n - 1, by omega⟩
    refine nm_r (nI_pred m) ?_
    unfold wpY_drop
    refine br_f (nI_ne0 (by omega) (by omega)) (nm_r (nI_pred m) ?_)
    exact ⟨rfl, rq_mk _ (rq_le P (by omega)) hs⟩
theorem i_vc_clear {k : Nat} {u : SX} {v : SY} (I : i_Rel k u v) (hk : k + 5 ≤ 2560) : wpX_clear (fun r u' => wpY_clear (fun r' v' => r' = r ∧ i_Rel (k + 5) u' v') v) u := by
  obtain ⟨n, H, D, O, xT, xR, yT, yR, hh, op, tp, dp, ce, sz, K, A, hA, dA, oA, C, sx, tb, rh, oc, kr, kn, tm, fl, sy, bg, ra, fd, vl, sn, rfl, rfl, P, hs⟩ := I
  exact ⟨rfl, rq_mk (k + 5) (n := 0) (rq_le P (by omega)) hs⟩
theorem i_vc_rows {k : Nat} {u : SX} {v : SY} (I : i_Rel k u v) (hk : k + 5 ≤ 2560) (v1 : Int32) : wpX_rows (fun r => wpY_rows (fun r' => r' = r ∧ i_Rel (k + 5) u v) v v1) u v1 := by
  obtain ⟨n, H, D, O, xT, xR, yT, yR, hh, op, tp, dp, ce, sz, K, A, hA, dA, oA, C, sx, tb, rh, oc, kr, kn, tm, fl, sy, bg, ra, fd, vl, sn, rfl, rfl, P, hs⟩ := I
  by_cases h : ∃ a, a < 3 ∧ v1 = nI a
  · obtain ⟨a, ha, rfl⟩ := h
    unfold wpX_rows
    refine rq_xTabT ha (br_f (by decide) ⟨vp_in_nI ha (by omega), ?_⟩)
    unfold wpY_rows
    refine rq_yTabT ha (br_f (by decide) ⟨vp_in_nI ha (by omega), ?_⟩)
    exact ⟨rfl, rq_mk _ P hs⟩
  · unfold wpX_rows
    refine rq_xTabF h (br_t rfl ?_)
    unfold wpY_rows
    refine rq_yTabF h (br_t rfl ?_)
    exact ⟨rfl, rq_mk _ P hs⟩
theorem i_vc_cell {k : Nat} {u : SX} {v : SY} (I : i_Rel k u v) (hk : k + 5 ≤ 2560) (v1 : Int32) (v2 : Int32) (v3 : Int32) : wpX_cell (fun r => wpY_cell (fun r' => r' = r ∧ i_Rel (k + 5) u v) v v1 v2 v3) u v1 v2 v3 := by
  obtain ⟨n, H, D, O, xT, xR, yT, yR, hh, op, tp, dp, ce, sz, K, A, hA, dA, oA, C, sx, tb, rh, oc, kr, kn, tm, fl, sy, bg, ra, fd, vl, sn, rfl, rfl, P, hs⟩ := I
  unfold wpX_cell
  by_cases h : ∃ a, a < 3 ∧ v1 = nI a
  · obtain ⟨a, ha, rfl⟩ := h
    obtain ⟨s, h6, es⟩ := hs a ha
    refine rq_xTabT ha (br_f (by decide) ?_)
    by_cases c : ∃ c, c < 3 ∧ v3 = nI c
    · obtain ⟨c, hc, rfl⟩ := c
      refine rq_xColT hc (br_f (by decide) ?_)
      by_cases z : ∃ q, q < s ∧ v2 = nI q
      · obtain ⟨q, hq, rfl⟩ := z
        refine rq_xRowT ha es h6 hq (br_f (by decide) ?_)
        unfold wpX_cellIndex
        simp (disch := omega) only [forall_eq, vp_in_nI, nI_clamp, rq_c0, rq_c1, rq_c2, rq_c3, rq_c6, rq_c7, rq_c8, rq_c9, rq_c10, rq_c11, rq_c12, rq_c13, rq_c14, rq_c15, rq_c16, rq_c17, rq_c18, rq_c48, rq_c99, rq_c10368, rq_c30000, rq_eqT, rq_eqF, rq_leT, rq_leF, rq_ltT, rq_ltF, rq_neg, nI_add, pk_mul, pk_sub, pk_div, true_and, and_true, true_implies, false_implies, implies_true, not_true_eq_false, not_false_eq_true, pk_us, Nat.add_sub_cancel, eq_self, rq_ix]
        unfold wpY_cell
        refine rq_yRowT ha es h6 hq (br_f (by decide) ?_)
        simp (disch := omega) only [forall_eq, vp_in_nI, nI_clamp, rq_c0, rq_c1, rq_c2, rq_c3, rq_c6, rq_c7, rq_c8, rq_c9, rq_c10, rq_c11, rq_c12, rq_c13, rq_c14, rq_c15, rq_c16, rq_c17, rq_c18, rq_c48, rq_c99, rq_c10368, rq_c30000, rq_eqT, rq_eqF, rq_leT, rq_leF, rq_ltT, rq_ltF, rq_neg, nI_add, pk_mul, pk_sub, pk_div, true_and, and_true, true_implies, false_implies, implies_true, not_true_eq_false, not_false_eq_true, pk_us, Nat.add_sub_cancel, eq_self]
        exact rq_mk _ P hs
      · refine rq_xRowF ha es h6 z (br_t rfl ?_)
        unfold wpY_cell
        refine rq_yRowF ha es h6 z (br_t rfl ?_)
        exact ⟨rfl, rq_mk _ P hs⟩
    · refine rq_xColF c (br_t rfl ?_)
      unfold wpY_cell
      by_cases z : ∃ q, q < s ∧ v2 = nI q
      · obtain ⟨q, hq, rfl⟩ := z
        refine rq_yRowT ha es h6 hq (br_f (by decide) ?_)
        rcases pk_ix v3 (n := 3) (by decide) with y | y | y
        · exact br_t y ⟨rfl, rq_mk _ P hs⟩
        · exact br_c (fun _ => ⟨rfl, rq_mk _ P hs⟩) (fun _ => br_t (rq_lt2 y) ⟨rfl, rq_mk _ P hs⟩)
        · exact absurd y c
      · refine rq_yRowF ha es h6 z (br_t rfl ?_)
        exact ⟨rfl, rq_mk _ P hs⟩
  · refine rq_xTabF h (br_t rfl ?_)
    unfold wpY_cell
    refine rq_yRowN h (br_t rfl ?_)
    exact ⟨rfl, rq_mk _ P hs⟩
