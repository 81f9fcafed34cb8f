/-! one step of each side -/
section
variable {tc aT aR : Int32} {ce sz K A hA dA oA C sx tb rh oc kr kn tm : Nat → Int32}
theorem rq_xW10 {post : Int32 → SX → Prop} {i d : Nat} {r : Int32} {T : SX} (hi : i < 48) (hd : d < 3) (hK : K i = nI 10) (hD : dA i = nI d)
    (hg : ∀ p : Int32 → SX → Prop, p r T → wpX_goToNextRow p (tc, aT, aR, ce, sz, K, A, hA, dA, oA, C, sx, upd tb d (A i), upd rh d (-1), upd oc d 0, upd kr d 0, kn, tm) (nI i)) (hp : post r T) : wpX_workOut post (tc, aT, aR, ce, sz, K, A, hA, dA, oA, C, sx, tb, rh, oc, kr, kn, tm) (nI i) := by
  unfold wpX_workOut
  simp (disch := omega) only [forall_eq, vp_in_nI, nI_clamp, rq_c0, rq_c1, rq_c2, rq_c3, rq_c6, rq_c7, rq_c8, rq_c9, rq_c10, rq_c11, rq_c12, rq_c13, rq_c14, rq_c15, rq_c16, rq_c17, rq_c18, rq_c48, rq_c99, rq_c10368, rq_c30000, rq_eqT, rq_eqF, rq_leT, rq_leF, rq_ltT, rq_ltF, rq_neg, nI_add, pk_mul, pk_sub, pk_div, true_and, and_true, true_implies, false_implies, implies_true, not_true_eq_false, not_false_eq_true, pk_us, Nat.add_sub_cancel, eq_self, hK]
  refine rq_xBegin hi hd hD ?_
  exact hg _ hp
theorem rq_xW11a {post : Int32 → SX → Prop} {i h o : Nat} {r : Int32} {T : SX} (hi : i < 48) (hK : K i = nI 11) (hH : hA i = nI (h + 1)) (h5 : h ≤ 5) (hO : oA i = nI o) (hz : sx h = 0)
    (hg : ∀ p : Int32 → SX → Prop, p r T → wpX_goToNextRow p (tc, aT, aR, ce, sz, K, A, hA, dA, oA, C, sx, tb, rh, oc, kr, kn, tm) (nI o)) (hp : post r T) : wpX_workOut post (tc, aT, aR, ce, sz, K, A, hA, dA, oA, C, sx, tb, rh, oc, kr, kn, tm) (nI i) := by
  rw [rq_c0] at hz
  unfold wpX_workOut wX_workOut_51
  simp (disch := omega) only [forall_eq, vp_in_nI, nI_clamp, rq_c0, rq_c1, rq_c2, rq_c3, rq_c6, rq_c7, rq_c8, rq_c9, rq_c10, rq_c11, rq_c12, rq_c13, rq_c14, rq_c15, rq_c16, rq_c17, rq_c18, rq_c48, rq_c99, rq_c10368, rq_c30000, rq_eqT, rq_eqF, rq_leT, rq_leF, rq_ltT, rq_ltF, rq_neg, nI_add, pk_mul, pk_sub, pk_div, true_and, and_true, true_implies, false_implies, implies_true, not_true_eq_false, not_false_eq_true, pk_us, Nat.add_sub_cancel, eq_self, hK, hH, hz, hO]
  exact hg _ hp
theorem rq_xW11b {post : Int32 → SX → Prop} {i h : Nat} (hi : i < 48) (hK : K i = nI 11) (hH : hA i = nI (h + 1)) (h5 : h ≤ 5) (hz : ¬ sx h = 0) (hp : post (nI (i + 1)) (tc, aT, aR, ce, sz, K, A, hA, dA, oA, C, sx, tb, rh, oc, kr, kn, tm)) : wpX_workOut post (tc, aT, aR, ce, sz, K, A, hA, dA, oA, C, sx, tb, rh, oc, kr, kn, tm) (nI i) := by
  rw [rq_c0] at hz
  unfold wpX_workOut wX_workOut_51
  simp (disch := omega) only [forall_eq, vp_in_nI, nI_clamp, rq_c0, rq_c1, rq_c2, rq_c3, rq_c6, rq_c7, rq_c8, rq_c9, rq_c10, rq_c11, rq_c12, rq_c13, rq_c14, rq_c15, rq_c16, rq_c17, rq_c18, rq_c48, rq_c99, rq_c10368, rq_c30000, rq_eqT, rq_eqF, rq_leT, rq_leF, rq_ltT, rq_ltF, rq_neg, nI_add, pk_mul, pk_sub, pk_div, true_and, and_true, true_implies, false_implies, implies_true, not_true_eq_false, not_false_eq_true, pk_us, Nat.add_sub_cancel, eq_self, hK, hH, hz]
  exact hp
theorem rq_xWE {post : Int32 → SX → Prop} {i k o : Nat} {r : Int32} {T : SX} {oc' kr' kn' : Nat → Int32} (hi : i < 48) (hK : K i = nI k) (h12 : 12 ≤ k) (h17 : k ≤ 17) (hO : oA i = nI o)
    (hk : ∀ p : SX → Prop, p (tc, aT, aR, ce, sz, K, A, hA, dA, oA, C, sx, tb, rh, oc', kr', kn', tm) → wpX_keepRow p (tc, aT, aR, ce, sz, K, A, hA, dA, oA, C, sx, tb, rh, oc, kr, kn, tm) (nI i)) (hg : ∀ p : Int32 → SX → Prop, p r T → wpX_goToNextRow p (tc, aT, aR, ce, sz, K, A, hA, dA, oA, C, sx, tb, rh, oc', kr', kn', tm) (nI o)) (hp : post r T) : wpX_workOut post (tc, aT, aR, ce, sz, K, A, hA, dA, oA, C, sx, tb, rh, oc, kr, kn, tm) (nI i) := by
  unfold wpX_workOut wpX_isEnding
  simp (disch := omega) only [forall_eq, vp_in_nI, nI_clamp, rq_c0, rq_c1, rq_c2, rq_c3, rq_c6, rq_c7, rq_c8, rq_c9, rq_c10, rq_c11, rq_c12, rq_c13, rq_c14, rq_c15, rq_c16, rq_c17, rq_c18, rq_c48, rq_c99, rq_c10368, rq_c30000, rq_eqT, rq_eqF, rq_leT, rq_leF, rq_ltT, rq_ltF, rq_neg, nI_add, pk_mul, pk_sub, pk_div, true_and, and_true, true_implies, false_implies, implies_true, not_true_eq_false, not_false_eq_true, pk_us, Nat.add_sub_cancel, eq_self, hK]
  refine hk _ ?_
  simp (disch := omega) only [vp_in_nI, nI_clamp, true_and, hO]
  exact hg _ hp
theorem rq_xWP {post : Int32 → SX → Prop} {i k : Nat} {T : SX} (hi : i < 48) (hK : K i = nI k) (h9 : k ≤ 9) (hw : ∀ p : SX → Prop, p T → wpX_putNumber p (tc, aT, aR, ce, sz, K, A, hA, dA, oA, C, sx, tb, rh, oc, kr, kn, tm) (nI i)) (hp : post (nI (i + 1)) T) : wpX_workOut post (tc, aT, aR, ce, sz, K, A, hA, dA, oA, C, sx, tb, rh, oc, kr, kn, tm) (nI i) := by
  unfold wpX_workOut wpX_isEnding
  simp (disch := omega) only [forall_eq, vp_in_nI, nI_clamp, rq_c0, rq_c1, rq_c2, rq_c3, rq_c6, rq_c7, rq_c8, rq_c9, rq_c10, rq_c11, rq_c12, rq_c13, rq_c14, rq_c15, rq_c16, rq_c17, rq_c18, rq_c48, rq_c99, rq_c10368, rq_c30000, rq_eqT, rq_eqF, rq_leT, rq_leF, rq_ltT, rq_ltF, rq_neg, nI_add, pk_mul, pk_sub, pk_div, true_and, and_true, true_implies, false_implies, implies_true, not_true_eq_false, not_false_eq_true, pk_us, Nat.add_sub_cancel, eq_self, hK]
  exact hw _ hp
end
section
variable {tc hh op tp aT aR dp : Int32} {sz ce K A fl sy tm bg ra fd vl sn : Nat → Int32}
theorem rq_y207 {post : SY → Prop} {d f : Nat} (hd : d < 3) (hf : fd d = nI f) (hp : post (tc, hh, op, tp, aT, aR, dp, sz, ce, K, A, fl, sy, tm, bg, ra, upd fd d (nI (f + 1)), vl, sn)) : wY_takeRow_207 post (nI d) tc hh op tp aT aR dp sz ce K A fl sy tm bg ra fd vl sn := by
  unfold wY_takeRow_207
  simp (disch := omega) only [forall_eq, vp_in_nI, nI_clamp, rq_c0, rq_c1, rq_c2, rq_c3, rq_c6, rq_c7, rq_c8, rq_c9, rq_c10, rq_c11, rq_c12, rq_c13, rq_c14, rq_c15, rq_c16, rq_c17, rq_c18, rq_c48, rq_c99, rq_c10368, rq_c30000, rq_eqT, rq_eqF, rq_leT, rq_leF, rq_ltT, rq_ltF, rq_neg, nI_add, pk_mul, pk_sub, pk_div, true_and, and_true, true_implies, false_implies, implies_true, not_true_eq_false, not_false_eq_true, pk_us, Nat.add_sub_cancel, eq_self, hf]
  exact hp
theorem rq_yT12 {post : SY → Prop} {d f k : Nat} {x : Int32} (hd : d < 3) (hf : fd d = nI f) (hk : k ≤ 13) (hp : post (tc, hh, op, tp, aT, aR, nI (d + 1), sz, ce, K, A, fl, sy, tm, bg, ra, upd fd d (nI (f + 1)), vl, sn)) : wpY_takeRow post (tc, hh, op, tp, aT, aR, nI (d + 1), sz, ce, K, A, fl, sy, tm, bg, ra, fd, vl, sn) (nI k) x := by
  unfold wpY_takeRow
  simp (disch := omega) only [forall_eq, vp_in_nI, nI_clamp, rq_c0, rq_c1, rq_c2, rq_c3, rq_c6, rq_c7, rq_c8, rq_c9, rq_c10, rq_c11, rq_c12, rq_c13, rq_c14, rq_c15, rq_c16, rq_c17, rq_c18, rq_c48, rq_c99, rq_c10368, rq_c30000, rq_eqT, rq_eqF, rq_leT, rq_leF, rq_ltT, rq_ltF, rq_neg, nI_add, pk_mul, pk_sub, pk_div, true_and, and_true, true_implies, false_implies, implies_true, not_true_eq_false, not_false_eq_true, pk_us, Nat.add_sub_cancel, eq_self]
  exact rq_y207 hd hf hp
theorem rq_yT14 {post : SY → Prop} {d f : Nat} {x : Int32} (hd : d < 3) (hf : fd d = nI f) (hp : post (tc, hh, op, tp, aT, aR, nI (d + 1), sz, ce, K, A, fl, sy, tm, bg, ra, upd fd d (nI (f + 1)), upd vl d (vl d + x), sn)) : wpY_takeRow post (tc, hh, op, tp, aT, aR, nI (d + 1), sz, ce, K, A, fl, sy, tm, bg, ra, fd, vl, sn) (nI 14) x := by
  unfold wpY_takeRow
  simp (disch := omega) only [forall_eq, vp_in_nI, nI_clamp, rq_c0, rq_c1, rq_c2, rq_c3, rq_c6, rq_c7, rq_c8, rq_c9, rq_c10, rq_c11, rq_c12, rq_c13, rq_c14, rq_c15, rq_c16, rq_c17, rq_c18, rq_c48, rq_c99, rq_c10368, rq_c30000, rq_eqT, rq_eqF, rq_leT, rq_leF, rq_ltT, rq_ltF, rq_neg, nI_add, pk_mul, pk_sub, pk_div, true_and, and_true, true_implies, false_implies, implies_true, not_true_eq_false, not_false_eq_true, pk_us, Nat.add_sub_cancel, eq_self]
  exact rq_y207 hd hf hp
theorem rq_yT15 {post : SY → Prop} {d f : Nat} {x : Int32} (hd : d < 3) (hf : fd d = nI f) (h6 : f ≤ 6) (hp : post (tc, hh, op, tp, aT, aR, nI (d + 1), sz, ce, K, A, fl, sy, tm, bg, ra, upd fd d (nI (f + 1)), upd vl d (rq_mx f x (vl d)), sn)) : wpY_takeRow post (tc, hh, op, tp, aT, aR, nI (d + 1), sz, ce, K, A, fl, sy, tm, bg, ra, fd, vl, sn) (nI 15) x := by
  unfold wpY_takeRow wY_takeRow_60 wY_takeRow_70
  by_cases z : f = 0
  · rw [rq_mx, if_pos z] at hp
    simp (disch := omega) only [forall_eq, vp_in_nI, nI_clamp, rq_c0, rq_c1, rq_c2, rq_c3, rq_c6, rq_c7, rq_c8, rq_c9, rq_c10, rq_c11, rq_c12, rq_c13, rq_c14, rq_c15, rq_c16, rq_c17, rq_c18, rq_c48, rq_c99, rq_c10368, rq_c30000, rq_eqT, rq_eqF, rq_leT, rq_leF, rq_ltT, rq_ltF, rq_neg, nI_add, pk_mul, pk_sub, pk_div, true_and, and_true, true_implies, false_implies, implies_true, not_true_eq_false, not_false_eq_true, pk_us, Nat.add_sub_cancel, eq_self, hf]
    exact rq_y207 hd hf hp
  · by_cases c : x ≤ vl d
    · rw [rq_mx, if_neg z, if_pos c] at hp
      simp (disch := omega) only [forall_eq, vp_in_nI, nI_clamp, rq_c0, rq_c1, rq_c2, rq_c3, rq_c6, rq_c7, rq_c8, rq_c9, rq_c10, rq_c11, rq_c12, rq_c13, rq_c14, rq_c15, rq_c16, rq_c17, rq_c18, rq_c48, rq_c99, rq_c10368, rq_c30000, rq_eqT, rq_eqF, rq_leT, rq_leF, rq_ltT, rq_ltF, rq_neg, nI_add, pk_mul, pk_sub, pk_div, true_and, and_true, true_implies, false_implies, implies_true, not_true_eq_false, not_false_eq_true, pk_us, Nat.add_sub_cancel, eq_self, hf, c]
      exact rq_y207 hd hf hp
    · rw [rq_mx, if_neg z, if_neg c] at hp
      simp (disch := omega) only [forall_eq, vp_in_nI, nI_clamp, rq_c0, rq_c1, rq_c2, rq_c3, rq_c6, rq_c7, rq_c8, rq_c9, rq_c10, rq_c11, rq_c12, rq_c13, rq_c14, rq_c15, rq_c16, rq_c17, rq_c18, rq_c48, rq_c99, rq_c10368, rq_c30000, rq_eqT, rq_eqF, rq_leT, rq_leF, rq_ltT, rq_ltF, rq_neg, nI_add, pk_mul, pk_sub, pk_div, true_and, and_true, true_implies, false_implies, implies_true, not_true_eq_false, not_false_eq_true, pk_us, Nat.add_sub_cancel, eq_self, hf, c]
      exact rq_y207 hd hf hp
theorem rq_yT16 {post : SY → Prop} {d f : Nat} {x : Int32} (hd : d < 3) (hf : fd d = nI f) (h6 : f ≤ 6) (hp : post (tc, hh, op, tp, aT, aR, nI (d + 1), sz, ce, K, A, fl, sy, tm, bg, ra, upd fd d (nI (f + 1)), upd vl d (rq_mn f x (vl d)), sn)) : wpY_takeRow post (tc, hh, op, tp, aT, aR, nI (d + 1), sz, ce, K, A, fl, sy, tm, bg, ra, fd, vl, sn) (nI 16) x := by
  unfold wpY_takeRow wY_takeRow_104 wY_takeRow_114
  by_cases z : f = 0
  · rw [rq_mn, if_pos z] at hp
    simp (disch := omega) only [forall_eq, vp_in_nI, nI_clamp, rq_c0, rq_c1, rq_c2, rq_c3, rq_c6, rq_c7, rq_c8, rq_c9, rq_c10, rq_c11, rq_c12, rq_c13, rq_c14, rq_c15, rq_c16, rq_c17, rq_c18, rq_c48, rq_c99, rq_c10368, rq_c30000, rq_eqT, rq_eqF, rq_leT, rq_leF, rq_ltT, rq_ltF, rq_neg, nI_add, pk_mul, pk_sub, pk_div, true_and, and_true, true_implies, false_implies, implies_true, not_true_eq_false, not_false_eq_true, pk_us, Nat.add_sub_cancel, eq_self, hf]
    exact rq_y207 hd hf hp
  · by_cases c : vl d ≤ x
    · rw [rq_mn, if_neg z, if_pos c] at hp
      simp (disch := omega) only [forall_eq, vp_in_nI, nI_clamp, rq_c0, rq_c1, rq_c2, rq_c3, rq_c6, rq_c7, rq_c8, rq_c9, rq_c10, rq_c11, rq_c12, rq_c13, rq_c14, rq_c15, rq_c16, rq_c17, rq_c18, rq_c48, rq_c99, rq_c10368, rq_c30000, rq_eqT, rq_eqF, rq_leT, rq_leF, rq_ltT, rq_ltF, rq_neg, nI_add, pk_mul, pk_sub, pk_div, true_and, and_true, true_implies, false_implies, implies_true, not_true_eq_false, not_false_eq_true, pk_us, Nat.add_sub_cancel, eq_self, hf, c]
      exact rq_y207 hd hf hp
    · rw [rq_mn, if_neg z, if_neg c] at hp
      simp (disch := omega) only [forall_eq, vp_in_nI, nI_clamp, rq_c0, rq_c1, rq_c2, rq_c3, rq_c6, rq_c7, rq_c8, rq_c9, rq_c10, rq_c11, rq_c12, rq_c13, rq_c14, rq_c15, rq_c16, rq_c17, rq_c18, rq_c48, rq_c99, rq_c10368, rq_c30000, rq_eqT, rq_eqF, rq_leT, rq_leF, rq_ltT, rq_ltF, rq_neg, nI_add, pk_mul, pk_sub, pk_div, true_and, and_true, true_implies, false_implies, implies_true, not_true_eq_false, not_false_eq_true, pk_us, Nat.add_sub_cancel, eq_self, hf, c]
      exact rq_y207 hd hf hp
theorem rq_y130 {post : SY → Prop} {d m0 : Nat} {x : Int32} (hd : d < 3) (hm : vl d = nI m0) (h5 : m0 ≤ 5)
    (h0 : (∃ j, j < m0 ∧ sn (6 * d + j) = x) → wY_takeRow_207 post (nI d) tc hh op tp aT aR dp sz ce K A fl sy tm bg ra fd vl sn)
    (h1 : (¬ ∃ j, j < m0 ∧ sn (6 * d + j) = x) → wY_takeRow_207 post (nI d) tc hh op tp aT aR dp sz ce K A fl sy tm bg ra fd (upd vl d (nI (m0 + 1))) (upd sn (6 * d + m0) x)) :
    ∀ w j z, j + w = m0 → ((z = 0 ∧ ∃ i, i < j ∧ sn (6 * d + i) = x) ∨ (z = 1 ∧ ∀ i, i < j → ¬ sn (6 * d + i) = x)) → wY_takeRow_130 post x (nI d) tc hh op tp aT aR dp sz ce K A fl sy tm bg ra fd vl sn (w + 1) (nI z) (nI j) := by
  intro w
  induction w with
  | zero =>
    intro j z hj hz
    rw [wY_takeRow_130]
    rcases hz with ⟨rfl, i, i1, i2⟩ | ⟨rfl, hz⟩
    · simp (disch := omega) only [forall_eq, vp_in_nI, nI_clamp, rq_c0, rq_c1, rq_c2, rq_c3, rq_c6, rq_c7, rq_c8, rq_c9, rq_c10, rq_c11, rq_c12, rq_c13, rq_c14, rq_c15, rq_c16, rq_c17, rq_c18, rq_c48, rq_c99, rq_c10368, rq_c30000, rq_eqT, rq_eqF, rq_leT, rq_leF, rq_ltT, rq_ltF, rq_neg, nI_add, pk_mul, pk_sub, pk_div, true_and, and_true, true_implies, false_implies, implies_true, not_true_eq_false, not_false_eq_true, pk_us, Nat.add_sub_cancel, eq_self, hm]
      exact h0 ⟨i, by omega, i2⟩
    · simp (disch := omega) only [forall_eq, vp_in_nI, nI_clamp, rq_c0, rq_c1, rq_c2, rq_c3, rq_c6, rq_c7, rq_c8, rq_c9, rq_c10, rq_c11, rq_c12, rq_c13, rq_c14, rq_c15, rq_c16, rq_c17, rq_c18, rq_c48, rq_c99, rq_c10368, rq_c30000, rq_eqT, rq_eqF, rq_leT, rq_leF, rq_ltT, rq_ltF, rq_neg, nI_add, pk_mul, pk_sub, pk_div, true_and, and_true, true_implies, false_implies, implies_true, not_true_eq_false, not_false_eq_true, pk_us, Nat.add_sub_cancel, eq_self, hm]
      exact h1 fun ⟨i, i1, i2⟩ => hz i (by omega) i2
  | succ w ih =>
    intro j z hj hz
    rw [wY_takeRow_130]
    rcases hz with ⟨rfl, i, i1, i2⟩ | ⟨rfl, hz⟩
    · simp (disch := omega) only [forall_eq, vp_in_nI, nI_clamp, rq_c0, rq_c1, rq_c2, rq_c3, rq_c6, rq_c7, rq_c8, rq_c9, rq_c10, rq_c11, rq_c12, rq_c13, rq_c14, rq_c15, rq_c16, rq_c17, rq_c18, rq_c48, rq_c99, rq_c10368, rq_c30000, rq_eqT, rq_eqF, rq_leT, rq_leF, rq_ltT, rq_ltF, rq_neg, nI_add, pk_mul, pk_sub, pk_div, true_and, and_true, true_implies, false_implies, implies_true, not_true_eq_false, not_false_eq_true, pk_us, Nat.add_sub_cancel, eq_self, hm]
      exact ih (j + 1) 0 (by omega) (Or.inl ⟨rfl, i, by omega, i2⟩)
    · simp (disch := omega) only [forall_eq, vp_in_nI, nI_clamp, rq_c0, rq_c1, rq_c2, rq_c3, rq_c6, rq_c7, rq_c8, rq_c9, rq_c10, rq_c11, rq_c12, rq_c13, rq_c14, rq_c15, rq_c16, rq_c17, rq_c18, rq_c48, rq_c99, rq_c10368, rq_c30000, rq_eqT, rq_eqF, rq_leT, rq_leF, rq_ltT, rq_ltF, rq_neg, nI_add, pk_mul, pk_sub, pk_div, true_and, and_true, true_implies, false_implies, implies_true, not_true_eq_false, not_false_eq_true, pk_us, Nat.add_sub_cancel, eq_self, hm]
      refine ⟨fun e => ih (j + 1) 0 (by omega) (Or.inl ⟨rfl, j, by omega, e⟩), fun e => ih (j + 1) 1 (by omega) (Or.inr ⟨rfl, fun i hi => ?_⟩)⟩
      by_cases y : i = j
      · rw [y]; exact e
      · exact hz i (by omega)
theorem rq_yT17 {post : SY → Prop} {d f m0 : Nat} {x : Int32} (hd : d < 3) (hf : fd d = nI f) (hm : vl d = nI m0) (h5 : m0 ≤ 5)
    (h0 : (∃ j, j < m0 ∧ sn (6 * d + j) = x) → post (tc, hh, op, tp, aT, aR, nI (d + 1), sz, ce, K, A, fl, sy, tm, bg, ra, upd fd d (nI (f + 1)), vl, sn))
    (h1 : (¬ ∃ j, j < m0 ∧ sn (6 * d + j) = x) → post (tc, hh, op, tp, aT, aR, nI (d + 1), sz, ce, K, A, fl, sy, tm, bg, ra, upd fd d (nI (f + 1)), upd vl d (nI (m0 + 1)), upd sn (6 * d + m0) x)) : wpY_takeRow post (tc, hh, op, tp, aT, aR, nI (d + 1), sz, ce, K, A, fl, sy, tm, bg, ra, fd, vl, sn) (nI 17) x := by
  unfold wpY_takeRow
  simp (disch := omega) only [forall_eq, vp_in_nI, nI_clamp, rq_c0, rq_c1, rq_c2, rq_c3, rq_c6, rq_c7, rq_c8, rq_c9, rq_c10, rq_c11, rq_c12, rq_c13, rq_c14, rq_c15, rq_c16, rq_c17, rq_c18, rq_c48, rq_c99, rq_c10368, rq_c30000, rq_eqT, rq_eqF, rq_leT, rq_leF, rq_ltT, rq_ltF, rq_neg, nI_add, pk_mul, pk_sub, pk_div, true_and, and_true, true_implies, false_implies, implies_true, not_true_eq_false, not_false_eq_true, pk_us, Nat.add_sub_cancel, eq_self]
  exact ⟨_, rq_y130 hd hm h5 (fun z => rq_y207 hd hf (h0 z)) (fun z => rq_y207 hd hf (h1 z)) m0 0 1 (by omega) (Or.inr ⟨rfl, fun i hi => by omega⟩)⟩
theorem rq_yCell {post : Int32 → Prop} {a o t r : Nat} (ha : a < 9) (hb : bg (a / 3) = nI o) (ho : o < 48) (ht : A o = nI t) (hr : ra (a / 3) = nI r) (ht3 : t < 3) (h5 : r ≤ 5) (hp : post (ce (18 * t + 3 * r + (a - a / 3 * 3)))) : wpY_cellAtHand post (tc, hh, op, tp, aT, aR, dp, sz, ce, K, A, fl, sy, tm, bg, ra, fd, vl, sn) (nI a) := by
  unfold wpY_cellAtHand
  simp (disch := omega) only [forall_eq, vp_in_nI, nI_clamp, rq_c0, rq_c1, rq_c2, rq_c3, rq_c6, rq_c7, rq_c8, rq_c9, rq_c10, rq_c11, rq_c12, rq_c13, rq_c14, rq_c15, rq_c16, rq_c17, rq_c18, rq_c48, rq_c99, rq_c10368, rq_c30000, rq_eqT, rq_eqF, rq_leT, rq_leF, rq_ltT, rq_ltF, rq_neg, nI_add, pk_mul, pk_sub, pk_div, true_and, and_true, true_implies, false_implies, implies_true, not_true_eq_false, not_false_eq_true, pk_us, Nat.add_sub_cancel, eq_self, hb, hr, ht]
  exact hp
theorem rq_yJoin {post : Int32 → Prop} {k : Nat} {n m : Int32} (h2 : 2 ≤ k) (h8 : k ≤ 8) (hp : post (rq_jn k n m)) : wpY_joined post (tc, hh, op, tp, aT, aR, dp, sz, ce, K, A, fl, sy, tm, bg, ra, fd, vl, sn) (nI k) n m := rq_xComb h2 h8 hp
theorem rq_yS10 {post : Int32 → SY → Prop} {i d : Nat} {r : Int32} {T : SY} (hi : i < 48) (hd : d < 3) (hK : K i = nI 10)
    (hg : ∀ p : Int32 → SY → Prop, p r T → wpY_nextRow p (tc, hh, op, tp, aT, aR, nI (d + 1), sz, ce, K, A, fl, sy, upd tm i (tm i + 1), upd bg d (nI i), upd ra d (-1), upd fd d 0, upd vl d 0, sn)) (hp : post r T) : wpY_step post (tc, hh, op, tp, aT, aR, nI d, sz, ce, K, A, fl, sy, tm, bg, ra, fd, vl, sn) (nI i) := by
  unfold wpY_step wpY_beginRows
  simp (disch := omega) only [forall_eq, vp_in_nI, nI_clamp, rq_c0, rq_c1, rq_c2, rq_c3, rq_c6, rq_c7, rq_c8, rq_c9, rq_c10, rq_c11, rq_c12, rq_c13, rq_c14, rq_c15, rq_c16, rq_c17, rq_c18, rq_c48, rq_c99, rq_c10368, rq_c30000, rq_eqT, rq_eqF, rq_leT, rq_leF, rq_ltT, rq_ltF, rq_neg, nI_add, pk_mul, pk_sub, pk_div, true_and, and_true, true_implies, false_implies, implies_true, not_true_eq_false, not_false_eq_true, pk_us, Nat.add_sub_cancel, eq_self, hK]
  exact hg _ hp
theorem rq_yS0 {post : Int32 → SY → Prop} {i h : Nat} (hi : i < 48) (hK : K i = nI 0) (h5 : h ≤ 5) (hp : post (nI (i + 1)) (tc, hh, op, nI (h + 1), aT, aR, dp, sz, ce, K, A, fl, upd sy h (A i), upd tm i (tm i + 1), bg, ra, fd, vl, sn)) : wpY_step post (tc, hh, op, nI h, aT, aR, dp, sz, ce, K, A, fl, sy, tm, bg, ra, fd, vl, sn) (nI i) := by
  unfold wpY_step wpY_takes wY_takes_13 wY_step_64 wpY_push
  simp (disch := omega) only [forall_eq, vp_in_nI, nI_clamp, rq_c0, rq_c1, rq_c2, rq_c3, rq_c6, rq_c7, rq_c8, rq_c9, rq_c10, rq_c11, rq_c12, rq_c13, rq_c14, rq_c15, rq_c16, rq_c17, rq_c18, rq_c48, rq_c99, rq_c10368, rq_c30000, rq_eqT, rq_eqF, rq_leT, rq_leF, rq_ltT, rq_ltF, rq_neg, nI_add, pk_mul, pk_sub, pk_div, true_and, and_true, true_implies, false_implies, implies_true, not_true_eq_false, not_false_eq_true, pk_us, Nat.add_sub_cancel, eq_self, hK, Nat.sub_zero]
  exact hp
theorem rq_yS1 {post : Int32 → SY → Prop} {i h a o t r : Nat} (hi : i < 48) (hK : K i = nI 1) (h5 : h ≤ 5) (hA' : A i = nI a) (ha : a < 9) (hb : bg (a / 3) = nI o) (ho : o < 48) (ht : A o = nI t) (hr : ra (a / 3) = nI r) (ht3 : t < 3) (hr5 : r ≤ 5)
    (hp : post (nI (i + 1)) (tc, hh, op, nI (h + 1), aT, aR, dp, sz, ce, K, A, fl, upd sy h (ce (18 * t + 3 * r + (a - a / 3 * 3))), upd tm i (tm i + 1), bg, ra, fd, vl, sn)) : wpY_step post (tc, hh, op, nI h, aT, aR, dp, sz, ce, K, A, fl, sy, tm, bg, ra, fd, vl, sn) (nI i) := by
  unfold wpY_step wpY_takes wY_takes_13 wY_step_64 wpY_push
  simp (disch := omega) only [forall_eq, vp_in_nI, nI_clamp, rq_c0, rq_c1, rq_c2, rq_c3, rq_c6, rq_c7, rq_c8, rq_c9, rq_c10, rq_c11, rq_c12, rq_c13, rq_c14, rq_c15, rq_c16, rq_c17, rq_c18, rq_c48, rq_c99, rq_c10368, rq_c30000, rq_eqT, rq_eqF, rq_leT, rq_leF, rq_ltT, rq_ltF, rq_neg, nI_add, pk_mul, pk_sub, pk_div, true_and, and_true, true_implies, false_implies, implies_true, not_true_eq_false, not_false_eq_true, pk_us, Nat.add_sub_cancel, eq_self, hK, Nat.sub_zero, hA']
  exact rq_yCell ha hb ho ht hr ht3 hr5 hp
theorem rq_yS2 {post : Int32 → SY → Prop} {i h k : Nat} (hi : i < 48) (hK : K i = nI k) (h2 : 2 ≤ k) (h8 : k ≤ 8) (h5 : h ≤ 4)
    (hp : post (nI (i + 1)) (tc, hh, op, nI (h + 1), aT, aR, dp, sz, ce, K, A, fl, upd sy h (rq_jn k (sy h) (sy (h + 1))), upd tm i (tm i + 1), bg, ra, fd, vl, sn)) : wpY_step post (tc, hh, op, nI (h + 2), aT, aR, dp, sz, ce, K, A, fl, sy, tm, bg, ra, fd, vl, sn) (nI i) := by
  unfold wpY_step wpY_takes wY_takes_13 wY_step_64 wpY_push
  simp (disch := omega) only [forall_eq, vp_in_nI, nI_clamp, rq_c0, rq_c1, rq_c2, rq_c3, rq_c6, rq_c7, rq_c8, rq_c9, rq_c10, rq_c11, rq_c12, rq_c13, rq_c14, rq_c15, rq_c16, rq_c17, rq_c18, rq_c48, rq_c99, rq_c10368, rq_c30000, rq_eqT, rq_eqF, rq_leT, rq_leF, rq_ltT, rq_ltF, rq_neg, nI_add, pk_mul, pk_sub, pk_div, true_and, and_true, true_implies, false_implies, implies_true, not_true_eq_false, not_false_eq_true, pk_us, Nat.add_sub_cancel, eq_self, hK]
  exact rq_yJoin h2 h8 hp
theorem rq_yS9 {post : Int32 → SY → Prop} {i h : Nat} (hi : i < 48) (hK : K i = nI 9) (h5 : h ≤ 5)
    (hp : post (nI (i + 1)) (tc, hh, op, nI (h + 1), aT, aR, dp, sz, ce, K, A, fl, upd sy h (if sy h = 0 then 1 else 0), upd tm i (tm i + 1), bg, ra, fd, vl, sn)) : wpY_step post (tc, hh, op, nI (h + 1), aT, aR, dp, sz, ce, K, A, fl, sy, tm, bg, ra, fd, vl, sn) (nI i) := by
  unfold wpY_step wpY_takes wY_takes_13 wY_step_64 wY_step_158 wpY_push
  simp (disch := omega) only [forall_eq, vp_in_nI, nI_clamp, rq_c0, rq_c1, rq_c2, rq_c3, rq_c6, rq_c7, rq_c8, rq_c9, rq_c10, rq_c11, rq_c12, rq_c13, rq_c14, rq_c15, rq_c16, rq_c17, rq_c18, rq_c48, rq_c99, rq_c10368, rq_c30000, rq_eqT, rq_eqF, rq_leT, rq_leF, rq_ltT, rq_ltF, rq_neg, nI_add, pk_mul, pk_sub, pk_div, true_and, and_true, true_implies, false_implies, implies_true, not_true_eq_false, not_false_eq_true, pk_us, Nat.add_sub_cancel, eq_self, hK]
  exact ⟨fun z => by rw [if_pos (show sy h = 0 from z)] at hp; exact hp, fun z => by rw [if_neg (show ¬ sy h = 0 from z)] at hp; exact hp⟩
theorem rq_yS11a {post : Int32 → SY → Prop} {i h : Nat} {r : Int32} {T : SY} (hi : i < 48) (hK : K i = nI 11) (h5 : h ≤ 5) (hz : sy h = 0)
    (hg : ∀ p : Int32 → SY → Prop, p r T → wpY_nextRow p (tc, hh, op, nI h, aT, aR, dp, sz, ce, K, A, fl, sy, upd tm i (tm i + 1), bg, ra, fd, vl, sn)) (hp : post r T) : wpY_step post (tc, hh, op, nI (h + 1), aT, aR, dp, sz, ce, K, A, fl, sy, tm, bg, ra, fd, vl, sn) (nI i) := by
  rw [rq_c0] at hz
  unfold wpY_step wpY_takes wY_takes_13 wY_step_64
  simp (disch := omega) only [forall_eq, vp_in_nI, nI_clamp, rq_c0, rq_c1, rq_c2, rq_c3, rq_c6, rq_c7, rq_c8, rq_c9, rq_c10, rq_c11, rq_c12, rq_c13, rq_c14, rq_c15, rq_c16, rq_c17, rq_c18, rq_c48, rq_c99, rq_c10368, rq_c30000, rq_eqT, rq_eqF, rq_leT, rq_leF, rq_ltT, rq_ltF, rq_neg, nI_add, pk_mul, pk_sub, pk_div, true_and, and_true, true_implies, false_implies, implies_true, not_true_eq_false, not_false_eq_true, pk_us, Nat.add_sub_cancel, eq_self, hK, hz]
  exact hg _ hp
theorem rq_yS11b {post : Int32 → SY → Prop} {i h : Nat} (hi : i < 48) (hK : K i = nI 11) (h5 : h ≤ 5) (hz : ¬ sy h = 0)
    (hp : post (nI (i + 1)) (tc, hh, op, nI h, aT, aR, dp, sz, ce, K, A, fl, sy, upd tm i (tm i + 1), bg, ra, fd, vl, sn)) : wpY_step post (tc, hh, op, nI (h + 1), aT, aR, dp, sz, ce, K, A, fl, sy, tm, bg, ra, fd, vl, sn) (nI i) := by
  rw [rq_c0] at hz
  unfold wpY_step wpY_takes wY_takes_13 wY_step_64
  simp (disch := omega) only [forall_eq, vp_in_nI, nI_clamp, rq_c0, rq_c1, rq_c2, rq_c3, rq_c6, rq_c7, rq_c8, rq_c9, rq_c10, rq_c11, rq_c12, rq_c13, rq_c14, rq_c15, rq_c16, rq_c17, rq_c18, rq_c48, rq_c99, rq_c10368, rq_c30000, rq_eqT, rq_eqF, rq_leT, rq_leF, rq_ltT, rq_ltF, rq_neg, nI_add, pk_mul, pk_sub, pk_div, true_and, and_true, true_implies, false_implies, implies_true, not_true_eq_false, not_false_eq_true, pk_us, Nat.add_sub_cancel, eq_self, hK, hz]
  exact hp
theorem rq_ySE0 {post : Int32 → SY → Prop} {i h k : Nat} {r : Int32} {T : SY} {fd' vl' sn' : Nat → Int32} (hi : i < 48) (hK : K i = nI k) (h12 : 12 ≤ k) (h13 : k ≤ 13) (h5 : h ≤ 6)
    (ht : ∀ p : SY → Prop, p (tc, hh, op, nI h, aT, aR, dp, sz, ce, K, A, fl, sy, upd tm i (tm i + 1), bg, ra, fd', vl', sn') → wpY_takeRow p (tc, hh, op, nI h, aT, aR, dp, sz, ce, K, A, fl, sy, upd tm i (tm i + 1), bg, ra, fd, vl, sn) (nI k) 0)
    (hg : ∀ p : Int32 → SY → Prop, p r T → wpY_nextRow p (tc, hh, op, nI h, aT, aR, dp, sz, ce, K, A, fl, sy, upd tm i (tm i + 1), bg, ra, fd', vl', sn')) (hp : post r T) : wpY_step post (tc, hh, op, nI h, aT, aR, dp, sz, ce, K, A, fl, sy, tm, bg, ra, fd, vl, sn) (nI i) := by
  unfold wpY_step wpY_takes wY_takes_13 wY_step_64
  simp (disch := omega) only [forall_eq, vp_in_nI, nI_clamp, rq_c0, rq_c1, rq_c2, rq_c3, rq_c6, rq_c7, rq_c8, rq_c9, rq_c10, rq_c11, rq_c12, rq_c13, rq_c14, rq_c15, rq_c16, rq_c17, rq_c18, rq_c48, rq_c99, rq_c10368, rq_c30000, rq_eqT, rq_eqF, rq_leT, rq_leF, rq_ltT, rq_ltF, rq_neg, nI_add, pk_mul, pk_sub, pk_div, true_and, and_true, true_implies, false_implies, implies_true, not_true_eq_false, not_false_eq_true, pk_us, Nat.add_sub_cancel, eq_self, hK, Nat.sub_zero]
  refine ht _ ?_
  exact hg _ hp
theorem rq_ySE1 {post : Int32 → SY → Prop} {i h k : Nat} {r : Int32} {T : SY} {fd' vl' sn' : Nat → Int32} (hi : i < 48) (hK : K i = nI k) (h14 : 14 ≤ k) (h17 : k ≤ 17) (h5 : h ≤ 5)
    (ht : ∀ p : SY → Prop, p (tc, hh, op, nI h, aT, aR, dp, sz, ce, K, A, fl, sy, upd tm i (tm i + 1), bg, ra, fd', vl', sn') → wpY_takeRow p (tc, hh, op, nI h, aT, aR, dp, sz, ce, K, A, fl, sy, upd tm i (tm i + 1), bg, ra, fd, vl, sn) (nI k) (sy h))
    (hg : ∀ p : Int32 → SY → Prop, p r T → wpY_nextRow p (tc, hh, op, nI h, aT, aR, dp, sz, ce, K, A, fl, sy, upd tm i (tm i + 1), bg, ra, fd', vl', sn')) (hp : post r T) : wpY_step post (tc, hh, op, nI (h + 1), aT, aR, dp, sz, ce, K, A, fl, sy, tm, bg, ra, fd, vl, sn) (nI i) := by
  unfold wpY_step wpY_takes wY_takes_13 wY_step_64
  simp (disch := omega) only [forall_eq, vp_in_nI, nI_clamp, rq_c0, rq_c1, rq_c2, rq_c3, rq_c6, rq_c7, rq_c8, rq_c9, rq_c10, rq_c11, rq_c12, rq_c13, rq_c14, rq_c15, rq_c16, rq_c17, rq_c18, rq_c48, rq_c99, rq_c10368, rq_c30000, rq_eqT, rq_eqF, rq_leT, rq_leF, rq_ltT, rq_ltF, rq_neg, nI_add, pk_mul, pk_sub, pk_div, true_and, and_true, true_implies, false_implies, implies_true, not_true_eq_false, not_false_eq_true, pk_us, Nat.add_sub_cancel, eq_self, hK]
  refine ht _ ?_
  exact hg _ hp
end
