/-! the component's walks while a program is worked out -/
def rq_mx (f : Nat) (x v : Int32) : Int32 := if f = 0 then x else if x ≤ v then v else x
def rq_mn (f : Nat) (x v : Int32) : Int32 := if f = 0 then x else if v ≤ x then v else x
def rq_jn (k : Nat) (n m : Int32) : Int32 :=
  if k = 2 then n + m else if k = 3 then n - m else if k = 4 then n * m else if k = 5 then (if m ≤ n then 0 else 1) else if k = 6 then (if n = m then 1 else 0)
  else if k = 7 then (if n = 0 then 0 else if m = 0 then 0 else 1) else (if n = 0 then (if m = 0 then 0 else 1) else 1)
section
variable {tc aT aR : Int32} {ce sz K A hA dA oA C sx tb rh oc kr kn tm : Nat → Int32}
theorem rq_xNextA {post : Int32 → SX → Prop} {o d a s q : Nat} (ho : o < 48) (hd : d < 3) (ha : a < 3) (hs : sz a = nI s) (h6 : s ≤ 6) (h : q < s)
    (hp : post (nI (o + 1)) (tc, aT, aR, ce, sz, K, A, hA, dA, oA, C, sx, tb, upd rh d (nI q), oc, kr, kn, tm)) : wX_goToNextRow_44 post (nI o) (nI d) (nI a) (nI q) tc aT aR ce sz K A hA dA oA C sx tb rh oc kr kn tm := by
  unfold wX_goToNextRow_44
  simp (disch := omega) only [forall_eq, vp_in_nI, nI_clamp, rq_c0, rq_c1, rq_c2, rq_c3, rq_c6, rq_c7, rq_c8, rq_c9, rq_c10, rq_c11, rq_c12, rq_c13, rq_c14, rq_c15, rq_c16, rq_c17, rq_c18, rq_c48, rq_c99, rq_c10368, rq_c30000, rq_eqT, rq_eqF, rq_leT, rq_leF, rq_ltT, rq_ltF, rq_neg, nI_add, pk_mul, pk_sub, pk_div, true_and, and_true, true_implies, false_implies, implies_true, not_true_eq_false, not_false_eq_true, pk_us, Nat.add_sub_cancel, eq_self, hs]
  exact hp
theorem rq_xNextB {post : Int32 → SX → Prop} {o d a s q c h : Nat} (ho : o < 48) (hd : d < 3) (ha : a < 3) (hs : sz a = nI s) (h6 : s ≤ 6) (hq : s ≤ q) (hq7 : q ≤ 7) (hH : hA o = nI h) (h5 : h ≤ 5) (hC : C o = nI c)
    (hp : post (nI (c + 1)) (tc, aT, aR, ce, sz, K, A, hA, dA, oA, C, upd sx h (oc d), tb, rh, oc, kr, kn, tm)) : wX_goToNextRow_44 post (nI o) (nI d) (nI a) (nI q) tc aT aR ce sz K A hA dA oA C sx tb rh oc kr kn tm := by
  unfold wX_goToNextRow_44
  simp (disch := omega) only [forall_eq, vp_in_nI, nI_clamp, rq_c0, rq_c1, rq_c2, rq_c3, rq_c6, rq_c7, rq_c8, rq_c9, rq_c10, rq_c11, rq_c12, rq_c13, rq_c14, rq_c15, rq_c16, rq_c17, rq_c18, rq_c48, rq_c99, rq_c10368, rq_c30000, rq_eqT, rq_eqF, rq_leT, rq_leF, rq_ltT, rq_ltF, rq_neg, nI_add, pk_mul, pk_sub, pk_div, true_and, and_true, true_implies, false_implies, implies_true, not_true_eq_false, not_false_eq_true, pk_us, Nat.add_sub_cancel, eq_self, hs, hH, hC]
  exact hp
theorem rq_xGo {post : Int32 → SX → Prop} {o d a q q' : Nat} (ho : o < 48) (hd : d < 3) (hD : dA o = nI d) (ht : tb d = nI a) (hr : rh d + 1 = nI q)
    (hq : (nI a = aT ∧ nI q = aR ∧ q' = q + 1) ∨ (¬ (nI a = aT ∧ nI q = aR) ∧ q' = q)) (hp : wX_goToNextRow_44 post (nI o) (nI d) (nI a) (nI q') tc aT aR ce sz K A hA dA oA C sx tb rh oc kr kn tm) : wpX_goToNextRow post (tc, aT, aR, ce, sz, K, A, hA, dA, oA, C, sx, tb, rh, oc, kr, kn, tm) (nI o) := by
  rw [rq_c1] at hr
  unfold wpX_goToNextRow
  simp (disch := omega) only [forall_eq, vp_in_nI, nI_clamp, rq_c0, rq_c1, rq_c2, rq_c3, rq_c6, rq_c7, rq_c8, rq_c9, rq_c10, rq_c11, rq_c12, rq_c13, rq_c14, rq_c15, rq_c16, rq_c17, rq_c18, rq_c48, rq_c99, rq_c10368, rq_c30000, rq_eqT, rq_eqF, rq_leT, rq_leF, rq_ltT, rq_ltF, rq_neg, nI_add, pk_mul, pk_sub, pk_div, true_and, and_true, true_implies, false_implies, implies_true, not_true_eq_false, not_false_eq_true, pk_us, Nat.add_sub_cancel, eq_self, hD, ht, hr]
  rcases hq with ⟨e1, e2, rfl⟩ | ⟨e, rfl⟩
  · exact ⟨fun _ => ⟨fun _ => hp, fun z => absurd e2 z⟩, fun z => absurd e1 z⟩
  · exact ⟨fun z1 => ⟨fun z2 => absurd ⟨z1, z2⟩ e, fun _ => hp⟩, fun _ => hp⟩
theorem rq_xBegin {post : SX → Prop} {o d : Nat} (ho : o < 48) (hd : d < 3) (hD : dA o = nI d)
    (hp : post (tc, aT, aR, ce, sz, K, A, hA, dA, oA, C, sx, upd tb d (A o), upd rh d (-1), upd oc d 0, upd kr d 0, kn, tm)) : wpX_beginBlock post (tc, aT, aR, ce, sz, K, A, hA, dA, oA, C, sx, tb, rh, oc, kr, kn, tm) (nI o) := by
  unfold wpX_beginBlock
  simp (disch := omega) only [forall_eq, vp_in_nI, nI_clamp, rq_c0, rq_c1, rq_c2, rq_c3, rq_c6, rq_c7, rq_c8, rq_c9, rq_c10, rq_c11, rq_c12, rq_c13, rq_c14, rq_c15, rq_c16, rq_c17, rq_c18, rq_c48, rq_c99, rq_c10368, rq_c30000, rq_eqT, rq_eqF, rq_leT, rq_leF, rq_ltT, rq_ltF, rq_neg, nI_add, pk_mul, pk_sub, pk_div, true_and, and_true, true_implies, false_implies, implies_true, not_true_eq_false, not_false_eq_true, pk_us, Nat.add_sub_cancel, eq_self, hD]
  exact hp
theorem rq_xKeep12 {post : SX → Prop} {i d : Nat} (hi : i < 48) (hd : d < 3) (hD : dA i = nI (d + 1)) (hK : K i = nI 12) (hp : post (tc, aT, aR, ce, sz, K, A, hA, dA, oA, C, sx, tb, rh, upd oc d (oc d + 1), kr, kn, tm)) : wpX_keepRow post (tc, aT, aR, ce, sz, K, A, hA, dA, oA, C, sx, tb, rh, oc, kr, kn, tm) (nI i) := by
  unfold wpX_keepRow
  simp (disch := omega) only [forall_eq, vp_in_nI, nI_clamp, rq_c0, rq_c1, rq_c2, rq_c3, rq_c6, rq_c7, rq_c8, rq_c9, rq_c10, rq_c11, rq_c12, rq_c13, rq_c14, rq_c15, rq_c16, rq_c17, rq_c18, rq_c48, rq_c99, rq_c10368, rq_c30000, rq_eqT, rq_eqF, rq_leT, rq_leF, rq_ltT, rq_ltF, rq_neg, nI_add, pk_mul, pk_sub, pk_div, true_and, and_true, true_implies, false_implies, implies_true, not_true_eq_false, not_false_eq_true, pk_us, Nat.add_sub_cancel, eq_self, hD, hK]
  exact hp
theorem rq_xKeep13 {post : SX → Prop} {i d : Nat} (hi : i < 48) (hd : d < 3) (hD : dA i = nI (d + 1)) (hK : K i = nI 13) (hp : post (tc, aT, aR, ce, sz, K, A, hA, dA, oA, C, sx, tb, rh, upd oc d 1, kr, kn, tm)) : wpX_keepRow post (tc, aT, aR, ce, sz, K, A, hA, dA, oA, C, sx, tb, rh, oc, kr, kn, tm) (nI i) := by
  unfold wpX_keepRow
  simp (disch := omega) only [forall_eq, vp_in_nI, nI_clamp, rq_c0, rq_c1, rq_c2, rq_c3, rq_c6, rq_c7, rq_c8, rq_c9, rq_c10, rq_c11, rq_c12, rq_c13, rq_c14, rq_c15, rq_c16, rq_c17, rq_c18, rq_c48, rq_c99, rq_c10368, rq_c30000, rq_eqT, rq_eqF, rq_leT, rq_leF, rq_ltT, rq_ltF, rq_neg, nI_add, pk_mul, pk_sub, pk_div, true_and, and_true, true_implies, false_implies, implies_true, not_true_eq_false, not_false_eq_true, pk_us, Nat.add_sub_cancel, eq_self, hD, hK]
  exact hp
theorem rq_xKeepN {post : SX → Prop} {i d k h : Nat} (hi : i < 48) (hd : d < 3) (hD : dA i = nI (d + 1)) (hK : K i = nI k) (h14 : 14 ≤ k) (h17 : k ≤ 17) (hH : hA i = nI (h + 1)) (h5 : h ≤ 5) {T : SX}
    (hw : ∀ p : SX → Prop, p T → wpX_keepNumber p (tc, aT, aR, ce, sz, K, A, hA, dA, oA, C, sx, tb, rh, oc, kr, kn, tm) (nI k) (nI d) (sx h)) (hp : post T) : wpX_keepRow post (tc, aT, aR, ce, sz, K, A, hA, dA, oA, C, sx, tb, rh, oc, kr, kn, tm) (nI i) := by
  unfold wpX_keepRow
  simp (disch := omega) only [forall_eq, vp_in_nI, nI_clamp, rq_c0, rq_c1, rq_c2, rq_c3, rq_c6, rq_c7, rq_c8, rq_c9, rq_c10, rq_c11, rq_c12, rq_c13, rq_c14, rq_c15, rq_c16, rq_c17, rq_c18, rq_c48, rq_c99, rq_c10368, rq_c30000, rq_eqT, rq_eqF, rq_leT, rq_leF, rq_ltT, rq_ltF, rq_neg, nI_add, pk_mul, pk_sub, pk_div, true_and, and_true, true_implies, false_implies, implies_true, not_true_eq_false, not_false_eq_true, pk_us, Nat.add_sub_cancel, eq_self, hD, hK, hH]
  exact hw _ hp
theorem rq_x134 {post : SX → Prop} {d f : Nat} {x : Int32} (hd : d < 3) (hf : f ≤ 5) (hk : kr d = nI f) (hp : post (tc, aT, aR, ce, sz, K, A, hA, dA, oA, C, sx, tb, rh, oc, upd kr d (nI (f + 1)), upd kn (6 * d + f) x, tm)) :
    wX_keepNumber_134 post (nI d) x tc aT aR ce sz K A hA dA oA C sx tb rh oc kr kn tm := by
  unfold wX_keepNumber_134
  simp (disch := omega) only [forall_eq, vp_in_nI, nI_clamp, rq_c0, rq_c1, rq_c2, rq_c3, rq_c6, rq_c7, rq_c8, rq_c9, rq_c10, rq_c11, rq_c12, rq_c13, rq_c14, rq_c15, rq_c16, rq_c17, rq_c18, rq_c48, rq_c99, rq_c10368, rq_c30000, rq_eqT, rq_eqF, rq_leT, rq_leF, rq_ltT, rq_ltF, rq_neg, nI_add, pk_mul, pk_sub, pk_div, true_and, and_true, true_implies, false_implies, implies_true, not_true_eq_false, not_false_eq_true, pk_us, Nat.add_sub_cancel, eq_self, hk, rq_6]
  exact hp
theorem rq_xKN14 {post : SX → Prop} {d f : Nat} {x : Int32} (hd : d < 3) (hf : f ≤ 5) (hk : kr d = nI f) (hp : post (tc, aT, aR, ce, sz, K, A, hA, dA, oA, C, sx, tb, rh, upd oc d (oc d + x), upd kr d (nI (f + 1)), upd kn (6 * d + f) x, tm)) :
    wpX_keepNumber post (tc, aT, aR, ce, sz, K, A, hA, dA, oA, C, sx, tb, rh, oc, kr, kn, tm) (nI 14) (nI d) x := by
  have H : ∀ z, wX_keepNumber_14 post (nI 14) (nI d) x z tc aT aR ce sz K A hA dA oA C sx tb rh oc kr kn tm := fun z => by
    unfold wX_keepNumber_14
    simp (disch := omega) only [forall_eq, vp_in_nI, nI_clamp, rq_c0, rq_c1, rq_c2, rq_c3, rq_c6, rq_c7, rq_c8, rq_c9, rq_c10, rq_c11, rq_c12, rq_c13, rq_c14, rq_c15, rq_c16, rq_c17, rq_c18, rq_c48, rq_c99, rq_c10368, rq_c30000, rq_eqT, rq_eqF, rq_leT, rq_leF, rq_ltT, rq_ltF, rq_neg, nI_add, pk_mul, pk_sub, pk_div, true_and, and_true, true_implies, false_implies, implies_true, not_true_eq_false, not_false_eq_true, pk_us, Nat.add_sub_cancel, eq_self]
    exact rq_x134 hd hf hk hp
  exact And.intro (vp_in_nI hd (by omega)) (And.intro (fun _ => H 1) (fun _ => H 0))
theorem rq_xKN15 {post : SX → Prop} {d f : Nat} {x : Int32} (hd : d < 3) (hf : f ≤ 5) (hk : kr d = nI f) (hp : post (tc, aT, aR, ce, sz, K, A, hA, dA, oA, C, sx, tb, rh, upd oc d (rq_mx f x (oc d)), upd kr d (nI (f + 1)), upd kn (6 * d + f) x, tm)) :
    wpX_keepNumber post (tc, aT, aR, ce, sz, K, A, hA, dA, oA, C, sx, tb, rh, oc, kr, kn, tm) (nI 15) (nI d) x := by
  unfold wpX_keepNumber wX_keepNumber_14 wX_keepNumber_61 wX_keepNumber_71
  by_cases z : f = 0
  · simp (disch := omega) only [forall_eq, vp_in_nI, nI_clamp, rq_c0, rq_c1, rq_c2, rq_c3, rq_c6, rq_c7, rq_c8, rq_c9, rq_c10, rq_c11, rq_c12, rq_c13, rq_c14, rq_c15, rq_c16, rq_c17, rq_c18, rq_c48, rq_c99, rq_c10368, rq_c30000, rq_eqT, rq_eqF, rq_leT, rq_leF, rq_ltT, rq_ltF, rq_neg, nI_add, pk_mul, pk_sub, pk_div, true_and, and_true, true_implies, false_implies, implies_true, not_true_eq_false, not_false_eq_true, pk_us, Nat.add_sub_cancel, eq_self, hk]
    refine rq_x134 hd hf hk ?_
    rw [rq_mx, if_pos z] at hp
    exact hp
  · by_cases c : x ≤ oc d
    · simp (disch := omega) only [forall_eq, vp_in_nI, nI_clamp, rq_c0, rq_c1, rq_c2, rq_c3, rq_c6, rq_c7, rq_c8, rq_c9, rq_c10, rq_c11, rq_c12, rq_c13, rq_c14, rq_c15, rq_c16, rq_c17, rq_c18, rq_c48, rq_c99, rq_c10368, rq_c30000, rq_eqT, rq_eqF, rq_leT, rq_leF, rq_ltT, rq_ltF, rq_neg, nI_add, pk_mul, pk_sub, pk_div, true_and, and_true, true_implies, false_implies, implies_true, not_true_eq_false, not_false_eq_true, pk_us, Nat.add_sub_cancel, eq_self, hk, c]
      refine rq_x134 hd hf hk ?_
      rw [rq_mx, if_neg z, if_pos c] at hp
      exact hp
    · simp (disch := omega) only [forall_eq, vp_in_nI, nI_clamp, rq_c0, rq_c1, rq_c2, rq_c3, rq_c6, rq_c7, rq_c8, rq_c9, rq_c10, rq_c11, rq_c12, rq_c13, rq_c14, rq_c15, rq_c16, rq_c17, rq_c18, rq_c48, rq_c99, rq_c10368, rq_c30000, rq_eqT, rq_eqF, rq_leT, rq_leF, rq_ltT, rq_ltF, rq_neg, nI_add, pk_mul, pk_sub, pk_div, true_and, and_true, true_implies, false_implies, implies_true, not_true_eq_false, not_false_eq_true, pk_us, Nat.add_sub_cancel, eq_self, hk, c]
      refine rq_x134 hd hf hk ?_
      rw [rq_mx, if_neg z, if_neg c] at hp
      exact hp
theorem rq_xKN16 {post : SX → Prop} {d f : Nat} {x : Int32} (hd : d < 3) (hf : f ≤ 5) (hk : kr d = nI f) (hp : post (tc, aT, aR, ce, sz, K, A, hA, dA, oA, C, sx, tb, rh, upd oc d (rq_mn f x (oc d)), upd kr d (nI (f + 1)), upd kn (6 * d + f) x, tm)) :
    wpX_keepNumber post (tc, aT, aR, ce, sz, K, A, hA, dA, oA, C, sx, tb, rh, oc, kr, kn, tm) (nI 16) (nI d) x := by
  unfold wpX_keepNumber wX_keepNumber_14 wX_keepNumber_101 wX_keepNumber_111
  by_cases z : f = 0
  · simp (disch := omega) only [forall_eq, vp_in_nI, nI_clamp, rq_c0, rq_c1, rq_c2, rq_c3, rq_c6, rq_c7, rq_c8, rq_c9, rq_c10, rq_c11, rq_c12, rq_c13, rq_c14, rq_c15, rq_c16, rq_c17, rq_c18, rq_c48, rq_c99, rq_c10368, rq_c30000, rq_eqT, rq_eqF, rq_leT, rq_leF, rq_ltT, rq_ltF, rq_neg, nI_add, pk_mul, pk_sub, pk_div, true_and, and_true, true_implies, false_implies, implies_true, not_true_eq_false, not_false_eq_true, pk_us, Nat.add_sub_cancel, eq_self, hk]
    refine rq_x134 hd hf hk ?_
    rw [rq_mn, if_pos z] at hp
    exact hp
  · by_cases c : oc d ≤ x
    · simp (disch := omega) only [forall_eq, vp_in_nI, nI_clamp, rq_c0, rq_c1, rq_c2, rq_c3, rq_c6, rq_c7, rq_c8, rq_c9, rq_c10, rq_c11, rq_c12, rq_c13, rq_c14, rq_c15, rq_c16, rq_c17, rq_c18, rq_c48, rq_c99, rq_c10368, rq_c30000, rq_eqT, rq_eqF, rq_leT, rq_leF, rq_ltT, rq_ltF, rq_neg, nI_add, pk_mul, pk_sub, pk_div, true_and, and_true, true_implies, false_implies, implies_true, not_true_eq_false, not_false_eq_true, pk_us, Nat.add_sub_cancel, eq_self, hk, c]
      refine rq_x134 hd hf hk ?_
      rw [rq_mn, if_neg z, if_pos c] at hp
      exact hp
    · simp (disch := omega) only [forall_eq, vp_in_nI, nI_clamp, rq_c0, rq_c1, rq_c2, rq_c3, rq_c6, rq_c7, rq_c8, rq_c9, rq_c10, rq_c11, rq_c12, rq_c13, rq_c14, rq_c15, rq_c16, rq_c17, rq_c18, rq_c48, rq_c99, rq_c10368, rq_c30000, rq_eqT, rq_eqF, rq_leT, rq_leF, rq_ltT, rq_ltF, rq_neg, nI_add, pk_mul, pk_sub, pk_div, true_and, and_true, true_implies, false_implies, implies_true, not_true_eq_false, not_false_eq_true, pk_us, Nat.add_sub_cancel, eq_self, hk, c]
      refine rq_x134 hd hf hk ?_
      rw [rq_mn, if_neg z, if_neg c] at hp
      exact hp
theorem rq_xKept2 {post : Int32 → Prop} {d f : Nat} {x : Int32} (hd : d < 3) (hf : f ≤ 5) (hk : kr d = nI f) (h1 : (∃ j, j < f ∧ kn (6 * d + j) = x) → post 1) (h0 : (¬ ∃ j, j < f ∧ kn (6 * d + j) = x) → post 0) :
    ∀ m j, j + m = f → (∀ i, i < j → ¬ kn (6 * d + i) = x) → wX_isKept_2 post (nI d) x tc aT aR ce sz K A hA dA oA C sx tb rh oc kr kn tm (m + 1) (nI j) := by
  intro m
  induction m with
  | zero =>
    intro j hj hi
    rw [wX_isKept_2]
    simp (disch := omega) only [forall_eq, vp_in_nI, nI_clamp, rq_c0, rq_c1, rq_c2, rq_c3, rq_c6, rq_c7, rq_c8, rq_c9, rq_c10, rq_c11, rq_c12, rq_c13, rq_c14, rq_c15, rq_c16, rq_c17, rq_c18, rq_c48, rq_c99, rq_c10368, rq_c30000, rq_eqT, rq_eqF, rq_leT, rq_leF, rq_ltT, rq_ltF, rq_neg, nI_add, pk_mul, pk_sub, pk_div, true_and, and_true, true_implies, false_implies, implies_true, not_true_eq_false, not_false_eq_true, pk_us, Nat.add_sub_cancel, eq_self, hk]
    exact h0 fun ⟨i, i1, i2⟩ => hi i (by omega) i2
  | succ m ih =>
    intro j hj hi
    rw [wX_isKept_2]
    simp (disch := omega) only [forall_eq, vp_in_nI, nI_clamp, rq_c0, rq_c1, rq_c2, rq_c3, rq_c6, rq_c7, rq_c8, rq_c9, rq_c10, rq_c11, rq_c12, rq_c13, rq_c14, rq_c15, rq_c16, rq_c17, rq_c18, rq_c48, rq_c99, rq_c10368, rq_c30000, rq_eqT, rq_eqF, rq_leT, rq_leF, rq_ltT, rq_ltF, rq_neg, nI_add, pk_mul, pk_sub, pk_div, true_and, and_true, true_implies, false_implies, implies_true, not_true_eq_false, not_false_eq_true, pk_us, Nat.add_sub_cancel, eq_self, hk, rq_6]
    refine ⟨fun z => h1 ⟨j, by omega, z⟩, fun z => ih (j + 1) (by omega) fun i hi2 => ?_⟩
    by_cases e : i = j
    · rw [e]; exact z
    · exact hi i (by omega)
theorem rq_xKept {post : Int32 → Prop} {d f : Nat} {x : Int32} (hd : d < 3) (hf : f ≤ 5) (hk : kr d = nI f) (h1 : (∃ j, j < f ∧ kn (6 * d + j) = x) → post 1) (h0 : (¬ ∃ j, j < f ∧ kn (6 * d + j) = x) → post 0) :
    wpX_isKept post (tc, aT, aR, ce, sz, K, A, hA, dA, oA, C, sx, tb, rh, oc, kr, kn, tm) (nI d) x :=
  Exists.intro (f + 1) (rq_xKept2 hd hf hk h1 h0 f 0 (by omega) (fun i hi => by omega))
theorem rq_xKN17a {post : SX → Prop} {d f : Nat} {x : Int32} (hd : d < 3) (hf : f ≤ 5) (hk : kr d = nI f) (hx : ∃ j, j < f ∧ kn (6 * d + j) = x) (hp : post (tc, aT, aR, ce, sz, K, A, hA, dA, oA, C, sx, tb, rh, oc, upd kr d (nI (f + 1)), upd kn (6 * d + f) x, tm)) :
    wpX_keepNumber post (tc, aT, aR, ce, sz, K, A, hA, dA, oA, C, sx, tb, rh, oc, kr, kn, tm) (nI 17) (nI d) x := by
  have H : ∀ z, wX_keepNumber_14 post (nI 17) (nI d) x z tc aT aR ce sz K A hA dA oA C sx tb rh oc kr kn tm := fun z => by
    unfold wX_keepNumber_14
    simp (disch := omega) only [forall_eq, vp_in_nI, nI_clamp, rq_c0, rq_c1, rq_c2, rq_c3, rq_c6, rq_c7, rq_c8, rq_c9, rq_c10, rq_c11, rq_c12, rq_c13, rq_c14, rq_c15, rq_c16, rq_c17, rq_c18, rq_c48, rq_c99, rq_c10368, rq_c30000, rq_eqT, rq_eqF, rq_leT, rq_leF, rq_ltT, rq_ltF, rq_neg, nI_add, pk_mul, pk_sub, pk_div, true_and, and_true, true_implies, false_implies, implies_true, not_true_eq_false, not_false_eq_true, pk_us, Nat.add_sub_cancel, eq_self]
    refine rq_xKept hd hf hk (fun _ => ?_) (fun z => absurd hx z)
    exact And.intro (fun z => absurd z (by decide)) (fun _ => rq_x134 hd hf hk hp)
  exact And.intro (vp_in_nI hd (by omega)) (And.intro (fun _ => H 1) (fun _ => H 0))
theorem rq_xKN17b {post : SX → Prop} {d f : Nat} {x : Int32} (hd : d < 3) (hf : f ≤ 5) (hk : kr d = nI f) (hx : ¬ ∃ j, j < f ∧ kn (6 * d + j) = x) (hp : post (tc, aT, aR, ce, sz, K, A, hA, dA, oA, C, sx, tb, rh, upd oc d (oc d + 1), upd kr d (nI (f + 1)), upd kn (6 * d + f) x, tm)) :
    wpX_keepNumber post (tc, aT, aR, ce, sz, K, A, hA, dA, oA, C, sx, tb, rh, oc, kr, kn, tm) (nI 17) (nI d) x := by
  have H : ∀ z, wX_keepNumber_14 post (nI 17) (nI d) x z tc aT aR ce sz K A hA dA oA C sx tb rh oc kr kn tm := fun z => by
    unfold wX_keepNumber_14
    simp (disch := omega) only [forall_eq, vp_in_nI, nI_clamp, rq_c0, rq_c1, rq_c2, rq_c3, rq_c6, rq_c7, rq_c8, rq_c9, rq_c10, rq_c11, rq_c12, rq_c13, rq_c14, rq_c15, rq_c16, rq_c17, rq_c18, rq_c48, rq_c99, rq_c10368, rq_c30000, rq_eqT, rq_eqF, rq_leT, rq_leF, rq_ltT, rq_ltF, rq_neg, nI_add, pk_mul, pk_sub, pk_div, true_and, and_true, true_implies, false_implies, implies_true, not_true_eq_false, not_false_eq_true, pk_us, Nat.add_sub_cancel, eq_self]
    refine rq_xKept hd hf hk (fun z => absurd z hx) (fun _ => ?_)
    exact And.intro (fun _ => rq_x134 hd hf hk hp) (fun z => absurd rfl z)
  exact And.intro (vp_in_nI hd (by omega)) (And.intro (fun _ => H 1) (fun _ => H 0))
theorem rq_xCell {post : Int32 → Prop} {a t r : Nat} (ha : a < 9) (hb : tb (a / 3) = nI t) (hr : rh (a / 3) = nI r) (ht : t < 3) (h5 : r ≤ 5) (hp : post (ce (18 * t + 3 * r + (a - a / 3 * 3)))) : wpX_cellAtHand post (tc, aT, aR, ce, sz, K, A, hA, dA, oA, C, sx, tb, rh, oc, kr, kn, tm) (nI a) := by
  unfold wpX_cellAtHand wpX_cellIndex
  simp (disch := omega) only [forall_eq, vp_in_nI, nI_clamp, rq_c0, rq_c1, rq_c2, rq_c3, rq_c6, rq_c7, rq_c8, rq_c9, rq_c10, rq_c11, rq_c12, rq_c13, rq_c14, rq_c15, rq_c16, rq_c17, rq_c18, rq_c48, rq_c99, rq_c10368, rq_c30000, rq_eqT, rq_eqF, rq_leT, rq_leF, rq_ltT, rq_ltF, rq_neg, nI_add, pk_mul, pk_sub, pk_div, true_and, and_true, true_implies, false_implies, implies_true, not_true_eq_false, not_false_eq_true, pk_us, Nat.add_sub_cancel, eq_self, hb, hr, rq_ix]
  exact hp
theorem rq_xComb {post : Int32 → Prop} {k : Nat} {n m : Int32} (h2 : 2 ≤ k) (h8 : k ≤ 8) (hp : post (rq_jn k n m)) : wpX_combine post (nI k) n m := by
  have hk : k = 2 ∨ k = 3 ∨ k = 4 ∨ k = 5 ∨ k = 6 ∨ k = 7 ∨ k = 8 := by omega
  unfold wpX_combine
  rcases hk with rfl | rfl | rfl | rfl | rfl | rfl | rfl
  · exact br_f (by decide) (br_f (by decide) (br_t rfl hp))
  · exact br_f (by decide) (br_f (by decide) (br_f (by decide) (br_t rfl hp)))
  · exact br_f (by decide) (br_f (by decide) (br_f (by decide) (br_f (by decide) (br_t rfl hp))))
  · have e : rq_jn 5 n m = if m ≤ n then 0 else 1 := rfl
    rw [e] at hp
    exact br_f (by decide) (br_f (by decide) (br_f (by decide) (br_f (by decide) (br_f (by decide) (br_t rfl (br_c (fun z => by rw [if_pos z] at hp; exact hp) (fun z => by rw [if_neg z] at hp; exact hp)))))))
  · have e : rq_jn 6 n m = if n = m then 1 else 0 := rfl
    rw [e] at hp
    exact br_f (by decide) (br_f (by decide) (br_f (by decide) (br_f (by decide) (br_f (by decide) (br_f (by decide) (br_t rfl (br_c (fun z => by rw [if_pos z] at hp; exact hp) (fun z => by rw [if_neg z] at hp; exact hp))))))))
  · have e : rq_jn 7 n m = if n = 0 then 0 else if m = 0 then 0 else 1 := rfl
    rw [e] at hp
    exact br_f (by decide) (br_f (by decide) (br_f (by decide) (br_f (by decide) (br_f (by decide) (br_f (by decide) (br_f (by decide) (br_t rfl (br_c (fun z => by rw [if_pos z] at hp; exact hp) (fun z => by rw [if_neg z] at hp; exact br_c (fun y => by rw [if_pos y] at hp; exact hp) (fun y => by rw [if_neg y] at hp; exact hp))))))))))
  · have e : rq_jn 8 n m = if n = 0 then (if m = 0 then 0 else 1) else 1 := rfl
    rw [e] at hp
    exact br_f (by decide) (br_t (by decide) (br_c (fun z => by rw [if_pos z] at hp; exact br_c (fun y => by rw [if_pos y] at hp; exact hp) (fun y => by rw [if_neg y] at hp; exact hp)) (fun z => by rw [if_neg z] at hp; exact hp)))
theorem rq_xPut0 {post : SX → Prop} {i h : Nat} (hi : i < 48) (hK : K i = nI 0) (hH : hA i = nI h) (h5 : h ≤ 5) (hp : post (tc, aT, aR, ce, sz, K, A, hA, dA, oA, C, upd sx h (A i), tb, rh, oc, kr, kn, tm)) : wpX_putNumber post (tc, aT, aR, ce, sz, K, A, hA, dA, oA, C, sx, tb, rh, oc, kr, kn, tm) (nI i) := by
  unfold wpX_putNumber
  simp (disch := omega) only [forall_eq, vp_in_nI, nI_clamp, rq_c0, rq_c1, rq_c2, rq_c3, rq_c6, rq_c7, rq_c8, rq_c9, rq_c10, rq_c11, rq_c12, rq_c13, rq_c14, rq_c15, rq_c16, rq_c17, rq_c18, rq_c48, rq_c99, rq_c10368, rq_c30000, rq_eqT, rq_eqF, rq_leT, rq_leF, rq_ltT, rq_ltF, rq_neg, nI_add, pk_mul, pk_sub, pk_div, true_and, and_true, true_implies, false_implies, implies_true, not_true_eq_false, not_false_eq_true, pk_us, Nat.add_sub_cancel, eq_self, hK, hH]
  exact hp
theorem rq_xPut1 {post : SX → Prop} {i h a t r : Nat} (hi : i < 48) (hK : K i = nI 1) (hH : hA i = nI h) (h5 : h ≤ 5) (hA' : A i = nI a) (ha : a < 9) (hb : tb (a / 3) = nI t) (hr : rh (a / 3) = nI r) (ht : t < 3) (hr5 : r ≤ 5)
    (hp : post (tc, aT, aR, ce, sz, K, A, hA, dA, oA, C, upd sx h (ce (18 * t + 3 * r + (a - a / 3 * 3))), tb, rh, oc, kr, kn, tm)) : wpX_putNumber post (tc, aT, aR, ce, sz, K, A, hA, dA, oA, C, sx, tb, rh, oc, kr, kn, tm) (nI i) := by
  unfold wpX_putNumber
  simp (disch := omega) only [forall_eq, vp_in_nI, nI_clamp, rq_c0, rq_c1, rq_c2, rq_c3, rq_c6, rq_c7, rq_c8, rq_c9, rq_c10, rq_c11, rq_c12, rq_c13, rq_c14, rq_c15, rq_c16, rq_c17, rq_c18, rq_c48, rq_c99, rq_c10368, rq_c30000, rq_eqT, rq_eqF, rq_leT, rq_leF, rq_ltT, rq_ltF, rq_neg, nI_add, pk_mul, pk_sub, pk_div, true_and, and_true, true_implies, false_implies, implies_true, not_true_eq_false, not_false_eq_true, pk_us, Nat.add_sub_cancel, eq_self, hK, hH, hA']
  exact rq_xCell ha hb hr ht hr5 hp
theorem rq_xPut9 {post : SX → Prop} {i h : Nat} (hi : i < 48) (hK : K i = nI 9) (hH : hA i = nI (h + 1)) (h5 : h ≤ 5) (hp : post (tc, aT, aR, ce, sz, K, A, hA, dA, oA, C, upd sx h (if sx h = 0 then 1 else 0), tb, rh, oc, kr, kn, tm)) : wpX_putNumber post (tc, aT, aR, ce, sz, K, A, hA, dA, oA, C, sx, tb, rh, oc, kr, kn, tm) (nI i) := by
  unfold wpX_putNumber
  simp (disch := omega) only [forall_eq, vp_in_nI, nI_clamp, rq_c0, rq_c1, rq_c2, rq_c3, rq_c6, rq_c7, rq_c8, rq_c9, rq_c10, rq_c11, rq_c12, rq_c13, rq_c14, rq_c15, rq_c16, rq_c17, rq_c18, rq_c48, rq_c99, rq_c10368, rq_c30000, rq_eqT, rq_eqF, rq_leT, rq_leF, rq_ltT, rq_ltF, rq_neg, nI_add, pk_mul, pk_sub, pk_div, true_and, and_true, true_implies, false_implies, implies_true, not_true_eq_false, not_false_eq_true, pk_us, Nat.add_sub_cancel, eq_self, hK, hH]
  exact ⟨fun z => by rw [if_pos (show sx h = 0 from z)] at hp; exact hp, fun z => by rw [if_neg (show ¬ sx h = 0 from z)] at hp; exact hp⟩
theorem rq_xPut2 {post : SX → Prop} {i h k : Nat} (hi : i < 48) (hK : K i = nI k) (h2 : 2 ≤ k) (h8 : k ≤ 8) (hH : hA i = nI (h + 2)) (h5 : h ≤ 4) (hp : post (tc, aT, aR, ce, sz, K, A, hA, dA, oA, C, upd sx h (rq_jn k (sx h) (sx (h + 1))), tb, rh, oc, kr, kn, tm)) : wpX_putNumber post (tc, aT, aR, ce, sz, K, A, hA, dA, oA, C, sx, tb, rh, oc, kr, kn, tm) (nI i) := by
  unfold wpX_putNumber
  simp (disch := omega) only [forall_eq, vp_in_nI, nI_clamp, rq_c0, rq_c1, rq_c2, rq_c3, rq_c6, rq_c7, rq_c8, rq_c9, rq_c10, rq_c11, rq_c12, rq_c13, rq_c14, rq_c15, rq_c16, rq_c17, rq_c18, rq_c48, rq_c99, rq_c10368, rq_c30000, rq_eqT, rq_eqF, rq_leT, rq_leF, rq_ltT, rq_ltF, rq_neg, nI_add, pk_mul, pk_sub, pk_div, true_and, and_true, true_implies, false_implies, implies_true, not_true_eq_false, not_false_eq_true, pk_us, Nat.add_sub_cancel, eq_self, hK, hH, show h + 2 - 1 = h + 1 from rfl]
  exact rq_xComb h2 h8 hp
end
