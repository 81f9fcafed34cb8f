/-! the relation, and the small tests of both sides -/
def i_Rel (_ : Nat) (u : SX) (v : SY) : Prop :=
  ∃ (n : Nat) (H D O : Nat → Nat) (xT xR yT yR hh op tp dp : Int32) (ce sz K A hA dA oA C sx tb rh oc kr kn tm fl sy bg ra fd vl sn : Nat → Int32),
    u = (nI n, xT, xR, ce, sz, K, A, hA, dA, oA, C, sx, tb, rh, oc, kr, kn, tm) ∧ v = (nI n, hh, op, tp, yT, yR, dp, sz, ce, K, A, fl, sy, tm, bg, ra, fd, vl, sn) ∧ rq_Prof n K A C hA dA oA H D O ∧ rq_Sz sz
theorem i_up {k : Nat} {u : SX} {v : SY} (h : i_Rel k u v) : i_Rel (k + 5) u v := h
theorem rq_mk (k : Nat) {n : Nat} {H D O : Nat → Nat} {xT xR yT yR hh op tp dp : Int32} {ce sz K A hA dA oA C sx tb rh oc kr kn tm fl sy bg ra fd vl sn : Nat → Int32} (P : rq_Prof n K A C hA dA oA H D O) (hs : rq_Sz sz) :
    i_Rel k (nI n, xT, xR, ce, sz, K, A, hA, dA, oA, C, sx, tb, rh, oc, kr, kn, tm) (nI n, hh, op, tp, yT, yR, dp, sz, ce, K, A, fl, sy, tm, bg, ra, fd, vl, sn) := ⟨n, H, D, O, xT, xR, yT, yR, hh, op, tp, dp, ce, sz, K, A, hA, dA, oA, C, sx, tb, rh, oc, kr, kn, tm, fl, sy, bg, ra, fd, vl, sn, rfl, rfl, P, hs⟩
theorem i_vc0 : wpX_init (fun u => wpY_init (fun v => i_Rel 0 u v)) := by
  refine nm_e ?_
  refine rq_mk 0 (n := 0) (H := fun _ => 0) (D := fun _ => 0) (O := fun _ => 0) ⟨by omega, ⟨rfl, rfl, rfl⟩, fun i hi => ?_, fun i hi => by omega⟩ (fun t ht => ⟨0, by omega, rfl⟩)
  have e : i = 0 := by omega
  subst e
  exact ⟨rfl, rfl, fun _ => rfl, fun z => absurd z (Nat.lt_irrefl 0)⟩
theorem rq_szU {sz : Nat → Int32} {a s : Nat} (h : rq_Sz sz) (hs : s ≤ 6) : rq_Sz (upd sz a (nI s)) := fun t ht => by
  by_cases e : t = a
  · exact ⟨s, hs, by rw [e, pk_us]⟩
  · obtain ⟨s', h1, h2⟩ := h t ht
    exact ⟨s', h1, by rw [pk_un e]; exact h2⟩
section
variable {tc aT aR : Int32} {ce sz K A hA dA oA C sx tb rh oc kr kn tm : Nat → Int32}
theorem rq_xTabT {post : Int32 → Prop} {a : Nat} (ha : a < 3) (hp : post 1) : wpX_isTable post (nI a) :=
  br_f (nI_pos (by omega)) (br_f (nI_ge (b := 3) ha (by decide)) hp)
theorem rq_xTabF {post : Int32 → Prop} {v : Int32} (h : ¬ ∃ a, a < 3 ∧ v = nI a) (hp : post 0) : wpX_isTable post v := by
  rcases pk_ix v (n := 3) (by decide) with z | z | ⟨j, h1, h2⟩
  · exact br_t z hp
  · exact br_c (fun _ => hp) (fun _ => br_t z hp)
  · exact absurd ⟨j, h1, h2⟩ h
theorem rq_xColT {post : Int32 → Prop} {a : Nat} (ha : a < 3) (hp : post 1) : wpX_isColumn post (nI a) :=
  br_f (nI_pos (by omega)) (br_f (nI_ge (b := 3) ha (by decide)) hp)
theorem rq_xColF {post : Int32 → Prop} {v : Int32} (h : ¬ ∃ a, a < 3 ∧ v = nI a) (hp : post 0) : wpX_isColumn post v := by
  rcases pk_ix v (n := 3) (by decide) with z | z | ⟨j, h1, h2⟩
  · exact br_t z hp
  · exact br_c (fun _ => hp) (fun _ => br_t z hp)
  · exact absurd ⟨j, h1, h2⟩ h
theorem rq_xRowT {post : Int32 → Prop} {a s q : Nat} (ha : a < 3) (hs : sz a = nI s) (h6 : s ≤ 6) (h : q < s) (hp : post 1) : wpX_isRow post (tc, aT, aR, ce, sz, K, A, hA, dA, oA, C, sx, tb, rh, oc, kr, kn, tm) (nI a) (nI q) := by
  unfold wpX_isRow
  simp (disch := omega) only [forall_eq, vp_in_nI, nI_clamp, rq_c0, rq_c1, rq_c2, rq_c3, rq_c6, rq_c7, rq_c8, rq_c9, rq_c10, rq_c11, rq_c12, rq_c13, rq_c14, rq_c15, rq_c16, rq_c17, rq_c18, rq_c48, rq_c99, rq_c10368, rq_c30000, rq_eqT, rq_eqF, rq_leT, rq_leF, rq_ltT, rq_ltF, rq_neg, nI_add, pk_mul, pk_sub, pk_div, true_and, and_true, true_implies, false_implies, implies_true, not_true_eq_false, not_false_eq_true, pk_us, Nat.add_sub_cancel, eq_self, hs]
  exact hp
theorem rq_xRowF {post : Int32 → Prop} {a s : Nat} {v : Int32} (ha : a < 3) (hs : sz a = nI s) (h6 : s ≤ 6) (h : ¬ ∃ q, q < s ∧ v = nI q) (hp : post 0) : wpX_isRow post (tc, aT, aR, ce, sz, K, A, hA, dA, oA, C, sx, tb, rh, oc, kr, kn, tm) (nI a) v := by
  unfold wpX_isRow
  simp (disch := omega) only [vp_in_nI, nI_clamp, true_and, hs]
  rcases pk_ix v (n := s) (by omega) with z | z | ⟨j, h1, h2⟩
  · exact br_t z hp
  · exact br_c (fun _ => hp) (fun _ => br_t z hp)
  · exact absurd ⟨j, h1, h2⟩ h
theorem rq_xIsWhole {n : Nat} {H D O : Nat → Nat} (P : rq_Prof n K A C hA dA oA H D O) {post : Int32 → Prop} (h1 : D n = 0 ∧ H n = 1 → post 1) (h0 : ¬ (D n = 0 ∧ H n = 1) → post 0) : wpX_isWhole post (nI n, aT, aR, ce, sz, K, A, hA, dA, oA, C, sx, tb, rh, oc, kr, kn, tm) := by
  have hn := P.1
  have a1 := (rq_open P n (Nat.le_refl _)).1
  have a2 := (rq_open P n (Nat.le_refl _)).2.1
  have hP := P.2.2.1 n (Nat.le_refl _)
  unfold wpX_isWhole
  simp (disch := omega) only [vp_in_nI, nI_clamp, true_and, hP.1, hP.2.1]
  exact pk_eq (D n) 0 (fun z => pk_eq (H n) 1 (fun y => h1 ⟨z, y⟩) (fun y => h0 fun w => y w.2)) (fun z => h0 fun w => z w.1)
end
section
variable {tc hh op tp aT aR dp : Int32} {sz ce K A fl sy tm bg ra fd vl sn : Nat → Int32}
theorem rq_lt2 {v : Int32} (h : nI 3 ≤ v) : (2 : Int32) < v := Int32.lt_of_lt_of_le (by decide) h
theorem rq_yTabT {post : Int32 → Prop} {a : Nat} (ha : a < 3) (hp : post 1) : wpY_isTable post (tc, hh, op, tp, aT, aR, dp, sz, ce, K, A, fl, sy, tm, bg, ra, fd, vl, sn) (nI a) :=
  br_f (nI_pos (by omega)) (br_f (nI_nlt (b := 2) (a := a) |> fun h => fun z => absurd z (by
    have := (nI_ltI (a := 2) (b := a) (by omega) (by omega)).mp z
    omega)) hp)
theorem rq_yTabF {post : Int32 → Prop} {v : Int32} (h : ¬ ∃ a, a < 3 ∧ v = nI a) (hp : post 0) : wpY_isTable post (tc, hh, op, tp, aT, aR, dp, sz, ce, K, A, fl, sy, tm, bg, ra, fd, vl, sn) v := by
  rcases pk_ix v (n := 3) (by decide) with z | z | ⟨j, h1, h2⟩
  · exact br_t z hp
  · exact br_c (fun _ => hp) (fun _ => br_t (rq_lt2 z) hp)
  · exact absurd ⟨j, h1, h2⟩ h
theorem rq_yRowT {post : Int32 → Prop} {a s q : Nat} (ha : a < 3) (hs : sz a = nI s) (h6 : s ≤ 6) (h : q < s) (hp : post 1) : wpY_isRow post (tc, hh, op, tp, aT, aR, dp, sz, ce, K, A, fl, sy, tm, bg, ra, fd, vl, sn) (nI a) (nI q) := by
  unfold wpY_isRow
  refine rq_yTabT ha ?_
  simp (disch := omega) only [forall_eq, vp_in_nI, nI_clamp, rq_c0, rq_c1, rq_c2, rq_c3, rq_c6, rq_c7, rq_c8, rq_c9, rq_c10, rq_c11, rq_c12, rq_c13, rq_c14, rq_c15, rq_c16, rq_c17, rq_c18, rq_c48, rq_c99, rq_c10368, rq_c30000, rq_eqT, rq_eqF, rq_leT, rq_leF, rq_ltT, rq_ltF, rq_neg, nI_add, pk_mul, pk_sub, pk_div, true_and, and_true, true_implies, false_implies, implies_true, not_true_eq_false, not_false_eq_true, pk_us, Nat.add_sub_cancel, eq_self, hs]
  exact hp
theorem rq_yRowF {post : Int32 → Prop} {a s : Nat} {v : Int32} (ha : a < 3) (hs : sz a = nI s) (h6 : s ≤ 6) (h : ¬ ∃ q, q < s ∧ v = nI q) (hp : post 0) : wpY_isRow post (tc, hh, op, tp, aT, aR, dp, sz, ce, K, A, fl, sy, tm, bg, ra, fd, vl, sn) (nI a) v := by
  unfold wpY_isRow
  refine rq_yTabT ha ?_
  refine br_f (by decide) ?_
  simp (disch := omega) only [vp_in_nI, nI_clamp, true_and, hs]
  rcases pk_ix v (n := s) (by omega) with z | z | ⟨j, h1, h2⟩
  · exact br_t z hp
  · exact br_c (fun _ => hp) (fun _ => br_t z hp)
  · exact absurd ⟨j, h1, h2⟩ h
theorem rq_yRowN {post : Int32 → Prop} {v w : Int32} (h : ¬ ∃ a, a < 3 ∧ v = nI a) (hp : post 0) : wpY_isRow post (tc, hh, op, tp, aT, aR, dp, sz, ce, K, A, fl, sy, tm, bg, ra, fd, vl, sn) v w := by
  unfold wpY_isRow
  refine rq_yTabF h ?_
  exact br_t rfl hp
end
