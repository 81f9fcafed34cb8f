/-! the reference's walks -/
section
variable {tc hh op tp aT aR dp : Int32} {sz ce K A fl sy tm bg ra fd vl sn : Nat → Int32}
theorem rq_yE1 {post : Int32 → Prop} {n m j k e : Nat} (hn : n ≤ 48) (hj : j < n) (hK : K j = nI k) (h1 : k < 12) (h2 : k ≠ 10)
    (hp : wY_endOf_6 post (nI n) hh op tp aT aR dp sz ce K A fl sy tm bg ra fd vl sn m (nI e) (nI (j + 1))) : wY_endOf_6 post (nI n) hh op tp aT aR dp sz ce K A fl sy tm bg ra fd vl sn (m + 1) (nI e) (nI j) := by
  rw [wY_endOf_6]
  unfold wY_endOf_33 wpY_isEnd
  simp (disch := omega) only [forall_eq, vp_in_nI, nI_clamp, rq_c0, rq_c1, rq_c2, rq_c3, rq_c6, rq_c7, rq_c8, rq_c9, rq_c10, rq_c11, rq_c12, rq_c13, rq_c14, rq_c15, rq_c16, rq_c17, rq_c18, rq_c48, rq_c99, rq_c10368, rq_c30000, rq_eqT, rq_eqF, rq_leT, rq_leF, rq_ltT, rq_ltF, rq_neg, nI_add, pk_mul, pk_sub, pk_div, true_and, and_true, true_implies, false_implies, implies_true, not_true_eq_false, not_false_eq_true, pk_us, Nat.add_sub_cancel, eq_self, hK]
  exact hp
theorem rq_yE2 {post : Int32 → Prop} {n m j e : Nat} (hn : n ≤ 48) (hj : j < n) (hK : K j = nI 10)
    (hp : wY_endOf_6 post (nI n) hh op tp aT aR dp sz ce K A fl sy tm bg ra fd vl sn m (nI (e + 1)) (nI (j + 1))) : wY_endOf_6 post (nI n) hh op tp aT aR dp sz ce K A fl sy tm bg ra fd vl sn (m + 1) (nI e) (nI j) := by
  rw [wY_endOf_6]
  unfold wY_endOf_33 wpY_isEnd
  simp (disch := omega) only [forall_eq, vp_in_nI, nI_clamp, rq_c0, rq_c1, rq_c2, rq_c3, rq_c6, rq_c7, rq_c8, rq_c9, rq_c10, rq_c11, rq_c12, rq_c13, rq_c14, rq_c15, rq_c16, rq_c17, rq_c18, rq_c48, rq_c99, rq_c10368, rq_c30000, rq_eqT, rq_eqF, rq_leT, rq_leF, rq_ltT, rq_ltF, rq_neg, nI_add, pk_mul, pk_sub, pk_div, true_and, and_true, true_implies, false_implies, implies_true, not_true_eq_false, not_false_eq_true, pk_us, Nat.add_sub_cancel, eq_self, hK]
  exact hp
theorem rq_yE3 {post : Int32 → Prop} {n m j k e : Nat} (hn : n ≤ 48) (hj : j < n) (hK : K j = nI k) (h1 : 12 ≤ k) (h2 : k ≤ 17) (he : e < 4)
    (hp : wY_endOf_6 post (nI n) hh op tp aT aR dp sz ce K A fl sy tm bg ra fd vl sn m (nI e) (nI (j + 1))) : wY_endOf_6 post (nI n) hh op tp aT aR dp sz ce K A fl sy tm bg ra fd vl sn (m + 1) (nI (e + 1)) (nI j) := by
  rw [wY_endOf_6]
  unfold wY_endOf_33 wpY_isEnd
  simp (disch := omega) only [forall_eq, vp_in_nI, nI_clamp, rq_c0, rq_c1, rq_c2, rq_c3, rq_c6, rq_c7, rq_c8, rq_c9, rq_c10, rq_c11, rq_c12, rq_c13, rq_c14, rq_c15, rq_c16, rq_c17, rq_c18, rq_c48, rq_c99, rq_c10368, rq_c30000, rq_eqT, rq_eqF, rq_leT, rq_leF, rq_ltT, rq_ltF, rq_neg, nI_add, pk_mul, pk_sub, pk_div, true_and, and_true, true_implies, false_implies, implies_true, not_true_eq_false, not_false_eq_true, pk_us, Nat.add_sub_cancel, eq_self, hK]
  exact hp
theorem rq_yE4 {post : Int32 → Prop} {n m j k : Nat} (hn : n ≤ 48) (hj : j < n) (hK : K j = nI k) (h1 : 12 ≤ k) (h2 : k ≤ 17) (hp : post (nI j)) : wY_endOf_6 post (nI n) hh op tp aT aR dp sz ce K A fl sy tm bg ra fd vl sn (m + 1) (nI 0) (nI j) := by
  rw [wY_endOf_6]
  unfold wpY_isEnd
  simp (disch := omega) only [forall_eq, vp_in_nI, nI_clamp, rq_c0, rq_c1, rq_c2, rq_c3, rq_c6, rq_c7, rq_c8, rq_c9, rq_c10, rq_c11, rq_c12, rq_c13, rq_c14, rq_c15, rq_c16, rq_c17, rq_c18, rq_c48, rq_c99, rq_c10368, rq_c30000, rq_eqT, rq_eqF, rq_leT, rq_leF, rq_ltT, rq_ltF, rq_neg, nI_add, pk_mul, pk_sub, pk_div, true_and, and_true, true_implies, false_implies, implies_true, not_true_eq_false, not_false_eq_true, pk_us, Nat.add_sub_cancel, eq_self, hK]
  exact hp
theorem rq_yEnd {n : Nat} {C hA dA oA : Nat → Int32} {H D O : Nat → Nat} (P : rq_Prof n K A C hA dA oA H D O) (h0 : D n = 0) {o : Nat} (ho : o < n) (hK : K o = nI 10) {post : Int32 → Prop} (hp : post (nI (rq_cl C o))) :
    wpY_endOf post (nI n, hh, op, tp, aT, aR, dp, sz, ce, K, A, fl, sy, tm, bg, ra, fd, vl, sn) (nI o) := by
  obtain ⟨c1, c2, ⟨k, q1, q2, q3, q4, _⟩, c4⟩ := rq_closer P h0 ho hK
  obtain ⟨_, _, _, g4, _⟩ := rq_rows P ho hK
  have main : ∀ m j, j + m = rq_cl C o → o < j → wY_endOf_6 post (nI n) hh op tp aT aR dp sz ce K A fl sy tm bg ra fd vl sn (m + 1) (nI (D j - (D o + 1))) (nI j) := by
    intro m
    induction m with
    | zero =>
      intro j hj1 hj2
      have e : j = rq_cl C o := by omega
      subst e
      rw [show D (rq_cl C o) - (D o + 1) = 0 from by omega]
      exact rq_yE4 P.1 c2 q1 q2 q3 hp
    | succ m ih =>
      intro j hj1 hj2
      have a1 := c4 j hj2 (by omega)
      have a2 := c4 (j + 1) (by omega) (by omega)
      have a3 := (rq_open P j (by omega)).2.1
      have IH := ih (j + 1) (by omega) (by omega)
      obtain ⟨k', hk1, _, hk, h6, hc⟩ := P.2.2.2 j (by omega)
      rcases hc with ⟨z, _, h, _⟩ | ⟨z, _, _, h, _⟩ | ⟨z, _, _, h, _⟩ | ⟨z, _, _, h, _⟩ | ⟨z, _, _, _, h, _⟩ | ⟨z, _, _, _, h, _⟩ | ⟨z, _, _, _, h, _⟩
      · rw [h] at IH
        exact rq_yE1 P.1 (by omega) hk1 (by omega) (by omega) IH
      · rw [h] at IH
        exact rq_yE1 P.1 (by omega) hk1 (by omega) (by omega) IH
      · rw [h] at IH
        exact rq_yE1 P.1 (by omega) hk1 (by omega) (by omega) IH
      · rw [h] at IH
        exact rq_yE1 P.1 (by omega) hk1 (by omega) (by omega) IH
      · rw [h, show D j + 1 - (D o + 1) = (D j - (D o + 1)) + 1 from by omega] at IH
        subst z
        exact rq_yE2 P.1 (by omega) hk1 IH
      · rw [h] at IH
        exact rq_yE1 P.1 (by omega) hk1 (by omega) (by omega) IH
      · rw [show D j - (D o + 1) = (D (j + 1) - (D o + 1)) + 1 from by omega]
        exact rq_yE3 P.1 (by omega) hk1 z hk (by omega) IH
  have M := main (rq_cl C o - (o + 1)) (o + 1) (by omega) (by omega)
  rw [g4, Nat.sub_self] at M
  unfold wpY_endOf
  refine nm_r (nI_1 o) ?_
  exact Exists.intro _ M
/-! check -/
theorem rq_yC1 {post : SY → Prop} {n m i k h d : Nat} (hn : n ≤ 48) (hi : i < n) (hh : h ≤ 6) (hK : K i = nI k) (hk : k ≤ 1)
    (hp : wY_check_12 post (nI n) tp aT aR dp m (nI (i + 1)) (nI (h + 1)) (nI d) sz ce K A fl sy tm bg ra fd vl sn) : wY_check_12 post (nI n) tp aT aR dp (m + 1) (nI i) (nI h) (nI d) sz ce K A fl sy tm bg ra fd vl sn := by
  rw [wY_check_12]
  unfold wY_check_101 wpY_takes wY_takes_13 wpY_isEnd
  simp (disch := omega) only [forall_eq, vp_in_nI, nI_clamp, rq_c0, rq_c1, rq_c2, rq_c3, rq_c6, rq_c7, rq_c8, rq_c9, rq_c10, rq_c11, rq_c12, rq_c13, rq_c14, rq_c15, rq_c16, rq_c17, rq_c18, rq_c48, rq_c99, rq_c10368, rq_c30000, rq_eqT, rq_eqF, rq_leT, rq_leF, rq_ltT, rq_ltF, rq_neg, nI_add, pk_mul, pk_sub, pk_div, true_and, and_true, true_implies, false_implies, implies_true, not_true_eq_false, not_false_eq_true, pk_us, Nat.add_sub_cancel, eq_self, hK, Nat.sub_zero]
  exact hp
theorem rq_yC2 {post : SY → Prop} {n m i k h d : Nat} (hn : n ≤ 48) (hi : i < n) (hh : h ≤ 6) (hK : K i = nI k) (hk2 : 2 ≤ k) (hk8 : k ≤ 8)
    (hp : wY_check_12 post (nI n) tp aT aR dp m (nI (i + 1)) (nI (h + 1)) (nI d) sz ce K A fl sy tm bg ra fd vl sn) : wY_check_12 post (nI n) tp aT aR dp (m + 1) (nI i) (nI (h + 2)) (nI d) sz ce K A fl sy tm bg ra fd vl sn := by
  rw [wY_check_12]
  unfold wY_check_101 wpY_takes wY_takes_13 wpY_isEnd
  simp (disch := omega) only [forall_eq, vp_in_nI, nI_clamp, rq_c0, rq_c1, rq_c2, rq_c3, rq_c6, rq_c7, rq_c8, rq_c9, rq_c10, rq_c11, rq_c12, rq_c13, rq_c14, rq_c15, rq_c16, rq_c17, rq_c18, rq_c48, rq_c99, rq_c10368, rq_c30000, rq_eqT, rq_eqF, rq_leT, rq_leF, rq_ltT, rq_ltF, rq_neg, nI_add, pk_mul, pk_sub, pk_div, true_and, and_true, true_implies, false_implies, implies_true, not_true_eq_false, not_false_eq_true, pk_us, Nat.add_sub_cancel, eq_self, hK]
  exact hp
theorem rq_yC3 {post : SY → Prop} {n m i h d : Nat} (hn : n ≤ 48) (hi : i < n) (hh : h ≤ 6) (hK : K i = nI 9)
    (hp : wY_check_12 post (nI n) tp aT aR dp m (nI (i + 1)) (nI (h + 1)) (nI d) sz ce K A fl sy tm bg ra fd vl sn) : wY_check_12 post (nI n) tp aT aR dp (m + 1) (nI i) (nI (h + 1)) (nI d) sz ce K A fl sy tm bg ra fd vl sn := by
  rw [wY_check_12]
  unfold wY_check_101 wpY_takes wY_takes_13 wpY_isEnd
  simp (disch := omega) only [forall_eq, vp_in_nI, nI_clamp, rq_c0, rq_c1, rq_c2, rq_c3, rq_c6, rq_c7, rq_c8, rq_c9, rq_c10, rq_c11, rq_c12, rq_c13, rq_c14, rq_c15, rq_c16, rq_c17, rq_c18, rq_c48, rq_c99, rq_c10368, rq_c30000, rq_eqT, rq_eqF, rq_leT, rq_leF, rq_ltT, rq_ltF, rq_neg, nI_add, pk_mul, pk_sub, pk_div, true_and, and_true, true_implies, false_implies, implies_true, not_true_eq_false, not_false_eq_true, pk_us, Nat.add_sub_cancel, eq_self, hK]
  exact hp
theorem rq_yC4 {post : SY → Prop} {n m i h d : Nat} (hn : n ≤ 48) (hi : i < n) (hh : h ≤ 6) (hd : d < 3) (hK : K i = nI 10)
    (hp : wY_check_12 post (nI n) tp aT aR dp m (nI (i + 1)) (nI h) (nI (d + 1)) sz ce K A (upd fl d (nI h)) sy tm bg ra fd vl sn) : wY_check_12 post (nI n) tp aT aR dp (m + 1) (nI i) (nI h) (nI d) sz ce K A fl sy tm bg ra fd vl sn := by
  rw [wY_check_12]
  unfold wpY_takes wY_takes_13
  simp (disch := omega) only [forall_eq, vp_in_nI, nI_clamp, rq_c0, rq_c1, rq_c2, rq_c3, rq_c6, rq_c7, rq_c8, rq_c9, rq_c10, rq_c11, rq_c12, rq_c13, rq_c14, rq_c15, rq_c16, rq_c17, rq_c18, rq_c48, rq_c99, rq_c10368, rq_c30000, rq_eqT, rq_eqF, rq_leT, rq_leF, rq_ltT, rq_ltF, rq_neg, nI_add, pk_mul, pk_sub, pk_div, true_and, and_true, true_implies, false_implies, implies_true, not_true_eq_false, not_false_eq_true, pk_us, Nat.add_sub_cancel, eq_self, hK, Nat.sub_zero]
  exact hp
theorem rq_yC5 {post : SY → Prop} {n m i h d : Nat} (hn : n ≤ 48) (hi : i < n) (hh : h ≤ 6) (hK : K i = nI 11)
    (hp : wY_check_12 post (nI n) tp aT aR dp m (nI (i + 1)) (nI h) (nI d) sz ce K A fl sy tm bg ra fd vl sn) : wY_check_12 post (nI n) tp aT aR dp (m + 1) (nI i) (nI (h + 1)) (nI d) sz ce K A fl sy tm bg ra fd vl sn := by
  rw [wY_check_12]
  unfold wpY_takes wY_takes_13
  simp (disch := omega) only [forall_eq, vp_in_nI, nI_clamp, rq_c0, rq_c1, rq_c2, rq_c3, rq_c6, rq_c7, rq_c8, rq_c9, rq_c10, rq_c11, rq_c12, rq_c13, rq_c14, rq_c15, rq_c16, rq_c17, rq_c18, rq_c48, rq_c99, rq_c10368, rq_c30000, rq_eqT, rq_eqF, rq_leT, rq_leF, rq_ltT, rq_ltF, rq_neg, nI_add, pk_mul, pk_sub, pk_div, true_and, and_true, true_implies, false_implies, implies_true, not_true_eq_false, not_false_eq_true, pk_us, Nat.add_sub_cancel, eq_self, hK]
  exact hp
theorem rq_yC6 {post : SY → Prop} {n m i k h d : Nat} (hn : n ≤ 48) (hi : i < n) (hh : h ≤ 6) (hd : d ≤ 3) (hK : K i = nI k) (hk : 12 ≤ k) (hk7 : k ≤ 17)
    (hp : wY_check_12 post (nI n) tp aT aR dp m (nI (i + 1)) (nI (h + 1)) (nI d) sz ce K A fl sy tm bg ra fd vl sn) : wY_check_12 post (nI n) tp aT aR dp (m + 1) (nI i) (nI (h + rq_tk k)) (nI (d + 1)) sz ce K A fl sy tm bg ra fd vl sn := by
  rw [wY_check_12]
  unfold wY_check_101 wpY_takes wY_takes_13 wpY_isEnd
  by_cases z : k < 14
  · rw [show rq_tk k = 0 from if_pos z]
    simp (disch := omega) only [forall_eq, vp_in_nI, nI_clamp, rq_c0, rq_c1, rq_c2, rq_c3, rq_c6, rq_c7, rq_c8, rq_c9, rq_c10, rq_c11, rq_c12, rq_c13, rq_c14, rq_c15, rq_c16, rq_c17, rq_c18, rq_c48, rq_c99, rq_c10368, rq_c30000, rq_eqT, rq_eqF, rq_leT, rq_leF, rq_ltT, rq_ltF, rq_neg, nI_add, pk_mul, pk_sub, pk_div, true_and, and_true, true_implies, false_implies, implies_true, not_true_eq_false, not_false_eq_true, pk_us, Nat.add_sub_cancel, eq_self, hK, Nat.sub_zero, Nat.add_zero]
    exact hp
  · rw [show rq_tk k = 1 from if_neg z]
    simp (disch := omega) only [forall_eq, vp_in_nI, nI_clamp, rq_c0, rq_c1, rq_c2, rq_c3, rq_c6, rq_c7, rq_c8, rq_c9, rq_c10, rq_c11, rq_c12, rq_c13, rq_c14, rq_c15, rq_c16, rq_c17, rq_c18, rq_c48, rq_c99, rq_c10368, rq_c30000, rq_eqT, rq_eqF, rq_leT, rq_leF, rq_ltT, rq_ltF, rq_neg, nI_add, pk_mul, pk_sub, pk_div, true_and, and_true, true_implies, false_implies, implies_true, not_true_eq_false, not_false_eq_true, pk_us, Nat.add_sub_cancel, eq_self, hK]
    exact hp
def rq_Fl (H D O : Nat → Nat) (fl : Nat → Int32) (i : Nat) : Prop := ∃ B : Nat → Nat, rq_Ch D O B i ∧ ∀ b, b < D i → fl b = nI (H (B b))
theorem rq_flSame {H D O : Nat → Nat} {fl : Nat → Int32} {i j : Nat} (h : rq_Fl H D O fl i) (hD : D j = D i) (hO : O j = O i) : rq_Fl H D O fl j := by
  obtain ⟨B, h1, h2⟩ := h
  exact ⟨B, rq_chSame h1 hD hO, by rw [hD]; exact h2⟩
theorem rq_yChk {n : Nat} {C hA dA oA : Nat → Int32} {H D O : Nat → Nat} (P : rq_Prof n K A C hA dA oA H D O) : ∀ m i fl, i + m = n → rq_Fl H D O fl i →
    ∃ fl' : Nat → Int32, rq_Fl H D O fl' n ∧ ∀ post : SY → Prop, post (nI n, nI (H n), nI (D n), tp, aT, aR, dp, sz, ce, K, A, fl', sy, tm, bg, ra, fd, vl, sn) →
    wY_check_12 post (nI n) tp aT aR dp (m + 1) (nI i) (nI (H i)) (nI (D i)) sz ce K A fl sy tm bg ra fd vl sn := by
  intro m
  induction m with
  | zero =>
    intro i fl hi hf
    have e : i = n := by omega
    subst e
    refine ⟨fl, hf, fun post hp => ?_⟩
    rw [wY_check_12]
    exact br_t (nI_le (Nat.le_refl _) (by have := P.1; omega)) hp
  | succ m ih =>
    intro i fl hi hf
    have I := rq_open P i (by omega)
    have a1 := I.1
    have a2 := I.2.1
    obtain ⟨k, hk1, _, hk, h6, hc⟩ := P.2.2.2 i (by omega)
    rcases hc with ⟨z, h1, h2, h3⟩ | ⟨z, _, h1, h2, h3⟩ | ⟨z, g, h1, h2, h3⟩ | ⟨z, g, h1, h2, h3⟩ | ⟨z, _, g, h1, h2, h3⟩ | ⟨z, g, g2, h1, h2, h3⟩ | ⟨z, g, g2, h1, h2, h3⟩
    · obtain ⟨fl', q, IH⟩ := ih (i + 1) fl (by omega) (rq_flSame hf h2 h3)
      rw [h1, h2] at IH
      exact ⟨fl', q, fun post hp => rq_yC1 P.1 (by omega) a1 hk1 (by omega) (IH post hp)⟩
    · obtain ⟨fl', q, IH⟩ := ih (i + 1) fl (by omega) (rq_flSame hf h2 h3)
      rw [h1, h2] at IH
      exact ⟨fl', q, fun post hp => rq_yC1 P.1 (by omega) a1 hk1 (by omega) (IH post hp)⟩
    · obtain ⟨fl', q, IH⟩ := ih (i + 1) fl (by omega) (rq_flSame hf h2 h3)
      obtain ⟨h, eh⟩ : ∃ h, H i = h + 2 := ⟨H i - 2, by omega⟩
      rw [show H (i + 1) = h + 1 from by omega, h2] at IH
      rw [eh]
      exact ⟨fl', q, fun post hp => rq_yC2 P.1 (by omega) (by omega) hk1 z.1 z.2 (IH post hp)⟩
    · obtain ⟨fl', q, IH⟩ := ih (i + 1) fl (by omega) (rq_flSame hf h2 h3)
      obtain ⟨h, eh⟩ : ∃ h, H i = h + 1 := ⟨H i - 1, by omega⟩
      rw [h1, h2, eh] at IH
      rw [eh]
      subst z
      exact ⟨fl', q, fun post hp => rq_yC3 P.1 (by omega) (by omega) hk1 (IH post hp)⟩
    · obtain ⟨B, f1, f2⟩ := hf
      obtain ⟨fl', q, IH⟩ := ih (i + 1) (upd fl (D i) (nI (H i))) (by omega) ⟨rq_put B (D i) i, rq_chIn (rq_chPush f1) rq_ps h2 h3, fun b hb => by
        by_cases e : b = D i
        · rw [e, pk_us, rq_ps]
        · rw [pk_un e, rq_pn e]
          exact f2 b (by omega)⟩
      rw [h1, h2] at IH
      subst z
      exact ⟨fl', q, fun post hp => rq_yC4 P.1 (by omega) a1 g hk1 (IH post hp)⟩
    · obtain ⟨fl', q, IH⟩ := ih (i + 1) fl (by omega) (rq_flSame hf h2 h3)
      rw [h1, h2] at IH
      rw [g2]
      subst z
      exact ⟨fl', q, fun post hp => rq_yC5 P.1 (by omega) (by omega) hk1 (IH post hp)⟩
    · obtain ⟨q1, q2, q3, q4, q5⟩ := I.2.2.1 g
      obtain ⟨B, f1, f2⟩ := hf
      obtain ⟨fl', q, IH⟩ := ih (i + 1) fl (by omega) ⟨B, rq_chSame (rq_chOut f1 q3).1 (by omega) h3, fun b hb => f2 b (by omega)⟩
      rw [h1] at IH
      rw [g2, show D i = D (i + 1) + 1 from by omega]
      exact ⟨fl', q, fun post hp => rq_yC6 P.1 (by omega) (by omega) (by omega) hk1 z hk (IH post hp)⟩
theorem rq_yCheck {n : Nat} {C hA dA oA : Nat → Int32} {H D O : Nat → Nat} (P : rq_Prof n K A C hA dA oA H D O) :
    ∃ fl' : Nat → Int32, rq_Fl H D O fl' n ∧ ∀ post : SY → Prop, post (nI n, nI (H n), nI (D n), tp, aT, aR, dp, sz, ce, K, A, fl', sy, tm, bg, ra, fd, vl, sn) → wpY_check post (nI n, hh, op, tp, aT, aR, dp, sz, ce, K, A, fl, sy, tm, bg, ra, fd, vl, sn) := by
  obtain ⟨fl', q, M⟩ := rq_yChk (tp := tp) (aT := aT) (aR := aR) (dp := dp) (sz := sz) (ce := ce) (sy := sy) (tm := tm) (bg := bg) (ra := ra) (fd := fd) (vl := vl) (sn := sn) P n 0 fl (by omega) ⟨fun _ => 0, ⟨fun b hb => by rw [P.2.1.2.1] at hb; omega, fun b hb => by rw [P.2.1.2.1] at hb; omega⟩, fun b hb => by rw [P.2.1.2.1] at hb; omega⟩
  rw [P.2.1.1, P.2.1.2.1] at M
  exact ⟨fl', q, fun post hp => Exists.intro _ (M post hp)⟩
theorem rq_yWhole {n : Nat} {C hA dA oA : Nat → Int32} {H D O : Nat → Nat} (P : rq_Prof n K A C hA dA oA H D O) :
    ∃ fl' : Nat → Int32, ∀ post : Int32 → SY → Prop, (D n = 0 ∧ H n = 1 → post 1 (nI n, nI (H n), nI (D n), tp, aT, aR, dp, sz, ce, K, A, fl', sy, tm, bg, ra, fd, vl, sn)) → (¬ (D n = 0 ∧ H n = 1) → post 0 (nI n, nI (H n), nI (D n), tp, aT, aR, dp, sz, ce, K, A, fl', sy, tm, bg, ra, fd, vl, sn)) → wpY_whole post (nI n, hh, op, tp, aT, aR, dp, sz, ce, K, A, fl, sy, tm, bg, ra, fd, vl, sn) := by
  have a1 := (rq_open P n (Nat.le_refl _)).1
  have a2 := (rq_open P n (Nat.le_refl _)).2.1
  obtain ⟨fl', q, M⟩ := rq_yCheck (hh := hh) (op := op) (fl := fl) (tp := tp) (aT := aT) (aR := aR) (dp := dp) (sz := sz) (ce := ce) (sy := sy) (tm := tm) (bg := bg) (ra := ra) (fd := fd) (vl := vl) (sn := sn) P
  refine ⟨fl', fun post h1 h0 => ?_⟩
  unfold wpY_whole
  refine M _ ?_
  exact pk_eq (D n) 0 (fun z => pk_eq (H n) 1 (fun y => h1 ⟨z, y⟩) (fun y => h0 fun w => y w.2)) (fun z => h0 fun w => z w.1)
/-! the next row -/
theorem rq_yRowFrom {post : Int32 → Prop} {a q q' : Nat} (hq : (nI a = aT ∧ nI q = aR ∧ q' = q + 1) ∨ (¬ (nI a = aT ∧ nI q = aR) ∧ q' = q)) (hp : post (nI q')) : wpY_rowFrom post (tc, hh, op, tp, aT, aR, dp, sz, ce, K, A, fl, sy, tm, bg, ra, fd, vl, sn) (nI a) (nI q) := by
  unfold wpY_rowFrom
  rcases hq with ⟨e1, e2, rfl⟩ | ⟨e, rfl⟩
  · exact br_t e1 (br_t e2 (by rw [nI_1]; exact hp))
  · exact br_c (fun z1 => br_c (fun z2 => absurd ⟨z1, z2⟩ e) (fun _ => hp)) (fun _ => hp)
theorem rq_yNextA {post : Int32 → SY → Prop} {o d a s q q' : Nat} (ho : o < 48) (hd : d < 3) (ha : a < 3) (hb : bg d = nI o) (hA' : A o = nI a) (hs : sz a = nI s) (h6 : s ≤ 6) (hr : ra d + 1 = nI q)
    (hq : (nI a = aT ∧ nI q = aR ∧ q' = q + 1) ∨ (¬ (nI a = aT ∧ nI q = aR) ∧ q' = q)) (h : q' < s)
    (hp : post (nI (o + 1)) (tc, hh, op, tp, aT, aR, nI (d + 1), sz, ce, K, A, fl, sy, tm, bg, upd ra d (nI q'), fd, vl, sn)) : wpY_nextRow post (tc, hh, op, tp, aT, aR, nI (d + 1), sz, ce, K, A, fl, sy, tm, bg, ra, fd, vl, sn) := by
  rw [rq_c1] at hr
  unfold wpY_nextRow
  simp (disch := omega) only [forall_eq, vp_in_nI, nI_clamp, rq_c0, rq_c1, rq_c2, rq_c3, rq_c6, rq_c7, rq_c8, rq_c9, rq_c10, rq_c11, rq_c12, rq_c13, rq_c14, rq_c15, rq_c16, rq_c17, rq_c18, rq_c48, rq_c99, rq_c10368, rq_c30000, rq_eqT, rq_eqF, rq_leT, rq_leF, rq_ltT, rq_ltF, rq_neg, nI_add, pk_mul, pk_sub, pk_div, true_and, and_true, true_implies, false_implies, implies_true, not_true_eq_false, not_false_eq_true, pk_us, Nat.add_sub_cancel, eq_self, hb, hA', hr, hs]
  refine rq_yRowFrom hq ?_
  exact br_f (nI_ge h (by omega)) hp
theorem rq_yNextB {n : Nat} {C hA dA oA : Nat → Int32} {H D O : Nat → Nat} (P : rq_Prof n K A C hA dA oA H D O) (h0 : D n = 0) {o : Nat} (ho : o < n) (hK : K o = nI 10)
    {post : Int32 → SY → Prop} {d a s q q' h : Nat} {x : Int32} (hd : d < 3) (ha : a < 3) (hb : bg d = nI o) (hA' : A o = nI a) (hs : sz a = nI s) (h6 : s ≤ 6) (hr : ra d + 1 = nI q)
    (hq : (nI a = aT ∧ nI q = aR ∧ q' = q + 1) ∨ (¬ (nI a = aT ∧ nI q = aR) ∧ q' = q)) (hq7 : q' ≤ 7) (hsq : s ≤ q') (h5 : h ≤ 5)
    (hx : (K (rq_cl C o) = nI 12 → x = fd d) ∧ (K (rq_cl C o) = nI 13 → ((0 < fd d → x = 1) ∧ (¬ 0 < fd d → x = 0))) ∧ (¬ K (rq_cl C o) = nI 12 → ¬ K (rq_cl C o) = nI 13 → x = vl d))
    (hp : post (nI (rq_cl C o + 1)) (nI n, hh, op, nI (h + 1), aT, aR, nI d, sz, ce, K, A, fl, upd sy h x, tm, bg, upd ra d (nI q'), fd, vl, sn)) : wpY_nextRow post (nI n, hh, op, nI h, aT, aR, nI (d + 1), sz, ce, K, A, fl, sy, tm, bg, ra, fd, vl, sn) := by
  rw [rq_c1] at hr
  have hn := P.1
  have hc := (rq_closer P h0 ho hK).2.1
  have hpush : ∀ y, x = y → wY_nextRow_128 post (nI (rq_cl C o)) y (nI n) hh op (nI h) aT aR (nI d) sz ce K A fl sy tm bg (upd ra d (nI q')) fd vl sn := fun y hy => by
    subst hy
    unfold wY_nextRow_128 wpY_push
    simp (disch := omega) only [forall_eq, vp_in_nI, nI_clamp, rq_c0, rq_c1, rq_c2, rq_c3, rq_c6, rq_c7, rq_c8, rq_c9, rq_c10, rq_c11, rq_c12, rq_c13, rq_c14, rq_c15, rq_c16, rq_c17, rq_c18, rq_c48, rq_c99, rq_c10368, rq_c30000, rq_eqT, rq_eqF, rq_leT, rq_leF, rq_ltT, rq_ltF, rq_neg, nI_add, pk_mul, pk_sub, pk_div, true_and, and_true, true_implies, false_implies, implies_true, not_true_eq_false, not_false_eq_true, pk_us, Nat.add_sub_cancel, eq_self]
    exact hp
  unfold wpY_nextRow
  simp (disch := omega) only [forall_eq, vp_in_nI, nI_clamp, rq_c0, rq_c1, rq_c2, rq_c3, rq_c6, rq_c7, rq_c8, rq_c9, rq_c10, rq_c11, rq_c12, rq_c13, rq_c14, rq_c15, rq_c16, rq_c17, rq_c18, rq_c48, rq_c99, rq_c10368, rq_c30000, rq_eqT, rq_eqF, rq_leT, rq_leF, rq_ltT, rq_ltF, rq_neg, nI_add, pk_mul, pk_sub, pk_div, true_and, and_true, true_implies, false_implies, implies_true, not_true_eq_false, not_false_eq_true, pk_us, Nat.add_sub_cancel, eq_self, hb, hA', hr, hs]
  refine rq_yRowFrom hq ?_
  refine br_t (nI_le hsq (by omega)) ?_
  refine rq_yEnd P h0 ho hK ?_
  simp (disch := omega) only [vp_in_nI, nI_clamp, true_and]
  refine br_c (fun z => hpush _ (hx.1 z)) (fun z => br_c (fun y => ?_) (fun y => hpush _ (hx.2.2 z y)))
  unfold wpY_least
  refine br_c (fun w => hpush _ ((hx.2.1 y).2 ?_)) (fun w => hpush _ ((hx.2.1 y).1 ?_))
  · exact Int32.not_lt.mpr w
  · exact Int32.not_le.mp w
end
