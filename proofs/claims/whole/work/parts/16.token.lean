/-! token: the tests of both sides, and the token put -/
def rq_Tok (k : Nat) (v : Int32) : Prop := (k = 0 → ¬ v < -99 ∧ ¬ 99 < v) ∧ (k = 1 → ∃ a, a < 9 ∧ v = nI a) ∧ (k = 10 → ∃ a, a < 3 ∧ v = nI a)
def rq_need (k d w : Nat) : Prop := (2 ≤ k ∧ k ≤ 8 → 2 ≤ w) ∧ (k = 9 → 1 ≤ w) ∧ (k = 11 ∨ 14 ≤ k → 0 < d ∧ w = 1) ∧ (k = 12 ∨ k = 13 → 0 < d ∧ w = 0)
def rq_room (k h d : Nat) : Prop := (k = 10 → d < 3) ∧ (k ≤ 1 ∨ k = 12 ∨ k = 13 → h < 6)
theorem rq_nz {v w : Int32} (h : v < 0) (hw : ¬ w < 0) : ¬ v = w := fun e => by
  rw [e] at h
  exact hw h
theorem rq_bz {v w : Int32} (h : nI 18 ≤ v) (hw : ¬ nI 18 ≤ w) : ¬ v = w := fun e => by
  rw [e] at h
  exact hw h
theorem rq_9v {v : Int32} (h : nI 9 ≤ v) : (8 : Int32) < v := Int32.lt_of_lt_of_le (by decide) h
theorem rq_18v {v : Int32} (h : nI 18 ≤ v) : (17 : Int32) < v := Int32.lt_of_lt_of_le (by decide) h
theorem rq_k17 {k : Nat} (h : k ≤ 17) : ¬ (17 : Int32) < nI k := nI_nlt (a := 17) (b := k) h (by decide)
theorem rq_kne {k m : Nat} (h : k ≠ m) (hk : k ≤ 17) (hm : m ≤ 17) : ¬ nI k = nI m := rq_ne h hk hm
theorem rq_xTokT {post : Int32 → Prop} {k : Nat} {v : Int32} (hk : k ≤ 17) (h : rq_Tok k v) (hp : post 1) : wpX_isToken post (nI k) v := by
  unfold wpX_isToken
  by_cases z0 : k = 0
  · have t := h.1 z0
    subst z0
    exact br_t rfl (br_f t.1 (br_f t.2 hp))
  · refine br_f (rq_kne (m := 0) z0 hk (by omega)) ?_
    by_cases z1 : k = 1
    · obtain ⟨a, ha, rfl⟩ := h.2.1 z1
      subst z1
      exact br_t rfl (br_f (nI_pos (by omega)) (br_f (nI_ge (b := 9) ha (by decide)) hp))
    · refine br_f (rq_kne (m := 1) z1 hk (by omega)) ?_
      by_cases z2 : k = 10
      · obtain ⟨a, ha, rfl⟩ := h.2.2 z2
        subst z2
        exact br_t rfl (rq_xTabT ha ⟨rfl, hp⟩)
      · exact br_f (rq_kne (m := 10) z2 hk (by omega)) (br_f (nI_pos (by omega)) (br_f (rq_k17 hk) hp))
theorem rq_xTokF {post : Int32 → Prop} {x v : Int32} (h : ¬ ∃ k, k ≤ 17 ∧ x = nI k ∧ rq_Tok k v) (hp : post 0) : wpX_isToken post x v := by
  unfold wpX_isToken
  rcases pk_ix x (n := 18) (by decide) with z | z | ⟨k, hk, rfl⟩
  · exact br_f (rq_nz z (by decide)) (br_f (rq_nz z (by decide)) (br_f (rq_nz z (by decide)) (br_t z hp)))
  · exact br_f (rq_bz z (by decide)) (br_f (rq_bz z (by decide)) (br_f (rq_bz z (by decide)) (br_c (fun _ => hp) (fun _ => br_t (rq_18v z) hp))))
  · have hn : ¬ rq_Tok k v := fun t => h ⟨k, by omega, rfl, t⟩
    by_cases z0 : k = 0
    · subst z0
      exact br_t rfl (br_c (fun _ => hp) (fun a => br_c (fun _ => hp) (fun b => absurd ⟨fun _ => ⟨a, b⟩, fun z => by omega, fun z => by omega⟩ hn)))
    · refine br_f (rq_kne (m := 0) z0 (by omega) (by omega)) ?_
      by_cases z1 : k = 1
      · subst z1
        refine br_t rfl ?_
        rcases pk_ix v (n := 9) (by decide) with y | y | y
        · exact br_t y hp
        · exact br_c (fun _ => hp) (fun _ => br_t y hp)
        · exact absurd ⟨fun z => by omega, fun _ => y, fun z => by omega⟩ hn
      · refine br_f (rq_kne (m := 1) z1 (by omega) (by omega)) ?_
        by_cases z2 : k = 10
        · subst z2
          exact br_t rfl (rq_xTabF (fun y => absurd ⟨fun z => by omega, fun z => by omega, fun _ => y⟩ hn) ⟨rfl, hp⟩)
        · exact absurd ⟨fun z => absurd z z0, fun z => absurd z z1, fun z => absurd z z2⟩ hn
section
variable {tc hh op tp aT aR dp : Int32} {sz ce K A fl sy tm bg ra fd vl sn : Nat → Int32}
theorem rq_yTokT {post : Int32 → Prop} {k : Nat} {v : Int32} (hk : k ≤ 17) (h : rq_Tok k v) (hp : post 1) : wpY_isToken post (tc, hh, op, tp, aT, aR, dp, sz, ce, K, A, fl, sy, tm, bg, ra, fd, vl, sn) (nI k) v := by
  unfold wpY_isToken
  by_cases z0 : k = 0
  · have t := h.1 z0
    subst z0
    exact br_t rfl (br_f t.1 (br_f t.2 hp))
  · refine br_f (rq_kne (m := 0) z0 hk (by omega)) ?_
    by_cases z1 : k = 1
    · obtain ⟨a, ha, rfl⟩ := h.2.1 z1
      subst z1
      exact br_t rfl (br_f (nI_pos (by omega)) (br_f (nI_nlt (a := 8) (b := a) (by omega) (by decide)) hp))
    · refine br_f (rq_kne (m := 1) z1 hk (by omega)) ?_
      by_cases z2 : k = 10
      · obtain ⟨a, ha, rfl⟩ := h.2.2 z2
        subst z2
        exact br_t rfl (rq_yTabT ha ⟨rfl, hp⟩)
      · exact br_f (rq_kne (m := 10) z2 hk (by omega)) (br_f (nI_nle (by omega) (by omega)) (br_f (rq_k17 hk) hp))
theorem rq_yTokF {post : Int32 → Prop} {x v : Int32} (h : ¬ ∃ k, k ≤ 17 ∧ x = nI k ∧ rq_Tok k v) (hp : post 0) : wpY_isToken post (tc, hh, op, tp, aT, aR, dp, sz, ce, K, A, fl, sy, tm, bg, ra, fd, vl, sn) x v := by
  unfold wpY_isToken
  rcases pk_ix x (n := 18) (by decide) with z | z | ⟨k, hk, rfl⟩
  · exact br_f (rq_nz z (by decide)) (br_f (rq_nz z (by decide)) (br_f (rq_nz z (by decide)) (br_t (Int32.le_of_lt z) hp)))
  · exact br_f (rq_bz z (by decide)) (br_f (rq_bz z (by decide)) (br_f (rq_bz z (by decide)) (br_c (fun _ => hp) (fun _ => br_t (rq_18v z) hp))))
  · have hn : ¬ rq_Tok k v := fun t => h ⟨k, by omega, rfl, t⟩
    by_cases z0 : k = 0
    · subst z0
      exact br_t rfl (br_c (fun _ => hp) (fun a => br_c (fun _ => hp) (fun b => absurd ⟨fun _ => ⟨a, b⟩, fun z => by omega, fun z => by omega⟩ hn)))
    · refine br_f (rq_kne (m := 0) z0 (by omega) (by omega)) ?_
      by_cases z1 : k = 1
      · subst z1
        refine br_t rfl ?_
        rcases pk_ix v (n := 9) (by decide) with y | y | y
        · exact br_t y hp
        · exact br_c (fun _ => hp) (fun _ => br_t (rq_9v y) hp)
        · exact absurd ⟨fun z => by omega, fun _ => y, fun z => by omega⟩ hn
      · refine br_f (rq_kne (m := 1) z1 (by omega) (by omega)) ?_
        by_cases z2 : k = 10
        · subst z2
          exact br_t rfl (rq_yTabF (fun y => absurd ⟨fun z => by omega, fun z => by omega, fun _ => y⟩ hn) ⟨rfl, hp⟩)
        · exact absurd ⟨fun z => absurd z z0, fun z => absurd z z1, fun z => absurd z z2⟩ hn
theorem rq_yNeed {post : Int32 → SY → Prop} {k h d w : Nat} {v : Int32} (hk : k ≤ 17) (hw : w ≤ 6) (hd : d ≤ 3) (h1 : rq_need k d w → wY_token_130 post (nI k) v tc (nI h) (nI d) tp aT aR dp sz ce K A fl sy tm bg ra fd vl sn) (h0 : ¬ rq_need k d w → post (-4) (tc, nI h, nI d, tp, aT, aR, dp, sz, ce, K, A, fl, sy, tm, bg, ra, fd, vl, sn)) :
    wY_token_75 post (nI k) v (nI w) tc (nI h) (nI d) tp aT aR dp sz ce K A fl sy tm bg ra fd vl sn := by
  unfold wY_token_75 wY_token_90 wY_token_95 wpY_isEnd wpY_takes wY_takes_13
  have hc : k ≤ 1 ∨ k = 10 ∨ (2 ≤ k ∧ k ≤ 8) ∨ k = 9 ∨ k = 11 ∨ (12 ≤ k ∧ k ≤ 13) ∨ 14 ≤ k := by omega
  rcases hc with c | c | c | c | c | c | c
  · simp (disch := omega) only [forall_eq, vp_in_nI, nI_clamp, rq_c0, rq_c1, rq_c2, rq_c3, rq_c6, rq_c7, rq_c8, rq_c9, rq_c10, rq_c11, rq_c12, rq_c13, rq_c14, rq_c15, rq_c16, rq_c17, rq_c18, rq_c48, rq_c99, rq_c10368, rq_c30000, rq_eqT, rq_eqF, rq_leT, rq_leF, rq_ltT, rq_ltF, rq_neg, nI_add, pk_mul, pk_sub, pk_div, true_and, and_true, true_implies, false_implies, implies_true, not_true_eq_false, not_false_eq_true, pk_us, Nat.add_sub_cancel, eq_self]
    exact h1 (by unfold rq_need; omega)
  · simp (disch := omega) only [forall_eq, vp_in_nI, nI_clamp, rq_c0, rq_c1, rq_c2, rq_c3, rq_c6, rq_c7, rq_c8, rq_c9, rq_c10, rq_c11, rq_c12, rq_c13, rq_c14, rq_c15, rq_c16, rq_c17, rq_c18, rq_c48, rq_c99, rq_c10368, rq_c30000, rq_eqT, rq_eqF, rq_leT, rq_leF, rq_ltT, rq_ltF, rq_neg, nI_add, pk_mul, pk_sub, pk_div, true_and, and_true, true_implies, false_implies, implies_true, not_true_eq_false, not_false_eq_true, pk_us, Nat.add_sub_cancel, eq_self]
    exact h1 (by unfold rq_need; omega)
  · simp (disch := omega) only [forall_eq, vp_in_nI, nI_clamp, rq_c0, rq_c1, rq_c2, rq_c3, rq_c6, rq_c7, rq_c8, rq_c9, rq_c10, rq_c11, rq_c12, rq_c13, rq_c14, rq_c15, rq_c16, rq_c17, rq_c18, rq_c48, rq_c99, rq_c10368, rq_c30000, rq_eqT, rq_eqF, rq_leT, rq_leF, rq_ltT, rq_ltF, rq_neg, nI_add, pk_mul, pk_sub, pk_div, true_and, and_true, true_implies, false_implies, implies_true, not_true_eq_false, not_false_eq_true, pk_us, Nat.add_sub_cancel, eq_self]
    exact pk_lt w 2 (fun z => h0 (by unfold rq_need; omega)) (fun z => h1 (by unfold rq_need; omega))
  · simp (disch := omega) only [forall_eq, vp_in_nI, nI_clamp, rq_c0, rq_c1, rq_c2, rq_c3, rq_c6, rq_c7, rq_c8, rq_c9, rq_c10, rq_c11, rq_c12, rq_c13, rq_c14, rq_c15, rq_c16, rq_c17, rq_c18, rq_c48, rq_c99, rq_c10368, rq_c30000, rq_eqT, rq_eqF, rq_leT, rq_leF, rq_ltT, rq_ltF, rq_neg, nI_add, pk_mul, pk_sub, pk_div, true_and, and_true, true_implies, false_implies, implies_true, not_true_eq_false, not_false_eq_true, pk_us, Nat.add_sub_cancel, eq_self]
    exact pk_lt w 1 (fun z => h0 (by unfold rq_need; omega)) (fun z => h1 (by unfold rq_need; omega))
  · simp (disch := omega) only [forall_eq, vp_in_nI, nI_clamp, rq_c0, rq_c1, rq_c2, rq_c3, rq_c6, rq_c7, rq_c8, rq_c9, rq_c10, rq_c11, rq_c12, rq_c13, rq_c14, rq_c15, rq_c16, rq_c17, rq_c18, rq_c48, rq_c99, rq_c10368, rq_c30000, rq_eqT, rq_eqF, rq_leT, rq_leF, rq_ltT, rq_ltF, rq_neg, nI_add, pk_mul, pk_sub, pk_div, true_and, and_true, true_implies, false_implies, implies_true, not_true_eq_false, not_false_eq_true, pk_us, Nat.add_sub_cancel, eq_self]
    exact pk_lt w 1 (fun z => h0 (by unfold rq_need; omega)) (fun z => pk_eq d 0 (fun z2 => h0 (by unfold rq_need; omega)) (fun z2 => pk_eq w 1 (fun z3 => h1 (by unfold rq_need; omega)) (fun z3 => h0 (by unfold rq_need; omega))))
  · simp (disch := omega) only [forall_eq, vp_in_nI, nI_clamp, rq_c0, rq_c1, rq_c2, rq_c3, rq_c6, rq_c7, rq_c8, rq_c9, rq_c10, rq_c11, rq_c12, rq_c13, rq_c14, rq_c15, rq_c16, rq_c17, rq_c18, rq_c48, rq_c99, rq_c10368, rq_c30000, rq_eqT, rq_eqF, rq_leT, rq_leF, rq_ltT, rq_ltF, rq_neg, nI_add, pk_mul, pk_sub, pk_div, true_and, and_true, true_implies, false_implies, implies_true, not_true_eq_false, not_false_eq_true, pk_us, Nat.add_sub_cancel, eq_self]
    exact pk_eq d 0 (fun z2 => h0 (by unfold rq_need; omega)) (fun z2 => pk_eq w 0 (fun z3 => h1 (by unfold rq_need; omega)) (fun z3 => h0 (by unfold rq_need; omega)))
  · simp (disch := omega) only [forall_eq, vp_in_nI, nI_clamp, rq_c0, rq_c1, rq_c2, rq_c3, rq_c6, rq_c7, rq_c8, rq_c9, rq_c10, rq_c11, rq_c12, rq_c13, rq_c14, rq_c15, rq_c16, rq_c17, rq_c18, rq_c48, rq_c99, rq_c10368, rq_c30000, rq_eqT, rq_eqF, rq_leT, rq_leF, rq_ltT, rq_ltF, rq_neg, nI_add, pk_mul, pk_sub, pk_div, true_and, and_true, true_implies, false_implies, implies_true, not_true_eq_false, not_false_eq_true, pk_us, Nat.add_sub_cancel, eq_self]
    exact pk_lt w 1 (fun z => h0 (by unfold rq_need; omega)) (fun z => pk_eq d 0 (fun z2 => h0 (by unfold rq_need; omega)) (fun z2 => pk_eq w 1 (fun z3 => h1 (by unfold rq_need; omega)) (fun z3 => h0 (by unfold rq_need; omega))))
theorem rq_yRoom {post : Int32 → SY → Prop} {k h d : Nat} {v : Int32} (hk : k ≤ 17) (h6 : h ≤ 6) (hd : d ≤ 3) (h1 : rq_room k h d → wY_token_185 post (nI k) v tc (nI h) (nI d) tp aT aR dp sz ce K A fl sy tm bg ra fd vl sn) (h0 : ¬ rq_room k h d → post (-5) (tc, nI h, nI d, tp, aT, aR, dp, sz, ce, K, A, fl, sy, tm, bg, ra, fd, vl, sn)) :
    wY_token_130 post (nI k) v tc (nI h) (nI d) tp aT aR dp sz ce K A fl sy tm bg ra fd vl sn := by
  unfold wY_token_130 wY_token_147 wY_token_152 wY_token_168
  have hc : k ≤ 1 ∨ k = 10 ∨ k = 12 ∨ k = 13 ∨ (2 ≤ k ∧ k ≠ 10 ∧ k ≠ 12 ∧ k ≠ 13) := by omega
  rcases hc with c | c | c | c | c
  · simp (disch := omega) only [forall_eq, vp_in_nI, nI_clamp, rq_c0, rq_c1, rq_c2, rq_c3, rq_c6, rq_c7, rq_c8, rq_c9, rq_c10, rq_c11, rq_c12, rq_c13, rq_c14, rq_c15, rq_c16, rq_c17, rq_c18, rq_c48, rq_c99, rq_c10368, rq_c30000, rq_eqT, rq_eqF, rq_leT, rq_leF, rq_ltT, rq_ltF, rq_neg, nI_add, pk_mul, pk_sub, pk_div, true_and, and_true, true_implies, false_implies, implies_true, not_true_eq_false, not_false_eq_true, pk_us, Nat.add_sub_cancel, eq_self]
    exact pk_eq h 6 (fun z => h0 (by unfold rq_room; omega)) (fun z => h1 (by unfold rq_room; omega))
  · simp (disch := omega) only [forall_eq, vp_in_nI, nI_clamp, rq_c0, rq_c1, rq_c2, rq_c3, rq_c6, rq_c7, rq_c8, rq_c9, rq_c10, rq_c11, rq_c12, rq_c13, rq_c14, rq_c15, rq_c16, rq_c17, rq_c18, rq_c48, rq_c99, rq_c10368, rq_c30000, rq_eqT, rq_eqF, rq_leT, rq_leF, rq_ltT, rq_ltF, rq_neg, nI_add, pk_mul, pk_sub, pk_div, true_and, and_true, true_implies, false_implies, implies_true, not_true_eq_false, not_false_eq_true, pk_us, Nat.add_sub_cancel, eq_self]
    exact pk_eq d 3 (fun z => h0 (by unfold rq_room; omega)) (fun z => h1 (by unfold rq_room; omega))
  · simp (disch := omega) only [forall_eq, vp_in_nI, nI_clamp, rq_c0, rq_c1, rq_c2, rq_c3, rq_c6, rq_c7, rq_c8, rq_c9, rq_c10, rq_c11, rq_c12, rq_c13, rq_c14, rq_c15, rq_c16, rq_c17, rq_c18, rq_c48, rq_c99, rq_c10368, rq_c30000, rq_eqT, rq_eqF, rq_leT, rq_leF, rq_ltT, rq_ltF, rq_neg, nI_add, pk_mul, pk_sub, pk_div, true_and, and_true, true_implies, false_implies, implies_true, not_true_eq_false, not_false_eq_true, pk_us, Nat.add_sub_cancel, eq_self]
    exact pk_eq h 6 (fun z => h0 (by unfold rq_room; omega)) (fun z => h1 (by unfold rq_room; omega))
  · simp (disch := omega) only [forall_eq, vp_in_nI, nI_clamp, rq_c0, rq_c1, rq_c2, rq_c3, rq_c6, rq_c7, rq_c8, rq_c9, rq_c10, rq_c11, rq_c12, rq_c13, rq_c14, rq_c15, rq_c16, rq_c17, rq_c18, rq_c48, rq_c99, rq_c10368, rq_c30000, rq_eqT, rq_eqF, rq_leT, rq_leF, rq_ltT, rq_ltF, rq_neg, nI_add, pk_mul, pk_sub, pk_div, true_and, and_true, true_implies, false_implies, implies_true, not_true_eq_false, not_false_eq_true, pk_us, Nat.add_sub_cancel, eq_self]
    exact pk_eq h 6 (fun z => h0 (by unfold rq_room; omega)) (fun z => h1 (by unfold rq_room; omega))
  · simp (disch := omega) only [forall_eq, vp_in_nI, nI_clamp, rq_c0, rq_c1, rq_c2, rq_c3, rq_c6, rq_c7, rq_c8, rq_c9, rq_c10, rq_c11, rq_c12, rq_c13, rq_c14, rq_c15, rq_c16, rq_c17, rq_c18, rq_c48, rq_c99, rq_c10368, rq_c30000, rq_eqT, rq_eqF, rq_leT, rq_leF, rq_ltT, rq_ltF, rq_neg, nI_add, pk_mul, pk_sub, pk_div, true_and, and_true, true_implies, false_implies, implies_true, not_true_eq_false, not_false_eq_true, pk_us, Nat.add_sub_cancel, eq_self]
    exact h1 (by unfold rq_room; omega)
theorem rq_y185 {post : Int32 → SY → Prop} {n : Nat} {x v : Int32} (hn : n < 48) (hp : post (nI (n + 1)) (nI (n + 1), hh, op, tp, aT, aR, dp, sz, ce, upd K n x, upd A n v, fl, sy, tm, bg, ra, fd, vl, sn)) : wY_token_185 post x v (nI n) hh op tp aT aR dp sz ce K A fl sy tm bg ra fd vl sn := by
  unfold wY_token_185
  simp (disch := omega) only [forall_eq, vp_in_nI, nI_clamp, rq_c0, rq_c1, rq_c2, rq_c3, rq_c6, rq_c7, rq_c8, rq_c9, rq_c10, rq_c11, rq_c12, rq_c13, rq_c14, rq_c15, rq_c16, rq_c17, rq_c18, rq_c48, rq_c99, rq_c10368, rq_c30000, rq_eqT, rq_eqF, rq_leT, rq_leF, rq_ltT, rq_ltF, rq_neg, nI_add, pk_mul, pk_sub, pk_div, true_and, and_true, true_implies, false_implies, implies_true, not_true_eq_false, not_false_eq_true, pk_us, Nat.add_sub_cancel, eq_self]
  exact hp
end
section
variable {tc aT aR : Int32} {ce sz K A hA dA oA C sx tb rh oc kr kn tm : Nat → Int32}
theorem rq_xNeed {post : Int32 → Prop} {n k h b d : Nat} {x2 : Int32} (hn : n ≤ 48) (hk : k ≤ 17) (hH : hA n = nI h) (h6 : h ≤ 6) (hb : b ≤ h) (hx : (d = 0 ∧ x2 = -1) ∨ (0 < d ∧ ∃ o, o < 48 ∧ x2 = nI o))
    (h1 : rq_need k d (h - b) → post 1) (h0 : ¬ rq_need k d (h - b) → post 0) : wX_hasItsNeeds_25 post (nI k) x2 (nI b) (nI n) aT aR ce sz K A hA dA oA C sx tb rh oc kr kn tm := by
  unfold wX_hasItsNeeds_25 wX_hasItsNeeds_89 wpX_takesTwo wpX_endsWithNumber wpX_isEnding
  have hc : k ≤ 1 ∨ k = 10 ∨ (2 ≤ k ∧ k ≤ 8) ∨ k = 9 ∨ k = 11 ∨ (12 ≤ k ∧ k ≤ 13) ∨ 14 ≤ k := by omega
  rcases hx with ⟨hd, rfl⟩ | ⟨hd, o, ho, rfl⟩
  · rcases hc with c | c | c | c | c | c | c
    · simp (disch := omega) only [forall_eq, vp_in_nI, nI_clamp, rq_c0, rq_c1, rq_c2, rq_c3, rq_c6, rq_c7, rq_c8, rq_c9, rq_c10, rq_c11, rq_c12, rq_c13, rq_c14, rq_c15, rq_c16, rq_c17, rq_c18, rq_c48, rq_c99, rq_c10368, rq_c30000, rq_eqT, rq_eqF, rq_leT, rq_leF, rq_ltT, rq_ltF, rq_neg, nI_add, pk_mul, pk_sub, pk_div, true_and, and_true, true_implies, false_implies, implies_true, not_true_eq_false, not_false_eq_true, pk_us, Nat.add_sub_cancel, eq_self, hH]
      exact h1 (by unfold rq_need; omega)
    · simp (disch := omega) only [forall_eq, vp_in_nI, nI_clamp, rq_c0, rq_c1, rq_c2, rq_c3, rq_c6, rq_c7, rq_c8, rq_c9, rq_c10, rq_c11, rq_c12, rq_c13, rq_c14, rq_c15, rq_c16, rq_c17, rq_c18, rq_c48, rq_c99, rq_c10368, rq_c30000, rq_eqT, rq_eqF, rq_leT, rq_leF, rq_ltT, rq_ltF, rq_neg, nI_add, pk_mul, pk_sub, pk_div, true_and, and_true, true_implies, false_implies, implies_true, not_true_eq_false, not_false_eq_true, pk_us, Nat.add_sub_cancel, eq_self, hH]
      exact h1 (by unfold rq_need; omega)
    · simp (disch := omega) only [forall_eq, vp_in_nI, nI_clamp, rq_c0, rq_c1, rq_c2, rq_c3, rq_c6, rq_c7, rq_c8, rq_c9, rq_c10, rq_c11, rq_c12, rq_c13, rq_c14, rq_c15, rq_c16, rq_c17, rq_c18, rq_c48, rq_c99, rq_c10368, rq_c30000, rq_eqT, rq_eqF, rq_leT, rq_leF, rq_ltT, rq_ltF, rq_neg, nI_add, pk_mul, pk_sub, pk_div, true_and, and_true, true_implies, false_implies, implies_true, not_true_eq_false, not_false_eq_true, pk_us, Nat.add_sub_cancel, eq_self, hH]
      exact pk_lt (h - b) 2 (fun z => h0 (by unfold rq_need; omega)) (fun z => h1 (by unfold rq_need; omega))
    · simp (disch := omega) only [forall_eq, vp_in_nI, nI_clamp, rq_c0, rq_c1, rq_c2, rq_c3, rq_c6, rq_c7, rq_c8, rq_c9, rq_c10, rq_c11, rq_c12, rq_c13, rq_c14, rq_c15, rq_c16, rq_c17, rq_c18, rq_c48, rq_c99, rq_c10368, rq_c30000, rq_eqT, rq_eqF, rq_leT, rq_leF, rq_ltT, rq_ltF, rq_neg, nI_add, pk_mul, pk_sub, pk_div, true_and, and_true, true_implies, false_implies, implies_true, not_true_eq_false, not_false_eq_true, pk_us, Nat.add_sub_cancel, eq_self, hH]
      exact pk_lt (h - b) 1 (fun z => h0 (by unfold rq_need; omega)) (fun z => h1 (by unfold rq_need; omega))
    · simp (disch := omega) only [forall_eq, vp_in_nI, nI_clamp, rq_c0, rq_c1, rq_c2, rq_c3, rq_c6, rq_c7, rq_c8, rq_c9, rq_c10, rq_c11, rq_c12, rq_c13, rq_c14, rq_c15, rq_c16, rq_c17, rq_c18, rq_c48, rq_c99, rq_c10368, rq_c30000, rq_eqT, rq_eqF, rq_leT, rq_leF, rq_ltT, rq_ltF, rq_neg, nI_add, pk_mul, pk_sub, pk_div, true_and, and_true, true_implies, false_implies, implies_true, not_true_eq_false, not_false_eq_true, pk_us, Nat.add_sub_cancel, eq_self, hH]
      exact h0 (by unfold rq_need; omega)
    · simp (disch := omega) only [forall_eq, vp_in_nI, nI_clamp, rq_c0, rq_c1, rq_c2, rq_c3, rq_c6, rq_c7, rq_c8, rq_c9, rq_c10, rq_c11, rq_c12, rq_c13, rq_c14, rq_c15, rq_c16, rq_c17, rq_c18, rq_c48, rq_c99, rq_c10368, rq_c30000, rq_eqT, rq_eqF, rq_leT, rq_leF, rq_ltT, rq_ltF, rq_neg, nI_add, pk_mul, pk_sub, pk_div, true_and, and_true, true_implies, false_implies, implies_true, not_true_eq_false, not_false_eq_true, pk_us, Nat.add_sub_cancel, eq_self, hH]
      exact h0 (by unfold rq_need; omega)
    · simp (disch := omega) only [forall_eq, vp_in_nI, nI_clamp, rq_c0, rq_c1, rq_c2, rq_c3, rq_c6, rq_c7, rq_c8, rq_c9, rq_c10, rq_c11, rq_c12, rq_c13, rq_c14, rq_c15, rq_c16, rq_c17, rq_c18, rq_c48, rq_c99, rq_c10368, rq_c30000, rq_eqT, rq_eqF, rq_leT, rq_leF, rq_ltT, rq_ltF, rq_neg, nI_add, pk_mul, pk_sub, pk_div, true_and, and_true, true_implies, false_implies, implies_true, not_true_eq_false, not_false_eq_true, pk_us, Nat.add_sub_cancel, eq_self, hH]
      exact h0 (by unfold rq_need; omega)
  · rcases hc with c | c | c | c | c | c | c
    · simp (disch := omega) only [forall_eq, vp_in_nI, nI_clamp, rq_c0, rq_c1, rq_c2, rq_c3, rq_c6, rq_c7, rq_c8, rq_c9, rq_c10, rq_c11, rq_c12, rq_c13, rq_c14, rq_c15, rq_c16, rq_c17, rq_c18, rq_c48, rq_c99, rq_c10368, rq_c30000, rq_eqT, rq_eqF, rq_leT, rq_leF, rq_ltT, rq_ltF, rq_neg, nI_add, pk_mul, pk_sub, pk_div, true_and, and_true, true_implies, false_implies, implies_true, not_true_eq_false, not_false_eq_true, pk_us, Nat.add_sub_cancel, eq_self, hH]
      exact h1 (by unfold rq_need; omega)
    · simp (disch := omega) only [forall_eq, vp_in_nI, nI_clamp, rq_c0, rq_c1, rq_c2, rq_c3, rq_c6, rq_c7, rq_c8, rq_c9, rq_c10, rq_c11, rq_c12, rq_c13, rq_c14, rq_c15, rq_c16, rq_c17, rq_c18, rq_c48, rq_c99, rq_c10368, rq_c30000, rq_eqT, rq_eqF, rq_leT, rq_leF, rq_ltT, rq_ltF, rq_neg, nI_add, pk_mul, pk_sub, pk_div, true_and, and_true, true_implies, false_implies, implies_true, not_true_eq_false, not_false_eq_true, pk_us, Nat.add_sub_cancel, eq_self, hH]
      exact h1 (by unfold rq_need; omega)
    · simp (disch := omega) only [forall_eq, vp_in_nI, nI_clamp, rq_c0, rq_c1, rq_c2, rq_c3, rq_c6, rq_c7, rq_c8, rq_c9, rq_c10, rq_c11, rq_c12, rq_c13, rq_c14, rq_c15, rq_c16, rq_c17, rq_c18, rq_c48, rq_c99, rq_c10368, rq_c30000, rq_eqT, rq_eqF, rq_leT, rq_leF, rq_ltT, rq_ltF, rq_neg, nI_add, pk_mul, pk_sub, pk_div, true_and, and_true, true_implies, false_implies, implies_true, not_true_eq_false, not_false_eq_true, pk_us, Nat.add_sub_cancel, eq_self, hH]
      exact pk_lt (h - b) 2 (fun z => h0 (by unfold rq_need; omega)) (fun z => h1 (by unfold rq_need; omega))
    · simp (disch := omega) only [forall_eq, vp_in_nI, nI_clamp, rq_c0, rq_c1, rq_c2, rq_c3, rq_c6, rq_c7, rq_c8, rq_c9, rq_c10, rq_c11, rq_c12, rq_c13, rq_c14, rq_c15, rq_c16, rq_c17, rq_c18, rq_c48, rq_c99, rq_c10368, rq_c30000, rq_eqT, rq_eqF, rq_leT, rq_leF, rq_ltT, rq_ltF, rq_neg, nI_add, pk_mul, pk_sub, pk_div, true_and, and_true, true_implies, false_implies, implies_true, not_true_eq_false, not_false_eq_true, pk_us, Nat.add_sub_cancel, eq_self, hH]
      exact pk_lt (h - b) 1 (fun z => h0 (by unfold rq_need; omega)) (fun z => h1 (by unfold rq_need; omega))
    · simp (disch := omega) only [forall_eq, vp_in_nI, nI_clamp, rq_c0, rq_c1, rq_c2, rq_c3, rq_c6, rq_c7, rq_c8, rq_c9, rq_c10, rq_c11, rq_c12, rq_c13, rq_c14, rq_c15, rq_c16, rq_c17, rq_c18, rq_c48, rq_c99, rq_c10368, rq_c30000, rq_eqT, rq_eqF, rq_leT, rq_leF, rq_ltT, rq_ltF, rq_neg, nI_add, pk_mul, pk_sub, pk_div, true_and, and_true, true_implies, false_implies, implies_true, not_true_eq_false, not_false_eq_true, pk_us, Nat.add_sub_cancel, eq_self, hH]
      exact pk_eq (h - b) 1 (fun z => h1 (by unfold rq_need; omega)) (fun z => h0 (by unfold rq_need; omega))
    · simp (disch := omega) only [forall_eq, vp_in_nI, nI_clamp, rq_c0, rq_c1, rq_c2, rq_c3, rq_c6, rq_c7, rq_c8, rq_c9, rq_c10, rq_c11, rq_c12, rq_c13, rq_c14, rq_c15, rq_c16, rq_c17, rq_c18, rq_c48, rq_c99, rq_c10368, rq_c30000, rq_eqT, rq_eqF, rq_leT, rq_leF, rq_ltT, rq_ltF, rq_neg, nI_add, pk_mul, pk_sub, pk_div, true_and, and_true, true_implies, false_implies, implies_true, not_true_eq_false, not_false_eq_true, pk_us, Nat.add_sub_cancel, eq_self, hH]
      exact pk_eq (h - b) 0 (fun z => h1 (by unfold rq_need; omega)) (fun z => h0 (by unfold rq_need; omega))
    · simp (disch := omega) only [forall_eq, vp_in_nI, nI_clamp, rq_c0, rq_c1, rq_c2, rq_c3, rq_c6, rq_c7, rq_c8, rq_c9, rq_c10, rq_c11, rq_c12, rq_c13, rq_c14, rq_c15, rq_c16, rq_c17, rq_c18, rq_c48, rq_c99, rq_c10368, rq_c30000, rq_eqT, rq_eqF, rq_leT, rq_leF, rq_ltT, rq_ltF, rq_neg, nI_add, pk_mul, pk_sub, pk_div, true_and, and_true, true_implies, false_implies, implies_true, not_true_eq_false, not_false_eq_true, pk_us, Nat.add_sub_cancel, eq_self, hH]
      exact pk_eq (h - b) 1 (fun z => h1 (by unfold rq_need; omega)) (fun z => h0 (by unfold rq_need; omega))
theorem rq_xRoom {post : Int32 → Prop} {n k h d : Nat} (hn : n ≤ 48) (hk : k ≤ 17) (hH : hA n = nI h) (hD : dA n = nI d) (h6 : h ≤ 6) (hd : d ≤ 3) (h1 : rq_room k h d → post 1) (h0 : ¬ rq_room k h d → post 0) :
    wpX_hasRoom post (nI n, aT, aR, ce, sz, K, A, hA, dA, oA, C, sx, tb, rh, oc, kr, kn, tm) (nI k) := by
  unfold wpX_hasRoom wX_hasRoom_46
  have hc : k ≤ 1 ∨ k = 10 ∨ k = 12 ∨ k = 13 ∨ (2 ≤ k ∧ k ≠ 10 ∧ k ≠ 12 ∧ k ≠ 13) := by omega
  rcases hc with c | c | c | c | c
  · have c2 : k = 0 ∨ k = 1 := by omega
    rcases c2 with c2 | c2
    · simp (disch := omega) only [forall_eq, vp_in_nI, nI_clamp, rq_c0, rq_c1, rq_c2, rq_c3, rq_c6, rq_c7, rq_c8, rq_c9, rq_c10, rq_c11, rq_c12, rq_c13, rq_c14, rq_c15, rq_c16, rq_c17, rq_c18, rq_c48, rq_c99, rq_c10368, rq_c30000, rq_eqT, rq_eqF, rq_leT, rq_leF, rq_ltT, rq_ltF, rq_neg, nI_add, pk_mul, pk_sub, pk_div, true_and, and_true, true_implies, false_implies, implies_true, not_true_eq_false, not_false_eq_true, pk_us, Nat.add_sub_cancel, eq_self, hH, hD]
      exact pk_le 6 h (fun z => h0 (by unfold rq_room; omega)) (fun z => h1 (by unfold rq_room; omega))
    · simp (disch := omega) only [forall_eq, vp_in_nI, nI_clamp, rq_c0, rq_c1, rq_c2, rq_c3, rq_c6, rq_c7, rq_c8, rq_c9, rq_c10, rq_c11, rq_c12, rq_c13, rq_c14, rq_c15, rq_c16, rq_c17, rq_c18, rq_c48, rq_c99, rq_c10368, rq_c30000, rq_eqT, rq_eqF, rq_leT, rq_leF, rq_ltT, rq_ltF, rq_neg, nI_add, pk_mul, pk_sub, pk_div, true_and, and_true, true_implies, false_implies, implies_true, not_true_eq_false, not_false_eq_true, pk_us, Nat.add_sub_cancel, eq_self, hH, hD]
      exact pk_le 6 h (fun z => h0 (by unfold rq_room; omega)) (fun z => h1 (by unfold rq_room; omega))
  · simp (disch := omega) only [forall_eq, vp_in_nI, nI_clamp, rq_c0, rq_c1, rq_c2, rq_c3, rq_c6, rq_c7, rq_c8, rq_c9, rq_c10, rq_c11, rq_c12, rq_c13, rq_c14, rq_c15, rq_c16, rq_c17, rq_c18, rq_c48, rq_c99, rq_c10368, rq_c30000, rq_eqT, rq_eqF, rq_leT, rq_leF, rq_ltT, rq_ltF, rq_neg, nI_add, pk_mul, pk_sub, pk_div, true_and, and_true, true_implies, false_implies, implies_true, not_true_eq_false, not_false_eq_true, pk_us, Nat.add_sub_cancel, eq_self, hH, hD]
    exact pk_le 3 d (fun z => h0 (by unfold rq_room; omega)) (fun z => h1 (by unfold rq_room; omega))
  · simp (disch := omega) only [forall_eq, vp_in_nI, nI_clamp, rq_c0, rq_c1, rq_c2, rq_c3, rq_c6, rq_c7, rq_c8, rq_c9, rq_c10, rq_c11, rq_c12, rq_c13, rq_c14, rq_c15, rq_c16, rq_c17, rq_c18, rq_c48, rq_c99, rq_c10368, rq_c30000, rq_eqT, rq_eqF, rq_leT, rq_leF, rq_ltT, rq_ltF, rq_neg, nI_add, pk_mul, pk_sub, pk_div, true_and, and_true, true_implies, false_implies, implies_true, not_true_eq_false, not_false_eq_true, pk_us, Nat.add_sub_cancel, eq_self, hH, hD]
    exact pk_le 6 h (fun z => h0 (by unfold rq_room; omega)) (fun z => h1 (by unfold rq_room; omega))
  · simp (disch := omega) only [forall_eq, vp_in_nI, nI_clamp, rq_c0, rq_c1, rq_c2, rq_c3, rq_c6, rq_c7, rq_c8, rq_c9, rq_c10, rq_c11, rq_c12, rq_c13, rq_c14, rq_c15, rq_c16, rq_c17, rq_c18, rq_c48, rq_c99, rq_c10368, rq_c30000, rq_eqT, rq_eqF, rq_leT, rq_leF, rq_ltT, rq_ltF, rq_neg, nI_add, pk_mul, pk_sub, pk_div, true_and, and_true, true_implies, false_implies, implies_true, not_true_eq_false, not_false_eq_true, pk_us, Nat.add_sub_cancel, eq_self, hH, hD]
    exact pk_le 6 h (fun z => h0 (by unfold rq_room; omega)) (fun z => h1 (by unfold rq_room; omega))
  · simp (disch := omega) only [forall_eq, vp_in_nI, nI_clamp, rq_c0, rq_c1, rq_c2, rq_c3, rq_c6, rq_c7, rq_c8, rq_c9, rq_c10, rq_c11, rq_c12, rq_c13, rq_c14, rq_c15, rq_c16, rq_c17, rq_c18, rq_c48, rq_c99, rq_c10368, rq_c30000, rq_eqT, rq_eqF, rq_leT, rq_leF, rq_ltT, rq_ltF, rq_neg, nI_add, pk_mul, pk_sub, pk_div, true_and, and_true, true_implies, false_implies, implies_true, not_true_eq_false, not_false_eq_true, pk_us, Nat.add_sub_cancel, eq_self, hH, hD]
    exact h1 (by unfold rq_room; omega)
theorem rq_xSet {post : SX → Prop} {p : Nat} {x y z : Int32} (hp : p < 49) (h : post (tc, aT, aR, ce, sz, K, A, upd hA p x, upd dA p y, upd oA p z, C, sx, tb, rh, oc, kr, kn, tm)) : wpX_setPlace post (tc, aT, aR, ce, sz, K, A, hA, dA, oA, C, sx, tb, rh, oc, kr, kn, tm) (nI p) x y z := by
  unfold wpX_setPlace
  simp (disch := omega) only [forall_eq, vp_in_nI, nI_clamp, rq_c0, rq_c1, rq_c2, rq_c3, rq_c6, rq_c7, rq_c8, rq_c9, rq_c10, rq_c11, rq_c12, rq_c13, rq_c14, rq_c15, rq_c16, rq_c17, rq_c18, rq_c48, rq_c99, rq_c10368, rq_c30000, rq_eqT, rq_eqF, rq_leT, rq_leF, rq_ltT, rq_ltF, rq_neg, nI_add, pk_mul, pk_sub, pk_div, true_and, and_true, true_implies, false_implies, implies_true, not_true_eq_false, not_false_eq_true, pk_us, Nat.add_sub_cancel, eq_self]
  exact h
theorem rq_xApp10 {post : SX → Prop} {n h d : Nat} {v : Int32} (hn : n < 48) (hH : hA n = nI h) (hD : dA n = nI d)
    (hp : post (nI (n + 1), aT, aR, ce, sz, upd K n (nI 10), upd A n v, upd hA (n + 1) (nI h), upd dA (n + 1) (nI (d + 1)), upd oA (n + 1) (nI n), C, sx, tb, rh, oc, kr, kn, tm)) : wpX_append post (nI n, aT, aR, ce, sz, K, A, hA, dA, oA, C, sx, tb, rh, oc, kr, kn, tm) (nI 10) v := by
  unfold wpX_append
  simp (disch := omega) only [forall_eq, vp_in_nI, nI_clamp, rq_c0, rq_c1, rq_c2, rq_c3, rq_c6, rq_c7, rq_c8, rq_c9, rq_c10, rq_c11, rq_c12, rq_c13, rq_c14, rq_c15, rq_c16, rq_c17, rq_c18, rq_c48, rq_c99, rq_c10368, rq_c30000, rq_eqT, rq_eqF, rq_leT, rq_leF, rq_ltT, rq_ltF, rq_neg, nI_add, pk_mul, pk_sub, pk_div, true_and, and_true, true_implies, false_implies, implies_true, not_true_eq_false, not_false_eq_true, pk_us, Nat.add_sub_cancel, eq_self, hH, hD]
  exact rq_xSet (by omega) hp
theorem rq_xAppE {post : SX → Prop} {n k o h d : Nat} {v w : Int32} (hn : n < 48) (hk : 12 ≤ k) (h17 : k ≤ 17) (ho : o < 48) (hO : oA n = nI o) (hH : hA o = nI h) (hD : dA o = nI d) (hw : oA o = w)
    (hp : post (nI (n + 1), aT, aR, ce, sz, upd K n (nI k), upd A n v, upd hA (n + 1) (nI (h + 1)), upd dA (n + 1) (nI d), upd oA (n + 1) w, upd C o (nI n), sx, tb, rh, oc, kr, kn, tm)) : wpX_append post (nI n, aT, aR, ce, sz, K, A, hA, dA, oA, C, sx, tb, rh, oc, kr, kn, tm) (nI k) v := by
  unfold wpX_append wpX_isEnding
  simp (disch := omega) only [forall_eq, vp_in_nI, nI_clamp, rq_c0, rq_c1, rq_c2, rq_c3, rq_c6, rq_c7, rq_c8, rq_c9, rq_c10, rq_c11, rq_c12, rq_c13, rq_c14, rq_c15, rq_c16, rq_c17, rq_c18, rq_c48, rq_c99, rq_c10368, rq_c30000, rq_eqT, rq_eqF, rq_leT, rq_leF, rq_ltT, rq_ltF, rq_neg, nI_add, pk_mul, pk_sub, pk_div, true_and, and_true, true_implies, false_implies, implies_true, not_true_eq_false, not_false_eq_true, pk_us, Nat.add_sub_cancel, eq_self, hO, hH, hD, hw]
  exact rq_xSet (by omega) hp
theorem rq_xApp1 {post : SX → Prop} {n k h : Nat} {v y w : Int32} (hn : n < 48) (hk : k ≤ 1) (hH : hA n = nI h) (hD : dA n = y) (hw : oA n = w)
    (hp : post (nI (n + 1), aT, aR, ce, sz, upd K n (nI k), upd A n v, upd hA (n + 1) (nI (h + 1)), upd dA (n + 1) y, upd oA (n + 1) w, C, sx, tb, rh, oc, kr, kn, tm)) : wpX_append post (nI n, aT, aR, ce, sz, K, A, hA, dA, oA, C, sx, tb, rh, oc, kr, kn, tm) (nI k) v := by
  unfold wpX_append wpX_isEnding wpX_heightChange
  have c : k = 0 ∨ k = 1 := by omega
  rcases c with c | c
  · simp (disch := omega) only [forall_eq, vp_in_nI, nI_clamp, rq_c0, rq_c1, rq_c2, rq_c3, rq_c6, rq_c7, rq_c8, rq_c9, rq_c10, rq_c11, rq_c12, rq_c13, rq_c14, rq_c15, rq_c16, rq_c17, rq_c18, rq_c48, rq_c99, rq_c10368, rq_c30000, rq_eqT, rq_eqF, rq_leT, rq_leF, rq_ltT, rq_ltF, rq_neg, nI_add, pk_mul, pk_sub, pk_div, true_and, and_true, true_implies, false_implies, implies_true, not_true_eq_false, not_false_eq_true, pk_us, Nat.add_sub_cancel, eq_self, hH, hD, hw]
    exact rq_xSet (by omega) hp
  · simp (disch := omega) only [forall_eq, vp_in_nI, nI_clamp, rq_c0, rq_c1, rq_c2, rq_c3, rq_c6, rq_c7, rq_c8, rq_c9, rq_c10, rq_c11, rq_c12, rq_c13, rq_c14, rq_c15, rq_c16, rq_c17, rq_c18, rq_c48, rq_c99, rq_c10368, rq_c30000, rq_eqT, rq_eqF, rq_leT, rq_leF, rq_ltT, rq_ltF, rq_neg, nI_add, pk_mul, pk_sub, pk_div, true_and, and_true, true_implies, false_implies, implies_true, not_true_eq_false, not_false_eq_true, pk_us, Nat.add_sub_cancel, eq_self, hH, hD, hw]
    exact rq_xSet (by omega) hp
theorem rq_xApp9 {post : SX → Prop} {n h : Nat} {v y w : Int32} (hn : n < 48) (hH : hA n = nI h) (hD : dA n = y) (hw : oA n = w)
    (hp : post (nI (n + 1), aT, aR, ce, sz, upd K n (nI 9), upd A n v, upd hA (n + 1) (nI h), upd dA (n + 1) y, upd oA (n + 1) w, C, sx, tb, rh, oc, kr, kn, tm)) : wpX_append post (nI n, aT, aR, ce, sz, K, A, hA, dA, oA, C, sx, tb, rh, oc, kr, kn, tm) (nI 9) v := by
  unfold wpX_append wpX_isEnding wpX_heightChange
  simp (disch := omega) only [forall_eq, vp_in_nI, nI_clamp, rq_c0, rq_c1, rq_c2, rq_c3, rq_c6, rq_c7, rq_c8, rq_c9, rq_c10, rq_c11, rq_c12, rq_c13, rq_c14, rq_c15, rq_c16, rq_c17, rq_c18, rq_c48, rq_c99, rq_c10368, rq_c30000, rq_eqT, rq_eqF, rq_leT, rq_leF, rq_ltT, rq_ltF, rq_neg, nI_add, pk_mul, pk_sub, pk_div, true_and, and_true, true_implies, false_implies, implies_true, not_true_eq_false, not_false_eq_true, pk_us, Nat.add_sub_cancel, eq_self, hH, hD, hw, Nat.add_zero]
  exact rq_xSet (by omega) hp
theorem rq_mm (h : Nat) : nI (h + 1) + -nI 1 = nI h := pk_m1 h
theorem rq_xApp2 {post : SX → Prop} {n k h : Nat} {v y w : Int32} (hn : n < 48) (hk : (2 ≤ k ∧ k ≤ 8) ∨ k = 11) (hH : hA n = nI (h + 1)) (hD : dA n = y) (hw : oA n = w)
    (hp : post (nI (n + 1), aT, aR, ce, sz, upd K n (nI k), upd A n v, upd hA (n + 1) (nI h), upd dA (n + 1) y, upd oA (n + 1) w, C, sx, tb, rh, oc, kr, kn, tm)) : wpX_append post (nI n, aT, aR, ce, sz, K, A, hA, dA, oA, C, sx, tb, rh, oc, kr, kn, tm) (nI k) v := by
  unfold wpX_append wpX_isEnding wpX_heightChange
  simp (disch := omega) only [forall_eq, vp_in_nI, nI_clamp, rq_c0, rq_c1, rq_c2, rq_c3, rq_c6, rq_c7, rq_c8, rq_c9, rq_c10, rq_c11, rq_c12, rq_c13, rq_c14, rq_c15, rq_c16, rq_c17, rq_c18, rq_c48, rq_c99, rq_c10368, rq_c30000, rq_eqT, rq_eqF, rq_leT, rq_leF, rq_ltT, rq_ltF, rq_neg, nI_add, pk_mul, pk_sub, pk_div, true_and, and_true, true_implies, false_implies, implies_true, not_true_eq_false, not_false_eq_true, pk_us, Nat.add_sub_cancel, eq_self, hH, hD, hw, rq_mm]
  exact rq_xSet (by omega) hp
end
