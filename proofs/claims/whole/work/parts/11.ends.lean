/-! the ending tokens, both sides -/
section
variable {hh op aT aR : Int32} {n : Nat} {ce sz K A hA dA oA C sx tb rh oc kr kn fl sy bg ra fd vl sn : Nat → Int32} {H D O : Nat → Nat} {i t : Nat} {B r f : Nat → Nat} {tp dp : Int32}
theorem rq_clEq (P : rq_Prof n K A C hA dA oA H D O) (hi : i < n) (hC : C (O i) = nI i) : rq_cl C (O i) = i := by
  unfold rq_cl
  rw [hC]
  exact nI_clamp (by have := P.1; omega)
/-- what the block at hand is -/
theorem rq_blkAt (P : rq_Prof n K A C hA dA oA H D O) (S : rq_Sim n K A C H D O i t B r f sx tb rh oc kr kn sy bg ra fd vl sn tp dp) (hi : i < n) {k : Nat} (hK : K i = nI k) (hD : 0 < D i) (hC : C (O i) = nI i) :
    r (D (O i)) ≤ 5 ∧ f (D (O i)) ≤ r (D (O i)) ∧ fd (D (O i)) = nI (f (D (O i))) ∧ rq_Out (nI k) (f (D (O i))) (D (O i)) oc kr kn vl sn := by
  obtain ⟨s1, s2, s3, s4, s6, s7⟩ := S
  obtain ⟨a1, a2, a3, a4, a5⟩ := (rq_open P i (by omega)).2.2.1 hD
  obtain ⟨u1, u2, u3⟩ := s7 (D (O i)) (by omega)
  rw [(rq_chOut s3 a3).2, rq_clEq P hi hC, hK] at u3
  exact ⟨u1, u2, u3.2.2.2.2.1, u3.2.2.2.2.2⟩
theorem rq_nE0 (P : rq_Prof n K A C hA dA oA H D O) (h0 : D n = 0) (hs : rq_Sz sz) (S : rq_Sim n K A C H D O i t B r f sx tb rh oc kr kn sy bg ra fd vl sn tp dp) (hi : i < n) {k : Nat} (hK : K i = nI k) (h12 : 12 ≤ k) (h13 : k ≤ 13)
    (hD : 0 < D i) (hC : C (O i) = nI i) (hH : H i = H (O i)) {oc' : Nat → Int32}
    (hk : ∀ (tm : Nat → Int32) (p : SX → Prop), p (nI n, aT, aR, ce, sz, K, A, hA, dA, oA, C, sx, tb, rh, oc', kr, kn, tm) → wpX_keepRow p (nI n, aT, aR, ce, sz, K, A, hA, dA, oA, C, sx, tb, rh, oc, kr, kn, tm) (nI i))
    (e : ∀ b, b < D (O i) → oc' b = oc b) (eo : rq_Out (nI k) (f (D (O i)) + 1) (D (O i)) oc' kr kn vl sn) :
    rq_Nx n K A C hA dA oA H D O ce sz aT aR hh op fl i t sx tb rh oc kr kn sy bg ra fd vl sn tp dp := by
  have hn := P.1
  have hP := P.2.2.1 i (by omega)
  have hO := hP.2.2.2 hD
  have h6 := (rq_open P i (by omega)).1
  have h3 := (rq_open P i (by omega)).2.1
  obtain ⟨a1, a2, a3, a4, a5⟩ := (rq_open P i (by omega)).2.2.1 hD
  obtain ⟨v1, v2, v3, v4⟩ := rq_blkAt P S hi hK hD hC
  have Pr := rq_rowDone S P h0 hi hD (g := f (D (O i)) + 1) (Nat.le_refl _) (oc' := oc') (kr' := kr) (kn' := kn) (fd' := upd fd (D (O i)) (nI (f (D (O i)) + 1))) (vl' := vl) (sn' := sn)
    (fun b hb => ⟨e b hb, rfl, pk_un (by omega), rfl⟩) (fun j hj => rfl) (fun j hj => rfl) pk_us (by rw [rq_clEq P hi hC, hK]; exact eo)
  obtain ⟨i', r', sx', rh', sy', ra', tp', dp', S2, hX, hY⟩ := rq_goNext (ce := ce) (aT := aT) (aR := aR) (hh := hh) (op := op) (fl := fl) P h0 hs Pr
  obtain ⟨s1, s2, s3, ⟨s4, s5⟩, s6, s7⟩ := S
  rw [hH] at s4
  subst s4 s5
  refine ⟨i', _, r', _, sx', tb, rh', oc', kr, kn, sy', bg, ra', _, vl, sn, tp', dp', S2, fun tm post hp => ?_, fun tm post hp => ?_⟩
  · exact rq_xWE (by omega) hK h12 (by omega) hO (hk tm) (hX tm) hp
  · refine rq_ySE0 (by omega) hK h12 h13 (by omega) (fun p h => ?_) (hY _) hp
    rw [← a3] at h ⊢
    exact rq_yT12 (by omega) v3 h13 h
theorem rq_n12 (P : rq_Prof n K A C hA dA oA H D O) (h0 : D n = 0) (hs : rq_Sz sz) (S : rq_Sim n K A C H D O i t B r f sx tb rh oc kr kn sy bg ra fd vl sn tp dp) (hi : i < n) (hK : K i = nI 12)
    (hD : 0 < D i) (hC : C (O i) = nI i) (hH : H i = H (O i)) :
    rq_Nx n K A C hA dA oA H D O ce sz aT aR hh op fl i t sx tb rh oc kr kn sy bg ra fd vl sn tp dp := by
  have hn := P.1
  have hP := P.2.2.1 i (by omega)
  obtain ⟨a1, a2, a3, a4, a5⟩ := (rq_open P i (by omega)).2.2.1 hD
  have h3 := (rq_open P i (by omega)).2.1
  obtain ⟨v1, v2, v3, v4⟩ := rq_blkAt P S hi hK hD hC
  exact rq_nE0 P h0 hs S hi hK (by omega) (by omega) hD hC hH (fun tm p h => rq_xKeep12 (by omega) (by omega) (by rw [a3]; exact hP.2.1) hK h) (fun b hb => pk_un (by omega)) (rq_outCount v4)
theorem rq_n13 (P : rq_Prof n K A C hA dA oA H D O) (h0 : D n = 0) (hs : rq_Sz sz) (S : rq_Sim n K A C H D O i t B r f sx tb rh oc kr kn sy bg ra fd vl sn tp dp) (hi : i < n) (hK : K i = nI 13)
    (hD : 0 < D i) (hC : C (O i) = nI i) (hH : H i = H (O i)) :
    rq_Nx n K A C hA dA oA H D O ce sz aT aR hh op fl i t sx tb rh oc kr kn sy bg ra fd vl sn tp dp := by
  have hn := P.1
  have hP := P.2.2.1 i (by omega)
  obtain ⟨a1, a2, a3, a4, a5⟩ := (rq_open P i (by omega)).2.2.1 hD
  have h3 := (rq_open P i (by omega)).2.1
  exact rq_nE0 P h0 hs S hi hK (by omega) (by omega) hD hC hH (fun tm p h => rq_xKeep13 (by omega) (by omega) (by rw [a3]; exact hP.2.1) hK h) (fun b hb => pk_un (by omega)) rq_outAny
theorem rq_nE1 (P : rq_Prof n K A C hA dA oA H D O) (h0 : D n = 0) (hs : rq_Sz sz) (S : rq_Sim n K A C H D O i t B r f sx tb rh oc kr kn sy bg ra fd vl sn tp dp) (hi : i < n) {k : Nat} (hK : K i = nI k) (h14 : 14 ≤ k) (h17 : k ≤ 17)
    (hD : 0 < D i) (hC : C (O i) = nI i) (hH : H i = H (O i) + 1) {oc' kr' kn' vl' sn' : Nat → Int32}
    (hk : ∀ (tm : Nat → Int32) (p : SX → Prop), p (nI n, aT, aR, ce, sz, K, A, hA, dA, oA, C, sx, tb, rh, oc', kr', kn', tm) → wpX_keepNumber p (nI n, aT, aR, ce, sz, K, A, hA, dA, oA, C, sx, tb, rh, oc, kr, kn, tm) (nI k) (nI (D (O i))) (sx (H (O i))))
    (ht : ∀ (tm : Nat → Int32) (p : SY → Prop), p (nI n, hh, op, nI (H (O i)), aT, aR, nI (D (O i) + 1), sz, ce, K, A, fl, sy, tm, bg, ra, upd fd (D (O i)) (nI (f (D (O i)) + 1)), vl', sn') → wpY_takeRow p (nI n, hh, op, nI (H (O i)), aT, aR, nI (D (O i) + 1), sz, ce, K, A, fl, sy, tm, bg, ra, fd, vl, sn) (nI k) (sx (H (O i))))
    (e : ∀ b, b < D (O i) → oc' b = oc b ∧ kr' b = kr b ∧ vl' b = vl b) (e5 : ∀ j, j < 6 * D (O i) → kn' j = kn j) (e0 : ∀ j, j < 6 * D (O i) → sn' j = sn j)
    (eo : rq_Out (nI k) (f (D (O i)) + 1) (D (O i)) oc' kr' kn' vl' sn') :
    rq_Nx n K A C hA dA oA H D O ce sz aT aR hh op fl i t sx tb rh oc kr kn sy bg ra fd vl sn tp dp := by
  have hn := P.1
  have hP := P.2.2.1 i (by omega)
  have hO := hP.2.2.2 hD
  have hHA := hP.1
  have h6 := (rq_open P i (by omega)).1
  have h3 := (rq_open P i (by omega)).2.1
  obtain ⟨a1, a2, a3, a4, a5⟩ := (rq_open P i (by omega)).2.2.1 hD
  have Pr := rq_rowDone S P h0 hi hD (g := f (D (O i)) + 1) (Nat.le_refl _) (oc' := oc') (kr' := kr') (kn' := kn') (fd' := upd fd (D (O i)) (nI (f (D (O i)) + 1))) (vl' := vl') (sn' := sn')
    (fun b hb => ⟨(e b hb).1, (e b hb).2.1, pk_un (by omega), (e b hb).2.2⟩) e5 e0 pk_us (by rw [rq_clEq P hi hC, hK]; exact eo)
  obtain ⟨i', r', sx', rh', sy', ra', tp', dp', S2, hX, hY⟩ := rq_goNext (ce := ce) (aT := aT) (aR := aR) (hh := hh) (op := op) (fl := fl) P h0 hs Pr
  obtain ⟨s1, s2, s3, ⟨s4, s5⟩, s6, s7⟩ := S
  have es := s6 (H (O i)) (by omega)
  rw [hH] at s4 hHA
  subst s4 s5
  refine ⟨i', _, r', _, sx', tb, rh', oc', kr', kn', sy', bg, ra', _, vl', sn', tp', dp', S2, fun tm post hp => ?_, fun tm post hp => ?_⟩
  · exact rq_xWE (by omega) hK (by omega) h17 hO (fun p h => rq_xKeepN (by omega) (by omega) (by rw [a3]; exact hP.2.1) hK h14 h17 hHA (by omega) (hk tm) h) (hX tm) hp
  · refine rq_ySE1 (by omega) hK h14 h17 (by omega) (fun p h => ?_) (hY _) hp
    rw [← es]
    rw [← a3] at h ⊢
    exact ht _ p h
theorem rq_n14 (P : rq_Prof n K A C hA dA oA H D O) (h0 : D n = 0) (hs : rq_Sz sz) (S : rq_Sim n K A C H D O i t B r f sx tb rh oc kr kn sy bg ra fd vl sn tp dp) (hi : i < n) {k : Nat} (hK : K i = nI k) (h14 : 14 ≤ k) (h17 : k ≤ 17)
    (hD : 0 < D i) (hC : C (O i) = nI i) (hH : H i = H (O i) + 1) :
    rq_Nx n K A C hA dA oA H D O ce sz aT aR hh op fl i t sx tb rh oc kr kn sy bg ra fd vl sn tp dp := by
  obtain ⟨v1, v2, v3, v4⟩ := rq_blkAt P S hi hK hD hC
  have h3 := (rq_open P i (by omega)).2.1
  obtain ⟨a1, a2, a3, a4, a5⟩ := (rq_open P i (by omega)).2.2.1 hD
  obtain ⟨e1, e2⟩ := v4.2.2.1 (rq_ne (by omega)) (rq_ne (by omega))
  have hkc : k = 14 ∨ k = 15 ∨ k = 16 ∨ k = 17 := by omega
  rcases hkc with rfl | rfl | rfl | rfl
  · refine rq_nE1 P h0 hs S hi hK h14 h17 hD hC hH (fun tm p h => rq_xKN14 (by omega) (by omega) e2 h) (fun tm p h => rq_yT14 (by omega) v3 h)
      (fun b hb => ⟨pk_un (by omega), pk_un (by omega), pk_un (by omega)⟩) (fun j hj => pk_un (by omega)) (fun j hj => rfl) ?_
    rw [e1]
    exact rq_outNum (by omega) (by omega)
  · refine rq_nE1 P h0 hs S hi hK h14 h17 hD hC hH (fun tm p h => rq_xKN15 (by omega) (by omega) e2 h) (fun tm p h => rq_yT15 (by omega) v3 (by omega) h)
      (fun b hb => ⟨pk_un (by omega), pk_un (by omega), pk_un (by omega)⟩) (fun j hj => pk_un (by omega)) (fun j hj => rfl) ?_
    rw [e1]
    exact rq_outNum (by omega) (by omega)
  · refine rq_nE1 P h0 hs S hi hK h14 h17 hD hC hH (fun tm p h => rq_xKN16 (by omega) (by omega) e2 h) (fun tm p h => rq_yT16 (by omega) v3 (by omega) h)
      (fun b hb => ⟨pk_un (by omega), pk_un (by omega), pk_un (by omega)⟩) (fun j hj => pk_un (by omega)) (fun j hj => rfl) ?_
    rw [e1]
    exact rq_outNum (by omega) (by omega)
  · obtain ⟨m, m1, m2, m3⟩ := v4.2.2.2 rfl
    by_cases z : ∃ j, j < f (D (O i)) ∧ kn (6 * D (O i) + j) = sx (H (O i))
    · exact rq_nE1 P h0 hs S hi hK h14 h17 hD hC hH (fun tm p h => rq_xKN17a (by omega) (by omega) e2 z h) (fun tm p h => rq_yT17 (by omega) v3 m2 (by omega) (fun _ => h) (fun y => absurd ((m3 _).mp z) y))
        (fun b hb => ⟨rfl, pk_un (by omega), rfl⟩) (fun j hj => pk_un (by omega)) (fun j hj => rfl) (rq_outOld v4 z)
    · have eo1 : oc (D (O i)) + 1 = nI (m + 1) := by rw [e1, m2, nI_1]
      exact rq_nE1 P h0 hs S hi hK h14 h17 hD hC hH (fun tm p h => rq_xKN17b (by omega) (by omega) e2 z (by rw [eo1]; exact h)) (fun tm p h => rq_yT17 (by omega) v3 m2 (by omega) (fun y => absurd ((m3 _).mpr y) z) (fun _ => h))
        (fun b hb => ⟨pk_un (by omega), pk_un (by omega), pk_un (by omega)⟩) (fun j hj => pk_un (by omega)) (fun j hj => pk_un (by omega)) (rq_outNew m1 m3)
/-- every token -/
theorem rq_step (P : rq_Prof n K A C hA dA oA H D O) (h0 : D n = 0) (hs : rq_Sz sz) (S : rq_Sim n K A C H D O i t B r f sx tb rh oc kr kn sy bg ra fd vl sn tp dp) (hi : i < n) :
    rq_Nx n K A C hA dA oA H D O ce sz aT aR hh op fl i t sx tb rh oc kr kn sy bg ra fd vl sn tp dp := by
  obtain ⟨k, hK, hC, hk, h6, hc⟩ := P.2.2.2 i hi
  rcases hc with ⟨rfl, h1, h2, h3⟩ | ⟨rfl, ⟨a, a1, a2, a3⟩, h1, h2, h3⟩ | ⟨z, g, h1, h2, h3⟩ | ⟨rfl, g, h1, h2, h3⟩ | ⟨rfl, _⟩ | ⟨rfl, g, g2, h1, h2, h3⟩ | ⟨z, g, g2, h1, h2, h3⟩
  · exact rq_n0 P S hi hK h6 h1 h2 h3
  · exact rq_n1 P S hi hK a1 a2 a3 h6 h1 h2 h3
  · exact rq_n2 P S hi hK z.1 z.2 (by omega) h1 h2 h3
  · exact rq_n9 P S hi hK (by omega) h1 h2 h3
  · exact rq_n10 P h0 hs S hi hK
  · exact rq_n11 P h0 hs S hi hK g g2 h1 h2 h3
  · by_cases y : k < 14
    · rw [show rq_tk k = 0 from if_pos y] at g2
      have hkc : k = 12 ∨ k = 13 := by omega
      rcases hkc with rfl | rfl
      · exact rq_n12 P h0 hs S hi hK g (hC z) g2
      · exact rq_n13 P h0 hs S hi hK g (hC z) g2
    · rw [show rq_tk k = 1 from if_neg y] at g2
      exact rq_n14 P h0 hs S hi hK (by omega) hk g (hC z) g2
end
