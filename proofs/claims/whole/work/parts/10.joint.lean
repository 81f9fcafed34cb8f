/-! both sides in one step -/
section
variable {hh op aT aR : Int32} {n : Nat} {ce sz K A hA dA oA C sx tb rh oc kr kn fl sy bg ra fd vl sn : Nat → Int32} {H D O : Nat → Nat}
def rq_Sz (sz : Nat → Int32) : Prop := ∀ t, t < 3 → ∃ s, s ≤ 6 ∧ sz t = nI s
theorem rq_skip {a q : Nat} : ∃ q', ((nI a = aT ∧ nI q = aR ∧ q' = q + 1) ∨ (¬ (nI a = aT ∧ nI q = aR) ∧ q' = q)) ∧ q ≤ q' ∧ q' ≤ q + 1 := by
  by_cases z : nI a = aT ∧ nI q = aR
  · exact ⟨q + 1, Or.inl ⟨z.1, z.2, rfl⟩, by omega, by omega⟩
  · exact ⟨q, Or.inr ⟨z, rfl⟩, by omega, by omega⟩
theorem rq_goNext (P : rq_Prof n K A C hA dA oA H D O) (h0 : D n = 0) (hs : rq_Sz sz) {o t q : Nat} {B r f : Nat → Nat} {tp dp : Int32}
    (S : rq_Pre n K A C H D O o t q B r f sx tb rh oc kr kn sy bg ra fd vl sn tp dp) :
    ∃ (i' : Nat) (r' : Nat → Nat) (sx' rh' sy' ra' : Nat → Int32) (tp' dp' : Int32), rq_Sim n K A C H D O i' t B r' f sx' tb rh' oc kr kn sy' bg ra' fd vl sn tp' dp' ∧
    (∀ (tm : Nat → Int32) (post : Int32 → SX → Prop), post (nI i') (nI n, aT, aR, ce, sz, K, A, hA, dA, oA, C, sx', tb, rh', oc, kr, kn, tm) → wpX_goToNextRow post (nI n, aT, aR, ce, sz, K, A, hA, dA, oA, C, sx, tb, rh, oc, kr, kn, tm) (nI o)) ∧
    (∀ (tm : Nat → Int32) (post : Int32 → SY → Prop), post (nI i') (nI n, hh, op, tp', aT, aR, dp', sz, ce, K, A, fl, sy', tm, bg, ra', fd, vl, sn) → wpY_nextRow post (nI n, hh, op, tp, aT, aR, dp, sz, ce, K, A, fl, sy, tm, bg, ra, fd, vl, sn)) := by
  have S' := S
  obtain ⟨⟨s1, s2, s3, s4⟩, ⟨s5a, s5b⟩, s6, s7, s8, ⟨R, s9, b1, b2, b3, b4, b5, b6⟩, s11⟩ := S
  obtain ⟨⟨a, ha, hA'⟩, g2, g3, g4, g5⟩ := rq_rows P s1 s2
  obtain ⟨s, hs6, hsz⟩ := hs a ha
  obtain ⟨c1, c2, ⟨k, q1, q2, q3, q4, q5, q6, q7, q8, q9, q10, q11⟩, c4⟩ := rq_closer P h0 s1 s2
  have hP := P.2.2.1 o (by omega)
  have hn := P.1
  obtain ⟨q', hq, hq1, hq2⟩ := rq_skip (aT := aT) (aR := aR) (a := a) (q := q)
  subst s5a s5b
  by_cases h : q' < s
  · refine ⟨o + 1, rq_put r (D o) q', sx, upd rh (D o) (nI q'), sy, upd ra (D o) (nI q'), nI (H o), nI (D o + 1), rq_next1 P S' hq1 (by omega), fun tm post hp => ?_, fun tm post hp => ?_⟩
    · exact rq_xGo (by omega) g2 hP.2.1 (b2.trans hA') (by rw [b3]; exact s9) hq (rq_xNextA (by omega) g2 ha hsz hs6 h hp)
    · exact rq_yNextA (by omega) g2 ha b1 hA' hsz hs6 (by rw [b4]; exact s9) hq h hp
  · refine ⟨rq_cl C o + 1, r, upd sx (H o) (oc (D o)), rh, upd sy (H o) (oc (D o)), upd ra (D o) (nI q'), nI (H o + 1), nI (D o), rq_next2 P h0 S' _ _, fun tm post hp => ?_, fun tm post hp => ?_⟩
    · exact rq_xGo (by omega) g2 hP.2.1 (b2.trans hA') (by rw [b3]; exact s9) hq (rq_xNextB (by omega) g2 ha hsz hs6 (by omega) (by omega) hP.1 q11 q6 hp)
    · exact rq_yNextB P h0 s1 s2 g2 ha b1 hA' hsz hs6 (by rw [b4]; exact s9) hq (by omega) (by omega) q11 (rq_outV b6 b5 (by omega)) hp
/-- one step: where both sides are then -/
def rq_Nx (n : Nat) (K A C hA dA oA : Nat → Int32) (H D O : Nat → Nat) (ce sz : Nat → Int32) (aT aR hh op : Int32) (fl : Nat → Int32) (i t : Nat) (sx tb rh oc kr kn sy bg ra fd vl sn : Nat → Int32) (tp dp : Int32) : Prop :=
  ∃ (i' : Nat) (B' r' f' : Nat → Nat) (sx' tb' rh' oc' kr' kn' sy' bg' ra' fd' vl' sn' : Nat → Int32) (tp' dp' : Int32), rq_Sim n K A C H D O i' (t + 1) B' r' f' sx' tb' rh' oc' kr' kn' sy' bg' ra' fd' vl' sn' tp' dp' ∧
    (∀ (tm : Nat → Int32) (post : Int32 → SX → Prop), post (nI i') (nI n, aT, aR, ce, sz, K, A, hA, dA, oA, C, sx', tb', rh', oc', kr', kn', tm) → wpX_workOut post (nI n, aT, aR, ce, sz, K, A, hA, dA, oA, C, sx, tb, rh, oc, kr, kn, tm) (nI i)) ∧
    (∀ (tm : Nat → Int32) (post : Int32 → SY → Prop), post (nI i') (nI n, hh, op, tp', aT, aR, dp', sz, ce, K, A, fl, sy', upd tm i (tm i + 1), bg', ra', fd', vl', sn') → wpY_step post (nI n, hh, op, tp, aT, aR, dp, sz, ce, K, A, fl, sy, tm, bg, ra, fd, vl, sn) (nI i))
variable {i t : Nat} {B r f : Nat → Nat} {tp dp : Int32}
/-- ROWS -/
theorem rq_n10 (P : rq_Prof n K A C hA dA oA H D O) (h0 : D n = 0) (hs : rq_Sz sz) (S : rq_Sim n K A C H D O i t B r f sx tb rh oc kr kn sy bg ra fd vl sn tp dp) (hi : i < n) (hK : K i = nI 10) :
    rq_Nx n K A C hA dA oA H D O ce sz aT aR hh op fl i t sx tb rh oc kr kn sy bg ra fd vl sn tp dp := by
  obtain ⟨_, g2, _⟩ := rq_rows P hi hK
  have hn := P.1
  have hP := P.2.2.1 i (by omega)
  obtain ⟨i', r', sx', rh', sy', ra', tp', dp', S', hX, hY⟩ := rq_goNext (ce := ce) (aT := aT) (aR := aR) (hh := hh) (op := op) (fl := fl) P h0 hs (rq_begin S P hi hK)
  obtain ⟨s1, s2, s3, ⟨s4, s5⟩, s6⟩ := S
  subst s4 s5
  refine ⟨i', _, r', _, sx', _, rh', _, _, kn, sy', _, ra', _, _, sn, tp', dp', S', fun tm post hp => ?_, fun tm post hp => ?_⟩
  · exact rq_xW10 (by omega) g2 hK hP.2.1 (hX tm) hp
  · exact rq_yS10 (by omega) g2 hK (hY _) hp
/-- WHERE -/
theorem rq_n11 (P : rq_Prof n K A C hA dA oA H D O) (h0 : D n = 0) (hs : rq_Sz sz) (S : rq_Sim n K A C H D O i t B r f sx tb rh oc kr kn sy bg ra fd vl sn tp dp) (hi : i < n) (hK : K i = nI 11)
    (hD : 0 < D i) (hH : H i = H (O i) + 1) (h1 : H (i + 1) = H (O i)) (h2 : D (i + 1) = D i) (h3 : O (i + 1) = O i) :
    rq_Nx n K A C hA dA oA H D O ce sz aT aR hh op fl i t sx tb rh oc kr kn sy bg ra fd vl sn tp dp := by
  have hn := P.1
  have hP := P.2.2.1 i (by omega)
  have hO := hP.2.2.2 hD
  have hHA := hP.1
  have I := rq_open P i (by omega)
  have h6 := I.1
  obtain ⟨a1, a2, a3, a4, a5⟩ := I.2.2.1 hD
  have S' := S
  obtain ⟨s1, s2, s3, ⟨s4, s5⟩, s6, s7⟩ := S
  obtain ⟨u1, u2, u3⟩ := s7 (D (O i)) (by omega)
  have hB : B (D (O i)) = O i := (rq_chOut s3 a3).2
  rw [hB] at u3
  have es := s6 (H (O i)) (by omega)
  rw [hH] at hHA s4
  subst s4 s5
  by_cases z : sx (H (O i)) = 0
  · have Pr := rq_rowDone S' P h0 hi hD (g := f (D (O i))) (by omega) (oc' := oc) (kr' := kr) (kn' := kn) (fd' := fd) (vl' := vl) (sn' := sn) (fun b hb => ⟨rfl, rfl, rfl, rfl⟩) (fun j hj => rfl) (fun j hj => rfl) u3.2.2.2.2.1 u3.2.2.2.2.2
    obtain ⟨i', r', sx', rh', sy', ra', tp', dp', S2, hX, hY⟩ := rq_goNext (ce := ce) (aT := aT) (aR := aR) (hh := hh) (op := op) (fl := fl) P h0 hs Pr
    refine ⟨i', _, r', _, sx', tb, rh', oc, kr, kn, sy', bg, ra', fd, vl, sn, tp', dp', S2, fun tm post hp => ?_, fun tm post hp => ?_⟩
    · exact rq_xW11a (by omega) hK hHA (by omega) hO z (hX tm) hp
    · exact rq_yS11a (by omega) hK (by omega) (es ▸ z) (hY _) hp
  · refine ⟨i + 1, B, r, f, sx, tb, rh, oc, kr, kn, sy, bg, ra, fd, vl, sn, nI (H (O i)), nI (D i), rq_plain S' P hi h2 h3 (by rw [h1]) (fun j hj => s6 j (by omega)), fun tm post hp => ?_, fun tm post hp => ?_⟩
    · exact rq_xW11b (by omega) hK hHA (by omega) z hp
    · exact rq_yS11b (by omega) hK (by omega) (es ▸ z) hp
/-- CONST -/
theorem rq_n0 (P : rq_Prof n K A C hA dA oA H D O) (S : rq_Sim n K A C H D O i t B r f sx tb rh oc kr kn sy bg ra fd vl sn tp dp) (hi : i < n) (hK : K i = nI 0)
    (h6 : H (i + 1) ≤ 6) (h1 : H (i + 1) = H i + 1) (h2 : D (i + 1) = D i) (h3 : O (i + 1) = O i) :
    rq_Nx n K A C hA dA oA H D O ce sz aT aR hh op fl i t sx tb rh oc kr kn sy bg ra fd vl sn tp dp := by
  have hn := P.1
  have hP := P.2.2.1 i (by omega)
  have S' := S
  obtain ⟨s1, s2, s3, ⟨s4, s5⟩, s6, s7⟩ := S
  subst s4 s5
  refine ⟨i + 1, B, r, f, upd sx (H i) (A i), tb, rh, oc, kr, kn, upd sy (H i) (A i), bg, ra, fd, vl, sn, nI (H i + 1), nI (D i), rq_plain S' P hi h2 h3 (by rw [h1]) (fun j hj => ?_), fun tm post hp => ?_, fun tm post hp => ?_⟩
  · by_cases e : j = H i
    · rw [e, pk_us, pk_us]
    · rw [pk_un e, pk_un e]
      exact s6 j (by omega)
  · exact rq_xWP (by omega) hK (by omega) (fun p h => rq_xPut0 (by omega) hK hP.1 (by omega) h) hp
  · exact rq_yS0 (by omega) hK (by omega) hp
/-- CELL -/
theorem rq_n1 (P : rq_Prof n K A C hA dA oA H D O) (S : rq_Sim n K A C H D O i t B r f sx tb rh oc kr kn sy bg ra fd vl sn tp dp) (hi : i < n) (hK : K i = nI 1) {a : Nat} (ha : a < 9) (hA' : A i = nI a) (haD : a / 3 < D i)
    (h6 : H (i + 1) ≤ 6) (h1 : H (i + 1) = H i + 1) (h2 : D (i + 1) = D i) (h3 : O (i + 1) = O i) :
    rq_Nx n K A C hA dA oA H D O ce sz aT aR hh op fl i t sx tb rh oc kr kn sy bg ra fd vl sn tp dp := by
  have hn := P.1
  have hP := P.2.2.1 i (by omega)
  have S' := S
  obtain ⟨s1, s2, s3, ⟨s4, s5⟩, s6, s7⟩ := S
  obtain ⟨u1, u2, w1, w2, w3, w4, w5, w6⟩ := s7 (a / 3) haD
  obtain ⟨x1, x2, x3⟩ := rq_chB P s1 s3 (a / 3) haD
  obtain ⟨⟨ta, hta, hAo⟩, _⟩ := rq_rows P (o := B (a / 3)) (by omega) x2
  subst s4 s5
  refine ⟨i + 1, B, r, f, upd sx (H i) (ce (18 * ta + 3 * r (a / 3) + (a - a / 3 * 3))), tb, rh, oc, kr, kn, upd sy (H i) (ce (18 * ta + 3 * r (a / 3) + (a - a / 3 * 3))), bg, ra, fd, vl, sn, nI (H i + 1), nI (D i), rq_plain S' P hi h2 h3 (by rw [h1]) (fun j hj => ?_), fun tm post hp => ?_, fun tm post hp => ?_⟩
  · by_cases e : j = H i
    · rw [e, pk_us, pk_us]
    · rw [pk_un e, pk_un e]
      exact s6 j (by omega)
  · exact rq_xWP (by omega) hK (by omega) (fun p h => rq_xPut1 (by omega) hK hP.1 (by omega) hA' ha (w2.trans hAo) w3 hta u1 h) hp
  · exact rq_yS1 (by omega) hK (by omega) hA' ha w1 (by omega) hAo w4 hta u1 hp
/-- ADD to EITHER -/
theorem rq_n2 (P : rq_Prof n K A C hA dA oA H D O) (S : rq_Sim n K A C H D O i t B r f sx tb rh oc kr kn sy bg ra fd vl sn tp dp) (hi : i < n) {k : Nat} (hK : K i = nI k) (hk2 : 2 ≤ k) (hk8 : k ≤ 8)
    (hH : 2 ≤ H i) (h1 : H (i + 1) + 1 = H i) (h2 : D (i + 1) = D i) (h3 : O (i + 1) = O i) :
    rq_Nx n K A C hA dA oA H D O ce sz aT aR hh op fl i t sx tb rh oc kr kn sy bg ra fd vl sn tp dp := by
  have hn := P.1
  have hP := P.2.2.1 i (by omega)
  have hHA := hP.1
  have h6 := (rq_open P i (by omega)).1
  have S' := S
  obtain ⟨s1, s2, s3, ⟨s4, s5⟩, s6, s7⟩ := S
  obtain ⟨h, eh⟩ : ∃ h, H i = h + 2 := ⟨H i - 2, by omega⟩
  rw [eh] at hHA s4
  subst s4 s5
  refine ⟨i + 1, B, r, f, upd sx h (rq_jn k (sx h) (sx (h + 1))), tb, rh, oc, kr, kn, upd sy h (rq_jn k (sy h) (sy (h + 1))), bg, ra, fd, vl, sn, nI (h + 1), nI (D i), rq_plain S' P hi h2 h3 (by rw [show H (i + 1) = h + 1 from by omega]) (fun j hj => ?_), fun tm post hp => ?_, fun tm post hp => ?_⟩
  · by_cases e : j = h
    · rw [e, pk_us, pk_us, s6 h (by omega), s6 (h + 1) (by omega)]
    · rw [pk_un e, pk_un e]
      exact s6 j (by omega)
  · exact rq_xWP (by omega) hK (by omega) (fun p h => rq_xPut2 (by omega) hK hk2 hk8 hHA (by omega) h) hp
  · exact rq_yS2 (by omega) hK hk2 hk8 (by omega) hp
/-- NOT -/
theorem rq_n9 (P : rq_Prof n K A C hA dA oA H D O) (S : rq_Sim n K A C H D O i t B r f sx tb rh oc kr kn sy bg ra fd vl sn tp dp) (hi : i < n) (hK : K i = nI 9)
    (hH : 1 ≤ H i) (h1 : H (i + 1) = H i) (h2 : D (i + 1) = D i) (h3 : O (i + 1) = O i) :
    rq_Nx n K A C hA dA oA H D O ce sz aT aR hh op fl i t sx tb rh oc kr kn sy bg ra fd vl sn tp dp := by
  have hn := P.1
  have hP := P.2.2.1 i (by omega)
  have hHA := hP.1
  have h6 := (rq_open P i (by omega)).1
  have S' := S
  obtain ⟨s1, s2, s3, ⟨s4, s5⟩, s6, s7⟩ := S
  obtain ⟨h, eh⟩ : ∃ h, H i = h + 1 := ⟨H i - 1, by omega⟩
  rw [eh] at hHA s4
  subst s4 s5
  refine ⟨i + 1, B, r, f, upd sx h (if sx h = 0 then 1 else 0), tb, rh, oc, kr, kn, upd sy h (if sy h = 0 then 1 else 0), bg, ra, fd, vl, sn, nI (h + 1), nI (D i), rq_plain S' P hi h2 h3 (by rw [show H (i + 1) = h + 1 from by omega]) (fun j hj => ?_), fun tm post hp => ?_, fun tm post hp => ?_⟩
  · by_cases e : j = h
    · rw [e, pk_us, pk_us, s6 h (by omega)]
    · rw [pk_un e, pk_un e]
      exact s6 j (by omega)
  · exact rq_xWP (by omega) hK (by omega) (fun p h => rq_xPut9 (by omega) hK hHA (by omega) h) hp
  · exact rq_yS9 (by omega) hK (by omega) hp
end
