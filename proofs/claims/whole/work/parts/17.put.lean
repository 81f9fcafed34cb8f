/-! token: both sides joined -/
section
variable {n : Nat} {aT aR : Int32} {ce sz K A hA dA oA C sx tb rh oc kr kn tm : Nat → Int32} {H D O : Nat → Nat}
theorem rq_base (P : rq_Prof n K A C hA dA oA H D O) : rq_b (D n) (H (O n)) ≤ H n := by
  by_cases z : D n = 0
  · rw [z, rq_bzero]
    omega
  · rw [rq_bpos (by omega)]
    exact ((rq_open P n (Nat.le_refl _)).2.2.1 (by omega)).2.2.2.1
theorem rq_tokOk (P : rq_Prof n K A C hA dA oA H D O) (n48 : n < 48) {c : Nat} {v : Int32} (hc : c ≤ 17) (ht : rq_Tok c v) (hcell : c = 1 → ∃ a, a < 9 ∧ v = nI a ∧ a / 3 < D n)
    (N : rq_need c (D n) (H n - rq_b (D n) (H (O n)))) (R : rq_room c (H n) (D n)) :
    ∃ (C' : Nat → Int32) (h' d' : Nat) (ov : Int32) (H' D' O' : Nat → Nat), rq_Prof (n + 1) (upd K n (nI c)) (upd A n v) C' (upd hA (n + 1) (nI h')) (upd dA (n + 1) (nI d')) (upd oA (n + 1) ov) H' D' O' ∧
    ∀ p : SX → Prop, p (nI (n + 1), aT, aR, ce, sz, upd K n (nI c), upd A n v, upd hA (n + 1) (nI h'), upd dA (n + 1) (nI d'), upd oA (n + 1) ov, C', sx, tb, rh, oc, kr, kn, tm) → wpX_append p (nI n, aT, aR, ce, sz, K, A, hA, dA, oA, C, sx, tb, rh, oc, kr, kn, tm) (nI c) v := by
  obtain ⟨hP1, hP2, hP3, hP4⟩ := P.2.2.1 n (Nat.le_refl _)
  have I := rq_open P n (Nat.le_refl _)
  have h6 := I.1
  have d3 := I.2.1
  have hb := rq_base P
  have hg : c = 0 ∨ c = 1 ∨ (2 ≤ c ∧ c ≤ 8) ∨ c = 9 ∨ c = 10 ∨ c = 11 ∨ 12 ≤ c := by omega
  obtain ⟨N1, N2, N3, N4⟩ := N
  obtain ⟨R1, R2⟩ := R
  rcases hg with g | g | g | g | g | g | g
  · subst g
    exact ⟨C, H n + 1, D n, oA n, _, _, _, rq_app P n48 (o := O n) (fun i _ _ _ => rfl) (fun z => by omega) ⟨hP3, hP4⟩ ⟨by omega, by have := R2 (Or.inl (by omega)); omega, Or.inl ⟨rfl, rfl, rfl, rfl⟩⟩, fun p h => rq_xApp1 n48 (by omega) hP1 hP2 rfl h⟩
  · have q := hcell g
    subst g
    exact ⟨C, H n + 1, D n, oA n, _, _, _, rq_app P n48 (o := O n) (fun i _ _ _ => rfl) (fun z => by omega) ⟨hP3, hP4⟩ ⟨by omega, by have := R2 (Or.inl (by omega)); omega, Or.inr (Or.inl ⟨rfl, q, rfl, rfl, rfl⟩)⟩, fun p h => rq_xApp1 n48 (by omega) hP1 hP2 rfl h⟩
  · have q := N1 g
    obtain ⟨h', eh⟩ : ∃ h', H n = h' + 1 := ⟨H n - 1, by omega⟩
    exact ⟨C, h', D n, oA n, _, _, _, rq_app P n48 (o := O n) (fun i _ _ _ => rfl) (fun z => by omega) ⟨hP3, hP4⟩ ⟨hc, by omega, Or.inr (Or.inr (Or.inl ⟨g, by omega, by omega, rfl, rfl⟩))⟩, fun p h => rq_xApp2 n48 (Or.inl g) (by rw [hP1, eh]) hP2 rfl h⟩
  · have q := N2 g
    clear hcell
    subst g
    exact ⟨C, H n, D n, oA n, _, _, _, rq_app P n48 (o := O n) (fun i _ _ _ => rfl) (fun z => by omega) ⟨hP3, hP4⟩ ⟨hc, h6, Or.inr (Or.inr (Or.inr (Or.inl ⟨rfl, by omega, rfl, rfl, rfl⟩)))⟩, fun p h => rq_xApp9 n48 hP1 hP2 rfl h⟩
  · have q := R1 g
    have q2 := ht.2.2 g
    subst g
    exact ⟨C, H n, D n + 1, nI n, _, _, _, rq_app P n48 (o := n) (fun i _ _ _ => rfl) (fun z => by omega) ⟨fun z => by omega, fun _ => rfl⟩ ⟨hc, h6, Or.inr (Or.inr (Or.inr (Or.inr (Or.inl ⟨rfl, q2, q, rfl, rfl, rfl⟩))))⟩, fun p h => rq_xApp10 n48 hP1 hP2 h⟩
  · obtain ⟨q1, q2⟩ := N3 (Or.inl g)
    rw [rq_bpos q1] at q2 hb
    have e : H n = H (O n) + 1 := by omega
    subst g
    exact ⟨C, H (O n), D n, oA n, _, _, _, rq_app P n48 (o := O n) (fun i _ _ _ => rfl) (fun z => by omega) ⟨hP3, hP4⟩ ⟨hc, by omega, Or.inr (Or.inr (Or.inr (Or.inr (Or.inr (Or.inl ⟨rfl, q1, e, rfl, rfl, rfl⟩)))))⟩, fun p h => rq_xApp2 n48 (Or.inr rfl) (by rw [hP1, e]) hP2 rfl h⟩
  · have q1 : 0 < D n := by
      by_cases z : c = 12 ∨ c = 13
      · exact (N4 z).1
      · exact (N3 (Or.inr (by omega))).1
    rw [rq_bpos q1] at N3 N4 hb
    obtain ⟨a1, a2, a3, a4, a5⟩ := I.2.2.1 q1
    obtain ⟨o1, o2, o3, o4⟩ := P.2.2.1 (O n) (by omega)
    have e : H n = H (O n) + rq_tk c ∧ H (O n) + 1 ≤ 6 := by
      by_cases z : c < 14
      · rw [show rq_tk c = 0 from if_pos z]
        have := (N4 (by omega)).2
        have := R2 (Or.inr (by omega))
        omega
      · rw [show rq_tk c = 1 from if_neg z]
        have := (N3 (Or.inr (by omega))).2
        omega
    exact ⟨upd C (O n) (nI n), H (O n) + 1, D (O n), oA (O n), _, _, _, rq_app P n48 (o := O (O n)) (fun i i1 i2 i3 => pk_un (rq_fresh P q1 i1 i2 i3)) (fun _ => pk_us) ⟨o3, o4⟩
      ⟨hc, e.2, Or.inr (Or.inr (Or.inr (Or.inr (Or.inr (Or.inr ⟨g, q1, e.1, rfl, a3, rfl⟩)))))⟩, fun p h => rq_xAppE n48 g hc (by omega) (hP4 q1) o1 o2 rfl h⟩
theorem rq_x45 (P : rq_Prof n K A C hA dA oA H D O) (n48 : n < 48) {c : Nat} {v : Int32} (hc : c ≤ 17) {post : Int32 → SX → Prop}
    (h4 : ¬ rq_need c (D n) (H n - rq_b (D n) (H (O n))) → post (-4) (nI n, aT, aR, ce, sz, K, A, hA, dA, oA, C, sx, tb, rh, oc, kr, kn, tm)) (h5 : rq_need c (D n) (H n - rq_b (D n) (H (O n))) → ¬ rq_room c (H n) (D n) → post (-5) (nI n, aT, aR, ce, sz, K, A, hA, dA, oA, C, sx, tb, rh, oc, kr, kn, tm))
    (hp : rq_need c (D n) (H n - rq_b (D n) (H (O n))) → rq_room c (H n) (D n) → ∃ T : SX, (∀ p : SX → Prop, p T → wpX_append p (nI n, aT, aR, ce, sz, K, A, hA, dA, oA, C, sx, tb, rh, oc, kr, kn, tm) (nI c) v) ∧ post T.1 T) : wX_token_45 post (nI c) v (nI n) aT aR ce sz K A hA dA oA C sx tb rh oc kr kn tm := by
  obtain ⟨hP1, hP2, hP3, hP4⟩ := P.2.2.1 n (Nat.le_refl _)
  have I := rq_open P n (Nat.le_refl _)
  have h6 := I.1
  have d3 := I.2.1
  have hb := rq_base P
  have body : ∀ z : rq_need c (D n) (H n - rq_b (D n) (H (O n))), wpX_hasRoom (fun r_25 => (((r_25 = 0 → (post (-5) (nI n, aT, aR, ce, sz, K, A, hA, dA, oA, C, sx, tb, rh, oc, kr, kn, tm))) ∧ (¬ r_25 = 0 → (wpX_append (fun u => post u.1 u) (nI n, aT, aR, ce, sz, K, A, hA, dA, oA, C, sx, tb, rh, oc, kr, kn, tm) (nI c) v))))) (nI n, aT, aR, ce, sz, K, A, hA, dA, oA, C, sx, tb, rh, oc, kr, kn, tm) (nI c) := fun z => by
    refine rq_xRoom (by omega) hc hP1 hP2 h6 d3 (fun y => br_f (by decide) ?_) (fun y => br_t rfl (h5 z y))
    obtain ⟨T, g1, g2⟩ := hp z y
    exact g1 _ g2
  unfold wX_token_45 wpX_hasItsNeeds
  by_cases hd : D n = 0
  · have e0 : rq_b (D n) (H (O n)) = 0 := by rw [hd, rq_bzero]
    rw [e0] at h4 body
    refine ⟨vp_in_nI (by omega) (by omega), nm_r (e' := -1) (by rw [nI_clamp (by omega)]; exact hP3 hd) (br_t rfl ?_)⟩
    exact rq_xNeed (by omega) hc hP1 h6 (b := 0) (d := D n) (by omega) (Or.inl ⟨hd, rfl⟩) (fun z => br_f (by decide) (body z)) (fun z => br_t rfl (h4 z))
  · obtain ⟨a1, a2, a3, a4, a5⟩ := I.2.2.1 (by omega)
    have o1 := (P.2.2.1 (O n) (by omega)).1
    rw [rq_bpos (by omega)] at h4 body
    refine ⟨vp_in_nI (by omega) (by omega), nm_r (e' := nI (O n)) (by rw [nI_clamp (by omega)]; exact hP4 (by omega)) (br_f (fun z => by rw [rq_c1, rq_neg (by omega)] at z; exact z) ⟨vp_in_nI (by omega) (by omega), ?_⟩)⟩
    rw [nI_clamp (n := O n) (by omega), o1]
    exact rq_xNeed (by omega) hc hP1 h6 (d := D n) a4 (Or.inr ⟨by omega, O n, by omega, rfl⟩) (fun z => br_f (by decide) (body z)) (fun z => br_t rfl (h4 z))
end
section
variable {n : Nat} {hh op tp aT aR dp : Int32} {sz ce K A fl sy tm bg ra fd vl sn C hA dA oA : Nat → Int32} {H D O : Nat → Nat}
theorem rq_y45 (P : rq_Prof n K A C hA dA oA H D O) (F : rq_Fl H D O fl n) (n48 : n < 48) {c : Nat} {v : Int32} (hc : c ≤ 17) {post : Int32 → SY → Prop}
    (h4 : ¬ rq_need c (D n) (H n - rq_b (D n) (H (O n))) → post (-4) (nI n, nI (H n), nI (D n), tp, aT, aR, dp, sz, ce, K, A, fl, sy, tm, bg, ra, fd, vl, sn)) (h5 : rq_need c (D n) (H n - rq_b (D n) (H (O n))) → ¬ rq_room c (H n) (D n) → post (-5) (nI n, nI (H n), nI (D n), tp, aT, aR, dp, sz, ce, K, A, fl, sy, tm, bg, ra, fd, vl, sn))
    (hp : rq_need c (D n) (H n - rq_b (D n) (H (O n))) → rq_room c (H n) (D n) → post (nI (n + 1)) (nI (n + 1), nI (H n), nI (D n), tp, aT, aR, dp, sz, ce, upd K n (nI c), upd A n v, fl, sy, tm, bg, ra, fd, vl, sn)) : wY_token_45 post (nI c) v (nI n) (nI (H n)) (nI (D n)) tp aT aR dp sz ce K A fl sy tm bg ra fd vl sn := by
  have I := rq_open P n (Nat.le_refl _)
  have h6 := I.1
  have d3 := I.2.1
  have M : wY_token_75 post (nI c) v (nI (H n - rq_b (D n) (H (O n)))) (nI n) (nI (H n)) (nI (D n)) tp aT aR dp sz ce K A fl sy tm bg ra fd vl sn :=
    rq_yNeed hc (by omega) d3 (fun z => rq_yRoom hc h6 d3 (fun y => rq_y185 n48 (hp z y)) (fun y => h5 z y)) h4
  unfold wY_token_45
  by_cases hd : D n = 0
  · rw [show rq_b (D n) (H (O n)) = 0 from by rw [hd, rq_bzero], Nat.sub_zero] at M
    exact br_t (by rw [hd]; rfl) M
  · obtain ⟨a1, a2, a3, a4, a5⟩ := I.2.2.1 (by omega)
    obtain ⟨d', ed⟩ : ∃ d', D n = d' + 1 := ⟨D n - 1, by omega⟩
    obtain ⟨B, F1, F2⟩ := F
    have ef := F2 d' (by omega)
    rw [F1.1 d' (by omega)] at ef
    rw [rq_bpos (by omega)] at M
    have e1 : nI (D n) - 1 = nI d' := by rw [ed]; exact nI_pred d'
    refine br_f (nI_ne0 (by omega) (by omega)) ?_
    rw [e1, nI_clamp (by omega), ef, pk_sub a4]
    exact ⟨vp_in_nI (by omega) (by omega), M⟩
end
theorem i_vc_token {k : Nat} {u : SX} {v : SY} (I : i_Rel k u v) (hk : k + 5 ≤ 2560) (v1 : Int32) (v2 : Int32) : wpX_token (fun r u' => wpY_token (fun r' v' => r' = r ∧ i_Rel (k + 5) u' v') v v1 v2) u v1 v2 := by
  obtain ⟨n, H, D, O, xT, xR, yT, yR, hh, op, tp, dp, ce, sz, K, A, hA, dA, oA, C, sx, tb, rh, oc, kr, kn, tm, fl, sy, bg, ra, fd, vl, sn, rfl, rfl, P, hs⟩ := I
  have hn := P.1
  unfold wpX_token
  by_cases T : ∃ c, c ≤ 17 ∧ v1 = nI c ∧ rq_Tok c v2
  · obtain ⟨c, hc, rfl, ht⟩ := T
    refine rq_xTokT hc ht (br_f (by decide) ?_)
    by_cases n48 : n < 48
    · refine br_t (nI_lt (b := 48) n48 (by decide)) ?_
      have n48' : ¬ nI n = 48 := fun z => by
        have := (nI_eq (b := 48) (by omega) (by decide)).mp z
        omega
      obtain ⟨fl', F, M⟩ := rq_yCheck (hh := hh) (op := op) (fl := fl) (tp := tp) (aT := yT) (aR := yR) (dp := dp) (sz := sz) (ce := ce) (sy := sy) (tm := tm) (bg := bg) (ra := ra) (fd := fd) (vl := vl) (sn := sn) P
      have hP2 := (P.2.2.1 n (Nat.le_refl _)).2.1
      have d3 := (rq_open P n (Nat.le_refl _)).2.1
      have main : (c = 1 → ∃ a, a < 9 ∧ v2 = nI a ∧ a / 3 < D n) → wX_token_45 (fun r u' => wpY_token (fun r' v' => r' = r ∧ i_Rel (k + 5) u' v') (nI n, hh, op, tp, yT, yR, dp, sz, ce, K, A, fl, sy, tm, bg, ra, fd, vl, sn) (nI c) v2) (nI c) v2 (nI n) xT xR ce sz K A hA dA oA C sx tb rh oc kr kn tm := fun hcell => by
        have hY : ∀ post : Int32 → SY → Prop, wY_token_45 post (nI c) v2 (nI n) (nI (H n)) (nI (D n)) tp yT yR dp sz ce K A fl' sy tm bg ra fd vl sn → wpY_token post (nI n, hh, op, tp, yT, yR, dp, sz, ce, K, A, fl, sy, tm, bg, ra, fd, vl, sn) (nI c) v2 := fun post h => by
          unfold wpY_token
          refine rq_yTokT hc ht (br_f (by decide) (br_f n48' (M _ ?_)))
          refine br_c (fun z => ?_) (fun _ => h)
          obtain ⟨a, b1, rfl, b3⟩ := hcell ((nI_eq (b := 1) (by omega) (by omega)).mp z)
          refine ⟨by decide, br_t ?_ h⟩
          rw [rq_c3, pk_div (by omega) (by omega) (by omega)]
          exact nI_lt b3 (by omega)
        refine rq_x45 P n48 hc (fun z => hY _ ?_) (fun z y => hY _ ?_) (fun z y => ?_)
        · exact rq_y45 P F n48 hc (fun _ => ⟨rfl, rq_mk _ P hs⟩) (fun w => absurd w z) (fun w => absurd w z)
        · exact rq_y45 P F n48 hc (fun w => absurd z w) (fun _ _ => ⟨rfl, rq_mk _ P hs⟩) (fun _ w => absurd w y)
        · obtain ⟨C', h', d', ov, H', D', O', P', g⟩ := rq_tokOk (aT := xT) (aR := xR) (ce := ce) (sz := sz) (sx := sx) (tb := tb) (rh := rh) (oc := oc) (kr := kr) (kn := kn) (tm := tm) P n48 hc ht hcell z y
          refine ⟨_, g, ?_⟩
          refine hY _ ?_
          exact rq_y45 P F n48 hc (fun w => absurd z w) (fun _ w => absurd y w) (fun _ _ => ⟨rfl, rq_mk _ P' hs⟩)
      refine br_c (fun z => ?_) (fun z => main fun e => absurd (by rw [e]; rfl) z)
      have ec := (nI_eq (b := 1) (by omega) (by omega)).mp z
      obtain ⟨a, ha, rfl⟩ := ht.2.1 ec
      refine ⟨by decide, vp_in_nI (by omega) (by omega), ?_⟩
      rw [nI_clamp (by omega), hP2, rq_c3, pk_div (by omega) (by omega) (by omega)]
      refine pk_lt (a / 3) (D n) (fun w => main fun _ => ⟨a, ha, rfl, w⟩) (fun w => ?_)
      unfold wpY_token
      refine rq_yTokT hc ht (br_f (by decide) (br_f n48' (M _ ?_)))
      refine br_t z ⟨by decide, br_f (fun y => ?_) ⟨rfl, rq_mk _ P hs⟩⟩
      rw [rq_c3, pk_div (by omega) (by omega) (by omega), nI_ltI (by omega) (by omega)] at y
      omega
    · have e : n = 48 := by omega
      subst e
      refine br_f (by decide) ?_
      unfold wpY_token
      refine rq_yTokT hc ht (br_f (by decide) (br_t rfl ?_))
      exact ⟨rfl, rq_mk _ P hs⟩
  · refine rq_xTokF T (br_t rfl ?_)
    unfold wpY_token
    refine rq_yTokF T (br_t rfl ?_)
    exact ⟨rfl, rq_mk _ P hs⟩
