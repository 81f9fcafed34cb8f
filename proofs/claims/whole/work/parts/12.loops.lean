/-! the runs: both loops to their ends -/
section
variable {n : Nat} {ce sz K A hA dA oA C : Nat → Int32} {H D O : Nat → Nat} {aT aR hh op : Int32} {fl : Nat → Int32}
theorem rq_run (P : rq_Prof n K A C hA dA oA H D O) (h0 : D n = 0) (hH : H n = 1) (hs : rq_Sz sz) : ∀ (m i t : Nat) (B r f : Nat → Nat) (sx tb rh oc kr kn tm sy bg ra fd vl sn : Nat → Int32) (tp dp : Int32),
    rq_Sim n K A C H D O i t B r f sx tb rh oc kr kn sy bg ra fd vl sn tp dp → 10368 < m + t →
    ∃ (sx' tb' rh' oc' kr' kn' tm' sy' bg' ra' fd' vl' sn' : Nat → Int32) (tp' dp' : Int32), sx' 0 = sy' 0 ∧
    (∀ post : Int32 → SX → Prop, post (sx' 0) (nI n, aT, aR, ce, sz, K, A, hA, dA, oA, C, sx', tb', rh', oc', kr', kn', tm') → wX_evaluate_36 post m (nI i) (nI t) (nI n) aT aR ce sz K A hA dA oA C sx tb rh oc kr kn tm) ∧
    (∀ post : SY → Prop, post (nI n, hh, op, tp', aT, aR, dp', sz, ce, K, A, fl, sy', tm', bg', ra', fd', vl', sn') → wY_work_46 post m (nI i) (nI t) (nI n) hh op tp aT aR dp sz ce K A fl sy tm bg ra fd vl sn) := by
  intro m
  induction m with
  | zero =>
    intro i t B r f sx tb rh oc kr kn tm sy bg ra fd vl sn tp dp S hm
    exfalso
    by_cases hi : i < n
    · have := rq_fuel P h0 S hi
      omega
    · obtain ⟨s1, s2, _⟩ := S
      have e : i = n := by omega
      subst e
      rw [h0] at s2
      have s2' : t ≤ 0 + 216 * (i - 0) := s2
      have := P.1
      omega
  | succ m ih =>
    intro i t B r f sx tb rh oc kr kn tm sy bg ra fd vl sn tp dp S hm
    have hn := P.1
    by_cases hi : i < n
    · have hf := rq_fuel P h0 S hi
      obtain ⟨i', B', r', f', sx1, tb1, rh1, oc1, kr1, kn1, sy1, bg1, ra1, fd1, vl1, sn1, tp1, dp1, S1, hX, hY⟩ := rq_step (ce := ce) (aT := aT) (aR := aR) (hh := hh) (op := op) (fl := fl) P h0 hs S hi
      obtain ⟨sx', tb', rh', oc', kr', kn', tm', sy', bg', ra', fd', vl', sn', tp', dp', he, gX, gY⟩ := ih i' (t + 1) B' r' f' sx1 tb1 rh1 oc1 kr1 kn1 (upd tm i (tm i + 1)) sy1 bg1 ra1 fd1 vl1 sn1 tp1 dp1 S1 (by omega)
      have hin : vp_in (nI i) 48 := vp_in_nI (by omega) (by omega)
      refine ⟨sx', tb', rh', oc', kr', kn', tm', sy', bg', ra', fd', vl', sn', tp', dp', he, fun post hp => ?_, fun post hp => ?_⟩
      · rw [wX_evaluate_36]
        refine br_f (nI_ge (b := 10368) hf (by decide)) (br_f (nI_ge hi (by omega)) ⟨hin, hin, nm_r (e' := upd tm i (tm i + 1)) (by rw [nI_clamp (by omega)]) ?_⟩)
        refine hX _ _ ?_
        exact nm_r (nI_1 t) (gX post hp)
      · rw [wY_work_46]
        refine br_f (nI_ge (b := 30000) (by omega) (by decide)) (br_f (nI_ge hi (by omega)) ?_)
        refine hY _ _ ?_
        exact nm_r (nI_1 t) (gY post hp)
    · obtain ⟨s1, s2, s3, s4, s6, _⟩ := S
      have e : i = n := by omega
      subst e
      refine ⟨sx, tb, rh, oc, kr, kn, tm, sy, bg, ra, fd, vl, sn, tp, dp, s6 0 (by omega), fun post hp => ?_, fun post hp => ?_⟩
      · rw [wX_evaluate_36]
        exact br_c (fun _ => hp) (fun _ => br_t (nI_le (Nat.le_refl _) (by omega)) hp)
      · rw [wY_work_46]
        exact br_c (fun _ => hp) (fun _ => br_t (nI_le (Nat.le_refl _) (by omega)) hp)
def rq_zf (f : Nat → Int32) (k : Nat) : Nat → Int32 := fun j => if j < k then 0 else f j
theorem rq_zf0 (f : Nat → Int32) : rq_zf f 0 = f := by
  funext j
  exact if_neg (by omega)
theorem rq_zfs (f : Nat → Int32) (k : Nat) : upd (rq_zf f k) k 0 = rq_zf f (k + 1) := by
  funext j
  unfold upd rq_zf
  by_cases h : j = k
  · rw [if_pos h, if_pos (by omega)]
  · rw [if_neg h]
    by_cases h2 : j < k
    · rw [if_pos h2, if_pos (by omega)]
    · rw [if_neg h2, if_neg (by omega)]
theorem rq_xZero {tc : Int32} {sx tb rh oc kr kn tm : Nat → Int32} {post : Int32 → SX → Prop} (hp : ∃ n36 : Nat, wX_evaluate_36 post n36 0 0 tc aT aR ce sz K A hA dA oA C sx tb rh oc kr kn (rq_zf tm 48)) :
    ∀ m j, j + m = 48 → wX_evaluate_12 post tc aT aR (m + 1) (nI j) ce sz K A hA dA oA C sx tb rh oc kr kn (rq_zf tm j) := by
  intro m
  induction m with
  | zero =>
    intro j hj
    have e : j = 48 := by omega
    subst e
    rw [wX_evaluate_12]
    exact br_t (by decide) hp
  | succ m ih =>
    intro j hj
    rw [wX_evaluate_12]
    exact br_f (nI_ge (b := 48) (by omega) (by decide)) ⟨vp_in_nI (by omega) (by omega), nm_r (e' := rq_zf tm (j + 1)) (by rw [nI_clamp (by omega), rq_zfs]) (nm_r (nI_1 j) (ih (j + 1) (by omega)))⟩
theorem rq_yZero {tc tp dp : Int32} {sy tm bg ra fd vl sn : Nat → Int32} {post : SY → Prop} (hp : ∃ n46 : Nat, wY_work_46 post n46 0 0 tc hh op tp aT aR dp sz ce K A fl sy (rq_zf tm 48) bg ra fd vl sn) :
    ∀ m j, j + m = 48 → wY_work_22 post tc hh op tp aT aR dp (m + 1) (nI j) sz ce K A fl sy (rq_zf tm j) bg ra fd vl sn := by
  intro m
  induction m with
  | zero =>
    intro j hj
    have e : j = 48 := by omega
    subst e
    rw [wY_work_22]
    exact br_t (by decide) hp
  | succ m ih =>
    intro j hj
    rw [wY_work_22]
    exact br_f (nI_ge (b := 48) (by omega) (by decide)) ⟨vp_in_nI (by omega) (by omega), nm_r (e' := rq_zf tm (j + 1)) (by rw [nI_clamp (by omega), rq_zfs]) (nm_r (nI_1 j) (ih (j + 1) (by omega)))⟩
theorem rq_eval (P : rq_Prof n K A C hA dA oA H D O) (h0 : D n = 0) (hH : H n = 1) (hs : rq_Sz sz) {xT xR yT yR tp dp : Int32} {sx tb rh oc kr kn tm sy bg ra fd vl sn : Nat → Int32} :
    ∃ (sx' tb' rh' oc' kr' kn' tm' sy' bg' ra' fd' vl' sn' : Nat → Int32) (tp' dp' : Int32), sx' 0 = sy' 0 ∧
    (∀ post : Int32 → SX → Prop, post (sx' 0) (nI n, aT, aR, ce, sz, K, A, hA, dA, oA, C, sx', tb', rh', oc', kr', kn', tm') → wpX_evaluate post (nI n, xT, xR, ce, sz, K, A, hA, dA, oA, C, sx, tb, rh, oc, kr, kn, tm) aT aR) ∧
    (∀ post : SY → Prop, post (nI n, hh, op, tp', aT, aR, dp', sz, ce, K, A, fl, sy', tm', bg', ra', fd', vl', sn') → wpY_work post (nI n, hh, op, tp, yT, yR, dp, sz, ce, K, A, fl, sy, tm, bg, ra, fd, vl, sn) aT aR) := by
  have S : rq_Sim n K A C H D O 0 0 (fun _ => 0) (fun _ => 0) (fun _ => 0) sx tb rh oc kr kn sy bg ra fd vl sn 0 0 := by
    obtain ⟨z1, z2, z3⟩ := P.2.1
    refine ⟨Nat.zero_le _, Nat.zero_le _, ⟨fun b hb => by rw [z2] at hb; omega, fun b hb => by rw [z2] at hb; omega⟩, ⟨by rw [z1]; rfl, by rw [z2]; rfl⟩, fun j hj => by rw [z1] at hj; omega, fun b hb => by rw [z2] at hb; omega⟩
  obtain ⟨sx', tb', rh', oc', kr', kn', tm', sy', bg', ra', fd', vl', sn', tp', dp', he, gX, gY⟩ := rq_run (ce := ce) (aT := aT) (aR := aR) (hh := hh) (op := op) (fl := fl) P h0 hH hs 10369 0 0 _ _ _ sx tb rh oc kr kn (rq_zf tm 48) sy bg ra fd vl sn 0 0 S (by omega)
  refine ⟨sx', tb', rh', oc', kr', kn', tm', sy', bg', ra', fd', vl', sn', tp', dp', he, fun post hp => ?_, fun post hp => ?_⟩
  · have Z := rq_xZero (aT := aT) (aR := aR) ⟨10369, gX post hp⟩ 48 0 rfl
    rw [rq_zf0] at Z
    exact Exists.intro 49 Z
  · have Z := rq_yZero (hh := hh) (op := op) (aT := aT) (aR := aR) ⟨10369, gY post hp⟩ 48 0 rfl
    rw [rq_zf0] at Z
    exact Exists.intro 49 Z
end
