/-! the steps' mathematics: how both sides' blocks and stacks go on being alike -/
theorem rq_blkCong {A : Nat → Int32} {kc R : Int32} {o f b : Nat} {tb rh oc kr kn bg ra fd vl sn tb' rh' oc' kr' kn' bg' ra' fd' vl' sn' : Nat → Int32}
    (h : rq_Blk A kc o f b R tb rh oc kr kn bg ra fd vl sn) (hf : f ≤ 6) (e1 : tb' b = tb b) (e2 : rh' b = rh b) (e3 : oc' b = oc b) (e4 : kr' b = kr b) (e5 : ∀ j, j < 6 → kn' (6 * b + j) = kn (6 * b + j))
    (e6 : bg' b = bg b) (e7 : ra' b = ra b) (e8 : fd' b = fd b) (e9 : vl' b = vl b) (e0 : ∀ j, j < 6 → sn' (6 * b + j) = sn (6 * b + j)) : rq_Blk A kc o f b R tb' rh' oc' kr' kn' bg' ra' fd' vl' sn' := by
  obtain ⟨h1, h2, h3, h4, h5, h6, h7, h8, h9⟩ := h
  refine ⟨by rw [e6, h1], by rw [e1, h2], by rw [e2, h3], by rw [e7, h4], by rw [e8, h5], by rw [e3]; exact h6, by rw [e3]; exact h7, by rw [e3, e9, e4]; exact h8, fun z => ?_⟩
  obtain ⟨m, m1, m2, m3⟩ := h9 z
  refine ⟨m, m1, by rw [e9, m2], fun x => ?_⟩
  rw [show (∃ j, j < f ∧ kn' (6 * b + j) = x) ↔ (∃ j, j < f ∧ kn (6 * b + j) = x) from
    ⟨fun ⟨j, a, c⟩ => ⟨j, a, by rw [← c, e5 j (by omega)]⟩, fun ⟨j, a, c⟩ => ⟨j, a, by rw [← c, e5 j (by omega)]⟩⟩,
    show (∃ j, j < m ∧ sn' (6 * b + j) = x) ↔ (∃ j, j < m ∧ sn (6 * b + j) = x) from
    ⟨fun ⟨j, a, c⟩ => ⟨j, a, by rw [← c, e0 j (by omega)]⟩, fun ⟨j, a, c⟩ => ⟨j, a, by rw [← c, e0 j (by omega)]⟩⟩]
  exact m3 x
/-- the blocks below d are not touched by what happens at d -/
theorem rq_loCong {K A C : Nat → Int32} {B r f B' r' f' : Nat → Nat} {d : Nat} {tb rh oc kr kn bg ra fd vl sn tb' rh' oc' kr' kn' bg' ra' fd' vl' sn' : Nat → Int32}
    (h : rq_Lo K A C B r f d tb rh oc kr kn bg ra fd vl sn) (hB : ∀ b, b < d → B' b = B b ∧ r' b = r b ∧ f' b = f b)
    (e : ∀ b, b < d → (tb' b = tb b ∧ rh' b = rh b ∧ oc' b = oc b ∧ kr' b = kr b ∧ bg' b = bg b ∧ ra' b = ra b ∧ fd' b = fd b ∧ vl' b = vl b))
    (e5 : ∀ j, j < 6 * d → kn' j = kn j) (e0 : ∀ j, j < 6 * d → sn' j = sn j) : rq_Lo K A C B' r' f' d tb' rh' oc' kr' kn' bg' ra' fd' vl' sn' := by
  intro b hb
  obtain ⟨h1, h2, h3⟩ := h b hb
  obtain ⟨b1, b2, b3⟩ := hB b hb
  obtain ⟨g1, g2, g3, g4, g6, g7, g8, g9⟩ := e b hb
  rw [b1, b2, b3]
  exact ⟨h1, h2, rq_blkCong h3 (by omega) g1 g2 g3 g4 (fun j hj => e5 _ (by omega)) g6 g7 g8 g9 (fun j hj => e0 _ (by omega))⟩
/-- the next row is there -/
theorem rq_next1 {n : Nat} {K A C hA dA oA : Nat → Int32} {H D O : Nat → Nat} (P : rq_Prof n K A C hA dA oA H D O) {o t q : Nat} {B r f : Nat → Nat}
    {sx tb rh oc kr kn sy bg ra fd vl sn : Nat → Int32} {top dep : Int32} (S : rq_Pre n K A C H D O o t q B r f sx tb rh oc kr kn sy bg ra fd vl sn top dep) {q' : Nat} (h1 : q ≤ q') (h2 : q' ≤ 5) :
    rq_Sim n K A C H D O (o + 1) t B (rq_put r (D o) q') f sx tb (upd rh (D o) (nI q')) oc kr kn sy bg (upd ra (D o) (nI q')) fd vl sn top dep := by
  obtain ⟨⟨s1, s2, s3, s4⟩, s5, s6, s7, s8, ⟨R, s9, s10⟩, s11⟩ := S
  obtain ⟨_, g2, g3, g4, g5⟩ := rq_rows P s1 s2
  refine ⟨s1, ?_, rq_chIn s4 s3 g4 g5, by rw [g3, g4]; exact s5, by rw [g3]; exact s6, ?_⟩
  · obtain ⟨e1, e2⟩ := rq_Econg (c := rq_cl C) (B := B) (r := r) (B' := B) (r' := rq_put r (D o) q') (D o) (fun j hj => ⟨rfl, rq_pn (by omega)⟩)
    rw [g4]
    show t ≤ rq_E (rq_cl C) B (rq_put r (D o) q') (D o) + rq_w (D o) * (B (D o) + 1 - rq_p B (D o)) + rq_w (D o + 1) * (rq_put r (D o) q' (D o) * (rq_cl C (B (D o)) - B (D o))) + rq_w (D o + 1) * (o + 1 - (B (D o) + 1))
    rw [e1, rq_ps, s3]
    have : rq_w (D o + 1) * (q * (rq_cl C o - o)) ≤ rq_w (D o + 1) * (q' * (rq_cl C o - o)) := Nat.mul_le_mul_left _ (Nat.mul_le_mul_right _ h1)
    omega
  · rw [g4]
    have lo := rq_loCong (B' := B) (r' := rq_put r (D o) q') (f' := f) (tb' := tb) (rh' := upd rh (D o) (nI q')) (oc' := oc) (kr' := kr) (kn' := kn) (bg' := bg) (ra' := upd ra (D o) (nI q')) (fd' := fd) (vl' := vl) (sn' := sn) s7
      (fun b hb => ⟨rfl, rq_pn (by omega), rfl⟩) (fun b hb => ⟨rfl, pk_un (by omega), rfl, rfl, rfl, pk_un (by omega), rfl, rfl⟩) (fun _ _ => rfl) (fun _ _ => rfl)
    intro b hb
    by_cases e : b = D o
    · subst e
      obtain ⟨t1, t2, t3, t4, t5, t6⟩ := s10
      rw [rq_ps, s3]
      exact ⟨h2, by omega, t1, t2, pk_us, pk_us, t5, t6⟩
    · exact lo b (by omega)
/-- there is no further row: the block ends with its result x on both stacks -/
theorem rq_next2 {n : Nat} {K A C hA dA oA : Nat → Int32} {H D O : Nat → Nat} (P : rq_Prof n K A C hA dA oA H D O) (h0 : D n = 0) {o t q : Nat} {B r f : Nat → Nat}
    {sx tb rh oc kr kn sy bg ra fd vl sn : Nat → Int32} {top dep : Int32} (S : rq_Pre n K A C H D O o t q B r f sx tb rh oc kr kn sy bg ra fd vl sn top dep) (x y : Int32) :
    rq_Sim n K A C H D O (rq_cl C o + 1) t B r f (upd sx (H o) x) tb rh oc kr kn (upd sy (H o) x) bg (upd ra (D o) y) fd vl sn (nI (H o + 1)) (nI (D o)) := by
  obtain ⟨⟨s1, s2, s3, s4⟩, s5, s6, s7, s8, ⟨R, s9, s10⟩, s11⟩ := S
  obtain ⟨_, g2, g3, g4, g5⟩ := rq_rows P s1 s2
  obtain ⟨c1, c2, ⟨k, q1, q2, q3, q4, q5, q6, q7, q8, q9, q10, q11⟩, c4⟩ := rq_closer P h0 s1 s2
  refine ⟨c2, ?_, rq_chSame s4 q7 q8, by rw [q10, q7]; exact ⟨rfl, rfl⟩, fun j hj => ?_, ?_⟩
  · rw [q7]
    have hp : rq_p B (D o) ≤ o := by
      have := rq_pB P (i := o + 1) s1 (rq_chIn s4 s3 g4 g5) (D o) (by omega)
      rw [s3] at this
      exact this
    have h1 : rq_w (D o + 1) * (q * (rq_cl C o - o)) ≤ rq_w (D o + 1) * (6 * (rq_cl C o - o)) := Nat.mul_le_mul_left _ (Nat.mul_le_mul_right _ s8.2)
    have h2 : rq_w (D o + 1) * (6 * (rq_cl C o - o)) = rq_w (D o) * (rq_cl C o - o) := by rw [rq_w6 (D o) g2, ← Nat.mul_assoc, Nat.mul_comm (rq_w (D o + 1)) 6]
    have h3 : rq_w (D o) * (o + 1 - rq_p B (D o)) + rq_w (D o) * (rq_cl C o - o) = rq_w (D o) * (rq_cl C o + 1 - rq_p B (D o)) := by
      rw [← Nat.mul_add, show o + 1 - rq_p B (D o) + (rq_cl C o - o) = rq_cl C o + 1 - rq_p B (D o) from by omega]
    omega
  · rw [q10] at hj
    by_cases e : j = H o
    · rw [e, pk_us, pk_us]
    · rw [pk_un e, pk_un e]
      exact s6 j (by omega)
  · rw [q7]
    exact rq_loCong s7 (fun b hb => ⟨rfl, rfl, rfl⟩) (fun b hb => ⟨rfl, rfl, rfl, rfl, rfl, pk_un (by omega), rfl, rfl⟩) (fun _ _ => rfl) (fun _ _ => rfl)
/-- what a block comes to -/
theorem rq_outV {kc : Int32} {f b : Nat} {oc kr kn vl sn fd : Nat → Int32} (h : rq_Out kc f b oc kr kn vl sn) (hf : fd b = nI f) (h6 : f ≤ 6) :
    (kc = nI 12 → oc b = fd b) ∧ (kc = nI 13 → ((0 < fd b → oc b = 1) ∧ (¬ 0 < fd b → oc b = 0))) ∧ (¬ kc = nI 12 → ¬ kc = nI 13 → oc b = vl b) := by
  refine ⟨fun z => by rw [h.1 z, hf], fun z => ?_, fun z1 z2 => (h.2.2.1 z1 z2).1⟩
  rw [h.2.1 z, hf, ← nI_0, nI_ltI (by omega) (by omega)]
  refine ⟨fun a => if_neg (by omega), fun a => if_pos (by omega)⟩
/-- a block begins -/
theorem rq_begin {n : Nat} {K A C hA dA oA : Nat → Int32} {H D O : Nat → Nat} {i t : Nat} {B r f : Nat → Nat}
    {sx tb rh oc kr kn sy bg ra fd vl sn : Nat → Int32} {top dep : Int32} (S : rq_Sim n K A C H D O i t B r f sx tb rh oc kr kn sy bg ra fd vl sn top dep) (P : rq_Prof n K A C hA dA oA H D O) (hi : i < n) (hK : K i = nI 10) :
    rq_Pre n K A C H D O i (t + 1) 0 (rq_put B (D i) i) r (rq_put f (D i) 0) sx (upd tb (D i) (A i)) (upd rh (D i) (-1)) (upd oc (D i) 0) (upd kr (D i) 0) kn sy (upd bg (D i) (nI i)) (upd ra (D i) (-1)) (upd fd (D i) 0) (upd vl (D i) 0) sn (nI (H i)) (nI (D i + 1)) := by
  obtain ⟨s1, s2, s3, s4, s5, s6⟩ := S
  obtain ⟨_, g2, g3, g4, g5⟩ := rq_rows P hi hK
  refine ⟨⟨hi, hK, rq_ps, rq_chPush s3⟩, ⟨rfl, rfl⟩, s5, ?_, ⟨by rw [rq_ps]; exact Nat.le_refl _, by omega⟩, ⟨-1, by decide, ?_⟩, ?_⟩
  · exact rq_loCong s6 (fun b hb => ⟨rq_pn (by omega), rfl, rq_pn (by omega)⟩) (fun b hb => ⟨pk_un (by omega), pk_un (by omega), pk_un (by omega), pk_un (by omega), pk_un (by omega), pk_un (by omega), pk_un (by omega), pk_un (by omega)⟩) (fun _ _ => rfl) (fun _ _ => rfl)
  · rw [rq_ps]
    refine ⟨pk_us, pk_us, pk_us, pk_us, pk_us, fun _ => pk_us, fun _ => pk_us, fun _ _ => ⟨pk_us.trans pk_us.symm, pk_us⟩, fun _ => ⟨0, Nat.le_refl _, pk_us, fun x => ⟨fun ⟨j, a, _⟩ => by omega, fun ⟨j, a, _⟩ => by omega⟩⟩⟩
  · obtain ⟨e1, e2⟩ := rq_Econg (c := rq_cl C) (B := B) (r := r) (B' := rq_put B (D i) i) (r' := r) (D i) (fun j hj => ⟨rq_pn (by omega), rfl⟩)
    rw [e1, e2]
    have hp : rq_p B (D i) ≤ i := by
      by_cases z : D i = 0
      · rw [z]; exact Nat.zero_le _
      · obtain ⟨e, he⟩ : ∃ e, D i = e + 1 := ⟨D i - 1, by omega⟩
        have b := ((rq_open P i s1).2.2.1 (by omega)).1
        have c := s3.1 e (by omega)
        rw [he]
        show B e + 1 ≤ i
        omega
    have hw := rq_w1 (D i)
    rw [show i + 1 - rq_p B (D i) = (i - rq_p B (D i)) + 1 from by omega, Nat.mul_add, Nat.mul_one]
    omega
/-- a row is done with, kept (f' = 1 more) or left out: the ahead of the next one; the arrays may have changed at the block alone -/
theorem rq_rowDone {n : Nat} {K A C hA dA oA : Nat → Int32} {H D O : Nat → Nat} {i t : Nat} {B r f : Nat → Nat}
    {sx tb rh oc kr kn sy bg ra fd vl sn : Nat → Int32} {top dep : Int32} (S : rq_Sim n K A C H D O i t B r f sx tb rh oc kr kn sy bg ra fd vl sn top dep) (P : rq_Prof n K A C hA dA oA H D O) (h0 : D n = 0) (hi : i < n) (hD : 0 < D i)
    {g : Nat} (hg : g ≤ f (D (O i)) + 1) {oc' kr' kn' fd' vl' sn' : Nat → Int32}
    (e : ∀ b, b < D (O i) → (oc' b = oc b ∧ kr' b = kr b ∧ fd' b = fd b ∧ vl' b = vl b)) (e5 : ∀ j, j < 6 * D (O i) → kn' j = kn j) (e0 : ∀ j, j < 6 * D (O i) → sn' j = sn j)
    (ef : fd' (D (O i)) = nI g) (eo : rq_Out (K (rq_cl C (O i))) g (D (O i)) oc' kr' kn' vl' sn') :
    rq_Pre n K A C H D O (O i) (t + 1) (r (D (O i)) + 1) B r (rq_put f (D (O i)) g) sx tb rh oc' kr' kn' sy bg ra fd' vl' sn' (nI (H (O i))) (nI (D i)) := by
  obtain ⟨s1, s2, s3, s4, s5, s6⟩ := S
  obtain ⟨a1, a2, a3, a4, a5⟩ := (rq_open P i s1).2.2.1 hD
  obtain ⟨k1, k2⟩ := rq_chOut s3 a3
  obtain ⟨u1, u2, u3⟩ := s6 (D (O i)) (by omega)
  refine ⟨⟨by omega, a2, k2, k1⟩, ⟨rfl, by rw [a3]⟩, fun j hj => s5 j (by omega), ?_, ⟨by rw [rq_ps]; omega, by omega⟩, ⟨nI (r (D (O i))), nI_1 _, ?_⟩, ?_⟩
  · exact rq_loCong (d := D (O i)) (fun b hb => s6 b (by omega)) (fun b hb => ⟨rfl, rfl, rq_pn (by omega)⟩) (fun b hb => ⟨rfl, rfl, (e b hb).1, (e b hb).2.1, rfl, rfl, (e b hb).2.2.1, (e b hb).2.2.2⟩) e5 e0
  · obtain ⟨t1, t2, t3, t4, t5, t6⟩ := u3
    rw [k2] at t1 t2
    rw [rq_ps]
    exact ⟨t1, t2, t3, t4, ef, eo⟩
  · have h3 := rq_inside P h0 s1 hD
    rw [← a3] at s2
    have s2' : t ≤ rq_E (rq_cl C) B r (D (O i)) + rq_w (D (O i)) * (B (D (O i)) + 1 - rq_p B (D (O i))) + rq_w (D (O i) + 1) * (r (D (O i)) * (rq_cl C (B (D (O i))) - B (D (O i)))) + rq_w (D (O i) + 1) * (i - (B (D (O i)) + 1)) := s2
    rw [k2] at s2'
    rw [Nat.add_mul, Nat.one_mul, Nat.mul_add]
    have h4 : rq_w (D (O i) + 1) * (i - (O i + 1)) + rq_w (D (O i) + 1) * 1 ≤ rq_w (D (O i) + 1) * (rq_cl C (O i) - O i) := by
      rw [← Nat.mul_add]
      exact Nat.mul_le_mul_left _ (by omega)
    have hw := rq_w1 (D (O i) + 1)
    omega
/-- a token without a block's business -/
theorem rq_plain {n : Nat} {K A C hA dA oA : Nat → Int32} {H D O : Nat → Nat} {i t : Nat} {B r f : Nat → Nat}
    {sx tb rh oc kr kn sy bg ra fd vl sn : Nat → Int32} {top dep : Int32} (S : rq_Sim n K A C H D O i t B r f sx tb rh oc kr kn sy bg ra fd vl sn top dep) (P : rq_Prof n K A C hA dA oA H D O) (hi : i < n)
    (hD : D (i + 1) = D i) (hO : O (i + 1) = O i) {sx' sy' : Nat → Int32} {top' : Int32} (ht : top' = nI (H (i + 1))) (hs : ∀ j, j < H (i + 1) → sx' j = sy' j) :
    rq_Sim n K A C H D O (i + 1) (t + 1) B r f sx' tb rh oc kr kn sy' bg ra fd vl sn top' dep := by
  obtain ⟨s1, s2, s3, s4, s5, s6⟩ := S
  refine ⟨hi, ?_, rq_chSame s3 hD hO, ⟨ht, by rw [hD]; exact s4.2⟩, hs, by rw [hD]; exact s6⟩
  rw [hD]
  have hp : rq_p B (D i) ≤ i := by
    by_cases z : D i = 0
    · rw [z]; exact Nat.zero_le _
    · obtain ⟨e, he⟩ : ∃ e, D i = e + 1 := ⟨D i - 1, by omega⟩
      have b := ((rq_open P i s1).2.2.1 (by omega)).1
      have c := s3.1 e (by omega)
      rw [he]
      show B e + 1 ≤ i
      omega
  have hw := rq_w1 (D i)
  rw [show i + 1 - rq_p B (D i) = (i - rq_p B (D i)) + 1 from by omega, Nat.mul_add, Nat.mul_one]
  omega
