/-! the ending tokens' mathematics -/
theorem rq_ne {a b : Nat} (h : a ≠ b) (ha : a ≤ 17 := by omega) (hb : b ≤ 17 := by omega) : ¬ nI a = nI b :=
  fun z => h ((nI_eq (by omega) (by omega)).mp z)
theorem rq_outCount {f b : Nat} {oc kr kn vl sn : Nat → Int32} (h : rq_Out (nI 12) f b oc kr kn vl sn) : rq_Out (nI 12) (f + 1) b (upd oc b (oc b + 1)) kr kn vl sn :=
  ⟨fun _ => by rw [pk_us, h.1 rfl, nI_1], fun z => absurd z (rq_ne (by omega)), fun z _ => absurd rfl z, fun z => absurd z (rq_ne (by omega))⟩
theorem rq_outAny {f b : Nat} {oc kr kn vl sn : Nat → Int32} : rq_Out (nI 13) (f + 1) b (upd oc b 1) kr kn vl sn :=
  ⟨fun z => absurd z (rq_ne (by omega)), fun _ => by rw [pk_us, if_neg (by omega)], fun _ z => absurd rfl z, fun z => absurd z (rq_ne (by omega))⟩
theorem rq_outNum {k f b : Nat} (h1 : 14 ≤ k) (h2 : k ≤ 16) {x : Int32} {oc kr kn vl sn : Nat → Int32} : rq_Out (nI k) (f + 1) b (upd oc b x) (upd kr b (nI (f + 1))) kn (upd vl b x) sn :=
  ⟨fun z => absurd z (rq_ne (by omega)), fun z => absurd z (rq_ne (by omega)), fun _ _ => ⟨pk_us.trans pk_us.symm, pk_us⟩, fun z => absurd z (rq_ne (by omega))⟩
/-- KINDS: a number that was kept before -/
theorem rq_outOld {f b : Nat} {oc kr kn vl sn : Nat → Int32} (h : rq_Out (nI 17) f b oc kr kn vl sn) {x : Int32} (hx : ∃ j, j < f ∧ kn (6 * b + j) = x) :
    rq_Out (nI 17) (f + 1) b oc (upd kr b (nI (f + 1))) (upd kn (6 * b + f) x) vl sn := by
  refine ⟨fun z => absurd z (rq_ne (by omega)), fun z => absurd z (rq_ne (by omega)), fun _ _ => ⟨(h.2.2.1 (rq_ne (by omega)) (rq_ne (by omega))).1, pk_us⟩, fun z => ?_⟩
  obtain ⟨m, m1, m2, m3⟩ := h.2.2.2 rfl
  refine ⟨m, by omega, m2, fun y => ?_⟩
  rw [← m3 y]
  constructor
  · intro ⟨j, j1, j2⟩
    by_cases e : j = f
    · rw [e, pk_us] at j2
      rw [← j2]
      exact hx
    · rw [pk_un (by omega)] at j2
      exact ⟨j, by omega, j2⟩
  · intro ⟨j, j1, j2⟩
    exact ⟨j, by omega, by rw [pk_un (by omega)]; exact j2⟩
/-- KINDS: a new number -/
theorem rq_outNew {f b m : Nat} {oc kr kn vl sn : Nat → Int32} {x : Int32} (m1 : m ≤ f) (m3 : ∀ y, (∃ j, j < f ∧ kn (6 * b + j) = y) ↔ (∃ j, j < m ∧ sn (6 * b + j) = y)) :
    rq_Out (nI 17) (f + 1) b (upd oc b (nI (m + 1))) (upd kr b (nI (f + 1))) (upd kn (6 * b + f) x) (upd vl b (nI (m + 1))) (upd sn (6 * b + m) x) := by
  refine ⟨fun z => absurd z (rq_ne (by omega)), fun z => absurd z (rq_ne (by omega)), fun _ _ => ⟨pk_us.trans pk_us.symm, pk_us⟩, fun z => ?_⟩
  refine ⟨m + 1, by omega, pk_us, fun y => ?_⟩
  constructor
  · intro ⟨j, j1, j2⟩
    by_cases e : j = f
    · rw [e, pk_us] at j2
      exact ⟨m, by omega, by rw [pk_us]; exact j2⟩
    · rw [pk_un (by omega)] at j2
      obtain ⟨i, i1, i2⟩ := (m3 y).mp ⟨j, by omega, j2⟩
      exact ⟨i, by omega, by rw [pk_un (by omega)]; exact i2⟩
  · intro ⟨j, j1, j2⟩
    by_cases e : j = m
    · rw [e, pk_us] at j2
      exact ⟨f, by omega, by rw [pk_us]; exact j2⟩
    · rw [pk_un (by omega)] at j2
      obtain ⟨i, i1, i2⟩ := (m3 y).mpr ⟨j, by omega, j2⟩
      exact ⟨i, by omega, by rw [pk_un (by omega)]; exact i2⟩
