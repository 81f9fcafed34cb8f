/-! what holds of a program at each of its places: H numbers on the stack, D open blocks, O the innermost open block's first token -/
def rq_b (d ho : Nat) : Nat := if d = 0 then 0 else ho
def rq_tk (k : Nat) : Nat := if k < 14 then 0 else 1
/-- a token of kind k with operand av at place i: from h, d, o (and ho, oo: the height and the opener at o) to h', d', o' -/
def rq_St (k : Nat) (av : Int32) (i h d o ho oo h' d' o' : Nat) : Prop :=
  k ≤ 17 ∧ h' ≤ 6 ∧
  ((k = 0 ∧ h' = h + 1 ∧ d' = d ∧ o' = o) ∨
   (k = 1 ∧ (∃ a : Nat, a < 9 ∧ av = nI a ∧ a / 3 < d) ∧ h' = h + 1 ∧ d' = d ∧ o' = o) ∨
   ((2 ≤ k ∧ k ≤ 8) ∧ rq_b d ho + 2 ≤ h ∧ h' + 1 = h ∧ d' = d ∧ o' = o) ∨
   (k = 9 ∧ rq_b d ho + 1 ≤ h ∧ h' = h ∧ d' = d ∧ o' = o) ∨
   (k = 10 ∧ (∃ a : Nat, a < 3 ∧ av = nI a) ∧ d < 3 ∧ h' = h ∧ d' = d + 1 ∧ o' = i) ∨
   (k = 11 ∧ 0 < d ∧ h = ho + 1 ∧ h' = ho ∧ d' = d ∧ o' = o) ∨
   (12 ≤ k ∧ 0 < d ∧ h = ho + rq_tk k ∧ h' = ho + 1 ∧ d' + 1 = d ∧ o' = oo))
def rq_Ok (K A C : Nat → Int32) (H D O : Nat → Nat) (i : Nat) : Prop :=
  ∃ k : Nat, K i = nI k ∧ (12 ≤ k → C (O i) = nI i) ∧ rq_St k (A i) i (H i) (D i) (O i) (H (O i)) (O (O i)) (H (i + 1)) (D (i + 1)) (O (i + 1))
def rq_Prof (n : Nat) (K A C hA dA oA : Nat → Int32) (H D O : Nat → Nat) : Prop :=
  n ≤ 48 ∧ (H 0 = 0 ∧ D 0 = 0 ∧ O 0 = 0) ∧
  (∀ i, i ≤ n → hA i = nI (H i) ∧ dA i = nI (D i) ∧ (D i = 0 → oA i = -1) ∧ (0 < D i → oA i = nI (O i))) ∧
  (∀ i, i < n → rq_Ok K A C H D O i)
/-- what an open block's first token is, seen from a place in it -/
def rq_In (K : Nat → Int32) (H D O : Nat → Nat) (i : Nat) : Prop :=
  H i ≤ 6 ∧ D i ≤ 3 ∧ (0 < D i → O i < i ∧ K (O i) = nI 10 ∧ D (O i) + 1 = D i ∧ H (O i) ≤ H i ∧ ∀ j, O i < j → j ≤ i → D i ≤ D j) ∧ O i ≤ i
theorem rq_in1 {K : Nat → Int32} {H D O : Nat → Nat} {i : Nat} (I : rq_In K H D O i) (h6 : H (i + 1) ≤ 6) (hD : D (i + 1) = D i) (hO : O (i + 1) = O i)
    (hb : 0 < D i → H (O i) ≤ H (i + 1)) : rq_In K H D O (i + 1) := by
  refine ⟨h6, by rw [hD]; exact I.2.1, fun z => ?_, by rw [hO]; exact Nat.le_succ_of_le I.2.2.2⟩
  rw [hD] at z
  obtain ⟨a, b, c, d, e⟩ := I.2.2.1 z
  rw [hO, hD]
  refine ⟨by omega, b, c, hb z, fun j h1 h2 => ?_⟩
  by_cases hj : j = i + 1
  · rw [hj, hD]; exact Nat.le_refl _
  · exact e j h1 (by omega)
theorem rq_bpos {d ho : Nat} (h : 0 < d) : rq_b d ho = ho := if_neg (by omega)
theorem rq_bzero {ho : Nat} : rq_b 0 ho = 0 := if_pos rfl
theorem rq_open {n : Nat} {K A C hA dA oA : Nat → Int32} {H D O : Nat → Nat} (P : rq_Prof n K A C hA dA oA H D O) : ∀ i, i ≤ n → rq_In K H D O i := by
  intro i
  induction i using Nat.strongRecOn with
  | ind i ih =>
    intro hi
    cases i with
    | zero =>
      refine ⟨by rw [P.2.1.1]; omega, by rw [P.2.1.2.1]; omega, fun z => ?_, by rw [P.2.1.2.2]; exact Nat.le_refl _⟩
      rw [P.2.1.2.1] at z
      omega
    | succ i =>
      obtain ⟨k, hK, hC, hk, h6, hc⟩ := P.2.2.2 i (by omega)
      have I := ih i (by omega) (by omega)
      rcases hc with ⟨_, h1, h2, h3⟩ | ⟨_, _, h1, h2, h3⟩ | ⟨_, h0, h1, h2, h3⟩ | ⟨_, h0, h1, h2, h3⟩ | ⟨hk10, _, h0, h1, h2, h3⟩ | ⟨_, h0, _, h1, h2, h3⟩ | ⟨_, h0, _, h1, h2, h3⟩
      · exact rq_in1 I h6 h2 h3 (fun z => by have := (I.2.2.1 z).2.2.2.1; omega)
      · exact rq_in1 I h6 h2 h3 (fun z => by have := (I.2.2.1 z).2.2.2.1; omega)
      · exact rq_in1 I h6 h2 h3 (fun z => by rw [rq_bpos z] at h0; omega)
      · exact rq_in1 I h6 h2 h3 (fun z => by rw [rq_bpos z] at h0; omega)
      · refine ⟨h6, by omega, fun _ => ?_, by omega⟩
        rw [h3]
        refine ⟨by omega, by rw [hK, hk10], by omega, by omega, fun j z1 z2 => ?_⟩
        have hj : j = i + 1 := by omega
        rw [hj]
        exact Nat.le_refl _
      · exact rq_in1 I h6 h2 h3 (fun z => by omega)
      · obtain ⟨a, b, c, d, e⟩ := I.2.2.1 h0
        have Io := ih (O i) (by omega) (by omega)
        refine ⟨h6, by have := I.2.1; omega, fun z => ?_, by have := Io.2.2.2; omega⟩
        obtain ⟨a', b', c', d', e'⟩ := Io.2.2.1 (by omega)
        rw [h3]
        refine ⟨by omega, b', by omega, by omega, fun j z1 z2 => ?_⟩
        by_cases hj : j ≤ O i
        · have := e' j z1 hj; omega
        · by_cases hj2 : j = i + 1
          · rw [hj2]; exact Nat.le_refl _
          · have := e j (by omega) (by omega); omega
theorem rq_le {n m : Nat} {K A C hA dA oA : Nat → Int32} {H D O : Nat → Nat} (P : rq_Prof n K A C hA dA oA H D O) (h : m ≤ n) : rq_Prof m K A C hA dA oA H D O :=
  ⟨by have := P.1; omega, P.2.1, fun i hi => P.2.2.1 i (by omega), fun i hi => P.2.2.2 i (by omega)⟩
/-- the kind of a token, once a number for it is known -/
theorem rq_kd {K : Nat → Int32} {i k m : Nat} (h : K i = nI k) (hk : k ≤ 17) (e : K i = nI m) (hm : m ≤ 17) : k = m :=
  (nI_eq (by omega) (by omega)).mp (h.symm.trans e)
/-- an ending token's facts -/
def rq_End (K C : Nat → Int32) (H D O : Nat → Nat) (o c : Nat) : Prop :=
  ∃ k : Nat, K c = nI k ∧ 12 ≤ k ∧ k ≤ 17 ∧ D c = D o + 1 ∧ O c = o ∧ C o = nI c ∧ D (c + 1) = D o ∧ O (c + 1) = O o ∧ H c = H o + rq_tk k ∧ H (c + 1) = H o + 1 ∧ H o ≤ 5
def rq_cl (C : Nat → Int32) (o : Nat) : Nat := (C o).toNatClampNeg
theorem rq_rows {n : Nat} {K A C hA dA oA : Nat → Int32} {H D O : Nat → Nat} (P : rq_Prof n K A C hA dA oA H D O) {o : Nat} (ho : o < n) (hK : K o = nI 10) :
    (∃ a : Nat, a < 3 ∧ A o = nI a) ∧ D o < 3 ∧ H (o + 1) = H o ∧ D (o + 1) = D o + 1 ∧ O (o + 1) = o := by
  obtain ⟨k, hk1, hC, hk, h6, hc⟩ := P.2.2.2 o ho
  have e := rq_kd hk1 hk hK (by omega)
  rcases hc with ⟨h, _⟩ | ⟨h, _⟩ | ⟨h, _⟩ | ⟨h, _⟩ | ⟨_, h⟩ | ⟨h, _⟩ | ⟨h, _⟩
  · omega
  · omega
  · omega
  · omega
  · exact h
  · omega
  · omega
theorem rq_closer {n : Nat} {K A C hA dA oA : Nat → Int32} {H D O : Nat → Nat} (P : rq_Prof n K A C hA dA oA H D O) (h0 : D n = 0) {o : Nat} (ho : o < n) (hK : K o = nI 10) :
    o < rq_cl C o ∧ rq_cl C o < n ∧ rq_End K C H D O o (rq_cl C o) ∧ ∀ j, o < j → j ≤ rq_cl C o → D o < D j := by
  obtain ⟨_, _, _, hD1, _⟩ := rq_rows P ho hK
  have hne : o + 1 ≠ n := fun z => by rw [z] at hD1; omega
  obtain ⟨c, ⟨c1, c2, c3⟩, cm⟩ := pk_least (fun c => o < c ∧ c < n ∧ D (c + 1) ≤ D o) ⟨n - 1, by omega, by omega, by rw [show n - 1 + 1 = n from by omega, h0]; omega⟩
  have hj : ∀ j, o < j → j ≤ c → D o < D j := by
    intro j z1 z2
    by_cases e : j = o + 1
    · rw [e]; omega
    · have := cm (j - 1) (by omega)
      have e2 : j - 1 + 1 = j := by omega
      rw [e2] at this
      apply Classical.byContradiction
      intro z
      exact this ⟨by omega, by omega, by omega⟩
  have hc := hj c c1 (Nat.le_refl _)
  obtain ⟨k, hk1, hC, hk, h6, hcs⟩ := P.2.2.2 c c2
  have I := rq_open P c (by omega)
  have E : rq_End K C H D O o c ∧ C o = nI c := by
    rcases hcs with ⟨_, _, h, _⟩ | ⟨_, _, _, h, _⟩ | ⟨_, _, _, h, _⟩ | ⟨_, _, _, h, _⟩ | ⟨_, _, _, _, h, _⟩ | ⟨_, _, _, _, h, _⟩ | ⟨g1, g2, g3, g4, g5, g6⟩
    · omega
    · omega
    · omega
    · omega
    · omega
    · omega
    · obtain ⟨a, b, cc, d, e⟩ := I.2.2.1 g2
      have g7 := hC g1
      have hO : O c = o := by
        have n1 : ¬ o < O c := fun z => by have := hj (O c) z (by omega); omega
        have n2 : ¬ O c < o := fun z => by have := e o z (by omega); omega
        omega
      rw [hO] at g3 g4 g6 g7
      exact ⟨⟨k, hk1, g1, hk, by omega, hO, g7, by omega, g6, g3, g4, by omega⟩, g7⟩
  have ecl : rq_cl C o = c := by unfold rq_cl; rw [E.2]; exact nI_clamp (by have := P.1; omega)
  rw [ecl]
  exact ⟨c1, c2, E.1, hj⟩
theorem rq_inside {n : Nat} {K A C hA dA oA : Nat → Int32} {H D O : Nat → Nat} (P : rq_Prof n K A C hA dA oA H D O) (h0 : D n = 0) {i : Nat} (hi : i ≤ n) (hD : 0 < D i) : i ≤ rq_cl C (O i) := by
  obtain ⟨a, b, c, d, e⟩ := (rq_open P i hi).2.2.1 hD
  obtain ⟨c1, c2, ⟨k, q⟩, c4⟩ := rq_closer P h0 (o := O i) (by omega) b
  apply Classical.byContradiction
  intro z
  have := e (rq_cl C (O i) + 1) (by omega) (by omega)
  have := q.2.2.2.2.2.2.1
  omega
/-! a token is put: the new place behind it -/
def rq_put (f : Nat → Nat) (k x : Nat) : Nat → Nat := fun j => if j = k then x else f j
theorem rq_ps {f : Nat → Nat} {k x : Nat} : rq_put f k x k = x := if_pos rfl
theorem rq_pn {f : Nat → Nat} {k x j : Nat} (h : j ≠ k) : rq_put f k x j = f j := if_neg h
theorem rq_app {n : Nat} {K A C hA dA oA : Nat → Int32} {H D O : Nat → Nat} (P : rq_Prof n K A C hA dA oA H D O) (hn : n < 48) {C' : Nat → Int32} {av ov : Int32} {k h d o : Nat}
    (eC : ∀ i, i < n → 0 < D i → D (i + 1) + 1 = D i → C' (O i) = C (O i)) (hC : 12 ≤ k → C' (O n) = nI n)
    (ho : (d = 0 → ov = -1) ∧ (0 < d → ov = nI o)) (st : rq_St k av n (H n) (D n) (O n) (H (O n)) (O (O n)) h d o) :
    rq_Prof (n + 1) (upd K n (nI k)) (upd A n av) C' (upd hA (n + 1) (nI h)) (upd dA (n + 1) (nI d)) (upd oA (n + 1) ov) (rq_put H (n + 1) h) (rq_put D (n + 1) d) (rq_put O (n + 1) o) := by
  refine ⟨by omega, ?_, ?_, ?_⟩
  · rw [rq_pn (by omega), rq_pn (by omega), rq_pn (by omega)]
    exact P.2.1
  · intro i hi
    by_cases e : i = n + 1
    · rw [e, pk_us, pk_us, pk_us, rq_ps, rq_ps, rq_ps]
      exact ⟨rfl, rfl, ho.1, ho.2⟩
    · rw [pk_un e, pk_un e, pk_un e, rq_pn e, rq_pn e, rq_pn e]
      exact P.2.2.1 i (by omega)
  · intro i hi
    have hO : O i ≤ i := (rq_open P i (by omega)).2.2.2
    unfold rq_Ok
    rw [rq_pn (f := H) (j := i) (by omega), rq_pn (f := D) (j := i) (by omega), rq_pn (f := O) (j := i) (by omega), rq_pn (f := H) (j := O i) (by omega), rq_pn (f := O) (j := O i) (by omega)]
    by_cases e : i = n
    · subst e
      rw [pk_us, pk_us, rq_ps, rq_ps, rq_ps]
      exact ⟨k, rfl, hC, st⟩
    · rw [pk_un e, pk_un e, rq_pn (f := H) (j := i + 1) (by omega), rq_pn (f := D) (j := i + 1) (by omega), rq_pn (f := O) (j := i + 1) (by omega)]
      obtain ⟨k', h1, h2, h3⟩ := P.2.2.2 i (by omega)
      refine ⟨k', h1, fun z => ?_, h3⟩
      obtain ⟨_, _, hcs⟩ := h3
      rcases hcs with ⟨h, _⟩ | ⟨h, _⟩ | ⟨h, _⟩ | ⟨h, _⟩ | ⟨h, _⟩ | ⟨h, _⟩ | ⟨_, g2, _, _, g5, _⟩
      · omega
      · omega
      · omega
      · omega
      · omega
      · omega
      · rw [eC i (by omega) g2 g5]
        exact h2 z
/-- a block that ends now was not ended before -/
theorem rq_fresh {n : Nat} {K A C hA dA oA : Nat → Int32} {H D O : Nat → Nat} (P : rq_Prof n K A C hA dA oA H D O) (hD : 0 < D n) {i : Nat} (hi : i < n) (h1 : 0 < D i) (h2 : D (i + 1) + 1 = D i) : O i ≠ O n := by
  intro z
  obtain ⟨a, b, c, d, e⟩ := (rq_open P i (by omega)).2.2.1 h1
  obtain ⟨a', b', c', d', e'⟩ := (rq_open P n (Nat.le_refl _)).2.2.1 hD
  have := e' (i + 1) (by omega) (by omega)
  rw [z] at c
  omega
