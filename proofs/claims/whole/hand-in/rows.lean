section
theorem pk_us {f : Nat → Int32} {k : Nat} {x : Int32} : upd f k x k = x := if_pos rfl
theorem pk_un {f : Nat → Int32} {k j : Nat} {x : Int32} (h : j ≠ k) : upd f k x j = f j := if_neg h
theorem pk_sub {a b : Nat} (h : b ≤ a) : nI a - nI b = nI (a - b) := by
  obtain ⟨c, rfl⟩ : ∃ c, a = c + b := ⟨a - b, by omega⟩
  rw [← nI_add, Int32.add_sub_cancel, Nat.add_sub_cancel]
theorem pk_m1 (n : Nat) : nI (n + 1) + (-1) = nI n := by
  rw [← nI_1, Int32.add_assoc, show (1 : Int32) + (-1) = 0 from rfl, Int32.add_zero]
theorem pk_mul (a b : Nat) : nI a * nI b = nI (a * b) := (Int32.ofNat_mul a b).symm
theorem pk_div {a d : Nat} (ha : a < 2 ^ 31) (h0 : 0 < d) (hd : d < 2 ^ 31) : nI a / nI d = nI (a / d) := by
  apply Int32.toInt_inj.mp
  rw [lg_idiv_nonneg (by rw [nI_toInt ha]; omega) (by rw [nI_toInt hd]; omega), nI_toInt ha, nI_toInt hd, nI_toInt (Nat.lt_of_le_of_lt (Nat.div_le_self a d) ha)]
  first | rfl | exact (Int.natCast_ediv _ _).symm
theorem pk_rem {a d : Nat} (ha : a < 2 ^ 31) (h0 : 0 < d) (hd : d < 2 ^ 31) : nI a - nI a / nI d * nI d = nI (a % d) := by
  rw [pk_div ha h0 hd, pk_mul, pk_sub (Nat.div_mul_le_self a d)]
  exact congrArg nI (by have := Nat.div_add_mod' a d; omega)
theorem pk_sub_toInt {a b : Nat} (ha : a < 2 ^ 30) (hb : b < 2 ^ 30) : (nI a - nI b).toInt = (a : Int) - b := by
  rw [Int32.toInt_sub, nI_toInt (by omega), nI_toInt (by omega)]
  exact Int.bmod_eq_of_le (by omega) (by omega)
theorem pk_sneg {a b : Nat} (hb : b < 2 ^ 30) (h : a < b) : nI a - nI b < 0 := by
  rw [Int32.lt_iff_toInt_lt, pk_sub_toInt (by omega) hb, show (0 : Int32).toInt = 0 from by decide]
  omega
theorem pk_ix (x : Int32) {n : Nat} (hn : n < 2 ^ 31) : x < 0 ∨ nI n ≤ x ∨ ∃ j : Nat, j < n ∧ x = nI j := by
  by_cases h : x < 0
  · exact Or.inl h
  · obtain ⟨j, hj, rfl⟩ := nI_of h
    by_cases h2 : j < n
    · exact Or.inr (Or.inr ⟨j, h2, rfl⟩)
    · exact Or.inr (Or.inl (nI_le (by omega) hj))
theorem pk_le {x y : Int32} {A B : Prop} (a b : Nat) (f : a ≤ b → A) (g : b < a → B) (hx : x = nI a := by rfl) (hy : y = nI b := by rfl) (ha : a < 2 ^ 31 := by omega) (hb : b < 2 ^ 31 := by omega) : (x ≤ y → A) ∧ (¬ x ≤ y → B) := by
  subst hx hy
  rw [nI_leI ha hb]
  exact ⟨f, fun z => g (by omega)⟩
theorem pk_lt {x y : Int32} {A B : Prop} (a b : Nat) (f : a < b → A) (g : b ≤ a → B) (hx : x = nI a := by rfl) (hy : y = nI b := by rfl) (ha : a < 2 ^ 31 := by omega) (hb : b < 2 ^ 31 := by omega) : (x < y → A) ∧ (¬ x < y → B) := by
  subst hx hy
  rw [nI_ltI ha hb]
  exact ⟨f, fun z => g (by omega)⟩
theorem pk_eq {x y : Int32} {A B : Prop} (a b : Nat) (f : a = b → A) (g : a ≠ b → B) (hx : x = nI a := by rfl) (hy : y = nI b := by rfl) (ha : a < 2 ^ 31 := by omega) (hb : b < 2 ^ 31 := by omega) : (x = y → A) ∧ (¬ x = y → B) := by
  subst hx hy
  rw [nI_eq ha hb]
  exact ⟨f, g⟩
theorem pk_in {x : Int32} (n N : Nat) (h : n < N) (hx : x = nI n := by rfl) (hN : N < 2 ^ 31 := by omega) : vp_in x N := by
  subst hx
  exact vp_in_nI h hN
theorem pk_cl {x : Int32} (n : Nat) (hx : x = nI n := by rfl) (h : n < 2 ^ 31 := by omega) : x.toNatClampNeg = n := by
  subst hx
  exact nI_clamp h
theorem pk_least (P : Nat → Prop) (h : ∃ k, P k) : ∃ k, P k ∧ ∀ j, j < k → ¬ P j := by
  obtain ⟨k, hk⟩ := h
  induction k using Nat.strongRecOn with
  | ind k ih =>
    by_cases e : ∃ j, j < k ∧ P j
    · obtain ⟨j, hj, pj⟩ := e
      exact ih j hj pj
    · exact ⟨k, hk, fun j hj pj => e ⟨j, hj, pj⟩⟩
end
section
/-! what holds of a program at each of its places: H numbers on the stack, D open blocks, O the innermost open block's first token -/
def rq_b (d ho : Nat) : Nat := if d = 0 then 0 else ho
def rq_tk (k : Nat) : Nat := if k < 14 then 0 else 1
/-- a token of kind k with operand av at place i: from h, d, o (and ho, oo: the height and the opener at o) to h', d', o' -/
def rq_St (k : Nat) (av : Int32) (i h d o ho oo h' d' o' : Nat) : Prop :=
  k ≤ 17 ∧ h' ≤ 6 ∧
  ((k = 0 ∧ h' = h + 1 ∧ d' = d ∧ o' = o) ∨
   (k = 1 ∧ (∃ a : Nat, a < 9 ∧ av = nI a ∧ a / 3 < d) ∧ h' = h + 1 ∧ d' = d ∧ o' = o) ∨
   ((2 ≤ k ∧ k ≤ 8) ∧ rq_b d ho + 2 ≤ h ∧ h' + 1 = h ∧ d' = d ∧ o' = o) ∨
   (k = 9 ∧ rq_b d ho + 1 ≤ h ∧ h' = h ∧ d' = d ∧ o' = o) ∨
   (k = 10 ∧ (∃ a : Nat, a < 3 ∧ av = nI a) ∧ d < 3 ∧ h' = h ∧ d' = d + 1 ∧ o' = i) ∨
   (k = 11 ∧ 0 < d ∧ h = ho + 1 ∧ h' = ho ∧ d' = d ∧ o' = o) ∨
   (12 ≤ k ∧ 0 < d ∧ h = ho + rq_tk k ∧ h' = ho + 1 ∧ d' + 1 = d ∧ o' = oo))
def rq_Ok (K A C : Nat → Int32) (H D O : Nat → Nat) (i : Nat) : Prop :=
  ∃ k : Nat, K i = nI k ∧ (12 ≤ k → C (O i) = nI i) ∧ rq_St k (A i) i (H i) (D i) (O i) (H (O i)) (O (O i)) (H (i + 1)) (D (i + 1)) (O (i + 1))
def rq_Prof (n : Nat) (K A C hA dA oA : Nat → Int32) (H D O : Nat → Nat) : Prop :=
  n ≤ 48 ∧ (H 0 = 0 ∧ D 0 = 0 ∧ O 0 = 0) ∧
  (∀ i, i ≤ n → hA i = nI (H i) ∧ dA i = nI (D i) ∧ (D i = 0 → oA i = -1) ∧ (0 < D i → oA i = nI (O i))) ∧
  (∀ i, i < n → rq_Ok K A C H D O i)
/-- what an open block's first token is, seen from a place in it -/
def rq_In (K : Nat → Int32) (H D O : Nat → Nat) (i : Nat) : Prop :=
  H i ≤ 6 ∧ D i ≤ 3 ∧ (0 < D i → O i < i ∧ K (O i) = nI 10 ∧ D (O i) + 1 = D i ∧ H (O i) ≤ H i ∧ ∀ j, O i < j → j ≤ i → D i ≤ D j) ∧ O i ≤ i
theorem rq_in1 {K : Nat → Int32} {H D O : Nat → Nat} {i : Nat} (I : rq_In K H D O i) (h6 : H (i + 1) ≤ 6) (hD : D (i + 1) = D i) (hO : O (i + 1) = O i)
    (hb : 0 < D i → H (O i) ≤ H (i + 1)) : rq_In K H D O (i + 1) := by
  refine ⟨h6, by rw [hD]; exact I.2.1, fun z => ?_, by rw [hO]; exact Nat.le_succ_of_le I.2.2.2⟩
  rw [hD] at z
  obtain ⟨a, b, c, d, e⟩ := I.2.2.1 z
  rw [hO, hD]
  refine ⟨by omega, b, c, hb z, fun j h1 h2 => ?_⟩
  by_cases hj : j = i + 1
  · rw [hj, hD]; exact Nat.le_refl _
  · exact e j h1 (by omega)
theorem rq_bpos {d ho : Nat} (h : 0 < d) : rq_b d ho = ho := if_neg (by omega)
theorem rq_bzero {ho : Nat} : rq_b 0 ho = 0 := if_pos rfl
theorem rq_open {n : Nat} {K A C hA dA oA : Nat → Int32} {H D O : Nat → Nat} (P : rq_Prof n K A C hA dA oA H D O) : ∀ i, i ≤ n → rq_In K H D O i := by
  intro i
  induction i using Nat.strongRecOn with
  | ind i ih =>
    intro hi
    cases i with
    | zero =>
      refine ⟨by rw [P.2.1.1]; omega, by rw [P.2.1.2.1]; omega, fun z => ?_, by rw [P.2.1.2.2]; exact Nat.le_refl _⟩
      rw [P.2.1.2.1] at z
      omega
    | succ i =>
      obtain ⟨k, hK, hC, hk, h6, hc⟩ := P.2.2.2 i (by omega)
      have I := ih i (by omega) (by omega)
      rcases hc with ⟨_, h1, h2, h3⟩ | ⟨_, _, h1, h2, h3⟩ | ⟨_, h0, h1, h2, h3⟩ | ⟨_, h0, h1, h2, h3⟩ | ⟨hk10, _, h0, h1, h2, h3⟩ | ⟨_, h0, _, h1, h2, h3⟩ | ⟨_, h0, _, h1, h2, h3⟩
      · exact rq_in1 I h6 h2 h3 (fun z => by have := (I.2.2.1 z).2.2.2.1; omega)
      · exact rq_in1 I h6 h2 h3 (fun z => by have := (I.2.2.1 z).2.2.2.1; omega)
      · exact rq_in1 I h6 h2 h3 (fun z => by rw [rq_bpos z] at h0; omega)
      · exact rq_in1 I h6 h2 h3 (fun z => by rw [rq_bpos z] at h0; omega)
      · refine ⟨h6, by omega, fun _ => ?_, by omega⟩
        rw [h3]
        refine ⟨by omega, by rw [hK, hk10], by omega, by omega, fun j z1 z2 => ?_⟩
        have hj : j = i + 1 := by omega
        rw [hj]
        exact Nat.le_refl _
      · exact rq_in1 I h6 h2 h3 (fun z => by omega)
      · obtain ⟨a, b, c, d, e⟩ := I.2.2.1 h0
        have Io := ih (O i) (by omega) (by omega)
        refine ⟨h6, by have := I.2.1; omega, fun z => ?_, by have := Io.2.2.2; omega⟩
        obtain ⟨a', b', c', d', e'⟩ := Io.2.2.1 (by omega)
        rw [h3]
        refine ⟨by omega, b', by omega, by omega, fun j z1 z2 => ?_⟩
        by_cases hj : j ≤ O i
        · have := e' j z1 hj; omega
        · by_cases hj2 : j = i + 1
          · rw [hj2]; exact Nat.le_refl _
          · have := e j (by omega) (by omega); omega
theorem rq_le {n m : Nat} {K A C hA dA oA : Nat → Int32} {H D O : Nat → Nat} (P : rq_Prof n K A C hA dA oA H D O) (h : m ≤ n) : rq_Prof m K A C hA dA oA H D O :=
  ⟨by have := P.1; omega, P.2.1, fun i hi => P.2.2.1 i (by omega), fun i hi => P.2.2.2 i (by omega)⟩
/-- the kind of a token, once a number for it is known -/
theorem rq_kd {K : Nat → Int32} {i k m : Nat} (h : K i = nI k) (hk : k ≤ 17) (e : K i = nI m) (hm : m ≤ 17) : k = m :=
  (nI_eq (by omega) (by omega)).mp (h.symm.trans e)
/-- an ending token's facts -/
def rq_End (K C : Nat → Int32) (H D O : Nat → Nat) (o c : Nat) : Prop :=
  ∃ k : Nat, K c = nI k ∧ 12 ≤ k ∧ k ≤ 17 ∧ D c = D o + 1 ∧ O c = o ∧ C o = nI c ∧ D (c + 1) = D o ∧ O (c + 1) = O o ∧ H c = H o + rq_tk k ∧ H (c + 1) = H o + 1 ∧ H o ≤ 5
def rq_cl (C : Nat → Int32) (o : Nat) : Nat := (C o).toNatClampNeg
theorem rq_rows {n : Nat} {K A C hA dA oA : Nat → Int32} {H D O : Nat → Nat} (P : rq_Prof n K A C hA dA oA H D O) {o : Nat} (ho : o < n) (hK : K o = nI 10) :
    (∃ a : Nat, a < 3 ∧ A o = nI a) ∧ D o < 3 ∧ H (o + 1) = H o ∧ D (o + 1) = D o + 1 ∧ O (o + 1) = o := by
  obtain ⟨k, hk1, hC, hk, h6, hc⟩ := P.2.2.2 o ho
  have e := rq_kd hk1 hk hK (by omega)
  rcases hc with ⟨h, _⟩ | ⟨h, _⟩ | ⟨h, _⟩ | ⟨h, _⟩ | ⟨_, h⟩ | ⟨h, _⟩ | ⟨h, _⟩
  · omega
  · omega
  · omega
  · omega
  · exact h
  · omega
  · omega
theorem rq_closer {n : Nat} {K A C hA dA oA : Nat → Int32} {H D O : Nat → Nat} (P : rq_Prof n K A C hA dA oA H D O) (h0 : D n = 0) {o : Nat} (ho : o < n) (hK : K o = nI 10) :
    o < rq_cl C o ∧ rq_cl C o < n ∧ rq_End K C H D O o (rq_cl C o) ∧ ∀ j, o < j → j ≤ rq_cl C o → D o < D j := by
  obtain ⟨_, _, _, hD1, _⟩ := rq_rows P ho hK
  have hne : o + 1 ≠ n := fun z => by rw [z] at hD1; omega
  obtain ⟨c, ⟨c1, c2, c3⟩, cm⟩ := pk_least (fun c => o < c ∧ c < n ∧ D (c + 1) ≤ D o) ⟨n - 1, by omega, by omega, by rw [show n - 1 + 1 = n from by omega, h0]; omega⟩
  have hj : ∀ j, o < j → j ≤ c → D o < D j := by
    intro j z1 z2
    by_cases e : j = o + 1
    · rw [e]; omega
    · have := cm (j - 1) (by omega)
      have e2 : j - 1 + 1 = j := by omega
      rw [e2] at this
      apply Classical.byContradiction
      intro z
      exact this ⟨by omega, by omega, by omega⟩
  have hc := hj c c1 (Nat.le_refl _)
  obtain ⟨k, hk1, hC, hk, h6, hcs⟩ := P.2.2.2 c c2
  have I := rq_open P c (by omega)
  have E : rq_End K C H D O o c ∧ C o = nI c := by
    rcases hcs with ⟨_, _, h, _⟩ | ⟨_, _, _, h, _⟩ | ⟨_, _, _, h, _⟩ | ⟨_, _, _, h, _⟩ | ⟨_, _, _, _, h, _⟩ | ⟨_, _, _, _, h, _⟩ | ⟨g1, g2, g3, g4, g5, g6⟩
    · omega
    · omega
    · omega
    · omega
    · omega
    · omega
    · obtain ⟨a, b, cc, d, e⟩ := I.2.2.1 g2
      have g7 := hC g1
      have hO : O c = o := by
        have n1 : ¬ o < O c := fun z => by have := hj (O c) z (by omega); omega
        have n2 : ¬ O c < o := fun z => by have := e o z (by omega); omega
        omega
      rw [hO] at g3 g4 g6 g7
      exact ⟨⟨k, hk1, g1, hk, by omega, hO, g7, by omega, g6, g3, g4, by omega⟩, g7⟩
  have ecl : rq_cl C o = c := by unfold rq_cl; rw [E.2]; exact nI_clamp (by have := P.1; omega)
  rw [ecl]
  exact ⟨c1, c2, E.1, hj⟩
theorem rq_inside {n : Nat} {K A C hA dA oA : Nat → Int32} {H D O : Nat → Nat} (P : rq_Prof n K A C hA dA oA H D O) (h0 : D n = 0) {i : Nat} (hi : i ≤ n) (hD : 0 < D i) : i ≤ rq_cl C (O i) := by
  obtain ⟨a, b, c, d, e⟩ := (rq_open P i hi).2.2.1 hD
  obtain ⟨c1, c2, ⟨k, q⟩, c4⟩ := rq_closer P h0 (o := O i) (by omega) b
  apply Classical.byContradiction
  intro z
  have := e (rq_cl C (O i) + 1) (by omega) (by omega)
  have := q.2.2.2.2.2.2.1
  omega
/-! a token is put: the new place behind it -/
def rq_put (f : Nat → Nat) (k x : Nat) : Nat → Nat := fun j => if j = k then x else f j
theorem rq_ps {f : Nat → Nat} {k x : Nat} : rq_put f k x k = x := if_pos rfl
theorem rq_pn {f : Nat → Nat} {k x j : Nat} (h : j ≠ k) : rq_put f k x j = f j := if_neg h
theorem rq_app {n : Nat} {K A C hA dA oA : Nat → Int32} {H D O : Nat → Nat} (P : rq_Prof n K A C hA dA oA H D O) (hn : n < 48) {C' : Nat → Int32} {av ov : Int32} {k h d o : Nat}
    (eC : ∀ i, i < n → 0 < D i → D (i + 1) + 1 = D i → C' (O i) = C (O i)) (hC : 12 ≤ k → C' (O n) = nI n)
    (ho : (d = 0 → ov = -1) ∧ (0 < d → ov = nI o)) (st : rq_St k av n (H n) (D n) (O n) (H (O n)) (O (O n)) h d o) :
    rq_Prof (n + 1) (upd K n (nI k)) (upd A n av) C' (upd hA (n + 1) (nI h)) (upd dA (n + 1) (nI d)) (upd oA (n + 1) ov) (rq_put H (n + 1) h) (rq_put D (n + 1) d) (rq_put O (n + 1) o) := by
  refine ⟨by omega, ?_, ?_, ?_⟩
  · rw [rq_pn (by omega), rq_pn (by omega), rq_pn (by omega)]
    exact P.2.1
  · intro i hi
    by_cases e : i = n + 1
    · rw [e, pk_us, pk_us, pk_us, rq_ps, rq_ps, rq_ps]
      exact ⟨rfl, rfl, ho.1, ho.2⟩
    · rw [pk_un e, pk_un e, pk_un e, rq_pn e, rq_pn e, rq_pn e]
      exact P.2.2.1 i (by omega)
  · intro i hi
    have hO : O i ≤ i := (rq_open P i (by omega)).2.2.2
    unfold rq_Ok
    rw [rq_pn (f := H) (j := i) (by omega), rq_pn (f := D) (j := i) (by omega), rq_pn (f := O) (j := i) (by omega), rq_pn (f := H) (j := O i) (by omega), rq_pn (f := O) (j := O i) (by omega)]
    by_cases e : i = n
    · subst e
      rw [pk_us, pk_us, rq_ps, rq_ps, rq_ps]
      exact ⟨k, rfl, hC, st⟩
    · rw [pk_un e, pk_un e, rq_pn (f := H) (j := i + 1) (by omega), rq_pn (f := D) (j := i + 1) (by omega), rq_pn (f := O) (j := i + 1) (by omega)]
      obtain ⟨k', h1, h2, h3⟩ := P.2.2.2 i (by omega)
      refine ⟨k', h1, fun z => ?_, h3⟩
      obtain ⟨_, _, hcs⟩ := h3
      rcases hcs with ⟨h, _⟩ | ⟨h, _⟩ | ⟨h, _⟩ | ⟨h, _⟩ | ⟨h, _⟩ | ⟨h, _⟩ | ⟨_, g2, _, _, g5, _⟩
      · omega
      · omega
      · omega
      · omega
      · omega
      · omega
      · rw [eC i (by omega) g2 g5]
        exact h2 z
/-- a block that ends now was not ended before -/
theorem rq_fresh {n : Nat} {K A C hA dA oA : Nat → Int32} {H D O : Nat → Nat} (P : rq_Prof n K A C hA dA oA H D O) (hD : 0 < D n) {i : Nat} (hi : i < n) (h1 : 0 < D i) (h2 : D (i + 1) + 1 = D i) : O i ≠ O n := by
  intro z
  obtain ⟨a, b, c, d, e⟩ := (rq_open P i (by omega)).2.2.1 h1
  obtain ⟨a', b', c', d', e'⟩ := (rq_open P n (Nat.le_refl _)).2.2.1 hD
  have := e' (i + 1) (by omega) (by omega)
  rw [z] at c
  omega
end
section
/-! the blocks that are open while a program is worked out: B b is the first token of block b, r b its row at hand, f b how many of its rows were kept -/
def rq_Ch (D O B : Nat → Nat) (i : Nat) : Prop := (∀ b, b + 1 = D i → B b = O i) ∧ (∀ b, b + 1 < D i → B b = O (B (b + 1)))
theorem rq_chSame {D O B : Nat → Nat} {i j : Nat} (c : rq_Ch D O B i) (hD : D j = D i) (hO : O j = O i) : rq_Ch D O B j := by
  unfold rq_Ch
  rw [hD, hO]
  exact c
theorem rq_chB {n : Nat} {K A C hA dA oA : Nat → Int32} {H D O : Nat → Nat} (P : rq_Prof n K A C hA dA oA H D O) {B : Nat → Nat} {i : Nat} (hi : i ≤ n) (c : rq_Ch D O B i) :
    ∀ b, b < D i → B b < i ∧ K (B b) = nI 10 ∧ D (B b) = b := by
  have main : ∀ m b, b + 1 + m = D i → B b < i ∧ K (B b) = nI 10 ∧ D (B b) = b := by
    intro m
    induction m with
    | zero =>
      intro b hb
      obtain ⟨a1, a2, a3, _⟩ := (rq_open P i hi).2.2.1 (by omega)
      rw [c.1 b (by omega)]
      exact ⟨a1, a2, by omega⟩
    | succ m ih =>
      intro b hb
      obtain ⟨x1, x2, x3⟩ := ih (b + 1) (by omega)
      obtain ⟨a1, a2, a3, _⟩ := (rq_open P (B (b + 1)) (by omega)).2.2.1 (by omega)
      rw [c.2 b (by omega)]
      exact ⟨by omega, a2, by omega⟩
  intro b hb
  exact main (D i - 1 - b) b (by omega)
theorem rq_chPush {D O B : Nat → Nat} {o : Nat} (c : rq_Ch D O B o) : rq_Ch D O (rq_put B (D o) o) o := by
  refine ⟨fun b hb => ?_, fun b hb => ?_⟩
  · rw [rq_pn (by omega)]
    exact c.1 b hb
  · rw [rq_pn (by omega), rq_pn (by omega)]
    exact c.2 b hb
theorem rq_chIn {D O B : Nat → Nat} {o : Nat} (c : rq_Ch D O B o) (hB : B (D o) = o) (hD : D (o + 1) = D o + 1) (hO : O (o + 1) = o) : rq_Ch D O B (o + 1) := by
  unfold rq_Ch
  rw [hD, hO]
  refine ⟨fun b hb => ?_, fun b hb => ?_⟩
  · have e : b = D o := by omega
    rw [e]
    exact hB
  · by_cases e : b + 1 = D o
    · rw [e, hB]
      exact c.1 b e
    · exact c.2 b (by omega)
theorem rq_chOut {D O B : Nat → Nat} {i : Nat} (c : rq_Ch D O B i) (h : D (O i) + 1 = D i) : rq_Ch D O B (O i) ∧ B (D (O i)) = O i := by
  have hB : B (D (O i)) = O i := c.1 _ h
  refine ⟨⟨fun b hb => ?_, fun b hb => c.2 b (by omega)⟩, hB⟩
  rw [c.2 b (by omega), hb, hB]
/-! the greatest number of steps -/
def rq_w : Nat → Nat
  | 0 => 216
  | 1 => 36
  | 2 => 6
  | _ => 1
def rq_p (B : Nat → Nat) : Nat → Nat
  | 0 => 0
  | b + 1 => B b + 1
def rq_E (c B r : Nat → Nat) : Nat → Nat
  | 0 => 0
  | b + 1 => rq_E c B r b + rq_w b * (B b + 1 - rq_p B b) + rq_w (b + 1) * (r b * (c (B b) - B b))
def rq_e (n : Nat) (c B : Nat → Nat) : Nat → Nat
  | 0 => n
  | b + 1 => c (B b) + 1
theorem rq_Econg {c B r B' r' : Nat → Nat} : ∀ b, (∀ j, j < b → B' j = B j ∧ r' j = r j) → rq_E c B' r' b = rq_E c B r b ∧ rq_p B' b = rq_p B b := by
  intro b
  induction b with
  | zero => exact fun _ => ⟨rfl, rfl⟩
  | succ b ih =>
    intro h
    obtain ⟨e1, e2⟩ := ih (fun j hj => h j (by omega))
    obtain ⟨h1, h2⟩ := h b (by omega)
    constructor
    · show rq_E c B' r' b + rq_w b * (B' b + 1 - rq_p B' b) + rq_w (b + 1) * (r' b * (c (B' b) - B' b)) = _
      rw [e1, e2, h1, h2]
      rfl
    · show B' b + 1 = _
      rw [h1]
      rfl
theorem rq_w6 : ∀ d, d < 3 → rq_w d = 6 * rq_w (d + 1)
  | 0, _ => rfl
  | 1, _ => rfl
  | 2, _ => rfl
  | d + 3, h => by omega
theorem rq_w1 : ∀ d, 1 ≤ rq_w d
  | 0 => by decide
  | 1 => by decide
  | 2 => by decide
  | d + 3 => Nat.le_refl 1
theorem rq_ar {E w w' B p c x r T : Nat} (hw : w = 6 * w') (hp : p ≤ B) (hc : B < c) (hx : x ≤ c + 1) (hr : r ≤ 5) (ih : E + w * (c + 1 - p) ≤ T) :
    E + w * (B + 1 - p) + w' * (r * (c - B)) + w' * (x - (B + 1)) ≤ T := by
  have h1 : w' * (r * (c - B)) ≤ w' * (5 * (c - B)) := Nat.mul_le_mul_left _ (Nat.mul_le_mul_right _ hr)
  have h2 : w' * (x - (B + 1)) ≤ w' * (c - B) := Nat.mul_le_mul_left _ (by omega)
  have h3 : w' * (5 * (c - B)) + w' * (c - B) = w * (c - B) := by
    rw [← Nat.mul_add, show 5 * (c - B) + (c - B) = 6 * (c - B) from by omega, hw, Nat.mul_comm 6 w', Nat.mul_assoc]
  have h4 : w * (B + 1 - p) + w * (c - B) = w * (c + 1 - p) := by
    rw [← Nat.mul_add, show B + 1 - p + (c - B) = c + 1 - p from by omega]
  omega
theorem rq_pB {n : Nat} {K A C hA dA oA : Nat → Int32} {H D O : Nat → Nat} (P : rq_Prof n K A C hA dA oA H D O) {B : Nat → Nat} {i : Nat} (hi : i ≤ n) (c : rq_Ch D O B i) :
    ∀ d, d < D i → rq_p B d ≤ B d := by
  intro d hd
  cases d with
  | zero => exact Nat.zero_le _
  | succ e =>
    show B e + 1 ≤ B (e + 1)
    obtain ⟨x1, x2, x3⟩ := rq_chB P hi c (e + 1) hd
    obtain ⟨a1, a2, a3, _⟩ := (rq_open P (B (e + 1)) (by omega)).2.2.1 (by omega)
    have := c.2 e hd
    omega
theorem rq_bound {n : Nat} {K A C hA dA oA : Nat → Int32} {H D O : Nat → Nat} (P : rq_Prof n K A C hA dA oA H D O) (h0 : D n = 0) {B r : Nat → Nat} {i : Nat} (hi : i ≤ n) (c : rq_Ch D O B i)
    (hr : ∀ b, b < D i → r b ≤ 5) : ∀ d, d ≤ D i → ∀ x, x ≤ rq_e n (rq_cl C) B d → rq_E (rq_cl C) B r d + rq_w d * (x - rq_p B d) ≤ 216 * n := by
  intro d
  induction d with
  | zero =>
    intro _ x hx
    have hx' : x ≤ n := hx
    show 0 + 216 * (x - 0) ≤ 216 * n
    omega
  | succ d ih =>
    intro hd x hx
    obtain ⟨x1, x2, x3⟩ := rq_chB P hi c d hd
    obtain ⟨c1, c2, ⟨k, q⟩, c4⟩ := rq_closer P h0 (o := B d) (by omega) x2
    have hd3 : d < 3 := by have := (rq_open P i hi).2.1; omega
    refine rq_ar (rq_w6 d hd3) (rq_pB P hi c d hd) c1 hx (hr d hd) (ih (by omega) _ ?_)
    cases d with
    | zero => exact c2
    | succ e =>
      show rq_cl C (B (e + 1)) + 1 ≤ rq_cl C (B e) + 1
      have q1 := q.2.2.2.2.2.2.1
      have q2 := q.2.2.2.2.2.2.2.1
      have := rq_inside P h0 (i := rq_cl C (B (e + 1)) + 1) (by omega) (by omega)
      rw [q2, ← c.2 e hd] at this
      omega
/-- the block b, begun by token o with f rows kept, as both sides hold it; kc: the kind of its ending token -/
def rq_Out (kc : Int32) (f b : Nat) (oc kr kn vl sn : Nat → Int32) : Prop :=
  (kc = nI 12 → oc b = nI f) ∧ (kc = nI 13 → oc b = if f = 0 then 0 else 1) ∧
  (¬ kc = nI 12 → ¬ kc = nI 13 → oc b = vl b ∧ kr b = nI f) ∧
  (kc = nI 17 → ∃ m, m ≤ f ∧ vl b = nI m ∧ ∀ x, (∃ j, j < f ∧ kn (6 * b + j) = x) ↔ (∃ j, j < m ∧ sn (6 * b + j) = x))
def rq_Blk (A : Nat → Int32) (kc : Int32) (o f b : Nat) (R : Int32) (tb rh oc kr kn bg ra fd vl sn : Nat → Int32) : Prop :=
  bg b = nI o ∧ tb b = A o ∧ rh b = R ∧ ra b = R ∧ fd b = nI f ∧ rq_Out kc f b oc kr kn vl sn
def rq_Lo (K A C : Nat → Int32) (B r f : Nat → Nat) (d : Nat) (tb rh oc kr kn bg ra fd vl sn : Nat → Int32) : Prop :=
  ∀ b, b < d → r b ≤ 5 ∧ f b ≤ r b ∧ rq_Blk A (K (rq_cl C (B b))) (B b) (f b) b (nI (r b)) tb rh oc kr kn bg ra fd vl sn
/-- both sides at the head of a step: at token i, t steps done -/
def rq_Sim (n : Nat) (K A C : Nat → Int32) (H D O : Nat → Nat) (i t : Nat) (B r f : Nat → Nat) (sx tb rh oc kr kn sy bg ra fd vl sn : Nat → Int32) (top dep : Int32) : Prop :=
  i ≤ n ∧ t ≤ rq_E (rq_cl C) B r (D i) + rq_w (D i) * (i - rq_p B (D i)) ∧ rq_Ch D O B i ∧ (top = nI (H i) ∧ dep = nI (D i)) ∧
  (∀ j, j < H i → sx j = sy j) ∧ rq_Lo K A C B r f (D i) tb rh oc kr kn bg ra fd vl sn
/-- both sides ahead of the next row of the block that token o begins; q: the next row's number -/
def rq_Pre (n : Nat) (K A C : Nat → Int32) (H D O : Nat → Nat) (o t q : Nat) (B r f : Nat → Nat) (sx tb rh oc kr kn sy bg ra fd vl sn : Nat → Int32) (top dep : Int32) : Prop :=
  (o < n ∧ K o = nI 10 ∧ B (D o) = o ∧ rq_Ch D O B o) ∧ (top = nI (H o) ∧ dep = nI (D o + 1)) ∧ (∀ j, j < H o → sx j = sy j) ∧
  rq_Lo K A C B r f (D o) tb rh oc kr kn bg ra fd vl sn ∧ (f (D o) ≤ q ∧ q ≤ 6) ∧
  (∃ R : Int32, R + 1 = nI q ∧ rq_Blk A (K (rq_cl C o)) o (f (D o)) (D o) R tb rh oc kr kn bg ra fd vl sn) ∧
  t ≤ rq_E (rq_cl C) B r (D o) + rq_w (D o) * (o + 1 - rq_p B (D o)) + rq_w (D o + 1) * (q * (rq_cl C o - o))
/-- the step bound -/
theorem rq_fuel {n : Nat} {K A C hA dA oA : Nat → Int32} {H D O : Nat → Nat} (P : rq_Prof n K A C hA dA oA H D O) (h0 : D n = 0) {i t : Nat} {B r f : Nat → Nat}
    {sx tb rh oc kr kn sy bg ra fd vl sn : Nat → Int32} {top dep : Int32} (S : rq_Sim n K A C H D O i t B r f sx tb rh oc kr kn sy bg ra fd vl sn top dep) (hi : i < n) : t < 10368 := by
  obtain ⟨s1, s2, s3, s4, s5, s6⟩ := S
  have hx : i + 1 ≤ rq_e n (rq_cl C) B (D i) ∧ rq_p B (D i) ≤ i := by
    by_cases z : D i = 0
    · rw [z]
      exact ⟨hi, Nat.zero_le _⟩
    · obtain ⟨e, he⟩ : ∃ e, D i = e + 1 := ⟨D i - 1, by omega⟩
      have a := rq_inside P h0 (i := i) s1 (by omega)
      have b := ((rq_open P i s1).2.2.1 (by omega)).1
      have c := s3.1 e (by omega)
      rw [he]
      show i + 1 ≤ rq_cl C (B e) + 1 ∧ B e + 1 ≤ i
      rw [c]
      omega
  have hb := rq_bound P h0 s1 s3 (r := r) (fun b hb => (s6 b hb).1) (D i) (Nat.le_refl _) (i + 1) hx.1
  have hw := rq_w1 (D i)
  rw [show i + 1 - rq_p B (D i) = (i - rq_p B (D i)) + 1 from by omega, Nat.mul_add, Nat.mul_one] at hb
  have := P.1
  omega
end
section
/-! the steps' mathematics: how both sides' blocks and stacks go on being alike -/
theorem rq_blkCong {A : Nat → Int32} {kc R : Int32} {o f b : Nat} {tb rh oc kr kn bg ra fd vl sn tb' rh' oc' kr' kn' bg' ra' fd' vl' sn' : Nat → Int32}
    (h : rq_Blk A kc o f b R tb rh oc kr kn bg ra fd vl sn) (hf : f ≤ 6) (e1 : tb' b = tb b) (e2 : rh' b = rh b) (e3 : oc' b = oc b) (e4 : kr' b = kr b) (e5 : ∀ j, j < 6 → kn' (6 * b + j) = kn (6 * b + j))
    (e6 : bg' b = bg b) (e7 : ra' b = ra b) (e8 : fd' b = fd b) (e9 : vl' b = vl b) (e0 : ∀ j, j < 6 → sn' (6 * b + j) = sn (6 * b + j)) : rq_Blk A kc o f b R tb' rh' oc' kr' kn' bg' ra' fd' vl' sn' := by
  obtain ⟨h1, h2, h3, h4, h5, h6, h7, h8, h9⟩ := h
  refine ⟨by rw [e6, h1], by rw [e1, h2], by rw [e2, h3], by rw [e7, h4], by rw [e8, h5], by rw [e3]; exact h6, by rw [e3]; exact h7, by rw [e3, e9, e4]; exact h8, fun z => ?_⟩
  obtain ⟨m, m1, m2, m3⟩ := h9 z
  refine ⟨m, m1, by rw [e9, m2], fun x => ?_⟩
  rw [show (∃ j, j < f ∧ kn' (6 * b + j) = x) ↔ (∃ j, j < f ∧ kn (6 * b + j) = x) from
    ⟨fun ⟨j, a, c⟩ => ⟨j, a, by rw [← c, e5 j (by omega)]⟩, fun ⟨j, a, c⟩ => ⟨j, a, by rw [← c, e5 j (by omega)]⟩⟩,
    show (∃ j, j < m ∧ sn' (6 * b + j) = x) ↔ (∃ j, j < m ∧ sn (6 * b + j) = x) from
    ⟨fun ⟨j, a, c⟩ => ⟨j, a, by rw [← c, e0 j (by omega)]⟩, fun ⟨j, a, c⟩ => ⟨j, a, by rw [← c, e0 j (by omega)]⟩⟩]
  exact m3 x
/-- the blocks below d are not touched by what happens at d -/
theorem rq_loCong {K A C : Nat → Int32} {B r f B' r' f' : Nat → Nat} {d : Nat} {tb rh oc kr kn bg ra fd vl sn tb' rh' oc' kr' kn' bg' ra' fd' vl' sn' : Nat → Int32}
    (h : rq_Lo K A C B r f d tb rh oc kr kn bg ra fd vl sn) (hB : ∀ b, b < d → B' b = B b ∧ r' b = r b ∧ f' b = f b)
    (e : ∀ b, b < d → (tb' b = tb b ∧ rh' b = rh b ∧ oc' b = oc b ∧ kr' b = kr b ∧ bg' b = bg b ∧ ra' b = ra b ∧ fd' b = fd b ∧ vl' b = vl b))
    (e5 : ∀ j, j < 6 * d → kn' j = kn j) (e0 : ∀ j, j < 6 * d → sn' j = sn j) : rq_Lo K A C B' r' f' d tb' rh' oc' kr' kn' bg' ra' fd' vl' sn' := by
  intro b hb
  obtain ⟨h1, h2, h3⟩ := h b hb
  obtain ⟨b1, b2, b3⟩ := hB b hb
  obtain ⟨g1, g2, g3, g4, g6, g7, g8, g9⟩ := e b hb
  rw [b1, b2, b3]
  exact ⟨h1, h2, rq_blkCong h3 (by omega) g1 g2 g3 g4 (fun j hj => e5 _ (by omega)) g6 g7 g8 g9 (fun j hj => e0 _ (by omega))⟩
/-- the next row is there -/
theorem rq_next1 {n : Nat} {K A C hA dA oA : Nat → Int32} {H D O : Nat → Nat} (P : rq_Prof n K A C hA dA oA H D O) {o t q : Nat} {B r f : Nat → Nat}
    {sx tb rh oc kr kn sy bg ra fd vl sn : Nat → Int32} {top dep : Int32} (S : rq_Pre n K A C H D O o t q B r f sx tb rh oc kr kn sy bg ra fd vl sn top dep) {q' : Nat} (h1 : q ≤ q') (h2 : q' ≤ 5) :
    rq_Sim n K A C H D O (o + 1) t B (rq_put r (D o) q') f sx tb (upd rh (D o) (nI q')) oc kr kn sy bg (upd ra (D o) (nI q')) fd vl sn top dep := by
  obtain ⟨⟨s1, s2, s3, s4⟩, s5, s6, s7, s8, ⟨R, s9, s10⟩, s11⟩ := S
  obtain ⟨_, g2, g3, g4, g5⟩ := rq_rows P s1 s2
  refine ⟨s1, ?_, rq_chIn s4 s3 g4 g5, by rw [g3, g4]; exact s5, by rw [g3]; exact s6, ?_⟩
  · obtain ⟨e1, e2⟩ := rq_Econg (c := rq_cl C) (B := B) (r := r) (B' := B) (r' := rq_put r (D o) q') (D o) (fun j hj => ⟨rfl, rq_pn (by omega)⟩)
    rw [g4]
    show t ≤ rq_E (rq_cl C) B (rq_put r (D o) q') (D o) + rq_w (D o) * (B (D o) + 1 - rq_p B (D o)) + rq_w (D o + 1) * (rq_put r (D o) q' (D o) * (rq_cl C (B (D o)) - B (D o))) + rq_w (D o + 1) * (o + 1 - (B (D o) + 1))
    rw [e1, rq_ps, s3]
    have : rq_w (D o + 1) * (q * (rq_cl C o - o)) ≤ rq_w (D o + 1) * (q' * (rq_cl C o - o)) := Nat.mul_le_mul_left _ (Nat.mul_le_mul_right _ h1)
    omega
  · rw [g4]
    have lo := rq_loCong (B' := B) (r' := rq_put r (D o) q') (f' := f) (tb' := tb) (rh' := upd rh (D o) (nI q')) (oc' := oc) (kr' := kr) (kn' := kn) (bg' := bg) (ra' := upd ra (D o) (nI q')) (fd' := fd) (vl' := vl) (sn' := sn) s7
      (fun b hb => ⟨rfl, rq_pn (by omega), rfl⟩) (fun b hb => ⟨rfl, pk_un (by omega), rfl, rfl, rfl, pk_un (by omega), rfl, rfl⟩) (fun _ _ => rfl) (fun _ _ => rfl)
    intro b hb
    by_cases e : b = D o
    · subst e
      obtain ⟨t1, t2, t3, t4, t5, t6⟩ := s10
      rw [rq_ps, s3]
      exact ⟨h2, by omega, t1, t2, pk_us, pk_us, t5, t6⟩
    · exact lo b (by omega)
/-- there is no further row: the block ends with its result x on both stacks -/
theorem rq_next2 {n : Nat} {K A C hA dA oA : Nat → Int32} {H D O : Nat → Nat} (P : rq_Prof n K A C hA dA oA H D O) (h0 : D n = 0) {o t q : Nat} {B r f : Nat → Nat}
    {sx tb rh oc kr kn sy bg ra fd vl sn : Nat → Int32} {top dep : Int32} (S : rq_Pre n K A C H D O o t q B r f sx tb rh oc kr kn sy bg ra fd vl sn top dep) (x y : Int32) :
    rq_Sim n K A C H D O (rq_cl C o + 1) t B r f (upd sx (H o) x) tb rh oc kr kn (upd sy (H o) x) bg (upd ra (D o) y) fd vl sn (nI (H o + 1)) (nI (D o)) := by
  obtain ⟨⟨s1, s2, s3, s4⟩, s5, s6, s7, s8, ⟨R, s9, s10⟩, s11⟩ := S
  obtain ⟨_, g2, g3, g4, g5⟩ := rq_rows P s1 s2
  obtain ⟨c1, c2, ⟨k, q1, q2, q3, q4, q5, q6, q7, q8, q9, q10, q11⟩, c4⟩ := rq_closer P h0 s1 s2
  refine ⟨c2, ?_, rq_chSame s4 q7 q8, by rw [q10, q7]; exact ⟨rfl, rfl⟩, fun j hj => ?_, ?_⟩
  · rw [q7]
    have hp : rq_p B (D o) ≤ o := by
      have := rq_pB P (i := o + 1) s1 (rq_chIn s4 s3 g4 g5) (D o) (by omega)
      rw [s3] at this
      exact this
    have h1 : rq_w (D o + 1) * (q * (rq_cl C o - o)) ≤ rq_w (D o + 1) * (6 * (rq_cl C o - o)) := Nat.mul_le_mul_left _ (Nat.mul_le_mul_right _ s8.2)
    have h2 : rq_w (D o + 1) * (6 * (rq_cl C o - o)) = rq_w (D o) * (rq_cl C o - o) := by rw [rq_w6 (D o) g2, ← Nat.mul_assoc, Nat.mul_comm (rq_w (D o + 1)) 6]
    have h3 : rq_w (D o) * (o + 1 - rq_p B (D o)) + rq_w (D o) * (rq_cl C o - o) = rq_w (D o) * (rq_cl C o + 1 - rq_p B (D o)) := by
      rw [← Nat.mul_add, show o + 1 - rq_p B (D o) + (rq_cl C o - o) = rq_cl C o + 1 - rq_p B (D o) from by omega]
    omega
  · rw [q10] at hj
    by_cases e : j = H o
    · rw [e, pk_us, pk_us]
    · rw [pk_un e, pk_un e]
      exact s6 j (by omega)
  · rw [q7]
    exact rq_loCong s7 (fun b hb => ⟨rfl, rfl, rfl⟩) (fun b hb => ⟨rfl, rfl, rfl, rfl, rfl, pk_un (by omega), rfl, rfl⟩) (fun _ _ => rfl) (fun _ _ => rfl)
/-- what a block comes to -/
theorem rq_outV {kc : Int32} {f b : Nat} {oc kr kn vl sn fd : Nat → Int32} (h : rq_Out kc f b oc kr kn vl sn) (hf : fd b = nI f) (h6 : f ≤ 6) :
    (kc = nI 12 → oc b = fd b) ∧ (kc = nI 13 → ((0 < fd b → oc b = 1) ∧ (¬ 0 < fd b → oc b = 0))) ∧ (¬ kc = nI 12 → ¬ kc = nI 13 → oc b = vl b) := by
  refine ⟨fun z => by rw [h.1 z, hf], fun z => ?_, fun z1 z2 => (h.2.2.1 z1 z2).1⟩
  rw [h.2.1 z, hf, ← nI_0, nI_ltI (by omega) (by omega)]
  refine ⟨fun a => if_neg (by omega), fun a => if_pos (by omega)⟩
/-- a block begins -/
theorem rq_begin {n : Nat} {K A C hA dA oA : Nat → Int32} {H D O : Nat → Nat} {i t : Nat} {B r f : Nat → Nat}
    {sx tb rh oc kr kn sy bg ra fd vl sn : Nat → Int32} {top dep : Int32} (S : rq_Sim n K A C H D O i t B r f sx tb rh oc kr kn sy bg ra fd vl sn top dep) (P : rq_Prof n K A C hA dA oA H D O) (hi : i < n) (hK : K i = nI 10) :
    rq_Pre n K A C H D O i (t + 1) 0 (rq_put B (D i) i) r (rq_put f (D i) 0) sx (upd tb (D i) (A i)) (upd rh (D i) (-1)) (upd oc (D i) 0) (upd kr (D i) 0) kn sy (upd bg (D i) (nI i)) (upd ra (D i) (-1)) (upd fd (D i) 0) (upd vl (D i) 0) sn (nI (H i)) (nI (D i + 1)) := by
  obtain ⟨s1, s2, s3, s4, s5, s6⟩ := S
  obtain ⟨_, g2, g3, g4, g5⟩ := rq_rows P hi hK
  refine ⟨⟨hi, hK, rq_ps, rq_chPush s3⟩, ⟨rfl, rfl⟩, s5, ?_, ⟨by rw [rq_ps]; exact Nat.le_refl _, by omega⟩, ⟨-1, by decide, ?_⟩, ?_⟩
  · exact rq_loCong s6 (fun b hb => ⟨rq_pn (by omega), rfl, rq_pn (by omega)⟩) (fun b hb => ⟨pk_un (by omega), pk_un (by omega), pk_un (by omega), pk_un (by omega), pk_un (by omega), pk_un (by omega), pk_un (by omega), pk_un (by omega)⟩) (fun _ _ => rfl) (fun _ _ => rfl)
  · rw [rq_ps]
    refine ⟨pk_us, pk_us, pk_us, pk_us, pk_us, fun _ => pk_us, fun _ => pk_us, fun _ _ => ⟨pk_us.trans pk_us.symm, pk_us⟩, fun _ => ⟨0, Nat.le_refl _, pk_us, fun x => ⟨fun ⟨j, a, _⟩ => by omega, fun ⟨j, a, _⟩ => by omega⟩⟩⟩
  · obtain ⟨e1, e2⟩ := rq_Econg (c := rq_cl C) (B := B) (r := r) (B' := rq_put B (D i) i) (r' := r) (D i) (fun j hj => ⟨rq_pn (by omega), rfl⟩)
    rw [e1, e2]
    have hp : rq_p B (D i) ≤ i := by
      by_cases z : D i = 0
      · rw [z]; exact Nat.zero_le _
      · obtain ⟨e, he⟩ : ∃ e, D i = e + 1 := ⟨D i - 1, by omega⟩
        have b := ((rq_open P i s1).2.2.1 (by omega)).1
        have c := s3.1 e (by omega)
        rw [he]
        show B e + 1 ≤ i
        omega
    have hw := rq_w1 (D i)
    rw [show i + 1 - rq_p B (D i) = (i - rq_p B (D i)) + 1 from by omega, Nat.mul_add, Nat.mul_one]
    omega
/-- a row is done with, kept (f' = 1 more) or left out: the ahead of the next one; the arrays may have changed at the block alone -/
theorem rq_rowDone {n : Nat} {K A C hA dA oA : Nat → Int32} {H D O : Nat → Nat} {i t : Nat} {B r f : Nat → Nat}
    {sx tb rh oc kr kn sy bg ra fd vl sn : Nat → Int32} {top dep : Int32} (S : rq_Sim n K A C H D O i t B r f sx tb rh oc kr kn sy bg ra fd vl sn top dep) (P : rq_Prof n K A C hA dA oA H D O) (h0 : D n = 0) (hi : i < n) (hD : 0 < D i)
    {g : Nat} (hg : g ≤ f (D (O i)) + 1) {oc' kr' kn' fd' vl' sn' : Nat → Int32}
    (e : ∀ b, b < D (O i) → (oc' b = oc b ∧ kr' b = kr b ∧ fd' b = fd b ∧ vl' b = vl b)) (e5 : ∀ j, j < 6 * D (O i) → kn' j = kn j) (e0 : ∀ j, j < 6 * D (O i) → sn' j = sn j)
    (ef : fd' (D (O i)) = nI g) (eo : rq_Out (K (rq_cl C (O i))) g (D (O i)) oc' kr' kn' vl' sn') :
    rq_Pre n K A C H D O (O i) (t + 1) (r (D (O i)) + 1) B r (rq_put f (D (O i)) g) sx tb rh oc' kr' kn' sy bg ra fd' vl' sn' (nI (H (O i))) (nI (D i)) := by
  obtain ⟨s1, s2, s3, s4, s5, s6⟩ := S
  obtain ⟨a1, a2, a3, a4, a5⟩ := (rq_open P i s1).2.2.1 hD
  obtain ⟨k1, k2⟩ := rq_chOut s3 a3
  obtain ⟨u1, u2, u3⟩ := s6 (D (O i)) (by omega)
  refine ⟨⟨by omega, a2, k2, k1⟩, ⟨rfl, by rw [a3]⟩, fun j hj => s5 j (by omega), ?_, ⟨by rw [rq_ps]; omega, by omega⟩, ⟨nI (r (D (O i))), nI_1 _, ?_⟩, ?_⟩
  · exact rq_loCong (d := D (O i)) (fun b hb => s6 b (by omega)) (fun b hb => ⟨rfl, rfl, rq_pn (by omega)⟩) (fun b hb => ⟨rfl, rfl, (e b hb).1, (e b hb).2.1, rfl, rfl, (e b hb).2.2.1, (e b hb).2.2.2⟩) e5 e0
  · obtain ⟨t1, t2, t3, t4, t5, t6⟩ := u3
    rw [k2] at t1 t2
    rw [rq_ps]
    exact ⟨t1, t2, t3, t4, ef, eo⟩
  · have h3 := rq_inside P h0 s1 hD
    rw [← a3] at s2
    have s2' : t ≤ rq_E (rq_cl C) B r (D (O i)) + rq_w (D (O i)) * (B (D (O i)) + 1 - rq_p B (D (O i))) + rq_w (D (O i) + 1) * (r (D (O i)) * (rq_cl C (B (D (O i))) - B (D (O i)))) + rq_w (D (O i) + 1) * (i - (B (D (O i)) + 1)) := s2
    rw [k2] at s2'
    rw [Nat.add_mul, Nat.one_mul, Nat.mul_add]
    have h4 : rq_w (D (O i) + 1) * (i - (O i + 1)) + rq_w (D (O i) + 1) * 1 ≤ rq_w (D (O i) + 1) * (rq_cl C (O i) - O i) := by
      rw [← Nat.mul_add]
      exact Nat.mul_le_mul_left _ (by omega)
    have hw := rq_w1 (D (O i) + 1)
    omega
/-- a token without a block's business -/
theorem rq_plain {n : Nat} {K A C hA dA oA : Nat → Int32} {H D O : Nat → Nat} {i t : Nat} {B r f : Nat → Nat}
    {sx tb rh oc kr kn sy bg ra fd vl sn : Nat → Int32} {top dep : Int32} (S : rq_Sim n K A C H D O i t B r f sx tb rh oc kr kn sy bg ra fd vl sn top dep) (P : rq_Prof n K A C hA dA oA H D O) (hi : i < n)
    (hD : D (i + 1) = D i) (hO : O (i + 1) = O i) {sx' sy' : Nat → Int32} {top' : Int32} (ht : top' = nI (H (i + 1))) (hs : ∀ j, j < H (i + 1) → sx' j = sy' j) :
    rq_Sim n K A C H D O (i + 1) (t + 1) B r f sx' tb rh oc kr kn sy' bg ra fd vl sn top' dep := by
  obtain ⟨s1, s2, s3, s4, s5, s6⟩ := S
  refine ⟨hi, ?_, rq_chSame s3 hD hO, ⟨ht, by rw [hD]; exact s4.2⟩, hs, by rw [hD]; exact s6⟩
  rw [hD]
  have hp : rq_p B (D i) ≤ i := by
    by_cases z : D i = 0
    · rw [z]; exact Nat.zero_le _
    · obtain ⟨e, he⟩ : ∃ e, D i = e + 1 := ⟨D i - 1, by omega⟩
      have b := ((rq_open P i s1).2.2.1 (by omega)).1
      have c := s3.1 e (by omega)
      rw [he]
      show B e + 1 ≤ i
      omega
  have hw := rq_w1 (D i)
  rw [show i + 1 - rq_p B (D i) = (i - rq_p B (D i)) + 1 from by omega, Nat.mul_add, Nat.mul_one]
  omega
end
section
/-! the ending tokens' mathematics -/
theorem rq_ne {a b : Nat} (h : a ≠ b) (ha : a ≤ 17 := by omega) (hb : b ≤ 17 := by omega) : ¬ nI a = nI b :=
  fun z => h ((nI_eq (by omega) (by omega)).mp z)
theorem rq_outCount {f b : Nat} {oc kr kn vl sn : Nat → Int32} (h : rq_Out (nI 12) f b oc kr kn vl sn) : rq_Out (nI 12) (f + 1) b (upd oc b (oc b + 1)) kr kn vl sn :=
  ⟨fun _ => by rw [pk_us, h.1 rfl, nI_1], fun z => absurd z (rq_ne (by omega)), fun z _ => absurd rfl z, fun z => absurd z (rq_ne (by omega))⟩
theorem rq_outAny {f b : Nat} {oc kr kn vl sn : Nat → Int32} : rq_Out (nI 13) (f + 1) b (upd oc b 1) kr kn vl sn :=
  ⟨fun z => absurd z (rq_ne (by omega)), fun _ => by rw [pk_us, if_neg (by omega)], fun _ z => absurd rfl z, fun z => absurd z (rq_ne (by omega))⟩
theorem rq_outNum {k f b : Nat} (h1 : 14 ≤ k) (h2 : k ≤ 16) {x : Int32} {oc kr kn vl sn : Nat → Int32} : rq_Out (nI k) (f + 1) b (upd oc b x) (upd kr b (nI (f + 1))) kn (upd vl b x) sn :=
  ⟨fun z => absurd z (rq_ne (by omega)), fun z => absurd z (rq_ne (by omega)), fun _ _ => ⟨pk_us.trans pk_us.symm, pk_us⟩, fun z => absurd z (rq_ne (by omega))⟩
/-- KINDS: a number that was kept before -/
theorem rq_outOld {f b : Nat} {oc kr kn vl sn : Nat → Int32} (h : rq_Out (nI 17) f b oc kr kn vl sn) {x : Int32} (hx : ∃ j, j < f ∧ kn (6 * b + j) = x) :
    rq_Out (nI 17) (f + 1) b oc (upd kr b (nI (f + 1))) (upd kn (6 * b + f) x) vl sn := by
  refine ⟨fun z => absurd z (rq_ne (by omega)), fun z => absurd z (rq_ne (by omega)), fun _ _ => ⟨(h.2.2.1 (rq_ne (by omega)) (rq_ne (by omega))).1, pk_us⟩, fun z => ?_⟩
  obtain ⟨m, m1, m2, m3⟩ := h.2.2.2 rfl
  refine ⟨m, by omega, m2, fun y => ?_⟩
  rw [← m3 y]
  constructor
  · intro ⟨j, j1, j2⟩
    by_cases e : j = f
    · rw [e, pk_us] at j2
      rw [← j2]
      exact hx
    · rw [pk_un (by omega)] at j2
      exact ⟨j, by omega, j2⟩
  · intro ⟨j, j1, j2⟩
    exact ⟨j, by omega, by rw [pk_un (by omega)]; exact j2⟩
/-- KINDS: a new number -/
theorem rq_outNew {f b m : Nat} {oc kr kn vl sn : Nat → Int32} {x : Int32} (m1 : m ≤ f) (m3 : ∀ y, (∃ j, j < f ∧ kn (6 * b + j) = y) ↔ (∃ j, j < m ∧ sn (6 * b + j) = y)) :
    rq_Out (nI 17) (f + 1) b (upd oc b (nI (m + 1))) (upd kr b (nI (f + 1))) (upd kn (6 * b + f) x) (upd vl b (nI (m + 1))) (upd sn (6 * b + m) x) := by
  refine ⟨fun z => absurd z (rq_ne (by omega)), fun z => absurd z (rq_ne (by omega)), fun _ _ => ⟨pk_us.trans pk_us.symm, pk_us⟩, fun z => ?_⟩
  refine ⟨m + 1, by omega, pk_us, fun y => ?_⟩
  constructor
  · intro ⟨j, j1, j2⟩
    by_cases e : j = f
    · rw [e, pk_us] at j2
      exact ⟨m, by omega, by rw [pk_us]; exact j2⟩
    · rw [pk_un (by omega)] at j2
      obtain ⟨i, i1, i2⟩ := (m3 y).mp ⟨j, by omega, j2⟩
      exact ⟨i, by omega, by rw [pk_un (by omega)]; exact i2⟩
  · intro ⟨j, j1, j2⟩
    by_cases e : j = m
    · rw [e, pk_us] at j2
      exact ⟨f, by omega, by rw [pk_us]; exact j2⟩
    · rw [pk_un (by omega)] at j2
      obtain ⟨i, i1, i2⟩ := (m3 y).mpr ⟨j, by omega, j2⟩
      exact ⟨i, by omega, by rw [pk_un (by omega)]; exact i2⟩
end
section
/-! numbers: what simp may use, with omega for the side conditions -/
theorem rq_c0 : (0 : Int32) = nI 0 := rfl
theorem rq_c1 : (1 : Int32) = nI 1 := rfl
theorem rq_c2 : (2 : Int32) = nI 2 := rfl
theorem rq_c3 : (3 : Int32) = nI 3 := rfl
theorem rq_c6 : (6 : Int32) = nI 6 := rfl
theorem rq_c7 : (7 : Int32) = nI 7 := rfl
theorem rq_c8 : (8 : Int32) = nI 8 := rfl
theorem rq_c9 : (9 : Int32) = nI 9 := rfl
theorem rq_c10 : (10 : Int32) = nI 10 := rfl
theorem rq_c11 : (11 : Int32) = nI 11 := rfl
theorem rq_c12 : (12 : Int32) = nI 12 := rfl
theorem rq_c13 : (13 : Int32) = nI 13 := rfl
theorem rq_c14 : (14 : Int32) = nI 14 := rfl
theorem rq_c15 : (15 : Int32) = nI 15 := rfl
theorem rq_c16 : (16 : Int32) = nI 16 := rfl
theorem rq_c17 : (17 : Int32) = nI 17 := rfl
theorem rq_c18 : (18 : Int32) = nI 18 := rfl
theorem rq_c48 : (48 : Int32) = nI 48 := rfl
theorem rq_c99 : (99 : Int32) = nI 99 := rfl
theorem rq_c10368 : (10368 : Int32) = nI 10368 := rfl
theorem rq_c30000 : (30000 : Int32) = nI 30000 := rfl
theorem rq_eqT {a b : Nat} (h : a = b) : (nI a = nI b) = True := by rw [h]; exact eq_self _
theorem rq_eqF {a b : Nat} (h : a ≠ b) (ha : a < 2 ^ 31) (hb : b < 2 ^ 31) : (nI a = nI b) = False := by rw [nI_eq ha hb]; exact eq_false h
theorem rq_leT {a b : Nat} (h : a ≤ b) (hb : b < 2 ^ 31) : (nI a ≤ nI b) = True := eq_true (nI_le h hb)
theorem rq_leF {a b : Nat} (h : b < a) (ha : a < 2 ^ 31) : (nI a ≤ nI b) = False := eq_false (nI_ge h ha)
theorem rq_ltT {a b : Nat} (h : a < b) (hb : b < 2 ^ 31) : (nI a < nI b) = True := eq_true (nI_lt h hb)
theorem rq_ltF {a b : Nat} (h : b ≤ a) (ha : a < 2 ^ 31) : (nI a < nI b) = False := eq_false (nI_nlt h ha)
theorem rq_neg {a : Nat} (ha : a < 2 ^ 31) : (nI a = -nI 1) = False := by
  refine eq_false fun e => ?_
  have h := nI_pos ha
  rw [e] at h
  exact h (by decide)
theorem rq_ix (a r c : Nat) : (a * 6 + r) * 3 + c = 18 * a + 3 * r + c := by omega
theorem rq_ix0 (a r : Nat) : (a * 6 + r) * 3 + 0 = 18 * a + 3 * r := by omega
theorem rq_6 (b j : Nat) : b * 6 + j = 6 * b + j := by omega
end
section
/-! the component's walks while a program is worked out -/
def rq_mx (f : Nat) (x v : Int32) : Int32 := if f = 0 then x else if x ≤ v then v else x
def rq_mn (f : Nat) (x v : Int32) : Int32 := if f = 0 then x else if v ≤ x then v else x
def rq_jn (k : Nat) (n m : Int32) : Int32 :=
  if k = 2 then n + m else if k = 3 then n - m else if k = 4 then n * m else if k = 5 then (if m ≤ n then 0 else 1) else if k = 6 then (if n = m then 1 else 0)
  else if k = 7 then (if n = 0 then 0 else if m = 0 then 0 else 1) else (if n = 0 then (if m = 0 then 0 else 1) else 1)
section
variable {tc aT aR : Int32} {ce sz K A hA dA oA C sx tb rh oc kr kn tm : Nat → Int32}
theorem rq_xNextA {post : Int32 → SX → Prop} {o d a s q : Nat} (ho : o < 48) (hd : d < 3) (ha : a < 3) (hs : sz a = nI s) (h6 : s ≤ 6) (h : q < s)
    (hp : post (nI (o + 1)) (tc, aT, aR, ce, sz, K, A, hA, dA, oA, C, sx, tb, upd rh d (nI q), oc, kr, kn, tm)) : wX_goToNextRow_44 post (nI o) (nI d) (nI a) (nI q) tc aT aR ce sz K A hA dA oA C sx tb rh oc kr kn tm := by
  unfold wX_goToNextRow_44
  simp (disch := omega) only [forall_eq, vp_in_nI, nI_clamp, rq_c0, rq_c1, rq_c2, rq_c3, rq_c6, rq_c7, rq_c8, rq_c9, rq_c10, rq_c11, rq_c12, rq_c13, rq_c14, rq_c15, rq_c16, rq_c17, rq_c18, rq_c48, rq_c99, rq_c10368, rq_c30000, rq_eqT, rq_eqF, rq_leT, rq_leF, rq_ltT, rq_ltF, rq_neg, nI_add, pk_mul, pk_sub, pk_div, true_and, and_true, true_implies, false_implies, implies_true, not_true_eq_false, not_false_eq_true, pk_us, Nat.add_sub_cancel, eq_self, hs]
  exact hp
theorem rq_xNextB {post : Int32 → SX → Prop} {o d a s q c h : Nat} (ho : o < 48) (hd : d < 3) (ha : a < 3) (hs : sz a = nI s) (h6 : s ≤ 6) (hq : s ≤ q) (hq7 : q ≤ 7) (hH : hA o = nI h) (h5 : h ≤ 5) (hC : C o = nI c)
    (hp : post (nI (c + 1)) (tc, aT, aR, ce, sz, K, A, hA, dA, oA, C, upd sx h (oc d), tb, rh, oc, kr, kn, tm)) : wX_goToNextRow_44 post (nI o) (nI d) (nI a) (nI q) tc aT aR ce sz K A hA dA oA C sx tb rh oc kr kn tm := by
  unfold wX_goToNextRow_44
  simp (disch := omega) only [forall_eq, vp_in_nI, nI_clamp, rq_c0, rq_c1, rq_c2, rq_c3, rq_c6, rq_c7, rq_c8, rq_c9, rq_c10, rq_c11, rq_c12, rq_c13, rq_c14, rq_c15, rq_c16, rq_c17, rq_c18, rq_c48, rq_c99, rq_c10368, rq_c30000, rq_eqT, rq_eqF, rq_leT, rq_leF, rq_ltT, rq_ltF, rq_neg, nI_add, pk_mul, pk_sub, pk_div, true_and, and_true, true_implies, false_implies, implies_true, not_true_eq_false, not_false_eq_true, pk_us, Nat.add_sub_cancel, eq_self, hs, hH, hC]
  exact hp
theorem rq_xGo {post : Int32 → SX → Prop} {o d a q q' : Nat} (ho : o < 48) (hd : d < 3) (hD : dA o = nI d) (ht : tb d = nI a) (hr : rh d + 1 = nI q)
    (hq : (nI a = aT ∧ nI q = aR ∧ q' = q + 1) ∨ (¬ (nI a = aT ∧ nI q = aR) ∧ q' = q)) (hp : wX_goToNextRow_44 post (nI o) (nI d) (nI a) (nI q') tc aT aR ce sz K A hA dA oA C sx tb rh oc kr kn tm) : wpX_goToNextRow post (tc, aT, aR, ce, sz, K, A, hA, dA, oA, C, sx, tb, rh, oc, kr, kn, tm) (nI o) := by
  rw [rq_c1] at hr
  unfold wpX_goToNextRow
  simp (disch := omega) only [forall_eq, vp_in_nI, nI_clamp, rq_c0, rq_c1, rq_c2, rq_c3, rq_c6, rq_c7, rq_c8, rq_c9, rq_c10, rq_c11, rq_c12, rq_c13, rq_c14, rq_c15, rq_c16, rq_c17, rq_c18, rq_c48, rq_c99, rq_c10368, rq_c30000, rq_eqT, rq_eqF, rq_leT, rq_leF, rq_ltT, rq_ltF, rq_neg, nI_add, pk_mul, pk_sub, pk_div, true_and, and_true, true_implies, false_implies, implies_true, not_true_eq_false, not_false_eq_true, pk_us, Nat.add_sub_cancel, eq_self, hD, ht, hr]
  rcases hq with ⟨e1, e2, rfl⟩ | ⟨e, rfl⟩
  · exact ⟨fun _ => ⟨fun _ => hp, fun z => absurd e2 z⟩, fun z => absurd e1 z⟩
  · exact ⟨fun z1 => ⟨fun z2 => absurd ⟨z1, z2⟩ e, fun _ => hp⟩, fun _ => hp⟩
theorem rq_xBegin {post : SX → Prop} {o d : Nat} (ho : o < 48) (hd : d < 3) (hD : dA o = nI d)
    (hp : post (tc, aT, aR, ce, sz, K, A, hA, dA, oA, C, sx, upd tb d (A o), upd rh d (-1), upd oc d 0, upd kr d 0, kn, tm)) : wpX_beginBlock post (tc, aT, aR, ce, sz, K, A, hA, dA, oA, C, sx, tb, rh, oc, kr, kn, tm) (nI o) := by
  unfold wpX_beginBlock
  simp (disch := omega) only [forall_eq, vp_in_nI, nI_clamp, rq_c0, rq_c1, rq_c2, rq_c3, rq_c6, rq_c7, rq_c8, rq_c9, rq_c10, rq_c11, rq_c12, rq_c13, rq_c14, rq_c15, rq_c16, rq_c17, rq_c18, rq_c48, rq_c99, rq_c10368, rq_c30000, rq_eqT, rq_eqF, rq_leT, rq_leF, rq_ltT, rq_ltF, rq_neg, nI_add, pk_mul, pk_sub, pk_div, true_and, and_true, true_implies, false_implies, implies_true, not_true_eq_false, not_false_eq_true, pk_us, Nat.add_sub_cancel, eq_self, hD]
  exact hp
theorem rq_xKeep12 {post : SX → Prop} {i d : Nat} (hi : i < 48) (hd : d < 3) (hD : dA i = nI (d + 1)) (hK : K i = nI 12) (hp : post (tc, aT, aR, ce, sz, K, A, hA, dA, oA, C, sx, tb, rh, upd oc d (oc d + 1), kr, kn, tm)) : wpX_keepRow post (tc, aT, aR, ce, sz, K, A, hA, dA, oA, C, sx, tb, rh, oc, kr, kn, tm) (nI i) := by
  unfold wpX_keepRow
  simp (disch := omega) only [forall_eq, vp_in_nI, nI_clamp, rq_c0, rq_c1, rq_c2, rq_c3, rq_c6, rq_c7, rq_c8, rq_c9, rq_c10, rq_c11, rq_c12, rq_c13, rq_c14, rq_c15, rq_c16, rq_c17, rq_c18, rq_c48, rq_c99, rq_c10368, rq_c30000, rq_eqT, rq_eqF, rq_leT, rq_leF, rq_ltT, rq_ltF, rq_neg, nI_add, pk_mul, pk_sub, pk_div, true_and, and_true, true_implies, false_implies, implies_true, not_true_eq_false, not_false_eq_true, pk_us, Nat.add_sub_cancel, eq_self, hD, hK]
  exact hp
theorem rq_xKeep13 {post : SX → Prop} {i d : Nat} (hi : i < 48) (hd : d < 3) (hD : dA i = nI (d + 1)) (hK : K i = nI 13) (hp : post (tc, aT, aR, ce, sz, K, A, hA, dA, oA, C, sx, tb, rh, upd oc d 1, kr, kn, tm)) : wpX_keepRow post (tc, aT, aR, ce, sz, K, A, hA, dA, oA, C, sx, tb, rh, oc, kr, kn, tm) (nI i) := by
  unfold wpX_keepRow
  simp (disch := omega) only [forall_eq, vp_in_nI, nI_clamp, rq_c0, rq_c1, rq_c2, rq_c3, rq_c6, rq_c7, rq_c8, rq_c9, rq_c10, rq_c11, rq_c12, rq_c13, rq_c14, rq_c15, rq_c16, rq_c17, rq_c18, rq_c48, rq_c99, rq_c10368, rq_c30000, rq_eqT, rq_eqF, rq_leT, rq_leF, rq_ltT, rq_ltF, rq_neg, nI_add, pk_mul, pk_sub, pk_div, true_and, and_true, true_implies, false_implies, implies_true, not_true_eq_false, not_false_eq_true, pk_us, Nat.add_sub_cancel, eq_self, hD, hK]
  exact hp
theorem rq_xKeepN {post : SX → Prop} {i d k h : Nat} (hi : i < 48) (hd : d < 3) (hD : dA i = nI (d + 1)) (hK : K i = nI k) (h14 : 14 ≤ k) (h17 : k ≤ 17) (hH : hA i = nI (h + 1)) (h5 : h ≤ 5) {T : SX}
    (hw : ∀ p : SX → Prop, p T → wpX_keepNumber p (tc, aT, aR, ce, sz, K, A, hA, dA, oA, C, sx, tb, rh, oc, kr, kn, tm) (nI k) (nI d) (sx h)) (hp : post T) : wpX_keepRow post (tc, aT, aR, ce, sz, K, A, hA, dA, oA, C, sx, tb, rh, oc, kr, kn, tm) (nI i) := by
  unfold wpX_keepRow
  simp (disch := omega) only [forall_eq, vp_in_nI, nI_clamp, rq_c0, rq_c1, rq_c2, rq_c3, rq_c6, rq_c7, rq_c8, rq_c9, rq_c10, rq_c11, rq_c12, rq_c13, rq_c14, rq_c15, rq_c16, rq_c17, rq_c18, rq_c48, rq_c99, rq_c10368, rq_c30000, rq_eqT, rq_eqF, rq_leT, rq_leF, rq_ltT, rq_ltF, rq_neg, nI_add, pk_mul, pk_sub, pk_div, true_and, and_true, true_implies, false_implies, implies_true, not_true_eq_false, not_false_eq_true, pk_us, Nat.add_sub_cancel, eq_self, hD, hK, hH]
  exact hw _ hp
theorem rq_x134 {post : SX → Prop} {d f : Nat} {x : Int32} (hd : d < 3) (hf : f ≤ 5) (hk : kr d = nI f) (hp : post (tc, aT, aR, ce, sz, K, A, hA, dA, oA, C, sx, tb, rh, oc, upd kr d (nI (f + 1)), upd kn (6 * d + f) x, tm)) :
    wX_keepNumber_134 post (nI d) x tc aT aR ce sz K A hA dA oA C sx tb rh oc kr kn tm := by
  unfold wX_keepNumber_134
  simp (disch := omega) only [forall_eq, vp_in_nI, nI_clamp, rq_c0, rq_c1, rq_c2, rq_c3, rq_c6, rq_c7, rq_c8, rq_c9, rq_c10, rq_c11, rq_c12, rq_c13, rq_c14, rq_c15, rq_c16, rq_c17, rq_c18, rq_c48, rq_c99, rq_c10368, rq_c30000, rq_eqT, rq_eqF, rq_leT, rq_leF, rq_ltT, rq_ltF, rq_neg, nI_add, pk_mul, pk_sub, pk_div, true_and, and_true, true_implies, false_implies, implies_true, not_true_eq_false, not_false_eq_true, pk_us, Nat.add_sub_cancel, eq_self, hk, rq_6]
  exact hp
theorem rq_xKN14 {post : SX → Prop} {d f : Nat} {x : Int32} (hd : d < 3) (hf : f ≤ 5) (hk : kr d = nI f) (hp : post (tc, aT, aR, ce, sz, K, A, hA, dA, oA, C, sx, tb, rh, upd oc d (oc d + x), upd kr d (nI (f + 1)), upd kn (6 * d + f) x, tm)) :
    wpX_keepNumber post (tc, aT, aR, ce, sz, K, A, hA, dA, oA, C, sx, tb, rh, oc, kr, kn, tm) (nI 14) (nI d) x := by
  have H : ∀ z, wX_keepNumber_14 post (nI 14) (nI d) x z tc aT aR ce sz K A hA dA oA C sx tb rh oc kr kn tm := fun z => by
    unfold wX_keepNumber_14
    simp (disch := omega) only [forall_eq, vp_in_nI, nI_clamp, rq_c0, rq_c1, rq_c2, rq_c3, rq_c6, rq_c7, rq_c8, rq_c9, rq_c10, rq_c11, rq_c12, rq_c13, rq_c14, rq_c15, rq_c16, rq_c17, rq_c18, rq_c48, rq_c99, rq_c10368, rq_c30000, rq_eqT, rq_eqF, rq_leT, rq_leF, rq_ltT, rq_ltF, rq_neg, nI_add, pk_mul, pk_sub, pk_div, true_and, and_true, true_implies, false_implies, implies_true, not_true_eq_false, not_false_eq_true, pk_us, Nat.add_sub_cancel, eq_self]
    exact rq_x134 hd hf hk hp
  exact And.intro (vp_in_nI hd (by omega)) (And.intro (fun _ => H 1) (fun _ => H 0))
theorem rq_xKN15 {post : SX → Prop} {d f : Nat} {x : Int32} (hd : d < 3) (hf : f ≤ 5) (hk : kr d = nI f) (hp : post (tc, aT, aR, ce, sz, K, A, hA, dA, oA, C, sx, tb, rh, upd oc d (rq_mx f x (oc d)), upd kr d (nI (f + 1)), upd kn (6 * d + f) x, tm)) :
    wpX_keepNumber post (tc, aT, aR, ce, sz, K, A, hA, dA, oA, C, sx, tb, rh, oc, kr, kn, tm) (nI 15) (nI d) x := by
  unfold wpX_keepNumber wX_keepNumber_14 wX_keepNumber_61 wX_keepNumber_71
  by_cases z : f = 0
  · simp (disch := omega) only [forall_eq, vp_in_nI, nI_clamp, rq_c0, rq_c1, rq_c2, rq_c3, rq_c6, rq_c7, rq_c8, rq_c9, rq_c10, rq_c11, rq_c12, rq_c13, rq_c14, rq_c15, rq_c16, rq_c17, rq_c18, rq_c48, rq_c99, rq_c10368, rq_c30000, rq_eqT, rq_eqF, rq_leT, rq_leF, rq_ltT, rq_ltF, rq_neg, nI_add, pk_mul, pk_sub, pk_div, true_and, and_true, true_implies, false_implies, implies_true, not_true_eq_false, not_false_eq_true, pk_us, Nat.add_sub_cancel, eq_self, hk]
    refine rq_x134 hd hf hk ?_
    rw [rq_mx, if_pos z] at hp
    exact hp
  · by_cases c : x ≤ oc d
    · simp (disch := omega) only [forall_eq, vp_in_nI, nI_clamp, rq_c0, rq_c1, rq_c2, rq_c3, rq_c6, rq_c7, rq_c8, rq_c9, rq_c10, rq_c11, rq_c12, rq_c13, rq_c14, rq_c15, rq_c16, rq_c17, rq_c18, rq_c48, rq_c99, rq_c10368, rq_c30000, rq_eqT, rq_eqF, rq_leT, rq_leF, rq_ltT, rq_ltF, rq_neg, nI_add, pk_mul, pk_sub, pk_div, true_and, and_true, true_implies, false_implies, implies_true, not_true_eq_false, not_false_eq_true, pk_us, Nat.add_sub_cancel, eq_self, hk, c]
      refine rq_x134 hd hf hk ?_
      rw [rq_mx, if_neg z, if_pos c] at hp
      exact hp
    · simp (disch := omega) only [forall_eq, vp_in_nI, nI_clamp, rq_c0, rq_c1, rq_c2, rq_c3, rq_c6, rq_c7, rq_c8, rq_c9, rq_c10, rq_c11, rq_c12, rq_c13, rq_c14, rq_c15, rq_c16, rq_c17, rq_c18, rq_c48, rq_c99, rq_c10368, rq_c30000, rq_eqT, rq_eqF, rq_leT, rq_leF, rq_ltT, rq_ltF, rq_neg, nI_add, pk_mul, pk_sub, pk_div, true_and, and_true, true_implies, false_implies, implies_true, not_true_eq_false, not_false_eq_true, pk_us, Nat.add_sub_cancel, eq_self, hk, c]
      refine rq_x134 hd hf hk ?_
      rw [rq_mx, if_neg z, if_neg c] at hp
      exact hp
theorem rq_xKN16 {post : SX → Prop} {d f : Nat} {x : Int32} (hd : d < 3) (hf : f ≤ 5) (hk : kr d = nI f) (hp : post (tc, aT, aR, ce, sz, K, A, hA, dA, oA, C, sx, tb, rh, upd oc d (rq_mn f x (oc d)), upd kr d (nI (f + 1)), upd kn (6 * d + f) x, tm)) :
    wpX_keepNumber post (tc, aT, aR, ce, sz, K, A, hA, dA, oA, C, sx, tb, rh, oc, kr, kn, tm) (nI 16) (nI d) x := by
  unfold wpX_keepNumber wX_keepNumber_14 wX_keepNumber_101 wX_keepNumber_111
  by_cases z : f = 0
  · simp (disch := omega) only [forall_eq, vp_in_nI, nI_clamp, rq_c0, rq_c1, rq_c2, rq_c3, rq_c6, rq_c7, rq_c8, rq_c9, rq_c10, rq_c11, rq_c12, rq_c13, rq_c14, rq_c15, rq_c16, rq_c17, rq_c18, rq_c48, rq_c99, rq_c10368, rq_c30000, rq_eqT, rq_eqF, rq_leT, rq_leF, rq_ltT, rq_ltF, rq_neg, nI_add, pk_mul, pk_sub, pk_div, true_and, and_true, true_implies, false_implies, implies_true, not_true_eq_false, not_false_eq_true, pk_us, Nat.add_sub_cancel, eq_self, hk]
    refine rq_x134 hd hf hk ?_
    rw [rq_mn, if_pos z] at hp
    exact hp
  · by_cases c : oc d ≤ x
    · simp (disch := omega) only [forall_eq, vp_in_nI, nI_clamp, rq_c0, rq_c1, rq_c2, rq_c3, rq_c6, rq_c7, rq_c8, rq_c9, rq_c10, rq_c11, rq_c12, rq_c13, rq_c14, rq_c15, rq_c16, rq_c17, rq_c18, rq_c48, rq_c99, rq_c10368, rq_c30000, rq_eqT, rq_eqF, rq_leT, rq_leF, rq_ltT, rq_ltF, rq_neg, nI_add, pk_mul, pk_sub, pk_div, true_and, and_true, true_implies, false_implies, implies_true, not_true_eq_false, not_false_eq_true, pk_us, Nat.add_sub_cancel, eq_self, hk, c]
      refine rq_x134 hd hf hk ?_
      rw [rq_mn, if_neg z, if_pos c] at hp
      exact hp
    · simp (disch := omega) only [forall_eq, vp_in_nI, nI_clamp, rq_c0, rq_c1, rq_c2, rq_c3, rq_c6, rq_c7, rq_c8, rq_c9, rq_c10, rq_c11, rq_c12, rq_c13, rq_c14, rq_c15, rq_c16, rq_c17, rq_c18, rq_c48, rq_c99, rq_c10368, rq_c30000, rq_eqT, rq_eqF, rq_leT, rq_leF, rq_ltT, rq_ltF, rq_neg, nI_add, pk_mul, pk_sub, pk_div, true_and, and_true, true_implies, false_implies, implies_true, not_true_eq_false, not_false_eq_true, pk_us, Nat.add_sub_cancel, eq_self, hk, c]
      refine rq_x134 hd hf hk ?_
      rw [rq_mn, if_neg z, if_neg c] at hp
      exact hp
theorem rq_xKept2 {post : Int32 → Prop} {d f : Nat} {x : Int32} (hd : d < 3) (hf : f ≤ 5) (hk : kr d = nI f) (h1 : (∃ j, j < f ∧ kn (6 * d + j) = x) → post 1) (h0 : (¬ ∃ j, j < f ∧ kn (6 * d + j) = x) → post 0) :
    ∀ m j, j + m = f → (∀ i, i < j → ¬ kn (6 * d + i) = x) → wX_isKept_2 post (nI d) x tc aT aR ce sz K A hA dA oA C sx tb rh oc kr kn tm (m + 1) (nI j) := by
  intro m
  induction m with
  | zero =>
    intro j hj hi
    rw [wX_isKept_2]
    simp (disch := omega) only [forall_eq, vp_in_nI, nI_clamp, rq_c0, rq_c1, rq_c2, rq_c3, rq_c6, rq_c7, rq_c8, rq_c9, rq_c10, rq_c11, rq_c12, rq_c13, rq_c14, rq_c15, rq_c16, rq_c17, rq_c18, rq_c48, rq_c99, rq_c10368, rq_c30000, rq_eqT, rq_eqF, rq_leT, rq_leF, rq_ltT, rq_ltF, rq_neg, nI_add, pk_mul, pk_sub, pk_div, true_and, and_true, true_implies, false_implies, implies_true, not_true_eq_false, not_false_eq_true, pk_us, Nat.add_sub_cancel, eq_self, hk]
    exact h0 fun ⟨i, i1, i2⟩ => hi i (by omega) i2
  | succ m ih =>
    intro j hj hi
    rw [wX_isKept_2]
    simp (disch := omega) only [forall_eq, vp_in_nI, nI_clamp, rq_c0, rq_c1, rq_c2, rq_c3, rq_c6, rq_c7, rq_c8, rq_c9, rq_c10, rq_c11, rq_c12, rq_c13, rq_c14, rq_c15, rq_c16, rq_c17, rq_c18, rq_c48, rq_c99, rq_c10368, rq_c30000, rq_eqT, rq_eqF, rq_leT, rq_leF, rq_ltT, rq_ltF, rq_neg, nI_add, pk_mul, pk_sub, pk_div, true_and, and_true, true_implies, false_implies, implies_true, not_true_eq_false, not_false_eq_true, pk_us, Nat.add_sub_cancel, eq_self, hk, rq_6]
    refine ⟨fun z => h1 ⟨j, by omega, z⟩, fun z => ih (j + 1) (by omega) fun i hi2 => ?_⟩
    by_cases e : i = j
    · rw [e]; exact z
    · exact hi i (by omega)
theorem rq_xKept {post : Int32 → Prop} {d f : Nat} {x : Int32} (hd : d < 3) (hf : f ≤ 5) (hk : kr d = nI f) (h1 : (∃ j, j < f ∧ kn (6 * d + j) = x) → post 1) (h0 : (¬ ∃ j, j < f ∧ kn (6 * d + j) = x) → post 0) :
    wpX_isKept post (tc, aT, aR, ce, sz, K, A, hA, dA, oA, C, sx, tb, rh, oc, kr, kn, tm) (nI d) x :=
  Exists.intro (f + 1) (rq_xKept2 hd hf hk h1 h0 f 0 (by omega) (fun i hi => by omega))
theorem rq_xKN17a {post : SX → Prop} {d f : Nat} {x : Int32} (hd : d < 3) (hf : f ≤ 5) (hk : kr d = nI f) (hx : ∃ j, j < f ∧ kn (6 * d + j) = x) (hp : post (tc, aT, aR, ce, sz, K, A, hA, dA, oA, C, sx, tb, rh, oc, upd kr d (nI (f + 1)), upd kn (6 * d + f) x, tm)) :
    wpX_keepNumber post (tc, aT, aR, ce, sz, K, A, hA, dA, oA, C, sx, tb, rh, oc, kr, kn, tm) (nI 17) (nI d) x := by
  have H : ∀ z, wX_keepNumber_14 post (nI 17) (nI d) x z tc aT aR ce sz K A hA dA oA C sx tb rh oc kr kn tm := fun z => by
    unfold wX_keepNumber_14
    simp (disch := omega) only [forall_eq, vp_in_nI, nI_clamp, rq_c0, rq_c1, rq_c2, rq_c3, rq_c6, rq_c7, rq_c8, rq_c9, rq_c10, rq_c11, rq_c12, rq_c13, rq_c14, rq_c15, rq_c16, rq_c17, rq_c18, rq_c48, rq_c99, rq_c10368, rq_c30000, rq_eqT, rq_eqF, rq_leT, rq_leF, rq_ltT, rq_ltF, rq_neg, nI_add, pk_mul, pk_sub, pk_div, true_and, and_true, true_implies, false_implies, implies_true, not_true_eq_false, not_false_eq_true, pk_us, Nat.add_sub_cancel, eq_self]
    refine rq_xKept hd hf hk (fun _ => ?_) (fun z => absurd hx z)
    exact And.intro (fun z => absurd z (by decide)) (fun _ => rq_x134 hd hf hk hp)
  exact And.intro (vp_in_nI hd (by omega)) (And.intro (fun _ => H 1) (fun _ => H 0))
theorem rq_xKN17b {post : SX → Prop} {d f : Nat} {x : Int32} (hd : d < 3) (hf : f ≤ 5) (hk : kr d = nI f) (hx : ¬ ∃ j, j < f ∧ kn (6 * d + j) = x) (hp : post (tc, aT, aR, ce, sz, K, A, hA, dA, oA, C, sx, tb, rh, upd oc d (oc d + 1), upd kr d (nI (f + 1)), upd kn (6 * d + f) x, tm)) :
    wpX_keepNumber post (tc, aT, aR, ce, sz, K, A, hA, dA, oA, C, sx, tb, rh, oc, kr, kn, tm) (nI 17) (nI d) x := by
  have H : ∀ z, wX_keepNumber_14 post (nI 17) (nI d) x z tc aT aR ce sz K A hA dA oA C sx tb rh oc kr kn tm := fun z => by
    unfold wX_keepNumber_14
    simp (disch := omega) only [forall_eq, vp_in_nI, nI_clamp, rq_c0, rq_c1, rq_c2, rq_c3, rq_c6, rq_c7, rq_c8, rq_c9, rq_c10, rq_c11, rq_c12, rq_c13, rq_c14, rq_c15, rq_c16, rq_c17, rq_c18, rq_c48, rq_c99, rq_c10368, rq_c30000, rq_eqT, rq_eqF, rq_leT, rq_leF, rq_ltT, rq_ltF, rq_neg, nI_add, pk_mul, pk_sub, pk_div, true_and, and_true, true_implies, false_implies, implies_true, not_true_eq_false, not_false_eq_true, pk_us, Nat.add_sub_cancel, eq_self]
    refine rq_xKept hd hf hk (fun z => absurd z hx) (fun _ => ?_)
    exact And.intro (fun _ => rq_x134 hd hf hk hp) (fun z => absurd rfl z)
  exact And.intro (vp_in_nI hd (by omega)) (And.intro (fun _ => H 1) (fun _ => H 0))
theorem rq_xCell {post : Int32 → Prop} {a t r : Nat} (ha : a < 9) (hb : tb (a / 3) = nI t) (hr : rh (a / 3) = nI r) (ht : t < 3) (h5 : r ≤ 5) (hp : post (ce (18 * t + 3 * r + (a - a / 3 * 3)))) : wpX_cellAtHand post (tc, aT, aR, ce, sz, K, A, hA, dA, oA, C, sx, tb, rh, oc, kr, kn, tm) (nI a) := by
  unfold wpX_cellAtHand wpX_cellIndex
  simp (disch := omega) only [forall_eq, vp_in_nI, nI_clamp, rq_c0, rq_c1, rq_c2, rq_c3, rq_c6, rq_c7, rq_c8, rq_c9, rq_c10, rq_c11, rq_c12, rq_c13, rq_c14, rq_c15, rq_c16, rq_c17, rq_c18, rq_c48, rq_c99, rq_c10368, rq_c30000, rq_eqT, rq_eqF, rq_leT, rq_leF, rq_ltT, rq_ltF, rq_neg, nI_add, pk_mul, pk_sub, pk_div, true_and, and_true, true_implies, false_implies, implies_true, not_true_eq_false, not_false_eq_true, pk_us, Nat.add_sub_cancel, eq_self, hb, hr, rq_ix]
  exact hp
theorem rq_xComb {post : Int32 → Prop} {k : Nat} {n m : Int32} (h2 : 2 ≤ k) (h8 : k ≤ 8) (hp : post (rq_jn k n m)) : wpX_combine post (nI k) n m := by
  have hk : k = 2 ∨ k = 3 ∨ k = 4 ∨ k = 5 ∨ k = 6 ∨ k = 7 ∨ k = 8 := by omega
  unfold wpX_combine
  rcases hk with rfl | rfl | rfl | rfl | rfl | rfl | rfl
  · exact br_f (by decide) (br_f (by decide) (br_t rfl hp))
  · exact br_f (by decide) (br_f (by decide) (br_f (by decide) (br_t rfl hp)))
  · exact br_f (by decide) (br_f (by decide) (br_f (by decide) (br_f (by decide) (br_t rfl hp))))
  · have e : rq_jn 5 n m = if m ≤ n then 0 else 1 := rfl
    rw [e] at hp
    exact br_f (by decide) (br_f (by decide) (br_f (by decide) (br_f (by decide) (br_f (by decide) (br_t rfl (br_c (fun z => by rw [if_pos z] at hp; exact hp) (fun z => by rw [if_neg z] at hp; exact hp)))))))
  · have e : rq_jn 6 n m = if n = m then 1 else 0 := rfl
    rw [e] at hp
    exact br_f (by decide) (br_f (by decide) (br_f (by decide) (br_f (by decide) (br_f (by decide) (br_f (by decide) (br_t rfl (br_c (fun z => by rw [if_pos z] at hp; exact hp) (fun z => by rw [if_neg z] at hp; exact hp))))))))
  · have e : rq_jn 7 n m = if n = 0 then 0 else if m = 0 then 0 else 1 := rfl
    rw [e] at hp
    exact br_f (by decide) (br_f (by decide) (br_f (by decide) (br_f (by decide) (br_f (by decide) (br_f (by decide) (br_f (by decide) (br_t rfl (br_c (fun z => by rw [if_pos z] at hp; exact hp) (fun z => by rw [if_neg z] at hp; exact br_c (fun y => by rw [if_pos y] at hp; exact hp) (fun y => by rw [if_neg y] at hp; exact hp))))))))))
  · have e : rq_jn 8 n m = if n = 0 then (if m = 0 then 0 else 1) else 1 := rfl
    rw [e] at hp
    exact br_f (by decide) (br_t (by decide) (br_c (fun z => by rw [if_pos z] at hp; exact br_c (fun y => by rw [if_pos y] at hp; exact hp) (fun y => by rw [if_neg y] at hp; exact hp)) (fun z => by rw [if_neg z] at hp; exact hp)))
theorem rq_xPut0 {post : SX → Prop} {i h : Nat} (hi : i < 48) (hK : K i = nI 0) (hH : hA i = nI h) (h5 : h ≤ 5) (hp : post (tc, aT, aR, ce, sz, K, A, hA, dA, oA, C, upd sx h (A i), tb, rh, oc, kr, kn, tm)) : wpX_putNumber post (tc, aT, aR, ce, sz, K, A, hA, dA, oA, C, sx, tb, rh, oc, kr, kn, tm) (nI i) := by
  unfold wpX_putNumber
  simp (disch := omega) only [forall_eq, vp_in_nI, nI_clamp, rq_c0, rq_c1, rq_c2, rq_c3, rq_c6, rq_c7, rq_c8, rq_c9, rq_c10, rq_c11, rq_c12, rq_c13, rq_c14, rq_c15, rq_c16, rq_c17, rq_c18, rq_c48, rq_c99, rq_c10368, rq_c30000, rq_eqT, rq_eqF, rq_leT, rq_leF, rq_ltT, rq_ltF, rq_neg, nI_add, pk_mul, pk_sub, pk_div, true_and, and_true, true_implies, false_implies, implies_true, not_true_eq_false, not_false_eq_true, pk_us, Nat.add_sub_cancel, eq_self, hK, hH]
  exact hp
theorem rq_xPut1 {post : SX → Prop} {i h a t r : Nat} (hi : i < 48) (hK : K i = nI 1) (hH : hA i = nI h) (h5 : h ≤ 5) (hA' : A i = nI a) (ha : a < 9) (hb : tb (a / 3) = nI t) (hr : rh (a / 3) = nI r) (ht : t < 3) (hr5 : r ≤ 5)
    (hp : post (tc, aT, aR, ce, sz, K, A, hA, dA, oA, C, upd sx h (ce (18 * t + 3 * r + (a - a / 3 * 3))), tb, rh, oc, kr, kn, tm)) : wpX_putNumber post (tc, aT, aR, ce, sz, K, A, hA, dA, oA, C, sx, tb, rh, oc, kr, kn, tm) (nI i) := by
  unfold wpX_putNumber
  simp (disch := omega) only [forall_eq, vp_in_nI, nI_clamp, rq_c0, rq_c1, rq_c2, rq_c3, rq_c6, rq_c7, rq_c8, rq_c9, rq_c10, rq_c11, rq_c12, rq_c13, rq_c14, rq_c15, rq_c16, rq_c17, rq_c18, rq_c48, rq_c99, rq_c10368, rq_c30000, rq_eqT, rq_eqF, rq_leT, rq_leF, rq_ltT, rq_ltF, rq_neg, nI_add, pk_mul, pk_sub, pk_div, true_and, and_true, true_implies, false_implies, implies_true, not_true_eq_false, not_false_eq_true, pk_us, Nat.add_sub_cancel, eq_self, hK, hH, hA']
  exact rq_xCell ha hb hr ht hr5 hp
theorem rq_xPut9 {post : SX → Prop} {i h : Nat} (hi : i < 48) (hK : K i = nI 9) (hH : hA i = nI (h + 1)) (h5 : h ≤ 5) (hp : post (tc, aT, aR, ce, sz, K, A, hA, dA, oA, C, upd sx h (if sx h = 0 then 1 else 0), tb, rh, oc, kr, kn, tm)) : wpX_putNumber post (tc, aT, aR, ce, sz, K, A, hA, dA, oA, C, sx, tb, rh, oc, kr, kn, tm) (nI i) := by
  unfold wpX_putNumber
  simp (disch := omega) only [forall_eq, vp_in_nI, nI_clamp, rq_c0, rq_c1, rq_c2, rq_c3, rq_c6, rq_c7, rq_c8, rq_c9, rq_c10, rq_c11, rq_c12, rq_c13, rq_c14, rq_c15, rq_c16, rq_c17, rq_c18, rq_c48, rq_c99, rq_c10368, rq_c30000, rq_eqT, rq_eqF, rq_leT, rq_leF, rq_ltT, rq_ltF, rq_neg, nI_add, pk_mul, pk_sub, pk_div, true_and, and_true, true_implies, false_implies, implies_true, not_true_eq_false, not_false_eq_true, pk_us, Nat.add_sub_cancel, eq_self, hK, hH]
  exact ⟨fun z => by rw [if_pos (show sx h = 0 from z)] at hp; exact hp, fun z => by rw [if_neg (show ¬ sx h = 0 from z)] at hp; exact hp⟩
theorem rq_xPut2 {post : SX → Prop} {i h k : Nat} (hi : i < 48) (hK : K i = nI k) (h2 : 2 ≤ k) (h8 : k ≤ 8) (hH : hA i = nI (h + 2)) (h5 : h ≤ 4) (hp : post (tc, aT, aR, ce, sz, K, A, hA, dA, oA, C, upd sx h (rq_jn k (sx h) (sx (h + 1))), tb, rh, oc, kr, kn, tm)) : wpX_putNumber post (tc, aT, aR, ce, sz, K, A, hA, dA, oA, C, sx, tb, rh, oc, kr, kn, tm) (nI i) := by
  unfold wpX_putNumber
  simp (disch := omega) only [forall_eq, vp_in_nI, nI_clamp, rq_c0, rq_c1, rq_c2, rq_c3, rq_c6, rq_c7, rq_c8, rq_c9, rq_c10, rq_c11, rq_c12, rq_c13, rq_c14, rq_c15, rq_c16, rq_c17, rq_c18, rq_c48, rq_c99, rq_c10368, rq_c30000, rq_eqT, rq_eqF, rq_leT, rq_leF, rq_ltT, rq_ltF, rq_neg, nI_add, pk_mul, pk_sub, pk_div, true_and, and_true, true_implies, false_implies, implies_true, not_true_eq_false, not_false_eq_true, pk_us, Nat.add_sub_cancel, eq_self, hK, hH, show h + 2 - 1 = h + 1 from rfl]
  exact rq_xComb h2 h8 hp
end
end
section
/-! the reference's walks -/
section
variable {tc hh op tp aT aR dp : Int32} {sz ce K A fl sy tm bg ra fd vl sn : Nat → Int32}
theorem rq_yE1 {post : Int32 → Prop} {n m j k e : Nat} (hn : n ≤ 48) (hj : j < n) (hK : K j = nI k) (h1 : k < 12) (h2 : k ≠ 10)
    (hp : wY_endOf_6 post (nI n) hh op tp aT aR dp sz ce K A fl sy tm bg ra fd vl sn m (nI e) (nI (j + 1))) : wY_endOf_6 post (nI n) hh op tp aT aR dp sz ce K A fl sy tm bg ra fd vl sn (m + 1) (nI e) (nI j) := by
  rw [wY_endOf_6]
  unfold wY_endOf_33 wpY_isEnd
  simp (disch := omega) only [forall_eq, vp_in_nI, nI_clamp, rq_c0, rq_c1, rq_c2, rq_c3, rq_c6, rq_c7, rq_c8, rq_c9, rq_c10, rq_c11, rq_c12, rq_c13, rq_c14, rq_c15, rq_c16, rq_c17, rq_c18, rq_c48, rq_c99, rq_c10368, rq_c30000, rq_eqT, rq_eqF, rq_leT, rq_leF, rq_ltT, rq_ltF, rq_neg, nI_add, pk_mul, pk_sub, pk_div, true_and, and_true, true_implies, false_implies, implies_true, not_true_eq_false, not_false_eq_true, pk_us, Nat.add_sub_cancel, eq_self, hK]
  exact hp
theorem rq_yE2 {post : Int32 → Prop} {n m j e : Nat} (hn : n ≤ 48) (hj : j < n) (hK : K j = nI 10)
    (hp : wY_endOf_6 post (nI n) hh op tp aT aR dp sz ce K A fl sy tm bg ra fd vl sn m (nI (e + 1)) (nI (j + 1))) : wY_endOf_6 post (nI n) hh op tp aT aR dp sz ce K A fl sy tm bg ra fd vl sn (m + 1) (nI e) (nI j) := by
  rw [wY_endOf_6]
  unfold wY_endOf_33 wpY_isEnd
  simp (disch := omega) only [forall_eq, vp_in_nI, nI_clamp, rq_c0, rq_c1, rq_c2, rq_c3, rq_c6, rq_c7, rq_c8, rq_c9, rq_c10, rq_c11, rq_c12, rq_c13, rq_c14, rq_c15, rq_c16, rq_c17, rq_c18, rq_c48, rq_c99, rq_c10368, rq_c30000, rq_eqT, rq_eqF, rq_leT, rq_leF, rq_ltT, rq_ltF, rq_neg, nI_add, pk_mul, pk_sub, pk_div, true_and, and_true, true_implies, false_implies, implies_true, not_true_eq_false, not_false_eq_true, pk_us, Nat.add_sub_cancel, eq_self, hK]
  exact hp
theorem rq_yE3 {post : Int32 → Prop} {n m j k e : Nat} (hn : n ≤ 48) (hj : j < n) (hK : K j = nI k) (h1 : 12 ≤ k) (h2 : k ≤ 17) (he : e < 4)
    (hp : wY_endOf_6 post (nI n) hh op tp aT aR dp sz ce K A fl sy tm bg ra fd vl sn m (nI e) (nI (j + 1))) : wY_endOf_6 post (nI n) hh op tp aT aR dp sz ce K A fl sy tm bg ra fd vl sn (m + 1) (nI (e + 1)) (nI j) := by
  rw [wY_endOf_6]
  unfold wY_endOf_33 wpY_isEnd
  simp (disch := omega) only [forall_eq, vp_in_nI, nI_clamp, rq_c0, rq_c1, rq_c2, rq_c3, rq_c6, rq_c7, rq_c8, rq_c9, rq_c10, rq_c11, rq_c12, rq_c13, rq_c14, rq_c15, rq_c16, rq_c17, rq_c18, rq_c48, rq_c99, rq_c10368, rq_c30000, rq_eqT, rq_eqF, rq_leT, rq_leF, rq_ltT, rq_ltF, rq_neg, nI_add, pk_mul, pk_sub, pk_div, true_and, and_true, true_implies, false_implies, implies_true, not_true_eq_false, not_false_eq_true, pk_us, Nat.add_sub_cancel, eq_self, hK]
  exact hp
theorem rq_yE4 {post : Int32 → Prop} {n m j k : Nat} (hn : n ≤ 48) (hj : j < n) (hK : K j = nI k) (h1 : 12 ≤ k) (h2 : k ≤ 17) (hp : post (nI j)) : wY_endOf_6 post (nI n) hh op tp aT aR dp sz ce K A fl sy tm bg ra fd vl sn (m + 1) (nI 0) (nI j) := by
  rw [wY_endOf_6]
  unfold wpY_isEnd
  simp (disch := omega) only [forall_eq, vp_in_nI, nI_clamp, rq_c0, rq_c1, rq_c2, rq_c3, rq_c6, rq_c7, rq_c8, rq_c9, rq_c10, rq_c11, rq_c12, rq_c13, rq_c14, rq_c15, rq_c16, rq_c17, rq_c18, rq_c48, rq_c99, rq_c10368, rq_c30000, rq_eqT, rq_eqF, rq_leT, rq_leF, rq_ltT, rq_ltF, rq_neg, nI_add, pk_mul, pk_sub, pk_div, true_and, and_true, true_implies, false_implies, implies_true, not_true_eq_false, not_false_eq_true, pk_us, Nat.add_sub_cancel, eq_self, hK]
  exact hp
theorem rq_yEnd {n : Nat} {C hA dA oA : Nat → Int32} {H D O : Nat → Nat} (P : rq_Prof n K A C hA dA oA H D O) (h0 : D n = 0) {o : Nat} (ho : o < n) (hK : K o = nI 10) {post : Int32 → Prop} (hp : post (nI (rq_cl C o))) :
    wpY_endOf post (nI n, hh, op, tp, aT, aR, dp, sz, ce, K, A, fl, sy, tm, bg, ra, fd, vl, sn) (nI o) := by
  obtain ⟨c1, c2, ⟨k, q1, q2, q3, q4, _⟩, c4⟩ := rq_closer P h0 ho hK
  obtain ⟨_, _, _, g4, _⟩ := rq_rows P ho hK
  have main : ∀ m j, j + m = rq_cl C o → o < j → wY_endOf_6 post (nI n) hh op tp aT aR dp sz ce K A fl sy tm bg ra fd vl sn (m + 1) (nI (D j - (D o + 1))) (nI j) := by
    intro m
    induction m with
    | zero =>
      intro j hj1 hj2
      have e : j = rq_cl C o := by omega
      subst e
      rw [show D (rq_cl C o) - (D o + 1) = 0 from by omega]
      exact rq_yE4 P.1 c2 q1 q2 q3 hp
    | succ m ih =>
      intro j hj1 hj2
      have a1 := c4 j hj2 (by omega)
      have a2 := c4 (j + 1) (by omega) (by omega)
      have a3 := (rq_open P j (by omega)).2.1
      have IH := ih (j + 1) (by omega) (by omega)
      obtain ⟨k', hk1, _, hk, h6, hc⟩ := P.2.2.2 j (by omega)
      rcases hc with ⟨z, _, h, _⟩ | ⟨z, _, _, h, _⟩ | ⟨z, _, _, h, _⟩ | ⟨z, _, _, h, _⟩ | ⟨z, _, _, _, h, _⟩ | ⟨z, _, _, _, h, _⟩ | ⟨z, _, _, _, h, _⟩
      · rw [h] at IH
        exact rq_yE1 P.1 (by omega) hk1 (by omega) (by omega) IH
      · rw [h] at IH
        exact rq_yE1 P.1 (by omega) hk1 (by omega) (by omega) IH
      · rw [h] at IH
        exact rq_yE1 P.1 (by omega) hk1 (by omega) (by omega) IH
      · rw [h] at IH
        exact rq_yE1 P.1 (by omega) hk1 (by omega) (by omega) IH
      · rw [h, show D j + 1 - (D o + 1) = (D j - (D o + 1)) + 1 from by omega] at IH
        subst z
        exact rq_yE2 P.1 (by omega) hk1 IH
      · rw [h] at IH
        exact rq_yE1 P.1 (by omega) hk1 (by omega) (by omega) IH
      · rw [show D j - (D o + 1) = (D (j + 1) - (D o + 1)) + 1 from by omega]
        exact rq_yE3 P.1 (by omega) hk1 z hk (by omega) IH
  have M := main (rq_cl C o - (o + 1)) (o + 1) (by omega) (by omega)
  rw [g4, Nat.sub_self] at M
  unfold wpY_endOf
  refine nm_r (nI_1 o) ?_
  exact Exists.intro _ M
/-! check -/
theorem rq_yC1 {post : SY → Prop} {n m i k h d : Nat} (hn : n ≤ 48) (hi : i < n) (hh : h ≤ 6) (hK : K i = nI k) (hk : k ≤ 1)
    (hp : wY_check_12 post (nI n) tp aT aR dp m (nI (i + 1)) (nI (h + 1)) (nI d) sz ce K A fl sy tm bg ra fd vl sn) : wY_check_12 post (nI n) tp aT aR dp (m + 1) (nI i) (nI h) (nI d) sz ce K A fl sy tm bg ra fd vl sn := by
  rw [wY_check_12]
  unfold wY_check_101 wpY_takes wY_takes_13 wpY_isEnd
  simp (disch := omega) only [forall_eq, vp_in_nI, nI_clamp, rq_c0, rq_c1, rq_c2, rq_c3, rq_c6, rq_c7, rq_c8, rq_c9, rq_c10, rq_c11, rq_c12, rq_c13, rq_c14, rq_c15, rq_c16, rq_c17, rq_c18, rq_c48, rq_c99, rq_c10368, rq_c30000, rq_eqT, rq_eqF, rq_leT, rq_leF, rq_ltT, rq_ltF, rq_neg, nI_add, pk_mul, pk_sub, pk_div, true_and, and_true, true_implies, false_implies, implies_true, not_true_eq_false, not_false_eq_true, pk_us, Nat.add_sub_cancel, eq_self, hK, Nat.sub_zero]
  exact hp
theorem rq_yC2 {post : SY → Prop} {n m i k h d : Nat} (hn : n ≤ 48) (hi : i < n) (hh : h ≤ 6) (hK : K i = nI k) (hk2 : 2 ≤ k) (hk8 : k ≤ 8)
    (hp : wY_check_12 post (nI n) tp aT aR dp m (nI (i + 1)) (nI (h + 1)) (nI d) sz ce K A fl sy tm bg ra fd vl sn) : wY_check_12 post (nI n) tp aT aR dp (m + 1) (nI i) (nI (h + 2)) (nI d) sz ce K A fl sy tm bg ra fd vl sn := by
  rw [wY_check_12]
  unfold wY_check_101 wpY_takes wY_takes_13 wpY_isEnd
  simp (disch := omega) only [forall_eq, vp_in_nI, nI_clamp, rq_c0, rq_c1, rq_c2, rq_c3, rq_c6, rq_c7, rq_c8, rq_c9, rq_c10, rq_c11, rq_c12, rq_c13, rq_c14, rq_c15, rq_c16, rq_c17, rq_c18, rq_c48, rq_c99, rq_c10368, rq_c30000, rq_eqT, rq_eqF, rq_leT, rq_leF, rq_ltT, rq_ltF, rq_neg, nI_add, pk_mul, pk_sub, pk_div, true_and, and_true, true_implies, false_implies, implies_true, not_true_eq_false, not_false_eq_true, pk_us, Nat.add_sub_cancel, eq_self, hK]
  exact hp
theorem rq_yC3 {post : SY → Prop} {n m i h d : Nat} (hn : n ≤ 48) (hi : i < n) (hh : h ≤ 6) (hK : K i = nI 9)
    (hp : wY_check_12 post (nI n) tp aT aR dp m (nI (i + 1)) (nI (h + 1)) (nI d) sz ce K A fl sy tm bg ra fd vl sn) : wY_check_12 post (nI n) tp aT aR dp (m + 1) (nI i) (nI (h + 1)) (nI d) sz ce K A fl sy tm bg ra fd vl sn := by
  rw [wY_check_12]
  unfold wY_check_101 wpY_takes wY_takes_13 wpY_isEnd
  simp (disch := omega) only [forall_eq, vp_in_nI, nI_clamp, rq_c0, rq_c1, rq_c2, rq_c3, rq_c6, rq_c7, rq_c8, rq_c9, rq_c10, rq_c11, rq_c12, rq_c13, rq_c14, rq_c15, rq_c16, rq_c17, rq_c18, rq_c48, rq_c99, rq_c10368, rq_c30000, rq_eqT, rq_eqF, rq_leT, rq_leF, rq_ltT, rq_ltF, rq_neg, nI_add, pk_mul, pk_sub, pk_div, true_and, and_true, true_implies, false_implies, implies_true, not_true_eq_false, not_false_eq_true, pk_us, Nat.add_sub_cancel, eq_self, hK]
  exact hp
theorem rq_yC4 {post : SY → Prop} {n m i h d : Nat} (hn : n ≤ 48) (hi : i < n) (hh : h ≤ 6) (hd : d < 3) (hK : K i = nI 10)
    (hp : wY_check_12 post (nI n) tp aT aR dp m (nI (i + 1)) (nI h) (nI (d + 1)) sz ce K A (upd fl d (nI h)) sy tm bg ra fd vl sn) : wY_check_12 post (nI n) tp aT aR dp (m + 1) (nI i) (nI h) (nI d) sz ce K A fl sy tm bg ra fd vl sn := by
  rw [wY_check_12]
  unfold wpY_takes wY_takes_13
  simp (disch := omega) only [forall_eq, vp_in_nI, nI_clamp, rq_c0, rq_c1, rq_c2, rq_c3, rq_c6, rq_c7, rq_c8, rq_c9, rq_c10, rq_c11, rq_c12, rq_c13, rq_c14, rq_c15, rq_c16, rq_c17, rq_c18, rq_c48, rq_c99, rq_c10368, rq_c30000, rq_eqT, rq_eqF, rq_leT, rq_leF, rq_ltT, rq_ltF, rq_neg, nI_add, pk_mul, pk_sub, pk_div, true_and, and_true, true_implies, false_implies, implies_true, not_true_eq_false, not_false_eq_true, pk_us, Nat.add_sub_cancel, eq_self, hK, Nat.sub_zero]
  exact hp
theorem rq_yC5 {post : SY → Prop} {n m i h d : Nat} (hn : n ≤ 48) (hi : i < n) (hh : h ≤ 6) (hK : K i = nI 11)
    (hp : wY_check_12 post (nI n) tp aT aR dp m (nI (i + 1)) (nI h) (nI d) sz ce K A fl sy tm bg ra fd vl sn) : wY_check_12 post (nI n) tp aT aR dp (m + 1) (nI i) (nI (h + 1)) (nI d) sz ce K A fl sy tm bg ra fd vl sn := by
  rw [wY_check_12]
  unfold wpY_takes wY_takes_13
  simp (disch := omega) only [forall_eq, vp_in_nI, nI_clamp, rq_c0, rq_c1, rq_c2, rq_c3, rq_c6, rq_c7, rq_c8, rq_c9, rq_c10, rq_c11, rq_c12, rq_c13, rq_c14, rq_c15, rq_c16, rq_c17, rq_c18, rq_c48, rq_c99, rq_c10368, rq_c30000, rq_eqT, rq_eqF, rq_leT, rq_leF, rq_ltT, rq_ltF, rq_neg, nI_add, pk_mul, pk_sub, pk_div, true_and, and_true, true_implies, false_implies, implies_true, not_true_eq_false, not_false_eq_true, pk_us, Nat.add_sub_cancel, eq_self, hK]
  exact hp
theorem rq_yC6 {post : SY → Prop} {n m i k h d : Nat} (hn : n ≤ 48) (hi : i < n) (hh : h ≤ 6) (hd : d ≤ 3) (hK : K i = nI k) (hk : 12 ≤ k) (hk7 : k ≤ 17)
    (hp : wY_check_12 post (nI n) tp aT aR dp m (nI (i + 1)) (nI (h + 1)) (nI d) sz ce K A fl sy tm bg ra fd vl sn) : wY_check_12 post (nI n) tp aT aR dp (m + 1) (nI i) (nI (h + rq_tk k)) (nI (d + 1)) sz ce K A fl sy tm bg ra fd vl sn := by
  rw [wY_check_12]
  unfold wY_check_101 wpY_takes wY_takes_13 wpY_isEnd
  by_cases z : k < 14
  · rw [show rq_tk k = 0 from if_pos z]
    simp (disch := omega) only [forall_eq, vp_in_nI, nI_clamp, rq_c0, rq_c1, rq_c2, rq_c3, rq_c6, rq_c7, rq_c8, rq_c9, rq_c10, rq_c11, rq_c12, rq_c13, rq_c14, rq_c15, rq_c16, rq_c17, rq_c18, rq_c48, rq_c99, rq_c10368, rq_c30000, rq_eqT, rq_eqF, rq_leT, rq_leF, rq_ltT, rq_ltF, rq_neg, nI_add, pk_mul, pk_sub, pk_div, true_and, and_true, true_implies, false_implies, implies_true, not_true_eq_false, not_false_eq_true, pk_us, Nat.add_sub_cancel, eq_self, hK, Nat.sub_zero, Nat.add_zero]
    exact hp
  · rw [show rq_tk k = 1 from if_neg z]
    simp (disch := omega) only [forall_eq, vp_in_nI, nI_clamp, rq_c0, rq_c1, rq_c2, rq_c3, rq_c6, rq_c7, rq_c8, rq_c9, rq_c10, rq_c11, rq_c12, rq_c13, rq_c14, rq_c15, rq_c16, rq_c17, rq_c18, rq_c48, rq_c99, rq_c10368, rq_c30000, rq_eqT, rq_eqF, rq_leT, rq_leF, rq_ltT, rq_ltF, rq_neg, nI_add, pk_mul, pk_sub, pk_div, true_and, and_true, true_implies, false_implies, implies_true, not_true_eq_false, not_false_eq_true, pk_us, Nat.add_sub_cancel, eq_self, hK]
    exact hp
def rq_Fl (H D O : Nat → Nat) (fl : Nat → Int32) (i : Nat) : Prop := ∃ B : Nat → Nat, rq_Ch D O B i ∧ ∀ b, b < D i → fl b = nI (H (B b))
theorem rq_flSame {H D O : Nat → Nat} {fl : Nat → Int32} {i j : Nat} (h : rq_Fl H D O fl i) (hD : D j = D i) (hO : O j = O i) : rq_Fl H D O fl j := by
  obtain ⟨B, h1, h2⟩ := h
  exact ⟨B, rq_chSame h1 hD hO, by rw [hD]; exact h2⟩
theorem rq_yChk {n : Nat} {C hA dA oA : Nat → Int32} {H D O : Nat → Nat} (P : rq_Prof n K A C hA dA oA H D O) : ∀ m i fl, i + m = n → rq_Fl H D O fl i →
    ∃ fl' : Nat → Int32, rq_Fl H D O fl' n ∧ ∀ post : SY → Prop, post (nI n, nI (H n), nI (D n), tp, aT, aR, dp, sz, ce, K, A, fl', sy, tm, bg, ra, fd, vl, sn) →
    wY_check_12 post (nI n) tp aT aR dp (m + 1) (nI i) (nI (H i)) (nI (D i)) sz ce K A fl sy tm bg ra fd vl sn := by
  intro m
  induction m with
  | zero =>
    intro i fl hi hf
    have e : i = n := by omega
    subst e
    refine ⟨fl, hf, fun post hp => ?_⟩
    rw [wY_check_12]
    exact br_t (nI_le (Nat.le_refl _) (by have := P.1; omega)) hp
  | succ m ih =>
    intro i fl hi hf
    have I := rq_open P i (by omega)
    have a1 := I.1
    have a2 := I.2.1
    obtain ⟨k, hk1, _, hk, h6, hc⟩ := P.2.2.2 i (by omega)
    rcases hc with ⟨z, h1, h2, h3⟩ | ⟨z, _, h1, h2, h3⟩ | ⟨z, g, h1, h2, h3⟩ | ⟨z, g, h1, h2, h3⟩ | ⟨z, _, g, h1, h2, h3⟩ | ⟨z, g, g2, h1, h2, h3⟩ | ⟨z, g, g2, h1, h2, h3⟩
    · obtain ⟨fl', q, IH⟩ := ih (i + 1) fl (by omega) (rq_flSame hf h2 h3)
      rw [h1, h2] at IH
      exact ⟨fl', q, fun post hp => rq_yC1 P.1 (by omega) a1 hk1 (by omega) (IH post hp)⟩
    · obtain ⟨fl', q, IH⟩ := ih (i + 1) fl (by omega) (rq_flSame hf h2 h3)
      rw [h1, h2] at IH
      exact ⟨fl', q, fun post hp => rq_yC1 P.1 (by omega) a1 hk1 (by omega) (IH post hp)⟩
    · obtain ⟨fl', q, IH⟩ := ih (i + 1) fl (by omega) (rq_flSame hf h2 h3)
      obtain ⟨h, eh⟩ : ∃ h, H i = h + 2 := ⟨H i - 2, by omega⟩
      rw [show H (i + 1) = h + 1 from by omega, h2] at IH
      rw [eh]
      exact ⟨fl', q, fun post hp => rq_yC2 P.1 (by omega) (by omega) hk1 z.1 z.2 (IH post hp)⟩
    · obtain ⟨fl', q, IH⟩ := ih (i + 1) fl (by omega) (rq_flSame hf h2 h3)
      obtain ⟨h, eh⟩ : ∃ h, H i = h + 1 := ⟨H i - 1, by omega⟩
      rw [h1, h2, eh] at IH
      rw [eh]
      subst z
      exact ⟨fl', q, fun post hp => rq_yC3 P.1 (by omega) (by omega) hk1 (IH post hp)⟩
    · obtain ⟨B, f1, f2⟩ := hf
      obtain ⟨fl', q, IH⟩ := ih (i + 1) (upd fl (D i) (nI (H i))) (by omega) ⟨rq_put B (D i) i, rq_chIn (rq_chPush f1) rq_ps h2 h3, fun b hb => by
        by_cases e : b = D i
        · rw [e, pk_us, rq_ps]
        · rw [pk_un e, rq_pn e]
          exact f2 b (by omega)⟩
      rw [h1, h2] at IH
      subst z
      exact ⟨fl', q, fun post hp => rq_yC4 P.1 (by omega) a1 g hk1 (IH post hp)⟩
    · obtain ⟨fl', q, IH⟩ := ih (i + 1) fl (by omega) (rq_flSame hf h2 h3)
      rw [h1, h2] at IH
      rw [g2]
      subst z
      exact ⟨fl', q, fun post hp => rq_yC5 P.1 (by omega) (by omega) hk1 (IH post hp)⟩
    · obtain ⟨q1, q2, q3, q4, q5⟩ := I.2.2.1 g
      obtain ⟨B, f1, f2⟩ := hf
      obtain ⟨fl', q, IH⟩ := ih (i + 1) fl (by omega) ⟨B, rq_chSame (rq_chOut f1 q3).1 (by omega) h3, fun b hb => f2 b (by omega)⟩
      rw [h1] at IH
      rw [g2, show D i = D (i + 1) + 1 from by omega]
      exact ⟨fl', q, fun post hp => rq_yC6 P.1 (by omega) (by omega) (by omega) hk1 z hk (IH post hp)⟩
theorem rq_yCheck {n : Nat} {C hA dA oA : Nat → Int32} {H D O : Nat → Nat} (P : rq_Prof n K A C hA dA oA H D O) :
    ∃ fl' : Nat → Int32, rq_Fl H D O fl' n ∧ ∀ post : SY → Prop, post (nI n, nI (H n), nI (D n), tp, aT, aR, dp, sz, ce, K, A, fl', sy, tm, bg, ra, fd, vl, sn) → wpY_check post (nI n, hh, op, tp, aT, aR, dp, sz, ce, K, A, fl, sy, tm, bg, ra, fd, vl, sn) := by
  obtain ⟨fl', q, M⟩ := rq_yChk (tp := tp) (aT := aT) (aR := aR) (dp := dp) (sz := sz) (ce := ce) (sy := sy) (tm := tm) (bg := bg) (ra := ra) (fd := fd) (vl := vl) (sn := sn) P n 0 fl (by omega) ⟨fun _ => 0, ⟨fun b hb => by rw [P.2.1.2.1] at hb; omega, fun b hb => by rw [P.2.1.2.1] at hb; omega⟩, fun b hb => by rw [P.2.1.2.1] at hb; omega⟩
  rw [P.2.1.1, P.2.1.2.1] at M
  exact ⟨fl', q, fun post hp => Exists.intro _ (M post hp)⟩
theorem rq_yWhole {n : Nat} {C hA dA oA : Nat → Int32} {H D O : Nat → Nat} (P : rq_Prof n K A C hA dA oA H D O) :
    ∃ fl' : Nat → Int32, ∀ post : Int32 → SY → Prop, (D n = 0 ∧ H n = 1 → post 1 (nI n, nI (H n), nI (D n), tp, aT, aR, dp, sz, ce, K, A, fl', sy, tm, bg, ra, fd, vl, sn)) → (¬ (D n = 0 ∧ H n = 1) → post 0 (nI n, nI (H n), nI (D n), tp, aT, aR, dp, sz, ce, K, A, fl', sy, tm, bg, ra, fd, vl, sn)) → wpY_whole post (nI n, hh, op, tp, aT, aR, dp, sz, ce, K, A, fl, sy, tm, bg, ra, fd, vl, sn) := by
  have a1 := (rq_open P n (Nat.le_refl _)).1
  have a2 := (rq_open P n (Nat.le_refl _)).2.1
  obtain ⟨fl', q, M⟩ := rq_yCheck (hh := hh) (op := op) (fl := fl) (tp := tp) (aT := aT) (aR := aR) (dp := dp) (sz := sz) (ce := ce) (sy := sy) (tm := tm) (bg := bg) (ra := ra) (fd := fd) (vl := vl) (sn := sn) P
  refine ⟨fl', fun post h1 h0 => ?_⟩
  unfold wpY_whole
  refine M _ ?_
  exact pk_eq (D n) 0 (fun z => pk_eq (H n) 1 (fun y => h1 ⟨z, y⟩) (fun y => h0 fun w => y w.2)) (fun z => h0 fun w => z w.1)
/-! the next row -/
theorem rq_yRowFrom {post : Int32 → Prop} {a q q' : Nat} (hq : (nI a = aT ∧ nI q = aR ∧ q' = q + 1) ∨ (¬ (nI a = aT ∧ nI q = aR) ∧ q' = q)) (hp : post (nI q')) : wpY_rowFrom post (tc, hh, op, tp, aT, aR, dp, sz, ce, K, A, fl, sy, tm, bg, ra, fd, vl, sn) (nI a) (nI q) := by
  unfold wpY_rowFrom
  rcases hq with ⟨e1, e2, rfl⟩ | ⟨e, rfl⟩
  · exact br_t e1 (br_t e2 (by rw [nI_1]; exact hp))
  · exact br_c (fun z1 => br_c (fun z2 => absurd ⟨z1, z2⟩ e) (fun _ => hp)) (fun _ => hp)
theorem rq_yNextA {post : Int32 → SY → Prop} {o d a s q q' : Nat} (ho : o < 48) (hd : d < 3) (ha : a < 3) (hb : bg d = nI o) (hA' : A o = nI a) (hs : sz a = nI s) (h6 : s ≤ 6) (hr : ra d + 1 = nI q)
    (hq : (nI a = aT ∧ nI q = aR ∧ q' = q + 1) ∨ (¬ (nI a = aT ∧ nI q = aR) ∧ q' = q)) (h : q' < s)
    (hp : post (nI (o + 1)) (tc, hh, op, tp, aT, aR, nI (d + 1), sz, ce, K, A, fl, sy, tm, bg, upd ra d (nI q'), fd, vl, sn)) : wpY_nextRow post (tc, hh, op, tp, aT, aR, nI (d + 1), sz, ce, K, A, fl, sy, tm, bg, ra, fd, vl, sn) := by
  rw [rq_c1] at hr
  unfold wpY_nextRow
  simp (disch := omega) only [forall_eq, vp_in_nI, nI_clamp, rq_c0, rq_c1, rq_c2, rq_c3, rq_c6, rq_c7, rq_c8, rq_c9, rq_c10, rq_c11, rq_c12, rq_c13, rq_c14, rq_c15, rq_c16, rq_c17, rq_c18, rq_c48, rq_c99, rq_c10368, rq_c30000, rq_eqT, rq_eqF, rq_leT, rq_leF, rq_ltT, rq_ltF, rq_neg, nI_add, pk_mul, pk_sub, pk_div, true_and, and_true, true_implies, false_implies, implies_true, not_true_eq_false, not_false_eq_true, pk_us, Nat.add_sub_cancel, eq_self, hb, hA', hr, hs]
  refine rq_yRowFrom hq ?_
  exact br_f (nI_ge h (by omega)) hp
theorem rq_yNextB {n : Nat} {C hA dA oA : Nat → Int32} {H D O : Nat → Nat} (P : rq_Prof n K A C hA dA oA H D O) (h0 : D n = 0) {o : Nat} (ho : o < n) (hK : K o = nI 10)
    {post : Int32 → SY → Prop} {d a s q q' h : Nat} {x : Int32} (hd : d < 3) (ha : a < 3) (hb : bg d = nI o) (hA' : A o = nI a) (hs : sz a = nI s) (h6 : s ≤ 6) (hr : ra d + 1 = nI q)
    (hq : (nI a = aT ∧ nI q = aR ∧ q' = q + 1) ∨ (¬ (nI a = aT ∧ nI q = aR) ∧ q' = q)) (hq7 : q' ≤ 7) (hsq : s ≤ q') (h5 : h ≤ 5)
    (hx : (K (rq_cl C o) = nI 12 → x = fd d) ∧ (K (rq_cl C o) = nI 13 → ((0 < fd d → x = 1) ∧ (¬ 0 < fd d → x = 0))) ∧ (¬ K (rq_cl C o) = nI 12 → ¬ K (rq_cl C o) = nI 13 → x = vl d))
    (hp : post (nI (rq_cl C o + 1)) (nI n, hh, op, nI (h + 1), aT, aR, nI d, sz, ce, K, A, fl, upd sy h x, tm, bg, upd ra d (nI q'), fd, vl, sn)) : wpY_nextRow post (nI n, hh, op, nI h, aT, aR, nI (d + 1), sz, ce, K, A, fl, sy, tm, bg, ra, fd, vl, sn) := by
  rw [rq_c1] at hr
  have hn := P.1
  have hc := (rq_closer P h0 ho hK).2.1
  have hpush : ∀ y, x = y → wY_nextRow_128 post (nI (rq_cl C o)) y (nI n) hh op (nI h) aT aR (nI d) sz ce K A fl sy tm bg (upd ra d (nI q')) fd vl sn := fun y hy => by
    subst hy
    unfold wY_nextRow_128 wpY_push
    simp (disch := omega) only [forall_eq, vp_in_nI, nI_clamp, rq_c0, rq_c1, rq_c2, rq_c3, rq_c6, rq_c7, rq_c8, rq_c9, rq_c10, rq_c11, rq_c12, rq_c13, rq_c14, rq_c15, rq_c16, rq_c17, rq_c18, rq_c48, rq_c99, rq_c10368, rq_c30000, rq_eqT, rq_eqF, rq_leT, rq_leF, rq_ltT, rq_ltF, rq_neg, nI_add, pk_mul, pk_sub, pk_div, true_and, and_true, true_implies, false_implies, implies_true, not_true_eq_false, not_false_eq_true, pk_us, Nat.add_sub_cancel, eq_self]
    exact hp
  unfold wpY_nextRow
  simp (disch := omega) only [forall_eq, vp_in_nI, nI_clamp, rq_c0, rq_c1, rq_c2, rq_c3, rq_c6, rq_c7, rq_c8, rq_c9, rq_c10, rq_c11, rq_c12, rq_c13, rq_c14, rq_c15, rq_c16, rq_c17, rq_c18, rq_c48, rq_c99, rq_c10368, rq_c30000, rq_eqT, rq_eqF, rq_leT, rq_leF, rq_ltT, rq_ltF, rq_neg, nI_add, pk_mul, pk_sub, pk_div, true_and, and_true, true_implies, false_implies, implies_true, not_true_eq_false, not_false_eq_true, pk_us, Nat.add_sub_cancel, eq_self, hb, hA', hr, hs]
  refine rq_yRowFrom hq ?_
  refine br_t (nI_le hsq (by omega)) ?_
  refine rq_yEnd P h0 ho hK ?_
  simp (disch := omega) only [vp_in_nI, nI_clamp, true_and]
  refine br_c (fun z => hpush _ (hx.1 z)) (fun z => br_c (fun y => ?_) (fun y => hpush _ (hx.2.2 z y)))
  unfold wpY_least
  refine br_c (fun w => hpush _ ((hx.2.1 y).2 ?_)) (fun w => hpush _ ((hx.2.1 y).1 ?_))
  · exact Int32.not_lt.mpr w
  · exact Int32.not_le.mp w
end
end
section
/-! one step of each side -/
section
variable {tc aT aR : Int32} {ce sz K A hA dA oA C sx tb rh oc kr kn tm : Nat → Int32}
theorem rq_xW10 {post : Int32 → SX → Prop} {i d : Nat} {r : Int32} {T : SX} (hi : i < 48) (hd : d < 3) (hK : K i = nI 10) (hD : dA i = nI d)
    (hg : ∀ p : Int32 → SX → Prop, p r T → wpX_goToNextRow p (tc, aT, aR, ce, sz, K, A, hA, dA, oA, C, sx, upd tb d (A i), upd rh d (-1), upd oc d 0, upd kr d 0, kn, tm) (nI i)) (hp : post r T) : wpX_workOut post (tc, aT, aR, ce, sz, K, A, hA, dA, oA, C, sx, tb, rh, oc, kr, kn, tm) (nI i) := by
  unfold wpX_workOut
  simp (disch := omega) only [forall_eq, vp_in_nI, nI_clamp, rq_c0, rq_c1, rq_c2, rq_c3, rq_c6, rq_c7, rq_c8, rq_c9, rq_c10, rq_c11, rq_c12, rq_c13, rq_c14, rq_c15, rq_c16, rq_c17, rq_c18, rq_c48, rq_c99, rq_c10368, rq_c30000, rq_eqT, rq_eqF, rq_leT, rq_leF, rq_ltT, rq_ltF, rq_neg, nI_add, pk_mul, pk_sub, pk_div, true_and, and_true, true_implies, false_implies, implies_true, not_true_eq_false, not_false_eq_true, pk_us, Nat.add_sub_cancel, eq_self, hK]
  refine rq_xBegin hi hd hD ?_
  exact hg _ hp
theorem rq_xW11a {post : Int32 → SX → Prop} {i h o : Nat} {r : Int32} {T : SX} (hi : i < 48) (hK : K i = nI 11) (hH : hA i = nI (h + 1)) (h5 : h ≤ 5) (hO : oA i = nI o) (hz : sx h = 0)
    (hg : ∀ p : Int32 → SX → Prop, p r T → wpX_goToNextRow p (tc, aT, aR, ce, sz, K, A, hA, dA, oA, C, sx, tb, rh, oc, kr, kn, tm) (nI o)) (hp : post r T) : wpX_workOut post (tc, aT, aR, ce, sz, K, A, hA, dA, oA, C, sx, tb, rh, oc, kr, kn, tm) (nI i) := by
  rw [rq_c0] at hz
  unfold wpX_workOut wX_workOut_51
  simp (disch := omega) only [forall_eq, vp_in_nI, nI_clamp, rq_c0, rq_c1, rq_c2, rq_c3, rq_c6, rq_c7, rq_c8, rq_c9, rq_c10, rq_c11, rq_c12, rq_c13, rq_c14, rq_c15, rq_c16, rq_c17, rq_c18, rq_c48, rq_c99, rq_c10368, rq_c30000, rq_eqT, rq_eqF, rq_leT, rq_leF, rq_ltT, rq_ltF, rq_neg, nI_add, pk_mul, pk_sub, pk_div, true_and, and_true, true_implies, false_implies, implies_true, not_true_eq_false, not_false_eq_true, pk_us, Nat.add_sub_cancel, eq_self, hK, hH, hz, hO]
  exact hg _ hp
theorem rq_xW11b {post : Int32 → SX → Prop} {i h : Nat} (hi : i < 48) (hK : K i = nI 11) (hH : hA i = nI (h + 1)) (h5 : h ≤ 5) (hz : ¬ sx h = 0) (hp : post (nI (i + 1)) (tc, aT, aR, ce, sz, K, A, hA, dA, oA, C, sx, tb, rh, oc, kr, kn, tm)) : wpX_workOut post (tc, aT, aR, ce, sz, K, A, hA, dA, oA, C, sx, tb, rh, oc, kr, kn, tm) (nI i) := by
  rw [rq_c0] at hz
  unfold wpX_workOut wX_workOut_51
  simp (disch := omega) only [forall_eq, vp_in_nI, nI_clamp, rq_c0, rq_c1, rq_c2, rq_c3, rq_c6, rq_c7, rq_c8, rq_c9, rq_c10, rq_c11, rq_c12, rq_c13, rq_c14, rq_c15, rq_c16, rq_c17, rq_c18, rq_c48, rq_c99, rq_c10368, rq_c30000, rq_eqT, rq_eqF, rq_leT, rq_leF, rq_ltT, rq_ltF, rq_neg, nI_add, pk_mul, pk_sub, pk_div, true_and, and_true, true_implies, false_implies, implies_true, not_true_eq_false, not_false_eq_true, pk_us, Nat.add_sub_cancel, eq_self, hK, hH, hz]
  exact hp
theorem rq_xWE {post : Int32 → SX → Prop} {i k o : Nat} {r : Int32} {T : SX} {oc' kr' kn' : Nat → Int32} (hi : i < 48) (hK : K i = nI k) (h12 : 12 ≤ k) (h17 : k ≤ 17) (hO : oA i = nI o)
    (hk : ∀ p : SX → Prop, p (tc, aT, aR, ce, sz, K, A, hA, dA, oA, C, sx, tb, rh, oc', kr', kn', tm) → wpX_keepRow p (tc, aT, aR, ce, sz, K, A, hA, dA, oA, C, sx, tb, rh, oc, kr, kn, tm) (nI i)) (hg : ∀ p : Int32 → SX → Prop, p r T → wpX_goToNextRow p (tc, aT, aR, ce, sz, K, A, hA, dA, oA, C, sx, tb, rh, oc', kr', kn', tm) (nI o)) (hp : post r T) : wpX_workOut post (tc, aT, aR, ce, sz, K, A, hA, dA, oA, C, sx, tb, rh, oc, kr, kn, tm) (nI i) := by
  unfold wpX_workOut wpX_isEnding
  simp (disch := omega) only [forall_eq, vp_in_nI, nI_clamp, rq_c0, rq_c1, rq_c2, rq_c3, rq_c6, rq_c7, rq_c8, rq_c9, rq_c10, rq_c11, rq_c12, rq_c13, rq_c14, rq_c15, rq_c16, rq_c17, rq_c18, rq_c48, rq_c99, rq_c10368, rq_c30000, rq_eqT, rq_eqF, rq_leT, rq_leF, rq_ltT, rq_ltF, rq_neg, nI_add, pk_mul, pk_sub, pk_div, true_and, and_true, true_implies, false_implies, implies_true, not_true_eq_false, not_false_eq_true, pk_us, Nat.add_sub_cancel, eq_self, hK]
  refine hk _ ?_
  simp (disch := omega) only [vp_in_nI, nI_clamp, true_and, hO]
  exact hg _ hp
theorem rq_xWP {post : Int32 → SX → Prop} {i k : Nat} {T : SX} (hi : i < 48) (hK : K i = nI k) (h9 : k ≤ 9) (hw : ∀ p : SX → Prop, p T → wpX_putNumber p (tc, aT, aR, ce, sz, K, A, hA, dA, oA, C, sx, tb, rh, oc, kr, kn, tm) (nI i)) (hp : post (nI (i + 1)) T) : wpX_workOut post (tc, aT, aR, ce, sz, K, A, hA, dA, oA, C, sx, tb, rh, oc, kr, kn, tm) (nI i) := by
  unfold wpX_workOut wpX_isEnding
  simp (disch := omega) only [forall_eq, vp_in_nI, nI_clamp, rq_c0, rq_c1, rq_c2, rq_c3, rq_c6, rq_c7, rq_c8, rq_c9, rq_c10, rq_c11, rq_c12, rq_c13, rq_c14, rq_c15, rq_c16, rq_c17, rq_c18, rq_c48, rq_c99, rq_c10368, rq_c30000, rq_eqT, rq_eqF, rq_leT, rq_leF, rq_ltT, rq_ltF, rq_neg, nI_add, pk_mul, pk_sub, pk_div, true_and, and_true, true_implies, false_implies, implies_true, not_true_eq_false, not_false_eq_true, pk_us, Nat.add_sub_cancel, eq_self, hK]
  exact hw _ hp
end
section
variable {tc hh op tp aT aR dp : Int32} {sz ce K A fl sy tm bg ra fd vl sn : Nat → Int32}
theorem rq_y207 {post : SY → Prop} {d f : Nat} (hd : d < 3) (hf : fd d = nI f) (hp : post (tc, hh, op, tp, aT, aR, dp, sz, ce, K, A, fl, sy, tm, bg, ra, upd fd d (nI (f + 1)), vl, sn)) : wY_takeRow_207 post (nI d) tc hh op tp aT aR dp sz ce K A fl sy tm bg ra fd vl sn := by
  unfold wY_takeRow_207
  simp (disch := omega) only [forall_eq, vp_in_nI, nI_clamp, rq_c0, rq_c1, rq_c2, rq_c3, rq_c6, rq_c7, rq_c8, rq_c9, rq_c10, rq_c11, rq_c12, rq_c13, rq_c14, rq_c15, rq_c16, rq_c17, rq_c18, rq_c48, rq_c99, rq_c10368, rq_c30000, rq_eqT, rq_eqF, rq_leT, rq_leF, rq_ltT, rq_ltF, rq_neg, nI_add, pk_mul, pk_sub, pk_div, true_and, and_true, true_implies, false_implies, implies_true, not_true_eq_false, not_false_eq_true, pk_us, Nat.add_sub_cancel, eq_self, hf]
  exact hp
theorem rq_yT12 {post : SY → Prop} {d f k : Nat} {x : Int32} (hd : d < 3) (hf : fd d = nI f) (hk : k ≤ 13) (hp : post (tc, hh, op, tp, aT, aR, nI (d + 1), sz, ce, K, A, fl, sy, tm, bg, ra, upd fd d (nI (f + 1)), vl, sn)) : wpY_takeRow post (tc, hh, op, tp, aT, aR, nI (d + 1), sz, ce, K, A, fl, sy, tm, bg, ra, fd, vl, sn) (nI k) x := by
  unfold wpY_takeRow
  simp (disch := omega) only [forall_eq, vp_in_nI, nI_clamp, rq_c0, rq_c1, rq_c2, rq_c3, rq_c6, rq_c7, rq_c8, rq_c9, rq_c10, rq_c11, rq_c12, rq_c13, rq_c14, rq_c15, rq_c16, rq_c17, rq_c18, rq_c48, rq_c99, rq_c10368, rq_c30000, rq_eqT, rq_eqF, rq_leT, rq_leF, rq_ltT, rq_ltF, rq_neg, nI_add, pk_mul, pk_sub, pk_div, true_and, and_true, true_implies, false_implies, implies_true, not_true_eq_false, not_false_eq_true, pk_us, Nat.add_sub_cancel, eq_self]
  exact rq_y207 hd hf hp
theorem rq_yT14 {post : SY → Prop} {d f : Nat} {x : Int32} (hd : d < 3) (hf : fd d = nI f) (hp : post (tc, hh, op, tp, aT, aR, nI (d + 1), sz, ce, K, A, fl, sy, tm, bg, ra, upd fd d (nI (f + 1)), upd vl d (vl d + x), sn)) : wpY_takeRow post (tc, hh, op, tp, aT, aR, nI (d + 1), sz, ce, K, A, fl, sy, tm, bg, ra, fd, vl, sn) (nI 14) x := by
  unfold wpY_takeRow
  simp (disch := omega) only [forall_eq, vp_in_nI, nI_clamp, rq_c0, rq_c1, rq_c2, rq_c3, rq_c6, rq_c7, rq_c8, rq_c9, rq_c10, rq_c11, rq_c12, rq_c13, rq_c14, rq_c15, rq_c16, rq_c17, rq_c18, rq_c48, rq_c99, rq_c10368, rq_c30000, rq_eqT, rq_eqF, rq_leT, rq_leF, rq_ltT, rq_ltF, rq_neg, nI_add, pk_mul, pk_sub, pk_div, true_and, and_true, true_implies, false_implies, implies_true, not_true_eq_false, not_false_eq_true, pk_us, Nat.add_sub_cancel, eq_self]
  exact rq_y207 hd hf hp
theorem rq_yT15 {post : SY → Prop} {d f : Nat} {x : Int32} (hd : d < 3) (hf : fd d = nI f) (h6 : f ≤ 6) (hp : post (tc, hh, op, tp, aT, aR, nI (d + 1), sz, ce, K, A, fl, sy, tm, bg, ra, upd fd d (nI (f + 1)), upd vl d (rq_mx f x (vl d)), sn)) : wpY_takeRow post (tc, hh, op, tp, aT, aR, nI (d + 1), sz, ce, K, A, fl, sy, tm, bg, ra, fd, vl, sn) (nI 15) x := by
  unfold wpY_takeRow wY_takeRow_60 wY_takeRow_70
  by_cases z : f = 0
  · rw [rq_mx, if_pos z] at hp
    simp (disch := omega) only [forall_eq, vp_in_nI, nI_clamp, rq_c0, rq_c1, rq_c2, rq_c3, rq_c6, rq_c7, rq_c8, rq_c9, rq_c10, rq_c11, rq_c12, rq_c13, rq_c14, rq_c15, rq_c16, rq_c17, rq_c18, rq_c48, rq_c99, rq_c10368, rq_c30000, rq_eqT, rq_eqF, rq_leT, rq_leF, rq_ltT, rq_ltF, rq_neg, nI_add, pk_mul, pk_sub, pk_div, true_and, and_true, true_implies, false_implies, implies_true, not_true_eq_false, not_false_eq_true, pk_us, Nat.add_sub_cancel, eq_self, hf]
    exact rq_y207 hd hf hp
  · by_cases c : x ≤ vl d
    · rw [rq_mx, if_neg z, if_pos c] at hp
      simp (disch := omega) only [forall_eq, vp_in_nI, nI_clamp, rq_c0, rq_c1, rq_c2, rq_c3, rq_c6, rq_c7, rq_c8, rq_c9, rq_c10, rq_c11, rq_c12, rq_c13, rq_c14, rq_c15, rq_c16, rq_c17, rq_c18, rq_c48, rq_c99, rq_c10368, rq_c30000, rq_eqT, rq_eqF, rq_leT, rq_leF, rq_ltT, rq_ltF, rq_neg, nI_add, pk_mul, pk_sub, pk_div, true_and, and_true, true_implies, false_implies, implies_true, not_true_eq_false, not_false_eq_true, pk_us, Nat.add_sub_cancel, eq_self, hf, c]
      exact rq_y207 hd hf hp
    · rw [rq_mx, if_neg z, if_neg c] at hp
      simp (disch := omega) only [forall_eq, vp_in_nI, nI_clamp, rq_c0, rq_c1, rq_c2, rq_c3, rq_c6, rq_c7, rq_c8, rq_c9, rq_c10, rq_c11, rq_c12, rq_c13, rq_c14, rq_c15, rq_c16, rq_c17, rq_c18, rq_c48, rq_c99, rq_c10368, rq_c30000, rq_eqT, rq_eqF, rq_leT, rq_leF, rq_ltT, rq_ltF, rq_neg, nI_add, pk_mul, pk_sub, pk_div, true_and, and_true, true_implies, false_implies, implies_true, not_true_eq_false, not_false_eq_true, pk_us, Nat.add_sub_cancel, eq_self, hf, c]
      exact rq_y207 hd hf hp
theorem rq_yT16 {post : SY → Prop} {d f : Nat} {x : Int32} (hd : d < 3) (hf : fd d = nI f) (h6 : f ≤ 6) (hp : post (tc, hh, op, tp, aT, aR, nI (d + 1), sz, ce, K, A, fl, sy, tm, bg, ra, upd fd d (nI (f + 1)), upd vl d (rq_mn f x (vl d)), sn)) : wpY_takeRow post (tc, hh, op, tp, aT, aR, nI (d + 1), sz, ce, K, A, fl, sy, tm, bg, ra, fd, vl, sn) (nI 16) x := by
  unfold wpY_takeRow wY_takeRow_104 wY_takeRow_114
  by_cases z : f = 0
  · rw [rq_mn, if_pos z] at hp
    simp (disch := omega) only [forall_eq, vp_in_nI, nI_clamp, rq_c0, rq_c1, rq_c2, rq_c3, rq_c6, rq_c7, rq_c8, rq_c9, rq_c10, rq_c11, rq_c12, rq_c13, rq_c14, rq_c15, rq_c16, rq_c17, rq_c18, rq_c48, rq_c99, rq_c10368, rq_c30000, rq_eqT, rq_eqF, rq_leT, rq_leF, rq_ltT, rq_ltF, rq_neg, nI_add, pk_mul, pk_sub, pk_div, true_and, and_true, true_implies, false_implies, implies_true, not_true_eq_false, not_false_eq_true, pk_us, Nat.add_sub_cancel, eq_self, hf]
    exact rq_y207 hd hf hp
  · by_cases c : vl d ≤ x
    · rw [rq_mn, if_neg z, if_pos c] at hp
      simp (disch := omega) only [forall_eq, vp_in_nI, nI_clamp, rq_c0, rq_c1, rq_c2, rq_c3, rq_c6, rq_c7, rq_c8, rq_c9, rq_c10, rq_c11, rq_c12, rq_c13, rq_c14, rq_c15, rq_c16, rq_c17, rq_c18, rq_c48, rq_c99, rq_c10368, rq_c30000, rq_eqT, rq_eqF, rq_leT, rq_leF, rq_ltT, rq_ltF, rq_neg, nI_add, pk_mul, pk_sub, pk_div, true_and, and_true, true_implies, false_implies, implies_true, not_true_eq_false, not_false_eq_true, pk_us, Nat.add_sub_cancel, eq_self, hf, c]
      exact rq_y207 hd hf hp
    · rw [rq_mn, if_neg z, if_neg c] at hp
      simp (disch := omega) only [forall_eq, vp_in_nI, nI_clamp, rq_c0, rq_c1, rq_c2, rq_c3, rq_c6, rq_c7, rq_c8, rq_c9, rq_c10, rq_c11, rq_c12, rq_c13, rq_c14, rq_c15, rq_c16, rq_c17, rq_c18, rq_c48, rq_c99, rq_c10368, rq_c30000, rq_eqT, rq_eqF, rq_leT, rq_leF, rq_ltT, rq_ltF, rq_neg, nI_add, pk_mul, pk_sub, pk_div, true_and, and_true, true_implies, false_implies, implies_true, not_true_eq_false, not_false_eq_true, pk_us, Nat.add_sub_cancel, eq_self, hf, c]
      exact rq_y207 hd hf hp
theorem rq_y130 {post : SY → Prop} {d m0 : Nat} {x : Int32} (hd : d < 3) (hm : vl d = nI m0) (h5 : m0 ≤ 5)
    (h0 : (∃ j, j < m0 ∧ sn (6 * d + j) = x) → wY_takeRow_207 post (nI d) tc hh op tp aT aR dp sz ce K A fl sy tm bg ra fd vl sn)
    (h1 : (¬ ∃ j, j < m0 ∧ sn (6 * d + j) = x) → wY_takeRow_207 post (nI d) tc hh op tp aT aR dp sz ce K A fl sy tm bg ra fd (upd vl d (nI (m0 + 1))) (upd sn (6 * d + m0) x)) :
    ∀ w j z, j + w = m0 → ((z = 0 ∧ ∃ i, i < j ∧ sn (6 * d + i) = x) ∨ (z = 1 ∧ ∀ i, i < j → ¬ sn (6 * d + i) = x)) → wY_takeRow_130 post x (nI d) tc hh op tp aT aR dp sz ce K A fl sy tm bg ra fd vl sn (w + 1) (nI z) (nI j) := by
  intro w
  induction w with
  | zero =>
    intro j z hj hz
    rw [wY_takeRow_130]
    rcases hz with ⟨rfl, i, i1, i2⟩ | ⟨rfl, hz⟩
    · simp (disch := omega) only [forall_eq, vp_in_nI, nI_clamp, rq_c0, rq_c1, rq_c2, rq_c3, rq_c6, rq_c7, rq_c8, rq_c9, rq_c10, rq_c11, rq_c12, rq_c13, rq_c14, rq_c15, rq_c16, rq_c17, rq_c18, rq_c48, rq_c99, rq_c10368, rq_c30000, rq_eqT, rq_eqF, rq_leT, rq_leF, rq_ltT, rq_ltF, rq_neg, nI_add, pk_mul, pk_sub, pk_div, true_and, and_true, true_implies, false_implies, implies_true, not_true_eq_false, not_false_eq_true, pk_us, Nat.add_sub_cancel, eq_self, hm]
      exact h0 ⟨i, by omega, i2⟩
    · simp (disch := omega) only [forall_eq, vp_in_nI, nI_clamp, rq_c0, rq_c1, rq_c2, rq_c3, rq_c6, rq_c7, rq_c8, rq_c9, rq_c10, rq_c11, rq_c12, rq_c13, rq_c14, rq_c15, rq_c16, rq_c17, rq_c18, rq_c48, rq_c99, rq_c10368, rq_c30000, rq_eqT, rq_eqF, rq_leT, rq_leF, rq_ltT, rq_ltF, rq_neg, nI_add, pk_mul, pk_sub, pk_div, true_and, and_true, true_implies, false_implies, implies_true, not_true_eq_false, not_false_eq_true, pk_us, Nat.add_sub_cancel, eq_self, hm]
      exact h1 fun ⟨i, i1, i2⟩ => hz i (by omega) i2
  | succ w ih =>
    intro j z hj hz
    rw [wY_takeRow_130]
    rcases hz with ⟨rfl, i, i1, i2⟩ | ⟨rfl, hz⟩
    · simp (disch := omega) only [forall_eq, vp_in_nI, nI_clamp, rq_c0, rq_c1, rq_c2, rq_c3, rq_c6, rq_c7, rq_c8, rq_c9, rq_c10, rq_c11, rq_c12, rq_c13, rq_c14, rq_c15, rq_c16, rq_c17, rq_c18, rq_c48, rq_c99, rq_c10368, rq_c30000, rq_eqT, rq_eqF, rq_leT, rq_leF, rq_ltT, rq_ltF, rq_neg, nI_add, pk_mul, pk_sub, pk_div, true_and, and_true, true_implies, false_implies, implies_true, not_true_eq_false, not_false_eq_true, pk_us, Nat.add_sub_cancel, eq_self, hm]
      exact ih (j + 1) 0 (by omega) (Or.inl ⟨rfl, i, by omega, i2⟩)
    · simp (disch := omega) only [forall_eq, vp_in_nI, nI_clamp, rq_c0, rq_c1, rq_c2, rq_c3, rq_c6, rq_c7, rq_c8, rq_c9, rq_c10, rq_c11, rq_c12, rq_c13, rq_c14, rq_c15, rq_c16, rq_c17, rq_c18, rq_c48, rq_c99, rq_c10368, rq_c30000, rq_eqT, rq_eqF, rq_leT, rq_leF, rq_ltT, rq_ltF, rq_neg, nI_add, pk_mul, pk_sub, pk_div, true_and, and_true, true_implies, false_implies, implies_true, not_true_eq_false, not_false_eq_true, pk_us, Nat.add_sub_cancel, eq_self, hm]
      refine ⟨fun e => ih (j + 1) 0 (by omega) (Or.inl ⟨rfl, j, by omega, e⟩), fun e => ih (j + 1) 1 (by omega) (Or.inr ⟨rfl, fun i hi => ?_⟩)⟩
      by_cases y : i = j
      · rw [y]; exact e
      · exact hz i (by omega)
theorem rq_yT17 {post : SY → Prop} {d f m0 : Nat} {x : Int32} (hd : d < 3) (hf : fd d = nI f) (hm : vl d = nI m0) (h5 : m0 ≤ 5)
    (h0 : (∃ j, j < m0 ∧ sn (6 * d + j) = x) → post (tc, hh, op, tp, aT, aR, nI (d + 1), sz, ce, K, A, fl, sy, tm, bg, ra, upd fd d (nI (f + 1)), vl, sn))
    (h1 : (¬ ∃ j, j < m0 ∧ sn (6 * d + j) = x) → post (tc, hh, op, tp, aT, aR, nI (d + 1), sz, ce, K, A, fl, sy, tm, bg, ra, upd fd d (nI (f + 1)), upd vl d (nI (m0 + 1)), upd sn (6 * d + m0) x)) : wpY_takeRow post (tc, hh, op, tp, aT, aR, nI (d + 1), sz, ce, K, A, fl, sy, tm, bg, ra, fd, vl, sn) (nI 17) x := by
  unfold wpY_takeRow
  simp (disch := omega) only [forall_eq, vp_in_nI, nI_clamp, rq_c0, rq_c1, rq_c2, rq_c3, rq_c6, rq_c7, rq_c8, rq_c9, rq_c10, rq_c11, rq_c12, rq_c13, rq_c14, rq_c15, rq_c16, rq_c17, rq_c18, rq_c48, rq_c99, rq_c10368, rq_c30000, rq_eqT, rq_eqF, rq_leT, rq_leF, rq_ltT, rq_ltF, rq_neg, nI_add, pk_mul, pk_sub, pk_div, true_and, and_true, true_implies, false_implies, implies_true, not_true_eq_false, not_false_eq_true, pk_us, Nat.add_sub_cancel, eq_self]
  exact ⟨_, rq_y130 hd hm h5 (fun z => rq_y207 hd hf (h0 z)) (fun z => rq_y207 hd hf (h1 z)) m0 0 1 (by omega) (Or.inr ⟨rfl, fun i hi => by omega⟩)⟩
theorem rq_yCell {post : Int32 → Prop} {a o t r : Nat} (ha : a < 9) (hb : bg (a / 3) = nI o) (ho : o < 48) (ht : A o = nI t) (hr : ra (a / 3) = nI r) (ht3 : t < 3) (h5 : r ≤ 5) (hp : post (ce (18 * t + 3 * r + (a - a / 3 * 3)))) : wpY_cellAtHand post (tc, hh, op, tp, aT, aR, dp, sz, ce, K, A, fl, sy, tm, bg, ra, fd, vl, sn) (nI a) := by
  unfold wpY_cellAtHand
  simp (disch := omega) only [forall_eq, vp_in_nI, nI_clamp, rq_c0, rq_c1, rq_c2, rq_c3, rq_c6, rq_c7, rq_c8, rq_c9, rq_c10, rq_c11, rq_c12, rq_c13, rq_c14, rq_c15, rq_c16, rq_c17, rq_c18, rq_c48, rq_c99, rq_c10368, rq_c30000, rq_eqT, rq_eqF, rq_leT, rq_leF, rq_ltT, rq_ltF, rq_neg, nI_add, pk_mul, pk_sub, pk_div, true_and, and_true, true_implies, false_implies, implies_true, not_true_eq_false, not_false_eq_true, pk_us, Nat.add_sub_cancel, eq_self, hb, hr, ht]
  exact hp
theorem rq_yJoin {post : Int32 → Prop} {k : Nat} {n m : Int32} (h2 : 2 ≤ k) (h8 : k ≤ 8) (hp : post (rq_jn k n m)) : wpY_joined post (tc, hh, op, tp, aT, aR, dp, sz, ce, K, A, fl, sy, tm, bg, ra, fd, vl, sn) (nI k) n m := rq_xComb h2 h8 hp
theorem rq_yS10 {post : Int32 → SY → Prop} {i d : Nat} {r : Int32} {T : SY} (hi : i < 48) (hd : d < 3) (hK : K i = nI 10)
    (hg : ∀ p : Int32 → SY → Prop, p r T → wpY_nextRow p (tc, hh, op, tp, aT, aR, nI (d + 1), sz, ce, K, A, fl, sy, upd tm i (tm i + 1), upd bg d (nI i), upd ra d (-1), upd fd d 0, upd vl d 0, sn)) (hp : post r T) : wpY_step post (tc, hh, op, tp, aT, aR, nI d, sz, ce, K, A, fl, sy, tm, bg, ra, fd, vl, sn) (nI i) := by
  unfold wpY_step wpY_beginRows
  simp (disch := omega) only [forall_eq, vp_in_nI, nI_clamp, rq_c0, rq_c1, rq_c2, rq_c3, rq_c6, rq_c7, rq_c8, rq_c9, rq_c10, rq_c11, rq_c12, rq_c13, rq_c14, rq_c15, rq_c16, rq_c17, rq_c18, rq_c48, rq_c99, rq_c10368, rq_c30000, rq_eqT, rq_eqF, rq_leT, rq_leF, rq_ltT, rq_ltF, rq_neg, nI_add, pk_mul, pk_sub, pk_div, true_and, and_true, true_implies, false_implies, implies_true, not_true_eq_false, not_false_eq_true, pk_us, Nat.add_sub_cancel, eq_self, hK]
  exact hg _ hp
theorem rq_yS0 {post : Int32 → SY → Prop} {i h : Nat} (hi : i < 48) (hK : K i = nI 0) (h5 : h ≤ 5) (hp : post (nI (i + 1)) (tc, hh, op, nI (h + 1), aT, aR, dp, sz, ce, K, A, fl, upd sy h (A i), upd tm i (tm i + 1), bg, ra, fd, vl, sn)) : wpY_step post (tc, hh, op, nI h, aT, aR, dp, sz, ce, K, A, fl, sy, tm, bg, ra, fd, vl, sn) (nI i) := by
  unfold wpY_step wpY_takes wY_takes_13 wY_step_64 wpY_push
  simp (disch := omega) only [forall_eq, vp_in_nI, nI_clamp, rq_c0, rq_c1, rq_c2, rq_c3, rq_c6, rq_c7, rq_c8, rq_c9, rq_c10, rq_c11, rq_c12, rq_c13, rq_c14, rq_c15, rq_c16, rq_c17, rq_c18, rq_c48, rq_c99, rq_c10368, rq_c30000, rq_eqT, rq_eqF, rq_leT, rq_leF, rq_ltT, rq_ltF, rq_neg, nI_add, pk_mul, pk_sub, pk_div, true_and, and_true, true_implies, false_implies, implies_true, not_true_eq_false, not_false_eq_true, pk_us, Nat.add_sub_cancel, eq_self, hK, Nat.sub_zero]
  exact hp
theorem rq_yS1 {post : Int32 → SY → Prop} {i h a o t r : Nat} (hi : i < 48) (hK : K i = nI 1) (h5 : h ≤ 5) (hA' : A i = nI a) (ha : a < 9) (hb : bg (a / 3) = nI o) (ho : o < 48) (ht : A o = nI t) (hr : ra (a / 3) = nI r) (ht3 : t < 3) (hr5 : r ≤ 5)
    (hp : post (nI (i + 1)) (tc, hh, op, nI (h + 1), aT, aR, dp, sz, ce, K, A, fl, upd sy h (ce (18 * t + 3 * r + (a - a / 3 * 3))), upd tm i (tm i + 1), bg, ra, fd, vl, sn)) : wpY_step post (tc, hh, op, nI h, aT, aR, dp, sz, ce, K, A, fl, sy, tm, bg, ra, fd, vl, sn) (nI i) := by
  unfold wpY_step wpY_takes wY_takes_13 wY_step_64 wpY_push
  simp (disch := omega) only [forall_eq, vp_in_nI, nI_clamp, rq_c0, rq_c1, rq_c2, rq_c3, rq_c6, rq_c7, rq_c8, rq_c9, rq_c10, rq_c11, rq_c12, rq_c13, rq_c14, rq_c15, rq_c16, rq_c17, rq_c18, rq_c48, rq_c99, rq_c10368, rq_c30000, rq_eqT, rq_eqF, rq_leT, rq_leF, rq_ltT, rq_ltF, rq_neg, nI_add, pk_mul, pk_sub, pk_div, true_and, and_true, true_implies, false_implies, implies_true, not_true_eq_false, not_false_eq_true, pk_us, Nat.add_sub_cancel, eq_self, hK, Nat.sub_zero, hA']
  exact rq_yCell ha hb ho ht hr ht3 hr5 hp
theorem rq_yS2 {post : Int32 → SY → Prop} {i h k : Nat} (hi : i < 48) (hK : K i = nI k) (h2 : 2 ≤ k) (h8 : k ≤ 8) (h5 : h ≤ 4)
    (hp : post (nI (i + 1)) (tc, hh, op, nI (h + 1), aT, aR, dp, sz, ce, K, A, fl, upd sy h (rq_jn k (sy h) (sy (h + 1))), upd tm i (tm i + 1), bg, ra, fd, vl, sn)) : wpY_step post (tc, hh, op, nI (h + 2), aT, aR, dp, sz, ce, K, A, fl, sy, tm, bg, ra, fd, vl, sn) (nI i) := by
  unfold wpY_step wpY_takes wY_takes_13 wY_step_64 wpY_push
  simp (disch := omega) only [forall_eq, vp_in_nI, nI_clamp, rq_c0, rq_c1, rq_c2, rq_c3, rq_c6, rq_c7, rq_c8, rq_c9, rq_c10, rq_c11, rq_c12, rq_c13, rq_c14, rq_c15, rq_c16, rq_c17, rq_c18, rq_c48, rq_c99, rq_c10368, rq_c30000, rq_eqT, rq_eqF, rq_leT, rq_leF, rq_ltT, rq_ltF, rq_neg, nI_add, pk_mul, pk_sub, pk_div, true_and, and_true, true_implies, false_implies, implies_true, not_true_eq_false, not_false_eq_true, pk_us, Nat.add_sub_cancel, eq_self, hK]
  exact rq_yJoin h2 h8 hp
theorem rq_yS9 {post : Int32 → SY → Prop} {i h : Nat} (hi : i < 48) (hK : K i = nI 9) (h5 : h ≤ 5)
    (hp : post (nI (i + 1)) (tc, hh, op, nI (h + 1), aT, aR, dp, sz, ce, K, A, fl, upd sy h (if sy h = 0 then 1 else 0), upd tm i (tm i + 1), bg, ra, fd, vl, sn)) : wpY_step post (tc, hh, op, nI (h + 1), aT, aR, dp, sz, ce, K, A, fl, sy, tm, bg, ra, fd, vl, sn) (nI i) := by
  unfold wpY_step wpY_takes wY_takes_13 wY_step_64 wY_step_158 wpY_push
  simp (disch := omega) only [forall_eq, vp_in_nI, nI_clamp, rq_c0, rq_c1, rq_c2, rq_c3, rq_c6, rq_c7, rq_c8, rq_c9, rq_c10, rq_c11, rq_c12, rq_c13, rq_c14, rq_c15, rq_c16, rq_c17, rq_c18, rq_c48, rq_c99, rq_c10368, rq_c30000, rq_eqT, rq_eqF, rq_leT, rq_leF, rq_ltT, rq_ltF, rq_neg, nI_add, pk_mul, pk_sub, pk_div, true_and, and_true, true_implies, false_implies, implies_true, not_true_eq_false, not_false_eq_true, pk_us, Nat.add_sub_cancel, eq_self, hK]
  exact ⟨fun z => by rw [if_pos (show sy h = 0 from z)] at hp; exact hp, fun z => by rw [if_neg (show ¬ sy h = 0 from z)] at hp; exact hp⟩
theorem rq_yS11a {post : Int32 → SY → Prop} {i h : Nat} {r : Int32} {T : SY} (hi : i < 48) (hK : K i = nI 11) (h5 : h ≤ 5) (hz : sy h = 0)
    (hg : ∀ p : Int32 → SY → Prop, p r T → wpY_nextRow p (tc, hh, op, nI h, aT, aR, dp, sz, ce, K, A, fl, sy, upd tm i (tm i + 1), bg, ra, fd, vl, sn)) (hp : post r T) : wpY_step post (tc, hh, op, nI (h + 1), aT, aR, dp, sz, ce, K, A, fl, sy, tm, bg, ra, fd, vl, sn) (nI i) := by
  rw [rq_c0] at hz
  unfold wpY_step wpY_takes wY_takes_13 wY_step_64
  simp (disch := omega) only [forall_eq, vp_in_nI, nI_clamp, rq_c0, rq_c1, rq_c2, rq_c3, rq_c6, rq_c7, rq_c8, rq_c9, rq_c10, rq_c11, rq_c12, rq_c13, rq_c14, rq_c15, rq_c16, rq_c17, rq_c18, rq_c48, rq_c99, rq_c10368, rq_c30000, rq_eqT, rq_eqF, rq_leT, rq_leF, rq_ltT, rq_ltF, rq_neg, nI_add, pk_mul, pk_sub, pk_div, true_and, and_true, true_implies, false_implies, implies_true, not_true_eq_false, not_false_eq_true, pk_us, Nat.add_sub_cancel, eq_self, hK, hz]
  exact hg _ hp
theorem rq_yS11b {post : Int32 → SY → Prop} {i h : Nat} (hi : i < 48) (hK : K i = nI 11) (h5 : h ≤ 5) (hz : ¬ sy h = 0)
    (hp : post (nI (i + 1)) (tc, hh, op, nI h, aT, aR, dp, sz, ce, K, A, fl, sy, upd tm i (tm i + 1), bg, ra, fd, vl, sn)) : wpY_step post (tc, hh, op, nI (h + 1), aT, aR, dp, sz, ce, K, A, fl, sy, tm, bg, ra, fd, vl, sn) (nI i) := by
  rw [rq_c0] at hz
  unfold wpY_step wpY_takes wY_takes_13 wY_step_64
  simp (disch := omega) only [forall_eq, vp_in_nI, nI_clamp, rq_c0, rq_c1, rq_c2, rq_c3, rq_c6, rq_c7, rq_c8, rq_c9, rq_c10, rq_c11, rq_c12, rq_c13, rq_c14, rq_c15, rq_c16, rq_c17, rq_c18, rq_c48, rq_c99, rq_c10368, rq_c30000, rq_eqT, rq_eqF, rq_leT, rq_leF, rq_ltT, rq_ltF, rq_neg, nI_add, pk_mul, pk_sub, pk_div, true_and, and_true, true_implies, false_implies, implies_true, not_true_eq_false, not_false_eq_true, pk_us, Nat.add_sub_cancel, eq_self, hK, hz]
  exact hp
theorem rq_ySE0 {post : Int32 → SY → Prop} {i h k : Nat} {r : Int32} {T : SY} {fd' vl' sn' : Nat → Int32} (hi : i < 48) (hK : K i = nI k) (h12 : 12 ≤ k) (h13 : k ≤ 13) (h5 : h ≤ 6)
    (ht : ∀ p : SY → Prop, p (tc, hh, op, nI h, aT, aR, dp, sz, ce, K, A, fl, sy, upd tm i (tm i + 1), bg, ra, fd', vl', sn') → wpY_takeRow p (tc, hh, op, nI h, aT, aR, dp, sz, ce, K, A, fl, sy, upd tm i (tm i + 1), bg, ra, fd, vl, sn) (nI k) 0)
    (hg : ∀ p : Int32 → SY → Prop, p r T → wpY_nextRow p (tc, hh, op, nI h, aT, aR, dp, sz, ce, K, A, fl, sy, upd tm i (tm i + 1), bg, ra, fd', vl', sn')) (hp : post r T) : wpY_step post (tc, hh, op, nI h, aT, aR, dp, sz, ce, K, A, fl, sy, tm, bg, ra, fd, vl, sn) (nI i) := by
  unfold wpY_step wpY_takes wY_takes_13 wY_step_64
  simp (disch := omega) only [forall_eq, vp_in_nI, nI_clamp, rq_c0, rq_c1, rq_c2, rq_c3, rq_c6, rq_c7, rq_c8, rq_c9, rq_c10, rq_c11, rq_c12, rq_c13, rq_c14, rq_c15, rq_c16, rq_c17, rq_c18, rq_c48, rq_c99, rq_c10368, rq_c30000, rq_eqT, rq_eqF, rq_leT, rq_leF, rq_ltT, rq_ltF, rq_neg, nI_add, pk_mul, pk_sub, pk_div, true_and, and_true, true_implies, false_implies, implies_true, not_true_eq_false, not_false_eq_true, pk_us, Nat.add_sub_cancel, eq_self, hK, Nat.sub_zero]
  refine ht _ ?_
  exact hg _ hp
theorem rq_ySE1 {post : Int32 → SY → Prop} {i h k : Nat} {r : Int32} {T : SY} {fd' vl' sn' : Nat → Int32} (hi : i < 48) (hK : K i = nI k) (h14 : 14 ≤ k) (h17 : k ≤ 17) (h5 : h ≤ 5)
    (ht : ∀ p : SY → Prop, p (tc, hh, op, nI h, aT, aR, dp, sz, ce, K, A, fl, sy, upd tm i (tm i + 1), bg, ra, fd', vl', sn') → wpY_takeRow p (tc, hh, op, nI h, aT, aR, dp, sz, ce, K, A, fl, sy, upd tm i (tm i + 1), bg, ra, fd, vl, sn) (nI k) (sy h))
    (hg : ∀ p : Int32 → SY → Prop, p r T → wpY_nextRow p (tc, hh, op, nI h, aT, aR, dp, sz, ce, K, A, fl, sy, upd tm i (tm i + 1), bg, ra, fd', vl', sn')) (hp : post r T) : wpY_step post (tc, hh, op, nI (h + 1), aT, aR, dp, sz, ce, K, A, fl, sy, tm, bg, ra, fd, vl, sn) (nI i) := by
  unfold wpY_step wpY_takes wY_takes_13 wY_step_64
  simp (disch := omega) only [forall_eq, vp_in_nI, nI_clamp, rq_c0, rq_c1, rq_c2, rq_c3, rq_c6, rq_c7, rq_c8, rq_c9, rq_c10, rq_c11, rq_c12, rq_c13, rq_c14, rq_c15, rq_c16, rq_c17, rq_c18, rq_c48, rq_c99, rq_c10368, rq_c30000, rq_eqT, rq_eqF, rq_leT, rq_leF, rq_ltT, rq_ltF, rq_neg, nI_add, pk_mul, pk_sub, pk_div, true_and, and_true, true_implies, false_implies, implies_true, not_true_eq_false, not_false_eq_true, pk_us, Nat.add_sub_cancel, eq_self, hK]
  refine ht _ ?_
  exact hg _ hp
end
end
section
/-! both sides in one step -/
section
variable {hh op aT aR : Int32} {n : Nat} {ce sz K A hA dA oA C sx tb rh oc kr kn fl sy bg ra fd vl sn : Nat → Int32} {H D O : Nat → Nat}
def rq_Sz (sz : Nat → Int32) : Prop := ∀ t, t < 3 → ∃ s, s ≤ 6 ∧ sz t = nI s
theorem rq_skip {a q : Nat} : ∃ q', ((nI a = aT ∧ nI q = aR ∧ q' = q + 1) ∨ (¬ (nI a = aT ∧ nI q = aR) ∧ q' = q)) ∧ q ≤ q' ∧ q' ≤ q + 1 := by
  by_cases z : nI a = aT ∧ nI q = aR
  · exact ⟨q + 1, Or.inl ⟨z.1, z.2, rfl⟩, by omega, by omega⟩
  · exact ⟨q, Or.inr ⟨z, rfl⟩, by omega, by omega⟩
theorem rq_goNext (P : rq_Prof n K A C hA dA oA H D O) (h0 : D n = 0) (hs : rq_Sz sz) {o t q : Nat} {B r f : Nat → Nat} {tp dp : Int32}
    (S : rq_Pre n K A C H D O o t q B r f sx tb rh oc kr kn sy bg ra fd vl sn tp dp) :
    ∃ (i' : Nat) (r' : Nat → Nat) (sx' rh' sy' ra' : Nat → Int32) (tp' dp' : Int32), rq_Sim n K A C H D O i' t B r' f sx' tb rh' oc kr kn sy' bg ra' fd vl sn tp' dp' ∧
    (∀ (tm : Nat → Int32) (post : Int32 → SX → Prop), post (nI i') (nI n, aT, aR, ce, sz, K, A, hA, dA, oA, C, sx', tb, rh', oc, kr, kn, tm) → wpX_goToNextRow post (nI n, aT, aR, ce, sz, K, A, hA, dA, oA, C, sx, tb, rh, oc, kr, kn, tm) (nI o)) ∧
    (∀ (tm : Nat → Int32) (post : Int32 → SY → Prop), post (nI i') (nI n, hh, op, tp', aT, aR, dp', sz, ce, K, A, fl, sy', tm, bg, ra', fd, vl, sn) → wpY_nextRow post (nI n, hh, op, tp, aT, aR, dp, sz, ce, K, A, fl, sy, tm, bg, ra, fd, vl, sn)) := by
  have S' := S
  obtain ⟨⟨s1, s2, s3, s4⟩, ⟨s5a, s5b⟩, s6, s7, s8, ⟨R, s9, b1, b2, b3, b4, b5, b6⟩, s11⟩ := S
  obtain ⟨⟨a, ha, hA'⟩, g2, g3, g4, g5⟩ := rq_rows P s1 s2
  obtain ⟨s, hs6, hsz⟩ := hs a ha
  obtain ⟨c1, c2, ⟨k, q1, q2, q3, q4, q5, q6, q7, q8, q9, q10, q11⟩, c4⟩ := rq_closer P h0 s1 s2
  have hP := P.2.2.1 o (by omega)
  have hn := P.1
  obtain ⟨q', hq, hq1, hq2⟩ := rq_skip (aT := aT) (aR := aR) (a := a) (q := q)
  subst s5a s5b
  by_cases h : q' < s
  · refine ⟨o + 1, rq_put r (D o) q', sx, upd rh (D o) (nI q'), sy, upd ra (D o) (nI q'), nI (H o), nI (D o + 1), rq_next1 P S' hq1 (by omega), fun tm post hp => ?_, fun tm post hp => ?_⟩
    · exact rq_xGo (by omega) g2 hP.2.1 (b2.trans hA') (by rw [b3]; exact s9) hq (rq_xNextA (by omega) g2 ha hsz hs6 h hp)
    · exact rq_yNextA (by omega) g2 ha b1 hA' hsz hs6 (by rw [b4]; exact s9) hq h hp
  · refine ⟨rq_cl C o + 1, r, upd sx (H o) (oc (D o)), rh, upd sy (H o) (oc (D o)), upd ra (D o) (nI q'), nI (H o + 1), nI (D o), rq_next2 P h0 S' _ _, fun tm post hp => ?_, fun tm post hp => ?_⟩
    · exact rq_xGo (by omega) g2 hP.2.1 (b2.trans hA') (by rw [b3]; exact s9) hq (rq_xNextB (by omega) g2 ha hsz hs6 (by omega) (by omega) hP.1 q11 q6 hp)
    · exact rq_yNextB P h0 s1 s2 g2 ha b1 hA' hsz hs6 (by rw [b4]; exact s9) hq (by omega) (by omega) q11 (rq_outV b6 b5 (by omega)) hp
/-- one step: where both sides are then -/
def rq_Nx (n : Nat) (K A C hA dA oA : Nat → Int32) (H D O : Nat → Nat) (ce sz : Nat → Int32) (aT aR hh op : Int32) (fl : Nat → Int32) (i t : Nat) (sx tb rh oc kr kn sy bg ra fd vl sn : Nat → Int32) (tp dp : Int32) : Prop :=
  ∃ (i' : Nat) (B' r' f' : Nat → Nat) (sx' tb' rh' oc' kr' kn' sy' bg' ra' fd' vl' sn' : Nat → Int32) (tp' dp' : Int32), rq_Sim n K A C H D O i' (t + 1) B' r' f' sx' tb' rh' oc' kr' kn' sy' bg' ra' fd' vl' sn' tp' dp' ∧
    (∀ (tm : Nat → Int32) (post : Int32 → SX → Prop), post (nI i') (nI n, aT, aR, ce, sz, K, A, hA, dA, oA, C, sx', tb', rh', oc', kr', kn', tm) → wpX_workOut post (nI n, aT, aR, ce, sz, K, A, hA, dA, oA, C, sx, tb, rh, oc, kr, kn, tm) (nI i)) ∧
    (∀ (tm : Nat → Int32) (post : Int32 → SY → Prop), post (nI i') (nI n, hh, op, tp', aT, aR, dp', sz, ce, K, A, fl, sy', upd tm i (tm i + 1), bg', ra', fd', vl', sn') → wpY_step post (nI n, hh, op, tp, aT, aR, dp, sz, ce, K, A, fl, sy, tm, bg, ra, fd, vl, sn) (nI i))
variable {i t : Nat} {B r f : Nat → Nat} {tp dp : Int32}
/-- ROWS -/
theorem rq_n10 (P : rq_Prof n K A C hA dA oA H D O) (h0 : D n = 0) (hs : rq_Sz sz) (S : rq_Sim n K A C H D O i t B r f sx tb rh oc kr kn sy bg ra fd vl sn tp dp) (hi : i < n) (hK : K i = nI 10) :
    rq_Nx n K A C hA dA oA H D O ce sz aT aR hh op fl i t sx tb rh oc kr kn sy bg ra fd vl sn tp dp := by
  obtain ⟨_, g2, _⟩ := rq_rows P hi hK
  have hn := P.1
  have hP := P.2.2.1 i (by omega)
  obtain ⟨i', r', sx', rh', sy', ra', tp', dp', S', hX, hY⟩ := rq_goNext (ce := ce) (aT := aT) (aR := aR) (hh := hh) (op := op) (fl := fl) P h0 hs (rq_begin S P hi hK)
  obtain ⟨s1, s2, s3, ⟨s4, s5⟩, s6⟩ := S
  subst s4 s5
  refine ⟨i', _, r', _, sx', _, rh', _, _, kn, sy', _, ra', _, _, sn, tp', dp', S', fun tm post hp => ?_, fun tm post hp => ?_⟩
  · exact rq_xW10 (by omega) g2 hK hP.2.1 (hX tm) hp
  · exact rq_yS10 (by omega) g2 hK (hY _) hp
/-- WHERE -/
theorem rq_n11 (P : rq_Prof n K A C hA dA oA H D O) (h0 : D n = 0) (hs : rq_Sz sz) (S : rq_Sim n K A C H D O i t B r f sx tb rh oc kr kn sy bg ra fd vl sn tp dp) (hi : i < n) (hK : K i = nI 11)
    (hD : 0 < D i) (hH : H i = H (O i) + 1) (h1 : H (i + 1) = H (O i)) (h2 : D (i + 1) = D i) (h3 : O (i + 1) = O i) :
    rq_Nx n K A C hA dA oA H D O ce sz aT aR hh op fl i t sx tb rh oc kr kn sy bg ra fd vl sn tp dp := by
  have hn := P.1
  have hP := P.2.2.1 i (by omega)
  have hO := hP.2.2.2 hD
  have hHA := hP.1
  have I := rq_open P i (by omega)
  have h6 := I.1
  obtain ⟨a1, a2, a3, a4, a5⟩ := I.2.2.1 hD
  have S' := S
  obtain ⟨s1, s2, s3, ⟨s4, s5⟩, s6, s7⟩ := S
  obtain ⟨u1, u2, u3⟩ := s7 (D (O i)) (by omega)
  have hB : B (D (O i)) = O i := (rq_chOut s3 a3).2
  rw [hB] at u3
  have es := s6 (H (O i)) (by omega)
  rw [hH] at hHA s4
  subst s4 s5
  by_cases z : sx (H (O i)) = 0
  · have Pr := rq_rowDone S' P h0 hi hD (g := f (D (O i))) (by omega) (oc' := oc) (kr' := kr) (kn' := kn) (fd' := fd) (vl' := vl) (sn' := sn) (fun b hb => ⟨rfl, rfl, rfl, rfl⟩) (fun j hj => rfl) (fun j hj => rfl) u3.2.2.2.2.1 u3.2.2.2.2.2
    obtain ⟨i', r', sx', rh', sy', ra', tp', dp', S2, hX, hY⟩ := rq_goNext (ce := ce) (aT := aT) (aR := aR) (hh := hh) (op := op) (fl := fl) P h0 hs Pr
    refine ⟨i', _, r', _, sx', tb, rh', oc, kr, kn, sy', bg, ra', fd, vl, sn, tp', dp', S2, fun tm post hp => ?_, fun tm post hp => ?_⟩
    · exact rq_xW11a (by omega) hK hHA (by omega) hO z (hX tm) hp
    · exact rq_yS11a (by omega) hK (by omega) (es ▸ z) (hY _) hp
  · refine ⟨i + 1, B, r, f, sx, tb, rh, oc, kr, kn, sy, bg, ra, fd, vl, sn, nI (H (O i)), nI (D i), rq_plain S' P hi h2 h3 (by rw [h1]) (fun j hj => s6 j (by omega)), fun tm post hp => ?_, fun tm post hp => ?_⟩
    · exact rq_xW11b (by omega) hK hHA (by omega) z hp
    · exact rq_yS11b (by omega) hK (by omega) (es ▸ z) hp
/-- CONST -/
theorem rq_n0 (P : rq_Prof n K A C hA dA oA H D O) (S : rq_Sim n K A C H D O i t B r f sx tb rh oc kr kn sy bg ra fd vl sn tp dp) (hi : i < n) (hK : K i = nI 0)
    (h6 : H (i + 1) ≤ 6) (h1 : H (i + 1) = H i + 1) (h2 : D (i + 1) = D i) (h3 : O (i + 1) = O i) :
    rq_Nx n K A C hA dA oA H D O ce sz aT aR hh op fl i t sx tb rh oc kr kn sy bg ra fd vl sn tp dp := by
  have hn := P.1
  have hP := P.2.2.1 i (by omega)
  have S' := S
  obtain ⟨s1, s2, s3, ⟨s4, s5⟩, s6, s7⟩ := S
  subst s4 s5
  refine ⟨i + 1, B, r, f, upd sx (H i) (A i), tb, rh, oc, kr, kn, upd sy (H i) (A i), bg, ra, fd, vl, sn, nI (H i + 1), nI (D i), rq_plain S' P hi h2 h3 (by rw [h1]) (fun j hj => ?_), fun tm post hp => ?_, fun tm post hp => ?_⟩
  · by_cases e : j = H i
    · rw [e, pk_us, pk_us]
    · rw [pk_un e, pk_un e]
      exact s6 j (by omega)
  · exact rq_xWP (by omega) hK (by omega) (fun p h => rq_xPut0 (by omega) hK hP.1 (by omega) h) hp
  · exact rq_yS0 (by omega) hK (by omega) hp
/-- CELL -/
theorem rq_n1 (P : rq_Prof n K A C hA dA oA H D O) (S : rq_Sim n K A C H D O i t B r f sx tb rh oc kr kn sy bg ra fd vl sn tp dp) (hi : i < n) (hK : K i = nI 1) {a : Nat} (ha : a < 9) (hA' : A i = nI a) (haD : a / 3 < D i)
    (h6 : H (i + 1) ≤ 6) (h1 : H (i + 1) = H i + 1) (h2 : D (i + 1) = D i) (h3 : O (i + 1) = O i) :
    rq_Nx n K A C hA dA oA H D O ce sz aT aR hh op fl i t sx tb rh oc kr kn sy bg ra fd vl sn tp dp := by
  have hn := P.1
  have hP := P.2.2.1 i (by omega)
  have S' := S
  obtain ⟨s1, s2, s3, ⟨s4, s5⟩, s6, s7⟩ := S
  obtain ⟨u1, u2, w1, w2, w3, w4, w5, w6⟩ := s7 (a / 3) haD
  obtain ⟨x1, x2, x3⟩ := rq_chB P s1 s3 (a / 3) haD
  obtain ⟨⟨ta, hta, hAo⟩, _⟩ := rq_rows P (o := B (a / 3)) (by omega) x2
  subst s4 s5
  refine ⟨i + 1, B, r, f, upd sx (H i) (ce (18 * ta + 3 * r (a / 3) + (a - a / 3 * 3))), tb, rh, oc, kr, kn, upd sy (H i) (ce (18 * ta + 3 * r (a / 3) + (a - a / 3 * 3))), bg, ra, fd, vl, sn, nI (H i + 1), nI (D i), rq_plain S' P hi h2 h3 (by rw [h1]) (fun j hj => ?_), fun tm post hp => ?_, fun tm post hp => ?_⟩
  · by_cases e : j = H i
    · rw [e, pk_us, pk_us]
    · rw [pk_un e, pk_un e]
      exact s6 j (by omega)
  · exact rq_xWP (by omega) hK (by omega) (fun p h => rq_xPut1 (by omega) hK hP.1 (by omega) hA' ha (w2.trans hAo) w3 hta u1 h) hp
  · exact rq_yS1 (by omega) hK (by omega) hA' ha w1 (by omega) hAo w4 hta u1 hp
/-- ADD to EITHER -/
theorem rq_n2 (P : rq_Prof n K A C hA dA oA H D O) (S : rq_Sim n K A C H D O i t B r f sx tb rh oc kr kn sy bg ra fd vl sn tp dp) (hi : i < n) {k : Nat} (hK : K i = nI k) (hk2 : 2 ≤ k) (hk8 : k ≤ 8)
    (hH : 2 ≤ H i) (h1 : H (i + 1) + 1 = H i) (h2 : D (i + 1) = D i) (h3 : O (i + 1) = O i) :
    rq_Nx n K A C hA dA oA H D O ce sz aT aR hh op fl i t sx tb rh oc kr kn sy bg ra fd vl sn tp dp := by
  have hn := P.1
  have hP := P.2.2.1 i (by omega)
  have hHA := hP.1
  have h6 := (rq_open P i (by omega)).1
  have S' := S
  obtain ⟨s1, s2, s3, ⟨s4, s5⟩, s6, s7⟩ := S
  obtain ⟨h, eh⟩ : ∃ h, H i = h + 2 := ⟨H i - 2, by omega⟩
  rw [eh] at hHA s4
  subst s4 s5
  refine ⟨i + 1, B, r, f, upd sx h (rq_jn k (sx h) (sx (h + 1))), tb, rh, oc, kr, kn, upd sy h (rq_jn k (sy h) (sy (h + 1))), bg, ra, fd, vl, sn, nI (h + 1), nI (D i), rq_plain S' P hi h2 h3 (by rw [show H (i + 1) = h + 1 from by omega]) (fun j hj => ?_), fun tm post hp => ?_, fun tm post hp => ?_⟩
  · by_cases e : j = h
    · rw [e, pk_us, pk_us, s6 h (by omega), s6 (h + 1) (by omega)]
    · rw [pk_un e, pk_un e]
      exact s6 j (by omega)
  · exact rq_xWP (by omega) hK (by omega) (fun p h => rq_xPut2 (by omega) hK hk2 hk8 hHA (by omega) h) hp
  · exact rq_yS2 (by omega) hK hk2 hk8 (by omega) hp
/-- NOT -/
theorem rq_n9 (P : rq_Prof n K A C hA dA oA H D O) (S : rq_Sim n K A C H D O i t B r f sx tb rh oc kr kn sy bg ra fd vl sn tp dp) (hi : i < n) (hK : K i = nI 9)
    (hH : 1 ≤ H i) (h1 : H (i + 1) = H i) (h2 : D (i + 1) = D i) (h3 : O (i + 1) = O i) :
    rq_Nx n K A C hA dA oA H D O ce sz aT aR hh op fl i t sx tb rh oc kr kn sy bg ra fd vl sn tp dp := by
  have hn := P.1
  have hP := P.2.2.1 i (by omega)
  have hHA := hP.1
  have h6 := (rq_open P i (by omega)).1
  have S' := S
  obtain ⟨s1, s2, s3, ⟨s4, s5⟩, s6, s7⟩ := S
  obtain ⟨h, eh⟩ : ∃ h, H i = h + 1 := ⟨H i - 1, by omega⟩
  rw [eh] at hHA s4
  subst s4 s5
  refine ⟨i + 1, B, r, f, upd sx h (if sx h = 0 then 1 else 0), tb, rh, oc, kr, kn, upd sy h (if sy h = 0 then 1 else 0), bg, ra, fd, vl, sn, nI (h + 1), nI (D i), rq_plain S' P hi h2 h3 (by rw [show H (i + 1) = h + 1 from by omega]) (fun j hj => ?_), fun tm post hp => ?_, fun tm post hp => ?_⟩
  · by_cases e : j = h
    · rw [e, pk_us, pk_us, s6 h (by omega)]
    · rw [pk_un e, pk_un e]
      exact s6 j (by omega)
  · exact rq_xWP (by omega) hK (by omega) (fun p h => rq_xPut9 (by omega) hK hHA (by omega) h) hp
  · exact rq_yS9 (by omega) hK (by omega) hp
end
end
section
/-! the ending tokens, both sides -/
section
variable {hh op aT aR : Int32} {n : Nat} {ce sz K A hA dA oA C sx tb rh oc kr kn fl sy bg ra fd vl sn : Nat → Int32} {H D O : Nat → Nat} {i t : Nat} {B r f : Nat → Nat} {tp dp : Int32}
theorem rq_clEq (P : rq_Prof n K A C hA dA oA H D O) (hi : i < n) (hC : C (O i) = nI i) : rq_cl C (O i) = i := by
  unfold rq_cl
  rw [hC]
  exact nI_clamp (by have := P.1; omega)
/-- what the block at hand is -/
theorem rq_blkAt (P : rq_Prof n K A C hA dA oA H D O) (S : rq_Sim n K A C H D O i t B r f sx tb rh oc kr kn sy bg ra fd vl sn tp dp) (hi : i < n) {k : Nat} (hK : K i = nI k) (hD : 0 < D i) (hC : C (O i) = nI i) :
    r (D (O i)) ≤ 5 ∧ f (D (O i)) ≤ r (D (O i)) ∧ fd (D (O i)) = nI (f (D (O i))) ∧ rq_Out (nI k) (f (D (O i))) (D (O i)) oc kr kn vl sn := by
  obtain ⟨s1, s2, s3, s4, s6, s7⟩ := S
  obtain ⟨a1, a2, a3, a4, a5⟩ := (rq_open P i (by omega)).2.2.1 hD
  obtain ⟨u1, u2, u3⟩ := s7 (D (O i)) (by omega)
  rw [(rq_chOut s3 a3).2, rq_clEq P hi hC, hK] at u3
  exact ⟨u1, u2, u3.2.2.2.2.1, u3.2.2.2.2.2⟩
theorem rq_nE0 (P : rq_Prof n K A C hA dA oA H D O) (h0 : D n = 0) (hs : rq_Sz sz) (S : rq_Sim n K A C H D O i t B r f sx tb rh oc kr kn sy bg ra fd vl sn tp dp) (hi : i < n) {k : Nat} (hK : K i = nI k) (h12 : 12 ≤ k) (h13 : k ≤ 13)
    (hD : 0 < D i) (hC : C (O i) = nI i) (hH : H i = H (O i)) {oc' : Nat → Int32}
    (hk : ∀ (tm : Nat → Int32) (p : SX → Prop), p (nI n, aT, aR, ce, sz, K, A, hA, dA, oA, C, sx, tb, rh, oc', kr, kn, tm) → wpX_keepRow p (nI n, aT, aR, ce, sz, K, A, hA, dA, oA, C, sx, tb, rh, oc, kr, kn, tm) (nI i))
    (e : ∀ b, b < D (O i) → oc' b = oc b) (eo : rq_Out (nI k) (f (D (O i)) + 1) (D (O i)) oc' kr kn vl sn) :
    rq_Nx n K A C hA dA oA H D O ce sz aT aR hh op fl i t sx tb rh oc kr kn sy bg ra fd vl sn tp dp := by
  have hn := P.1
  have hP := P.2.2.1 i (by omega)
  have hO := hP.2.2.2 hD
  have h6 := (rq_open P i (by omega)).1
  have h3 := (rq_open P i (by omega)).2.1
  obtain ⟨a1, a2, a3, a4, a5⟩ := (rq_open P i (by omega)).2.2.1 hD
  obtain ⟨v1, v2, v3, v4⟩ := rq_blkAt P S hi hK hD hC
  have Pr := rq_rowDone S P h0 hi hD (g := f (D (O i)) + 1) (Nat.le_refl _) (oc' := oc') (kr' := kr) (kn' := kn) (fd' := upd fd (D (O i)) (nI (f (D (O i)) + 1))) (vl' := vl) (sn' := sn)
    (fun b hb => ⟨e b hb, rfl, pk_un (by omega), rfl⟩) (fun j hj => rfl) (fun j hj => rfl) pk_us (by rw [rq_clEq P hi hC, hK]; exact eo)
  obtain ⟨i', r', sx', rh', sy', ra', tp', dp', S2, hX, hY⟩ := rq_goNext (ce := ce) (aT := aT) (aR := aR) (hh := hh) (op := op) (fl := fl) P h0 hs Pr
  obtain ⟨s1, s2, s3, ⟨s4, s5⟩, s6, s7⟩ := S
  rw [hH] at s4
  subst s4 s5
  refine ⟨i', _, r', _, sx', tb, rh', oc', kr, kn, sy', bg, ra', _, vl, sn, tp', dp', S2, fun tm post hp => ?_, fun tm post hp => ?_⟩
  · exact rq_xWE (by omega) hK h12 (by omega) hO (hk tm) (hX tm) hp
  · refine rq_ySE0 (by omega) hK h12 h13 (by omega) (fun p h => ?_) (hY _) hp
    rw [← a3] at h ⊢
    exact rq_yT12 (by omega) v3 h13 h
theorem rq_n12 (P : rq_Prof n K A C hA dA oA H D O) (h0 : D n = 0) (hs : rq_Sz sz) (S : rq_Sim n K A C H D O i t B r f sx tb rh oc kr kn sy bg ra fd vl sn tp dp) (hi : i < n) (hK : K i = nI 12)
    (hD : 0 < D i) (hC : C (O i) = nI i) (hH : H i = H (O i)) :
    rq_Nx n K A C hA dA oA H D O ce sz aT aR hh op fl i t sx tb rh oc kr kn sy bg ra fd vl sn tp dp := by
  have hn := P.1
  have hP := P.2.2.1 i (by omega)
  obtain ⟨a1, a2, a3, a4, a5⟩ := (rq_open P i (by omega)).2.2.1 hD
  have h3 := (rq_open P i (by omega)).2.1
  obtain ⟨v1, v2, v3, v4⟩ := rq_blkAt P S hi hK hD hC
  exact rq_nE0 P h0 hs S hi hK (by omega) (by omega) hD hC hH (fun tm p h => rq_xKeep12 (by omega) (by omega) (by rw [a3]; exact hP.2.1) hK h) (fun b hb => pk_un (by omega)) (rq_outCount v4)
theorem rq_n13 (P : rq_Prof n K A C hA dA oA H D O) (h0 : D n = 0) (hs : rq_Sz sz) (S : rq_Sim n K A C H D O i t B r f sx tb rh oc kr kn sy bg ra fd vl sn tp dp) (hi : i < n) (hK : K i = nI 13)
    (hD : 0 < D i) (hC : C (O i) = nI i) (hH : H i = H (O i)) :
    rq_Nx n K A C hA dA oA H D O ce sz aT aR hh op fl i t sx tb rh oc kr kn sy bg ra fd vl sn tp dp := by
  have hn := P.1
  have hP := P.2.2.1 i (by omega)
  obtain ⟨a1, a2, a3, a4, a5⟩ := (rq_open P i (by omega)).2.2.1 hD
  have h3 := (rq_open P i (by omega)).2.1
  exact rq_nE0 P h0 hs S hi hK (by omega) (by omega) hD hC hH (fun tm p h => rq_xKeep13 (by omega) (by omega) (by rw [a3]; exact hP.2.1) hK h) (fun b hb => pk_un (by omega)) rq_outAny
theorem rq_nE1 (P : rq_Prof n K A C hA dA oA H D O) (h0 : D n = 0) (hs : rq_Sz sz) (S : rq_Sim n K A C H D O i t B r f sx tb rh oc kr kn sy bg ra fd vl sn tp dp) (hi : i < n) {k : Nat} (hK : K i = nI k) (h14 : 14 ≤ k) (h17 : k ≤ 17)
    (hD : 0 < D i) (hC : C (O i) = nI i) (hH : H i = H (O i) + 1) {oc' kr' kn' vl' sn' : Nat → Int32}
    (hk : ∀ (tm : Nat → Int32) (p : SX → Prop), p (nI n, aT, aR, ce, sz, K, A, hA, dA, oA, C, sx, tb, rh, oc', kr', kn', tm) → wpX_keepNumber p (nI n, aT, aR, ce, sz, K, A, hA, dA, oA, C, sx, tb, rh, oc, kr, kn, tm) (nI k) (nI (D (O i))) (sx (H (O i))))
    (ht : ∀ (tm : Nat → Int32) (p : SY → Prop), p (nI n, hh, op, nI (H (O i)), aT, aR, nI (D (O i) + 1), sz, ce, K, A, fl, sy, tm, bg, ra, upd fd (D (O i)) (nI (f (D (O i)) + 1)), vl', sn') → wpY_takeRow p (nI n, hh, op, nI (H (O i)), aT, aR, nI (D (O i) + 1), sz, ce, K, A, fl, sy, tm, bg, ra, fd, vl, sn) (nI k) (sx (H (O i))))
    (e : ∀ b, b < D (O i) → oc' b = oc b ∧ kr' b = kr b ∧ vl' b = vl b) (e5 : ∀ j, j < 6 * D (O i) → kn' j = kn j) (e0 : ∀ j, j < 6 * D (O i) → sn' j = sn j)
    (eo : rq_Out (nI k) (f (D (O i)) + 1) (D (O i)) oc' kr' kn' vl' sn') :
    rq_Nx n K A C hA dA oA H D O ce sz aT aR hh op fl i t sx tb rh oc kr kn sy bg ra fd vl sn tp dp := by
  have hn := P.1
  have hP := P.2.2.1 i (by omega)
  have hO := hP.2.2.2 hD
  have hHA := hP.1
  have h6 := (rq_open P i (by omega)).1
  have h3 := (rq_open P i (by omega)).2.1
  obtain ⟨a1, a2, a3, a4, a5⟩ := (rq_open P i (by omega)).2.2.1 hD
  have Pr := rq_rowDone S P h0 hi hD (g := f (D (O i)) + 1) (Nat.le_refl _) (oc' := oc') (kr' := kr') (kn' := kn') (fd' := upd fd (D (O i)) (nI (f (D (O i)) + 1))) (vl' := vl') (sn' := sn')
    (fun b hb => ⟨(e b hb).1, (e b hb).2.1, pk_un (by omega), (e b hb).2.2⟩) e5 e0 pk_us (by rw [rq_clEq P hi hC, hK]; exact eo)
  obtain ⟨i', r', sx', rh', sy', ra', tp', dp', S2, hX, hY⟩ := rq_goNext (ce := ce) (aT := aT) (aR := aR) (hh := hh) (op := op) (fl := fl) P h0 hs Pr
  obtain ⟨s1, s2, s3, ⟨s4, s5⟩, s6, s7⟩ := S
  have es := s6 (H (O i)) (by omega)
  rw [hH] at s4 hHA
  subst s4 s5
  refine ⟨i', _, r', _, sx', tb, rh', oc', kr', kn', sy', bg, ra', _, vl', sn', tp', dp', S2, fun tm post hp => ?_, fun tm post hp => ?_⟩
  · exact rq_xWE (by omega) hK (by omega) h17 hO (fun p h => rq_xKeepN (by omega) (by omega) (by rw [a3]; exact hP.2.1) hK h14 h17 hHA (by omega) (hk tm) h) (hX tm) hp
  · refine rq_ySE1 (by omega) hK h14 h17 (by omega) (fun p h => ?_) (hY _) hp
    rw [← es]
    rw [← a3] at h ⊢
    exact ht _ p h
theorem rq_n14 (P : rq_Prof n K A C hA dA oA H D O) (h0 : D n = 0) (hs : rq_Sz sz) (S : rq_Sim n K A C H D O i t B r f sx tb rh oc kr kn sy bg ra fd vl sn tp dp) (hi : i < n) {k : Nat} (hK : K i = nI k) (h14 : 14 ≤ k) (h17 : k ≤ 17)
    (hD : 0 < D i) (hC : C (O i) = nI i) (hH : H i = H (O i) + 1) :
    rq_Nx n K A C hA dA oA H D O ce sz aT aR hh op fl i t sx tb rh oc kr kn sy bg ra fd vl sn tp dp := by
  obtain ⟨v1, v2, v3, v4⟩ := rq_blkAt P S hi hK hD hC
  have h3 := (rq_open P i (by omega)).2.1
  obtain ⟨a1, a2, a3, a4, a5⟩ := (rq_open P i (by omega)).2.2.1 hD
  obtain ⟨e1, e2⟩ := v4.2.2.1 (rq_ne (by omega)) (rq_ne (by omega))
  have hkc : k = 14 ∨ k = 15 ∨ k = 16 ∨ k = 17 := by omega
  rcases hkc with rfl | rfl | rfl | rfl
  · refine rq_nE1 P h0 hs S hi hK h14 h17 hD hC hH (fun tm p h => rq_xKN14 (by omega) (by omega) e2 h) (fun tm p h => rq_yT14 (by omega) v3 h)
      (fun b hb => ⟨pk_un (by omega), pk_un (by omega), pk_un (by omega)⟩) (fun j hj => pk_un (by omega)) (fun j hj => rfl) ?_
    rw [e1]
    exact rq_outNum (by omega) (by omega)
  · refine rq_nE1 P h0 hs S hi hK h14 h17 hD hC hH (fun tm p h => rq_xKN15 (by omega) (by omega) e2 h) (fun tm p h => rq_yT15 (by omega) v3 (by omega) h)
      (fun b hb => ⟨pk_un (by omega), pk_un (by omega), pk_un (by omega)⟩) (fun j hj => pk_un (by omega)) (fun j hj => rfl) ?_
    rw [e1]
    exact rq_outNum (by omega) (by omega)
  · refine rq_nE1 P h0 hs S hi hK h14 h17 hD hC hH (fun tm p h => rq_xKN16 (by omega) (by omega) e2 h) (fun tm p h => rq_yT16 (by omega) v3 (by omega) h)
      (fun b hb => ⟨pk_un (by omega), pk_un (by omega), pk_un (by omega)⟩) (fun j hj => pk_un (by omega)) (fun j hj => rfl) ?_
    rw [e1]
    exact rq_outNum (by omega) (by omega)
  · obtain ⟨m, m1, m2, m3⟩ := v4.2.2.2 rfl
    by_cases z : ∃ j, j < f (D (O i)) ∧ kn (6 * D (O i) + j) = sx (H (O i))
    · exact rq_nE1 P h0 hs S hi hK h14 h17 hD hC hH (fun tm p h => rq_xKN17a (by omega) (by omega) e2 z h) (fun tm p h => rq_yT17 (by omega) v3 m2 (by omega) (fun _ => h) (fun y => absurd ((m3 _).mp z) y))
        (fun b hb => ⟨rfl, pk_un (by omega), rfl⟩) (fun j hj => pk_un (by omega)) (fun j hj => rfl) (rq_outOld v4 z)
    · have eo1 : oc (D (O i)) + 1 = nI (m + 1) := by rw [e1, m2, nI_1]
      exact rq_nE1 P h0 hs S hi hK h14 h17 hD hC hH (fun tm p h => rq_xKN17b (by omega) (by omega) e2 z (by rw [eo1]; exact h)) (fun tm p h => rq_yT17 (by omega) v3 m2 (by omega) (fun y => absurd ((m3 _).mpr y) z) (fun _ => h))
        (fun b hb => ⟨pk_un (by omega), pk_un (by omega), pk_un (by omega)⟩) (fun j hj => pk_un (by omega)) (fun j hj => pk_un (by omega)) (rq_outNew m1 m3)
/-- every token -/
theorem rq_step (P : rq_Prof n K A C hA dA oA H D O) (h0 : D n = 0) (hs : rq_Sz sz) (S : rq_Sim n K A C H D O i t B r f sx tb rh oc kr kn sy bg ra fd vl sn tp dp) (hi : i < n) :
    rq_Nx n K A C hA dA oA H D O ce sz aT aR hh op fl i t sx tb rh oc kr kn sy bg ra fd vl sn tp dp := by
  obtain ⟨k, hK, hC, hk, h6, hc⟩ := P.2.2.2 i hi
  rcases hc with ⟨rfl, h1, h2, h3⟩ | ⟨rfl, ⟨a, a1, a2, a3⟩, h1, h2, h3⟩ | ⟨z, g, h1, h2, h3⟩ | ⟨rfl, g, h1, h2, h3⟩ | ⟨rfl, _⟩ | ⟨rfl, g, g2, h1, h2, h3⟩ | ⟨z, g, g2, h1, h2, h3⟩
  · exact rq_n0 P S hi hK h6 h1 h2 h3
  · exact rq_n1 P S hi hK a1 a2 a3 h6 h1 h2 h3
  · exact rq_n2 P S hi hK z.1 z.2 (by omega) h1 h2 h3
  · exact rq_n9 P S hi hK (by omega) h1 h2 h3
  · exact rq_n10 P h0 hs S hi hK
  · exact rq_n11 P h0 hs S hi hK g g2 h1 h2 h3
  · by_cases y : k < 14
    · rw [show rq_tk k = 0 from if_pos y] at g2
      have hkc : k = 12 ∨ k = 13 := by omega
      rcases hkc with rfl | rfl
      · exact rq_n12 P h0 hs S hi hK g (hC z) g2
      · exact rq_n13 P h0 hs S hi hK g (hC z) g2
    · rw [show rq_tk k = 1 from if_neg y] at g2
      exact rq_n14 P h0 hs S hi hK (by omega) hk g (hC z) g2
end
end
section
/-! the runs: both loops to their ends -/
section
variable {n : Nat} {ce sz K A hA dA oA C : Nat → Int32} {H D O : Nat → Nat} {aT aR hh op : Int32} {fl : Nat → Int32}
theorem rq_run (P : rq_Prof n K A C hA dA oA H D O) (h0 : D n = 0) (hH : H n = 1) (hs : rq_Sz sz) : ∀ (m i t : Nat) (B r f : Nat → Nat) (sx tb rh oc kr kn tm sy bg ra fd vl sn : Nat → Int32) (tp dp : Int32),
    rq_Sim n K A C H D O i t B r f sx tb rh oc kr kn sy bg ra fd vl sn tp dp → 10368 < m + t →
    ∃ (sx' tb' rh' oc' kr' kn' tm' sy' bg' ra' fd' vl' sn' : Nat → Int32) (tp' dp' : Int32), sx' 0 = sy' 0 ∧
    (∀ post : Int32 → SX → Prop, post (sx' 0) (nI n, aT, aR, ce, sz, K, A, hA, dA, oA, C, sx', tb', rh', oc', kr', kn', tm') → wX_evaluate_36 post m (nI i) (nI t) (nI n) aT aR ce sz K A hA dA oA C sx tb rh oc kr kn tm) ∧
    (∀ post : SY → Prop, post (nI n, hh, op, tp', aT, aR, dp', sz, ce, K, A, fl, sy', tm', bg', ra', fd', vl', sn') → wY_work_46 post m (nI i) (nI t) (nI n) hh op tp aT aR dp sz ce K A fl sy tm bg ra fd vl sn) := by
  intro m
  induction m with
  | zero =>
    intro i t B r f sx tb rh oc kr kn tm sy bg ra fd vl sn tp dp S hm
    exfalso
    by_cases hi : i < n
    · have := rq_fuel P h0 S hi
      omega
    · obtain ⟨s1, s2, _⟩ := S
      have e : i = n := by omega
      subst e
      rw [h0] at s2
      have s2' : t ≤ 0 + 216 * (i - 0) := s2
      have := P.1
      omega
  | succ m ih =>
    intro i t B r f sx tb rh oc kr kn tm sy bg ra fd vl sn tp dp S hm
    have hn := P.1
    by_cases hi : i < n
    · have hf := rq_fuel P h0 S hi
      obtain ⟨i', B', r', f', sx1, tb1, rh1, oc1, kr1, kn1, sy1, bg1, ra1, fd1, vl1, sn1, tp1, dp1, S1, hX, hY⟩ := rq_step (ce := ce) (aT := aT) (aR := aR) (hh := hh) (op := op) (fl := fl) P h0 hs S hi
      obtain ⟨sx', tb', rh', oc', kr', kn', tm', sy', bg', ra', fd', vl', sn', tp', dp', he, gX, gY⟩ := ih i' (t + 1) B' r' f' sx1 tb1 rh1 oc1 kr1 kn1 (upd tm i (tm i + 1)) sy1 bg1 ra1 fd1 vl1 sn1 tp1 dp1 S1 (by omega)
      have hin : vp_in (nI i) 48 := vp_in_nI (by omega) (by omega)
      refine ⟨sx', tb', rh', oc', kr', kn', tm', sy', bg', ra', fd', vl', sn', tp', dp', he, fun post hp => ?_, fun post hp => ?_⟩
      · rw [wX_evaluate_36]
        refine br_f (nI_ge (b := 10368) hf (by decide)) (br_f (nI_ge hi (by omega)) ⟨hin, hin, nm_r (e' := upd tm i (tm i + 1)) (by rw [nI_clamp (by omega)]) ?_⟩)
        refine hX _ _ ?_
        exact nm_r (nI_1 t) (gX post hp)
      · rw [wY_work_46]
        refine br_f (nI_ge (b := 30000) (by omega) (by decide)) (br_f (nI_ge hi (by omega)) ?_)
        refine hY _ _ ?_
        exact nm_r (nI_1 t) (gY post hp)
    · obtain ⟨s1, s2, s3, s4, s6, _⟩ := S
      have e : i = n := by omega
      subst e
      refine ⟨sx, tb, rh, oc, kr, kn, tm, sy, bg, ra, fd, vl, sn, tp, dp, s6 0 (by omega), fun post hp => ?_, fun post hp => ?_⟩
      · rw [wX_evaluate_36]
        exact br_c (fun _ => hp) (fun _ => br_t (nI_le (Nat.le_refl _) (by omega)) hp)
      · rw [wY_work_46]
        exact br_c (fun _ => hp) (fun _ => br_t (nI_le (Nat.le_refl _) (by omega)) hp)
def rq_zf (f : Nat → Int32) (k : Nat) : Nat → Int32 := fun j => if j < k then 0 else f j
theorem rq_zf0 (f : Nat → Int32) : rq_zf f 0 = f := by
  funext j
  exact if_neg (by omega)
theorem rq_zfs (f : Nat → Int32) (k : Nat) : upd (rq_zf f k) k 0 = rq_zf f (k + 1) := by
  funext j
  unfold upd rq_zf
  by_cases h : j = k
  · rw [if_pos h, if_pos (by omega)]
  · rw [if_neg h]
    by_cases h2 : j < k
    · rw [if_pos h2, if_pos (by omega)]
    · rw [if_neg h2, if_neg (by omega)]
theorem rq_xZero {tc : Int32} {sx tb rh oc kr kn tm : Nat → Int32} {post : Int32 → SX → Prop} (hp : ∃ n36 : Nat, wX_evaluate_36 post n36 0 0 tc aT aR ce sz K A hA dA oA C sx tb rh oc kr kn (rq_zf tm 48)) :
    ∀ m j, j + m = 48 → wX_evaluate_12 post tc aT aR (m + 1) (nI j) ce sz K A hA dA oA C sx tb rh oc kr kn (rq_zf tm j) := by
  intro m
  induction m with
  | zero =>
    intro j hj
    have e : j = 48 := by omega
    subst e
    rw [wX_evaluate_12]
    exact br_t (by decide) hp
  | succ m ih =>
    intro j hj
    rw [wX_evaluate_12]
    exact br_f (nI_ge (b := 48) (by omega) (by decide)) ⟨vp_in_nI (by omega) (by omega), nm_r (e' := rq_zf tm (j + 1)) (by rw [nI_clamp (by omega), rq_zfs]) (nm_r (nI_1 j) (ih (j + 1) (by omega)))⟩
theorem rq_yZero {tc tp dp : Int32} {sy tm bg ra fd vl sn : Nat → Int32} {post : SY → Prop} (hp : ∃ n46 : Nat, wY_work_46 post n46 0 0 tc hh op tp aT aR dp sz ce K A fl sy (rq_zf tm 48) bg ra fd vl sn) :
    ∀ m j, j + m = 48 → wY_work_22 post tc hh op tp aT aR dp (m + 1) (nI j) sz ce K A fl sy (rq_zf tm j) bg ra fd vl sn := by
  intro m
  induction m with
  | zero =>
    intro j hj
    have e : j = 48 := by omega
    subst e
    rw [wY_work_22]
    exact br_t (by decide) hp
  | succ m ih =>
    intro j hj
    rw [wY_work_22]
    exact br_f (nI_ge (b := 48) (by omega) (by decide)) ⟨vp_in_nI (by omega) (by omega), nm_r (e' := rq_zf tm (j + 1)) (by rw [nI_clamp (by omega), rq_zfs]) (nm_r (nI_1 j) (ih (j + 1) (by omega)))⟩
theorem rq_eval (P : rq_Prof n K A C hA dA oA H D O) (h0 : D n = 0) (hH : H n = 1) (hs : rq_Sz sz) {xT xR yT yR tp dp : Int32} {sx tb rh oc kr kn tm sy bg ra fd vl sn : Nat → Int32} :
    ∃ (sx' tb' rh' oc' kr' kn' tm' sy' bg' ra' fd' vl' sn' : Nat → Int32) (tp' dp' : Int32), sx' 0 = sy' 0 ∧
    (∀ post : Int32 → SX → Prop, post (sx' 0) (nI n, aT, aR, ce, sz, K, A, hA, dA, oA, C, sx', tb', rh', oc', kr', kn', tm') → wpX_evaluate post (nI n, xT, xR, ce, sz, K, A, hA, dA, oA, C, sx, tb, rh, oc, kr, kn, tm) aT aR) ∧
    (∀ post : SY → Prop, post (nI n, hh, op, tp', aT, aR, dp', sz, ce, K, A, fl, sy', tm', bg', ra', fd', vl', sn') → wpY_work post (nI n, hh, op, tp, yT, yR, dp, sz, ce, K, A, fl, sy, tm, bg, ra, fd, vl, sn) aT aR) := by
  have S : rq_Sim n K A C H D O 0 0 (fun _ => 0) (fun _ => 0) (fun _ => 0) sx tb rh oc kr kn sy bg ra fd vl sn 0 0 := by
    obtain ⟨z1, z2, z3⟩ := P.2.1
    refine ⟨Nat.zero_le _, Nat.zero_le _, ⟨fun b hb => by rw [z2] at hb; omega, fun b hb => by rw [z2] at hb; omega⟩, ⟨by rw [z1]; rfl, by rw [z2]; rfl⟩, fun j hj => by rw [z1] at hj; omega, fun b hb => by rw [z2] at hb; omega⟩
  obtain ⟨sx', tb', rh', oc', kr', kn', tm', sy', bg', ra', fd', vl', sn', tp', dp', he, gX, gY⟩ := rq_run (ce := ce) (aT := aT) (aR := aR) (hh := hh) (op := op) (fl := fl) P h0 hH hs 10369 0 0 _ _ _ sx tb rh oc kr kn (rq_zf tm 48) sy bg ra fd vl sn 0 0 S (by omega)
  refine ⟨sx', tb', rh', oc', kr', kn', tm', sy', bg', ra', fd', vl', sn', tp', dp', he, fun post hp => ?_, fun post hp => ?_⟩
  · have Z := rq_xZero (aT := aT) (aR := aR) ⟨10369, gX post hp⟩ 48 0 rfl
    rw [rq_zf0] at Z
    exact Exists.intro 49 Z
  · have Z := rq_yZero (hh := hh) (op := op) (aT := aT) (aR := aR) ⟨10369, gY post hp⟩ 48 0 rfl
    rw [rq_zf0] at Z
    exact Exists.intro 49 Z
end
end
section
/-! the relation, and the small tests of both sides -/
def i_Rel (_ : Nat) (u : SX) (v : SY) : Prop :=
  ∃ (n : Nat) (H D O : Nat → Nat) (xT xR yT yR hh op tp dp : Int32) (ce sz K A hA dA oA C sx tb rh oc kr kn tm fl sy bg ra fd vl sn : Nat → Int32),
    u = (nI n, xT, xR, ce, sz, K, A, hA, dA, oA, C, sx, tb, rh, oc, kr, kn, tm) ∧ v = (nI n, hh, op, tp, yT, yR, dp, sz, ce, K, A, fl, sy, tm, bg, ra, fd, vl, sn) ∧ rq_Prof n K A C hA dA oA H D O ∧ rq_Sz sz
theorem i_up {k : Nat} {u : SX} {v : SY} (h : i_Rel k u v) : i_Rel (k + 5) u v := h
theorem rq_mk (k : Nat) {n : Nat} {H D O : Nat → Nat} {xT xR yT yR hh op tp dp : Int32} {ce sz K A hA dA oA C sx tb rh oc kr kn tm fl sy bg ra fd vl sn : Nat → Int32} (P : rq_Prof n K A C hA dA oA H D O) (hs : rq_Sz sz) :
    i_Rel k (nI n, xT, xR, ce, sz, K, A, hA, dA, oA, C, sx, tb, rh, oc, kr, kn, tm) (nI n, hh, op, tp, yT, yR, dp, sz, ce, K, A, fl, sy, tm, bg, ra, fd, vl, sn) := ⟨n, H, D, O, xT, xR, yT, yR, hh, op, tp, dp, ce, sz, K, A, hA, dA, oA, C, sx, tb, rh, oc, kr, kn, tm, fl, sy, bg, ra, fd, vl, sn, rfl, rfl, P, hs⟩
theorem i_vc0 : wpX_init (fun u => wpY_init (fun v => i_Rel 0 u v)) := by
  refine nm_e ?_
  refine rq_mk 0 (n := 0) (H := fun _ => 0) (D := fun _ => 0) (O := fun _ => 0) ⟨by omega, ⟨rfl, rfl, rfl⟩, fun i hi => ?_, fun i hi => by omega⟩ (fun t ht => ⟨0, by omega, rfl⟩)
  have e : i = 0 := by omega
  subst e
  exact ⟨rfl, rfl, fun _ => rfl, fun z => absurd z (Nat.lt_irrefl 0)⟩
theorem rq_szU {sz : Nat → Int32} {a s : Nat} (h : rq_Sz sz) (hs : s ≤ 6) : rq_Sz (upd sz a (nI s)) := fun t ht => by
  by_cases e : t = a
  · exact ⟨s, hs, by rw [e, pk_us]⟩
  · obtain ⟨s', h1, h2⟩ := h t ht
    exact ⟨s', h1, by rw [pk_un e]; exact h2⟩
section
variable {tc aT aR : Int32} {ce sz K A hA dA oA C sx tb rh oc kr kn tm : Nat → Int32}
theorem rq_xTabT {post : Int32 → Prop} {a : Nat} (ha : a < 3) (hp : post 1) : wpX_isTable post (nI a) :=
  br_f (nI_pos (by omega)) (br_f (nI_ge (b := 3) ha (by decide)) hp)
theorem rq_xTabF {post : Int32 → Prop} {v : Int32} (h : ¬ ∃ a, a < 3 ∧ v = nI a) (hp : post 0) : wpX_isTable post v := by
  rcases pk_ix v (n := 3) (by decide) with z | z | ⟨j, h1, h2⟩
  · exact br_t z hp
  · exact br_c (fun _ => hp) (fun _ => br_t z hp)
  · exact absurd ⟨j, h1, h2⟩ h
theorem rq_xColT {post : Int32 → Prop} {a : Nat} (ha : a < 3) (hp : post 1) : wpX_isColumn post (nI a) :=
  br_f (nI_pos (by omega)) (br_f (nI_ge (b := 3) ha (by decide)) hp)
theorem rq_xColF {post : Int32 → Prop} {v : Int32} (h : ¬ ∃ a, a < 3 ∧ v = nI a) (hp : post 0) : wpX_isColumn post v := by
  rcases pk_ix v (n := 3) (by decide) with z | z | ⟨j, h1, h2⟩
  · exact br_t z hp
  · exact br_c (fun _ => hp) (fun _ => br_t z hp)
  · exact absurd ⟨j, h1, h2⟩ h
theorem rq_xRowT {post : Int32 → Prop} {a s q : Nat} (ha : a < 3) (hs : sz a = nI s) (h6 : s ≤ 6) (h : q < s) (hp : post 1) : wpX_isRow post (tc, aT, aR, ce, sz, K, A, hA, dA, oA, C, sx, tb, rh, oc, kr, kn, tm) (nI a) (nI q) := by
  unfold wpX_isRow
  simp (disch := omega) only [forall_eq, vp_in_nI, nI_clamp, rq_c0, rq_c1, rq_c2, rq_c3, rq_c6, rq_c7, rq_c8, rq_c9, rq_c10, rq_c11, rq_c12, rq_c13, rq_c14, rq_c15, rq_c16, rq_c17, rq_c18, rq_c48, rq_c99, rq_c10368, rq_c30000, rq_eqT, rq_eqF, rq_leT, rq_leF, rq_ltT, rq_ltF, rq_neg, nI_add, pk_mul, pk_sub, pk_div, true_and, and_true, true_implies, false_implies, implies_true, not_true_eq_false, not_false_eq_true, pk_us, Nat.add_sub_cancel, eq_self, hs]
  exact hp
theorem rq_xRowF {post : Int32 → Prop} {a s : Nat} {v : Int32} (ha : a < 3) (hs : sz a = nI s) (h6 : s ≤ 6) (h : ¬ ∃ q, q < s ∧ v = nI q) (hp : post 0) : wpX_isRow post (tc, aT, aR, ce, sz, K, A, hA, dA, oA, C, sx, tb, rh, oc, kr, kn, tm) (nI a) v := by
  unfold wpX_isRow
  simp (disch := omega) only [vp_in_nI, nI_clamp, true_and, hs]
  rcases pk_ix v (n := s) (by omega) with z | z | ⟨j, h1, h2⟩
  · exact br_t z hp
  · exact br_c (fun _ => hp) (fun _ => br_t z hp)
  · exact absurd ⟨j, h1, h2⟩ h
theorem rq_xIsWhole {n : Nat} {H D O : Nat → Nat} (P : rq_Prof n K A C hA dA oA H D O) {post : Int32 → Prop} (h1 : D n = 0 ∧ H n = 1 → post 1) (h0 : ¬ (D n = 0 ∧ H n = 1) → post 0) : wpX_isWhole post (nI n, aT, aR, ce, sz, K, A, hA, dA, oA, C, sx, tb, rh, oc, kr, kn, tm) := by
  have hn := P.1
  have a1 := (rq_open P n (Nat.le_refl _)).1
  have a2 := (rq_open P n (Nat.le_refl _)).2.1
  have hP := P.2.2.1 n (Nat.le_refl _)
  unfold wpX_isWhole
  simp (disch := omega) only [vp_in_nI, nI_clamp, true_and, hP.1, hP.2.1]
  exact pk_eq (D n) 0 (fun z => pk_eq (H n) 1 (fun y => h1 ⟨z, y⟩) (fun y => h0 fun w => y w.2)) (fun z => h0 fun w => z w.1)
end
section
variable {tc hh op tp aT aR dp : Int32} {sz ce K A fl sy tm bg ra fd vl sn : Nat → Int32}
theorem rq_lt2 {v : Int32} (h : nI 3 ≤ v) : (2 : Int32) < v := Int32.lt_of_lt_of_le (by decide) h
theorem rq_yTabT {post : Int32 → Prop} {a : Nat} (ha : a < 3) (hp : post 1) : wpY_isTable post (tc, hh, op, tp, aT, aR, dp, sz, ce, K, A, fl, sy, tm, bg, ra, fd, vl, sn) (nI a) :=
  br_f (nI_pos (by omega)) (br_f (nI_nlt (b := 2) (a := a) |> fun h => fun z => absurd z (by
    have := (nI_ltI (a := 2) (b := a) (by omega) (by omega)).mp z
    omega)) hp)
theorem rq_yTabF {post : Int32 → Prop} {v : Int32} (h : ¬ ∃ a, a < 3 ∧ v = nI a) (hp : post 0) : wpY_isTable post (tc, hh, op, tp, aT, aR, dp, sz, ce, K, A, fl, sy, tm, bg, ra, fd, vl, sn) v := by
  rcases pk_ix v (n := 3) (by decide) with z | z | ⟨j, h1, h2⟩
  · exact br_t z hp
  · exact br_c (fun _ => hp) (fun _ => br_t (rq_lt2 z) hp)
  · exact absurd ⟨j, h1, h2⟩ h
theorem rq_yRowT {post : Int32 → Prop} {a s q : Nat} (ha : a < 3) (hs : sz a = nI s) (h6 : s ≤ 6) (h : q < s) (hp : post 1) : wpY_isRow post (tc, hh, op, tp, aT, aR, dp, sz, ce, K, A, fl, sy, tm, bg, ra, fd, vl, sn) (nI a) (nI q) := by
  unfold wpY_isRow
  refine rq_yTabT ha ?_
  simp (disch := omega) only [forall_eq, vp_in_nI, nI_clamp, rq_c0, rq_c1, rq_c2, rq_c3, rq_c6, rq_c7, rq_c8, rq_c9, rq_c10, rq_c11, rq_c12, rq_c13, rq_c14, rq_c15, rq_c16, rq_c17, rq_c18, rq_c48, rq_c99, rq_c10368, rq_c30000, rq_eqT, rq_eqF, rq_leT, rq_leF, rq_ltT, rq_ltF, rq_neg, nI_add, pk_mul, pk_sub, pk_div, true_and, and_true, true_implies, false_implies, implies_true, not_true_eq_false, not_false_eq_true, pk_us, Nat.add_sub_cancel, eq_self, hs]
  exact hp
theorem rq_yRowF {post : Int32 → Prop} {a s : Nat} {v : Int32} (ha : a < 3) (hs : sz a = nI s) (h6 : s ≤ 6) (h : ¬ ∃ q, q < s ∧ v = nI q) (hp : post 0) : wpY_isRow post (tc, hh, op, tp, aT, aR, dp, sz, ce, K, A, fl, sy, tm, bg, ra, fd, vl, sn) (nI a) v := by
  unfold wpY_isRow
  refine rq_yTabT ha ?_
  refine br_f (by decide) ?_
  simp (disch := omega) only [vp_in_nI, nI_clamp, true_and, hs]
  rcases pk_ix v (n := s) (by omega) with z | z | ⟨j, h1, h2⟩
  · exact br_t z hp
  · exact br_c (fun _ => hp) (fun _ => br_t z hp)
  · exact absurd ⟨j, h1, h2⟩ h
theorem rq_yRowN {post : Int32 → Prop} {v w : Int32} (h : ¬ ∃ a, a < 3 ∧ v = nI a) (hp : post 0) : wpY_isRow post (tc, hh, op, tp, aT, aR, dp, sz, ce, K, A, fl, sy, tm, bg, ra, fd, vl, sn) v w := by
  unfold wpY_isRow
  refine rq_yTabF h ?_
  exact br_t rfl hp
end
end
section
/-! the owed statements but for token -/
section
variable {tc aT aR : Int32} {ce sz K A hA dA oA C sx tb rh oc kr kn tm : Nat → Int32}
theorem rq_xAdd {post : Int32 → SX → Prop} {a s : Nat} {v2 v3 v4 : Int32} (ha : a < 3) (hs : sz a = nI s) (h : s < 6)
    (hp : post (nI (s + 1)) (tc, aT, aR, upd (upd (upd ce (18 * a + 3 * s) v2) (18 * a + 3 * s + 1) v3) (18 * a + 3 * s + 2) v4, upd sz a (nI (s + 1)), K, A, hA, dA, oA, C, sx, tb, rh, oc, kr, kn, tm)) : wpX_add post (tc, aT, aR, ce, sz, K, A, hA, dA, oA, C, sx, tb, rh, oc, kr, kn, tm) (nI a) v2 v3 v4 := by
  unfold wpX_add
  refine rq_xTabT ha ?_
  unfold wpX_cellIndex
  simp (disch := omega) only [forall_eq, vp_in_nI, nI_clamp, rq_c0, rq_c1, rq_c2, rq_c3, rq_c6, rq_c7, rq_c8, rq_c9, rq_c10, rq_c11, rq_c12, rq_c13, rq_c14, rq_c15, rq_c16, rq_c17, rq_c18, rq_c48, rq_c99, rq_c10368, rq_c30000, rq_eqT, rq_eqF, rq_leT, rq_leF, rq_ltT, rq_ltF, rq_neg, nI_add, pk_mul, pk_sub, pk_div, true_and, and_true, true_implies, false_implies, implies_true, not_true_eq_false, not_false_eq_true, pk_us, Nat.add_sub_cancel, eq_self, hs, rq_ix0]
  exact hp
theorem rq_xAdd6 {post : Int32 → SX → Prop} {a : Nat} {v2 v3 v4 : Int32} (ha : a < 3) (hs : sz a = nI 6) (hp : post (-2) (tc, aT, aR, ce, sz, K, A, hA, dA, oA, C, sx, tb, rh, oc, kr, kn, tm)) : wpX_add post (tc, aT, aR, ce, sz, K, A, hA, dA, oA, C, sx, tb, rh, oc, kr, kn, tm) (nI a) v2 v3 v4 := by
  unfold wpX_add
  refine rq_xTabT ha ?_
  unfold wpX_cellIndex
  simp (disch := omega) only [forall_eq, vp_in_nI, nI_clamp, rq_c0, rq_c1, rq_c2, rq_c3, rq_c6, rq_c7, rq_c8, rq_c9, rq_c10, rq_c11, rq_c12, rq_c13, rq_c14, rq_c15, rq_c16, rq_c17, rq_c18, rq_c48, rq_c99, rq_c10368, rq_c30000, rq_eqT, rq_eqF, rq_leT, rq_leF, rq_ltT, rq_ltF, rq_neg, nI_add, pk_mul, pk_sub, pk_div, true_and, and_true, true_implies, false_implies, implies_true, not_true_eq_false, not_false_eq_true, pk_us, Nat.add_sub_cancel, eq_self, hs]
  exact hp
def rq_sh : (Nat → Int32) → Nat → Nat → (Nat → Int32)
  | f, _, 0 => f
  | f, i, m + 1 => rq_sh (upd f i (f (i + 3))) (i + 1) m
theorem rq_xRem {post : Int32 → SX → Prop} {a s e : Nat} (ha : a < 3) (hs : sz a = nI (s + 1)) (h6 : s ≤ 5) (he : e + 3 ≤ 54) : ∀ (m j : Nat) (ce : Nat → Int32), j + m = e →
    post (nI s) (tc, aT, aR, rq_sh ce j m, upd sz a (nI s), K, A, hA, dA, oA, C, sx, tb, rh, oc, kr, kn, tm) → wX_remove_43 post (nI a) (nI e) tc aT aR (m + 1) (nI j) ce sz K A hA dA oA C sx tb rh oc kr kn tm := by
  intro m
  induction m with
  | zero =>
    intro j ce hj hp
    rw [wX_remove_43]
    simp (disch := omega) only [forall_eq, vp_in_nI, nI_clamp, rq_c0, rq_c1, rq_c2, rq_c3, rq_c6, rq_c7, rq_c8, rq_c9, rq_c10, rq_c11, rq_c12, rq_c13, rq_c14, rq_c15, rq_c16, rq_c17, rq_c18, rq_c48, rq_c99, rq_c10368, rq_c30000, rq_eqT, rq_eqF, rq_leT, rq_leF, rq_ltT, rq_ltF, rq_neg, nI_add, pk_mul, pk_sub, pk_div, true_and, and_true, true_implies, false_implies, implies_true, not_true_eq_false, not_false_eq_true, pk_us, Nat.add_sub_cancel, eq_self, hs]
    exact hp
  | succ m ih =>
    intro j ce hj hp
    rw [wX_remove_43]
    simp (disch := omega) only [forall_eq, vp_in_nI, nI_clamp, rq_c0, rq_c1, rq_c2, rq_c3, rq_c6, rq_c7, rq_c8, rq_c9, rq_c10, rq_c11, rq_c12, rq_c13, rq_c14, rq_c15, rq_c16, rq_c17, rq_c18, rq_c48, rq_c99, rq_c10368, rq_c30000, rq_eqT, rq_eqF, rq_leT, rq_leF, rq_ltT, rq_ltF, rq_neg, nI_add, pk_mul, pk_sub, pk_div, true_and, and_true, true_implies, false_implies, implies_true, not_true_eq_false, not_false_eq_true, pk_us, Nat.add_sub_cancel, eq_self]
    exact ih (j + 1) _ (by omega) hp
theorem rq_xRemove {post : Int32 → SX → Prop} {a s q : Nat} (ha : a < 3) (hs : sz a = nI (s + 1)) (h6 : s ≤ 5) (hq : q ≤ s)
    (hp : post (nI s) (tc, aT, aR, rq_sh ce (18 * a + 3 * q) (3 * s - 3 * q), upd sz a (nI s), K, A, hA, dA, oA, C, sx, tb, rh, oc, kr, kn, tm)) : wpX_remove post (tc, aT, aR, ce, sz, K, A, hA, dA, oA, C, sx, tb, rh, oc, kr, kn, tm) (nI a) (nI q) := by
  unfold wpX_remove
  refine rq_xTabT ha (br_f (by decide) ?_)
  refine rq_xRowT ha hs (by omega) (by omega) (br_f (by decide) ?_)
  unfold wpX_cellIndex
  simp (disch := omega) only [forall_eq, vp_in_nI, nI_clamp, rq_c0, rq_c1, rq_c2, rq_c3, rq_c6, rq_c7, rq_c8, rq_c9, rq_c10, rq_c11, rq_c12, rq_c13, rq_c14, rq_c15, rq_c16, rq_c17, rq_c18, rq_c48, rq_c99, rq_c10368, rq_c30000, rq_eqT, rq_eqF, rq_leT, rq_leF, rq_ltT, rq_ltF, rq_neg, nI_add, pk_mul, pk_sub, pk_div, true_and, and_true, true_implies, false_implies, implies_true, not_true_eq_false, not_false_eq_true, pk_us, Nat.add_sub_cancel, eq_self, hs, rq_ix0]
  exact ⟨_, rq_xRem ha hs h6 (by omega) (3 * s - 3 * q) (18 * a + 3 * q) ce (by omega) hp⟩
end
section
variable {tc hh op tp aT aR dp : Int32} {sz ce K A fl sy tm bg ra fd vl sn : Nat → Int32}
theorem rq_yAdd {post : Int32 → SY → Prop} {a s : Nat} {v2 v3 v4 : Int32} (ha : a < 3) (hs : sz a = nI s) (h : s < 6)
    (hp : post (nI (s + 1)) (tc, hh, op, tp, aT, aR, dp, upd sz a (nI (s + 1)), upd (upd (upd ce (18 * a + 3 * s) v2) (18 * a + 3 * s + 1) v3) (18 * a + 3 * s + 2) v4, K, A, fl, sy, tm, bg, ra, fd, vl, sn)) : wpY_add post (tc, hh, op, tp, aT, aR, dp, sz, ce, K, A, fl, sy, tm, bg, ra, fd, vl, sn) (nI a) v2 v3 v4 := by
  unfold wpY_add
  refine rq_yTabT ha ?_
  simp (disch := omega) only [forall_eq, vp_in_nI, nI_clamp, rq_c0, rq_c1, rq_c2, rq_c3, rq_c6, rq_c7, rq_c8, rq_c9, rq_c10, rq_c11, rq_c12, rq_c13, rq_c14, rq_c15, rq_c16, rq_c17, rq_c18, rq_c48, rq_c99, rq_c10368, rq_c30000, rq_eqT, rq_eqF, rq_leT, rq_leF, rq_ltT, rq_ltF, rq_neg, nI_add, pk_mul, pk_sub, pk_div, true_and, and_true, true_implies, false_implies, implies_true, not_true_eq_false, not_false_eq_true, pk_us, Nat.add_sub_cancel, eq_self, hs]
  exact hp
theorem rq_yAdd6 {post : Int32 → SY → Prop} {a : Nat} {v2 v3 v4 : Int32} (ha : a < 3) (hs : sz a = nI 6) (hp : post (-2) (tc, hh, op, tp, aT, aR, dp, sz, ce, K, A, fl, sy, tm, bg, ra, fd, vl, sn)) : wpY_add post (tc, hh, op, tp, aT, aR, dp, sz, ce, K, A, fl, sy, tm, bg, ra, fd, vl, sn) (nI a) v2 v3 v4 := by
  unfold wpY_add
  refine rq_yTabT ha ?_
  simp (disch := omega) only [forall_eq, vp_in_nI, nI_clamp, rq_c0, rq_c1, rq_c2, rq_c3, rq_c6, rq_c7, rq_c8, rq_c9, rq_c10, rq_c11, rq_c12, rq_c13, rq_c14, rq_c15, rq_c16, rq_c17, rq_c18, rq_c48, rq_c99, rq_c10368, rq_c30000, rq_eqT, rq_eqF, rq_leT, rq_leF, rq_ltT, rq_ltF, rq_neg, nI_add, pk_mul, pk_sub, pk_div, true_and, and_true, true_implies, false_implies, implies_true, not_true_eq_false, not_false_eq_true, pk_us, Nat.add_sub_cancel, eq_self, hs]
  exact hp
theorem rq_yRem {post : Int32 → SY → Prop} {a s e : Nat} (ha : a < 3) (hs : sz a = nI s) (h6 : s ≤ 5) (he : e = 18 * a + 3 * s) : ∀ (m j : Nat) (ce : Nat → Int32), j + m = e →
    post (nI s) (tc, hh, op, tp, aT, aR, dp, sz, rq_sh ce j m, K, A, fl, sy, tm, bg, ra, fd, vl, sn) → wY_remove_41 post (nI a) tc hh op tp aT aR dp (m + 1) (nI j) sz ce K A fl sy tm bg ra fd vl sn := by
  intro m
  induction m with
  | zero =>
    intro j ce hj hp
    rw [wY_remove_41]
    simp (disch := omega) only [forall_eq, vp_in_nI, nI_clamp, rq_c0, rq_c1, rq_c2, rq_c3, rq_c6, rq_c7, rq_c8, rq_c9, rq_c10, rq_c11, rq_c12, rq_c13, rq_c14, rq_c15, rq_c16, rq_c17, rq_c18, rq_c48, rq_c99, rq_c10368, rq_c30000, rq_eqT, rq_eqF, rq_leT, rq_leF, rq_ltT, rq_ltF, rq_neg, nI_add, pk_mul, pk_sub, pk_div, true_and, and_true, true_implies, false_implies, implies_true, not_true_eq_false, not_false_eq_true, pk_us, Nat.add_sub_cancel, eq_self, hs]
    exact hp
  | succ m ih =>
    intro j ce hj hp
    rw [wY_remove_41]
    simp (disch := omega) only [forall_eq, vp_in_nI, nI_clamp, rq_c0, rq_c1, rq_c2, rq_c3, rq_c6, rq_c7, rq_c8, rq_c9, rq_c10, rq_c11, rq_c12, rq_c13, rq_c14, rq_c15, rq_c16, rq_c17, rq_c18, rq_c48, rq_c99, rq_c10368, rq_c30000, rq_eqT, rq_eqF, rq_leT, rq_leF, rq_ltT, rq_ltF, rq_neg, nI_add, pk_mul, pk_sub, pk_div, true_and, and_true, true_implies, false_implies, implies_true, not_true_eq_false, not_false_eq_true, pk_us, Nat.add_sub_cancel, eq_self, hs]
    exact ih (j + 1) _ (by omega) hp
theorem rq_yRemove {post : Int32 → SY → Prop} {a s q : Nat} (ha : a < 3) (hs : sz a = nI (s + 1)) (h6 : s ≤ 5) (hq : q ≤ s)
    (hp : post (nI s) (tc, hh, op, tp, aT, aR, dp, upd sz a (nI s), rq_sh ce (18 * a + 3 * q) (3 * s - 3 * q), K, A, fl, sy, tm, bg, ra, fd, vl, sn)) : wpY_remove post (tc, hh, op, tp, aT, aR, dp, sz, ce, K, A, fl, sy, tm, bg, ra, fd, vl, sn) (nI a) (nI q) := by
  unfold wpY_remove
  refine rq_yTabT ha (br_f (by decide) ?_)
  refine rq_yRowT ha hs (by omega) (by omega) (br_f (by decide) ?_)
  simp (disch := omega) only [forall_eq, vp_in_nI, nI_clamp, rq_c0, rq_c1, rq_c2, rq_c3, rq_c6, rq_c7, rq_c8, rq_c9, rq_c10, rq_c11, rq_c12, rq_c13, rq_c14, rq_c15, rq_c16, rq_c17, rq_c18, rq_c48, rq_c99, rq_c10368, rq_c30000, rq_eqT, rq_eqF, rq_leT, rq_leF, rq_ltT, rq_ltF, rq_neg, nI_add, pk_mul, pk_sub, pk_div, true_and, and_true, true_implies, false_implies, implies_true, not_true_eq_false, not_false_eq_true, pk_us, Nat.add_sub_cancel, eq_self, hs]
  exact ⟨_, rq_yRem ha pk_us h6 rfl (3 * s - 3 * q) (18 * a + 3 * q) ce (by omega) hp⟩
end
theorem i_vc_add {k : Nat} {u : SX} {v : SY} (I : i_Rel k u v) (hk : k + 5 ≤ 2560) (v1 : Int32) (v2 : Int32) (v3 : Int32) (v4 : Int32) : wpX_add (fun r u' => wpY_add (fun r' v' => r' = r ∧ i_Rel (k + 5) u' v') v v1 v2 v3 v4) u v1 v2 v3 v4 := by
  obtain ⟨n, H, D, O, xT, xR, yT, yR, hh, op, tp, dp, ce, sz, K, A, hA, dA, oA, C, sx, tb, rh, oc, kr, kn, tm, fl, sy, bg, ra, fd, vl, sn, rfl, rfl, P, hs⟩ := I
  by_cases h : ∃ a, a < 3 ∧ v1 = nI a
  · obtain ⟨a, ha, rfl⟩ := h
    obtain ⟨s, h6, es⟩ := hs a ha
    by_cases z : s < 6
    · exact rq_xAdd ha es z (rq_yAdd ha es z ⟨rfl, rq_mk _ P (rq_szU hs (by omega))⟩)
    · have e : s = 6 := by omega
      subst e
      exact rq_xAdd6 ha es (rq_yAdd6 ha es ⟨rfl, rq_mk _ P hs⟩)
  · unfold wpX_add
    refine rq_xTabF h (br_t rfl ?_)
    unfold wpY_add
    refine rq_yTabF h (br_t rfl ?_)
    exact ⟨rfl, rq_mk _ P hs⟩
theorem i_vc_remove {k : Nat} {u : SX} {v : SY} (I : i_Rel k u v) (hk : k + 5 ≤ 2560) (v1 : Int32) (v2 : Int32) : wpX_remove (fun r u' => wpY_remove (fun r' v' => r' = r ∧ i_Rel (k + 5) u' v') v v1 v2) u v1 v2 := by
  obtain ⟨n, H, D, O, xT, xR, yT, yR, hh, op, tp, dp, ce, sz, K, A, hA, dA, oA, C, sx, tb, rh, oc, kr, kn, tm, fl, sy, bg, ra, fd, vl, sn, rfl, rfl, P, hs⟩ := I
  by_cases h : ∃ a, a < 3 ∧ v1 = nI a
  · obtain ⟨a, ha, rfl⟩ := h
    obtain ⟨s, h6, es⟩ := hs a ha
    by_cases z : ∃ q, q < s ∧ v2 = nI q
    · obtain ⟨q, hq, rfl⟩ := z
      obtain ⟨s', rfl⟩ : ∃ s', s = s' + 1 := ⟨s - 1, by omega⟩
      exact rq_xRemove ha es (by omega) (by omega) (rq_yRemove ha es (by omega) (by omega) ⟨rfl, rq_mk _ P (rq_szU hs (by omega))⟩)
    · unfold wpX_remove
      refine rq_xTabT ha (br_f (by decide) (rq_xRowF ha es h6 z (br_t rfl ?_)))
      unfold wpY_remove
      refine rq_yTabT ha (br_f (by decide) (rq_yRowF ha es h6 z (br_t rfl ?_)))
      exact ⟨rfl, rq_mk _ P hs⟩
  · unfold wpX_remove
    refine rq_xTabF h (br_t rfl ?_)
    unfold wpY_remove
    refine rq_yTabF h (br_t rfl ?_)
    exact ⟨rfl, rq_mk _ P hs⟩
theorem i_vc_drop {k : Nat} {u : SX} {v : SY} (I : i_Rel k u v) (hk : k + 5 ≤ 2560) : wpX_drop (fun r u' => wpY_drop (fun r' v' => r' = r ∧ i_Rel (k + 5) u' v') v) u := by
  obtain ⟨n, H, D, O, xT, xR, yT, yR, hh, op, tp, dp, ce, sz, K, A, hA, dA, oA, C, sx, tb, rh, oc, kr, kn, tm, fl, sy, bg, ra, fd, vl, sn, rfl, rfl, P, hs⟩ := I
  have hn := P.1
  unfold wpX_drop
  refine pk_eq n 0 (fun z => ?_) (fun z => ?_)
  · subst z
    exact br_t rfl ⟨rfl, rq_mk _ P hs⟩
  · obtain ⟨m, rfl⟩ : ∃ m, n = m + 1 := ⟨n - 1, by omega⟩
    refine nm_r (nI_pred m) ?_
    unfold wpY_drop
    refine br_f (nI_ne0 (by omega) (by omega)) (nm_r (nI_pred m) ?_)
    exact ⟨rfl, rq_mk _ (rq_le P (by omega)) hs⟩
theorem i_vc_clear {k : Nat} {u : SX} {v : SY} (I : i_Rel k u v) (hk : k + 5 ≤ 2560) : wpX_clear (fun r u' => wpY_clear (fun r' v' => r' = r ∧ i_Rel (k + 5) u' v') v) u := by
  obtain ⟨n, H, D, O, xT, xR, yT, yR, hh, op, tp, dp, ce, sz, K, A, hA, dA, oA, C, sx, tb, rh, oc, kr, kn, tm, fl, sy, bg, ra, fd, vl, sn, rfl, rfl, P, hs⟩ := I
  exact ⟨rfl, rq_mk (k + 5) (n := 0) (rq_le P (by omega)) hs⟩
theorem i_vc_rows {k : Nat} {u : SX} {v : SY} (I : i_Rel k u v) (hk : k + 5 ≤ 2560) (v1 : Int32) : wpX_rows (fun r => wpY_rows (fun r' => r' = r ∧ i_Rel (k + 5) u v) v v1) u v1 := by
  obtain ⟨n, H, D, O, xT, xR, yT, yR, hh, op, tp, dp, ce, sz, K, A, hA, dA, oA, C, sx, tb, rh, oc, kr, kn, tm, fl, sy, bg, ra, fd, vl, sn, rfl, rfl, P, hs⟩ := I
  by_cases h : ∃ a, a < 3 ∧ v1 = nI a
  · obtain ⟨a, ha, rfl⟩ := h
    unfold wpX_rows
    refine rq_xTabT ha (br_f (by decide) ⟨vp_in_nI ha (by omega), ?_⟩)
    unfold wpY_rows
    refine rq_yTabT ha (br_f (by decide) ⟨vp_in_nI ha (by omega), ?_⟩)
    exact ⟨rfl, rq_mk _ P hs⟩
  · unfold wpX_rows
    refine rq_xTabF h (br_t rfl ?_)
    unfold wpY_rows
    refine rq_yTabF h (br_t rfl ?_)
    exact ⟨rfl, rq_mk _ P hs⟩
theorem i_vc_cell {k : Nat} {u : SX} {v : SY} (I : i_Rel k u v) (hk : k + 5 ≤ 2560) (v1 : Int32) (v2 : Int32) (v3 : Int32) : wpX_cell (fun r => wpY_cell (fun r' => r' = r ∧ i_Rel (k + 5) u v) v v1 v2 v3) u v1 v2 v3 := by
  obtain ⟨n, H, D, O, xT, xR, yT, yR, hh, op, tp, dp, ce, sz, K, A, hA, dA, oA, C, sx, tb, rh, oc, kr, kn, tm, fl, sy, bg, ra, fd, vl, sn, rfl, rfl, P, hs⟩ := I
  unfold wpX_cell
  by_cases h : ∃ a, a < 3 ∧ v1 = nI a
  · obtain ⟨a, ha, rfl⟩ := h
    obtain ⟨s, h6, es⟩ := hs a ha
    refine rq_xTabT ha (br_f (by decide) ?_)
    by_cases c : ∃ c, c < 3 ∧ v3 = nI c
    · obtain ⟨c, hc, rfl⟩ := c
      refine rq_xColT hc (br_f (by decide) ?_)
      by_cases z : ∃ q, q < s ∧ v2 = nI q
      · obtain ⟨q, hq, rfl⟩ := z
        refine rq_xRowT ha es h6 hq (br_f (by decide) ?_)
        unfold wpX_cellIndex
        simp (disch := omega) only [forall_eq, vp_in_nI, nI_clamp, rq_c0, rq_c1, rq_c2, rq_c3, rq_c6, rq_c7, rq_c8, rq_c9, rq_c10, rq_c11, rq_c12, rq_c13, rq_c14, rq_c15, rq_c16, rq_c17, rq_c18, rq_c48, rq_c99, rq_c10368, rq_c30000, rq_eqT, rq_eqF, rq_leT, rq_leF, rq_ltT, rq_ltF, rq_neg, nI_add, pk_mul, pk_sub, pk_div, true_and, and_true, true_implies, false_implies, implies_true, not_true_eq_false, not_false_eq_true, pk_us, Nat.add_sub_cancel, eq_self, rq_ix]
        unfold wpY_cell
        refine rq_yRowT ha es h6 hq (br_f (by decide) ?_)
        simp (disch := omega) only [forall_eq, vp_in_nI, nI_clamp, rq_c0, rq_c1, rq_c2, rq_c3, rq_c6, rq_c7, rq_c8, rq_c9, rq_c10, rq_c11, rq_c12, rq_c13, rq_c14, rq_c15, rq_c16, rq_c17, rq_c18, rq_c48, rq_c99, rq_c10368, rq_c30000, rq_eqT, rq_eqF, rq_leT, rq_leF, rq_ltT, rq_ltF, rq_neg, nI_add, pk_mul, pk_sub, pk_div, true_and, and_true, true_implies, false_implies, implies_true, not_true_eq_false, not_false_eq_true, pk_us, Nat.add_sub_cancel, eq_self]
        exact rq_mk _ P hs
      · refine rq_xRowF ha es h6 z (br_t rfl ?_)
        unfold wpY_cell
        refine rq_yRowF ha es h6 z (br_t rfl ?_)
        exact ⟨rfl, rq_mk _ P hs⟩
    · refine rq_xColF c (br_t rfl ?_)
      unfold wpY_cell
      by_cases z : ∃ q, q < s ∧ v2 = nI q
      · obtain ⟨q, hq, rfl⟩ := z
        refine rq_yRowT ha es h6 hq (br_f (by decide) ?_)
        rcases pk_ix v3 (n := 3) (by decide) with y | y | y
        · exact br_t y ⟨rfl, rq_mk _ P hs⟩
        · exact br_c (fun _ => ⟨rfl, rq_mk _ P hs⟩) (fun _ => br_t (rq_lt2 y) ⟨rfl, rq_mk _ P hs⟩)
        · exact absurd y c
      · refine rq_yRowF ha es h6 z (br_t rfl ?_)
        exact ⟨rfl, rq_mk _ P hs⟩
  · refine rq_xTabF h (br_t rfl ?_)
    unfold wpY_cell
    refine rq_yRowN h (br_t rfl ?_)
    exact ⟨rfl, rq_mk _ P hs⟩
end
section
/-! the owed statements that work a program out -/
theorem i_vc_whole {k : Nat} {u : SX} {v : SY} (I : i_Rel k u v) (hk : k + 5 ≤ 2560) : wpX_whole (fun r => wpY_whole (fun r' v' => r' = r ∧ i_Rel (k + 5) u v') v) u := by
  obtain ⟨n, H, D, O, xT, xR, yT, yR, hh, op, tp, dp, ce, sz, K, A, hA, dA, oA, C, sx, tb, rh, oc, kr, kn, tm, fl, sy, bg, ra, fd, vl, sn, rfl, rfl, P, hs⟩ := I
  obtain ⟨fl', W⟩ := rq_yWhole (hh := hh) (op := op) (fl := fl) (tp := tp) (aT := yT) (aR := yR) (dp := dp) (sz := sz) (ce := ce) (sy := sy) (tm := tm) (bg := bg) (ra := ra) (fd := fd) (vl := vl) (sn := sn) P
  unfold wpX_whole
  refine rq_xIsWhole P (fun z => br_f (by decide) ?_) (fun z => br_t rfl ?_)
  · exact W _ (fun _ => ⟨rfl, rq_mk _ P hs⟩) (fun y => absurd z y)
  · exact W _ (fun y => absurd y z) (fun _ => ⟨rfl, rq_mk _ P hs⟩)
theorem i_vc_result {k : Nat} {u : SX} {v : SY} (I : i_Rel k u v) (hk : k + 5 ≤ 2560) : wpX_result (fun r u' => wpY_result (fun r' v' => r' = r ∧ i_Rel (k + 5) u' v') v) u := by
  obtain ⟨n, H, D, O, xT, xR, yT, yR, hh, op, tp, dp, ce, sz, K, A, hA, dA, oA, C, sx, tb, rh, oc, kr, kn, tm, fl, sy, bg, ra, fd, vl, sn, rfl, rfl, P, hs⟩ := I
  obtain ⟨fl', W⟩ := rq_yWhole (hh := hh) (op := op) (fl := fl) (tp := tp) (aT := yT) (aR := yR) (dp := dp) (sz := sz) (ce := ce) (sy := sy) (tm := tm) (bg := bg) (ra := ra) (fd := fd) (vl := vl) (sn := sn) P
  unfold wpX_result
  refine rq_xIsWhole P (fun z => br_f (by decide) ?_) (fun z => br_t rfl ?_)
  · obtain ⟨sx', tb', rh', oc', kr', kn', tm', sy', bg', ra', fd', vl', sn', tp', dp', he, gX, gY⟩ := rq_eval (hh := nI (H n)) (op := nI (D n)) (fl := fl') (aT := -1) (aR := -1) (xT := xT) (xR := xR) (yT := yT) (yR := yR) (tp := tp) (dp := dp) (ce := ce) (sz := sz) (sx := sx) (tb := tb) (rh := rh) (oc := oc) (kr := kr) (kn := kn) (tm := tm) (sy := sy) (bg := bg) (ra := ra) (fd := fd) (vl := vl) (sn := sn) P z.1 z.2 hs
    refine gX _ ?_
    unfold wpY_result
    refine W _ (fun _ => br_f (by decide) ?_) (fun y => absurd z y)
    refine gY _ ?_
    exact ⟨he.symm, rq_mk _ P hs⟩
  · unfold wpY_result
    refine W _ (fun y => absurd y z) (fun _ => br_t rfl ?_)
    exact ⟨rfl, rq_mk _ P hs⟩
theorem i_vc_reached {k : Nat} {u : SX} {v : SY} (I : i_Rel k u v) (hk : k + 5 ≤ 2560) (v1 : Int32) : wpX_reached (fun r u' => wpY_reached (fun r' v' => r' = r ∧ i_Rel (k + 5) u' v') v v1) u v1 := by
  obtain ⟨n, H, D, O, xT, xR, yT, yR, hh, op, tp, dp, ce, sz, K, A, hA, dA, oA, C, sx, tb, rh, oc, kr, kn, tm, fl, sy, bg, ra, fd, vl, sn, rfl, rfl, P, hs⟩ := I
  have hn := P.1
  obtain ⟨fl', W⟩ := rq_yWhole (hh := hh) (op := op) (fl := fl) (tp := tp) (aT := yT) (aR := yR) (dp := dp) (sz := sz) (ce := ce) (sy := sy) (tm := tm) (bg := bg) (ra := ra) (fd := fd) (vl := vl) (sn := sn) P
  unfold wpX_reached
  refine rq_xIsWhole P (fun z => br_f (by decide) ?_) (fun z => br_t rfl ?_)
  · rcases pk_ix v1 (n := n) (by omega) with y | y | ⟨j, hj, rfl⟩
    · refine br_t y ?_
      unfold wpY_reached
      refine W _ (fun _ => br_f (by decide) (br_t y ?_)) (fun y => absurd z y)
      exact ⟨rfl, rq_mk _ P hs⟩
    · have y' : ¬ v1 < nI n := Int32.not_lt.mpr y
      refine br_c (fun w => ?_) (fun w => br_f y' ?_)
      · unfold wpY_reached
        refine W _ (fun _ => br_f (by decide) (br_t w ?_)) (fun y => absurd z y)
        exact ⟨rfl, rq_mk _ P hs⟩
      · unfold wpY_reached
        refine W _ (fun _ => br_f (by decide) (br_f w (br_f y' ?_))) (fun y => absurd z y)
        exact ⟨rfl, rq_mk _ P hs⟩
    · obtain ⟨sx', tb', rh', oc', kr', kn', tm', sy', bg', ra', fd', vl', sn', tp', dp', he, gX, gY⟩ := rq_eval (hh := nI (H n)) (op := nI (D n)) (fl := fl') (aT := -1) (aR := -1) (xT := xT) (xR := xR) (yT := yT) (yR := yR) (tp := tp) (dp := dp) (ce := ce) (sz := sz) (sx := sx) (tb := tb) (rh := rh) (oc := oc) (kr := kr) (kn := kn) (tm := tm) (sy := sy) (bg := bg) (ra := ra) (fd := fd) (vl := vl) (sn := sn) P z.1 z.2 hs
      refine br_f (nI_pos (by omega)) (br_t (nI_lt hj (by omega)) ?_)
      refine gX _ ?_
      refine ⟨vp_in_nI (by omega) (by omega), ?_⟩
      unfold wpY_reached
      refine W _ (fun _ => br_f (by decide) (br_f (nI_pos (by omega)) (br_t (nI_lt hj (by omega)) ?_))) (fun y => absurd z y)
      refine gY _ ?_
      refine ⟨vp_in_nI (by omega) (by omega), ?_⟩
      exact ⟨rfl, rq_mk _ P hs⟩
  · unfold wpY_reached
    refine W _ (fun y => absurd y z) (fun _ => br_t rfl ?_)
    exact ⟨rfl, rq_mk _ P hs⟩
theorem i_vc_without {k : Nat} {u : SX} {v : SY} (I : i_Rel k u v) (hk : k + 5 ≤ 2560) (v1 : Int32) (v2 : Int32) : wpX_without (fun r u' => wpY_without (fun r' v' => r' = r ∧ i_Rel (k + 5) u' v') v v1 v2) u v1 v2 := by
  obtain ⟨n, H, D, O, xT, xR, yT, yR, hh, op, tp, dp, ce, sz, K, A, hA, dA, oA, C, sx, tb, rh, oc, kr, kn, tm, fl, sy, bg, ra, fd, vl, sn, rfl, rfl, P, hs⟩ := I
  have hn := P.1
  obtain ⟨fl', W⟩ := rq_yWhole (hh := hh) (op := op) (fl := fl) (tp := tp) (aT := yT) (aR := yR) (dp := dp) (sz := sz) (ce := ce) (sy := sy) (tm := tm) (bg := bg) (ra := ra) (fd := fd) (vl := vl) (sn := sn) P
  unfold wpX_without
  refine rq_xIsWhole P (fun z => br_f (by decide) ?_) (fun z => br_t rfl ?_)
  · by_cases h : ∃ a, a < 3 ∧ v1 = nI a
    · obtain ⟨a, ha, rfl⟩ := h
      obtain ⟨s, h6, es⟩ := hs a ha
      refine rq_xTabT ha (br_f (by decide) ?_)
      by_cases c : ∃ q, q < s ∧ v2 = nI q
      · obtain ⟨q, hq, rfl⟩ := c
        refine rq_xRowT ha es h6 hq (br_f (by decide) ?_)
        obtain ⟨sx', tb', rh', oc', kr', kn', tm', sy', bg', ra', fd', vl', sn', tp', dp', he, gX, gY⟩ := rq_eval (hh := nI (H n)) (op := nI (D n)) (fl := fl') (aT := nI a) (aR := nI q) (xT := xT) (xR := xR) (yT := yT) (yR := yR) (tp := tp) (dp := dp) (ce := ce) (sz := sz) (sx := sx) (tb := tb) (rh := rh) (oc := oc) (kr := kr) (kn := kn) (tm := tm) (sy := sy) (bg := bg) (ra := ra) (fd := fd) (vl := vl) (sn := sn) P z.1 z.2 hs
        refine gX _ ?_
        unfold wpY_without
        refine W _ (fun _ => br_f (by decide) ?_) (fun y => absurd z y)
        refine rq_yRowT ha es h6 hq (br_f (by decide) ?_)
        refine gY _ ?_
        exact ⟨he.symm, rq_mk _ P hs⟩
      · refine rq_xRowF ha es h6 c (br_t rfl ?_)
        unfold wpY_without
        refine W _ (fun _ => br_f (by decide) ?_) (fun y => absurd z y)
        refine rq_yRowF ha es h6 c (br_t rfl ?_)
        exact ⟨rfl, rq_mk _ P hs⟩
    · refine rq_xTabF h (br_t rfl ?_)
      unfold wpY_without
      refine W _ (fun _ => br_f (by decide) ?_) (fun y => absurd z y)
      refine rq_yRowN h (br_t rfl ?_)
      exact ⟨rfl, rq_mk _ P hs⟩
  · unfold wpY_without
    refine W _ (fun y => absurd y z) (fun _ => br_t rfl ?_)
    exact ⟨rfl, rq_mk _ P hs⟩
theorem rq_ixX (a q c : Nat) : (nI a * 6 + nI q) * 3 + nI c = nI (18 * a + 3 * q + c) := by
  simp only [rq_c6, rq_c3, pk_mul, nI_add, rq_ix]
theorem rq_ixY (a q c : Nat) : (18 * nI a + 3 * nI q) + nI c = nI (18 * a + 3 * q + c) := by
  simp only [rq_c18, rq_c3, pk_mul, nI_add]
theorem i_vc_store {k : Nat} {u : SX} {v : SY} (I : i_Rel k u v) (hk : k + 5 ≤ 2560) (v1 : Int32) (v2 : Int32) (v3 : Int32) : wpX_store (fun r u' => wpY_store (fun r' v' => r' = r ∧ i_Rel (k + 5) u' v') v v1 v2 v3) u v1 v2 v3 := by
  obtain ⟨n, H, D, O, xT, xR, yT, yR, hh, op, tp, dp, ce, sz, K, A, hA, dA, oA, C, sx, tb, rh, oc, kr, kn, tm, fl, sy, bg, ra, fd, vl, sn, rfl, rfl, P, hs⟩ := I
  have hn := P.1
  unfold wpX_store
  by_cases h : ∃ a, a < 3 ∧ v1 = nI a
  · obtain ⟨a, ha, rfl⟩ := h
    obtain ⟨s, h6, es⟩ := hs a ha
    refine rq_xTabT ha (br_f (by decide) ?_)
    by_cases c : ∃ c, c < 3 ∧ v3 = nI c
    · obtain ⟨c, hc, rfl⟩ := c
      have c2 : nI c ≤ 2 := nI_le (b := 2) (by omega) (by decide)
      refine rq_xColT hc (br_f (by decide) ?_)
      by_cases w : ∃ q, q < s ∧ v2 = nI q
      · obtain ⟨q, hq, rfl⟩ := w
        refine rq_xRowT ha es h6 hq (br_f (by decide) ?_)
        obtain ⟨fl', W⟩ := rq_yWhole (hh := hh) (op := op) (fl := fl) (tp := tp) (aT := yT) (aR := yR) (dp := dp) (sz := sz) (ce := ce) (sy := sy) (tm := tm) (bg := bg) (ra := ra) (fd := fd) (vl := vl) (sn := sn) P
        refine rq_xIsWhole P (fun z => br_f (by decide) ?_) (fun z => br_t rfl ?_)
        · obtain ⟨fl2, W2⟩ := rq_yWhole (hh := nI (H n)) (op := nI (D n)) (fl := fl') (tp := tp) (aT := yT) (aR := yR) (dp := dp) (sz := sz) (ce := ce) (sy := sy) (tm := tm) (bg := bg) (ra := ra) (fd := fd) (vl := vl) (sn := sn) P
          obtain ⟨sx', tb', rh', oc', kr', kn', tm', sy', bg', ra', fd', vl', sn', tp', dp', he, gX, gY⟩ := rq_eval (hh := nI (H n)) (op := nI (D n)) (fl := fl2) (aT := -1) (aR := -1) (xT := xT) (xR := xR) (yT := yT) (yR := yR) (tp := tp) (dp := dp) (ce := ce) (sz := sz) (sx := sx) (tb := tb) (rh := rh) (oc := oc) (kr := kr) (kn := kn) (tm := tm) (sy := sy) (bg := bg) (ra := ra) (fd := fd) (vl := vl) (sn := sn) P z.1 z.2 hs
          refine gX _ ?_
          unfold wpX_cellIndex
          refine ⟨by rw [rq_ixX]; exact vp_in_nI (by omega) (by omega), nm_r (e' := upd ce (18 * a + 3 * q + c) (sx' 0)) (by rw [rq_ixX, nI_clamp (by omega)]) ?_⟩
          unfold wpY_store
          refine rq_yTabT ha (br_f (by decide) (br_f (nI_pos (by omega)) (br_t c2 ?_)))
          refine rq_yRowT ha es h6 hq (br_f (by decide) ?_)
          refine W _ (fun _ => br_f (by decide) ?_) (fun y => absurd z y)
          unfold wpY_result
          refine W2 _ (fun _ => br_f (by decide) ?_) (fun y => absurd z y)
          refine gY _ ?_
          refine ⟨by rw [rq_ixY]; exact vp_in_nI (by omega) (by omega), nm_r (e' := upd ce (18 * a + 3 * q + c) (sx' 0)) (by rw [rq_ixY, nI_clamp (by omega), he]) ?_⟩
          exact ⟨rfl, rq_mk _ P hs⟩
        · unfold wpY_store
          refine rq_yTabT ha (br_f (by decide) (br_f (nI_pos (by omega)) (br_t c2 ?_)))
          refine rq_yRowT ha es h6 hq (br_f (by decide) ?_)
          refine W _ (fun y => absurd y z) (fun _ => br_t rfl ?_)
          exact ⟨rfl, rq_mk _ P hs⟩
      · refine rq_xRowF ha es h6 w (br_t rfl ?_)
        unfold wpY_store
        refine rq_yTabT ha (br_f (by decide) (br_f (nI_pos (by omega)) (br_t c2 ?_)))
        refine rq_yRowF ha es h6 w (br_t rfl ?_)
        exact ⟨rfl, rq_mk _ P hs⟩
    · refine rq_xColF c (br_t rfl ?_)
      unfold wpY_store
      refine rq_yTabT ha (br_f (by decide) ?_)
      rcases pk_ix v3 (n := 3) (by decide) with y | y | y
      · exact br_t y ⟨rfl, rq_mk _ P hs⟩
      · exact br_c (fun _ => ⟨rfl, rq_mk _ P hs⟩) (fun _ => br_f (Int32.not_le.mpr (rq_lt2 y)) ⟨rfl, rq_mk _ P hs⟩)
      · exact absurd y c
  · refine rq_xTabF h (br_t rfl ?_)
    unfold wpY_store
    refine rq_yTabF h (br_t rfl ?_)
    exact ⟨rfl, rq_mk _ P hs⟩
end
section
/-! token: the tests of both sides, and the token put -/
def rq_Tok (k : Nat) (v : Int32) : Prop := (k = 0 → ¬ v < -99 ∧ ¬ 99 < v) ∧ (k = 1 → ∃ a, a < 9 ∧ v = nI a) ∧ (k = 10 → ∃ a, a < 3 ∧ v = nI a)
def rq_need (k d w : Nat) : Prop := (2 ≤ k ∧ k ≤ 8 → 2 ≤ w) ∧ (k = 9 → 1 ≤ w) ∧ (k = 11 ∨ 14 ≤ k → 0 < d ∧ w = 1) ∧ (k = 12 ∨ k = 13 → 0 < d ∧ w = 0)
def rq_room (k h d : Nat) : Prop := (k = 10 → d < 3) ∧ (k ≤ 1 ∨ k = 12 ∨ k = 13 → h < 6)
theorem rq_nz {v w : Int32} (h : v < 0) (hw : ¬ w < 0) : ¬ v = w := fun e => by
  rw [e] at h
  exact hw h
theorem rq_bz {v w : Int32} (h : nI 18 ≤ v) (hw : ¬ nI 18 ≤ w) : ¬ v = w := fun e => by
  rw [e] at h
  exact hw h
theorem rq_9v {v : Int32} (h : nI 9 ≤ v) : (8 : Int32) < v := Int32.lt_of_lt_of_le (by decide) h
theorem rq_18v {v : Int32} (h : nI 18 ≤ v) : (17 : Int32) < v := Int32.lt_of_lt_of_le (by decide) h
theorem rq_k17 {k : Nat} (h : k ≤ 17) : ¬ (17 : Int32) < nI k := nI_nlt (a := 17) (b := k) h (by decide)
theorem rq_kne {k m : Nat} (h : k ≠ m) (hk : k ≤ 17) (hm : m ≤ 17) : ¬ nI k = nI m := rq_ne h hk hm
theorem rq_xTokT {post : Int32 → Prop} {k : Nat} {v : Int32} (hk : k ≤ 17) (h : rq_Tok k v) (hp : post 1) : wpX_isToken post (nI k) v := by
  unfold wpX_isToken
  by_cases z0 : k = 0
  · have t := h.1 z0
    subst z0
    exact br_t rfl (br_f t.1 (br_f t.2 hp))
  · refine br_f (rq_kne (m := 0) z0 hk (by omega)) ?_
    by_cases z1 : k = 1
    · obtain ⟨a, ha, rfl⟩ := h.2.1 z1
      subst z1
      exact br_t rfl (br_f (nI_pos (by omega)) (br_f (nI_ge (b := 9) ha (by decide)) hp))
    · refine br_f (rq_kne (m := 1) z1 hk (by omega)) ?_
      by_cases z2 : k = 10
      · obtain ⟨a, ha, rfl⟩ := h.2.2 z2
        subst z2
        exact br_t rfl (rq_xTabT ha ⟨rfl, hp⟩)
      · exact br_f (rq_kne (m := 10) z2 hk (by omega)) (br_f (nI_pos (by omega)) (br_f (rq_k17 hk) hp))
theorem rq_xTokF {post : Int32 → Prop} {x v : Int32} (h : ¬ ∃ k, k ≤ 17 ∧ x = nI k ∧ rq_Tok k v) (hp : post 0) : wpX_isToken post x v := by
  unfold wpX_isToken
  rcases pk_ix x (n := 18) (by decide) with z | z | ⟨k, hk, rfl⟩
  · exact br_f (rq_nz z (by decide)) (br_f (rq_nz z (by decide)) (br_f (rq_nz z (by decide)) (br_t z hp)))
  · exact br_f (rq_bz z (by decide)) (br_f (rq_bz z (by decide)) (br_f (rq_bz z (by decide)) (br_c (fun _ => hp) (fun _ => br_t (rq_18v z) hp))))
  · have hn : ¬ rq_Tok k v := fun t => h ⟨k, by omega, rfl, t⟩
    by_cases z0 : k = 0
    · subst z0
      exact br_t rfl (br_c (fun _ => hp) (fun a => br_c (fun _ => hp) (fun b => absurd ⟨fun _ => ⟨a, b⟩, fun z => by omega, fun z => by omega⟩ hn)))
    · refine br_f (rq_kne (m := 0) z0 (by omega) (by omega)) ?_
      by_cases z1 : k = 1
      · subst z1
        refine br_t rfl ?_
        rcases pk_ix v (n := 9) (by decide) with y | y | y
        · exact br_t y hp
        · exact br_c (fun _ => hp) (fun _ => br_t y hp)
        · exact absurd ⟨fun z => by omega, fun _ => y, fun z => by omega⟩ hn
      · refine br_f (rq_kne (m := 1) z1 (by omega) (by omega)) ?_
        by_cases z2 : k = 10
        · subst z2
          exact br_t rfl (rq_xTabF (fun y => absurd ⟨fun z => by omega, fun z => by omega, fun _ => y⟩ hn) ⟨rfl, hp⟩)
        · exact absurd ⟨fun z => absurd z z0, fun z => absurd z z1, fun z => absurd z z2⟩ hn
section
variable {tc hh op tp aT aR dp : Int32} {sz ce K A fl sy tm bg ra fd vl sn : Nat → Int32}
theorem rq_yTokT {post : Int32 → Prop} {k : Nat} {v : Int32} (hk : k ≤ 17) (h : rq_Tok k v) (hp : post 1) : wpY_isToken post (tc, hh, op, tp, aT, aR, dp, sz, ce, K, A, fl, sy, tm, bg, ra, fd, vl, sn) (nI k) v := by
  unfold wpY_isToken
  by_cases z0 : k = 0
  · have t := h.1 z0
    subst z0
    exact br_t rfl (br_f t.1 (br_f t.2 hp))
  · refine br_f (rq_kne (m := 0) z0 hk (by omega)) ?_
    by_cases z1 : k = 1
    · obtain ⟨a, ha, rfl⟩ := h.2.1 z1
      subst z1
      exact br_t rfl (br_f (nI_pos (by omega)) (br_f (nI_nlt (a := 8) (b := a) (by omega) (by decide)) hp))
    · refine br_f (rq_kne (m := 1) z1 hk (by omega)) ?_
      by_cases z2 : k = 10
      · obtain ⟨a, ha, rfl⟩ := h.2.2 z2
        subst z2
        exact br_t rfl (rq_yTabT ha ⟨rfl, hp⟩)
      · exact br_f (rq_kne (m := 10) z2 hk (by omega)) (br_f (nI_nle (by omega) (by omega)) (br_f (rq_k17 hk) hp))
theorem rq_yTokF {post : Int32 → Prop} {x v : Int32} (h : ¬ ∃ k, k ≤ 17 ∧ x = nI k ∧ rq_Tok k v) (hp : post 0) : wpY_isToken post (tc, hh, op, tp, aT, aR, dp, sz, ce, K, A, fl, sy, tm, bg, ra, fd, vl, sn) x v := by
  unfold wpY_isToken
  rcases pk_ix x (n := 18) (by decide) with z | z | ⟨k, hk, rfl⟩
  · exact br_f (rq_nz z (by decide)) (br_f (rq_nz z (by decide)) (br_f (rq_nz z (by decide)) (br_t (Int32.le_of_lt z) hp)))
  · exact br_f (rq_bz z (by decide)) (br_f (rq_bz z (by decide)) (br_f (rq_bz z (by decide)) (br_c (fun _ => hp) (fun _ => br_t (rq_18v z) hp))))
  · have hn : ¬ rq_Tok k v := fun t => h ⟨k, by omega, rfl, t⟩
    by_cases z0 : k = 0
    · subst z0
      exact br_t rfl (br_c (fun _ => hp) (fun a => br_c (fun _ => hp) (fun b => absurd ⟨fun _ => ⟨a, b⟩, fun z => by omega, fun z => by omega⟩ hn)))
    · refine br_f (rq_kne (m := 0) z0 (by omega) (by omega)) ?_
      by_cases z1 : k = 1
      · subst z1
        refine br_t rfl ?_
        rcases pk_ix v (n := 9) (by decide) with y | y | y
        · exact br_t y hp
        · exact br_c (fun _ => hp) (fun _ => br_t (rq_9v y) hp)
        · exact absurd ⟨fun z => by omega, fun _ => y, fun z => by omega⟩ hn
      · refine br_f (rq_kne (m := 1) z1 (by omega) (by omega)) ?_
        by_cases z2 : k = 10
        · subst z2
          exact br_t rfl (rq_yTabF (fun y => absurd ⟨fun z => by omega, fun z => by omega, fun _ => y⟩ hn) ⟨rfl, hp⟩)
        · exact absurd ⟨fun z => absurd z z0, fun z => absurd z z1, fun z => absurd z z2⟩ hn
theorem rq_yNeed {post : Int32 → SY → Prop} {k h d w : Nat} {v : Int32} (hk : k ≤ 17) (hw : w ≤ 6) (hd : d ≤ 3) (h1 : rq_need k d w → wY_token_130 post (nI k) v tc (nI h) (nI d) tp aT aR dp sz ce K A fl sy tm bg ra fd vl sn) (h0 : ¬ rq_need k d w → post (-4) (tc, nI h, nI d, tp, aT, aR, dp, sz, ce, K, A, fl, sy, tm, bg, ra, fd, vl, sn)) :
    wY_token_75 post (nI k) v (nI w) tc (nI h) (nI d) tp aT aR dp sz ce K A fl sy tm bg ra fd vl sn := by
  unfold wY_token_75 wY_token_90 wY_token_95 wpY_isEnd wpY_takes wY_takes_13
  have hc : k ≤ 1 ∨ k = 10 ∨ (2 ≤ k ∧ k ≤ 8) ∨ k = 9 ∨ k = 11 ∨ (12 ≤ k ∧ k ≤ 13) ∨ 14 ≤ k := by omega
  rcases hc with c | c | c | c | c | c | c
  · simp (disch := omega) only [forall_eq, vp_in_nI, nI_clamp, rq_c0, rq_c1, rq_c2, rq_c3, rq_c6, rq_c7, rq_c8, rq_c9, rq_c10, rq_c11, rq_c12, rq_c13, rq_c14, rq_c15, rq_c16, rq_c17, rq_c18, rq_c48, rq_c99, rq_c10368, rq_c30000, rq_eqT, rq_eqF, rq_leT, rq_leF, rq_ltT, rq_ltF, rq_neg, nI_add, pk_mul, pk_sub, pk_div, true_and, and_true, true_implies, false_implies, implies_true, not_true_eq_false, not_false_eq_true, pk_us, Nat.add_sub_cancel, eq_self]
    exact h1 (by unfold rq_need; omega)
  · simp (disch := omega) only [forall_eq, vp_in_nI, nI_clamp, rq_c0, rq_c1, rq_c2, rq_c3, rq_c6, rq_c7, rq_c8, rq_c9, rq_c10, rq_c11, rq_c12, rq_c13, rq_c14, rq_c15, rq_c16, rq_c17, rq_c18, rq_c48, rq_c99, rq_c10368, rq_c30000, rq_eqT, rq_eqF, rq_leT, rq_leF, rq_ltT, rq_ltF, rq_neg, nI_add, pk_mul, pk_sub, pk_div, true_and, and_true, true_implies, false_implies, implies_true, not_true_eq_false, not_false_eq_true, pk_us, Nat.add_sub_cancel, eq_self]
    exact h1 (by unfold rq_need; omega)
  · simp (disch := omega) only [forall_eq, vp_in_nI, nI_clamp, rq_c0, rq_c1, rq_c2, rq_c3, rq_c6, rq_c7, rq_c8, rq_c9, rq_c10, rq_c11, rq_c12, rq_c13, rq_c14, rq_c15, rq_c16, rq_c17, rq_c18, rq_c48, rq_c99, rq_c10368, rq_c30000, rq_eqT, rq_eqF, rq_leT, rq_leF, rq_ltT, rq_ltF, rq_neg, nI_add, pk_mul, pk_sub, pk_div, true_and, and_true, true_implies, false_implies, implies_true, not_true_eq_false, not_false_eq_true, pk_us, Nat.add_sub_cancel, eq_self]
    exact pk_lt w 2 (fun z => h0 (by unfold rq_need; omega)) (fun z => h1 (by unfold rq_need; omega))
  · simp (disch := omega) only [forall_eq, vp_in_nI, nI_clamp, rq_c0, rq_c1, rq_c2, rq_c3, rq_c6, rq_c7, rq_c8, rq_c9, rq_c10, rq_c11, rq_c12, rq_c13, rq_c14, rq_c15, rq_c16, rq_c17, rq_c18, rq_c48, rq_c99, rq_c10368, rq_c30000, rq_eqT, rq_eqF, rq_leT, rq_leF, rq_ltT, rq_ltF, rq_neg, nI_add, pk_mul, pk_sub, pk_div, true_and, and_true, true_implies, false_implies, implies_true, not_true_eq_false, not_false_eq_true, pk_us, Nat.add_sub_cancel, eq_self]
    exact pk_lt w 1 (fun z => h0 (by unfold rq_need; omega)) (fun z => h1 (by unfold rq_need; omega))
  · simp (disch := omega) only [forall_eq, vp_in_nI, nI_clamp, rq_c0, rq_c1, rq_c2, rq_c3, rq_c6, rq_c7, rq_c8, rq_c9, rq_c10, rq_c11, rq_c12, rq_c13, rq_c14, rq_c15, rq_c16, rq_c17, rq_c18, rq_c48, rq_c99, rq_c10368, rq_c30000, rq_eqT, rq_eqF, rq_leT, rq_leF, rq_ltT, rq_ltF, rq_neg, nI_add, pk_mul, pk_sub, pk_div, true_and, and_true, true_implies, false_implies, implies_true, not_true_eq_false, not_false_eq_true, pk_us, Nat.add_sub_cancel, eq_self]
    exact pk_lt w 1 (fun z => h0 (by unfold rq_need; omega)) (fun z => pk_eq d 0 (fun z2 => h0 (by unfold rq_need; omega)) (fun z2 => pk_eq w 1 (fun z3 => h1 (by unfold rq_need; omega)) (fun z3 => h0 (by unfold rq_need; omega))))
  · simp (disch := omega) only [forall_eq, vp_in_nI, nI_clamp, rq_c0, rq_c1, rq_c2, rq_c3, rq_c6, rq_c7, rq_c8, rq_c9, rq_c10, rq_c11, rq_c12, rq_c13, rq_c14, rq_c15, rq_c16, rq_c17, rq_c18, rq_c48, rq_c99, rq_c10368, rq_c30000, rq_eqT, rq_eqF, rq_leT, rq_leF, rq_ltT, rq_ltF, rq_neg, nI_add, pk_mul, pk_sub, pk_div, true_and, and_true, true_implies, false_implies, implies_true, not_true_eq_false, not_false_eq_true, pk_us, Nat.add_sub_cancel, eq_self]
    exact pk_eq d 0 (fun z2 => h0 (by unfold rq_need; omega)) (fun z2 => pk_eq w 0 (fun z3 => h1 (by unfold rq_need; omega)) (fun z3 => h0 (by unfold rq_need; omega)))
  · simp (disch := omega) only [forall_eq, vp_in_nI, nI_clamp, rq_c0, rq_c1, rq_c2, rq_c3, rq_c6, rq_c7, rq_c8, rq_c9, rq_c10, rq_c11, rq_c12, rq_c13, rq_c14, rq_c15, rq_c16, rq_c17, rq_c18, rq_c48, rq_c99, rq_c10368, rq_c30000, rq_eqT, rq_eqF, rq_leT, rq_leF, rq_ltT, rq_ltF, rq_neg, nI_add, pk_mul, pk_sub, pk_div, true_and, and_true, true_implies, false_implies, implies_true, not_true_eq_false, not_false_eq_true, pk_us, Nat.add_sub_cancel, eq_self]
    exact pk_lt w 1 (fun z => h0 (by unfold rq_need; omega)) (fun z => pk_eq d 0 (fun z2 => h0 (by unfold rq_need; omega)) (fun z2 => pk_eq w 1 (fun z3 => h1 (by unfold rq_need; omega)) (fun z3 => h0 (by unfold rq_need; omega))))
theorem rq_yRoom {post : Int32 → SY → Prop} {k h d : Nat} {v : Int32} (hk : k ≤ 17) (h6 : h ≤ 6) (hd : d ≤ 3) (h1 : rq_room k h d → wY_token_185 post (nI k) v tc (nI h) (nI d) tp aT aR dp sz ce K A fl sy tm bg ra fd vl sn) (h0 : ¬ rq_room k h d → post (-5) (tc, nI h, nI d, tp, aT, aR, dp, sz, ce, K, A, fl, sy, tm, bg, ra, fd, vl, sn)) :
    wY_token_130 post (nI k) v tc (nI h) (nI d) tp aT aR dp sz ce K A fl sy tm bg ra fd vl sn := by
  unfold wY_token_130 wY_token_147 wY_token_152 wY_token_168
  have hc : k ≤ 1 ∨ k = 10 ∨ k = 12 ∨ k = 13 ∨ (2 ≤ k ∧ k ≠ 10 ∧ k ≠ 12 ∧ k ≠ 13) := by omega
  rcases hc with c | c | c | c | c
  · simp (disch := omega) only [forall_eq, vp_in_nI, nI_clamp, rq_c0, rq_c1, rq_c2, rq_c3, rq_c6, rq_c7, rq_c8, rq_c9, rq_c10, rq_c11, rq_c12, rq_c13, rq_c14, rq_c15, rq_c16, rq_c17, rq_c18, rq_c48, rq_c99, rq_c10368, rq_c30000, rq_eqT, rq_eqF, rq_leT, rq_leF, rq_ltT, rq_ltF, rq_neg, nI_add, pk_mul, pk_sub, pk_div, true_and, and_true, true_implies, false_implies, implies_true, not_true_eq_false, not_false_eq_true, pk_us, Nat.add_sub_cancel, eq_self]
    exact pk_eq h 6 (fun z => h0 (by unfold rq_room; omega)) (fun z => h1 (by unfold rq_room; omega))
  · simp (disch := omega) only [forall_eq, vp_in_nI, nI_clamp, rq_c0, rq_c1, rq_c2, rq_c3, rq_c6, rq_c7, rq_c8, rq_c9, rq_c10, rq_c11, rq_c12, rq_c13, rq_c14, rq_c15, rq_c16, rq_c17, rq_c18, rq_c48, rq_c99, rq_c10368, rq_c30000, rq_eqT, rq_eqF, rq_leT, rq_leF, rq_ltT, rq_ltF, rq_neg, nI_add, pk_mul, pk_sub, pk_div, true_and, and_true, true_implies, false_implies, implies_true, not_true_eq_false, not_false_eq_true, pk_us, Nat.add_sub_cancel, eq_self]
    exact pk_eq d 3 (fun z => h0 (by unfold rq_room; omega)) (fun z => h1 (by unfold rq_room; omega))
  · simp (disch := omega) only [forall_eq, vp_in_nI, nI_clamp, rq_c0, rq_c1, rq_c2, rq_c3, rq_c6, rq_c7, rq_c8, rq_c9, rq_c10, rq_c11, rq_c12, rq_c13, rq_c14, rq_c15, rq_c16, rq_c17, rq_c18, rq_c48, rq_c99, rq_c10368, rq_c30000, rq_eqT, rq_eqF, rq_leT, rq_leF, rq_ltT, rq_ltF, rq_neg, nI_add, pk_mul, pk_sub, pk_div, true_and, and_true, true_implies, false_implies, implies_true, not_true_eq_false, not_false_eq_true, pk_us, Nat.add_sub_cancel, eq_self]
    exact pk_eq h 6 (fun z => h0 (by unfold rq_room; omega)) (fun z => h1 (by unfold rq_room; omega))
  · simp (disch := omega) only [forall_eq, vp_in_nI, nI_clamp, rq_c0, rq_c1, rq_c2, rq_c3, rq_c6, rq_c7, rq_c8, rq_c9, rq_c10, rq_c11, rq_c12, rq_c13, rq_c14, rq_c15, rq_c16, rq_c17, rq_c18, rq_c48, rq_c99, rq_c10368, rq_c30000, rq_eqT, rq_eqF, rq_leT, rq_leF, rq_ltT, rq_ltF, rq_neg, nI_add, pk_mul, pk_sub, pk_div, true_and, and_true, true_implies, false_implies, implies_true, not_true_eq_false, not_false_eq_true, pk_us, Nat.add_sub_cancel, eq_self]
    exact pk_eq h 6 (fun z => h0 (by unfold rq_room; omega)) (fun z => h1 (by unfold rq_room; omega))
  · simp (disch := omega) only [forall_eq, vp_in_nI, nI_clamp, rq_c0, rq_c1, rq_c2, rq_c3, rq_c6, rq_c7, rq_c8, rq_c9, rq_c10, rq_c11, rq_c12, rq_c13, rq_c14, rq_c15, rq_c16, rq_c17, rq_c18, rq_c48, rq_c99, rq_c10368, rq_c30000, rq_eqT, rq_eqF, rq_leT, rq_leF, rq_ltT, rq_ltF, rq_neg, nI_add, pk_mul, pk_sub, pk_div, true_and, and_true, true_implies, false_implies, implies_true, not_true_eq_false, not_false_eq_true, pk_us, Nat.add_sub_cancel, eq_self]
    exact h1 (by unfold rq_room; omega)
theorem rq_y185 {post : Int32 → SY → Prop} {n : Nat} {x v : Int32} (hn : n < 48) (hp : post (nI (n + 1)) (nI (n + 1), hh, op, tp, aT, aR, dp, sz, ce, upd K n x, upd A n v, fl, sy, tm, bg, ra, fd, vl, sn)) : wY_token_185 post x v (nI n) hh op tp aT aR dp sz ce K A fl sy tm bg ra fd vl sn := by
  unfold wY_token_185
  simp (disch := omega) only [forall_eq, vp_in_nI, nI_clamp, rq_c0, rq_c1, rq_c2, rq_c3, rq_c6, rq_c7, rq_c8, rq_c9, rq_c10, rq_c11, rq_c12, rq_c13, rq_c14, rq_c15, rq_c16, rq_c17, rq_c18, rq_c48, rq_c99, rq_c10368, rq_c30000, rq_eqT, rq_eqF, rq_leT, rq_leF, rq_ltT, rq_ltF, rq_neg, nI_add, pk_mul, pk_sub, pk_div, true_and, and_true, true_implies, false_implies, implies_true, not_true_eq_false, not_false_eq_true, pk_us, Nat.add_sub_cancel, eq_self]
  exact hp
end
section
variable {tc aT aR : Int32} {ce sz K A hA dA oA C sx tb rh oc kr kn tm : Nat → Int32}
theorem rq_xNeed {post : Int32 → Prop} {n k h b d : Nat} {x2 : Int32} (hn : n ≤ 48) (hk : k ≤ 17) (hH : hA n = nI h) (h6 : h ≤ 6) (hb : b ≤ h) (hx : (d = 0 ∧ x2 = -1) ∨ (0 < d ∧ ∃ o, o < 48 ∧ x2 = nI o))
    (h1 : rq_need k d (h - b) → post 1) (h0 : ¬ rq_need k d (h - b) → post 0) : wX_hasItsNeeds_25 post (nI k) x2 (nI b) (nI n) aT aR ce sz K A hA dA oA C sx tb rh oc kr kn tm := by
  unfold wX_hasItsNeeds_25 wX_hasItsNeeds_89 wpX_takesTwo wpX_endsWithNumber wpX_isEnding
  have hc : k ≤ 1 ∨ k = 10 ∨ (2 ≤ k ∧ k ≤ 8) ∨ k = 9 ∨ k = 11 ∨ (12 ≤ k ∧ k ≤ 13) ∨ 14 ≤ k := by omega
  rcases hx with ⟨hd, rfl⟩ | ⟨hd, o, ho, rfl⟩
  · rcases hc with c | c | c | c | c | c | c
    · simp (disch := omega) only [forall_eq, vp_in_nI, nI_clamp, rq_c0, rq_c1, rq_c2, rq_c3, rq_c6, rq_c7, rq_c8, rq_c9, rq_c10, rq_c11, rq_c12, rq_c13, rq_c14, rq_c15, rq_c16, rq_c17, rq_c18, rq_c48, rq_c99, rq_c10368, rq_c30000, rq_eqT, rq_eqF, rq_leT, rq_leF, rq_ltT, rq_ltF, rq_neg, nI_add, pk_mul, pk_sub, pk_div, true_and, and_true, true_implies, false_implies, implies_true, not_true_eq_false, not_false_eq_true, pk_us, Nat.add_sub_cancel, eq_self, hH]
      exact h1 (by unfold rq_need; omega)
    · simp (disch := omega) only [forall_eq, vp_in_nI, nI_clamp, rq_c0, rq_c1, rq_c2, rq_c3, rq_c6, rq_c7, rq_c8, rq_c9, rq_c10, rq_c11, rq_c12, rq_c13, rq_c14, rq_c15, rq_c16, rq_c17, rq_c18, rq_c48, rq_c99, rq_c10368, rq_c30000, rq_eqT, rq_eqF, rq_leT, rq_leF, rq_ltT, rq_ltF, rq_neg, nI_add, pk_mul, pk_sub, pk_div, true_and, and_true, true_implies, false_implies, implies_true, not_true_eq_false, not_false_eq_true, pk_us, Nat.add_sub_cancel, eq_self, hH]
      exact h1 (by unfold rq_need; omega)
    · simp (disch := omega) only [forall_eq, vp_in_nI, nI_clamp, rq_c0, rq_c1, rq_c2, rq_c3, rq_c6, rq_c7, rq_c8, rq_c9, rq_c10, rq_c11, rq_c12, rq_c13, rq_c14, rq_c15, rq_c16, rq_c17, rq_c18, rq_c48, rq_c99, rq_c10368, rq_c30000, rq_eqT, rq_eqF, rq_leT, rq_leF, rq_ltT, rq_ltF, rq_neg, nI_add, pk_mul, pk_sub, pk_div, true_and, and_true, true_implies, false_implies, implies_true, not_true_eq_false, not_false_eq_true, pk_us, Nat.add_sub_cancel, eq_self, hH]
      exact pk_lt (h - b) 2 (fun z => h0 (by unfold rq_need; omega)) (fun z => h1 (by unfold rq_need; omega))
    · simp (disch := omega) only [forall_eq, vp_in_nI, nI_clamp, rq_c0, rq_c1, rq_c2, rq_c3, rq_c6, rq_c7, rq_c8, rq_c9, rq_c10, rq_c11, rq_c12, rq_c13, rq_c14, rq_c15, rq_c16, rq_c17, rq_c18, rq_c48, rq_c99, rq_c10368, rq_c30000, rq_eqT, rq_eqF, rq_leT, rq_leF, rq_ltT, rq_ltF, rq_neg, nI_add, pk_mul, pk_sub, pk_div, true_and, and_true, true_implies, false_implies, implies_true, not_true_eq_false, not_false_eq_true, pk_us, Nat.add_sub_cancel, eq_self, hH]
      exact pk_lt (h - b) 1 (fun z => h0 (by unfold rq_need; omega)) (fun z => h1 (by unfold rq_need; omega))
    · simp (disch := omega) only [forall_eq, vp_in_nI, nI_clamp, rq_c0, rq_c1, rq_c2, rq_c3, rq_c6, rq_c7, rq_c8, rq_c9, rq_c10, rq_c11, rq_c12, rq_c13, rq_c14, rq_c15, rq_c16, rq_c17, rq_c18, rq_c48, rq_c99, rq_c10368, rq_c30000, rq_eqT, rq_eqF, rq_leT, rq_leF, rq_ltT, rq_ltF, rq_neg, nI_add, pk_mul, pk_sub, pk_div, true_and, and_true, true_implies, false_implies, implies_true, not_true_eq_false, not_false_eq_true, pk_us, Nat.add_sub_cancel, eq_self, hH]
      exact h0 (by unfold rq_need; omega)
    · simp (disch := omega) only [forall_eq, vp_in_nI, nI_clamp, rq_c0, rq_c1, rq_c2, rq_c3, rq_c6, rq_c7, rq_c8, rq_c9, rq_c10, rq_c11, rq_c12, rq_c13, rq_c14, rq_c15, rq_c16, rq_c17, rq_c18, rq_c48, rq_c99, rq_c10368, rq_c30000, rq_eqT, rq_eqF, rq_leT, rq_leF, rq_ltT, rq_ltF, rq_neg, nI_add, pk_mul, pk_sub, pk_div, true_and, and_true, true_implies, false_implies, implies_true, not_true_eq_false, not_false_eq_true, pk_us, Nat.add_sub_cancel, eq_self, hH]
      exact h0 (by unfold rq_need; omega)
    · simp (disch := omega) only [forall_eq, vp_in_nI, nI_clamp, rq_c0, rq_c1, rq_c2, rq_c3, rq_c6, rq_c7, rq_c8, rq_c9, rq_c10, rq_c11, rq_c12, rq_c13, rq_c14, rq_c15, rq_c16, rq_c17, rq_c18, rq_c48, rq_c99, rq_c10368, rq_c30000, rq_eqT, rq_eqF, rq_leT, rq_leF, rq_ltT, rq_ltF, rq_neg, nI_add, pk_mul, pk_sub, pk_div, true_and, and_true, true_implies, false_implies, implies_true, not_true_eq_false, not_false_eq_true, pk_us, Nat.add_sub_cancel, eq_self, hH]
      exact h0 (by unfold rq_need; omega)
  · rcases hc with c | c | c | c | c | c | c
    · simp (disch := omega) only [forall_eq, vp_in_nI, nI_clamp, rq_c0, rq_c1, rq_c2, rq_c3, rq_c6, rq_c7, rq_c8, rq_c9, rq_c10, rq_c11, rq_c12, rq_c13, rq_c14, rq_c15, rq_c16, rq_c17, rq_c18, rq_c48, rq_c99, rq_c10368, rq_c30000, rq_eqT, rq_eqF, rq_leT, rq_leF, rq_ltT, rq_ltF, rq_neg, nI_add, pk_mul, pk_sub, pk_div, true_and, and_true, true_implies, false_implies, implies_true, not_true_eq_false, not_false_eq_true, pk_us, Nat.add_sub_cancel, eq_self, hH]
      exact h1 (by unfold rq_need; omega)
    · simp (disch := omega) only [forall_eq, vp_in_nI, nI_clamp, rq_c0, rq_c1, rq_c2, rq_c3, rq_c6, rq_c7, rq_c8, rq_c9, rq_c10, rq_c11, rq_c12, rq_c13, rq_c14, rq_c15, rq_c16, rq_c17, rq_c18, rq_c48, rq_c99, rq_c10368, rq_c30000, rq_eqT, rq_eqF, rq_leT, rq_leF, rq_ltT, rq_ltF, rq_neg, nI_add, pk_mul, pk_sub, pk_div, true_and, and_true, true_implies, false_implies, implies_true, not_true_eq_false, not_false_eq_true, pk_us, Nat.add_sub_cancel, eq_self, hH]
      exact h1 (by unfold rq_need; omega)
    · simp (disch := omega) only [forall_eq, vp_in_nI, nI_clamp, rq_c0, rq_c1, rq_c2, rq_c3, rq_c6, rq_c7, rq_c8, rq_c9, rq_c10, rq_c11, rq_c12, rq_c13, rq_c14, rq_c15, rq_c16, rq_c17, rq_c18, rq_c48, rq_c99, rq_c10368, rq_c30000, rq_eqT, rq_eqF, rq_leT, rq_leF, rq_ltT, rq_ltF, rq_neg, nI_add, pk_mul, pk_sub, pk_div, true_and, and_true, true_implies, false_implies, implies_true, not_true_eq_false, not_false_eq_true, pk_us, Nat.add_sub_cancel, eq_self, hH]
      exact pk_lt (h - b) 2 (fun z => h0 (by unfold rq_need; omega)) (fun z => h1 (by unfold rq_need; omega))
    · simp (disch := omega) only [forall_eq, vp_in_nI, nI_clamp, rq_c0, rq_c1, rq_c2, rq_c3, rq_c6, rq_c7, rq_c8, rq_c9, rq_c10, rq_c11, rq_c12, rq_c13, rq_c14, rq_c15, rq_c16, rq_c17, rq_c18, rq_c48, rq_c99, rq_c10368, rq_c30000, rq_eqT, rq_eqF, rq_leT, rq_leF, rq_ltT, rq_ltF, rq_neg, nI_add, pk_mul, pk_sub, pk_div, true_and, and_true, true_implies, false_implies, implies_true, not_true_eq_false, not_false_eq_true, pk_us, Nat.add_sub_cancel, eq_self, hH]
      exact pk_lt (h - b) 1 (fun z => h0 (by unfold rq_need; omega)) (fun z => h1 (by unfold rq_need; omega))
    · simp (disch := omega) only [forall_eq, vp_in_nI, nI_clamp, rq_c0, rq_c1, rq_c2, rq_c3, rq_c6, rq_c7, rq_c8, rq_c9, rq_c10, rq_c11, rq_c12, rq_c13, rq_c14, rq_c15, rq_c16, rq_c17, rq_c18, rq_c48, rq_c99, rq_c10368, rq_c30000, rq_eqT, rq_eqF, rq_leT, rq_leF, rq_ltT, rq_ltF, rq_neg, nI_add, pk_mul, pk_sub, pk_div, true_and, and_true, true_implies, false_implies, implies_true, not_true_eq_false, not_false_eq_true, pk_us, Nat.add_sub_cancel, eq_self, hH]
      exact pk_eq (h - b) 1 (fun z => h1 (by unfold rq_need; omega)) (fun z => h0 (by unfold rq_need; omega))
    · simp (disch := omega) only [forall_eq, vp_in_nI, nI_clamp, rq_c0, rq_c1, rq_c2, rq_c3, rq_c6, rq_c7, rq_c8, rq_c9, rq_c10, rq_c11, rq_c12, rq_c13, rq_c14, rq_c15, rq_c16, rq_c17, rq_c18, rq_c48, rq_c99, rq_c10368, rq_c30000, rq_eqT, rq_eqF, rq_leT, rq_leF, rq_ltT, rq_ltF, rq_neg, nI_add, pk_mul, pk_sub, pk_div, true_and, and_true, true_implies, false_implies, implies_true, not_true_eq_false, not_false_eq_true, pk_us, Nat.add_sub_cancel, eq_self, hH]
      exact pk_eq (h - b) 0 (fun z => h1 (by unfold rq_need; omega)) (fun z => h0 (by unfold rq_need; omega))
    · simp (disch := omega) only [forall_eq, vp_in_nI, nI_clamp, rq_c0, rq_c1, rq_c2, rq_c3, rq_c6, rq_c7, rq_c8, rq_c9, rq_c10, rq_c11, rq_c12, rq_c13, rq_c14, rq_c15, rq_c16, rq_c17, rq_c18, rq_c48, rq_c99, rq_c10368, rq_c30000, rq_eqT, rq_eqF, rq_leT, rq_leF, rq_ltT, rq_ltF, rq_neg, nI_add, pk_mul, pk_sub, pk_div, true_and, and_true, true_implies, false_implies, implies_true, not_true_eq_false, not_false_eq_true, pk_us, Nat.add_sub_cancel, eq_self, hH]
      exact pk_eq (h - b) 1 (fun z => h1 (by unfold rq_need; omega)) (fun z => h0 (by unfold rq_need; omega))
theorem rq_xRoom {post : Int32 → Prop} {n k h d : Nat} (hn : n ≤ 48) (hk : k ≤ 17) (hH : hA n = nI h) (hD : dA n = nI d) (h6 : h ≤ 6) (hd : d ≤ 3) (h1 : rq_room k h d → post 1) (h0 : ¬ rq_room k h d → post 0) :
    wpX_hasRoom post (nI n, aT, aR, ce, sz, K, A, hA, dA, oA, C, sx, tb, rh, oc, kr, kn, tm) (nI k) := by
  unfold wpX_hasRoom wX_hasRoom_46
  have hc : k ≤ 1 ∨ k = 10 ∨ k = 12 ∨ k = 13 ∨ (2 ≤ k ∧ k ≠ 10 ∧ k ≠ 12 ∧ k ≠ 13) := by omega
  rcases hc with c | c | c | c | c
  · have c2 : k = 0 ∨ k = 1 := by omega
    rcases c2 with c2 | c2
    · simp (disch := omega) only [forall_eq, vp_in_nI, nI_clamp, rq_c0, rq_c1, rq_c2, rq_c3, rq_c6, rq_c7, rq_c8, rq_c9, rq_c10, rq_c11, rq_c12, rq_c13, rq_c14, rq_c15, rq_c16, rq_c17, rq_c18, rq_c48, rq_c99, rq_c10368, rq_c30000, rq_eqT, rq_eqF, rq_leT, rq_leF, rq_ltT, rq_ltF, rq_neg, nI_add, pk_mul, pk_sub, pk_div, true_and, and_true, true_implies, false_implies, implies_true, not_true_eq_false, not_false_eq_true, pk_us, Nat.add_sub_cancel, eq_self, hH, hD]
      exact pk_le 6 h (fun z => h0 (by unfold rq_room; omega)) (fun z => h1 (by unfold rq_room; omega))
    · simp (disch := omega) only [forall_eq, vp_in_nI, nI_clamp, rq_c0, rq_c1, rq_c2, rq_c3, rq_c6, rq_c7, rq_c8, rq_c9, rq_c10, rq_c11, rq_c12, rq_c13, rq_c14, rq_c15, rq_c16, rq_c17, rq_c18, rq_c48, rq_c99, rq_c10368, rq_c30000, rq_eqT, rq_eqF, rq_leT, rq_leF, rq_ltT, rq_ltF, rq_neg, nI_add, pk_mul, pk_sub, pk_div, true_and, and_true, true_implies, false_implies, implies_true, not_true_eq_false, not_false_eq_true, pk_us, Nat.add_sub_cancel, eq_self, hH, hD]
      exact pk_le 6 h (fun z => h0 (by unfold rq_room; omega)) (fun z => h1 (by unfold rq_room; omega))
  · simp (disch := omega) only [forall_eq, vp_in_nI, nI_clamp, rq_c0, rq_c1, rq_c2, rq_c3, rq_c6, rq_c7, rq_c8, rq_c9, rq_c10, rq_c11, rq_c12, rq_c13, rq_c14, rq_c15, rq_c16, rq_c17, rq_c18, rq_c48, rq_c99, rq_c10368, rq_c30000, rq_eqT, rq_eqF, rq_leT, rq_leF, rq_ltT, rq_ltF, rq_neg, nI_add, pk_mul, pk_sub, pk_div, true_and, and_true, true_implies, false_implies, implies_true, not_true_eq_false, not_false_eq_true, pk_us, Nat.add_sub_cancel, eq_self, hH, hD]
    exact pk_le 3 d (fun z => h0 (by unfold rq_room; omega)) (fun z => h1 (by unfold rq_room; omega))
  · simp (disch := omega) only [forall_eq, vp_in_nI, nI_clamp, rq_c0, rq_c1, rq_c2, rq_c3, rq_c6, rq_c7, rq_c8, rq_c9, rq_c10, rq_c11, rq_c12, rq_c13, rq_c14, rq_c15, rq_c16, rq_c17, rq_c18, rq_c48, rq_c99, rq_c10368, rq_c30000, rq_eqT, rq_eqF, rq_leT, rq_leF, rq_ltT, rq_ltF, rq_neg, nI_add, pk_mul, pk_sub, pk_div, true_and, and_true, true_implies, false_implies, implies_true, not_true_eq_false, not_false_eq_true, pk_us, Nat.add_sub_cancel, eq_self, hH, hD]
    exact pk_le 6 h (fun z => h0 (by unfold rq_room; omega)) (fun z => h1 (by unfold rq_room; omega))
  · simp (disch := omega) only [forall_eq, vp_in_nI, nI_clamp, rq_c0, rq_c1, rq_c2, rq_c3, rq_c6, rq_c7, rq_c8, rq_c9, rq_c10, rq_c11, rq_c12, rq_c13, rq_c14, rq_c15, rq_c16, rq_c17, rq_c18, rq_c48, rq_c99, rq_c10368, rq_c30000, rq_eqT, rq_eqF, rq_leT, rq_leF, rq_ltT, rq_ltF, rq_neg, nI_add, pk_mul, pk_sub, pk_div, true_and, and_true, true_implies, false_implies, implies_true, not_true_eq_false, not_false_eq_true, pk_us, Nat.add_sub_cancel, eq_self, hH, hD]
    exact pk_le 6 h (fun z => h0 (by unfold rq_room; omega)) (fun z => h1 (by unfold rq_room; omega))
  · simp (disch := omega) only [forall_eq, vp_in_nI, nI_clamp, rq_c0, rq_c1, rq_c2, rq_c3, rq_c6, rq_c7, rq_c8, rq_c9, rq_c10, rq_c11, rq_c12, rq_c13, rq_c14, rq_c15, rq_c16, rq_c17, rq_c18, rq_c48, rq_c99, rq_c10368, rq_c30000, rq_eqT, rq_eqF, rq_leT, rq_leF, rq_ltT, rq_ltF, rq_neg, nI_add, pk_mul, pk_sub, pk_div, true_and, and_true, true_implies, false_implies, implies_true, not_true_eq_false, not_false_eq_true, pk_us, Nat.add_sub_cancel, eq_self, hH, hD]
    exact h1 (by unfold rq_room; omega)
theorem rq_xSet {post : SX → Prop} {p : Nat} {x y z : Int32} (hp : p < 49) (h : post (tc, aT, aR, ce, sz, K, A, upd hA p x, upd dA p y, upd oA p z, C, sx, tb, rh, oc, kr, kn, tm)) : wpX_setPlace post (tc, aT, aR, ce, sz, K, A, hA, dA, oA, C, sx, tb, rh, oc, kr, kn, tm) (nI p) x y z := by
  unfold wpX_setPlace
  simp (disch := omega) only [forall_eq, vp_in_nI, nI_clamp, rq_c0, rq_c1, rq_c2, rq_c3, rq_c6, rq_c7, rq_c8, rq_c9, rq_c10, rq_c11, rq_c12, rq_c13, rq_c14, rq_c15, rq_c16, rq_c17, rq_c18, rq_c48, rq_c99, rq_c10368, rq_c30000, rq_eqT, rq_eqF, rq_leT, rq_leF, rq_ltT, rq_ltF, rq_neg, nI_add, pk_mul, pk_sub, pk_div, true_and, and_true, true_implies, false_implies, implies_true, not_true_eq_false, not_false_eq_true, pk_us, Nat.add_sub_cancel, eq_self]
  exact h
theorem rq_xApp10 {post : SX → Prop} {n h d : Nat} {v : Int32} (hn : n < 48) (hH : hA n = nI h) (hD : dA n = nI d)
    (hp : post (nI (n + 1), aT, aR, ce, sz, upd K n (nI 10), upd A n v, upd hA (n + 1) (nI h), upd dA (n + 1) (nI (d + 1)), upd oA (n + 1) (nI n), C, sx, tb, rh, oc, kr, kn, tm)) : wpX_append post (nI n, aT, aR, ce, sz, K, A, hA, dA, oA, C, sx, tb, rh, oc, kr, kn, tm) (nI 10) v := by
  unfold wpX_append
  simp (disch := omega) only [forall_eq, vp_in_nI, nI_clamp, rq_c0, rq_c1, rq_c2, rq_c3, rq_c6, rq_c7, rq_c8, rq_c9, rq_c10, rq_c11, rq_c12, rq_c13, rq_c14, rq_c15, rq_c16, rq_c17, rq_c18, rq_c48, rq_c99, rq_c10368, rq_c30000, rq_eqT, rq_eqF, rq_leT, rq_leF, rq_ltT, rq_ltF, rq_neg, nI_add, pk_mul, pk_sub, pk_div, true_and, and_true, true_implies, false_implies, implies_true, not_true_eq_false, not_false_eq_true, pk_us, Nat.add_sub_cancel, eq_self, hH, hD]
  exact rq_xSet (by omega) hp
theorem rq_xAppE {post : SX → Prop} {n k o h d : Nat} {v w : Int32} (hn : n < 48) (hk : 12 ≤ k) (h17 : k ≤ 17) (ho : o < 48) (hO : oA n = nI o) (hH : hA o = nI h) (hD : dA o = nI d) (hw : oA o = w)
    (hp : post (nI (n + 1), aT, aR, ce, sz, upd K n (nI k), upd A n v, upd hA (n + 1) (nI (h + 1)), upd dA (n + 1) (nI d), upd oA (n + 1) w, upd C o (nI n), sx, tb, rh, oc, kr, kn, tm)) : wpX_append post (nI n, aT, aR, ce, sz, K, A, hA, dA, oA, C, sx, tb, rh, oc, kr, kn, tm) (nI k) v := by
  unfold wpX_append wpX_isEnding
  simp (disch := omega) only [forall_eq, vp_in_nI, nI_clamp, rq_c0, rq_c1, rq_c2, rq_c3, rq_c6, rq_c7, rq_c8, rq_c9, rq_c10, rq_c11, rq_c12, rq_c13, rq_c14, rq_c15, rq_c16, rq_c17, rq_c18, rq_c48, rq_c99, rq_c10368, rq_c30000, rq_eqT, rq_eqF, rq_leT, rq_leF, rq_ltT, rq_ltF, rq_neg, nI_add, pk_mul, pk_sub, pk_div, true_and, and_true, true_implies, false_implies, implies_true, not_true_eq_false, not_false_eq_true, pk_us, Nat.add_sub_cancel, eq_self, hO, hH, hD, hw]
  exact rq_xSet (by omega) hp
theorem rq_xApp1 {post : SX → Prop} {n k h : Nat} {v y w : Int32} (hn : n < 48) (hk : k ≤ 1) (hH : hA n = nI h) (hD : dA n = y) (hw : oA n = w)
    (hp : post (nI (n + 1), aT, aR, ce, sz, upd K n (nI k), upd A n v, upd hA (n + 1) (nI (h + 1)), upd dA (n + 1) y, upd oA (n + 1) w, C, sx, tb, rh, oc, kr, kn, tm)) : wpX_append post (nI n, aT, aR, ce, sz, K, A, hA, dA, oA, C, sx, tb, rh, oc, kr, kn, tm) (nI k) v := by
  unfold wpX_append wpX_isEnding wpX_heightChange
  have c : k = 0 ∨ k = 1 := by omega
  rcases c with c | c
  · simp (disch := omega) only [forall_eq, vp_in_nI, nI_clamp, rq_c0, rq_c1, rq_c2, rq_c3, rq_c6, rq_c7, rq_c8, rq_c9, rq_c10, rq_c11, rq_c12, rq_c13, rq_c14, rq_c15, rq_c16, rq_c17, rq_c18, rq_c48, rq_c99, rq_c10368, rq_c30000, rq_eqT, rq_eqF, rq_leT, rq_leF, rq_ltT, rq_ltF, rq_neg, nI_add, pk_mul, pk_sub, pk_div, true_and, and_true, true_implies, false_implies, implies_true, not_true_eq_false, not_false_eq_true, pk_us, Nat.add_sub_cancel, eq_self, hH, hD, hw]
    exact rq_xSet (by omega) hp
  · simp (disch := omega) only [forall_eq, vp_in_nI, nI_clamp, rq_c0, rq_c1, rq_c2, rq_c3, rq_c6, rq_c7, rq_c8, rq_c9, rq_c10, rq_c11, rq_c12, rq_c13, rq_c14, rq_c15, rq_c16, rq_c17, rq_c18, rq_c48, rq_c99, rq_c10368, rq_c30000, rq_eqT, rq_eqF, rq_leT, rq_leF, rq_ltT, rq_ltF, rq_neg, nI_add, pk_mul, pk_sub, pk_div, true_and, and_true, true_implies, false_implies, implies_true, not_true_eq_false, not_false_eq_true, pk_us, Nat.add_sub_cancel, eq_self, hH, hD, hw]
    exact rq_xSet (by omega) hp
theorem rq_xApp9 {post : SX → Prop} {n h : Nat} {v y w : Int32} (hn : n < 48) (hH : hA n = nI h) (hD : dA n = y) (hw : oA n = w)
    (hp : post (nI (n + 1), aT, aR, ce, sz, upd K n (nI 9), upd A n v, upd hA (n + 1) (nI h), upd dA (n + 1) y, upd oA (n + 1) w, C, sx, tb, rh, oc, kr, kn, tm)) : wpX_append post (nI n, aT, aR, ce, sz, K, A, hA, dA, oA, C, sx, tb, rh, oc, kr, kn, tm) (nI 9) v := by
  unfold wpX_append wpX_isEnding wpX_heightChange
  simp (disch := omega) only [forall_eq, vp_in_nI, nI_clamp, rq_c0, rq_c1, rq_c2, rq_c3, rq_c6, rq_c7, rq_c8, rq_c9, rq_c10, rq_c11, rq_c12, rq_c13, rq_c14, rq_c15, rq_c16, rq_c17, rq_c18, rq_c48, rq_c99, rq_c10368, rq_c30000, rq_eqT, rq_eqF, rq_leT, rq_leF, rq_ltT, rq_ltF, rq_neg, nI_add, pk_mul, pk_sub, pk_div, true_and, and_true, true_implies, false_implies, implies_true, not_true_eq_false, not_false_eq_true, pk_us, Nat.add_sub_cancel, eq_self, hH, hD, hw, Nat.add_zero]
  exact rq_xSet (by omega) hp
theorem rq_mm (h : Nat) : nI (h + 1) + -nI 1 = nI h := pk_m1 h
theorem rq_xApp2 {post : SX → Prop} {n k h : Nat} {v y w : Int32} (hn : n < 48) (hk : (2 ≤ k ∧ k ≤ 8) ∨ k = 11) (hH : hA n = nI (h + 1)) (hD : dA n = y) (hw : oA n = w)
    (hp : post (nI (n + 1), aT, aR, ce, sz, upd K n (nI k), upd A n v, upd hA (n + 1) (nI h), upd dA (n + 1) y, upd oA (n + 1) w, C, sx, tb, rh, oc, kr, kn, tm)) : wpX_append post (nI n, aT, aR, ce, sz, K, A, hA, dA, oA, C, sx, tb, rh, oc, kr, kn, tm) (nI k) v := by
  unfold wpX_append wpX_isEnding wpX_heightChange
  simp (disch := omega) only [forall_eq, vp_in_nI, nI_clamp, rq_c0, rq_c1, rq_c2, rq_c3, rq_c6, rq_c7, rq_c8, rq_c9, rq_c10, rq_c11, rq_c12, rq_c13, rq_c14, rq_c15, rq_c16, rq_c17, rq_c18, rq_c48, rq_c99, rq_c10368, rq_c30000, rq_eqT, rq_eqF, rq_leT, rq_leF, rq_ltT, rq_ltF, rq_neg, nI_add, pk_mul, pk_sub, pk_div, true_and, and_true, true_implies, false_implies, implies_true, not_true_eq_false, not_false_eq_true, pk_us, Nat.add_sub_cancel, eq_self, hH, hD, hw, rq_mm]
  exact rq_xSet (by omega) hp
end
end
section
/-! token: both sides joined -/
section
variable {n : Nat} {aT aR : Int32} {ce sz K A hA dA oA C sx tb rh oc kr kn tm : Nat → Int32} {H D O : Nat → Nat}
theorem rq_base (P : rq_Prof n K A C hA dA oA H D O) : rq_b (D n) (H (O n)) ≤ H n := by
  by_cases z : D n = 0
  · rw [z, rq_bzero]
    omega
  · rw [rq_bpos (by omega)]
    exact ((rq_open P n (Nat.le_refl _)).2.2.1 (by omega)).2.2.2.1
theorem rq_tokOk (P : rq_Prof n K A C hA dA oA H D O) (n48 : n < 48) {c : Nat} {v : Int32} (hc : c ≤ 17) (ht : rq_Tok c v) (hcell : c = 1 → ∃ a, a < 9 ∧ v = nI a ∧ a / 3 < D n)
    (N : rq_need c (D n) (H n - rq_b (D n) (H (O n)))) (R : rq_room c (H n) (D n)) :
    ∃ (C' : Nat → Int32) (h' d' : Nat) (ov : Int32) (H' D' O' : Nat → Nat), rq_Prof (n + 1) (upd K n (nI c)) (upd A n v) C' (upd hA (n + 1) (nI h')) (upd dA (n + 1) (nI d')) (upd oA (n + 1) ov) H' D' O' ∧
    ∀ p : SX → Prop, p (nI (n + 1), aT, aR, ce, sz, upd K n (nI c), upd A n v, upd hA (n + 1) (nI h'), upd dA (n + 1) (nI d'), upd oA (n + 1) ov, C', sx, tb, rh, oc, kr, kn, tm) → wpX_append p (nI n, aT, aR, ce, sz, K, A, hA, dA, oA, C, sx, tb, rh, oc, kr, kn, tm) (nI c) v := by
  obtain ⟨hP1, hP2, hP3, hP4⟩ := P.2.2.1 n (Nat.le_refl _)
  have I := rq_open P n (Nat.le_refl _)
  have h6 := I.1
  have d3 := I.2.1
  have hb := rq_base P
  have hg : c = 0 ∨ c = 1 ∨ (2 ≤ c ∧ c ≤ 8) ∨ c = 9 ∨ c = 10 ∨ c = 11 ∨ 12 ≤ c := by omega
  obtain ⟨N1, N2, N3, N4⟩ := N
  obtain ⟨R1, R2⟩ := R
  rcases hg with g | g | g | g | g | g | g
  · subst g
    exact ⟨C, H n + 1, D n, oA n, _, _, _, rq_app P n48 (o := O n) (fun i _ _ _ => rfl) (fun z => by omega) ⟨hP3, hP4⟩ ⟨by omega, by have := R2 (Or.inl (by omega)); omega, Or.inl ⟨rfl, rfl, rfl, rfl⟩⟩, fun p h => rq_xApp1 n48 (by omega) hP1 hP2 rfl h⟩
  · have q := hcell g
    subst g
    exact ⟨C, H n + 1, D n, oA n, _, _, _, rq_app P n48 (o := O n) (fun i _ _ _ => rfl) (fun z => by omega) ⟨hP3, hP4⟩ ⟨by omega, by have := R2 (Or.inl (by omega)); omega, Or.inr (Or.inl ⟨rfl, q, rfl, rfl, rfl⟩)⟩, fun p h => rq_xApp1 n48 (by omega) hP1 hP2 rfl h⟩
  · have q := N1 g
    obtain ⟨h', eh⟩ : ∃ h', H n = h' + 1 := ⟨H n - 1, by omega⟩
    exact ⟨C, h', D n, oA n, _, _, _, rq_app P n48 (o := O n) (fun i _ _ _ => rfl) (fun z => by omega) ⟨hP3, hP4⟩ ⟨hc, by omega, Or.inr (Or.inr (Or.inl ⟨g, by omega, by omega, rfl, rfl⟩))⟩, fun p h => rq_xApp2 n48 (Or.inl g) (by rw [hP1, eh]) hP2 rfl h⟩
  · have q := N2 g
    clear hcell
    subst g
    exact ⟨C, H n, D n, oA n, _, _, _, rq_app P n48 (o := O n) (fun i _ _ _ => rfl) (fun z => by omega) ⟨hP3, hP4⟩ ⟨hc, h6, Or.inr (Or.inr (Or.inr (Or.inl ⟨rfl, by omega, rfl, rfl, rfl⟩)))⟩, fun p h => rq_xApp9 n48 hP1 hP2 rfl h⟩
  · have q := R1 g
    have q2 := ht.2.2 g
    subst g
    exact ⟨C, H n, D n + 1, nI n, _, _, _, rq_app P n48 (o := n) (fun i _ _ _ => rfl) (fun z => by omega) ⟨fun z => by omega, fun _ => rfl⟩ ⟨hc, h6, Or.inr (Or.inr (Or.inr (Or.inr (Or.inl ⟨rfl, q2, q, rfl, rfl, rfl⟩))))⟩, fun p h => rq_xApp10 n48 hP1 hP2 h⟩
  · obtain ⟨q1, q2⟩ := N3 (Or.inl g)
    rw [rq_bpos q1] at q2 hb
    have e : H n = H (O n) + 1 := by omega
    subst g
    exact ⟨C, H (O n), D n, oA n, _, _, _, rq_app P n48 (o := O n) (fun i _ _ _ => rfl) (fun z => by omega) ⟨hP3, hP4⟩ ⟨hc, by omega, Or.inr (Or.inr (Or.inr (Or.inr (Or.inr (Or.inl ⟨rfl, q1, e, rfl, rfl, rfl⟩)))))⟩, fun p h => rq_xApp2 n48 (Or.inr rfl) (by rw [hP1, e]) hP2 rfl h⟩
  · have q1 : 0 < D n := by
      by_cases z : c = 12 ∨ c = 13
      · exact (N4 z).1
      · exact (N3 (Or.inr (by omega))).1
    rw [rq_bpos q1] at N3 N4 hb
    obtain ⟨a1, a2, a3, a4, a5⟩ := I.2.2.1 q1
    obtain ⟨o1, o2, o3, o4⟩ := P.2.2.1 (O n) (by omega)
    have e : H n = H (O n) + rq_tk c ∧ H (O n) + 1 ≤ 6 := by
      by_cases z : c < 14
      · rw [show rq_tk c = 0 from if_pos z]
        have := (N4 (by omega)).2
        have := R2 (Or.inr (by omega))
        omega
      · rw [show rq_tk c = 1 from if_neg z]
        have := (N3 (Or.inr (by omega))).2
        omega
    exact ⟨upd C (O n) (nI n), H (O n) + 1, D (O n), oA (O n), _, _, _, rq_app P n48 (o := O (O n)) (fun i i1 i2 i3 => pk_un (rq_fresh P q1 i1 i2 i3)) (fun _ => pk_us) ⟨o3, o4⟩
      ⟨hc, e.2, Or.inr (Or.inr (Or.inr (Or.inr (Or.inr (Or.inr ⟨g, q1, e.1, rfl, a3, rfl⟩)))))⟩, fun p h => rq_xAppE n48 g hc (by omega) (hP4 q1) o1 o2 rfl h⟩
theorem rq_x45 (P : rq_Prof n K A C hA dA oA H D O) (n48 : n < 48) {c : Nat} {v : Int32} (hc : c ≤ 17) {post : Int32 → SX → Prop}
    (h4 : ¬ rq_need c (D n) (H n - rq_b (D n) (H (O n))) → post (-4) (nI n, aT, aR, ce, sz, K, A, hA, dA, oA, C, sx, tb, rh, oc, kr, kn, tm)) (h5 : rq_need c (D n) (H n - rq_b (D n) (H (O n))) → ¬ rq_room c (H n) (D n) → post (-5) (nI n, aT, aR, ce, sz, K, A, hA, dA, oA, C, sx, tb, rh, oc, kr, kn, tm))
    (hp : rq_need c (D n) (H n - rq_b (D n) (H (O n))) → rq_room c (H n) (D n) → ∃ T : SX, (∀ p : SX → Prop, p T → wpX_append p (nI n, aT, aR, ce, sz, K, A, hA, dA, oA, C, sx, tb, rh, oc, kr, kn, tm) (nI c) v) ∧ post T.1 T) : wX_token_45 post (nI c) v (nI n) aT aR ce sz K A hA dA oA C sx tb rh oc kr kn tm := by
  obtain ⟨hP1, hP2, hP3, hP4⟩ := P.2.2.1 n (Nat.le_refl _)
  have I := rq_open P n (Nat.le_refl _)
  have h6 := I.1
  have d3 := I.2.1
  have hb := rq_base P
  have body : ∀ z : rq_need c (D n) (H n - rq_b (D n) (H (O n))), wpX_hasRoom (fun r_25 => (((r_25 = 0 → (post (-5) (nI n, aT, aR, ce, sz, K, A, hA, dA, oA, C, sx, tb, rh, oc, kr, kn, tm))) ∧ (¬ r_25 = 0 → (wpX_append (fun u => post u.1 u) (nI n, aT, aR, ce, sz, K, A, hA, dA, oA, C, sx, tb, rh, oc, kr, kn, tm) (nI c) v))))) (nI n, aT, aR, ce, sz, K, A, hA, dA, oA, C, sx, tb, rh, oc, kr, kn, tm) (nI c) := fun z => by
    refine rq_xRoom (by omega) hc hP1 hP2 h6 d3 (fun y => br_f (by decide) ?_) (fun y => br_t rfl (h5 z y))
    obtain ⟨T, g1, g2⟩ := hp z y
    exact g1 _ g2
  unfold wX_token_45 wpX_hasItsNeeds
  by_cases hd : D n = 0
  · have e0 : rq_b (D n) (H (O n)) = 0 := by rw [hd, rq_bzero]
    rw [e0] at h4 body
    refine ⟨vp_in_nI (by omega) (by omega), nm_r (e' := -1) (by rw [nI_clamp (by omega)]; exact hP3 hd) (br_t rfl ?_)⟩
    exact rq_xNeed (by omega) hc hP1 h6 (b := 0) (d := D n) (by omega) (Or.inl ⟨hd, rfl⟩) (fun z => br_f (by decide) (body z)) (fun z => br_t rfl (h4 z))
  · obtain ⟨a1, a2, a3, a4, a5⟩ := I.2.2.1 (by omega)
    have o1 := (P.2.2.1 (O n) (by omega)).1
    rw [rq_bpos (by omega)] at h4 body
    refine ⟨vp_in_nI (by omega) (by omega), nm_r (e' := nI (O n)) (by rw [nI_clamp (by omega)]; exact hP4 (by omega)) (br_f (fun z => by rw [rq_c1, rq_neg (by omega)] at z; exact z) ⟨vp_in_nI (by omega) (by omega), ?_⟩)⟩
    rw [nI_clamp (n := O n) (by omega), o1]
    exact rq_xNeed (by omega) hc hP1 h6 (d := D n) a4 (Or.inr ⟨by omega, O n, by omega, rfl⟩) (fun z => br_f (by decide) (body z)) (fun z => br_t rfl (h4 z))
end
section
variable {n : Nat} {hh op tp aT aR dp : Int32} {sz ce K A fl sy tm bg ra fd vl sn C hA dA oA : Nat → Int32} {H D O : Nat → Nat}
theorem rq_y45 (P : rq_Prof n K A C hA dA oA H D O) (F : rq_Fl H D O fl n) (n48 : n < 48) {c : Nat} {v : Int32} (hc : c ≤ 17) {post : Int32 → SY → Prop}
    (h4 : ¬ rq_need c (D n) (H n - rq_b (D n) (H (O n))) → post (-4) (nI n, nI (H n), nI (D n), tp, aT, aR, dp, sz, ce, K, A, fl, sy, tm, bg, ra, fd, vl, sn)) (h5 : rq_need c (D n) (H n - rq_b (D n) (H (O n))) → ¬ rq_room c (H n) (D n) → post (-5) (nI n, nI (H n), nI (D n), tp, aT, aR, dp, sz, ce, K, A, fl, sy, tm, bg, ra, fd, vl, sn))
    (hp : rq_need c (D n) (H n - rq_b (D n) (H (O n))) → rq_room c (H n) (D n) → post (nI (n + 1)) (nI (n + 1), nI (H n), nI (D n), tp, aT, aR, dp, sz, ce, upd K n (nI c), upd A n v, fl, sy, tm, bg, ra, fd, vl, sn)) : wY_token_45 post (nI c) v (nI n) (nI (H n)) (nI (D n)) tp aT aR dp sz ce K A fl sy tm bg ra fd vl sn := by
  have I := rq_open P n (Nat.le_refl _)
  have h6 := I.1
  have d3 := I.2.1
  have M : wY_token_75 post (nI c) v (nI (H n - rq_b (D n) (H (O n)))) (nI n) (nI (H n)) (nI (D n)) tp aT aR dp sz ce K A fl sy tm bg ra fd vl sn :=
    rq_yNeed hc (by omega) d3 (fun z => rq_yRoom hc h6 d3 (fun y => rq_y185 n48 (hp z y)) (fun y => h5 z y)) h4
  unfold wY_token_45
  by_cases hd : D n = 0
  · rw [show rq_b (D n) (H (O n)) = 0 from by rw [hd, rq_bzero], Nat.sub_zero] at M
    exact br_t (by rw [hd]; rfl) M
  · obtain ⟨a1, a2, a3, a4, a5⟩ := I.2.2.1 (by omega)
    obtain ⟨d', ed⟩ : ∃ d', D n = d' + 1 := ⟨D n - 1, by omega⟩
    obtain ⟨B, F1, F2⟩ := F
    have ef := F2 d' (by omega)
    rw [F1.1 d' (by omega)] at ef
    rw [rq_bpos (by omega)] at M
    have e1 : nI (D n) - 1 = nI d' := by rw [ed]; exact nI_pred d'
    refine br_f (nI_ne0 (by omega) (by omega)) ?_
    rw [e1, nI_clamp (by omega), ef, pk_sub a4]
    exact ⟨vp_in_nI (by omega) (by omega), M⟩
end
theorem i_vc_token {k : Nat} {u : SX} {v : SY} (I : i_Rel k u v) (hk : k + 5 ≤ 2560) (v1 : Int32) (v2 : Int32) : wpX_token (fun r u' => wpY_token (fun r' v' => r' = r ∧ i_Rel (k + 5) u' v') v v1 v2) u v1 v2 := by
  obtain ⟨n, H, D, O, xT, xR, yT, yR, hh, op, tp, dp, ce, sz, K, A, hA, dA, oA, C, sx, tb, rh, oc, kr, kn, tm, fl, sy, bg, ra, fd, vl, sn, rfl, rfl, P, hs⟩ := I
  have hn := P.1
  unfold wpX_token
  by_cases T : ∃ c, c ≤ 17 ∧ v1 = nI c ∧ rq_Tok c v2
  · obtain ⟨c, hc, rfl, ht⟩ := T
    refine rq_xTokT hc ht (br_f (by decide) ?_)
    by_cases n48 : n < 48
    · refine br_t (nI_lt (b := 48) n48 (by decide)) ?_
      have n48' : ¬ nI n = 48 := fun z => by
        have := (nI_eq (b := 48) (by omega) (by decide)).mp z
        omega
      obtain ⟨fl', F, M⟩ := rq_yCheck (hh := hh) (op := op) (fl := fl) (tp := tp) (aT := yT) (aR := yR) (dp := dp) (sz := sz) (ce := ce) (sy := sy) (tm := tm) (bg := bg) (ra := ra) (fd := fd) (vl := vl) (sn := sn) P
      have hP2 := (P.2.2.1 n (Nat.le_refl _)).2.1
      have d3 := (rq_open P n (Nat.le_refl _)).2.1
      have main : (c = 1 → ∃ a, a < 9 ∧ v2 = nI a ∧ a / 3 < D n) → wX_token_45 (fun r u' => wpY_token (fun r' v' => r' = r ∧ i_Rel (k + 5) u' v') (nI n, hh, op, tp, yT, yR, dp, sz, ce, K, A, fl, sy, tm, bg, ra, fd, vl, sn) (nI c) v2) (nI c) v2 (nI n) xT xR ce sz K A hA dA oA C sx tb rh oc kr kn tm := fun hcell => by
        have hY : ∀ post : Int32 → SY → Prop, wY_token_45 post (nI c) v2 (nI n) (nI (H n)) (nI (D n)) tp yT yR dp sz ce K A fl' sy tm bg ra fd vl sn → wpY_token post (nI n, hh, op, tp, yT, yR, dp, sz, ce, K, A, fl, sy, tm, bg, ra, fd, vl, sn) (nI c) v2 := fun post h => by
          unfold wpY_token
          refine rq_yTokT hc ht (br_f (by decide) (br_f n48' (M _ ?_)))
          refine br_c (fun z => ?_) (fun _ => h)
          obtain ⟨a, b1, rfl, b3⟩ := hcell ((nI_eq (b := 1) (by omega) (by omega)).mp z)
          refine ⟨by decide, br_t ?_ h⟩
          rw [rq_c3, pk_div (by omega) (by omega) (by omega)]
          exact nI_lt b3 (by omega)
        refine rq_x45 P n48 hc (fun z => hY _ ?_) (fun z y => hY _ ?_) (fun z y => ?_)
        · exact rq_y45 P F n48 hc (fun _ => ⟨rfl, rq_mk _ P hs⟩) (fun w => absurd w z) (fun w => absurd w z)
        · exact rq_y45 P F n48 hc (fun w => absurd z w) (fun _ _ => ⟨rfl, rq_mk _ P hs⟩) (fun _ w => absurd w y)
        · obtain ⟨C', h', d', ov, H', D', O', P', g⟩ := rq_tokOk (aT := xT) (aR := xR) (ce := ce) (sz := sz) (sx := sx) (tb := tb) (rh := rh) (oc := oc) (kr := kr) (kn := kn) (tm := tm) P n48 hc ht hcell z y
          refine ⟨_, g, ?_⟩
          refine hY _ ?_
          exact rq_y45 P F n48 hc (fun w => absurd z w) (fun _ w => absurd y w) (fun _ _ => ⟨rfl, rq_mk _ P' hs⟩)
      refine br_c (fun z => ?_) (fun z => main fun e => absurd (by rw [e]; rfl) z)
      have ec := (nI_eq (b := 1) (by omega) (by omega)).mp z
      obtain ⟨a, ha, rfl⟩ := ht.2.1 ec
      refine ⟨by decide, vp_in_nI (by omega) (by omega), ?_⟩
      rw [nI_clamp (by omega), hP2, rq_c3, pk_div (by omega) (by omega) (by omega)]
      refine pk_lt (a / 3) (D n) (fun w => main fun _ => ⟨a, ha, rfl, w⟩) (fun w => ?_)
      unfold wpY_token
      refine rq_yTokT hc ht (br_f (by decide) (br_f n48' (M _ ?_)))
      refine br_t z ⟨by decide, br_f (fun y => ?_) ⟨rfl, rq_mk _ P hs⟩⟩
      rw [rq_c3, pk_div (by omega) (by omega) (by omega), nI_ltI (by omega) (by omega)] at y
      omega
    · have e : n = 48 := by omega
      subst e
      refine br_f (by decide) ?_
      unfold wpY_token
      refine rq_yTokT hc ht (br_f (by decide) (br_t rfl ?_))
      exact ⟨rfl, rq_mk _ P hs⟩
  · refine rq_xTokF T (br_t rfl ?_)
    unfold wpY_token
    refine rq_yTokF T (br_t rfl ?_)
    exact ⟨rfl, rq_mk _ P hs⟩
end
