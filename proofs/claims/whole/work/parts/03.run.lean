/-! the blocks that are open while a program is worked out: B b is the first token of block b, r b its row at hand, f b how many of its rows were kept -/
def rq_Ch (D O B : Nat → Nat) (i : Nat) : Prop := (∀ b, b + 1 = D i → B b = O i) ∧ (∀ b, b + 1 < D i → B b = O (B (b + 1)))
theorem rq_chSame {D O B : Nat → Nat} {i j : Nat} (c : rq_Ch D O B i) (hD : D j = D i) (hO : O j = O i) : rq_Ch D O B j := by
  unfold rq_Ch
  rw [hD, hO]
  exact c
theorem rq_chB {n : Nat} {K A C hA dA oA : Nat → Int32} {H D O : Nat → Nat} (P : rq_Prof n K A C hA dA oA H D O) {B : Nat → Nat} {i : Nat} (hi : i ≤ n) (c : rq_Ch D O B i) :
    ∀ b, b < D i → B b < i ∧ K (B b) = nI 10 ∧ D (B b) = b := by
  have main : ∀ m b, b + 1 + m = D i → B b < i ∧ K (B b) = nI 10 ∧ D (B b) = b := by
    intro m
    induction m with
    | zero =>
      intro b hb
      obtain ⟨a1, a2, a3, _⟩ := (rq_open P i hi).2.2.1 (by omega)
      rw [c.1 b (by omega)]
      exact ⟨a1, a2, by omega⟩
    | succ m ih =>
      intro b hb
      obtain ⟨x1, x2, x3⟩ := ih (b + 1) (by omega)
      obtain ⟨a1, a2, a3, _⟩ := (rq_open P (B (b + 1)) (by omega)).2.2.1 (by omega)
      rw [c.2 b (by omega)]
      exact ⟨by omega, a2, by omega⟩
  intro b hb
  exact main (D i - 1 - b) b (by omega)
theorem rq_chPush {D O B : Nat → Nat} {o : Nat} (c : rq_Ch D O B o) : rq_Ch D O (rq_put B (D o) o) o := by
  refine ⟨fun b hb => ?_, fun b hb => ?_⟩
  · rw [rq_pn (by omega)]
    exact c.1 b hb
  · rw [rq_pn (by omega), rq_pn (by omega)]
    exact c.2 b hb
theorem rq_chIn {D O B : Nat → Nat} {o : Nat} (c : rq_Ch D O B o) (hB : B (D o) = o) (hD : D (o + 1) = D o + 1) (hO : O (o + 1) = o) : rq_Ch D O B (o + 1) := by
  unfold rq_Ch
  rw [hD, hO]
  refine ⟨fun b hb => ?_, fun b hb => ?_⟩
  · have e : b = D o := by omega
    rw [e]
    exact hB
  · by_cases e : b + 1 = D o
    · rw [e, hB]
      exact c.1 b e
    · exact c.2 b (by omega)
theorem rq_chOut {D O B : Nat → Nat} {i : Nat} (c : rq_Ch D O B i) (h : D (O i) + 1 = D i) : rq_Ch D O B (O i) ∧ B (D (O i)) = O i := by
  have hB : B (D (O i)) = O i := c.1 _ h
  refine ⟨⟨fun b hb => ?_, fun b hb => c.2 b (by omega)⟩, hB⟩
  rw [c.2 b (by omega), hb, hB]
/-! the greatest number of steps -/
def rq_w : Nat → Nat
  | 0 => 216
  | 1 => 36
  | 2 => 6
  | _ => 1
def rq_p (B : Nat → Nat) : Nat → Nat
  | 0 => 0
  | b + 1 => B b + 1
def rq_E (c B r : Nat → Nat) : Nat → Nat
  | 0 => 0
  | b + 1 => rq_E c B r b + rq_w b * (B b + 1 - rq_p B b) + rq_w (b + 1) * (r b * (c (B b) - B b))
def rq_e (n : Nat) (c B : Nat → Nat) : Nat → Nat
  | 0 => n
  | b + 1 => c (B b) + 1
theorem rq_Econg {c B r B' r' : Nat → Nat} : ∀ b, (∀ j, j < b → B' j = B j ∧ r' j = r j) → rq_E c B' r' b = rq_E c B r b ∧ rq_p B' b = rq_p B b := by
  intro b
  induction b with
  | zero => exact fun _ => ⟨rfl, rfl⟩
  | succ b ih =>
    intro h
    obtain ⟨e1, e2⟩ := ih (fun j hj => h j (by omega))
    obtain ⟨h1, h2⟩ := h b (by omega)
    constructor
    · show rq_E c B' r' b + rq_w b * (B' b + 1 - rq_p B' b) + rq_w (b + 1) * (r' b * (c (B' b) - B' b)) = _
      rw [e1, e2, h1, h2]
      rfl
    · show B' b + 1 = _
      rw [h1]
      rfl
theorem rq_w6 : ∀ d, d < 3 → rq_w d = 6 * rq_w (d + 1)
  | 0, _ => rfl
  | 1, _ => rfl
  | 2, _ => rfl
  | d + 3, h => by omega
theorem rq_w1 : ∀ d, 1 ≤ rq_w d
  | 0 => by decide
  | 1 => by decide
  | 2 => by decide
  | d + 3 => Nat.le_refl 1
theorem rq_ar {E w w' B p c x r T : Nat} (hw : w = 6 * w') (hp : p ≤ B) (hc : B < c) (hx : x ≤ c + 1) (hr : r ≤ 5) (ih : E + w * (c + 1 - p) ≤ T) :
    E + w * (B + 1 - p) + w' * (r * (c - B)) + w' * (x - (B + 1)) ≤ T := by
  have h1 : w' * (r * (c - B)) ≤ w' * (5 * (c - B)) := Nat.mul_le_mul_left _ (Nat.mul_le_mul_right _ hr)
  have h2 : w' * (x - (B + 1)) ≤ w' * (c - B) := Nat.mul_le_mul_left _ (by omega)
  have h3 : w' * (5 * (c - B)) + w' * (c - B) = w * (c - B) := by
    rw [← Nat.mul_add, show 5 * (c - B) + (c - B) = 6 * (c - B) from by omega, hw, Nat.mul_comm 6 w', Nat.mul_assoc]
  have h4 : w * (B + 1 - p) + w * (c - B) = w * (c + 1 - p) := by
    rw [← Nat.mul_add, show B + 1 - p + (c - B) = c + 1 - p from by omega]
  omega
theorem rq_pB {n : Nat} {K A C hA dA oA : Nat → Int32} {H D O : Nat → Nat} (P : rq_Prof n K A C hA dA oA H D O) {B : Nat → Nat} {i : Nat} (hi : i ≤ n) (c : rq_Ch D O B i) :
    ∀ d, d < D i → rq_p B d ≤ B d := by
  intro d hd
  cases d with
  | zero => exact Nat.zero_le _
  | succ e =>
    show B e + 1 ≤ B (e + 1)
    obtain ⟨x1, x2, x3⟩ := rq_chB P hi c (e + 1) hd
    obtain ⟨a1, a2, a3, _⟩ := (rq_open P (B (e + 1)) (by omega)).2.2.1 (by omega)
    have := c.2 e hd
    omega
theorem rq_bound {n : Nat} {K A C hA dA oA : Nat → Int32} {H D O : Nat → Nat} (P : rq_Prof n K A C hA dA oA H D O) (h0 : D n = 0) {B r : Nat → Nat} {i : Nat} (hi : i ≤ n) (c : rq_Ch D O B i)
    (hr : ∀ b, b < D i → r b ≤ 5) : ∀ d, d ≤ D i → ∀ x, x ≤ rq_e n (rq_cl C) B d → rq_E (rq_cl C) B r d + rq_w d * (x - rq_p B d) ≤ 216 * n := by
  intro d
  induction d with
  | zero =>
    intro _ x hx
    have hx' : x ≤ n := hx
    show 0 + 216 * (x - 0) ≤ 216 * n
    omega
  | succ d ih =>
    intro hd x hx
    obtain ⟨x1, x2, x3⟩ := rq_chB P hi c d hd
    obtain ⟨c1, c2, ⟨k, q⟩, c4⟩ := rq_closer P h0 (o := B d) (by omega) x2
    have hd3 : d < 3 := by have := (rq_open P i hi).2.1; omega
    refine rq_ar (rq_w6 d hd3) (rq_pB P hi c d hd) c1 hx (hr d hd) (ih (by omega) _ ?_)
    cases d with
    | zero => exact c2
    | succ e =>
      show rq_cl C (B (e + 1)) + 1 ≤ rq_cl C (B e) + 1
      have q1 := q.2.2.2.2.2.2.1
      have q2 := q.2.2.2.2.2.2.2.1
      have := rq_inside P h0 (i := rq_cl C (B (e + 1)) + 1) (by omega) (by omega)
      rw [q2, ← c.2 e hd] at this
      omega
/-- the block b, begun by token o with f rows kept, as both sides hold it; kc: the kind of its ending token -/
def rq_Out (kc : Int32) (f b : Nat) (oc kr kn vl sn : Nat → Int32) : Prop :=
  (kc = nI 12 → oc b = nI f) ∧ (kc = nI 13 → oc b = if f = 0 then 0 else 1) ∧
  (¬ kc = nI 12 → ¬ kc = nI 13 → oc b = vl b ∧ kr b = nI f) ∧
  (kc = nI 17 → ∃ m, m ≤ f ∧ vl b = nI m ∧ ∀ x, (∃ j, j < f ∧ kn (6 * b + j) = x) ↔ (∃ j, j < m ∧ sn (6 * b + j) = x))
def rq_Blk (A : Nat → Int32) (kc : Int32) (o f b : Nat) (R : Int32) (tb rh oc kr kn bg ra fd vl sn : Nat → Int32) : Prop :=
  bg b = nI o ∧ tb b = A o ∧ rh b = R ∧ ra b = R ∧ fd b = nI f ∧ rq_Out kc f b oc kr kn vl sn
def rq_Lo (K A C : Nat → Int32) (B r f : Nat → Nat) (d : Nat) (tb rh oc kr kn bg ra fd vl sn : Nat → Int32) : Prop :=
  ∀ b, b < d → r b ≤ 5 ∧ f b ≤ r b ∧ rq_Blk A (K (rq_cl C (B b))) (B b) (f b) b (nI (r b)) tb rh oc kr kn bg ra fd vl sn
/-- both sides at the head of a step: at token i, t steps done -/
def rq_Sim (n : Nat) (K A C : Nat → Int32) (H D O : Nat → Nat) (i t : Nat) (B r f : Nat → Nat) (sx tb rh oc kr kn sy bg ra fd vl sn : Nat → Int32) (top dep : Int32) : Prop :=
  i ≤ n ∧ t ≤ rq_E (rq_cl C) B r (D i) + rq_w (D i) * (i - rq_p B (D i)) ∧ rq_Ch D O B i ∧ (top = nI (H i) ∧ dep = nI (D i)) ∧
  (∀ j, j < H i → sx j = sy j) ∧ rq_Lo K A C B r f (D i) tb rh oc kr kn bg ra fd vl sn
/-- both sides ahead of the next row of the block that token o begins; q: the next row's number -/
def rq_Pre (n : Nat) (K A C : Nat → Int32) (H D O : Nat → Nat) (o t q : Nat) (B r f : Nat → Nat) (sx tb rh oc kr kn sy bg ra fd vl sn : Nat → Int32) (top dep : Int32) : Prop :=
  (o < n ∧ K o = nI 10 ∧ B (D o) = o ∧ rq_Ch D O B o) ∧ (top = nI (H o) ∧ dep = nI (D o + 1)) ∧ (∀ j, j < H o → sx j = sy j) ∧
  rq_Lo K A C B r f (D o) tb rh oc kr kn bg ra fd vl sn ∧ (f (D o) ≤ q ∧ q ≤ 6) ∧
  (∃ R : Int32, R + 1 = nI q ∧ rq_Blk A (K (rq_cl C o)) o (f (D o)) (D o) R tb rh oc kr kn bg ra fd vl sn) ∧
  t ≤ rq_E (rq_cl C) B r (D o) + rq_w (D o) * (o + 1 - rq_p B (D o)) + rq_w (D o + 1) * (q * (rq_cl C o - o))
/-- the step bound -/
theorem rq_fuel {n : Nat} {K A C hA dA oA : Nat → Int32} {H D O : Nat → Nat} (P : rq_Prof n K A C hA dA oA H D O) (h0 : D n = 0) {i t : Nat} {B r f : Nat → Nat}
    {sx tb rh oc kr kn sy bg ra fd vl sn : Nat → Int32} {top dep : Int32} (S : rq_Sim n K A C H D O i t B r f sx tb rh oc kr kn sy bg ra fd vl sn top dep) (hi : i < n) : t < 10368 := by
  obtain ⟨s1, s2, s3, s4, s5, s6⟩ := S
  have hx : i + 1 ≤ rq_e n (rq_cl C) B (D i) ∧ rq_p B (D i) ≤ i := by
    by_cases z : D i = 0
    · rw [z]
      exact ⟨hi, Nat.zero_le _⟩
    · obtain ⟨e, he⟩ : ∃ e, D i = e + 1 := ⟨D i - 1, by omega⟩
      have a := rq_inside P h0 (i := i) s1 (by omega)
      have b := ((rq_open P i s1).2.2.1 (by omega)).1
      have c := s3.1 e (by omega)
      rw [he]
      show i + 1 ≤ rq_cl C (B e) + 1 ∧ B e + 1 ≤ i
      rw [c]
      omega
  have hb := rq_bound P h0 s1 s3 (r := r) (fun b hb => (s6 b hb).1) (D i) (Nat.le_refl _) (i + 1) hx.1
  have hw := rq_w1 (D i)
  rw [show i + 1 - rq_p B (D i) = (i - rq_p B (D i)) + 1 from by omega, Nat.mul_add, Nat.mul_one] at hb
  have := P.1
  omega
