/-! numbers: what simp may use, with omega for the side conditions -/
theorem rq_c0 : (0 : Int32) = nI 0 := rfl
theorem rq_c1 : (1 : Int32) = nI 1 := rfl
theorem rq_c2 : (2 : Int32) = nI 2 := rfl
theorem rq_c3 : (3 : Int32) = nI 3 := rfl
theorem rq_c6 : (6 : Int32) = nI 6 := rfl
theorem rq_c7 : (7 : Int32) = nI 7 := rfl
theorem rq_c8 : (8 : Int32) = nI 8 := rfl
theorem rq_c9 : (9 : Int32) = nI 9 := rfl
theorem rq_c10 : (10 : Int32) = nI 10 := rfl
theorem rq_c11 : (11 : Int32) = nI 11 := rfl
theorem rq_c12 : (12 : Int32) = nI 12 := rfl
theorem rq_c13 : (13 : Int32) = nI 13 := rfl
theorem rq_c14 : (14 : Int32) = nI 14 := rfl
theorem rq_c15 : (15 : Int32) = nI 15 := rfl
theorem rq_c16 : (16 : Int32) = nI 16 := rfl
theorem rq_c17 : (17 : Int32) = nI 17 := rfl
theorem rq_c18 : (18 : Int32) = nI 18 := rfl
theorem rq_c48 : (48 : Int32) = nI 48 := rfl
theorem rq_c99 : (99 : Int32) = nI 99 := rfl
theorem rq_c10368 : (10368 : Int32) = nI 10368 := rfl
theorem rq_c30000 : (30000 : Int32) = nI 30000 := rfl
theorem rq_eqT {a b : Nat} (h : a = b) : (nI a = nI b) = True := by rw [h]; exact eq_self _
theorem rq_eqF {a b : Nat} (h : a ≠ b) (ha : a < 2 ^ 31) (hb : b < 2 ^ 31) : (nI a = nI b) = False := by rw [nI_eq ha hb]; exact eq_false h
theorem rq_leT {a b : Nat} (h : a ≤ b) (hb : b < 2 ^ 31) : (nI a ≤ nI b) = True := eq_true (nI_le h hb)
theorem rq_leF {a b : Nat} (h : b < a) (ha : a < 2 ^ 31) : (nI a ≤ nI b) = False := eq_false (nI_ge h ha)
theorem rq_ltT {a b : Nat} (h : a < b) (hb : b < 2 ^ 31) : (nI a < nI b) = True := eq_true (nI_lt h hb)
theorem rq_ltF {a b : Nat} (h : b ≤ a) (ha : a < 2 ^ 31) : (nI a < nI b) = False := eq_false (nI_nlt h ha)
theorem rq_neg {a : Nat} (ha : a < 2 ^ 31) : (nI a = -nI 1) = False := by
  refine eq_false fun e => ?_
  have h := nI_pos ha
  rw [e] at h
  exact h (by decide)
theorem rq_ix (a r c : Nat) : (a * 6 + r) * 3 + c = 18 * a + 3 * r + c := by omega
theorem rq_ix0 (a r : Nat) : (a * 6 + r) * 3 + 0 = 18 * a + 3 * r := by omega
theorem rq_6 (b j : Nat) : b * 6 + j = 6 * b + j := by omega
