/-! setting and clearing a bit -/
theorem q_bsplit (b p : Nat) : b = 2 ^ (p + 1) * (b / 2 ^ (p + 1)) + (2 ^ p * q_b b p + b % 2 ^ p) := by
  unfold q_b
  have h1 := Nat.div_add_mod b (2 ^ p)
  have h2 := Nat.div_add_mod (b / 2 ^ p) 2
  rw [Nat.pow_succ, ← Nat.div_div_eq_div_mul]
  have h3 : 2 ^ p * 2 * (b / 2 ^ p / 2) + (2 ^ p * (b / 2 ^ p % 2) + b % 2 ^ p) = 2 ^ p * (2 * (b / 2 ^ p / 2) + b / 2 ^ p % 2) + b % 2 ^ p := by
    rw [Nat.mul_add, Nat.mul_assoc]; omega
  rw [h3, h2, h1]
theorem q_bset {b p : Nat} (h : q_b b p = 0) : b ||| 2 ^ p = b + 2 ^ p := by
  have h1 := q_bsplit b p
  rw [h, Nat.mul_zero, Nat.zero_add] at h1
  have hr : b % 2 ^ p < 2 ^ p := Nat.mod_lt _ (Nat.two_pow_pos p)
  have e1 : b % 2 ^ p ||| 2 ^ p = 2 ^ p + b % 2 ^ p := by
    have := Nat.two_pow_add_eq_or_of_lt hr 1
    rw [Nat.mul_one] at this
    rw [Nat.or_comm, this]
  have hp : 2 ^ p + b % 2 ^ p < 2 ^ (p + 1) := by rw [Nat.pow_succ]; omega
  have e2 := Nat.two_pow_add_eq_or_of_lt hp (b / 2 ^ (p + 1))
  have e3 := Nat.two_pow_add_eq_or_of_lt (show b % 2 ^ p < 2 ^ (p + 1) by rw [Nat.pow_succ]; omega) (b / 2 ^ (p + 1))
  have e4 : b ||| 2 ^ p = (2 ^ (p + 1) * (b / 2 ^ (p + 1)) ||| b % 2 ^ p) ||| 2 ^ p := by rw [← e3, ← h1]
  rw [e4, Nat.or_assoc, e1, ← e2]
  omega
theorem q_bhi {b p P : Nat} (h : q_b b p = 0) (hb : b < 2 ^ P) (hp : p < P) : b + 2 ^ p < 2 ^ P := by
  rw [← q_bset h]
  exact Nat.or_lt_two_pow hb (Nat.pow_lt_pow_right (by omega) hp)
theorem q_blo {b p : Nat} (h : q_b b p = 1) : 2 ^ p ≤ b := by
  have h1 := q_bsplit b p
  rw [h, Nat.mul_one] at h1
  omega
theorem q_bclr {b p : Nat} (h : q_b b p = 1) : q_b (b - 2 ^ p) p = 0 := by
  have h1 := q_bsplit b p
  have h2 := q_blo h
  rw [h, Nat.mul_one] at h1
  have hr : b % 2 ^ p < 2 ^ p := Nat.mod_lt _ (Nat.two_pow_pos p)
  have h3 : b - 2 ^ p = 2 ^ (p + 1) * (b / 2 ^ (p + 1)) + b % 2 ^ p := by omega
  rw [h3]
  unfold q_b
  rw [Nat.pow_succ, Nat.mul_assoc, Nat.mul_add_div (Nat.two_pow_pos p), Nat.div_eq_of_lt hr]
  omega
theorem q_b_tb (b p : Nat) : b.testBit p = (q_b b p == 1) := by
  unfold q_b
  rw [Nat.testBit_eq_decide_div_mod_eq]
  rfl
theorem q_bvc {b p : Nat} (hb : b < 2147483648) (hp : p < 32) (h : q_b b p = 1) : nI b &&& (nI (2 ^ p) ^^^ nM) = nI (b - 2 ^ p) := by
  have h1 := q_bclr h
  have h2 := q_bset h1
  rw [Nat.sub_add_cancel (q_blo h)] at h2
  apply Int32.toBitVec_inj.mp
  rw [Int32.toBitVec_and, Int32.toBitVec_xor, show nM.toBitVec = BitVec.allOnes 32 by decide, n_bv, n_bv, n_bv]
  apply BitVec.eq_of_getLsbD_eq
  intro i hi
  rw [BitVec.getLsbD_and, BitVec.getLsbD_xor, BitVec.getLsbD_ofNat, BitVec.getLsbD_ofNat, BitVec.getLsbD_ofNat, BitVec.getLsbD_allOnes]
  simp only [hi, decide_true, Bool.true_and]
  rw [Nat.testBit_two_pow]
  by_cases e : p = i
  · subst e
    rw [q_b_tb (b - 2 ^ p), h1]
    simp
  · have h3 : b.testBit i = (b - 2 ^ p).testBit i := by
      conv => lhs; rw [← h2]
      rw [Nat.testBit_or, Nat.testBit_two_pow]
      simp [e]
    rw [h3]
    simp [e]
theorem q_bset_ne {b p i : Nat} (h : q_b b p = 0) (e : i ≠ p) : q_b (b + 2 ^ p) i = q_b b i := by
  have h1 : (b + 2 ^ p).testBit i = b.testBit i := by
    rw [← q_bset h, Nat.testBit_or, Nat.testBit_two_pow]
    have : ¬ p = i := fun q => e q.symm
    simp [this]
  rw [q_b_tb, q_b_tb] at h1
  have a := q_b_le (b + 2 ^ p) i
  have c := q_b_le b i
  by_cases e1 : q_b (b + 2 ^ p) i = 1
  · by_cases e2 : q_b b i = 1
    · omega
    · rw [e1, show q_b b i = 0 by omega] at h1; cases h1
  · by_cases e2 : q_b b i = 1
    · rw [e2, show q_b (b + 2 ^ p) i = 0 by omega] at h1; cases h1
    · omega
theorem q_bclr_ne {b p i : Nat} (h : q_b b p = 1) (e : i ≠ p) : q_b (b - 2 ^ p) i = q_b b i := by
  have := q_bset_ne (q_bclr h) e
  rw [Nat.sub_add_cancel (q_blo h)] at this
  exact this.symm
