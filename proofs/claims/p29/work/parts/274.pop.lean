/-! the number of bits -/
theorem q_land (a b m n : Nat) (h1 : a < 256) (h2 : m < 256) : (256 * b + a) &&& (256 * n + m) = 256 * (b &&& n) + (a &&& m) := by
  apply Nat.eq_of_testBit_eq
  intro i
  have h3 : a &&& m < 2 ^ 8 := Nat.and_lt_two_pow _ (by simpa using h2)
  rw [Nat.testBit_and, show 256 = 2 ^ 8 from rfl, Nat.testBit_two_pow_mul_add _ (by simpa using h1), Nat.testBit_two_pow_mul_add _ (by simpa using h2), Nat.testBit_two_pow_mul_add _ h3]
  by_cases h : i < 8
  · simp only [h, if_true, Nat.testBit_and]
  · simp only [h, if_false, Nat.testBit_and]
def q_p1 (x : Nat) : Nat := x - (x / 2 &&& 85)
def q_p2 (x : Nat) : Nat := (x &&& 51) + (x / 4 &&& 51)
def q_c8 (x : Nat) : Nat := q_sum (q_b x) 8
theorem q_d1 : ∀ x, x < 256 → ∀ e, e < 2 → (x / 2 + 128 * e &&& 85) = (x / 2 &&& 85) ∧ (x / 2 &&& 85) ≤ x := by decide +kernel
theorem q_d2 : ∀ x, x < 256 → ∀ e, e < 4 → (x / 4 + 64 * e &&& 51) = (x / 4 &&& 51) := by decide +kernel
theorem q_d3 : ∀ x, x < 256 → q_p1 x < 256 ∧ q_p2 (q_p1 x) ≤ 68 ∧ q_p2 (q_p1 x) % 16 ≤ 4 ∧ q_c8 x ≤ 8 := by decide +kernel
theorem q_d4 : ∀ x, x < 256 → ∀ e, e < 5 → (q_p2 (q_p1 x) + q_p2 (q_p1 x) / 16 + 16 * e &&& 15) = q_c8 x := by decide +kernel
def q_s4 (a b c d : Nat) : Nat := 256 * (256 * (256 * d + c) + b) + a
theorem q_land4 {a b c d m : Nat} (ha : a < 256) (hb : b < 256) (hc : c < 256) (hm : m < 256) : (q_s4 a b c d &&& q_s4 m m m m) = q_s4 (a &&& m) (b &&& m) (c &&& m) (d &&& m) := by
  unfold q_s4
  rw [q_land _ _ _ _ ha hm, q_land _ _ _ _ hb hm, q_land _ _ _ _ hc hm]
theorem q_t1 {a b c d : Nat} (ha : a < 256) (hb : b < 256) (hc : c < 256) (hd : d < 256) : (q_s4 a b c d / 2 &&& 1431655765) ≤ q_s4 a b c d ∧ q_s4 a b c d - (q_s4 a b c d / 2 &&& 1431655765) = q_s4 (q_p1 a) (q_p1 b) (q_p1 c) (q_p1 d) := by
  have e1 : q_s4 a b c d / 2 = q_s4 (a / 2 + 128 * (b % 2)) (b / 2 + 128 * (c % 2)) (c / 2 + 128 * (d % 2)) (d / 2 + 128 * 0) := by unfold q_s4; omega
  have e2 : 1431655765 = q_s4 85 85 85 85 := rfl
  have a1 := q_d1 a ha (b % 2) (by omega)
  have b1 := q_d1 b hb (c % 2) (by omega)
  have c1 := q_d1 c hc (d % 2) (by omega)
  have d1 := q_d1 d hd 0 (by omega)
  rw [e1, e2, q_land4 (by omega) (by omega) (by omega) (by omega), a1.1, b1.1, c1.1, d1.1]
  unfold q_p1 q_s4
  omega
theorem q_t2 {a b c d : Nat} (ha : a < 256) (hb : b < 256) (hc : c < 256) (hd : d < 256) : (q_s4 a b c d &&& 858993459) + (q_s4 a b c d / 4 &&& 858993459) = q_s4 (q_p2 a) (q_p2 b) (q_p2 c) (q_p2 d) := by
  have e1 : q_s4 a b c d / 4 = q_s4 (a / 4 + 64 * (b % 4)) (b / 4 + 64 * (c % 4)) (c / 4 + 64 * (d % 4)) (d / 4 + 64 * 0) := by unfold q_s4; omega
  have e2 : 858993459 = q_s4 51 51 51 51 := rfl
  rw [e1, e2, q_land4 (by omega) (by omega) (by omega) (by omega), q_land4 (by omega) (by omega) (by omega) (by omega), q_d2 a ha (b % 4) (by omega), q_d2 b hb (c % 4) (by omega), q_d2 c hc (d % 4) (by omega), q_d2 d hd 0 (by omega)]
  unfold q_p2 q_s4
  omega
theorem q_t3 {a b c d : Nat} (ha : a < 256) (hb : b < 256) (hc : c < 256) (hd : d < 256) : (q_s4 (q_p2 (q_p1 a)) (q_p2 (q_p1 b)) (q_p2 (q_p1 c)) (q_p2 (q_p1 d)) + q_s4 (q_p2 (q_p1 a)) (q_p2 (q_p1 b)) (q_p2 (q_p1 c)) (q_p2 (q_p1 d)) / 16 &&& 252645135) = q_s4 (q_c8 a) (q_c8 b) (q_c8 c) (q_c8 d) := by
  have a2 := q_d4 a ha (q_p2 (q_p1 b) % 16) (by have := q_d3 b hb; omega)
  have b2 := q_d4 b hb (q_p2 (q_p1 c) % 16) (by have := q_d3 c hc; omega)
  have c2 := q_d4 c hc (q_p2 (q_p1 d) % 16) (by have := q_d3 d hd; omega)
  have d2 := q_d4 d hd 0 (by omega)
  have a3 := q_d3 a ha
  have b3 := q_d3 b hb
  have c3 := q_d3 c hc
  have d3 := q_d3 d hd
  generalize q_p2 (q_p1 a) = x at *
  generalize q_p2 (q_p1 b) = y at *
  generalize q_p2 (q_p1 c) = z at *
  generalize q_p2 (q_p1 d) = w at *
  have e1 : q_s4 x y z w + q_s4 x y z w / 16 = q_s4 (x + x / 16 + 16 * (y % 16)) (y + y / 16 + 16 * (z % 16)) (z + z / 16 + 16 * (w % 16)) (w + w / 16 + 16 * 0) := by unfold q_s4; omega
  have e2 : 252645135 = q_s4 15 15 15 15 := rfl
  rw [e1, e2, q_land4 (by omega) (by omega) (by omega) (by omega), a2, b2, c2, d2]
theorem q_t6 {a b c d : Nat} (ha : a ≤ 8) (hb : b ≤ 8) (hc : c ≤ 8) (hd : d ≤ 8) : (q_s4 a b c d + q_s4 a b c d / 256 + (q_s4 a b c d + q_s4 a b c d / 256) / 65536 &&& 63) = a + b + c + d := by
  have e1 : q_s4 a b c d + q_s4 a b c d / 256 = q_s4 (a + b) (b + c) (c + d) d := by unfold q_s4; omega
  have e2 : q_s4 (a + b) (b + c) (c + d) d / 65536 = q_s4 (c + d) d 0 0 := by unfold q_s4; omega
  rw [e1, e2, show 63 = 2 ^ 6 - 1 from rfl, Nat.and_two_pow_sub_one_eq_mod]
  unfold q_s4
  omega
theorem q_b8 (b k : Nat) : q_b b (k + 8) = q_b (b / 256) k := by
  unfold q_b
  rw [Nat.pow_add, Nat.mul_comm, ← Nat.div_div_eq_div_mul]
theorem q_b7 (b : Nat) : ∀ k, k < 8 → q_b b k = q_b (b % 256) k := by
  intro k hk
  have : k = 0 ∨ k = 1 ∨ k = 2 ∨ k = 3 ∨ k = 4 ∨ k = 5 ∨ k = 6 ∨ k = 7 := by omega
  unfold q_b
  rcases this with h | h | h | h | h | h | h | h <;> subst h <;> omega
theorem q_sum8 (b n : Nat) : q_sum (q_b b) (n + 8) = q_c8 (b % 256) + q_sum (q_b (b / 256)) n := by
  induction n with
  | zero => show q_sum (q_b b) 8 = q_c8 (b % 256) + 0; unfold q_c8; rw [Nat.add_zero]; exact q_sum_cg (q_b7 b)
  | succ n ih =>
    show q_sum (q_b b) (n + 8) + q_b b (n + 8) = _
    rw [ih, q_b8]
    show _ = q_c8 (b % 256) + (q_sum (q_b (b / 256)) n + q_b (b / 256) n)
    omega
theorem q_pop {b F : Nat} (hb : b < 2147483648) : f_J6_bitCount F (nI b) = some (nI (q_sum (q_b b) 32)) := by
  have e : b = q_s4 (b % 256) (b / 256 % 256) (b / 65536 % 256) (b / 16777216) := by unfold q_s4; omega
  have es : q_sum (q_b b) 32 = q_c8 (b % 256) + q_c8 (b / 256 % 256) + q_c8 (b / 65536 % 256) + q_c8 (b / 16777216) := by
    rw [q_sum8 b 24, q_sum8 _ 16, q_sum8 _ 8, Nat.div_div_eq_div_mul, Nat.div_div_eq_div_mul]
    show _ + (_ + (_ + q_c8 _)) = _
    rw [show 256 * 256 * 256 = 16777216 from rfl, show 256 * 256 = 65536 from rfl]
    omega
  have h0 : b % 256 < 256 := by omega
  have h1 : b / 256 % 256 < 256 := by omega
  have h2 : b / 65536 % 256 < 256 := by omega
  have h3 : b / 16777216 < 256 := by omega
  rw [es, e]
  have f0 : q_s4 (b % 256) (b / 256 % 256) (b / 65536 % 256) (b / 16777216) % 256 = b % 256 := by rw [← e]
  have f1 : q_s4 (b % 256) (b / 256 % 256) (b / 65536 % 256) (b / 16777216) / 256 % 256 = b / 256 % 256 := by rw [← e]
  have f2 : q_s4 (b % 256) (b / 256 % 256) (b / 65536 % 256) (b / 16777216) / 65536 % 256 = b / 65536 % 256 := by rw [← e]
  have f3 : q_s4 (b % 256) (b / 256 % 256) (b / 65536 % 256) (b / 16777216) / 16777216 = b / 16777216 := by rw [← e]
  rw [f0, f1, f2, f3]
  generalize b % 256 = x0 at *
  generalize b / 256 % 256 = x1 at *
  generalize b / 65536 % 256 = x2 at *
  generalize b / 16777216 = x3 at *
  have t1 := q_t1 h0 h1 h2 h3
  have d0 := q_d3 x0 h0
  have d1 := q_d3 x1 h1
  have d2 := q_d3 x2 h2
  have d3 := q_d3 x3 h3
  have t2 := q_t2 d0.1 d1.1 d2.1 d3.1
  have t3 := q_t3 h0 h1 h2 h3
  have t6 := q_t6 d0.2.2.2 d1.2.2.2 d2.2.2.2 d3.2.2.2
  have n1 : nI (q_s4 x0 x1 x2 x3) - (((nI (q_s4 x0 x1 x2 x3)).toUInt32 >>> ((nI 1).toUInt32 &&& (nI 31).toUInt32)).toInt32 &&& nI 1431655765) = nI (q_s4 (q_p1 x0) (q_p1 x1) (q_p1 x2) (q_p1 x3)) := by
    rw [n_ushr (by unfold q_s4; omega) (by omega), n_and, show 2 ^ 1 = 2 from rfl, n_sub t1.1, t1.2]
  have n2 : (nI (q_s4 (q_p1 x0) (q_p1 x1) (q_p1 x2) (q_p1 x3)) &&& nI 858993459) + (((nI (q_s4 (q_p1 x0) (q_p1 x1) (q_p1 x2) (q_p1 x3))).toUInt32 >>> ((nI 2).toUInt32 &&& (nI 31).toUInt32)).toInt32 &&& nI 858993459) = nI (q_s4 (q_p2 (q_p1 x0)) (q_p2 (q_p1 x1)) (q_p2 (q_p1 x2)) (q_p2 (q_p1 x3))) := by
    rw [n_ushr (by unfold q_s4; omega) (by omega), n_and, n_and, show 2 ^ 2 = 4 from rfl, n_add, t2]
  have n3 : (nI (q_s4 (q_p2 (q_p1 x0)) (q_p2 (q_p1 x1)) (q_p2 (q_p1 x2)) (q_p2 (q_p1 x3))) + ((nI (q_s4 (q_p2 (q_p1 x0)) (q_p2 (q_p1 x1)) (q_p2 (q_p1 x2)) (q_p2 (q_p1 x3)))).toUInt32 >>> ((nI 4).toUInt32 &&& (nI 31).toUInt32)).toInt32) &&& nI 252645135 = nI (q_s4 (q_c8 x0) (q_c8 x1) (q_c8 x2) (q_c8 x3)) := by
    rw [n_ushr (by unfold q_s4; omega) (by omega), n_add, n_and, show 2 ^ 4 = 16 from rfl, t3]
  have n4 : nI (q_s4 (q_c8 x0) (q_c8 x1) (q_c8 x2) (q_c8 x3)) + ((nI (q_s4 (q_c8 x0) (q_c8 x1) (q_c8 x2) (q_c8 x3))).toUInt32 >>> ((nI 8).toUInt32 &&& (nI 31).toUInt32)).toInt32 = nI (q_s4 (q_c8 x0) (q_c8 x1) (q_c8 x2) (q_c8 x3) + q_s4 (q_c8 x0) (q_c8 x1) (q_c8 x2) (q_c8 x3) / 256) := by
    rw [n_ushr (by unfold q_s4; omega) (by omega), n_add]
  have n5 : nI (q_s4 (q_c8 x0) (q_c8 x1) (q_c8 x2) (q_c8 x3) + q_s4 (q_c8 x0) (q_c8 x1) (q_c8 x2) (q_c8 x3) / 256) + ((nI (q_s4 (q_c8 x0) (q_c8 x1) (q_c8 x2) (q_c8 x3) + q_s4 (q_c8 x0) (q_c8 x1) (q_c8 x2) (q_c8 x3) / 256)).toUInt32 >>> ((nI 16).toUInt32 &&& (nI 31).toUInt32)).toInt32 &&& nI 63 = nI (q_c8 x0 + q_c8 x1 + q_c8 x2 + q_c8 x3) := by
    rw [n_ushr (by unfold q_s4; omega) (by omega), n_add, n_and, show 2 ^ 16 = 65536 from rfl, t6]
  unfold f_J6_bitCount
  show some _ = some _
  congr 1
  rw [← n5, ← n4, ← n3, ← n2, ← n1]
  rfl
theorem q_sum_cut {f : Nat → Nat} {m : Nat} : ∀ {n : Nat}, m ≤ n → (∀ k, m ≤ k → k < n → f k = 0) → q_sum f n = q_sum f m := by
  intro n
  induction n with
  | zero => intro h _; have : m = 0 := by omega
            subst this; rfl
  | succ n ih =>
    intro h h2
    by_cases e : m = n + 1
    · subst e; rfl
    · show q_sum f n + f n = _
      rw [ih (by omega) (fun k a b => h2 k a (by omega)), h2 n (by omega) (by omega)]; rfl
theorem q_b_hi {b p k : Nat} (h : b < 2 ^ p) (hk : p ≤ k) : q_b b k = 0 := by
  unfold q_b
  rw [Nat.div_eq_of_lt (Nat.lt_of_lt_of_le h (Nat.pow_le_pow_right (by omega) hk))]
