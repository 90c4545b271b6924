/-! begin, set, cover -/
section RR
variable {B F : Nat} {y : Nat → Nat} {q : d_C} {M : d_M}
theorem q_begin_I {a b : Nat} (hI : q_I B y) (hB : B + 20000 ≤ 1000000000) (ha : 20 ≤ a ∧ a ≤ 400) (hb : 2 ≤ b ∧ b ≤ 30) : q_I (B + 20000) (q_u (q_u (q_u (q_u y 12 (y 12 + q_on y)) 2 0) 0 a) 1 b) := by
  have ho := q_on_le hI
  obtain ⟨a0, a1, a2, a3, a4, a5, a6, a7, a8, a9, a12, a13, ac, av, as, ak, aB⟩ := hI
  have e : ∀ j, j ≠ 12 → j ≠ 2 → j ≠ 0 → j ≠ 1 → q_u (q_u (q_u (q_u y 12 (y 12 + q_on y)) 2 0) 0 a) 1 b j = y j := fun j h1 h2 h3 h4 => by rw [q_u_ne h4, q_u_ne h3, q_u_ne h2, q_u_ne h1]
  have x0 : q_u (q_u (q_u (q_u y 12 (y 12 + q_on y)) 2 0) 0 a) 1 b 0 = a := by rw [q_u_ne (by omega), q_u_eq]
  have x1 : q_u (q_u (q_u (q_u y 12 (y 12 + q_on y)) 2 0) 0 a) 1 b 1 = b := q_u_eq
  have x2 : q_u (q_u (q_u (q_u y 12 (y 12 + q_on y)) 2 0) 0 a) 1 b 2 = 0 := by rw [q_u_ne (by omega), q_u_ne (by omega), q_u_eq]
  have x12 : q_u (q_u (q_u (q_u y 12 (y 12 + q_on y)) 2 0) 0 a) 1 b 12 = y 12 + q_on y := by rw [q_u_ne (by omega), q_u_ne (by omega), q_u_ne (by omega), q_u_eq]
  unfold q_I
  rw [x0, x1, x2, x12, e 3 (by omega) (by omega) (by omega) (by omega), e 4 (by omega) (by omega) (by omega) (by omega), e 5 (by omega) (by omega) (by omega) (by omega), e 6 (by omega) (by omega) (by omega) (by omega), e 7 (by omega) (by omega) (by omega) (by omega), e 8 (by omega) (by omega) (by omega) (by omega), e 9 (by omega) (by omega) (by omega) (by omega), e 13 (by omega) (by omega) (by omega) (by omega)]
  refine ⟨ha, hb, by omega, a3, a4, a5, by omega, a7, a8, a9, by omega, by omega, fun c hc => absurd hc (Nat.not_lt_zero c), fun w hw => ?_, ?_, fun k hk => ?_, hB⟩
  · rw [e (214 + w) (by omega) (by omega) (by omega) (by omega), e (239 + w) (by omega) (by omega) (by omega) (by omega), e (264 + w) (by omega) (by omega) (by omega) (by omega)]
    have := av w hw
    exact ⟨by omega, by omega, this.2.2⟩
  · rw [q_sum_cg (g := fun v => y (264 + v)) (fun k hk => e (264 + k) (by omega) (by omega) (by omega) (by omega))]
    exact as
  · rw [e k (by omega) (by omega) (by omega) (by omega)]; exact ak k hk
end RR
