/-! begin, set, cover -/
section RR
variable {B F : Nat} {y : Nat → Nat} {q : d_C} {M : d_M}
theorem q_begin_I {a b : Nat} (hI : q_I B y) (hB : B + 20000 ≤ 1000000000) (ha : 20 ≤ a ∧ a ≤ 400) (hb : 2 ≤ b ∧ b ≤ 30) : q_I (B + 20000) (q_u (q_u (q_u (q_u y 12 (y 12 + q_on y)) 2 0) 0 a) 1 b) := by
  have ho := q_on_le hI
  obtain ⟨a0, a1, a2, a3, a4, a5, a6, a7, a8, a9, a12, a13, ac, av, as, ak, aB⟩ := hI
  have e : ∀ j, j ≠ 12 → j ≠ 2 → j ≠ 0 → j ≠ 1 → q_u (q_u (q_u (q_u y 12 (y 12 + q_on y)) 2 0) 0 a) 1 b j = y j := fun j h1 h2 h3 h4 => by rw [q_u_ne h4, q_u_ne h3, q_u_ne h2, q_u_ne h1]
  have x0 : q_u (q_u (q_u (q_u y 12 (y 12 + q_on y)) 2 0) 0 a) 1 b 0 = a := by rw [q_u_ne (by omega), q_u_eq]
  have x1 : q_u (q_u (q_u (q_u y 12 (y 12 + q_on y)) 2 0) 0 a) 1 b 1 = b := q_u_eq
  have x2 : q_u (q_u (q_u (q_u y 12 (y 12 + q_on y)) 2 0) 0 a) 1 b 2 = 0 := by rw [q_u_ne (by omega), q_u_ne (by omega), q_u_eq]
  have x12 : q_u (q_u (q_u (q_u y 12 (y 12 + q_on y)) 2 0) 0 a) 1 b 12 = y 12 + q_on y := by rw [q_u_ne (by omega), q_u_ne (by omega), q_u_ne (by omega), q_u_eq]
  unfold q_I
  rw [x0, x1, x2, x12, e 3 (by omega) (by omega) (by omega) (by omega), e 4 (by omega) (by omega) (by omega) (by omega), e 5 (by omega) (by omega) (by omega) (by omega), e 6 (by omega) (by omega) (by omega) (by omega), e 7 (by omega) (by omega) (by omega) (by omega), e 8 (by omega) (by omega) (by omega) (by omega), e 9 (by omega) (by omega) (by omega) (by omega), e 13 (by omega) (by omega) (by omega) (by omega)]
  refine ⟨ha, hb, by omega, a3, a4, a5, by omega, a7, a8, a9, by omega, by omega, fun c hc => absurd hc (Nat.not_lt_zero c), fun w hw => ?_, ?_, fun k hk => ?_, hB⟩
  · rw [e (214 + w) (by omega) (by omega) (by omega) (by omega), e (239 + w) (by omega) (by omega) (by omega) (by omega), e (264 + w) (by omega) (by omega) (by omega) (by omega)]
    have := av w hw
    exact ⟨by omega, by omega, this.2.2⟩
  · rw [q_sum_cg (g := fun v => y (264 + v)) (fun k hk => e (264 + k) (by omega) (by omega) (by omega) (by omega))]
    exact as
  · rw [e k (by omega) (by omega) (by omega) (by omega)]; exact ak k hk
theorem q_op_begin (hF : 3000 ≤ F) (h : q_rel B y q M) (hB : B + 20000 ≤ 1000000000) (v : Int64) (a1 a2 : Int32) : q_go B (f_L_begin F q v a1 a2) (f_X4_begin F M a1 a2) := by
  unfold f_L_begin f_X3_begin f_X4_begin
  simp only [q_let, q_wX4, q_fails, q_bind, n_l0, n_l1, n_l2, n_l3, n_l4, n_l5, n_l6, n_l7, n_l8, n_l9, n_l10, n_l11, n_l12, n_l13, n_l14, n_l15, n_l16, n_l17, n_l18, n_l19, n_l20, n_l21, n_l22, n_l23, n_l24, n_l25, n_l30, n_l31, n_l33, n_l48, n_l49, n_l57, n_l60, n_l100, n_l114, n_l115, n_l126, n_l200, n_l214, n_l239, n_l264, n_l294, n_l400, n_l1000, n_l1470, n_l5000, n_l1000000, n_o, n_nM]
  rcases q_wn (F := F) (a := a1) (lo := 20) (hi := 400) (by omega) (by omega) with e | ⟨a, rfl, ha1, ha2, e⟩
  · simp only [e, q_bind, if_true]
    exact q_bad h hB (Or.inl rfl)
  · rcases q_wn (F := F) (a := a2) (lo := 2) (hi := 30) (by omega) (by omega) with e' | ⟨b, rfl, hb1, hb2, e'⟩
    · simp only [e, e', q_bind, if_true]
      rw [if_neg (by decide), if_neg (by decide)]
      exact q_bad h hB (Or.inl rfl)
    · obtain ⟨sv, M1, k1, k2, kt, k3⟩ := q_keepS hF h
      have hI' := q_begin_I h.1 hB ⟨ha1, ha2⟩ ⟨hb1, hb2⟩
      simp only [e, e', q_bind, k1, k2]
      rw [if_neg (by decide), if_neg (by decide), if_neg (by decide), if_neg (by decide)]
      rw [q1_on hF h.1, q4_on hF (q_M_z M1 y) h.1]
      simp (disch := first | omega | assumption) only [q_bind, q_g, n_C, q_M_z, q_zk, n_add, q_zu, q_M_s, q_M_d]
      exact ⟨nI 0, _, _, nI (q_on y), _, rfl, rfl, kt, fun _ => rfl, _, k3 _ _ _ _ hI' (by omega) (q_sm_rf _)⟩
end RR
