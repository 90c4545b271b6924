/-! meanPrice -/
section RR
variable {B F : Nat} {y : Nat → Nat} {q : d_C} {M : d_M}
theorem q_mp (hF : 3000 ≤ F) (hI : q_I B y) (hB : B + 20000 ≤ 1000000000) (hq : q.1 = q_z y) (hM : m_z M = q_z y) : ∃ x b, f_X3_meanPrice F q = some x ∧ f_X4_meanNow F M = some x ∧ f_X3_bitsOf F x = some b ∧ f_Jxe99ae_doubleToLongBits F x = some b := by
  have ho := q_on_le hI
  have h12 := hI.2.2.2.2.2.2.2.2.2.2.1
  have h13 := hI.2.2.2.2.2.2.2.2.2.2.2.1
  have hlt := n_lt (a := 0) (b := q_on y + y 12) (by omega) (by omega)
  have heq := n_eq (a := q_on y + y 12) (b := 0) (by omega) (by omega)
  unfold f_X3_meanPrice f_X4_meanNow
  rw [hq]
  simp (disch := first | omega | assumption) only [q1_on hF hI, q4_on hF hM hI, q_bind, n_l0, n_l1, n_l2, n_l3, n_l4, n_l5, n_l6, n_l7, n_l8, n_l9, n_l10, n_l11, n_l12, n_l13, n_l14, n_l15, n_l16, n_l17, n_l18, n_l19, n_l20, n_l21, n_l22, n_l23, n_l24, n_l25, n_l30, n_l31, n_l33, n_l48, n_l49, n_l57, n_l60, n_l100, n_l114, n_l115, n_l126, n_l200, n_l214, n_l239, n_l264, n_l294, n_l400, n_l1000, n_l1470, n_l5000, n_l1000000, n_o, n_nM, q_g, n_C, hM, q_zk, n_add, hlt, heq]
  by_cases e : 0 < q_on y + y 12
  · have hx : (∃ c q, q_nrm c q ∧ FP.ddiv (FP.i2d (nI (y 13))) (FP.i2d (nI (q_on y + y 12))) = q_D c q) ∨ FP.ddiv (FP.i2d (nI (y 13))) (FP.i2d (nI (q_on y + y 12))) = FP.dconst0 := by
      by_cases e2 : y 13 = 0
      · rw [e2]; exact Or.inr (q_quo0 (by omega) (by omega))
      · exact Or.inl (q_quo (by omega) (by omega) (by omega) (by omega))
    rw [if_pos e, if_neg (show ¬ q_on y + y 12 = 0 by omega)]
    rcases hx with ⟨c, r, hn, hx⟩ | hx
    · rw [hx, q_fif (q_nn (q_Dv hn))]
      exact ⟨_, _, rfl, rfl, q_bits hF hn, q_bits4 hn⟩
    · rw [hx, q_fif (q_nn q_0v)]
      exact ⟨_, _, rfl, rfl, q_bits0, q_bits04⟩
  · rw [if_neg e, if_pos (show q_on y + y 12 = 0 by omega)]
    exact ⟨_, _, rfl, rfl, q_bits0, q_bits04⟩
theorem q_op_mean (hF : 3000 ≤ F) (h : q_rel B y q M) (hB : B + 20000 ≤ 1000000000) : ∃ x M', f_X3_meanPrice F q = some x ∧ f_X4_meanPrice F M = some (x, M') ∧ q_R (B + 20000) q M' := by
  obtain ⟨x, b, e1, e2, -⟩ := q_mp (M := ms_thrown M (nI 0)) hF h.1 hB h.2.1 h.2.2.1
  refine ⟨x, ms_thrown M (nI 0), e1, ?_, y, q_rel_c (q := q) (M := M) h (by omega) hB ⟨rfl, rfl⟩ ⟨rfl, rfl, rfl, rfl, rfl⟩⟩
  unfold f_X4_meanPrice
  rw [n_l0, q_let, e2, q_bind]
end RR
