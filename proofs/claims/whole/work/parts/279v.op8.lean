/-! count, lies -/
section RR
variable {B F : Nat} {y : Nat → Nat} {q : d_C} {M : d_M}
theorem q_cnt_no {a : Int32} (h : ∀ j, 0 ≤ j → j ≤ 18 → ¬ a = nI j) : f_X3_count F q a = some (.inl 0) := by
  unfold f_X3_count
  simp only [n_l0, n_l1, n_l2, n_l3, n_l4, n_l5, n_l6, n_l7, n_l8, n_l9, n_l10, n_l11, n_l12, n_l13, n_l14, n_l15, n_l16, n_l17, n_l18, n_l19, n_l20, n_l21, n_l22, n_l23, n_l24, n_l25, n_l30, n_l31, n_l33, n_l48, n_l49, n_l57, n_l60, n_l100, n_l114, n_l115, n_l126, n_l200, n_l214, n_l239, n_l264, n_l294, n_l400, n_l1000, n_l1470, n_l5000, n_l1000000, n_o, n_nM]
  rw [if_neg (h 0 (by omega) (by omega)), if_neg (h 1 (by omega) (by omega)), if_neg (h 2 (by omega) (by omega)), if_neg (h 3 (by omega) (by omega)), if_neg (h 4 (by omega) (by omega)), if_neg (h 5 (by omega) (by omega)), if_neg (h 6 (by omega) (by omega)), if_neg (h 7 (by omega) (by omega)), if_neg (h 8 (by omega) (by omega)), if_neg (h 9 (by omega) (by omega)), if_neg (h 10 (by omega) (by omega)), if_neg (h 11 (by omega) (by omega)), if_neg (h 12 (by omega) (by omega)), if_neg (h 13 (by omega) (by omega)), if_neg (h 14 (by omega) (by omega)), if_neg (h 15 (by omega) (by omega)), if_neg (h 16 (by omega) (by omega)), if_neg (h 17 (by omega) (by omega)), if_neg (h 18 (by omega) (by omega))]
theorem q_rel_sv (h : q_rel B y q M) : m_saved M = q.2.2.1.2.2 := by
  obtain ⟨m, S, h4, h5⟩ := h.2.2.2.1
  rw [h4.2.1, h4.2.2.1]
theorem q_op_count (hF : 3000 ≤ F) (h : q_rel B y q M) (hB : B + 20000 ≤ 1000000000) (v : Int64) (a1 : Int32) : q_go B (f_L_count F q v a1) (f_X4_count F M a1) := by
  have hz : m_z (ms_thrown M (nI 0)) = q_z y := h.2.2.1
  have hsv : m_saved (ms_thrown M (nI 0)) = q.2.2.1.2.2 := q_rel_sv h
  have hn10 : ¬ nI 1 = nI 0 := by decide
  unfold f_L_count f_X4_count
  simp only [q_let, q_wX4, q_fails, q_bind, n_l0, n_l1, n_l2, n_l3, n_l4, n_l5, n_l6, n_l7, n_l8, n_l9, n_l10, n_l11, n_l12, n_l13, n_l14, n_l15, n_l16, n_l17, n_l18, n_l19, n_l20, n_l21, n_l22, n_l23, n_l24, n_l25, n_l30, n_l31, n_l33, n_l48, n_l49, n_l57, n_l60, n_l100, n_l114, n_l115, n_l126, n_l200, n_l214, n_l239, n_l264, n_l294, n_l400, n_l1000, n_l1470, n_l5000, n_l1000000, n_o, n_nM]
  rcases q_wn2 (F := F) (a := a1) (lo := 0) (hi := 18) (by omega) (by omega) with ⟨e, en⟩ | ⟨w, rfl, hw1, hw2, e⟩
  · rw [q_cnt_no en, e, q_bind, q_bind, if_pos rfl]
    exact q_bad (tr := q.2.1) h hB (Or.inl rfl)
  · obtain ⟨x, g1, g2⟩ := q_cnt (F := F) hF h.1 h.2.1 hz hsv hw2
    rw [g1, e, q_bind, q_bind, if_neg hn10, g2]
    exact ⟨nI 0, q, _, x, ms_thrown M (nI 0), rfl, rfl, rfl, fun _ => rfl, y, q_rel_c (q := q) (M := M) h (by omega) hB ⟨rfl, rfl⟩ ⟨rfl, rfl, rfl, rfl, rfl⟩⟩
end RR
