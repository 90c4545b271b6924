/-! append, undo -/
section RR
variable {B F : Nat} {y : Nat → Nat} {q : d_C} {M : d_M}
theorem q_ch16 : ∀ j, j < 128 → ((nI j).toUInt32 % 65536).toInt32 = nI j := by decide +kernel
theorem q_op_append (hF : 3000 ≤ F) (h : q_rel B y q M) (hB : B + 20000 ≤ 1000000000) (v : Int64) (a1 : Int32) : q_go B (f_L_append F q v a1) (f_X4_append F M a1) := by
  obtain ⟨len, c, h6, h7, h8, h9⟩ := h.2.2.2.2
  have h8' : m_length (ms_thrown M (nI 0)) = nI len := h8
  unfold f_L_append f_X3_append f_X4_append
  simp only [q_let, q_wX4, q_fails, q_bind, n_l0, n_l1, n_l2, n_l3, n_l4, n_l5, n_l6, n_l7, n_l8, n_l9, n_l10, n_l11, n_l12, n_l13, n_l14, n_l15, n_l16, n_l17, n_l18, n_l19, n_l20, n_l21, n_l22, n_l23, n_l24, n_l25, n_l30, n_l31, n_l33, n_l48, n_l49, n_l57, n_l60, n_l100, n_l114, n_l115, n_l126, n_l200, n_l214, n_l239, n_l264, n_l294, n_l400, n_l1000, n_l1470, n_l5000, n_l1000000, n_o, n_nM]
  rcases q_wn (F := F) (a := a1) (lo := 33) (hi := 126) (by omega) (by omega) with e | ⟨a, rfl, ha1, ha2, e⟩
  · simp only [e, q_bind, if_true]
    exact q_bad (tr := q.2.1) h hB (Or.inl rfl)
  · simp only [e, q_bind, h7, h8']
    have hn10 : ¬ nI 1 = nI 0 := by decide
    simp only [hn10, if_false]
    simp (disch := first | omega | assumption) only [n_lt, n_eq]
    by_cases e2 : len = 60
    · rw [if_neg (by omega), if_pos e2, q_bind]
      exact q_bad (tr := q.2.1) h hB (Or.inr rfl)
    · rw [if_pos (by omega), if_neg e2, q_ch16 a (by omega)]
      unfold f_X0_addSign
      simp only [h7, n_l0, n_l1, n_l2, n_l3, n_l4, n_l5, n_l6, n_l7, n_l8, n_l9, n_l10, n_l11, n_l12, n_l13, n_l14, n_l15, n_l16, n_l17, n_l18, n_l19, n_l20, n_l21, n_l22, n_l23, n_l24, n_l25, n_l30, n_l31, n_l33, n_l48, n_l49, n_l57, n_l60, n_l100, n_l114, n_l115, n_l126, n_l200, n_l214, n_l239, n_l264, n_l294, n_l400, n_l1000, n_l1470, n_l5000, n_l1000000, n_o, n_nM]
      simp (disch := first | omega | assumption) only [n_l0, n_l1, n_l2, n_l3, n_l4, n_l5, n_l6, n_l7, n_l8, n_l9, n_l10, n_l11, n_l12, n_l13, n_l14, n_l15, n_l16, n_l17, n_l18, n_l19, n_l20, n_l21, n_l22, n_l23, n_l24, n_l25, n_l30, n_l31, n_l33, n_l48, n_l49, n_l57, n_l60, n_l100, n_l114, n_l115, n_l126, n_l200, n_l214, n_l239, n_l264, n_l294, n_l400, n_l1000, n_l1470, n_l5000, n_l1000000, n_o, n_nM, n_le, n_lt, q_g, n_C, q_let, h7, n_add]
      rw [if_neg (by omega), if_neg (by omega), q_bind, q_bind, q_chI a (by omega)]
      refine ⟨nI 0, _, _, nI (len + 1), _, rfl, rfl, rfl, fun _ => rfl, y, ?_⟩
      obtain ⟨h1, h2, h3, ⟨m, S, h4, h5⟩, -⟩ := h
      refine ⟨q_I_mono h1 (by omega) hB, h2, h3, ⟨m, S, h4, fun k hk => q_I_mono (h5 k hk) (by omega) hB⟩, len + 1, q_u c len a, by omega, rfl, rfl, fun k hk => ?_⟩
      show upd q.2.2.2.1 len (nI a) k = nI (q_u c len a k) ∧ upd (m_text M) len (nI a) k = nI (q_u c len a k) ∧ q_u c len a k < 128
      unfold upd q_u
      by_cases ek : k = len
      · rw [if_pos ek, if_pos ek, if_pos ek]; exact ⟨rfl, rfl, by omega⟩
      · rw [if_neg ek, if_neg ek, if_neg ek]; exact h9 k (by omega)
theorem q_op_undo (hF : 3000 ≤ F) (h : q_rel B y q M) (hB : B + 20000 ≤ 1000000000) (v : Int64) : q_go B (f_L_undo F q v) (f_X4_undo F M) := by
  obtain ⟨h1, h2, h3, ⟨m, S, h4, h5⟩, hx⟩ := id h
  obtain ⟨g1, g2, g3, ⟨o, g4, g5, g6⟩, g7⟩ := h4
  have g2' : m_saved (ms_thrown M (nI 0)) = nI m := g2
  unfold f_L_undo f_X3_undo f_X4_undo
  simp only [q_let, q_fails, q_bind, n_l0, n_l1, n_l2, n_l3, n_l4, n_l5, n_l6, n_l7, n_l8, n_l9, n_l10, n_l11, n_l12, n_l13, n_l14, n_l15, n_l16, n_l17, n_l18, n_l19, n_l20, n_l21, n_l22, n_l23, n_l24, n_l25, n_l30, n_l31, n_l33, n_l48, n_l49, n_l57, n_l60, n_l100, n_l114, n_l115, n_l126, n_l200, n_l214, n_l239, n_l264, n_l294, n_l400, n_l1000, n_l1470, n_l5000, n_l1000000, n_o, n_nM, g3, g2']
  simp (disch := first | omega | assumption) only [n_eq]
  by_cases e : m = 0
  · rw [if_pos e, if_pos e, q_bind]
    exact q_bad (tr := q.2.1) h hB (Or.inl rfl)
  · obtain ⟨s, rfl⟩ : ∃ s, m = s + 1 := ⟨m - 1, by omega⟩
    have hIs := h5 s (by omega)
    obtain ⟨z', k1, k2, k3⟩ := q4_unL (F := F) (s := s) (by omega) F 0 (ms_saved (ms_thrown M (nI 0)) (nI s)) rfl (by omega) (by omega)
    have hz' : z' = q_z (S s) := by
      funext j
      by_cases hj : j < 294
      · rw [k2 j (by omega) hj]; exact g7 s (by omega) j hj
      · rw [k3 j (by omega)]
        show m_z M j = nI (S s j)
        rw [h3]
        show nI (y j) = _
        rw [h1.2.2.2.2.2.2.2.2.2.2.2.2.2.2.2.1 j (by omega), hIs.2.2.2.2.2.2.2.2.2.2.2.2.2.2.2.1 j (by omega)]
    obtain ⟨z, tr, ⟨ring, old, many⟩, t⟩ := q
    have e1 : old = nI o := g5
    have e2 : many = nI (s + 1) := g3
    subst e1
    subst e2
    have hi : (nI o + nI s) - (nI o + nI s) / nI 6 * nI 6 = nI ((o + s) % 6) := by rw [n_add, n_mod (by omega) (by omega) (by omega)]
    have hr : ring ((o + s) % 6) = q_z (S s) := g6 s (by omega)
    have hcv : q_z (S s) 9 = nI 0 ∨ q_z (S s) 9 = nI 1 := q_cov hIs
    rw [if_neg e, if_neg e]
    unfold f_X2_bringBack
    simp only [n_l0, n_l1, n_l2, n_l3, n_l4, n_l5, n_l6, n_l7, n_l8, n_l9, n_l10, n_l11, n_l12, n_l13, n_l14, n_l15, n_l16, n_l17, n_l18, n_l19, n_l20, n_l21, n_l22, n_l23, n_l24, n_l25, n_l30, n_l31, n_l33, n_l48, n_l49, n_l57, n_l60, n_l100, n_l114, n_l115, n_l126, n_l200, n_l214, n_l239, n_l264, n_l294, n_l400, n_l1000, n_l1470, n_l5000, n_l1000000, n_o, n_nM, q_let]
    simp (disch := first | omega | assumption) only [n_le, n_sub, Nat.add_sub_cancel]
    simp only [hi]
    simp (disch := first | omega | assumption) only [q_g, n_C, hr]
    rw [if_neg (by omega), q_fif hcv, q_bind, q_bind, k1, q_bind, hz']
    refine ⟨nI 0, _, _, nI s, _, rfl, rfl, rfl, fun _ => rfl, S s, q_I_mono hIs (by omega) hB, rfl, rfl, ⟨s, S, ⟨by omega, rfl, rfl, ⟨o, g4, rfl, fun k hk => g6 k (by omega)⟩, fun k hk j hj => g7 k (by omega) j hj⟩, fun k hk => q_I_mono (h5 k (by omega)) (by omega) hB⟩, hx⟩
end RR
