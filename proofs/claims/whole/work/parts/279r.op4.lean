/-! set, pass, reach -/
section RR
variable {B F : Nat} {y : Nat → Nat} {q : d_C} {M : d_M}
theorem q_op_pass (hF : 3000 ≤ F) (h : q_rel B y q M) (hB : B + 20000 ≤ 1000000000) (v : Int64) (a1 : Int32) : q_go B (f_L_pass F q v a1) (f_X4_pass F M a1) := by
  have h6 := h.1.2.2.2.2.2.2.1
  have hBB := q_rel_B h
  have hz : m_z (ms_thrown M (nI 0)) = q_z y := h.2.2.1
  unfold f_L_pass f_X3_pass f_X4_pass
  simp only [q_let, q_wX4, q_fails, q_bind, n_l0, n_l1, n_l2, n_l3, n_l4, n_l5, n_l6, n_l7, n_l8, n_l9, n_l10, n_l11, n_l12, n_l13, n_l14, n_l15, n_l16, n_l17, n_l18, n_l19, n_l20, n_l21, n_l22, n_l23, n_l24, n_l25, n_l30, n_l31, n_l33, n_l48, n_l49, n_l57, n_l60, n_l100, n_l114, n_l115, n_l126, n_l200, n_l214, n_l239, n_l264, n_l294, n_l400, n_l1000, n_l1470, n_l5000, n_l1000000, n_o, n_nM]
  rcases q_wn (F := F) (a := a1) (lo := 0) (hi := 2) (by omega) (by omega) with e | ⟨a, rfl, ha1, ha2, e⟩
  · simp only [e, q_bind, if_true]
    exact q_bad (tr := q.2.1) h hB (Or.inl rfl)
  · have hn10 : ¬ nI 1 = nI 0 := by decide
    simp only [e, q_bind, hn10, if_false, h.2.1]
    simp (disch := first | omega | assumption) only [hz, q_g, n_C, q_zk, n_lt]
    by_cases e2 : y 6 < 1000
    · obtain ⟨sv, M1, k1, k2, kt, k3⟩ := q_keepS hF h
      have hI' := q_I_mono (q_day_I (w := a) h.1 (by omega)) (show B + 63 ≤ B + 20000 by omega) hB
      rw [if_pos e2, if_pos e2]
      simp only [k1, k2, q_bind]
      rw [q1_day hF h.1 (by omega) ha2, q4_day hF h.1 (by omega) ha2]
      exact ⟨nI 0, _, _, nI (q_day y a).1, _, rfl, rfl, kt, fun _ => rfl, _, k3 _ _ _ _ hI' (by omega) (q_sm_rf _)⟩
    · rw [if_neg e2, if_neg e2]
      have h' : q = (q.1, q.2.1, q.2.2) := rfl
      exact q_bad (tr := q.2.1) h hB (Or.inr rfl)
theorem q_op_reach (hF : 3000 ≤ F) (h : q_rel B y q M) (hB : B + 20000 ≤ 1000000000) (v : Int64) (a1 : Int32) : q_go B (f_L_reach F q v a1) (f_X4_reach F M a1) := by
  have hz : m_z (ms_thrown M (nI 0)) = q_z y := h.2.2.1
  unfold f_L_reach f_X4_reach
  rcases q_wn (F := F) (a := a1) (lo := 0) (hi := 3) (by omega) (by omega) with e | ⟨a, rfl, ha1, ha2, e⟩
  · unfold f_X3_reach
    simp only [q_let, q_wX4, q_fails, q_bind, n_l0, n_l1, n_l2, n_l3, n_l4, n_l5, n_l6, n_l7, n_l8, n_l9, n_l10, n_l11, n_l12, n_l13, n_l14, n_l15, n_l16, n_l17, n_l18, n_l19, n_l20, n_l21, n_l22, n_l23, n_l24, n_l25, n_l30, n_l31, n_l33, n_l48, n_l49, n_l57, n_l60, n_l100, n_l114, n_l115, n_l126, n_l200, n_l214, n_l239, n_l264, n_l294, n_l400, n_l1000, n_l1470, n_l5000, n_l1000000, n_o, n_nM]
    simp only [e, q_bind, if_true]
    exact q_bad (tr := q.2.1) h hB (Or.inl rfl)
  · obtain ⟨tr, g1⟩ := q1_re (F := F) hF h.1 h.2.1 ha2
    obtain ⟨M', g2, g3⟩ := q4_re (F := F) (M := ms_thrown M (nI 0)) hF h.1 ha2
    rw [(q_M_e hz).symm] at g2 g3
    rw [g1, q_bind]
    have hn10 : ¬ nI 1 = nI 0 := by decide
    simp only [q_let, q_wX4, q_fails, q_bind, n_l0, n_l1, n_l2, n_l3, n_l4, n_l5, n_l6, n_l7, n_l8, n_l9, n_l10, n_l11, n_l12, n_l13, n_l14, n_l15, n_l16, n_l17, n_l18, n_l19, n_l20, n_l21, n_l22, n_l23, n_l24, n_l25, n_l30, n_l31, n_l33, n_l48, n_l49, n_l57, n_l60, n_l100, n_l114, n_l115, n_l126, n_l200, n_l214, n_l239, n_l264, n_l294, n_l400, n_l1000, n_l1470, n_l5000, n_l1000000, n_o, n_nM]
    simp only [e, q_bind, hn10, if_false, g2]
    exact ⟨nI 0, _, _, _, M', rfl, rfl, g3.2.2.2.2.2.1, fun _ => rfl, y, q_rel_c (q := q) (M := M) h (by omega) hB ⟨rfl, rfl⟩ ⟨g3.1, g3.2.1, g3.2.2.1, g3.2.2.2.1, g3.2.2.2.2.1⟩⟩
theorem q_op_set (hF : 3000 ≤ F) (h : q_rel B y q M) (hB : B + 20000 ≤ 1000000000) (v : Int64) (a1 a2 : Int32) : q_go B (f_L_set F q v a1 a2) (f_X4_set F M a1 a2) := by
  have hz : m_z (ms_thrown M (nI 0)) = q_z y := h.2.2.1
  unfold f_L_set f_X3_set f_X4_set
  simp only [q_let, q_wX4, q_fails, q_bind, n_l0, n_l1, n_l2, n_l3, n_l4, n_l5, n_l6, n_l7, n_l8, n_l9, n_l10, n_l11, n_l12, n_l13, n_l14, n_l15, n_l16, n_l17, n_l18, n_l19, n_l20, n_l21, n_l22, n_l23, n_l24, n_l25, n_l30, n_l31, n_l33, n_l48, n_l49, n_l57, n_l60, n_l100, n_l114, n_l115, n_l126, n_l200, n_l214, n_l239, n_l264, n_l294, n_l400, n_l1000, n_l1470, n_l5000, n_l1000000, n_o, n_nM]
  rcases q_wn (F := F) (a := a1) (lo := 0) (hi := 2) (by omega) (by omega) with e | ⟨a, rfl, ha1, ha2, e⟩
  · simp only [e, q_bind, if_true]
    exact q_bad (tr := q.2.1) h hB (Or.inl rfl)
  · have hn10 : ¬ nI 1 = nI 0 := by decide
    have hn20 : ¬ nI 2 = nI 0 := by decide
    have hn21 : ¬ nI 2 = nI 1 := by decide
    simp only [e, q_bind, hn10, if_false]
    rw [q_vAt (by omega) (by omega), q_vAt (by omega) (by omega), q_bind, q_bind]
    have key : ∀ lo hi : Nat, a_least a = nI lo → a_most a = nI hi → lo ≤ hi → hi < 100 → (∀ j, lo ≤ j → j ≤ hi → (3 + a = 3 ∧ 2 ≤ j ∧ j ≤ 6 ∨ 3 + a = 4 ∧ 1 ≤ j ∧ j ≤ 60 ∨ 3 + a = 5 ∧ 1 ≤ j ∧ j ≤ 5)) →
        (f_X3_isWithin F a2 (nI lo) (nI hi) = some (nI 0) ∨ ∃ j, a2 = nI j ∧ f_X3_isWithin F a2 (nI lo) (nI hi) = some (nI 1) ∧ q_I (B + 20000) (q_u y (3 + a) j)) := by
      intro lo hi _ _ hlh hh hb
      rcases q_wn (F := F) (a := a2) (lo := lo) (hi := hi) hlh (by omega) with e' | ⟨j, rfl, hj1, hj2, e'⟩
      · exact Or.inl e'
      · exact Or.inr ⟨j, rfl, e', q_set_y h.1 hB (hb j hj1 hj2)⟩
    obtain ⟨sv, M1, k1, k2, kt, k3⟩ := q_keepS hF h
    rcases (show a = 0 ∨ a = 1 ∨ a = 2 by omega) with q0 | q0 | q0
    · subst q0
      rw [show a_least 0 = nI 2 from rfl, show a_most 0 = nI 6 from rfl, if_pos rfl]
      rcases key 2 6 rfl rfl (by omega) (by omega) (fun j a b => by omega) with e' | ⟨j, rfl, e', hI'⟩
      · simp only [e', q_bind, if_true]
        exact q_bad (tr := q.2.1) h hB (Or.inr rfl)
      · simp only [e', q_bind, hn10, if_false, k1, k2]
        have hs : f_X1_settingOf F (q_z y) (nI 0) = some (nI (y 3)) := rfl
        have hc : f_X1_changeSetting F (q_z y) (nI 0) (nI j) = some (q_z (q_u y 3 j)) := by rw [← q_zu]; rfl
        rw [hs, hc]
        simp (disch := first | omega | assumption) only [q_bind, n_add, q_g, n_C, q_M_z, q_zk, q_zu, q_M_s, q_M_d]
        exact ⟨nI 0, _, _, nI (y 3), _, rfl, rfl, kt, fun _ => rfl, _, k3 _ _ _ _ hI' (by omega) (q_sm_rf _)⟩
    · subst q0
      rw [show a_least 1 = nI 1 from rfl, show a_most 1 = nI 60 from rfl, if_neg hn10, if_pos rfl]
      rcases key 1 60 rfl rfl (by omega) (by omega) (fun j a b => by omega) with e' | ⟨j, rfl, e', hI'⟩
      · simp only [e', q_bind, if_true]
        exact q_bad (tr := q.2.1) h hB (Or.inr rfl)
      · simp only [e', q_bind, hn10, if_false, k1, k2]
        have hs : f_X1_settingOf F (q_z y) (nI 1) = some (nI (y 4)) := rfl
        have hc : f_X1_changeSetting F (q_z y) (nI 1) (nI j) = some (q_z (q_u y 4 j)) := by rw [← q_zu]; rfl
        rw [hs, hc]
        simp (disch := first | omega | assumption) only [q_bind, n_add, q_g, n_C, q_M_z, q_zk, q_zu, q_M_s, q_M_d]
        exact ⟨nI 0, _, _, nI (y 4), _, rfl, rfl, kt, fun _ => rfl, _, k3 _ _ _ _ hI' (by omega) (q_sm_rf _)⟩
    · subst q0
      rw [show a_least 2 = nI 1 from rfl, show a_most 2 = nI 5 from rfl, if_neg hn20, if_neg hn21]
      rcases key 1 5 rfl rfl (by omega) (by omega) (fun j a b => by omega) with e' | ⟨j, rfl, e', hI'⟩
      · simp only [e', q_bind, if_true]
        exact q_bad (tr := q.2.1) h hB (Or.inr rfl)
      · simp only [e', q_bind, hn10, if_false, k1, k2]
        have hs : f_X1_settingOf F (q_z y) (nI 2) = some (nI (y 5)) := rfl
        have hc : f_X1_changeSetting F (q_z y) (nI 2) (nI j) = some (q_z (q_u y 5 j)) := by rw [← q_zu]; rfl
        rw [hs, hc]
        simp (disch := first | omega | assumption) only [q_bind, n_add, q_g, n_C, q_M_z, q_zk, q_zu, q_M_s, q_M_d]
        exact ⟨nI 0, _, _, nI (y 5), _, rfl, rfl, kt, fun _ => rfl, _, k3 _ _ _ _ hI' (by omega) (q_sm_rf _)⟩
end RR
