/-! course -/
section RR
variable {B F : Nat} {y : Nat → Nat} {q : d_C} {M : d_M}
theorem q_op_course (hF : 3000 ≤ F) (h : q_rel B y q M) (hB : B + 20000 ≤ 1000000000) (v : Int64) (a1 : Int32) : q_go B (f_L_course F q v a1) (f_X4_course F M a1) := by
  have hz : m_z (ms_thrown M (nI 0)) = q_z y := h.2.2.1
  have hn10 : ¬ nI 1 = nI 0 := by decide
  have hdr := q_dry_le y
  have h2 := h.1.2.2.1
  have h0 := h.1.1
  have h6 := q_lo_le h.1
  have ht := q_top_le h.1 (Nat.le_refl _)
  have hlen1 : f_X3_isLength F a1 = f_X3_isWithin F a1 (nI 8) (nI 24) := rfl
  have hlen4 : f_X4_isLength F a1 = (f_X3_isWithin F a1 (nI 8) (nI 24)).bind fun x2 => f_if (x2 = nI 0 ∨ x2 = nI 1) (some x2) := rfl
  unfold f_L_course f_X3_course f_X4_course
  simp only [q_let, q_fails, q_bind, n_l0, n_l1, n_l2, n_l3, n_l4, n_l5, n_l6, n_l7, n_l8, n_l9, n_l10, n_l11, n_l12, n_l13, n_l14, n_l15, n_l16, n_l17, n_l18, n_l19, n_l20, n_l21, n_l22, n_l23, n_l24, n_l25, n_l30, n_l31, n_l33, n_l48, n_l49, n_l57, n_l60, n_l100, n_l114, n_l115, n_l126, n_l200, n_l214, n_l239, n_l264, n_l294, n_l400, n_l1000, n_l1470, n_l5000, n_l1000000, n_o, n_nM, hlen1, hlen4]
  rcases q_wn2 (F := F) (a := a1) (lo := 8) (hi := 24) (by omega) (by omega) with ⟨e, en⟩ | ⟨a, rfl, ha1, ha2, e⟩
  · rw [e, q_bind, q_bind, if_pos rfl, q_fif (Or.inl rfl), q_bind, q_bind, if_pos rfl]
    exact q_bad (tr := q.2.1) h hB (Or.inl rfl)
  · rw [e, q_bind, q_bind, if_neg hn10, q_fif (Or.inr rfl), q_bind, if_neg hn10, h.2.1, q1_dry h.1, q4_dry hz h.1, q_bind, q_bind]
    by_cases e1 : q_dry y = 1
    · rw [e1, if_neg hn10, if_neg hn10, q1_up hF h.1, q1_lo h.1, q4_lo hz h.1, q4_top hF hz h.1, q4_lc hz]
      simp (disch := first | omega | assumption) only [hz, q_g, n_C, q_zk, n_le, n_lt, q_bind]
      have hbad := q_bad (v := v) (tr := q.2.1) h hB (Or.inr rfl)
      by_cases e2 : y 2 < 100
      · by_cases e4 : q_top y (y 2) < y 0
        · by_cases e5 : 0 < y 2 ∧ q_g0 y (y 2 - 1) < q_pl y (y 2 - 1)
          · have hc : ¬ (q_top y (y 2) < y 0 ∧ y 2 < 100 ∧ ¬ (0 < y 2 ∧ q_g0 y (y 2 - 1) < q_pl y (y 2 - 1))) := fun q => q.2.2 e5
            have h5 := q_pl_le (c := y 2 - 1) h.1.2.1.2
            rw [if_neg hc, if_pos rfl, if_neg (show ¬ 100 ≤ y 2 by omega)]
            by_cases e3 : a ≤ q_lo y
            · rw [if_neg (show ¬ q_lo y < a by omega), if_neg (show ¬ y 0 ≤ q_top y (y 2) by omega), if_neg (show ¬ y 2 ≤ 0 by omega), n_sub (by omega), q4_fg hF hz h.1 (by omega), q_bind, q_bind, show q_gI (y (114 + (y 2 - 1))) (q_pl y (y 2 - 1)) = nI (q_g0 y (y 2 - 1)) from if_pos e5.2]
              rw [if_neg (show ¬ nI (q_g0 y (y 2 - 1)) = nM from fun q => by rw [n_eqM (by omega)] at q; exact q)]
              exact hbad
            · rw [if_pos (show q_lo y < a by omega)]
              exact hbad
          · have hc : q_top y (y 2) < y 0 ∧ y 2 < 100 ∧ ¬ (0 < y 2 ∧ q_g0 y (y 2 - 1) < q_pl y (y 2 - 1)) := ⟨e4, e2, e5⟩
            rw [if_pos hc, if_neg hn10, if_neg (show ¬ 100 ≤ y 2 by omega)]
            by_cases e3 : a ≤ q_lo y
            · obtain ⟨sv, M1, k1, k2, kt, k3⟩ := q_keepS hF h
              have hI' := q_I_mono (q_bg_I h.1 ⟨ha1, ha2⟩ e2) (show B ≤ B + 20000 by omega) hB
              have e6 : q_bg y a 2 = y 2 + 1 := q_u_eq
              have hfin : q_go B (some (nI 0, (q_z (q_bg y a), q.2.1, sv, q.2.2.2), (nI (y 2)).toInt64)) (some (nI (y 2), q_M M1 (q_bg y a))) := ⟨nI 0, _, _, _, _, rfl, rfl, kt, fun _ => rfl, _, k3 _ _ _ _ hI' (by omega) (q_sm_rf _)⟩
              have hlast : f_X4_lastCourse F (q_M M1 (q_bg y a)) = some (nI (y 2)) := by
                rw [q4_lc (q_M_z M1 _), e6, n_sub (by omega), Nat.add_sub_cancel]
              rw [if_pos e3, if_neg (show ¬ q_lo y < a by omega), if_neg (show ¬ y 0 ≤ q_top y (y 2) by omega), k1, k2]
              simp only [q_bind]
              rw [q1_bg h.1 e2, q4_bg h.1 e2]
              simp only [q_bind, hlast, q_zk, e6]
              rw [n_sub (show 1 ≤ y 2 + 1 by omega), Nat.add_sub_cancel]
              by_cases e7 : y 2 = 0
              · rw [if_pos (show y 2 ≤ 0 by omega)]
                exact hfin
              · have e8 : ¬ q_g0 y (y 2 - 1) < q_pl y (y 2 - 1) := fun q => e5 ⟨by omega, q⟩
                rw [if_neg (show ¬ y 2 ≤ 0 by omega), n_sub (by omega), q4_fg hF hz h.1 (by omega), q_bind, show q_gI (y (114 + (y 2 - 1))) (q_pl y (y 2 - 1)) = nM from if_neg e8, if_pos rfl]
                exact hfin
            · rw [if_neg e3, if_pos (show q_lo y < a by omega)]
              exact hbad
        · have hc : ¬ (q_top y (y 2) < y 0 ∧ y 2 < 100 ∧ ¬ (0 < y 2 ∧ q_g0 y (y 2 - 1) < q_pl y (y 2 - 1))) := fun q => e4 q.1
          rw [if_neg hc, if_pos rfl, if_neg (show ¬ 100 ≤ y 2 by omega)]
          by_cases e3 : a ≤ q_lo y
          · rw [if_neg (show ¬ q_lo y < a by omega), if_pos (show y 0 ≤ q_top y (y 2) by omega)]
            exact hbad
          · rw [if_pos (show q_lo y < a by omega)]
            exact hbad
      · have hc : ¬ (q_top y (y 2) < y 0 ∧ y 2 < 100 ∧ ¬ (0 < y 2 ∧ q_g0 y (y 2 - 1) < q_pl y (y 2 - 1))) := fun q => e2 q.2.1
        rw [if_neg hc, if_pos rfl, if_pos (show 100 ≤ y 2 by omega)]
        exact hbad
    · rw [show q_dry y = 0 by omega, if_pos rfl, if_pos rfl, q_bind]
      exact q_bad (tr := q.2.1) h hB (Or.inr rfl)
end RR
