/-! slates, count, toTop -/
section RR
variable {B F : Nat} {y : Nat → Nat} {q : d_C} {M : d_M}
theorem q_slt (hF : 3000 ≤ F) (hI : q_I B y) (hq : q.1 = q_z y) (hM : m_z M = q_z y) {v w : Nat} (hv : 8 ≤ v ∧ v ≤ 24) (hw : w ≤ 4) : ∃ x, f_X3_slates F q (nI v) (nI w) = some (.inr x) ∧ f_X4_slatesNow F M (nI v) (nI w) = some x := by
  have hlen : f_X3_isLength F (nI v) = some (nI 1) := by
    have := q_within (F := F) (a := v) (lo := 8) (hi := 24) (by omega) (by omega) (by omega)
    rw [if_pos hv] at this; exact this
  unfold f_X3_slates f_X4_slatesNow
  rw [hlen, q_bind, if_neg (by decide), hq, q_vAt (by omega) (by omega), q_vAt (by omega) (by omega), q1_rb hF hI hv.2, q_vAt (by omega) (by omega), q1_pc hv.2, q4_rb hF hM hI hv.2, q4_pc hv.2, hM]
  simp (disch := first | omega | assumption) only [n_l0, n_l1, n_l2, n_l3, n_l4, n_l5, n_l6, n_l7, n_l8, n_l9, n_l10, n_l11, n_l12, n_l13, n_l14, n_l15, n_l16, n_l17, n_l18, n_l19, n_l20, n_l21, n_l22, n_l23, n_l24, n_l25, n_l30, n_l31, n_l33, n_l48, n_l49, n_l57, n_l60, n_l100, n_l114, n_l115, n_l126, n_l200, n_l214, n_l239, n_l264, n_l294, n_l400, n_l1000, n_l1470, n_l5000, n_l1000000, n_o, n_nM, q_bind, q_zk, n_add, q_g, n_C, n_eq]
  rcases (show w = 0 ∨ w = 1 ∨ w = 2 ∨ w = 3 ∨ w = 4 by omega) with e | e | e | e | e <;> subst e <;> exact ⟨_, rfl, rfl⟩
theorem q_op_slates (hF : 3000 ≤ F) (h : q_rel B y q M) (hB : B + 20000 ≤ 1000000000) (v : Int64) (a1 a2 : Int32) : q_go B (f_L_slates F q v a1 a2) (f_X4_slates F M a1 a2) := by
  have hz : m_z (ms_thrown M (nI 0)) = q_z y := h.2.2.1
  have hn10 : ¬ nI 1 = nI 0 := by decide
  have hlen1 : f_X3_isLength F a1 = f_X3_isWithin F a1 (nI 8) (nI 24) := rfl
  have hlen4 : f_X4_isLength F a1 = (f_X3_isWithin F a1 (nI 8) (nI 24)).bind fun x2 => f_if (x2 = nI 0 ∨ x2 = nI 1) (some x2) := rfl
  unfold f_L_slates f_X4_slates
  simp only [q_let, q_wX4, q_fails, q_bind, n_l0, n_l1, n_l2, n_l3, n_l4, n_l5, n_l6, n_l7, n_l8, n_l9, n_l10, n_l11, n_l12, n_l13, n_l14, n_l15, n_l16, n_l17, n_l18, n_l19, n_l20, n_l21, n_l22, n_l23, n_l24, n_l25, n_l30, n_l31, n_l33, n_l48, n_l49, n_l57, n_l60, n_l100, n_l114, n_l115, n_l126, n_l200, n_l214, n_l239, n_l264, n_l294, n_l400, n_l1000, n_l1470, n_l5000, n_l1000000, n_o, n_nM, hlen4]
  rcases q_wn2 (F := F) (a := a1) (lo := 8) (hi := 24) (by omega) (by omega) with ⟨e, en⟩ | ⟨a, rfl, ha1, ha2, e⟩
  · unfold f_X3_slates
    rw [hlen1, e, q_bind, q_bind, q_fif (Or.inl rfl), q_bind, if_pos (by rfl), if_pos rfl]
    exact q_bad (tr := q.2.1) h hB (Or.inl rfl)
  · rcases q_wn2 (F := F) (a := a2) (lo := 0) (hi := 4) (by omega) (by omega) with ⟨e', en'⟩ | ⟨w, rfl, hw1, hw2, e'⟩
    · have hcn : f_X3_slates F q (nI a) a2 = some (.inl 0) := by
        unfold f_X3_slates
        rw [hlen1, e, q_bind, if_neg (by decide)]
        simp only [n_l0, n_l1, n_l2, n_l3, n_l4, n_l5, n_l6, n_l7, n_l8, n_l9, n_l10, n_l11, n_l12, n_l13, n_l14, n_l15, n_l16, n_l17, n_l18, n_l19, n_l20, n_l21, n_l22, n_l23, n_l24, n_l25, n_l30, n_l31, n_l33, n_l48, n_l49, n_l57, n_l60, n_l100, n_l114, n_l115, n_l126, n_l200, n_l214, n_l239, n_l264, n_l294, n_l400, n_l1000, n_l1470, n_l5000, n_l1000000, n_o, n_nM]
        rw [if_neg (en' 0 (by omega) (by omega)), if_neg (en' 1 (by omega) (by omega)), if_neg (en' 2 (by omega) (by omega)), if_neg (en' 3 (by omega) (by omega)), if_neg (en' 4 (by omega) (by omega))]
      rw [hcn, e, q_bind, q_bind, q_fif (Or.inr rfl), q_bind, if_neg hn10, e', q_bind, if_pos rfl]
      exact q_bad (tr := q.2.1) h hB (Or.inl rfl)
    · obtain ⟨x, g1, g2⟩ := q_slt (F := F) hF h.1 h.2.1 hz (v := a) (w := w) ⟨ha1, ha2⟩ hw2
      rw [g1, e, q_bind, q_bind, q_fif (Or.inr rfl), q_bind, if_neg hn10, e', q_bind, if_neg hn10, g2]
      exact ⟨nI 0, q, _, x, ms_thrown M (nI 0), rfl, rfl, rfl, fun _ => rfl, y, q_rel_c (q := q) (M := M) h (by omega) hB ⟨rfl, rfl⟩ ⟨rfl, rfl, rfl, rfl, rfl⟩⟩
theorem q_ttp (hF : 3000 ≤ F) (hI : q_I B y) (hq : q.1 = q_z y) (hM : m_z M = q_z y) {v w : Nat} (hv : 8 ≤ v ∧ v ≤ 24) (hw : w ≤ 1) : ∃ x, f_X3_toTop F q (nI v) (nI w) = some (.inr x) ∧ f_X4_toTopNow F M (nI v) (nI w) = some x := by
  have hlen : f_X3_isLength F (nI v) = some (nI 1) := by
    have := q_within (F := F) (a := v) (lo := 8) (hi := 24) (by omega) (by omega) (by omega)
    rw [if_pos hv] at this; exact this
  have h6 := q_lo_le hI
  have hw1 := q_within (F := F) (a := w) (lo := 0) (hi := 1) (by omega) (by omega) (by omega)
  rw [if_pos ⟨by omega, hw⟩] at hw1
  have hct := q_ct_le hI hv.1
  unfold f_X3_toTop
  rw [hlen, q_bind, if_neg (by decide), n_l0, n_l1, hw1, q_bind, if_neg (by decide), hq, q1_lo hI, q_bind, q1_ct hF hI hv, q_bind, q1_pn hI hct, q_bind, q4_tt hF hM hI hv hw, n_nM]
  simp (disch := first | omega | assumption) only [n_le, n_eq]
  by_cases e : v ≤ q_lo y
  · rw [if_pos e, if_pos e]
    rcases (show w = 0 ∨ w = 1 by omega) with e | e <;> subst e <;> exact ⟨_, rfl, rfl⟩
  · rw [if_neg e, if_neg e]; exact ⟨_, rfl, rfl⟩
theorem q_op_toTop (hF : 3000 ≤ F) (h : q_rel B y q M) (hB : B + 20000 ≤ 1000000000) (v : Int64) (a1 a2 : Int32) : q_go B (f_L_toTop F q v a1 a2) (f_X4_toTop F M a1 a2) := by
  have hz : m_z (ms_thrown M (nI 0)) = q_z y := h.2.2.1
  have hn10 : ¬ nI 1 = nI 0 := by decide
  have hlen1 : f_X3_isLength F a1 = f_X3_isWithin F a1 (nI 8) (nI 24) := rfl
  have hlen4 : f_X4_isLength F a1 = (f_X3_isWithin F a1 (nI 8) (nI 24)).bind fun x2 => f_if (x2 = nI 0 ∨ x2 = nI 1) (some x2) := rfl
  unfold f_L_toTop f_X4_toTop
  simp only [q_let, q_wX4, q_fails, q_bind, n_l0, n_l1, n_l2, n_l3, n_l4, n_l5, n_l6, n_l7, n_l8, n_l9, n_l10, n_l11, n_l12, n_l13, n_l14, n_l15, n_l16, n_l17, n_l18, n_l19, n_l20, n_l21, n_l22, n_l23, n_l24, n_l25, n_l30, n_l31, n_l33, n_l48, n_l49, n_l57, n_l60, n_l100, n_l114, n_l115, n_l126, n_l200, n_l214, n_l239, n_l264, n_l294, n_l400, n_l1000, n_l1470, n_l5000, n_l1000000, n_o, n_nM, hlen4]
  rcases q_wn2 (F := F) (a := a1) (lo := 8) (hi := 24) (by omega) (by omega) with ⟨e, en⟩ | ⟨a, rfl, ha1, ha2, e⟩
  · unfold f_X3_toTop
    rw [hlen1, e, q_bind, q_bind, q_fif (Or.inl rfl), q_bind, if_pos (by rfl), if_pos rfl]
    exact q_bad (tr := q.2.1) h hB (Or.inl rfl)
  · rcases q_wn2 (F := F) (a := a2) (lo := 0) (hi := 1) (by omega) (by omega) with ⟨e', en'⟩ | ⟨w, rfl, hw1, hw2, e'⟩
    · have hcn : f_X3_toTop F q (nI a) a2 = some (.inl 0) := by
        unfold f_X3_toTop
        rw [hlen1, e, q_bind, if_neg (by decide), n_l0, n_l1, e', q_bind, if_pos (by rfl)]
      rw [hcn, e, q_bind, q_bind, q_fif (Or.inr rfl), q_bind, if_neg hn10, e', q_bind, if_pos rfl]
      exact q_bad (tr := q.2.1) h hB (Or.inl rfl)
    · obtain ⟨x, g1, g2⟩ := q_ttp (F := F) hF h.1 h.2.1 hz (v := a) (w := w) ⟨ha1, ha2⟩ hw2
      rw [g1, e, q_bind, q_bind, q_fif (Or.inr rfl), q_bind, if_neg hn10, e', q_bind, if_neg hn10, g2]
      exact ⟨nI 0, q, _, x, ms_thrown M (nI 0), rfl, rfl, rfl, fun _ => rfl, y, q_rel_c (q := q) (M := M) h (by omega) hB ⟨rfl, rfl⟩ ⟨rfl, rfl, rfl, rfl, rfl⟩⟩
end RR
