/-! what there is: courseOf, lies, slates, count, toTop -/
section RR
variable {B F : Nat} {y : Nat → Nat} {q : d_C} {M : d_M}
theorem q_wn2 {a : Int32} {lo hi : Nat} (h : lo ≤ hi) (hh : hi < 2147483648) : (f_X3_isWithin F a (nI lo) (nI hi) = some (nI 0) ∧ ∀ j, lo ≤ j → j ≤ hi → ¬ a = nI j) ∨ ∃ j, a = nI j ∧ lo ≤ j ∧ j ≤ hi ∧ f_X3_isWithin F a (nI lo) (nI hi) = some (nI 1) := by
  rcases q_wn (F := F) (a := a) h hh with e | e
  · left
    refine ⟨e, fun j h1 h2 q => ?_⟩
    rw [q, q_within (by omega) (by omega) hh, if_pos ⟨h1, h2⟩] at e
    exact absurd e (by decide)
  · exact Or.inr e
/-- courseOf: the value -/
theorem q_cof (hF : 3000 ≤ F) (hI : q_I B y) (hq : q.1 = q_z y) (hM : m_z M = q_z y) {c w : Nat} (hc : c < y 2) (hw : w ≤ 6) : ∃ x, f_X3_courseOf F q (nI c) (nI w) = some (.inr x) ∧ f_X4_courseNow F M (nI c) (nI w) = some x := by
  have h2 := hI.2.2.1
  have hl := hI.2.2.2.2.2.2.2.2.2.2.2.2.1 c hc
  have ht1 : f_X1_topOf F (q_z y) (nI c) = some (nI (q_top y (c + 1))) := by
    have := q1_top (F := F) hF hI (n := c + 1) hc
    rwa [n_sub (by omega), Nat.add_sub_cancel] at this
  have ht4 : f_X4_topOf F M (nI c) = some (nI (q_top y (c + 1))) := by
    have := q4_topOf (F := F) hF hM hI (n := c + 1) hc
    rwa [n_sub (by omega), Nat.add_sub_cancel] at this
  unfold f_X3_courseOf f_X4_courseNow
  rw [hq, q1_hc hI (by omega), if_pos hc, q_bind, if_neg (by decide), q_vAt (by omega) (by omega), q1_pl (by omega), q1_sl hI hc, ht1, q1_fg hF hI hc, q1_lg hF hI hc, q4_pl hM (by omega), q4_sl hF hM hI hc, ht4, q4_fg hF hM hI hc, q4_lg hF hM hI hc, hM]
  simp (disch := first | omega | assumption) only [n_l0, n_l1, n_l2, n_l3, n_l4, n_l5, n_l6, n_l7, n_l8, n_l9, n_l10, n_l11, n_l12, n_l13, n_l14, n_l15, n_l16, n_l17, n_l18, n_l19, n_l20, n_l21, n_l22, n_l23, n_l24, n_l25, n_l30, n_l31, n_l33, n_l48, n_l49, n_l57, n_l60, n_l100, n_l114, n_l115, n_l126, n_l200, n_l214, n_l239, n_l264, n_l294, n_l400, n_l1000, n_l1470, n_l5000, n_l1000000, n_o, n_nM, q_bind, q_zk, q1_ga hI ⟨hl.1, hl.2.1⟩, q4_ga hM hI ⟨hl.1, hl.2.1⟩, n_add, q_g, n_C, n_eq]
  rcases (show w = 0 ∨ w = 1 ∨ w = 2 ∨ w = 3 ∨ w = 4 ∨ w = 5 ∨ w = 6 by omega) with e | e | e | e | e | e | e <;> subst e <;> exact ⟨_, rfl, rfl⟩
theorem q_op_courseOf (hF : 3000 ≤ F) (h : q_rel B y q M) (hB : B + 20000 ≤ 1000000000) (v : Int64) (a1 a2 : Int32) : q_go B (f_L_courseOf F q v a1 a2) (f_X4_courseOf F M a1 a2) := by
  have hz : m_z (ms_thrown M (nI 0)) = q_z y := h.2.2.1
  have h2 := h.1.2.2.1
  unfold f_L_courseOf f_X4_courseOf
  simp only [q_let, q_wX4, q_fails, q_bind, n_l0, n_l1, n_l2, n_l3, n_l4, n_l5, n_l6, n_l7, n_l8, n_l9, n_l10, n_l11, n_l12, n_l13, n_l14, n_l15, n_l16, n_l17, n_l18, n_l19, n_l20, n_l21, n_l22, n_l23, n_l24, n_l25, n_l30, n_l31, n_l33, n_l48, n_l49, n_l57, n_l60, n_l100, n_l114, n_l115, n_l126, n_l200, n_l214, n_l239, n_l264, n_l294, n_l400, n_l1000, n_l1470, n_l5000, n_l1000000, n_o, n_nM]
  rw [q4_lc hz, q_bind]
  have hn10 : ¬ nI 1 = nI 0 := by decide
  by_cases e0 : y 2 = 0
  · have hx : f_X3_isWithin F a1 (nI 0) (nI (y 2) - nI 1) = some (nI 0) := by
      rw [e0, n_0M]
      unfold f_X3_isWithin
      by_cases c1 : a1 < nI 0
      · rw [if_pos c1]; rfl
      · rw [if_neg c1, if_pos]
        · rfl
        · rw [Int32.lt_iff_toInt_lt] at c1 ⊢
          rw [n_T (by omega)] at c1
          rw [n_MT]; omega
    have hh : f_X1_hasCourse F (q_z y) a1 = some (nI 0) := by
      unfold f_X1_hasCourse
      by_cases c1 : a1 < 0
      · rw [if_pos c1]; rfl
      · rw [if_neg c1, if_pos]
        · rfl
        · show nI (y 2) ≤ a1
          rw [e0]
          rw [Int32.lt_iff_toInt_lt] at c1
          rw [Int32.le_iff_toInt_le, n_T (by omega)]
          have : (0 : Int32).toInt = 0 := by decide
          omega
    unfold f_X3_courseOf
    rw [h.2.1, hh, q_bind, if_pos (by rfl), hx]
    simp only [q_bind, if_true]
    exact q_bad (tr := q.2.1) h hB (Or.inl rfl)
  · rw [n_sub (by omega)]
    rcases q_wn2 (F := F) (a := a1) (lo := 0) (hi := y 2 - 1) (by omega) (by omega) with ⟨e, en⟩ | ⟨a, rfl, ha1, ha2, e⟩
    · have hh : f_X1_hasCourse F (q_z y) a1 = some (nI 0) := by
        unfold f_X1_hasCourse
        by_cases c1 : a1 < 0
        · rw [if_pos c1]; rfl
        · obtain ⟨j, hj, rfl⟩ := n_of c1
          rw [if_neg c1, if_pos]
          · rfl
          · show nI (y 2) ≤ nI j
            rw [n_le (by omega) hj]
            rcases Nat.lt_or_ge j (y 2) with c | c
            · exact absurd rfl (en j (by omega) (by omega))
            · exact c
      unfold f_X3_courseOf
      rw [h.2.1, hh, q_bind, if_pos (by rfl), e]
      simp only [q_bind, if_true]
      exact q_bad (tr := q.2.1) h hB (Or.inl rfl)
    · simp only [e, q_bind, hn10, if_false]
      rcases q_wn2 (F := F) (a := a2) (lo := 0) (hi := 6) (by omega) (by omega) with ⟨e', en'⟩ | ⟨w, rfl, hw1, hw2, e'⟩
      · have hcn : f_X3_courseOf F q (nI a) a2 = some (.inl 0) := by
          unfold f_X3_courseOf
          rw [h.2.1, q1_hc h.1 (by omega), if_pos (by omega), q_bind, if_neg (by decide)]
          simp only [n_l0, n_l1, n_l2, n_l3, n_l4, n_l5, n_l6, n_l7, n_l8, n_l9, n_l10, n_l11, n_l12, n_l13, n_l14, n_l15, n_l16, n_l17, n_l18, n_l19, n_l20, n_l21, n_l22, n_l23, n_l24, n_l25, n_l30, n_l31, n_l33, n_l48, n_l49, n_l57, n_l60, n_l100, n_l114, n_l115, n_l126, n_l200, n_l214, n_l239, n_l264, n_l294, n_l400, n_l1000, n_l1470, n_l5000, n_l1000000, n_o, n_nM]
          rw [if_neg (en' 0 (by omega) (by omega)), if_neg (en' 1 (by omega) (by omega)), if_neg (en' 2 (by omega) (by omega)), if_neg (en' 3 (by omega) (by omega)), if_neg (en' 4 (by omega) (by omega)), if_neg (en' 5 (by omega) (by omega)), if_neg (en' 6 (by omega) (by omega))]
        rw [hcn, e']
        simp only [q_bind, if_true]
        exact q_bad (tr := q.2.1) h hB (Or.inr rfl)
      · obtain ⟨x, g1, g2⟩ := q_cof (F := F) hF h.1 h.2.1 hz (c := a) (w := w) (by omega) hw2
        rw [g1, e', q_bind, q_bind, if_neg hn10, g2]
        exact ⟨nI 0, q, _, x, ms_thrown M (nI 0), rfl, rfl, rfl, fun _ => rfl, y, q_rel_c (q := q) (M := M) h (by omega) hB ⟨rfl, rfl⟩ ⟨rfl, rfl, rfl, rfl, rfl⟩⟩
end RR
