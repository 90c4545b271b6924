/-! mend, course -/
section RR
variable {B F : Nat} {y : Nat → Nat} {q : d_C} {M : d_M}
theorem q4_mm2 {c p : Nat} (hM : m_z M = q_z y) (hI : q_I B y) (hc : c < y 2) (hp : p < q_pl y c) : f_X4_mayMend F M (nI c) (nI p) = some (if q_dry y = 1 ∧ q_b (y (114 + c)) p = 0 ∧ 0 < y (214 + y (14 + c)) ∧ 3 ≤ y 7 then nI 1 else nI 0) := by
  by_cases e : q_dry y = 1
  · rw [q4_mm hM hI e hc hp]
    by_cases e2 : q_b (y (114 + c)) p = 0 ∧ 0 < y (214 + y (14 + c)) ∧ 3 ≤ y 7
    · rw [if_pos e2, if_pos ⟨e, e2⟩]
    · rw [if_neg e2, if_neg (fun q => e2 q.2)]
  · have := q_dry_le y
    unfold f_X4_mayMend
    rw [q4_dry hM hI, show q_dry y = 0 by omega, q_bind, if_pos (by rfl), if_neg (by omega)]; rfl
theorem q1_cm2 {c p : Nat} (hI : q_I B y) (hc : c < y 2) (hp : p < q_pl y c) (hb : q_b (y (114 + c)) p ≠ 0) : f_X1_canMend F (q_z y) (nI c) (nI p) = some (nI 0) := by
  have h2 := hI.2.2.1
  have h5 := q_pl_le (c := c) hI.2.1.2
  have hbl := q_b_le (y (114 + c)) p
  unfold f_X1_canMend
  rw [q1_hp hI (by omega) (by omega), if_pos ⟨hc, hp⟩, q_bind, if_neg (by decide), q1_has hI hc (by omega), show q_b (y (114 + c)) p = 1 by omega, q_bind, if_neg (by decide)]; rfl
theorem q_op_mend (hF : 3000 ≤ F) (h : q_rel B y q M) (hB : B + 20000 ≤ 1000000000) (v : Int64) (a1 a2 : Int32) : q_go B (f_L_mend F q v a1 a2) (f_X4_mend F M a1 a2) := by
  have hz : m_z (ms_thrown M (nI 0)) = q_z y := h.2.2.1
  have hn10 : ¬ nI 1 = nI 0 := by decide
  have hdr := q_dry_le y
  unfold f_L_mend f_X3_mend f_X4_mend
  simp only [q_let, q_fails, q_bind, n_l0, n_l1, n_l2, n_l3, n_l4, n_l5, n_l6, n_l7, n_l8, n_l9, n_l10, n_l11, n_l12, n_l13, n_l14, n_l15, n_l16, n_l17, n_l18, n_l19, n_l20, n_l21, n_l22, n_l23, n_l24, n_l25, n_l30, n_l31, n_l33, n_l48, n_l49, n_l57, n_l60, n_l100, n_l114, n_l115, n_l126, n_l200, n_l214, n_l239, n_l264, n_l294, n_l400, n_l1000, n_l1470, n_l5000, n_l1000000, n_o, n_nM]
  rw [h.2.1]
  rcases q_plc (F := F) h.1 hz a1 a2 with ⟨g1, g2⟩ | ⟨c, p, rfl, rfl, hc, hp, g1, g2⟩
  · rw [g1, g2, q_bind, q_bind, if_pos rfl, if_pos rfl, q_bind]
    exact q_bad (tr := q.2.1) h hB (Or.inl rfl)
  · rw [g1, g2, q_bind, q_bind, if_neg hn10, if_neg hn10, q1_dry h.1, q4_mm2 hz h.1 hc hp]
    by_cases e1 : q_dry y = 1
    · by_cases e2 : q_b (y (114 + c)) p = 0
      · by_cases e3 : 0 < y (214 + y (14 + c)) ∧ 3 ≤ y 7
        · obtain ⟨sv, M1, k1, k2, kt, k3⟩ := q_keepS hF h
          have hI' := q_I_mono (q_ly_I (x := 3) h.1 hc hp e2) (show B ≤ B + 20000 by omega) hB
          rw [e1, q_bind, if_neg hn10, q1_cm h.1 hc hp e2, if_pos e3, q_bind, if_neg hn10, if_pos ⟨rfl, e2, e3⟩, q_bind, if_neg hn10]
          simp only [k1, k2, q_bind]
          rw [q1_ly h.1 hc hp e2 e3.1 e3.2, q4_ly h.1 hc hp e2 e3.1 e3.2]
          simp (disch := first | omega | assumption) only [q_bind, q_g, n_C, q_M_z, q_zk]
          exact ⟨nI 0, _, _, _, _, rfl, rfl, kt, fun _ => rfl, _, k3 _ _ _ _ hI' (by omega) (q_sm_rf _)⟩
        · rw [e1, q_bind, if_neg hn10, q1_cm h.1 hc hp e2, if_neg e3, q_bind, if_pos rfl, if_neg (fun q => e3 q.2.2), q_bind, q_bind, if_pos rfl]
          exact q_bad (tr := q.2.1) h hB (Or.inr rfl)
      · rw [e1, q_bind, if_neg hn10, q1_cm2 h.1 hc hp e2, q_bind, if_pos rfl, if_neg (fun q => e2 q.2.1), q_bind, q_bind, if_pos rfl]
        exact q_bad (tr := q.2.1) h hB (Or.inr rfl)
    · rw [show q_dry y = 0 by omega, q_bind, if_pos rfl, if_neg (by omega), q_bind, q_bind, if_pos rfl]
      exact q_bad (tr := q.2.1) h hB (Or.inr rfl)
end RR
