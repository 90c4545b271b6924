/-! the class's queries, with what they answer -/
section RQ
variable {B F : Nat} {y : Nat → Nat} {q : d_C}
theorem p1_c0 (hF : 3000 ≤ F) (hI : q_I B y) (hq : q.1 = q_z y) : f_X3_count F q (nI 0) = some (.inr (nI (y 0))) := by
  unfold f_X3_count
  simp only [n_l0, n_l1, n_l2, n_l3, n_l4, n_l5, n_l6, n_l7, n_l8, n_l9, n_l10, n_l11, n_l12, n_l13, n_l14, n_l15, n_l16, n_l17, n_l18, n_l19, n_l20, n_l21, n_l22, n_l23, n_l24, n_l25, n_l30, n_l31, n_l33, n_l48, n_l49, n_l57, n_l60, n_l100, n_l114, n_l115, n_l126, n_l200, n_l214, n_l239, n_l264, n_l294, n_l400, n_l1000, n_l1470, n_l5000, n_l1000000, n_o, n_nM, hq, q_zk]
  rw [if_pos trivial]
theorem p1_c1 (hF : 3000 ≤ F) (hI : q_I B y) (hq : q.1 = q_z y) : f_X3_count F q (nI 1) = some (.inr (nI (y 1))) := by
  unfold f_X3_count
  simp only [n_l0, n_l1, n_l2, n_l3, n_l4, n_l5, n_l6, n_l7, n_l8, n_l9, n_l10, n_l11, n_l12, n_l13, n_l14, n_l15, n_l16, n_l17, n_l18, n_l19, n_l20, n_l21, n_l22, n_l23, n_l24, n_l25, n_l30, n_l31, n_l33, n_l48, n_l49, n_l57, n_l60, n_l100, n_l114, n_l115, n_l126, n_l200, n_l214, n_l239, n_l264, n_l294, n_l400, n_l1000, n_l1470, n_l5000, n_l1000000, n_o, n_nM, hq, q_zk]
  rw [if_neg (by decide), if_pos trivial]
theorem p1_c2 (hF : 3000 ≤ F) (hI : q_I B y) (hq : q.1 = q_z y) : f_X3_count F q (nI 2) = some (.inr (nI (y 2))) := by
  unfold f_X3_count
  simp only [n_l0, n_l1, n_l2, n_l3, n_l4, n_l5, n_l6, n_l7, n_l8, n_l9, n_l10, n_l11, n_l12, n_l13, n_l14, n_l15, n_l16, n_l17, n_l18, n_l19, n_l20, n_l21, n_l22, n_l23, n_l24, n_l25, n_l30, n_l31, n_l33, n_l48, n_l49, n_l57, n_l60, n_l100, n_l114, n_l115, n_l126, n_l200, n_l214, n_l239, n_l264, n_l294, n_l400, n_l1000, n_l1470, n_l5000, n_l1000000, n_o, n_nM, hq, q_zk]
  rw [if_neg (by decide), if_neg (by decide), if_pos trivial]
theorem p1_c3 (hF : 3000 ≤ F) (hI : q_I B y) (hq : q.1 = q_z y) : f_X3_count F q (nI 3) = some (.inr (nI (q_top y (y 2)))) := by
  unfold f_X3_count
  simp only [n_l0, n_l1, n_l2, n_l3, n_l4, n_l5, n_l6, n_l7, n_l8, n_l9, n_l10, n_l11, n_l12, n_l13, n_l14, n_l15, n_l16, n_l17, n_l18, n_l19, n_l20, n_l21, n_l22, n_l23, n_l24, n_l25, n_l30, n_l31, n_l33, n_l48, n_l49, n_l57, n_l60, n_l100, n_l114, n_l115, n_l126, n_l200, n_l214, n_l239, n_l264, n_l294, n_l400, n_l1000, n_l1470, n_l5000, n_l1000000, n_o, n_nM, hq, q_zk]
  rw [if_neg (by decide), if_neg (by decide), if_neg (by decide), if_pos trivial]
  rw [q1_top hF hI (Nat.le_refl _), q_bind]
theorem p1_c4 (hF : 3000 ≤ F) (hI : q_I B y) (hq : q.1 = q_z y) : f_X3_count F q (nI 4) = some (.inr (nI (q_on y))) := by
  unfold f_X3_count
  simp only [n_l0, n_l1, n_l2, n_l3, n_l4, n_l5, n_l6, n_l7, n_l8, n_l9, n_l10, n_l11, n_l12, n_l13, n_l14, n_l15, n_l16, n_l17, n_l18, n_l19, n_l20, n_l21, n_l22, n_l23, n_l24, n_l25, n_l30, n_l31, n_l33, n_l48, n_l49, n_l57, n_l60, n_l100, n_l114, n_l115, n_l126, n_l200, n_l214, n_l239, n_l264, n_l294, n_l400, n_l1000, n_l1470, n_l5000, n_l1000000, n_o, n_nM, hq, q_zk]
  rw [if_neg (by decide), if_neg (by decide), if_neg (by decide), if_neg (by decide), if_pos trivial]
  rw [q1_on hF hI, q_bind]
theorem p1_c5 (hF : 3000 ≤ F) (hI : q_I B y) (hq : q.1 = q_z y) : f_X3_count F q (nI 5) = some (.inr (nI (q_gp y))) := by
  unfold f_X3_count
  simp only [n_l0, n_l1, n_l2, n_l3, n_l4, n_l5, n_l6, n_l7, n_l8, n_l9, n_l10, n_l11, n_l12, n_l13, n_l14, n_l15, n_l16, n_l17, n_l18, n_l19, n_l20, n_l21, n_l22, n_l23, n_l24, n_l25, n_l30, n_l31, n_l33, n_l48, n_l49, n_l57, n_l60, n_l100, n_l114, n_l115, n_l126, n_l200, n_l214, n_l239, n_l264, n_l294, n_l400, n_l1000, n_l1470, n_l5000, n_l1000000, n_o, n_nM, hq, q_zk]
  rw [if_neg (by decide), if_neg (by decide), if_neg (by decide), if_neg (by decide), if_neg (by decide), if_pos trivial]
  rw [q1_gp hF hI, q_bind]
theorem p1_c6 (hF : 3000 ≤ F) (hI : q_I B y) (hq : q.1 = q_z y) : f_X3_count F q (nI 6) = some (.inr (nI (q_dn y))) := by
  unfold f_X3_count
  simp only [n_l0, n_l1, n_l2, n_l3, n_l4, n_l5, n_l6, n_l7, n_l8, n_l9, n_l10, n_l11, n_l12, n_l13, n_l14, n_l15, n_l16, n_l17, n_l18, n_l19, n_l20, n_l21, n_l22, n_l23, n_l24, n_l25, n_l30, n_l31, n_l33, n_l48, n_l49, n_l57, n_l60, n_l100, n_l114, n_l115, n_l126, n_l200, n_l214, n_l239, n_l264, n_l294, n_l400, n_l1000, n_l1470, n_l5000, n_l1000000, n_o, n_nM, hq, q_zk]
  rw [if_neg (by decide), if_neg (by decide), if_neg (by decide), if_neg (by decide), if_neg (by decide), if_neg (by decide), if_pos trivial]
  have hd := q_dn_le y
  rw [q1_done hF hI, q_bind]
  simp (disch := first | omega | assumption) only [n_eq]
  rcases (show q_dn y = 0 ∨ q_dn y = 1 by omega) with e | e
  · rw [e]; rfl
  · rw [e]; rfl
theorem p1_c7 (hF : 3000 ≤ F) (hI : q_I B y) (hq : q.1 = q_z y) : f_X3_count F q (nI 7) = some (.inr (nI (y 6))) := by
  unfold f_X3_count
  simp only [n_l0, n_l1, n_l2, n_l3, n_l4, n_l5, n_l6, n_l7, n_l8, n_l9, n_l10, n_l11, n_l12, n_l13, n_l14, n_l15, n_l16, n_l17, n_l18, n_l19, n_l20, n_l21, n_l22, n_l23, n_l24, n_l25, n_l30, n_l31, n_l33, n_l48, n_l49, n_l57, n_l60, n_l100, n_l114, n_l115, n_l126, n_l200, n_l214, n_l239, n_l264, n_l294, n_l400, n_l1000, n_l1470, n_l5000, n_l1000000, n_o, n_nM, hq, q_zk]
  rw [if_neg (by decide), if_neg (by decide), if_neg (by decide), if_neg (by decide), if_neg (by decide), if_neg (by decide), if_neg (by decide), if_pos trivial]
theorem p1_c8 (hF : 3000 ≤ F) (hI : q_I B y) (hq : q.1 = q_z y) : f_X3_count F q (nI 8) = some (.inr (nI (y 7))) := by
  unfold f_X3_count
  simp only [n_l0, n_l1, n_l2, n_l3, n_l4, n_l5, n_l6, n_l7, n_l8, n_l9, n_l10, n_l11, n_l12, n_l13, n_l14, n_l15, n_l16, n_l17, n_l18, n_l19, n_l20, n_l21, n_l22, n_l23, n_l24, n_l25, n_l30, n_l31, n_l33, n_l48, n_l49, n_l57, n_l60, n_l100, n_l114, n_l115, n_l126, n_l200, n_l214, n_l239, n_l264, n_l294, n_l400, n_l1000, n_l1470, n_l5000, n_l1000000, n_o, n_nM, hq, q_zk]
  rw [if_neg (by decide), if_neg (by decide), if_neg (by decide), if_neg (by decide), if_neg (by decide), if_neg (by decide), if_neg (by decide), if_neg (by decide), if_pos trivial]
theorem p1_c9 (hF : 3000 ≤ F) (hI : q_I B y) (hq : q.1 = q_z y) : f_X3_count F q (nI 9) = some (.inr (nI (y 8))) := by
  unfold f_X3_count
  simp only [n_l0, n_l1, n_l2, n_l3, n_l4, n_l5, n_l6, n_l7, n_l8, n_l9, n_l10, n_l11, n_l12, n_l13, n_l14, n_l15, n_l16, n_l17, n_l18, n_l19, n_l20, n_l21, n_l22, n_l23, n_l24, n_l25, n_l30, n_l31, n_l33, n_l48, n_l49, n_l57, n_l60, n_l100, n_l114, n_l115, n_l126, n_l200, n_l214, n_l239, n_l264, n_l294, n_l400, n_l1000, n_l1470, n_l5000, n_l1000000, n_o, n_nM, hq, q_zk]
  rw [if_neg (by decide), if_neg (by decide), if_neg (by decide), if_neg (by decide), if_neg (by decide), if_neg (by decide), if_neg (by decide), if_neg (by decide), if_neg (by decide), if_pos trivial]
theorem p1_c10 (hF : 3000 ≤ F) (hI : q_I B y) (hq : q.1 = q_z y) : f_X3_count F q (nI 10) = some (.inr (nI (y 9))) := by
  unfold f_X3_count
  simp only [n_l0, n_l1, n_l2, n_l3, n_l4, n_l5, n_l6, n_l7, n_l8, n_l9, n_l10, n_l11, n_l12, n_l13, n_l14, n_l15, n_l16, n_l17, n_l18, n_l19, n_l20, n_l21, n_l22, n_l23, n_l24, n_l25, n_l30, n_l31, n_l33, n_l48, n_l49, n_l57, n_l60, n_l100, n_l114, n_l115, n_l126, n_l200, n_l214, n_l239, n_l264, n_l294, n_l400, n_l1000, n_l1470, n_l5000, n_l1000000, n_o, n_nM, hq, q_zk]
  rw [if_neg (by decide), if_neg (by decide), if_neg (by decide), if_neg (by decide), if_neg (by decide), if_neg (by decide), if_neg (by decide), if_neg (by decide), if_neg (by decide), if_neg (by decide), if_pos trivial]
  have h9 := hI.2.2.2.2.2.2.2.2.2.1
  rcases (show y 9 = 0 ∨ y 9 = 1 by omega) with e | e
  · rw [e]; rfl
  · rw [e]; rfl
theorem p1_c11 (hF : 3000 ≤ F) (hI : q_I B y) (hq : q.1 = q_z y) : f_X3_count F q (nI 11) = some (.inr (nI (q_sum (fun v => y (264 + v)) 25))) := by
  unfold f_X3_count
  simp only [n_l0, n_l1, n_l2, n_l3, n_l4, n_l5, n_l6, n_l7, n_l8, n_l9, n_l10, n_l11, n_l12, n_l13, n_l14, n_l15, n_l16, n_l17, n_l18, n_l19, n_l20, n_l21, n_l22, n_l23, n_l24, n_l25, n_l30, n_l31, n_l33, n_l48, n_l49, n_l57, n_l60, n_l100, n_l114, n_l115, n_l126, n_l200, n_l214, n_l239, n_l264, n_l294, n_l400, n_l1000, n_l1470, n_l5000, n_l1000000, n_o, n_nM, hq]
  rw [if_neg (by decide), if_neg (by decide), if_neg (by decide), if_neg (by decide), if_neg (by decide), if_neg (by decide), if_neg (by decide), if_neg (by decide), if_neg (by decide), if_neg (by decide), if_neg (by decide), if_pos trivial]
  have hs : f_X3_sumOf F 25 (fun k => q_z y (264 + k)) = some (nI (q_sum (fun v => y (264 + v)) 25)) := q1_sum (y := y) hF 264
  rw [hs, q_bind]
theorem p1_c12 (hF : 3000 ≤ F) (hI : q_I B y) (hq : q.1 = q_z y) : f_X3_count F q (nI 12) = some (.inr (nI (q_sum (fun v => y (214 + v)) 25))) := by
  unfold f_X3_count
  simp only [n_l0, n_l1, n_l2, n_l3, n_l4, n_l5, n_l6, n_l7, n_l8, n_l9, n_l10, n_l11, n_l12, n_l13, n_l14, n_l15, n_l16, n_l17, n_l18, n_l19, n_l20, n_l21, n_l22, n_l23, n_l24, n_l25, n_l30, n_l31, n_l33, n_l48, n_l49, n_l57, n_l60, n_l100, n_l114, n_l115, n_l126, n_l200, n_l214, n_l239, n_l264, n_l294, n_l400, n_l1000, n_l1470, n_l5000, n_l1000000, n_o, n_nM, hq]
  rw [if_neg (by decide), if_neg (by decide), if_neg (by decide), if_neg (by decide), if_neg (by decide), if_neg (by decide), if_neg (by decide), if_neg (by decide), if_neg (by decide), if_neg (by decide), if_neg (by decide), if_neg (by decide), if_pos trivial]
  have hs : f_X3_sumOf F 25 (fun k => q_z y (214 + k)) = some (nI (q_sum (fun v => y (214 + v)) 25)) := q1_sum (y := y) hF 214
  rw [hs, q_bind]
theorem p1_c13 (hF : 3000 ≤ F) (hI : q_I B y) (hq : q.1 = q_z y) : f_X3_count F q (nI 13) = some (.inr (nI (q_sum (fun v => y (239 + v)) 25))) := by
  unfold f_X3_count
  simp only [n_l0, n_l1, n_l2, n_l3, n_l4, n_l5, n_l6, n_l7, n_l8, n_l9, n_l10, n_l11, n_l12, n_l13, n_l14, n_l15, n_l16, n_l17, n_l18, n_l19, n_l20, n_l21, n_l22, n_l23, n_l24, n_l25, n_l30, n_l31, n_l33, n_l48, n_l49, n_l57, n_l60, n_l100, n_l114, n_l115, n_l126, n_l200, n_l214, n_l239, n_l264, n_l294, n_l400, n_l1000, n_l1470, n_l5000, n_l1000000, n_o, n_nM, hq]
  rw [if_neg (by decide), if_neg (by decide), if_neg (by decide), if_neg (by decide), if_neg (by decide), if_neg (by decide), if_neg (by decide), if_neg (by decide), if_neg (by decide), if_neg (by decide), if_neg (by decide), if_neg (by decide), if_neg (by decide), if_pos trivial]
  have hs : f_X3_sumOf F 25 (fun k => q_z y (239 + k)) = some (nI (q_sum (fun v => y (239 + v)) 25)) := q1_sum (y := y) hF 239
  rw [hs, q_bind]
theorem p1_c14 (hF : 3000 ≤ F) (hI : q_I B y) (hq : q.1 = q_z y) : f_X3_count F q (nI 14) = some (.inr (nI (y 10))) := by
  unfold f_X3_count
  simp only [n_l0, n_l1, n_l2, n_l3, n_l4, n_l5, n_l6, n_l7, n_l8, n_l9, n_l10, n_l11, n_l12, n_l13, n_l14, n_l15, n_l16, n_l17, n_l18, n_l19, n_l20, n_l21, n_l22, n_l23, n_l24, n_l25, n_l30, n_l31, n_l33, n_l48, n_l49, n_l57, n_l60, n_l100, n_l114, n_l115, n_l126, n_l200, n_l214, n_l239, n_l264, n_l294, n_l400, n_l1000, n_l1470, n_l5000, n_l1000000, n_o, n_nM, hq, q_zk]
  rw [if_neg (by decide), if_neg (by decide), if_neg (by decide), if_neg (by decide), if_neg (by decide), if_neg (by decide), if_neg (by decide), if_neg (by decide), if_neg (by decide), if_neg (by decide), if_neg (by decide), if_neg (by decide), if_neg (by decide), if_neg (by decide), if_pos trivial]
theorem p1_c15 (hF : 3000 ≤ F) (hI : q_I B y) (hq : q.1 = q_z y) : f_X3_count F q (nI 15) = some (.inr (nI (y 11))) := by
  unfold f_X3_count
  simp only [n_l0, n_l1, n_l2, n_l3, n_l4, n_l5, n_l6, n_l7, n_l8, n_l9, n_l10, n_l11, n_l12, n_l13, n_l14, n_l15, n_l16, n_l17, n_l18, n_l19, n_l20, n_l21, n_l22, n_l23, n_l24, n_l25, n_l30, n_l31, n_l33, n_l48, n_l49, n_l57, n_l60, n_l100, n_l114, n_l115, n_l126, n_l200, n_l214, n_l239, n_l264, n_l294, n_l400, n_l1000, n_l1470, n_l5000, n_l1000000, n_o, n_nM, hq, q_zk]
  rw [if_neg (by decide), if_neg (by decide), if_neg (by decide), if_neg (by decide), if_neg (by decide), if_neg (by decide), if_neg (by decide), if_neg (by decide), if_neg (by decide), if_neg (by decide), if_neg (by decide), if_neg (by decide), if_neg (by decide), if_neg (by decide), if_neg (by decide), if_pos trivial]
theorem p1_c16 (hF : 3000 ≤ F) (hI : q_I B y) (hq : q.1 = q_z y) : f_X3_count F q (nI 16) = some (.inr (nI (y 12))) := by
  unfold f_X3_count
  simp only [n_l0, n_l1, n_l2, n_l3, n_l4, n_l5, n_l6, n_l7, n_l8, n_l9, n_l10, n_l11, n_l12, n_l13, n_l14, n_l15, n_l16, n_l17, n_l18, n_l19, n_l20, n_l21, n_l22, n_l23, n_l24, n_l25, n_l30, n_l31, n_l33, n_l48, n_l49, n_l57, n_l60, n_l100, n_l114, n_l115, n_l126, n_l200, n_l214, n_l239, n_l264, n_l294, n_l400, n_l1000, n_l1470, n_l5000, n_l1000000, n_o, n_nM, hq, q_zk]
  rw [if_neg (by decide), if_neg (by decide), if_neg (by decide), if_neg (by decide), if_neg (by decide), if_neg (by decide), if_neg (by decide), if_neg (by decide), if_neg (by decide), if_neg (by decide), if_neg (by decide), if_neg (by decide), if_neg (by decide), if_neg (by decide), if_neg (by decide), if_neg (by decide), if_pos trivial]
theorem p1_c17 (hF : 3000 ≤ F) (hI : q_I B y) (hq : q.1 = q_z y) : f_X3_count F q (nI 17) = some (.inr (nI (y 13))) := by
  unfold f_X3_count
  simp only [n_l0, n_l1, n_l2, n_l3, n_l4, n_l5, n_l6, n_l7, n_l8, n_l9, n_l10, n_l11, n_l12, n_l13, n_l14, n_l15, n_l16, n_l17, n_l18, n_l19, n_l20, n_l21, n_l22, n_l23, n_l24, n_l25, n_l30, n_l31, n_l33, n_l48, n_l49, n_l57, n_l60, n_l100, n_l114, n_l115, n_l126, n_l200, n_l214, n_l239, n_l264, n_l294, n_l400, n_l1000, n_l1470, n_l5000, n_l1000000, n_o, n_nM, hq, q_zk]
  rw [if_neg (by decide), if_neg (by decide), if_neg (by decide), if_neg (by decide), if_neg (by decide), if_neg (by decide), if_neg (by decide), if_neg (by decide), if_neg (by decide), if_neg (by decide), if_neg (by decide), if_neg (by decide), if_neg (by decide), if_neg (by decide), if_neg (by decide), if_neg (by decide), if_neg (by decide), if_pos trivial]
theorem p1_c18 {m : Nat} (hm : q.2.2.1.2.2 = nI m) : f_X3_count F q (nI 18) = some (.inr (nI m)) := by
  unfold f_X3_count
  simp only [n_l0, n_l1, n_l2, n_l3, n_l4, n_l5, n_l6, n_l7, n_l8, n_l9, n_l10, n_l11, n_l12, n_l13, n_l14, n_l15, n_l16, n_l17, n_l18, n_l19, n_l20, n_l21, n_l22, n_l23, n_l24, n_l25, n_l30, n_l31, n_l33, n_l48, n_l49, n_l57, n_l60, n_l100, n_l114, n_l115, n_l126, n_l200, n_l214, n_l239, n_l264, n_l294, n_l400, n_l1000, n_l1470, n_l5000, n_l1000000, n_o, n_nM, hm]
  rw [if_neg (by decide), if_neg (by decide), if_neg (by decide), if_neg (by decide), if_neg (by decide), if_neg (by decide), if_neg (by decide), if_neg (by decide), if_neg (by decide), if_neg (by decide), if_neg (by decide), if_neg (by decide), if_neg (by decide), if_neg (by decide), if_neg (by decide), if_neg (by decide), if_neg (by decide), if_neg (by decide), if_pos trivial]
theorem p1_stg (hq : q.1 = q_z y) {k : Nat} (hk : k ≤ 2) : f_X3_setting F q (nI k) = some (.inr (nI (y (3 + k)))) := by
  unfold f_X3_setting
  simp only [n_l0, n_l1, n_l2, n_l3, n_l4, n_l5, n_l6, n_l7, n_l8, n_l9, n_l10, n_l11, n_l12, n_l13, n_l14, n_l15, n_l16, n_l17, n_l18, n_l19, n_l20, n_l21, n_l22, n_l23, n_l24, n_l25, n_l30, n_l31, n_l33, n_l48, n_l49, n_l57, n_l60, n_l100, n_l114, n_l115, n_l126, n_l200, n_l214, n_l239, n_l264, n_l294, n_l400, n_l1000, n_l1470, n_l5000, n_l1000000, n_o, n_nM, hq]
  rw [r_in1 (by omega) (by omega) hk, q_bind, if_neg r_n10]
  rcases (show k = 0 ∨ k = 1 ∨ k = 2 by omega) with rfl | rfl | rfl <;> rfl
theorem p1_sl0 (hF : 3000 ≤ F) (hI : q_I B y) (hq : q.1 = q_z y) {v : Nat} (hv : 8 ≤ v ∧ v ≤ 24) : f_X3_slates F q (nI v) (nI 0) = some (.inr (nI (y (214 + v)))) := by
  unfold f_X3_slates
  simp only [n_l0, n_l1, n_l2, n_l3, n_l4, n_l5, n_l6, n_l7, n_l8, n_l9, n_l10, n_l11, n_l12, n_l13, n_l14, n_l15, n_l16, n_l17, n_l18, n_l19, n_l20, n_l21, n_l22, n_l23, n_l24, n_l25, n_l30, n_l31, n_l33, n_l48, n_l49, n_l57, n_l60, n_l100, n_l114, n_l115, n_l126, n_l200, n_l214, n_l239, n_l264, n_l294, n_l400, n_l1000, n_l1470, n_l5000, n_l1000000, n_o, n_nM, hq]
  rw [r_len hv.1 hv.2, q_bind, if_neg r_n10, if_pos trivial]
  rw [q_vAt (by omega) (by omega), q_bind, q_zk]
theorem p1_sl1 (hF : 3000 ≤ F) (hI : q_I B y) (hq : q.1 = q_z y) {v : Nat} (hv : 8 ≤ v ∧ v ≤ 24) : f_X3_slates F q (nI v) (nI 1) = some (.inr (nI (y (239 + v)))) := by
  unfold f_X3_slates
  simp only [n_l0, n_l1, n_l2, n_l3, n_l4, n_l5, n_l6, n_l7, n_l8, n_l9, n_l10, n_l11, n_l12, n_l13, n_l14, n_l15, n_l16, n_l17, n_l18, n_l19, n_l20, n_l21, n_l22, n_l23, n_l24, n_l25, n_l30, n_l31, n_l33, n_l48, n_l49, n_l57, n_l60, n_l100, n_l114, n_l115, n_l126, n_l200, n_l214, n_l239, n_l264, n_l294, n_l400, n_l1000, n_l1470, n_l5000, n_l1000000, n_o, n_nM, hq]
  rw [r_len hv.1 hv.2, q_bind, if_neg r_n10, if_neg (by decide), if_pos trivial]
  rw [q_vAt (by omega) (by omega), q_bind, q_zk]
theorem p1_sl2 (hF : 3000 ≤ F) (hI : q_I B y) (hq : q.1 = q_z y) {v : Nat} (hv : 8 ≤ v ∧ v ≤ 24) : f_X3_slates F q (nI v) (nI 2) = some (.inr (nI (q_rb y v))) := by
  unfold f_X3_slates
  simp only [n_l0, n_l1, n_l2, n_l3, n_l4, n_l5, n_l6, n_l7, n_l8, n_l9, n_l10, n_l11, n_l12, n_l13, n_l14, n_l15, n_l16, n_l17, n_l18, n_l19, n_l20, n_l21, n_l22, n_l23, n_l24, n_l25, n_l30, n_l31, n_l33, n_l48, n_l49, n_l57, n_l60, n_l100, n_l114, n_l115, n_l126, n_l200, n_l214, n_l239, n_l264, n_l294, n_l400, n_l1000, n_l1470, n_l5000, n_l1000000, n_o, n_nM, hq]
  rw [r_len hv.1 hv.2, q_bind, if_neg r_n10, if_neg (by decide), if_neg (by decide), if_pos trivial]
  rw [q1_rb hF hI hv.2, q_bind]
theorem p1_sl3 (hF : 3000 ≤ F) (hI : q_I B y) (hq : q.1 = q_z y) {v : Nat} (hv : 8 ≤ v ∧ v ≤ 24) : f_X3_slates F q (nI v) (nI 3) = some (.inr (nI (y (264 + v)))) := by
  unfold f_X3_slates
  simp only [n_l0, n_l1, n_l2, n_l3, n_l4, n_l5, n_l6, n_l7, n_l8, n_l9, n_l10, n_l11, n_l12, n_l13, n_l14, n_l15, n_l16, n_l17, n_l18, n_l19, n_l20, n_l21, n_l22, n_l23, n_l24, n_l25, n_l30, n_l31, n_l33, n_l48, n_l49, n_l57, n_l60, n_l100, n_l114, n_l115, n_l126, n_l200, n_l214, n_l239, n_l264, n_l294, n_l400, n_l1000, n_l1470, n_l5000, n_l1000000, n_o, n_nM, hq]
  rw [r_len hv.1 hv.2, q_bind, if_neg r_n10, if_neg (by decide), if_neg (by decide), if_neg (by decide), if_pos trivial]
  rw [q_vAt (by omega) (by omega), q_bind, q_zk]
theorem p1_sl4 (hF : 3000 ≤ F) (hI : q_I B y) (hq : q.1 = q_z y) {v : Nat} (hv : 8 ≤ v ∧ v ≤ 24) : f_X3_slates F q (nI v) (nI 4) = some (.inr (nI (q_pc v))) := by
  unfold f_X3_slates
  simp only [n_l0, n_l1, n_l2, n_l3, n_l4, n_l5, n_l6, n_l7, n_l8, n_l9, n_l10, n_l11, n_l12, n_l13, n_l14, n_l15, n_l16, n_l17, n_l18, n_l19, n_l20, n_l21, n_l22, n_l23, n_l24, n_l25, n_l30, n_l31, n_l33, n_l48, n_l49, n_l57, n_l60, n_l100, n_l114, n_l115, n_l126, n_l200, n_l214, n_l239, n_l264, n_l294, n_l400, n_l1000, n_l1470, n_l5000, n_l1000000, n_o, n_nM, hq]
  rw [r_len hv.1 hv.2, q_bind, if_neg r_n10, if_neg (by decide), if_neg (by decide), if_neg (by decide), if_neg (by decide), if_pos trivial]
  rw [q1_pc hv.2, q_bind]
theorem p1_co0 (hF : 3000 ≤ F) (hI : q_I B y) (hq : q.1 = q_z y) {c : Nat} (hc : c < y 2) : f_X3_courseOf F q (nI c) (nI 0) = some (.inr (nI (y (14 + c)))) := by
  have h2 := hI.2.2.1
  have hl := hI.2.2.2.2.2.2.2.2.2.2.2.2.1 c hc
  unfold f_X3_courseOf
  simp only [n_l0, n_l1, n_l2, n_l3, n_l4, n_l5, n_l6, n_l7, n_l8, n_l9, n_l10, n_l11, n_l12, n_l13, n_l14, n_l15, n_l16, n_l17, n_l18, n_l19, n_l20, n_l21, n_l22, n_l23, n_l24, n_l25, n_l30, n_l31, n_l33, n_l48, n_l49, n_l57, n_l60, n_l100, n_l114, n_l115, n_l126, n_l200, n_l214, n_l239, n_l264, n_l294, n_l400, n_l1000, n_l1470, n_l5000, n_l1000000, n_o, n_nM, hq]
  rw [q1_hc hI (by omega), if_pos hc, q_bind, if_neg r_n10, if_pos trivial]
  rw [q_vAt (by omega) (by omega), q_bind, q_zk]
theorem p1_co1 (hF : 3000 ≤ F) (hI : q_I B y) (hq : q.1 = q_z y) {c : Nat} (hc : c < y 2) : f_X3_courseOf F q (nI c) (nI 1) = some (.inr (nI (q_pl y c))) := by
  have h2 := hI.2.2.1
  have hl := hI.2.2.2.2.2.2.2.2.2.2.2.2.1 c hc
  unfold f_X3_courseOf
  simp only [n_l0, n_l1, n_l2, n_l3, n_l4, n_l5, n_l6, n_l7, n_l8, n_l9, n_l10, n_l11, n_l12, n_l13, n_l14, n_l15, n_l16, n_l17, n_l18, n_l19, n_l20, n_l21, n_l22, n_l23, n_l24, n_l25, n_l30, n_l31, n_l33, n_l48, n_l49, n_l57, n_l60, n_l100, n_l114, n_l115, n_l126, n_l200, n_l214, n_l239, n_l264, n_l294, n_l400, n_l1000, n_l1470, n_l5000, n_l1000000, n_o, n_nM, hq]
  rw [q1_hc hI (by omega), if_pos hc, q_bind, if_neg r_n10, if_neg (by decide), if_pos trivial]
  rw [q1_pl (by omega), q_bind]
theorem p1_co2 (hF : 3000 ≤ F) (hI : q_I B y) (hq : q.1 = q_z y) {c : Nat} (hc : c < y 2) : f_X3_courseOf F q (nI c) (nI 2) = some (.inr (nI (q_in y c))) := by
  have h2 := hI.2.2.1
  have hl := hI.2.2.2.2.2.2.2.2.2.2.2.2.1 c hc
  unfold f_X3_courseOf
  simp only [n_l0, n_l1, n_l2, n_l3, n_l4, n_l5, n_l6, n_l7, n_l8, n_l9, n_l10, n_l11, n_l12, n_l13, n_l14, n_l15, n_l16, n_l17, n_l18, n_l19, n_l20, n_l21, n_l22, n_l23, n_l24, n_l25, n_l30, n_l31, n_l33, n_l48, n_l49, n_l57, n_l60, n_l100, n_l114, n_l115, n_l126, n_l200, n_l214, n_l239, n_l264, n_l294, n_l400, n_l1000, n_l1470, n_l5000, n_l1000000, n_o, n_nM, hq]
  rw [q1_hc hI (by omega), if_pos hc, q_bind, if_neg r_n10, if_neg (by decide), if_neg (by decide), if_pos trivial]
  rw [q1_sl hI hc, q_bind]
theorem p1_co3 (hF : 3000 ≤ F) (hI : q_I B y) (hq : q.1 = q_z y) {c : Nat} (hc : c < y 2) : f_X3_courseOf F q (nI c) (nI 3) = some (.inr (nI (q_ga y (y (14 + c))))) := by
  have h2 := hI.2.2.1
  have hl := hI.2.2.2.2.2.2.2.2.2.2.2.2.1 c hc
  unfold f_X3_courseOf
  simp only [n_l0, n_l1, n_l2, n_l3, n_l4, n_l5, n_l6, n_l7, n_l8, n_l9, n_l10, n_l11, n_l12, n_l13, n_l14, n_l15, n_l16, n_l17, n_l18, n_l19, n_l20, n_l21, n_l22, n_l23, n_l24, n_l25, n_l30, n_l31, n_l33, n_l48, n_l49, n_l57, n_l60, n_l100, n_l114, n_l115, n_l126, n_l200, n_l214, n_l239, n_l264, n_l294, n_l400, n_l1000, n_l1470, n_l5000, n_l1000000, n_o, n_nM, hq]
  rw [q1_hc hI (by omega), if_pos hc, q_bind, if_neg r_n10, if_neg (by decide), if_neg (by decide), if_neg (by decide), if_pos trivial]
  rw [q_vAt (by omega) (by omega), q_bind, q_zk, q1_ga hI ⟨hl.1, hl.2.1⟩, q_bind]
theorem p1_co4 (hF : 3000 ≤ F) (hI : q_I B y) (hq : q.1 = q_z y) {c : Nat} (hc : c < y 2) : f_X3_courseOf F q (nI c) (nI 4) = some (.inr (nI (q_top y (c + 1)))) := by
  have h2 := hI.2.2.1
  have hl := hI.2.2.2.2.2.2.2.2.2.2.2.2.1 c hc
  unfold f_X3_courseOf
  simp only [n_l0, n_l1, n_l2, n_l3, n_l4, n_l5, n_l6, n_l7, n_l8, n_l9, n_l10, n_l11, n_l12, n_l13, n_l14, n_l15, n_l16, n_l17, n_l18, n_l19, n_l20, n_l21, n_l22, n_l23, n_l24, n_l25, n_l30, n_l31, n_l33, n_l48, n_l49, n_l57, n_l60, n_l100, n_l114, n_l115, n_l126, n_l200, n_l214, n_l239, n_l264, n_l294, n_l400, n_l1000, n_l1470, n_l5000, n_l1000000, n_o, n_nM, hq]
  rw [q1_hc hI (by omega), if_pos hc, q_bind, if_neg r_n10, if_neg (by decide), if_neg (by decide), if_neg (by decide), if_neg (by decide), if_pos trivial]
  have ht := q1_top (F := F) hF hI (n := c + 1) (by omega)
  rw [n_sub (by omega), Nat.add_sub_cancel] at ht
  rw [ht, q_bind]
theorem p1_co5 (hF : 3000 ≤ F) (hI : q_I B y) (hq : q.1 = q_z y) {c : Nat} (hc : c < y 2) : f_X3_courseOf F q (nI c) (nI 5) = some (.inr (q_gI (y (114 + c)) (q_pl y c))) := by
  have h2 := hI.2.2.1
  have hl := hI.2.2.2.2.2.2.2.2.2.2.2.2.1 c hc
  unfold f_X3_courseOf
  simp only [n_l0, n_l1, n_l2, n_l3, n_l4, n_l5, n_l6, n_l7, n_l8, n_l9, n_l10, n_l11, n_l12, n_l13, n_l14, n_l15, n_l16, n_l17, n_l18, n_l19, n_l20, n_l21, n_l22, n_l23, n_l24, n_l25, n_l30, n_l31, n_l33, n_l48, n_l49, n_l57, n_l60, n_l100, n_l114, n_l115, n_l126, n_l200, n_l214, n_l239, n_l264, n_l294, n_l400, n_l1000, n_l1470, n_l5000, n_l1000000, n_o, n_nM, hq]
  rw [q1_hc hI (by omega), if_pos hc, q_bind, if_neg r_n10, if_neg (by decide), if_neg (by decide), if_neg (by decide), if_neg (by decide), if_neg (by decide), if_pos trivial]
  rw [q1_fg hF hI hc, q_bind]
theorem p1_co6 (hF : 3000 ≤ F) (hI : q_I B y) (hq : q.1 = q_z y) {c : Nat} (hc : c < y 2) : f_X3_courseOf F q (nI c) (nI 6) = some (.inr (nI (q_lg (y (114 + c)) (q_pl y c)) + nM)) := by
  have h2 := hI.2.2.1
  have hl := hI.2.2.2.2.2.2.2.2.2.2.2.2.1 c hc
  unfold f_X3_courseOf
  simp only [n_l0, n_l1, n_l2, n_l3, n_l4, n_l5, n_l6, n_l7, n_l8, n_l9, n_l10, n_l11, n_l12, n_l13, n_l14, n_l15, n_l16, n_l17, n_l18, n_l19, n_l20, n_l21, n_l22, n_l23, n_l24, n_l25, n_l30, n_l31, n_l33, n_l48, n_l49, n_l57, n_l60, n_l100, n_l114, n_l115, n_l126, n_l200, n_l214, n_l239, n_l264, n_l294, n_l400, n_l1000, n_l1470, n_l5000, n_l1000000, n_o, n_nM, hq]
  rw [q1_hc hI (by omega), if_pos hc, q_bind, if_neg r_n10, if_neg (by decide), if_neg (by decide), if_neg (by decide), if_neg (by decide), if_neg (by decide), if_neg (by decide), if_pos trivial]
  rw [q1_lg hF hI hc, q_bind]
theorem p1_lies (hI : q_I B y) (hq : q.1 = q_z y) {c p : Nat} (hc : c < y 2) (hp : p < q_pl y c) : f_X3_lies F q (nI c) (nI p) = some (.inr (nI (q_b (y (114 + c)) p))) := by
  have h2 := hI.2.2.1
  have h5 := q_pl_le (c := c) hI.2.1.2
  have hb := q_b_le (y (114 + c)) p
  unfold f_X3_lies
  simp only [n_l0, n_l1, n_l2, n_l3, n_l4, n_l5, n_l6, n_l7, n_l8, n_l9, n_l10, n_l11, n_l12, n_l13, n_l14, n_l15, n_l16, n_l17, n_l18, n_l19, n_l20, n_l21, n_l22, n_l23, n_l24, n_l25, n_l30, n_l31, n_l33, n_l48, n_l49, n_l57, n_l60, n_l100, n_l114, n_l115, n_l126, n_l200, n_l214, n_l239, n_l264, n_l294, n_l400, n_l1000, n_l1470, n_l5000, n_l1000000, n_o, n_nM, hq]
  rw [q1_hp hI (by omega) (by omega), if_pos ⟨hc, hp⟩, q_bind, if_neg r_n10, q1_has hI hc (by omega), q_bind]
  refine q_fif ?_
  rcases (show q_b (y (114 + c)) p = 0 ∨ q_b (y (114 + c)) p = 1 by omega) with e | e
  · rw [e]; exact Or.inl rfl
  · rw [e]; exact Or.inr rfl
theorem p1_tt (hF : 3000 ≤ F) (hI : q_I B y) (hq : q.1 = q_z y) {v w : Nat} (hv : 8 ≤ v ∧ v ≤ 24) (hw : w ≤ 1) : f_X3_toTop F q (nI v) (nI w) = some (.inr (if v ≤ q_lo y then (if w = 0 then nI (q_ct y v) else nI (q_pn y (q_ct y v))) else nM)) := by
  have h6 := q_lo_le hI
  have hct := q_ct_le hI hv.1
  have hle := n_le (a := v) (b := q_lo y) (by omega) (by omega)
  have hwe := n_eq (a := w) (b := 0) (by omega) (by omega)
  unfold f_X3_toTop
  simp only [n_l0, n_l1, n_l2, n_l3, n_l4, n_l5, n_l6, n_l7, n_l8, n_l9, n_l10, n_l11, n_l12, n_l13, n_l14, n_l15, n_l16, n_l17, n_l18, n_l19, n_l20, n_l21, n_l22, n_l23, n_l24, n_l25, n_l30, n_l31, n_l33, n_l48, n_l49, n_l57, n_l60, n_l100, n_l114, n_l115, n_l126, n_l200, n_l214, n_l239, n_l264, n_l294, n_l400, n_l1000, n_l1470, n_l5000, n_l1000000, n_o, n_nM, hq]
  rw [r_len hv.1 hv.2, q_bind, if_neg r_n10, r_in1 (by omega) (by omega) hw, q_bind, if_neg r_n10, q1_lo hI, q_bind]
  simp only [hle]
  by_cases e : v ≤ q_lo y
  · rw [if_pos e, if_pos e, q1_ct hF hI hv, q_bind]
    simp only [hwe]
    by_cases e2 : w = 0
    · rw [if_pos e2, if_pos e2]
    · rw [if_neg e2, if_neg e2, q1_pn hI hct, q_bind]
  · rw [if_neg e, if_neg e]
theorem p1_best (hF : 3000 ≤ F) (hI : q_I B y) (hq : q.1 = q_z y) : ∃ r, f_X3_bestLength F q = some r ∧ (q_top y (y 2) < y 0 → ∃ b, r = nI b ∧ q_best y 8 (q_lo y) b) ∧ (¬ q_top y (y 2) < y 0 → r = nM) := by
  have h6 := q_lo_le hI
  unfold f_X3_bestLength
  simp only [n_l0, n_l1, n_l2, n_l3, n_l4, n_l5, n_l6, n_l7, n_l8, n_l9, n_l10, n_l11, n_l12, n_l13, n_l14, n_l15, n_l16, n_l17, n_l18, n_l19, n_l20, n_l21, n_l22, n_l23, n_l24, n_l25, n_l30, n_l31, n_l33, n_l48, n_l49, n_l57, n_l60, n_l100, n_l114, n_l115, n_l126, n_l200, n_l214, n_l239, n_l264, n_l294, n_l400, n_l1000, n_l1470, n_l5000, n_l1000000, n_o, n_nM, hq]
  rw [q1_high hF hI, q_bind]
  by_cases e : q_top y (y 2) < y 0
  · rw [if_pos e, if_pos rfl, q1_lo hI, q_bind]
    obtain ⟨G, rfl⟩ : ∃ G, F = G + 1 := ⟨F - 1, by omega⟩
    have cl := q_co_le hI (v := q_lo y) (by omega) (by omega)
    obtain ⟨l, hl⟩ : ∃ l, q_lo y = l + 1 := ⟨q_lo y - 1, by omega⟩
    have h1 : f_X3_bestLength_L24 (G + 1) q (G + 1) nM (nI 0) (nI (q_lo y)) = f_X3_bestLength_L24 (G + 1) q G (nI (q_lo y)) (nI (q_co y (q_lo y))) (nI l) := by
      conv => lhs; unfold f_X3_bestLength_L24
      simp (disch := first | omega | assumption) only [n_l0, n_l1, n_l2, n_l3, n_l4, n_l5, n_l6, n_l7, n_l8, n_l9, n_l10, n_l11, n_l12, n_l13, n_l14, n_l15, n_l16, n_l17, n_l18, n_l19, n_l20, n_l21, n_l22, n_l23, n_l24, n_l25, n_l30, n_l31, n_l33, n_l48, n_l49, n_l57, n_l60, n_l100, n_l114, n_l115, n_l126, n_l200, n_l214, n_l239, n_l264, n_l294, n_l400, n_l1000, n_l1470, n_l5000, n_l1000000, n_o, n_nM, n_lt]
      rw [if_neg (by omega), hq, q1_ct hF hI ⟨by omega, by omega⟩, q_bind, q1_pn hI (q_ct_le hI (by omega)), q_bind, q1_pc (by omega), q_bind, n_mul, if_pos trivial, hl, n_sM]
      rfl
    obtain ⟨b1, o1, hb1, hB1⟩ := q1_btL (F := G + 1) hF hI hq G l (q_lo y) (by omega) (by omega) (by omega) ⟨by omega, by omega, fun v a c => by rw [show v = q_lo y by omega]; exact Nat.le_refl _, fun v a c => by omega⟩
    rw [h1, hb1, q_bind]
    exact ⟨_, rfl, fun _ => ⟨b1, rfl, hB1⟩, fun n => absurd e n⟩
  · rw [if_neg e, if_neg (by decide)]
    exact ⟨nM, rfl, fun n => absurd n e, fun _ => rfl⟩
theorem p1_mean (hF : 3000 ≤ F) (hI : q_I B y) (hB : B + 20000 ≤ 1000000000) (hq : q.1 = q_z y) : f_X3_meanPrice F q = some (if q_on y + y 12 = 0 then FP.dconst0 else FP.ddiv (FP.i2d (nI (y 13))) (FP.i2d (nI (q_on y + y 12)))) ∧ (q_on y + y 12 ≠ 0 → isNaN64 (FP.ddiv (FP.i2d (nI (y 13))) (FP.i2d (nI (q_on y + y 12)))) = false) := by
  have hon := q_on_le hI
  have h12 := hI.2.2.2.2.2.2.2.2.2.2.1
  have h13 := hI.2.2.2.2.2.2.2.2.2.2.2.1
  have hnn : q_on y + y 12 ≠ 0 → isNaN64 (FP.ddiv (FP.i2d (nI (y 13))) (FP.i2d (nI (q_on y + y 12)))) = false := by
    intro hne
    by_cases e : y 13 = 0
    · rw [e, q_quo0 (by omega) (by omega)]; decide +kernel
    · obtain ⟨c, qq, g1, g2⟩ := q_quo (n1 := y 13) (n2 := q_on y + y 12) (by omega) (by omega) (by omega) (by omega)
      rw [g2]
      exact q_nn (q_Dv g1)
  refine ⟨?_, hnn⟩
  unfold f_X3_meanPrice
  simp only [n_l0, n_l1, n_l2, n_l3, n_l4, n_l5, n_l6, n_l7, n_l8, n_l9, n_l10, n_l11, n_l12, n_l13, n_l14, n_l15, n_l16, n_l17, n_l18, n_l19, n_l20, n_l21, n_l22, n_l23, n_l24, n_l25, n_l30, n_l31, n_l33, n_l48, n_l49, n_l57, n_l60, n_l100, n_l114, n_l115, n_l126, n_l200, n_l214, n_l239, n_l264, n_l294, n_l400, n_l1000, n_l1470, n_l5000, n_l1000000, n_o, n_nM, hq]
  rw [q1_on hF hI, q_bind]
  simp (disch := first | omega | assumption) only [q_zk, n_add, n_lt]
  by_cases e : q_on y + y 12 = 0
  · rw [if_neg (by omega), if_pos e]
  · rw [if_pos (by omega), if_neg e, q_fif (hnn e)]
end RQ
