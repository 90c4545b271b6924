/-! tops, sums over courses, done -/
section RD
variable {B F : Nat} {y : Nat → Nat} {M : d_M}
theorem q1_ga {v : Nat} (hI : q_I B y) (hv : 8 ≤ v ∧ v ≤ 24) : f_X1_gaugeOf F (q_z y) (nI v) = some (nI (q_ga y v)) := by
  have h3 := hI.2.2.2.1
  unfold f_X1_gaugeOf q_ga
  simp (disch := first | omega | assumption) only [n_l0, n_l1, n_l2, n_l3, n_l4, n_l5, n_l6, n_l7, n_l8, n_l9, n_l10, n_l11, n_l12, n_l13, n_l14, n_l15, n_l16, n_l17, n_l18, n_l19, n_l20, n_l21, n_l22, n_l23, n_l24, n_l25, n_l30, n_l31, n_l33, n_l48, n_l49, n_l57, n_l60, n_l100, n_l114, n_l115, n_l126, n_l200, n_l214, n_l239, n_l264, n_l294, n_l400, n_l1000, n_l1470, n_l5000, n_l1000000, n_o, n_nM, q_zk, n_sub, n_div]
theorem q1_top (hF : 3000 ≤ F) (hI : q_I B y) {n : Nat} (hn : n ≤ y 2) : f_X1_topOf F (q_z y) (nI n - nI 1) = some (nI (q_top y n)) := by
  have h2 := hI.2.2.1
  have hl := hI.2.2.2.2.2.2.2.2.2.2.2.2.1
  unfold f_X1_topOf q_top
  have key := q_accum (f_X1_topOf_L4 F (q_z y) (nI n - nI 1)) (fun c => q_ga y (y (14 + c))) n (fun k a => by
    unfold f_X1_topOf_L4
    cases n with
    | zero =>
      rw [n_0M]
      simp (disch := first | omega | assumption) only [n_Mlt, if_true]
    | succ n =>
      rw [n_sub (by omega)]
      simp (disch := first | omega | assumption) only [n_lt]
      exact if_pos (by omega)) (fun k a i hi => by
    conv => lhs; unfold f_X1_topOf_L4
    rw [n_sub (by omega)]
    simp (disch := first | omega | assumption) only [n_lt, n_le, q_zk]
    rw [if_neg (by omega), if_neg (by omega), q_vAt (by omega) (by omega)]
    rw [q_bind, q1_ga hI ⟨(hl i (by omega)).1, (hl i (by omega)).2.1⟩]
    simp (disch := first | omega | assumption) only [q_bind, n_l0, n_l1, n_l2, n_l3, n_l4, n_l5, n_l6, n_l7, n_l8, n_l9, n_l10, n_l11, n_l12, n_l13, n_l14, n_l15, n_l16, n_l17, n_l18, n_l19, n_l20, n_l21, n_l22, n_l23, n_l24, n_l25, n_l30, n_l31, n_l33, n_l48, n_l49, n_l57, n_l60, n_l100, n_l114, n_l115, n_l126, n_l200, n_l214, n_l239, n_l264, n_l294, n_l400, n_l1000, n_l1470, n_l5000, n_l1000000, n_o, n_nM, n_add]) F 0 (by omega) (by omega)
  rw [show ((0 : Int32)) = nI 0 from rfl]
  rw [show q_sum (fun c => q_ga y (y (14 + c))) 0 = 0 from rfl] at key
  rw [key]; rfl
theorem q_top_le (hI : q_I B y) {n : Nat} (hn : n ≤ y 2) : q_top y n ≤ 1200 := by
  have h2 := hI.2.2.1
  have hl := hI.2.2.2.2.2.2.2.2.2.2.2.2.1
  have := q_sum_le (f := fun c => q_ga y (y (14 + c))) (b := 12) (n := n) (fun k hk => q_ga_le (hl k (by omega)).2.1)
  unfold q_top; omega
theorem q1_high (hF : 3000 ≤ F) (hI : q_I B y) : f_X1_isHighEnough F (q_z y) = some (if q_top y (y 2) < y 0 then nI 0 else nI 1) := by
  have h1 := hI.1
  have h2 := q_top_le hI (Nat.le_refl _)
  unfold f_X1_isHighEnough
  simp only [q_zk, n_l0, n_l1, n_l2, n_l3, n_l4, n_l5, n_l6, n_l7, n_l8, n_l9, n_l10, n_l11, n_l12, n_l13, n_l14, n_l15, n_l16, n_l17, n_l18, n_l19, n_l20, n_l21, n_l22, n_l23, n_l24, n_l25, n_l30, n_l31, n_l33, n_l48, n_l49, n_l57, n_l60, n_l100, n_l114, n_l115, n_l126, n_l200, n_l214, n_l239, n_l264, n_l294, n_l400, n_l1000, n_l1470, n_l5000, n_l1000000, n_o, n_nM]
  rw [q1_top hF hI (Nat.le_refl _)]
  simp (disch := first | omega | assumption) only [q_bind, n_lt]
  split <;> rfl
theorem q1_on (hF : 3000 ≤ F) (hI : q_I B y) : f_X1_slatesOnRoof F (q_z y) = some (nI (q_on y)) := by
  have h2 := hI.2.2.1
  unfold f_X1_slatesOnRoof q_on
  have key := q_accum (f_X1_slatesOnRoof_L4 F (q_z y)) (q_in y) (y 2) (fun k a => by
    unfold f_X1_slatesOnRoof_L4
    simp (disch := first | omega | assumption) only [n_le, q_zk]
    exact if_pos (by omega)) (fun k a i hi => by
    conv => lhs; unfold f_X1_slatesOnRoof_L4
    simp (disch := first | omega | assumption) only [n_le, q_zk]
    rw [if_neg (by omega), q1_sl hI hi]
    simp (disch := first | omega | assumption) only [q_bind, n_l0, n_l1, n_l2, n_l3, n_l4, n_l5, n_l6, n_l7, n_l8, n_l9, n_l10, n_l11, n_l12, n_l13, n_l14, n_l15, n_l16, n_l17, n_l18, n_l19, n_l20, n_l21, n_l22, n_l23, n_l24, n_l25, n_l30, n_l31, n_l33, n_l48, n_l49, n_l57, n_l60, n_l100, n_l114, n_l115, n_l126, n_l200, n_l214, n_l239, n_l264, n_l294, n_l400, n_l1000, n_l1470, n_l5000, n_l1000000, n_o, n_nM, n_add]) F 0 (by omega) (by omega)
  rw [show ((0 : Int32)) = nI 0 from rfl]
  rw [show q_sum (q_in y) 0 = 0 from rfl] at key
  rw [key]; rfl
theorem q1_gp (hF : 3000 ≤ F) (hI : q_I B y) : f_X1_gapsOnRoof F (q_z y) = some (nI (q_gp y)) := by
  have h2 := hI.2.2.1
  unfold f_X1_gapsOnRoof q_gp
  have key := q_accum (f_X1_gapsOnRoof_L4 F (q_z y)) (fun c => q_pl y c - q_in y c) (y 2) (fun k a => by
    unfold f_X1_gapsOnRoof_L4
    simp (disch := first | omega | assumption) only [n_le, q_zk]
    exact if_pos (by omega)) (fun k a i hi => by
    conv => lhs; unfold f_X1_gapsOnRoof_L4
    simp (disch := first | omega | assumption) only [n_le, q_zk]
    rw [if_neg (by omega), q1_sl hI hi, q1_pl (by omega)]
    have h3 := q_in_le y i
    simp (disch := first | omega | assumption) only [q_bind, n_l0, n_l1, n_l2, n_l3, n_l4, n_l5, n_l6, n_l7, n_l8, n_l9, n_l10, n_l11, n_l12, n_l13, n_l14, n_l15, n_l16, n_l17, n_l18, n_l19, n_l20, n_l21, n_l22, n_l23, n_l24, n_l25, n_l30, n_l31, n_l33, n_l48, n_l49, n_l57, n_l60, n_l100, n_l114, n_l115, n_l126, n_l200, n_l214, n_l239, n_l264, n_l294, n_l400, n_l1000, n_l1470, n_l5000, n_l1000000, n_o, n_nM, n_add, n_sub]) F 0 (by omega) (by omega)
  rw [show ((0 : Int32)) = nI 0 from rfl]
  rw [show q_sum (fun c => q_pl y c - q_in y c) 0 = 0 from rfl] at key
  rw [key]; rfl
theorem q_on_le (hI : q_I B y) : q_on y ≤ 3100 := by
  have h2 := hI.2.2.1
  have := q_sum_le (f := q_in y) (b := 31) (n := y 2) (fun k hk => Nat.le_trans (q_in_le y k) (q_pl_le hI.2.1.2))
  unfold q_on; omega
theorem q_gp_le (hI : q_I B y) : q_gp y ≤ 3100 := by
  have h2 := hI.2.2.1
  have := q_sum_le (f := fun c => q_pl y c - q_in y c) (b := 31) (n := y 2) (fun k hk => by have := q_pl_le (c := k) hI.2.1.2; show q_pl y k - q_in y k ≤ 31; omega)
  unfold q_gp; omega
def q_dn (y : Nat → Nat) : Nat := if y 0 ≤ q_top y (y 2) ∧ q_gp y = 0 then 1 else 0
theorem q1_done (hF : 3000 ≤ F) (hI : q_I B y) : f_X1_isDone F (q_z y) = some (nI (q_dn y)) := by
  have h4 := q_gp_le hI
  unfold f_X1_isDone q_dn
  rw [q1_high hF hI, q_bind]
  by_cases e : q_top y (y 2) < y 0
  · rw [if_pos e, if_neg (c := _ ∧ _) (by omega)]; rfl
  · rw [if_neg e, q1_gp hF hI]
    simp (disch := first | omega | assumption) only [q_bind, n_l0, n_l1, n_l2, n_l3, n_l4, n_l5, n_l6, n_l7, n_l8, n_l9, n_l10, n_l11, n_l12, n_l13, n_l14, n_l15, n_l16, n_l17, n_l18, n_l19, n_l20, n_l21, n_l22, n_l23, n_l24, n_l25, n_l30, n_l31, n_l33, n_l48, n_l49, n_l57, n_l60, n_l100, n_l114, n_l115, n_l126, n_l200, n_l214, n_l239, n_l264, n_l294, n_l400, n_l1000, n_l1470, n_l5000, n_l1000000, n_o, n_nM, n_eq]
    by_cases e2 : q_gp y = 0
    · rw [if_neg (by omega), if_pos e2, if_pos ⟨by omega, e2⟩]
    · rw [if_neg (by omega), if_neg e2, if_neg (fun q => e2 q.2)]
end RD
