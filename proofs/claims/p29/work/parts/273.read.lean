/-! what the class and the check read -/
theorem q_vAt {na : Nat} {f : d_Z} {c : Nat} {F : Nat} (h : c < na) (hn : na < 2147483648) : f_X3_valueAt F na f (nI c) = some (f c) := by
  unfold f_X3_valueAt
  simp (disch := first | omega | assumption) only [n_l0, n_l1, n_l2, n_l3, n_l4, n_l5, n_l6, n_l7, n_l8, n_l9, n_l10, n_l11, n_l12, n_l13, n_l14, n_l15, n_l16, n_l17, n_l18, n_l19, n_l20, n_l21, n_l22, n_l23, n_l24, n_l25, n_l30, n_l31, n_l33, n_l48, n_l49, n_l57, n_l60, n_l100, n_l114, n_l115, n_l126, n_l200, n_l214, n_l239, n_l264, n_l294, n_l400, n_l1000, n_l1470, n_l5000, n_l1000000, n_o, n_nM, n_lt, n_le, q_g, n_C]
  rw [if_neg (by omega), if_neg (by omega)]
theorem q_aAt {na : Nat} {y : Nat → Nat} {off c F : Nat} {x : Int32} (h : c < na) (hn : na < 2147483648) : f_X3_addAt F na (fun k => q_z y (off + k)) (nI c) x = some (upd (fun k => q_z y (off + k)) c (nI (y (off + c)) + x)) := by
  unfold f_X3_addAt
  simp (disch := first | omega | assumption) only [n_l0, n_l1, n_l2, n_l3, n_l4, n_l5, n_l6, n_l7, n_l8, n_l9, n_l10, n_l11, n_l12, n_l13, n_l14, n_l15, n_l16, n_l17, n_l18, n_l19, n_l20, n_l21, n_l22, n_l23, n_l24, n_l25, n_l30, n_l31, n_l33, n_l48, n_l49, n_l57, n_l60, n_l100, n_l114, n_l115, n_l126, n_l200, n_l214, n_l239, n_l264, n_l294, n_l400, n_l1000, n_l1470, n_l5000, n_l1000000, n_o, n_nM, n_lt, n_le, q_g, n_C, q_let, q_zk]
  rw [if_neg (by omega), if_neg (by omega)]
section RD
variable {B F : Nat} {y : Nat → Nat} {M : d_M}
theorem q1_pl {c : Nat} (hc : c ≤ 100) : f_X1_placesOf F (q_z y) (nI c) = some (nI (q_pl y c)) := by
  unfold f_X1_placesOf q_pl
  simp (disch := first | omega | assumption) only [n_l0, n_l1, n_l2, n_l3, n_l4, n_l5, n_l6, n_l7, n_l8, n_l9, n_l10, n_l11, n_l12, n_l13, n_l14, n_l15, n_l16, n_l17, n_l18, n_l19, n_l20, n_l21, n_l22, n_l23, n_l24, n_l25, n_l30, n_l31, n_l33, n_l48, n_l49, n_l57, n_l60, n_l100, n_l114, n_l115, n_l126, n_l200, n_l214, n_l239, n_l264, n_l294, n_l400, n_l1000, n_l1470, n_l5000, n_l1000000, n_o, n_nM, n_mod, n_eq, q_zk, n_add]
  by_cases h : c % 2 = 0
  · rw [if_pos h, h]; rfl
  · rw [if_neg h, show c % 2 = 1 by omega]
theorem q1_has {c p : Nat} (hI : q_I B y) (hc : c < y 2) (hp : p < 32) : f_X1_hasSlate F (q_z y) (nI c) (nI p) = some (nI (q_b (y (114 + c)) p)) := by
  have h2 := hI.2.2.1
  have hb := q_w hI.2.1.2 (hI.2.2.2.2.2.2.2.2.2.2.2.2.1 c hc).2.2
  have h1 : y (114 + c) / 2 ^ p < 2147483648 := Nat.lt_of_le_of_lt (Nat.div_le_self _ _) hb
  unfold f_X1_hasSlate
  rw [q_vAt (by omega) (by omega)]
  simp (disch := first | omega | assumption) only [n_l0, n_l1, n_l2, n_l3, n_l4, n_l5, n_l6, n_l7, n_l8, n_l9, n_l10, n_l11, n_l12, n_l13, n_l14, n_l15, n_l16, n_l17, n_l18, n_l19, n_l20, n_l21, n_l22, n_l23, n_l24, n_l25, n_l30, n_l31, n_l33, n_l48, n_l49, n_l57, n_l60, n_l100, n_l114, n_l115, n_l126, n_l200, n_l214, n_l239, n_l264, n_l294, n_l400, n_l1000, n_l1470, n_l5000, n_l1000000, n_o, n_nM, q_bind, q_zk, n_ushr, n_and, n_eq, Nat.and_one_is_mod]
  have h3 := q_b_le (y (114 + c)) p
  unfold q_b at *
  by_cases h : y (114 + c) / 2 ^ p % 2 = 1
  · rw [if_pos h, h]
  · rw [if_neg h, show y (114 + c) / 2 ^ p % 2 = 0 by omega]
end RD
