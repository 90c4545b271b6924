/-! mend, course -/
section RR
variable {B F : Nat} {y : Nat → Nat} {q : d_C} {M : d_M}
theorem q1_cm2 {c p : Nat} (hI : q_I B y) (hc : c < y 2) (hp : p < q_pl y c) (hb : q_b (y (114 + c)) p ≠ 0) : f_X1_canMend F (q_z y) (nI c) (nI p) = some (nI 0) := by
  have h2 := hI.2.2.1
  have h5 := q_pl_le (c := c) hI.2.1.2
  have hbl := q_b_le (y (114 + c)) p
  unfold f_X1_canMend
  rw [q1_hp hI (by omega) (by omega), if_pos ⟨hc, hp⟩, q_bind, if_neg (by decide), q1_has hI hc (by omega), show q_b (y (114 + c)) p = 1 by omega, q_bind, if_neg (by decide)]; rfl
end RR
