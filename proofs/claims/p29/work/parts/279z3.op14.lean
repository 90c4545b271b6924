/-! lay -/
section RR
variable {B F : Nat} {y : Nat → Nat} {q : d_C} {M : d_M}
theorem q_bset_p {b p : Nat} (h : q_b b p = 0) : q_b (b + 2 ^ p) p = 1 := by
  unfold q_b at h ⊢
  rw [Nat.add_div_right _ (Nat.two_pow_pos p)]
  omega
theorem q_ly_in {c p : Nat} (hp : p < q_pl y c) (hb : q_b (y (114 + c)) p = 0) (hI : q_I B y) (hc : c < y 2) : q_in (q_ly y c p 1) c = q_in y c + 1 ∧ q_pl (q_ly y c p 1) c = q_pl y c ∧ q_ly y c p 1 2 = y 2 ∧ q_ly y c p 1 (14 + c) = y (14 + c) ∧ q_ly y c p 1 (214 + y (14 + c)) = y (214 + y (14 + c)) - 1 ∧ q_ly y c p 1 7 = y 7 - 1 := by
  have h2 := hI.2.2.1
  have hl := hI.2.2.2.2.2.2.2.2.2.2.2.2.1 c hc
  have e1 : q_ly y c p 1 1 = y 1 := q_ly_o (by omega) (by omega) (by omega)
  have e2 : q_ly y c p 1 2 = y 2 := q_ly_o (by omega) (by omega) (by omega)
  have e3 : q_ly y c p 1 (14 + c) = y (14 + c) := q_ly_o (by omega) (by omega) (by omega)
  have e4 : q_ly y c p 1 (114 + c) = y (114 + c) + 2 ^ p := by unfold q_ly; rw [q_u_ne (by omega), q_u_ne (by omega), q_u_eq]
  have e5 : q_ly y c p 1 (214 + y (14 + c)) = y (214 + y (14 + c)) - 1 := by unfold q_ly; rw [q_u_ne (by omega), q_u_eq]
  have e6 : q_ly y c p 1 7 = y 7 - 1 := q_u_eq
  have ep : q_pl (q_ly y c p 1) c = q_pl y c := by unfold q_pl; rw [e1]
  refine ⟨?_, ep, e2, e3, e5, e6⟩
  unfold q_in
  rw [ep, e4]
  exact q_sum_u hp (fun k hk hn => q_bset_ne hb hn) (by rw [q_bset_p hb, hb])
def q_lz (c : Nat) : Nat → (Nat → Nat) → (Nat → Nat)
  | 0, y => y
  | k + 1, y => q_lz c k (q_ly y c (q_g0 y c) 1)
end RR
