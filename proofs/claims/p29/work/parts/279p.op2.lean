/-! set, cover, setting, clearBuffer, firstError, bestLength, dryDays, reach -/
section RR
variable {B F : Nat} {y : Nat → Nat} {q : d_C} {M : d_M}
theorem q_set_y {k v : Nat} (hI : q_I B y) (hB : B + 20000 ≤ 1000000000) (hk : k = 3 ∧ 2 ≤ v ∧ v ≤ 6 ∨ k = 4 ∧ 1 ≤ v ∧ v ≤ 60 ∨ k = 5 ∧ 1 ≤ v ∧ v ≤ 5) : q_I (B + 20000) (q_u y k v) := q_set_I hI (by omega) hB (by omega)
end RR
