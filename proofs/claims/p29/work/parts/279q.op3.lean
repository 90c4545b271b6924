/-! append, undo -/
section RR
variable {B F : Nat} {y : Nat → Nat} {q : d_C} {M : d_M}
theorem q_ch16 : ∀ j, j < 128 → ((nI j).toUInt32 % 65536).toInt32 = nI j := by decide +kernel
end RR
