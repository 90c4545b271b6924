/-! what there is: courseOf, lies, slates, count, toTop -/
section RR
variable {B F : Nat} {y : Nat → Nat} {q : d_C} {M : d_M}
theorem q_wn2 {a : Int32} {lo hi : Nat} (h : lo ≤ hi) (hh : hi < 2147483648) : (f_X3_isWithin F a (nI lo) (nI hi) = some (nI 0) ∧ ∀ j, lo ≤ j → j ≤ hi → ¬ a = nI j) ∨ ∃ j, a = nI j ∧ lo ≤ j ∧ j ≤ hi ∧ f_X3_isWithin F a (nI lo) (nI hi) = some (nI 1) := by
  rcases q_wn (F := F) (a := a) h hh with e | e
  · left
    refine ⟨e, fun j h1 h2 q => ?_⟩
    rw [q, q_within (by omega) (by omega) hh, if_pos ⟨h1, h2⟩] at e
    exact absurd e (by decide)
  · exact Or.inr e
end RR
