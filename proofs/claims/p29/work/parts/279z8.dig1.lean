/-! digest: the loops -/
section RR
variable {B F : Nat} {y : Nat → Nat} {q : d_C} {M M0 : d_M} {h : Int64}
def q_hr (M0 M : d_M) (h : Int64) : Prop := m_z M = m_z M0 ∧ m_rows M = m_rows M0 ∧ m_text M = m_text M0 ∧ m_saved M = m_saved M0 ∧ m_length M = m_length M0 ∧ m_thrown M = m_thrown M0 ∧ m_h M = h
theorem q_nt {α β γ : Type} (a : α) (k : α → Option β) : f_nt (some (.inr a : γ ⊕ α)) k = k a := Eq.symm (Eq.symm (Eq.refl _))
theorem q_hr_m (r : q_hr M0 M h) (x : Int64) : q_hr M0 (ms_h M ((((31 : Int64)) * (m_h M)) + x)) ((((31 : Int64)) * h) + x) := by
  obtain ⟨a, b, c, d, e, f, g⟩ := r
  subst g
  exact ⟨a, b, c, d, e, f, rfl⟩
end RR
