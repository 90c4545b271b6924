/-! digest: the rest -/
section RR
variable {B F : Nat} {y : Nat → Nat} {M M0 : d_M} {h : Int64}
theorem q_hr_s {M' : d_M} (r : q_hr M0 M h) (s : q_sm M M') : q_hr M0 M' h := by
  obtain ⟨a, b, c, d, e, f, g⟩ := r
  obtain ⟨s1, s2, s3, s4, s5, s6, s7⟩ := s
  exact ⟨s1.trans a, s2.trans b, s3.trans c, s4.trans d, s5.trans e, s6.trans f, s7.trans g⟩
end RR
