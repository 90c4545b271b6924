/-! saved states: the class's ring, the check's rows -/
def q_sv (v : d_S) (M : d_M) (m : Nat) (S : Nat → Nat → Nat) : Prop := m ≤ 6 ∧ m_saved M = nI m ∧ v.2.2 = nI m ∧ (∃ o, o < 6 ∧ v.2.1 = nI o ∧ ∀ k, k < m → v.1 ((o + k) % 6) = q_z (S k)) ∧ ∀ k, k < m → ∀ j, j < 294 → m_rows M (294 * k + j) = nI (S k j)
def q_S1s (m : Nat) (S : Nat → Nat → Nat) (y : Nat → Nat) : Nat → Nat → Nat := fun k => if m < 6 then (if k = m then y else S k) else (if k = 5 then y else S (k + 1))
def q_m1 (m : Nat) : Nat := if m < 6 then m + 1 else 6
section RS
variable {B F : Nat} {y : Nat → Nat} {M : d_M}
theorem q1_keep {q : d_C} {m : Nat} {S : Nat → Nat → Nat} (hI : q_I B y) (hq : q.1 = q_z y) (hS : q_sv q.2.2.1 M m S) : ∃ v : d_S, f_X2_keep F q = some (q.1, q.2.1, v, q.2.2.2) ∧ v.2.2 = nI (q_m1 m) ∧ ∃ o, o < 6 ∧ v.2.1 = nI o ∧ ∀ k, k < q_m1 m → v.1 ((o + k) % 6) = q_z (q_S1s m S y k) := by
  obtain ⟨h1, -, h2, ⟨o, h3, h4, h5⟩, -⟩ := hS
  obtain ⟨z, tr, ⟨ring, old, many⟩, t⟩ := q
  have hq' : z = q_z y := hq
  subst hq'
  have e1 : old = nI o := h4
  have e2 : many = nI m := h2
  subst e1
  subst e2
  have hi : (nI o + nI m) - (nI o + nI m) / nI 6 * nI 6 = nI ((o + m) % 6) := by rw [n_add, n_mod (by omega) (by omega) (by omega)]
  have hi2 : (nI o + nI 1) - (nI o + nI 1) / nI 6 * nI 6 = nI ((o + 1) % 6) := by rw [n_add, n_mod (by omega) (by omega) (by omega)]
  unfold f_X2_keep
  simp only [n_l0, n_l1, n_l2, n_l3, n_l4, n_l5, n_l6, n_l7, n_l8, n_l9, n_l10, n_l11, n_l12, n_l13, n_l14, n_l15, n_l16, n_l17, n_l18, n_l19, n_l20, n_l21, n_l22, n_l23, n_l24, n_l25, n_l30, n_l31, n_l33, n_l48, n_l49, n_l57, n_l60, n_l100, n_l114, n_l115, n_l126, n_l200, n_l214, n_l239, n_l264, n_l294, n_l400, n_l1000, n_l1470, n_l5000, n_l1000000, n_o, n_nM, hi, hi2]
  simp (disch := first | omega | assumption) only [q_g, n_C, q_let, n_le]
  have hcv : q_z y 9 = nI 0 ∨ q_z y 9 = nI 1 := q_cov hI
  rw [q_fif hcv]
  by_cases e : m < 6
  · refine ⟨(va_up ring ((o + m) % 6) (q_z y), nI o, nI (m + 1)), ?_, ?_, o, h3, rfl, fun k hk => ?_⟩
    · rw [if_neg (by omega), n_add]
    · show nI (m + 1) = nI (q_m1 m)
      unfold q_m1; rw [if_pos e]
    · have hk2 : k < m + 1 := by unfold q_m1 at hk; rw [if_pos e] at hk; exact hk
      show va_up ring ((o + m) % 6) (q_z y) ((o + k) % 6) = q_z (q_S1s m S y k)
      unfold va_up q_S1s
      rw [if_pos e]
      by_cases ek : k = m
      · rw [if_pos (by rw [ek]), if_pos ek]
      · rw [if_neg (by omega), if_neg ek]; exact h5 k (by omega)
  · have hm : m = 6 := by omega
    subst hm
    refine ⟨(va_up ring ((o + 6) % 6) (q_z y), nI ((o + 1) % 6), nI 6), ?_, rfl, (o + 1) % 6, by omega, rfl, fun k hk => ?_⟩
    · rw [if_pos (by omega), hi2]
    · have hk2 : k < 6 := hk
      show va_up ring ((o + 6) % 6) (q_z y) (((o + 1) % 6 + k) % 6) = q_z (q_S1s 6 S y k)
      unfold va_up q_S1s
      rw [if_neg e]
      by_cases ek : k = 5
      · rw [if_pos (by omega), if_pos ek]
      · rw [if_neg (by omega), if_neg ek, show ((o + 1) % 6 + k) % 6 = (o + (k + 1)) % 6 by omega]; exact h5 (k + 1) (by omega)
end RS
