/-! to the top, the best length -/
def q_ct (y : Nat → Nat) (v : Nat) : Nat := if q_top y (y 2) < y 0 then (y 0 - q_top y (y 2) + q_ga y v - 1) / q_ga y v else 0
def q_pn (y : Nat → Nat) (k : Nat) : Nat := k * y 1 + ((y 2 + k) / 2 - y 2 / 2)
def q_pc (v : Nat) : Nat := v * v / 16
def q_co (y : Nat → Nat) (v : Nat) : Nat := q_pn y (q_ct y v) * q_pc v
section RD
variable {B F : Nat} {y : Nat → Nat} {M : d_M}
theorem q_ga_pos (hI : q_I B y) {v : Nat} (hv : 8 ≤ v) : 1 ≤ q_ga y v := by
  have h3 := hI.2.2.2.1
  unfold q_ga; omega
theorem q_ct_lt (hI : q_I B y) {v k : Nat} (hv : 8 ≤ v) : (q_top y (y 2) + k * q_ga y v < y 0) = (k < q_ct y v) := by
  apply propext
  have hg := q_ga_pos hI hv
  unfold q_ct
  by_cases e : q_top y (y 2) < y 0
  · rw [if_pos e]
    show _ ↔ k + 1 ≤ _
    rw [Nat.le_div_iff_mul_le (by omega), Nat.add_mul, Nat.one_mul]
    omega
  · rw [if_neg e]; omega
theorem q_ct_le (hI : q_I B y) {v : Nat} (hv : 8 ≤ v) : q_ct y v ≤ 400 := by
  have h0 := hI.1
  have hg := q_ga_pos hI hv
  rcases Nat.lt_or_ge 400 (q_ct y v) with h | h
  · rw [← q_ct_lt hI hv] at h
    have : 400 * 1 ≤ 400 * q_ga y v := Nat.mul_le_mul_left 400 hg
    omega
  · exact h
theorem q_pn_le (hI : q_I B y) {k : Nat} (hk : k ≤ 400) : q_pn y k ≤ 12300 := by
  have h1 := hI.2.1
  have : k * y 1 ≤ 400 * 30 := Nat.mul_le_mul hk h1.2
  unfold q_pn; omega
theorem q_pc_le {v : Nat} (hv : v ≤ 24) : q_pc v ≤ 36 := by
  have : v * v ≤ 24 * 24 := Nat.mul_le_mul hv hv
  unfold q_pc; omega
theorem q_co_le (hI : q_I B y) {v : Nat} (hv : 8 ≤ v) (hv2 : v ≤ 24) : q_co y v ≤ 500000 := by
  have := Nat.mul_le_mul (q_pn_le hI (q_ct_le hI hv)) (q_pc_le hv2)
  unfold q_co; omega
theorem q1_pc {v : Nat} (hv : v ≤ 24) : f_X3_priceOf F (nI v) = some (nI (q_pc v)) := by
  have : v * v ≤ 24 * 24 := Nat.mul_le_mul hv hv
  unfold f_X3_priceOf q_pc
  simp (disch := first | omega | assumption) only [n_l0, n_l1, n_l2, n_l3, n_l4, n_l5, n_l6, n_l7, n_l8, n_l9, n_l10, n_l11, n_l12, n_l13, n_l14, n_l15, n_l16, n_l17, n_l18, n_l19, n_l20, n_l21, n_l22, n_l23, n_l24, n_l25, n_l30, n_l31, n_l33, n_l48, n_l49, n_l57, n_l60, n_l100, n_l114, n_l115, n_l126, n_l200, n_l214, n_l239, n_l264, n_l294, n_l400, n_l1000, n_l1470, n_l5000, n_l1000000, n_o, n_nM, n_mul, n_div]
theorem q1_ct (hF : 3000 ≤ F) (hI : q_I B y) {v : Nat} (hv : 8 ≤ v ∧ v ≤ 24) : f_X1_coursesToTop F (q_z y) (nI v) = some (nI (q_ct y v)) := by
  have h0 := hI.1
  have ht := q_top_le hI (Nat.le_refl _)
  have hg := q_ga_pos hI hv.1
  have hg2 := q_ga_le (y := y) hv.2
  unfold f_X1_coursesToTop q_ct
  simp only [n_l0, n_l1, n_l2, n_l3, n_l4, n_l5, n_l6, n_l7, n_l8, n_l9, n_l10, n_l11, n_l12, n_l13, n_l14, n_l15, n_l16, n_l17, n_l18, n_l19, n_l20, n_l21, n_l22, n_l23, n_l24, n_l25, n_l30, n_l31, n_l33, n_l48, n_l49, n_l57, n_l60, n_l100, n_l114, n_l115, n_l126, n_l200, n_l214, n_l239, n_l264, n_l294, n_l400, n_l1000, n_l1470, n_l5000, n_l1000000, n_o, n_nM, q_zk]
  rw [q1_top hF hI (Nat.le_refl _), q_bind, q1_ga hI hv, q_bind]
  by_cases e : q_top y (y 2) < y 0
  · have h1 : (nI (y 0) - nI (q_top y (y 2))) = nI (y 0 - q_top y (y 2)) := n_sub (by omega)
    simp (disch := first | omega | assumption) only [h1, n_le, n_eq, n_add, n_sub, n_div]
    rw [if_neg (by omega), if_neg (by omega), q_fif (by omega), if_pos e]
  · rw [if_neg e, if_pos]
    rw [Int32.le_iff_toInt_le, Int32.toInt_sub, n_T (by omega), n_T (by omega), n_T (by omega), show (2 ^ 32 : Nat) = 4294967296 from rfl]
    have e32 : ((4294967296 : Nat) : Int) = 4294967296 := rfl
    simp only [Int.bmod, e32]
    split <;> omega
theorem q1_pn (hI : q_I B y) {k : Nat} (hk : k ≤ 400) : f_X1_placesOfNext F (q_z y) (nI k) = some (nI (q_pn y k)) := by
  have h2 := hI.2.2.1
  unfold f_X1_placesOfNext q_pn
  simp (disch := first | omega | assumption) only [n_l0, n_l1, n_l2, n_l3, n_l4, n_l5, n_l6, n_l7, n_l8, n_l9, n_l10, n_l11, n_l12, n_l13, n_l14, n_l15, n_l16, n_l17, n_l18, n_l19, n_l20, n_l21, n_l22, n_l23, n_l24, n_l25, n_l30, n_l31, n_l33, n_l48, n_l49, n_l57, n_l60, n_l100, n_l114, n_l115, n_l126, n_l200, n_l214, n_l239, n_l264, n_l294, n_l400, n_l1000, n_l1470, n_l5000, n_l1000000, n_o, n_nM, q_zk, n_mul, n_add, n_div]
  rw [n_sub (by omega), n_add]
def q_best (y : Nat → Nat) (lo hi b : Nat) : Prop := lo ≤ b ∧ b ≤ hi ∧ (∀ v, lo ≤ v → v ≤ hi → q_co y b ≤ q_co y v) ∧ (∀ v, b < v → v ≤ hi → q_co y b < q_co y v)
theorem q_best_u {lo hi b b' : Nat} (h : q_best y lo hi b) (h' : q_best y lo hi b') : b = b' := by
  rcases Nat.lt_trichotomy b b' with e | e | e
  · have h1 := h.2.2.2 b' e h'.2.1
    have h2 := h'.2.2.1 b h.1 h.2.1
    omega
  · exact e
  · have h1 := h'.2.2.2 b e h.2.1
    have h2 := h.2.2.1 b' h'.1 h'.2.1
    omega
theorem q1_btL (hF : 3000 ≤ F) (hI : q_I B y) {q : d_C} (hq : q.1 = q_z y) : ∀ n k b, 7 ≤ k → k < q_lo y → k < n → q_best y (k + 1) (q_lo y) b →
    ∃ b' o, f_X3_bestLength_L24 F q n (nI b) (nI (q_co y b)) (nI k) = some (nI b', o) ∧ q_best y 8 (q_lo y) b' := by
  have h6 := q_lo_le hI
  intro n
  induction n with
  | zero => intro k b _ _ h; omega
  | succ n ih =>
    intro k b hk1 hk hn hb
    unfold f_X3_bestLength_L24
    simp (disch := first | omega | assumption) only [n_l0, n_l1, n_l2, n_l3, n_l4, n_l5, n_l6, n_l7, n_l8, n_l9, n_l10, n_l11, n_l12, n_l13, n_l14, n_l15, n_l16, n_l17, n_l18, n_l19, n_l20, n_l21, n_l22, n_l23, n_l24, n_l25, n_l30, n_l31, n_l33, n_l48, n_l49, n_l57, n_l60, n_l100, n_l114, n_l115, n_l126, n_l200, n_l214, n_l239, n_l264, n_l294, n_l400, n_l1000, n_l1470, n_l5000, n_l1000000, n_o, n_nM, n_lt]
    by_cases e : k = 7
    · subst e
      exact ⟨b, _, if_pos (by omega), hb⟩
    · have hb1 := hb.1
      have hb2 := hb.2.1
      have c1 := q_co_le hI (v := b) (by omega) (by omega)
      have c2 := q_co_le hI (v := k) (by omega) (by omega)
      obtain ⟨j, rfl⟩ : ∃ j, k = j + 1 := ⟨k - 1, by omega⟩
      rw [if_neg (by omega), hq, q1_ct hF hI ⟨by omega, by omega⟩, q_bind, q1_pn hI (q_ct_le hI (by omega)), q_bind, q1_pc (by omega), q_bind, n_mul, show q_pn y (q_ct y (j + 1)) * q_pc (j + 1) = q_co y (j + 1) from rfl, n_sM]
      simp (disch := first | omega | assumption) only [n_eqM, if_false, n_le]
      by_cases e2 : q_co y b ≤ q_co y (j + 1)
      · rw [if_pos e2]
        refine ih j b (by omega) (by omega) (by omega) ⟨by omega, by omega, fun v a c => ?_, fun v a c => hb.2.2.2 v a c⟩
        by_cases ev : v = j + 1
        · rw [ev]; exact e2
        · exact hb.2.2.1 v (by omega) c
      · rw [if_neg e2]
        refine ih j (j + 1) (by omega) (by omega) (by omega) ⟨by omega, by omega, fun v a c => ?_, fun v a c => ?_⟩
        · by_cases ev : v = j + 1
          · rw [ev]; exact Nat.le_refl _
          · exact Nat.le_trans (by omega) (hb.2.2.1 v (by omega) c)
        · have := hb.2.2.1 v (by omega) c
          omega
end RD
