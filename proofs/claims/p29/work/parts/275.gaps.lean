/-! courses: places, gaps, tops -/
theorem q_fg_le (b : Nat) : ∀ n, q_fg b n ≤ n := by
  intro n
  induction n with
  | zero => exact Nat.le_refl 0
  | succ n ih => unfold q_fg; split <;> (try split) <;> omega
theorem q_fg_st {b m : Nat} (h : q_fg b m < m) : ∀ {n : Nat}, m ≤ n → q_fg b n = q_fg b m := by
  intro n
  induction n with
  | zero => intro h2; omega
  | succ n ih =>
    intro h2
    by_cases e : m = n + 1
    · subst e; rfl
    · have h3 := ih (by omega)
      show (if q_fg b n < n then q_fg b n else _) = _
      rw [if_pos (by omega), h3]
theorem q_fg_bit {b : Nat} : ∀ {n : Nat}, q_fg b n < n → q_b b (q_fg b n) = 0 := by
  intro n
  induction n with
  | zero => intro h; omega
  | succ n ih =>
    intro h
    by_cases e : q_fg b n < n
    · rw [q_fg_st e (by omega)]; exact ih e
    · have : q_fg b (n + 1) = (if q_b b n = 0 then n else n + 1) := if_neg e
      by_cases e2 : q_b b n = 0
      · rw [this, if_pos e2]; exact e2
      · rw [this, if_neg e2] at h; omega
theorem q_fg_lt {b : Nat} : ∀ {n : Nat}, (q_fg b n < n) = (q_sum (q_b b) n < n) := by
  intro n
  induction n with
  | zero => rfl
  | succ n ih =>
    apply propext
    have h1 := q_fg_le b n
    have h2 := q_sum_le (f := q_b b) (b := 1) (n := n) (fun k _ => q_b_le b k)
    have h3 := q_b_le b n
    show (if q_fg b n < n then q_fg b n else if q_b b n = 0 then n else n + 1) < n + 1 ↔ q_sum (q_b b) n + q_b b n < n + 1
    by_cases e : q_fg b n < n
    · rw [if_pos e]; rw [ih] at e; omega
    · rw [if_neg e]; rw [ih] at e
      split <;> omega
def q_gI (b n : Nat) : Int32 := if q_fg b n < n then nI (q_fg b n) else nM
section RD
variable {B F : Nat} {y : Nat → Nat} {M : d_M}
theorem q1_sl {c : Nat} (hI : q_I B y) (hc : c < y 2) : f_X1_slatesIn F (q_z y) (nI c) = some (nI (q_in y c)) := by
  have h2 := hI.2.2.1
  have hb := (hI.2.2.2.2.2.2.2.2.2.2.2.2.1 c hc).2.2
  have hw := q_w hI.2.1.2 hb
  unfold f_X1_slatesIn
  rw [q_vAt (by omega) (by omega)]
  show (f_J6_bitCount F (nI (y (114 + c)))).bind _ = _
  rw [q_pop hw]
  show some (nI _) = some (nI _)
  unfold q_in q_pl
  rw [q_sum_cut (m := y 1 + c % 2) (by have := hI.2.1.2; omega) (fun k a _ => q_b_hi hb a)]
theorem q1_full {c : Nat} (hI : q_I B y) (hc : c < y 2) : f_X1_isFull F (q_z y) (nI c) = some (if q_fg (y (114 + c)) (q_pl y c) < q_pl y c then nI 0 else nI 1) := by
  have h2 := hI.2.2.1
  have h5 := q_pl_le (c := c) hI.2.1.2
  have h6 := q_in_le y c
  unfold f_X1_isFull
  rw [q1_sl hI hc, q1_pl (by omega)]
  simp (disch := first | omega | assumption) only [q_bind, n_lt, n_l0, n_l1, n_l2, n_l3, n_l4, n_l5, n_l6, n_l7, n_l8, n_l9, n_l10, n_l11, n_l12, n_l13, n_l14, n_l15, n_l16, n_l17, n_l18, n_l19, n_l20, n_l21, n_l22, n_l23, n_l24, n_l25, n_l30, n_l31, n_l33, n_l48, n_l49, n_l57, n_l60, n_l100, n_l114, n_l115, n_l126, n_l200, n_l214, n_l239, n_l264, n_l294, n_l400, n_l1000, n_l1470, n_l5000, n_l1000000, n_o, n_nM]
  have : (q_in y c < q_pl y c) = (q_fg (y (114 + c)) (q_pl y c) < q_pl y c) := q_fg_lt.symm
  simp only [this]
  split <;> rfl
theorem q1_fgL (hI : q_I B y) {c : Nat} (hc : c < y 2) : ∀ n p, p ≤ q_pl y c → q_fg (y (114 + c)) p = p → q_pl y c - p < n →
    f_X1_firstGap_L8 F (q_z y) (nI c) (nI (q_pl y c)) n (nI p) = some (if q_fg (y (114 + c)) (q_pl y c) < q_pl y c then .inr (nI (q_fg (y (114 + c)) (q_pl y c))) else .inl (nI (q_pl y c))) := by
  have h5 := q_pl_le (c := c) hI.2.1.2
  intro n
  induction n with
  | zero => intro p _ _ h; omega
  | succ n ih =>
    intro p hp hg hn
    unfold f_X1_firstGap_L8
    simp (disch := first | omega | assumption) only [n_le]
    by_cases e : p = q_pl y c
    · rw [if_pos (by omega), ← e, if_neg (by omega)]
    · rw [if_neg (by omega), q1_has hI hc (by omega)]
      have h7 := q_b_le (y (114 + c)) p
      simp (disch := first | omega | assumption) only [q_bind, n_l0, n_l1, n_l2, n_l3, n_l4, n_l5, n_l6, n_l7, n_l8, n_l9, n_l10, n_l11, n_l12, n_l13, n_l14, n_l15, n_l16, n_l17, n_l18, n_l19, n_l20, n_l21, n_l22, n_l23, n_l24, n_l25, n_l30, n_l31, n_l33, n_l48, n_l49, n_l57, n_l60, n_l100, n_l114, n_l115, n_l126, n_l200, n_l214, n_l239, n_l264, n_l294, n_l400, n_l1000, n_l1470, n_l5000, n_l1000000, n_o, n_nM, n_eq, n_add]
      have h8 : q_fg (y (114 + c)) (p + 1) = (if q_b (y (114 + c)) p = 0 then p else p + 1) := if_neg (by omega)
      by_cases e2 : q_b (y (114 + c)) p = 0
      · rw [if_pos e2]
        rw [if_pos e2] at h8
        have h9 := q_fg_st (b := y (114 + c)) (m := p + 1) (by omega) (n := q_pl y c) (by omega)
        rw [if_pos (by omega), h9, h8]
      · rw [if_neg e2]
        rw [if_neg e2] at h8
        exact ih (p + 1) (by omega) h8 (by omega)
theorem q1_fg (hF : 3000 ≤ F) (hI : q_I B y) {c : Nat} (hc : c < y 2) : f_X1_firstGap F (q_z y) (nI c) = some (q_gI (y (114 + c)) (q_pl y c)) := by
  have h2 := hI.2.2.1
  have h5 := q_pl_le (c := c) hI.2.1.2
  unfold f_X1_firstGap q_gI
  rw [q1_pl (by omega), q_bind, n_l0, q1_fgL hI hc F 0 (by omega) rfl (by omega)]
  simp only [q_bind, n_l0, n_l1, n_l2, n_l3, n_l4, n_l5, n_l6, n_l7, n_l8, n_l9, n_l10, n_l11, n_l12, n_l13, n_l14, n_l15, n_l16, n_l17, n_l18, n_l19, n_l20, n_l21, n_l22, n_l23, n_l24, n_l25, n_l30, n_l31, n_l33, n_l48, n_l49, n_l57, n_l60, n_l100, n_l114, n_l115, n_l126, n_l200, n_l214, n_l239, n_l264, n_l294, n_l400, n_l1000, n_l1470, n_l5000, n_l1000000, n_o, n_nM]
  split <;> rfl
theorem q1_lgL (hI : q_I B y) {c : Nat} (hc : c < y 2) : ∀ n k, k ≤ q_pl y c → k < n →
    (f_X1_lastGap_L8 F (q_z y) (nI c) n (nI k + nM)).bind (fun w9 => Sum.elim (fun w5 => some (nM)) (fun w6 => some (w6)) w9) = some (nI (q_lg (y (114 + c)) k) + nM) := by
  have h5 := q_pl_le (c := c) hI.2.1.2
  intro n
  induction n with
  | zero => intro k _ h; omega
  | succ n ih =>
    intro k hk hn
    unfold f_X1_lastGap_L8
    cases k with
    | zero =>
      simp (disch := first | omega | assumption) only [n_zM, n_l0, n_l1, n_l2, n_l3, n_l4, n_l5, n_l6, n_l7, n_l8, n_l9, n_l10, n_l11, n_l12, n_l13, n_l14, n_l15, n_l16, n_l17, n_l18, n_l19, n_l20, n_l21, n_l22, n_l23, n_l24, n_l25, n_l30, n_l31, n_l33, n_l48, n_l49, n_l57, n_l60, n_l100, n_l114, n_l115, n_l126, n_l200, n_l214, n_l239, n_l264, n_l294, n_l400, n_l1000, n_l1470, n_l5000, n_l1000000, n_o, n_nM, n_Mlt, if_true, q_bind]
      show some nM = some (nI 0 + nM)
      rw [n_zM]
    | succ k =>
      rw [n_sM]
      simp (disch := first | omega | assumption) only [n_l0, n_l1, n_l2, n_l3, n_l4, n_l5, n_l6, n_l7, n_l8, n_l9, n_l10, n_l11, n_l12, n_l13, n_l14, n_l15, n_l16, n_l17, n_l18, n_l19, n_l20, n_l21, n_l22, n_l23, n_l24, n_l25, n_l30, n_l31, n_l33, n_l48, n_l49, n_l57, n_l60, n_l100, n_l114, n_l115, n_l126, n_l200, n_l214, n_l239, n_l264, n_l294, n_l400, n_l1000, n_l1470, n_l5000, n_l1000000, n_o, n_nM, n_lt]
      rw [if_neg (by omega), q1_has hI hc (by omega)]
      have h7 := q_b_le (y (114 + c)) k
      simp (disch := first | omega | assumption) only [q_bind, n_eq]
      by_cases e : q_b (y (114 + c)) k = 0
      · rw [if_pos e, show q_lg (y (114 + c)) (k + 1) = k + 1 from if_pos e, n_sM]; rfl
      · rw [if_neg e, show q_lg (y (114 + c)) (k + 1) = q_lg (y (114 + c)) k from if_neg e]
        exact ih k (by omega) (by omega)
theorem q1_lg (hF : 3000 ≤ F) (hI : q_I B y) {c : Nat} (hc : c < y 2) : f_X1_lastGap F (q_z y) (nI c) = some (nI (q_lg (y (114 + c)) (q_pl y c)) + nM) := by
  have h2 := hI.2.2.1
  have h5 := q_pl_le (c := c) hI.2.1.2
  unfold f_X1_lastGap
  rw [q1_pl (by omega), q_bind, n_l1, n_nM, ← n_aM]
  exact q1_lgL hI hc F _ (Nat.le_refl _) (by omega)
end RD
