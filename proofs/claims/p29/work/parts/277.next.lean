/-! the longest, the next length, the first open course, sums of rows -/
def q_lo (y : Nat → Nat) : Nat := if y 2 = 0 then 24 else y (14 + (y 2 - 1))
def q_dry (y : Nat → Nat) : Nat := if y 9 = 0 ∧ y 8 = 0 then 1 else 0
def q_rb (y : Nat → Nat) (v : Nat) : Nat := q_sum (fun c => if y (14 + c) = v then q_in y c else 0) (y 2)
def q_nx (y : Nat → Nat) (P : Nat) : Nat → Nat
  | 0 => 0
  | k + 1 => if 8 ≤ k + 1 ∧ P ≤ y (214 + (k + 1)) then k + 1 else q_nx y P k
def q_nI (k : Nat) : Int32 := if k = 0 then nM else nI k
def q_nl (y : Nat → Nat) : Nat := q_nx y (q_pl y (y 2)) (q_lo y)
/-- the first course below e with a gap, from c on; e if there is none -/
def q_op (y : Nat → Nat) : Nat → Nat
  | 0 => 0
  | e + 1 => if q_op y e < e then q_op y e else if q_fg (y (114 + e)) (q_pl y e) < q_pl y e then e else e + 1
theorem q_op_le (y : Nat → Nat) : ∀ n, q_op y n ≤ n := by
  intro n
  induction n with
  | zero => exact Nat.le_refl 0
  | succ n ih => unfold q_op; split <;> (try split) <;> omega
theorem q_op_st {y : Nat → Nat} {m : Nat} (h : q_op y m < m) : ∀ {n : Nat}, m ≤ n → q_op y n = q_op y m := by
  intro n
  induction n with
  | zero => intro h2; omega
  | succ n ih =>
    intro h2
    by_cases e : m = n + 1
    · subst e; rfl
    · have h3 := ih (by omega)
      show (if q_op y n < n then q_op y n else _) = _
      rw [if_pos (by omega), h3]
theorem q_op_gap {y : Nat → Nat} : ∀ {n : Nat}, q_op y n < n → q_fg (y (114 + q_op y n)) (q_pl y (q_op y n)) < q_pl y (q_op y n) := by
  intro n
  induction n with
  | zero => intro h; omega
  | succ n ih =>
    intro h
    by_cases e : q_op y n < n
    · rw [q_op_st e (by omega)]; exact ih e
    · have h0 : q_op y (n + 1) = (if q_fg (y (114 + n)) (q_pl y n) < q_pl y n then n else n + 1) := if_neg e
      by_cases e2 : q_fg (y (114 + n)) (q_pl y n) < q_pl y n
      · rw [h0, if_pos e2]; exact e2
      · rw [h0, if_neg e2] at h; omega
theorem q_nx_le {y : Nat → Nat} {P : Nat} : ∀ k, q_nx y P k ≤ k ∧ (q_nx y P k ≠ 0 → 8 ≤ q_nx y P k ∧ P ≤ y (214 + q_nx y P k)) := by
  intro k
  induction k with
  | zero => exact ⟨Nat.le_refl 0, fun h => absurd rfl h⟩
  | succ k ih =>
    unfold q_nx
    by_cases e : 8 ≤ k + 1 ∧ P ≤ y (214 + (k + 1))
    · rw [if_pos e]; exact ⟨Nat.le_refl _, fun _ => e⟩
    · rw [if_neg e]; exact ⟨by omega, ih.2⟩
section RD
variable {B F : Nat} {y : Nat → Nat} {M : d_M}
theorem q_lo_le (hI : q_I B y) : 8 ≤ q_lo y ∧ q_lo y ≤ 24 := by
  unfold q_lo
  by_cases e : y 2 = 0
  · rw [if_pos e]; omega
  · rw [if_neg e]
    have := hI.2.2.2.2.2.2.2.2.2.2.2.2.1 (y 2 - 1) (by omega)
    omega
theorem q1_lo (hI : q_I B y) : f_X1_longestNext F (q_z y) = some (nI (q_lo y)) := by
  have h2 := hI.2.2.1
  unfold f_X1_longestNext q_lo
  simp (disch := first | omega | assumption) only [n_l0, n_l1, n_l2, n_l3, n_l4, n_l5, n_l6, n_l7, n_l8, n_l9, n_l10, n_l11, n_l12, n_l13, n_l14, n_l15, n_l16, n_l17, n_l18, n_l19, n_l20, n_l21, n_l22, n_l23, n_l24, n_l25, n_l30, n_l31, n_l33, n_l48, n_l49, n_l57, n_l60, n_l100, n_l114, n_l115, n_l126, n_l200, n_l214, n_l239, n_l264, n_l294, n_l400, n_l1000, n_l1470, n_l5000, n_l1000000, n_o, n_nM, q_zk, n_le]
  by_cases e : y 2 = 0
  · rw [if_pos (by omega), if_pos e]
  · rw [if_neg (by omega), if_neg e, n_sub (by omega), q_vAt (by omega) (by omega)]; rfl
theorem q1_dry (hI : q_I B y) : f_X1_canBeSlated F (q_z y) = some (nI (q_dry y)) := by
  have h8 := hI.2.2.2.2.2.2.2.2.1
  have h9 := hI.2.2.2.2.2.2.2.2.2.1
  unfold f_X1_canBeSlated q_dry
  simp (disch := first | omega | assumption) only [n_l0, n_l1, n_l2, n_l3, n_l4, n_l5, n_l6, n_l7, n_l8, n_l9, n_l10, n_l11, n_l12, n_l13, n_l14, n_l15, n_l16, n_l17, n_l18, n_l19, n_l20, n_l21, n_l22, n_l23, n_l24, n_l25, n_l30, n_l31, n_l33, n_l48, n_l49, n_l57, n_l60, n_l100, n_l114, n_l115, n_l126, n_l200, n_l214, n_l239, n_l264, n_l294, n_l400, n_l1000, n_l1470, n_l5000, n_l1000000, n_o, n_nM, q_zk, n_eq]
  by_cases e : y 9 = 0
  · by_cases e2 : y 8 = 0
    · rw [if_pos e, if_pos e2, if_pos ⟨e, e2⟩]
    · rw [if_pos e, if_neg e2, if_neg (fun q => e2 q.2)]
  · rw [if_neg e, if_neg (fun q => e q.1)]
theorem q1_sum (hF : 3000 ≤ F) (off : Nat) : f_X3_sumOf F 25 (fun k => q_z y (off + k)) = some (nI (q_sum (fun v => y (off + v)) 25)) := by
  unfold f_X3_sumOf
  have key := q_accum (f_X3_sumOf_L4 F 25 (fun k => q_z y (off + k))) (fun v => y (off + v)) 25 (fun k a => by
    unfold f_X3_sumOf_L4
    simp (disch := first | omega | assumption) only [n_le, n_l0, n_l1, n_l2, n_l3, n_l4, n_l5, n_l6, n_l7, n_l8, n_l9, n_l10, n_l11, n_l12, n_l13, n_l14, n_l15, n_l16, n_l17, n_l18, n_l19, n_l20, n_l21, n_l22, n_l23, n_l24, n_l25, n_l30, n_l31, n_l33, n_l48, n_l49, n_l57, n_l60, n_l100, n_l114, n_l115, n_l126, n_l200, n_l214, n_l239, n_l264, n_l294, n_l400, n_l1000, n_l1470, n_l5000, n_l1000000, n_o, n_nM]
    exact if_pos (by omega)) (fun k a i hi => by
    conv => lhs; unfold f_X3_sumOf_L4
    simp (disch := first | omega | assumption) only [n_le, n_l0, n_l1, n_l2, n_l3, n_l4, n_l5, n_l6, n_l7, n_l8, n_l9, n_l10, n_l11, n_l12, n_l13, n_l14, n_l15, n_l16, n_l17, n_l18, n_l19, n_l20, n_l21, n_l22, n_l23, n_l24, n_l25, n_l30, n_l31, n_l33, n_l48, n_l49, n_l57, n_l60, n_l100, n_l114, n_l115, n_l126, n_l200, n_l214, n_l239, n_l264, n_l294, n_l400, n_l1000, n_l1470, n_l5000, n_l1000000, n_o, n_nM, q_g, n_C, n_add, q_zk]
    rw [if_neg (by omega)]) F 0 (by omega) (by omega)
  rw [show ((0 : Int32)) = nI 0 from rfl]
  rw [show q_sum (fun v => y (off + v)) 0 = 0 from rfl] at key
  rw [key]; rfl
theorem q1_rb (hF : 3000 ≤ F) (hI : q_I B y) {v : Nat} (hv : v ≤ 24) : f_X1_slatesOnRoofOf F (q_z y) (nI v) = some (nI (q_rb y v)) := by
  have h2 := hI.2.2.1
  have hl := hI.2.2.2.2.2.2.2.2.2.2.2.2.1
  unfold f_X1_slatesOnRoofOf q_rb
  have key := q_accum (f_X1_slatesOnRoofOf_L4 F (q_z y) (nI v)) (fun c => if y (14 + c) = v then q_in y c else 0) (y 2) (fun k a => by
    unfold f_X1_slatesOnRoofOf_L4
    simp (disch := first | omega | assumption) only [n_le, q_zk]
    exact if_pos (by omega)) (fun k a i hi => by
    have hli := hl i hi
    conv => lhs; unfold f_X1_slatesOnRoofOf_L4
    simp (disch := first | omega | assumption) only [n_le, q_zk]
    rw [if_neg (by omega), q_vAt (by omega) (by omega), q1_sl hI hi]
    simp (disch := first | omega | assumption) only [q_bind, n_l0, n_l1, n_l2, n_l3, n_l4, n_l5, n_l6, n_l7, n_l8, n_l9, n_l10, n_l11, n_l12, n_l13, n_l14, n_l15, n_l16, n_l17, n_l18, n_l19, n_l20, n_l21, n_l22, n_l23, n_l24, n_l25, n_l30, n_l31, n_l33, n_l48, n_l49, n_l57, n_l60, n_l100, n_l114, n_l115, n_l126, n_l200, n_l214, n_l239, n_l264, n_l294, n_l400, n_l1000, n_l1470, n_l5000, n_l1000000, n_o, n_nM, n_add, n_eq]
    by_cases e : y (14 + i) = v
    · rw [if_pos e, if_pos e]
    · rw [if_neg e, if_neg e, ← n_l0, Int32.add_zero]) F 0 (by omega) (by omega)
  rw [show ((0 : Int32)) = nI 0 from rfl]
  rw [show q_sum (fun c => if y (14 + c) = v then q_in y c else 0) 0 = 0 from rfl] at key
  rw [key]; rfl
theorem q_st (hI : q_I B y) {v : Nat} (hv : v < 25) : y (214 + v) < 2147483648 ∧ y (239 + v) < 2147483648 ∧ y (264 + v) < 2147483648 := by
  have h1 := hI.2.2.2.2.2.2.2.2.2.2.2.2.2.1 v hv
  have h2 := hI.2.2.2.2.2.2.2.2.2.2.2.2.2.2.2.2
  omega
theorem q1_nxL (hI : q_I B y) {P : Nat} (hP : P ≤ 31) : ∀ n k, k ≤ 24 → k < n →
    (f_X1_nextLength_L14 F (q_z y) (nI P) n (nI k)).bind (fun w9 => Sum.elim (fun w7 => some (nM)) (fun w8 => some (w8)) w9) = some (q_nI (q_nx y P k)) := by
  intro n
  induction n with
  | zero => intro k _ h; omega
  | succ n ih =>
    intro k hk hn
    unfold f_X1_nextLength_L14
    simp (disch := first | omega | assumption) only [n_l0, n_l1, n_l2, n_l3, n_l4, n_l5, n_l6, n_l7, n_l8, n_l9, n_l10, n_l11, n_l12, n_l13, n_l14, n_l15, n_l16, n_l17, n_l18, n_l19, n_l20, n_l21, n_l22, n_l23, n_l24, n_l25, n_l30, n_l31, n_l33, n_l48, n_l49, n_l57, n_l60, n_l100, n_l114, n_l115, n_l126, n_l200, n_l214, n_l239, n_l264, n_l294, n_l400, n_l1000, n_l1470, n_l5000, n_l1000000, n_o, n_nM, n_lt]
    by_cases e : k < 8
    · rw [if_pos e]
      have : ∀ j, j < 8 → q_nx y P j = 0 := by
        intro j
        induction j with
        | zero => intro _; rfl
        | succ j ih2 => intro hj; unfold q_nx; rw [if_neg (by omega)]; exact ih2 (by omega)
      rw [this k e]; rfl
    · rw [if_neg e, q_vAt (by omega) (by omega)]
      obtain ⟨k, rfl⟩ : ∃ j, k = j + 1 := ⟨k - 1, by omega⟩
      have hb := (q_st hI (v := k + 1) (by omega)).1
      simp (disch := first | omega | assumption) only [q_bind, q_zk, n_lt]
      by_cases e2 : P ≤ y (214 + (k + 1))
      · rw [if_neg (by omega), show q_nx y P (k + 1) = k + 1 from if_pos ⟨by omega, e2⟩]; rfl
      · rw [if_pos (by omega), show q_nx y P (k + 1) = q_nx y P k from if_neg (fun q => e2 q.2), n_sM]
        exact ih k (by omega) (by omega)
theorem q1_nl (hF : 3000 ≤ F) (hI : q_I B y) : f_X1_nextLength F (q_z y) = some (q_nI (q_nl y)) := by
  have h2 := hI.2.2.1
  have h5 := q_pl_le (c := y 2) hI.2.1.2
  have h6 := q_lo_le hI
  unfold f_X1_nextLength q_nl
  rw [q1_lo hI, q_zk, q1_pl (by omega), q_bind, q_bind, n_l1, n_nM]
  exact q1_nxL hI h5 F _ (by omega) (by omega)
theorem q1_opL (hI : q_I B y) : ∀ n c, c ≤ y 2 - 1 → q_op y c = c → y 2 - 1 - c < n →
    f_X1_mendFirstGap_L2 F (q_z y) n (nI c) = some (if q_op y (y 2 - 1) < y 2 - 1 then .inr (nI (q_op y (y 2 - 1))) else .inl (nI (y 2 - 1))) := by
  have h2 := hI.2.2.1
  intro n
  induction n with
  | zero => intro c _ _ h; omega
  | succ n ih =>
    intro c hc hg hn
    unfold f_X1_mendFirstGap_L2
    simp only [q_zk, n_l0, n_l1, n_l2, n_l3, n_l4, n_l5, n_l6, n_l7, n_l8, n_l9, n_l10, n_l11, n_l12, n_l13, n_l14, n_l15, n_l16, n_l17, n_l18, n_l19, n_l20, n_l21, n_l22, n_l23, n_l24, n_l25, n_l30, n_l31, n_l33, n_l48, n_l49, n_l57, n_l60, n_l100, n_l114, n_l115, n_l126, n_l200, n_l214, n_l239, n_l264, n_l294, n_l400, n_l1000, n_l1470, n_l5000, n_l1000000, n_o, n_nM]
    by_cases e : c = y 2 - 1
    · rw [if_pos, ← e, if_neg (by omega)]
      by_cases e0 : y 2 = 0
      · rw [e0, n_0M]; simp (disch := first | omega | assumption) only [n_Mle]
      · rw [n_sub (by omega), n_le (by omega) (by omega)]; omega
    · rw [n_sub (by omega)]
      simp (disch := first | omega | assumption) only [n_le]
      rw [if_neg (by omega), q1_full hI (by omega)]
      simp (disch := first | omega | assumption) only [q_bind, n_add]
      have h8 : q_op y (c + 1) = (if q_fg (y (114 + c)) (q_pl y c) < q_pl y c then c else c + 1) := if_neg (by omega)
      by_cases e2 : q_fg (y (114 + c)) (q_pl y c) < q_pl y c
      · rw [if_pos e2, if_pos rfl]
        rw [if_pos e2] at h8
        have h9 := q_op_st (y := y) (m := c + 1) (by omega) (n := y 2 - 1) (by omega)
        rw [if_pos (by omega), h9, h8]
      · rw [if_neg e2, if_neg (by decide)]
        rw [if_neg e2] at h8
        exact ih (c + 1) (by omega) h8 (by omega)
end RD
