/-! how far the stock reaches -/
def q_r1 (y : Nat → Nat) : Nat → Nat := q_bg (q_u y (214 + q_nl y) (y (214 + q_nl y) - q_pl y (y 2))) (q_nl y)
def q_rr : Nat → (Nat → Nat) → (Nat → Nat)
  | 0, y => y
  | m + 1, y => if q_top y (y 2) < y 0 ∧ y 2 < 100 ∧ q_nl y ≠ 0 then q_rr m (q_r1 y) else y
def q_rx (n0 : Nat) (y : Nat → Nat) : Int32 := if y 2 = n0 then nM else nI (q_lo y)
def q_sm (M M' : d_M) : Prop := m_z M' = m_z M ∧ m_rows M' = m_rows M ∧ m_text M' = m_text M ∧ m_saved M' = m_saved M ∧ m_length M' = m_length M ∧ m_thrown M' = m_thrown M ∧ m_h M' = m_h M
theorem q_stk_I {B : Nat} {y : Nat → Nat} {v w : Nat} (hI : q_I B y) (hv : v < 25) (hw : w ≤ y (214 + v)) : q_I B (q_u y (214 + v) w) := by
  obtain ⟨a0, a1, a2, a3, a4, a5, a6, a7, a8, a9, a12, a13, ac, av, as, ak, aB⟩ := hI
  have e : ∀ j, j ≠ 214 + v → q_u y (214 + v) w j = y j := fun j h1 => q_u_ne h1
  unfold q_I
  rw [e 0 (by omega), e 1 (by omega), e 2 (by omega), e 3 (by omega), e 4 (by omega), e 5 (by omega), e 6 (by omega), e 7 (by omega), e 8 (by omega), e 9 (by omega), e 12 (by omega), e 13 (by omega)]
  refine ⟨a0, a1, a2, a3, a4, a5, a6, a7, a8, a9, a12, a13, fun d hd => ?_, fun u hu => ?_, ?_, fun k hk => ?_, aB⟩
  · rw [e (14 + d) (by omega), e (114 + d) (by omega)]; exact ac d hd
  · rw [e (264 + u) (by omega), e (239 + u) (by omega)]
    have h1 := av u hu
    by_cases h : u = v
    · subst h
      rw [q_u_eq]
      exact ⟨by omega, h1.2.1, h1.2.2.1, fun h => by have := h1.2.2.2 h; omega⟩
    · rw [e (214 + u) (by omega)]; exact h1
  · rw [q_sum_cg (g := fun v => y (264 + v)) (fun k hk => e (264 + k) (by omega))]
    exact as
  · rw [e k (by omega)]; exact ak k hk
theorem q_r1_I {B : Nat} {y : Nat → Nat} (hI : q_I B y) (h : q_top y (y 2) < y 0 ∧ y 2 < 100 ∧ q_nl y ≠ 0) : q_I B (q_r1 y) ∧ q_r1 y 2 = y 2 + 1 ∧ q_lo (q_r1 y) = q_nl y ∧ (∀ j, 289 ≤ j → q_r1 y j = 0) := by
  have h9 := q_nx_le (y := y) (P := q_pl y (y 2)) (q_lo y)
  have h10 := q_lo_le hI
  have hn : q_nl y ≤ 24 := q_nl_le hI
  have h8 : 8 ≤ q_nl y := (h9.2 h.2.2).1
  have I1 : q_I B (q_u y (214 + q_nl y) (y (214 + q_nl y) - q_pl y (y 2))) := q_stk_I hI (by omega) (by omega)
  have e2 : q_u y (214 + q_nl y) (y (214 + q_nl y) - q_pl y (y 2)) 2 = y 2 := q_u_ne (by omega)
  have I2 := q_bg_I I1 ⟨h8, hn⟩ (by rw [e2]; exact h.2.1)
  have e3 : q_r1 y 2 = y 2 + 1 := by
    unfold q_r1 q_bg
    rw [q_u_eq, e2]
  refine ⟨I2, e3, ?_, I2.2.2.2.2.2.2.2.2.2.2.2.2.2.2.2.1⟩
  unfold q_lo
  rw [if_neg (by omega), e3]
  unfold q_r1 q_bg
  rw [e2, q_u_ne (by omega), q_u_ne (by omega), show y 2 + 1 - 1 = y 2 by omega, q_u_eq]
theorem q_rr_I {B : Nat} : ∀ m (y : Nat → Nat), q_I B y → q_I B (q_rr m y) ∧ y 2 ≤ q_rr m y 2 := by
  intro m
  induction m with
  | zero => intro y hI; exact ⟨hI, Nat.le_refl _⟩
  | succ m ih =>
    intro y hI
    unfold q_rr
    split
    · rename_i h
      have h1 := q_r1_I hI h
      have h2 := ih _ h1.1
      exact ⟨h2.1, by have := h1.2.1; omega⟩
    · exact ⟨hI, Nat.le_refl _⟩
section RD
variable {B F : Nat} {y : Nat → Nat} {M : d_M}
theorem q1_bfL (hF : 3000 ≤ F) : ∀ m (y : Nat → Nat) n, q_I B y → 100 - y 2 ≤ m → m < n →
    (f_X1_buildFromStock_L5 F n (nI (y 2)) (q_z y)).bind (fun w9 => Sum.elim (fun w3 => some (w3.2)) (fun w5 => some (w5.2)) w9) = some (q_z (q_rr m y)) := by
  intro m
  induction m with
  | zero =>
    intro y n hI hm hn
    obtain ⟨n, rfl⟩ : ∃ k, n = k + 1 := ⟨n - 1, by omega⟩
    unfold f_X1_buildFromStock_L5
    have h2 := hI.2.2.1
    rw [if_pos (by rw [show (100 : Int32) = nI 100 from rfl, n_le (by omega) (by omega)]; omega)]
    rfl
  | succ m ih =>
    intro y n hI hm hn
    obtain ⟨n, rfl⟩ : ∃ k, n = k + 1 := ⟨n - 1, by omega⟩
    have h2 := hI.2.2.1
    have hnl := q_nl_le hI
    unfold f_X1_buildFromStock_L5
    have e0 : q_rr (m + 1) y = if q_top y (y 2) < y 0 ∧ y 2 < 100 ∧ q_nl y ≠ 0 then q_rr m (q_r1 y) else y := rfl
    simp (disch := first | omega | assumption) only [n_l0, n_l1, n_l2, n_l3, n_l4, n_l5, n_l6, n_l7, n_l8, n_l9, n_l10, n_l11, n_l12, n_l13, n_l14, n_l15, n_l16, n_l17, n_l18, n_l19, n_l20, n_l21, n_l22, n_l23, n_l24, n_l25, n_l30, n_l31, n_l33, n_l48, n_l49, n_l57, n_l60, n_l100, n_l114, n_l115, n_l126, n_l200, n_l214, n_l239, n_l264, n_l294, n_l400, n_l1000, n_l1470, n_l5000, n_l1000000, n_o, n_nM, n_le]
    by_cases e1 : y 2 < 100
    · rw [if_neg (by omega), q1_high hF hI, q_bind]
      by_cases e2 : q_top y (y 2) < y 0
      · rw [if_pos e2, if_pos rfl, q1_nl hF hI, q_bind]
        simp (disch := first | omega | assumption) only [q_nI_M]
        by_cases e3 : q_nl y = 0
        · rw [if_pos e3, e0, if_neg (fun q => q.2.2 e3)]
          rfl
        · have h : q_top y (y 2) < y 0 ∧ y 2 < 100 ∧ q_nl y ≠ 0 := ⟨e2, e1, e3⟩
          have h9 := q_nx_le (y := y) (P := q_pl y (y 2)) (q_lo y)
          have h10 : q_pl y (y 2) ≤ y (214 + q_nl y) := (h9.2 e3).2
          have h8 : 8 ≤ q_nl y := (h9.2 e3).1
          have h1 := q_r1_I hI h
          have I1 : q_I B (q_u y (214 + q_nl y) (y (214 + q_nl y) - q_pl y (y 2))) := q_stk_I hI (by omega) (by omega)
          rw [if_neg e3, q1_pl (by omega), q_bind, show q_nI (q_nl y) = nI (q_nl y) from if_neg e3, q_addK (w := y (214 + q_nl y) - q_pl y (y 2)) (by rw [n_negsub, n_sub h10]) (by omega) (by omega), q1_bg I1 (by rw [q_u_ne (by omega)]; exact e1), q_bind, q_let, n_add, e0, if_pos h]
          have := ih (q_r1 y) n h1.1 (by rw [h1.2.1]; omega) (by omega)
          rw [h1.2.1] at this
          exact this
      · rw [if_neg e2, if_neg (by decide), e0, if_neg (fun q => e2 q.1)]
        rfl
    · rw [if_pos (by omega), e0, if_neg (fun q => e1 q.2.1)]
      rfl
def q_rv (y : Nat → Nat) (w : Nat) : Int32 := if w = 0 then nI (q_rr 100 y 2 - y 2) else if w = 1 then nI (q_top (q_rr 100 y) (q_rr 100 y 2)) else if w = 2 then nI (q_sum (fun v => q_rr 100 y (214 + v)) 25) else q_rx (y 2) (q_rr 100 y)
theorem q_cov (hI : q_I B y) : q_z y 9 = 0 ∨ q_z y 9 = 1 := by
  have h9 := hI.2.2.2.2.2.2.2.2.2.1
  rcases (show y 9 = 0 ∨ y 9 = 1 by omega) with c | c
  · left; show nI (y 9) = 0; rw [c]; rfl
  · right; show nI (y 9) = 1; rw [c]; rfl
theorem q_within {a lo hi : Nat} (hlo : lo < 2147483648) (ha : a < 2147483648) (hh : hi < 2147483648) : f_X3_isWithin F (nI a) (nI lo) (nI hi) = some (if lo ≤ a ∧ a ≤ hi then nI 1 else nI 0) := by
  unfold f_X3_isWithin
  simp (disch := first | omega | assumption) only [n_l0, n_l1, n_l2, n_l3, n_l4, n_l5, n_l6, n_l7, n_l8, n_l9, n_l10, n_l11, n_l12, n_l13, n_l14, n_l15, n_l16, n_l17, n_l18, n_l19, n_l20, n_l21, n_l22, n_l23, n_l24, n_l25, n_l30, n_l31, n_l33, n_l48, n_l49, n_l57, n_l60, n_l100, n_l114, n_l115, n_l126, n_l200, n_l214, n_l239, n_l264, n_l294, n_l400, n_l1000, n_l1470, n_l5000, n_l1000000, n_o, n_nM, n_lt]
  by_cases e : lo ≤ a
  · rw [if_neg (by omega)]
    by_cases e2 : a ≤ hi
    · rw [if_neg (by omega), if_pos ⟨e, e2⟩]
    · rw [if_pos (by omega), if_neg (fun q => e2 q.2)]
  · rw [if_pos (by omega), if_neg (fun q => e q.1)]
set_option maxHeartbeats 400000 in
theorem q1_re (hF : 3000 ≤ F) (hI : q_I B y) {q : d_C} (hq : q.1 = q_z y) {w : Nat} (hw : w ≤ 3) : ∃ tr, f_X3_reach F q (nI w) = some (.inr (q_rv y w, (q.1, tr, q.2.2))) := by
  have h2 := hI.2.2.1
  have hR := q_rr_I 100 y hI
  have hR2 := hR.1.2.2.1
  obtain ⟨z, tr, rest⟩ := q
  subst hq
  refine ⟨q_z (q_rr 100 y), ?_⟩
  unfold f_X3_reach
  have h5 := q_within (F := F) (a := w) (lo := 0) (hi := 3) (by omega) (by omega) (by omega)
  rw [if_pos ⟨by omega, hw⟩] at h5
  rw [show (0 : Int32) = nI 0 from rfl, show (3 : Int32) = nI 3 from rfl, h5, q_bind, if_neg (by decide)]
  unfold f_X1_copyFrom
  rw [q_fif (q_cov hI), q_bind, q_let]
  have h6 := q1_bfL (F := F) hF 100 y F hI (by omega) (by omega)
  have h7 : f_X1_buildFromStock F (q_z y) = some (q_z (q_rr 100 y)) := h6
  show ((f_X1_buildFromStock F (q_z y)).bind _) = _
  rw [h7, q_bind, q_let]
  unfold q_rv
  simp (disch := first | omega | assumption) only [n_l0, n_l1, n_l2, n_l3, n_l4, n_l5, n_l6, n_l7, n_l8, n_l9, n_l10, n_l11, n_l12, n_l13, n_l14, n_l15, n_l16, n_l17, n_l18, n_l19, n_l20, n_l21, n_l22, n_l23, n_l24, n_l25, n_l30, n_l31, n_l33, n_l48, n_l49, n_l57, n_l60, n_l100, n_l114, n_l115, n_l126, n_l200, n_l214, n_l239, n_l264, n_l294, n_l400, n_l1000, n_l1470, n_l5000, n_l1000000, n_o, n_nM, q_zk2, n_eq, n_sub]
  rw [q1_sum hF 214, q1_top hF hR.1 (Nat.le_refl _), q1_lo hR.1]
  simp only [q_bind]
  rcases (show w = 0 ∨ w = 1 ∨ w = 2 ∨ w = 3 by omega) with q | q | q | q
  · rw [if_pos q, if_pos q]
  · rw [if_neg (by omega), if_pos q, if_neg (by omega), if_pos q]
  · rw [if_neg (by omega), if_neg (by omega), if_pos q, if_neg (by omega), if_neg (by omega), if_pos q]
  · rw [if_neg (show ¬ w = 0 by omega), if_neg (show ¬ w = 1 by omega), if_neg (show ¬ w = 2 by omega), if_neg (show ¬ w = 0 by omega), if_neg (show ¬ w = 1 by omega), if_neg (show ¬ w = 2 by omega)]
    unfold q_rx
    by_cases e : q_rr 100 y 2 = y 2
    · rw [if_pos (by omega), if_pos e]
    · rw [if_neg (by omega), if_neg e]
end RD
