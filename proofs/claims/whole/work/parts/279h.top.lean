/-! to the top, the best length -/
def q_ct (y : Nat → Nat) (v : Nat) : Nat := if q_top y (y 2) < y 0 then (y 0 - q_top y (y 2) + q_ga y v - 1) / q_ga y v else 0
def q_pn (y : Nat → Nat) (k : Nat) : Nat := k * y 1 + ((y 2 + k) / 2 - y 2 / 2)
def q_pc (v : Nat) : Nat := v * v / 16
def q_co (y : Nat → Nat) (v : Nat) : Nat := q_pn y (q_ct y v) * q_pc v
section RD
variable {B F : Nat} {y : Nat → Nat} {M : d_M}
theorem q_ga_pos (hI : q_I B y) {v : Nat} (hv : 8 ≤ v) : 1 ≤ q_ga y v := by
  have h3 := hI.2.2.2.1
  unfold q_ga; omega
theorem q_ct_lt (hI : q_I B y) {v k : Nat} (hv : 8 ≤ v) : (q_top y (y 2) + k * q_ga y v < y 0) = (k < q_ct y v) := by
  apply propext
  have hg := q_ga_pos hI hv
  unfold q_ct
  by_cases e : q_top y (y 2) < y 0
  · rw [if_pos e]
    show _ ↔ k + 1 ≤ _
    rw [Nat.le_div_iff_mul_le (by omega), Nat.add_mul, Nat.one_mul]
    omega
  · rw [if_neg e]; omega
theorem q_ct_le (hI : q_I B y) {v : Nat} (hv : 8 ≤ v) : q_ct y v ≤ 400 := by
  have h0 := hI.1
  have hg := q_ga_pos hI hv
  rcases Nat.lt_or_ge 400 (q_ct y v) with h | h
  · rw [← q_ct_lt hI hv] at h
    have : 400 * 1 ≤ 400 * q_ga y v := Nat.mul_le_mul_left 400 hg
    omega
  · exact h
theorem q_pn_le (hI : q_I B y) {k : Nat} (hk : k ≤ 400) : q_pn y k ≤ 12300 := by
  have h1 := hI.2.1
  have : k * y 1 ≤ 400 * 30 := Nat.mul_le_mul hk h1.2
  unfold q_pn; omega
theorem q_pc_le {v : Nat} (hv : v ≤ 24) : q_pc v ≤ 36 := by
  have : v * v ≤ 24 * 24 := Nat.mul_le_mul hv hv
  unfold q_pc; omega
theorem q_co_le (hI : q_I B y) {v : Nat} (hv : 8 ≤ v) (hv2 : v ≤ 24) : q_co y v ≤ 500000 := by
  have := Nat.mul_le_mul (q_pn_le hI (q_ct_le hI hv)) (q_pc_le hv2)
  unfold q_co; omega
theorem q1_pc {v : Nat} (hv : v ≤ 24) : f_X3_priceOf F (nI v) = some (nI (q_pc v)) := by
  have : v * v ≤ 24 * 24 := Nat.mul_le_mul hv hv
  unfold f_X3_priceOf q_pc
  simp (disch := first | omega | assumption) only [n_l0, n_l1, n_l2, n_l3, n_l4, n_l5, n_l6, n_l7, n_l8, n_l9, n_l10, n_l11, n_l12, n_l13, n_l14, n_l15, n_l16, n_l17, n_l18, n_l19, n_l20, n_l21, n_l22, n_l23, n_l24, n_l25, n_l30, n_l31, n_l33, n_l48, n_l49, n_l57, n_l60, n_l100, n_l114, n_l115, n_l126, n_l200, n_l214, n_l239, n_l264, n_l294, n_l400, n_l1000, n_l1470, n_l5000, n_l1000000, n_o, n_nM, n_mul, n_div]
theorem q4_pc {v : Nat} (hv : v ≤ 24) : f_X4_price F (nI v) = some (nI (q_pc v)) := by
  have : v * v ≤ 24 * 24 := Nat.mul_le_mul hv hv
  unfold f_X4_price q_pc
  simp (disch := first | omega | assumption) only [n_l0, n_l1, n_l2, n_l3, n_l4, n_l5, n_l6, n_l7, n_l8, n_l9, n_l10, n_l11, n_l12, n_l13, n_l14, n_l15, n_l16, n_l17, n_l18, n_l19, n_l20, n_l21, n_l22, n_l23, n_l24, n_l25, n_l30, n_l31, n_l33, n_l48, n_l49, n_l57, n_l60, n_l100, n_l114, n_l115, n_l126, n_l200, n_l214, n_l239, n_l264, n_l294, n_l400, n_l1000, n_l1470, n_l5000, n_l1000000, n_o, n_nM, n_mul, n_div]
theorem q1_ct (hF : 3000 ≤ F) (hI : q_I B y) {v : Nat} (hv : 8 ≤ v ∧ v ≤ 24) : f_X1_coursesToTop F (q_z y) (nI v) = some (nI (q_ct y v)) := by
  have h0 := hI.1
  have ht := q_top_le hI (Nat.le_refl _)
  have hg := q_ga_pos hI hv.1
  have hg2 := q_ga_le (y := y) hv.2
  unfold f_X1_coursesToTop q_ct
  simp only [n_l0, n_l1, n_l2, n_l3, n_l4, n_l5, n_l6, n_l7, n_l8, n_l9, n_l10, n_l11, n_l12, n_l13, n_l14, n_l15, n_l16, n_l17, n_l18, n_l19, n_l20, n_l21, n_l22, n_l23, n_l24, n_l25, n_l30, n_l31, n_l33, n_l48, n_l49, n_l57, n_l60, n_l100, n_l114, n_l115, n_l126, n_l200, n_l214, n_l239, n_l264, n_l294, n_l400, n_l1000, n_l1470, n_l5000, n_l1000000, n_o, n_nM, q_zk]
  rw [q1_top hF hI (Nat.le_refl _), q_bind, q1_ga hI hv, q_bind]
  by_cases e : q_top y (y 2) < y 0
  · have h1 : (nI (y 0) - nI (q_top y (y 2))) = nI (y 0 - q_top y (y 2)) := n_sub (by omega)
    simp (disch := first | omega | assumption) only [h1, n_le, n_eq, n_add, n_sub, n_div]
    rw [if_neg (by omega), if_neg (by omega), q_fif (by omega), if_pos e]
  · rw [if_neg e, if_pos]
    rw [Int32.le_iff_toInt_le, Int32.toInt_sub, n_T (by omega), n_T (by omega), n_T (by omega), show (2 ^ 32 : Nat) = 4294967296 from rfl]
    have e32 : ((4294967296 : Nat) : Int) = 4294967296 := rfl
    simp only [Int.bmod, e32]
    split <;> omega
theorem q1_pn (hI : q_I B y) {k : Nat} (hk : k ≤ 400) : f_X1_placesOfNext F (q_z y) (nI k) = some (nI (q_pn y k)) := by
  have h2 := hI.2.2.1
  unfold f_X1_placesOfNext q_pn
  simp (disch := first | omega | assumption) only [n_l0, n_l1, n_l2, n_l3, n_l4, n_l5, n_l6, n_l7, n_l8, n_l9, n_l10, n_l11, n_l12, n_l13, n_l14, n_l15, n_l16, n_l17, n_l18, n_l19, n_l20, n_l21, n_l22, n_l23, n_l24, n_l25, n_l30, n_l31, n_l33, n_l48, n_l49, n_l57, n_l60, n_l100, n_l114, n_l115, n_l126, n_l200, n_l214, n_l239, n_l264, n_l294, n_l400, n_l1000, n_l1470, n_l5000, n_l1000000, n_o, n_nM, q_zk, n_mul, n_add, n_div]
  rw [n_sub (by omega), n_add]
theorem q4_ttL (hM : m_z M = q_z y) (hI : q_I B y) {v : Nat} (hv : 8 ≤ v ∧ v ≤ 24) : ∀ n k, k ≤ q_ct y v → q_ct y v - k < n →
    ∃ a, f_X4_toTopNow_L21 F M (nI v) n (nI (q_top y (y 2) + k * q_ga y v)) (nI k) (nI (q_pn y k)) = some (a, nI (q_ct y v), nI (q_pn y (q_ct y v))) := by
  have h0 := hI.1
  have h2 := hI.2.2.1
  have ht := q_top_le hI (Nat.le_refl _)
  have hc := q_ct_le hI hv.1
  have hg2 := q_ga_le (y := y) hv.2
  intro n
  induction n with
  | zero => intro k _ h; omega
  | succ n ih =>
    intro k hk hn
    have hkm : k * q_ga y v ≤ 400 * 12 := Nat.mul_le_mul (by omega) hg2
    have hlt := q_ct_lt hI (k := k) hv.1
    unfold f_X4_toTopNow_L21
    rw [hM]
    simp (disch := first | omega | assumption) only [n_l0, n_l1, n_l2, n_l3, n_l4, n_l5, n_l6, n_l7, n_l8, n_l9, n_l10, n_l11, n_l12, n_l13, n_l14, n_l15, n_l16, n_l17, n_l18, n_l19, n_l20, n_l21, n_l22, n_l23, n_l24, n_l25, n_l30, n_l31, n_l33, n_l48, n_l49, n_l57, n_l60, n_l100, n_l114, n_l115, n_l126, n_l200, n_l214, n_l239, n_l264, n_l294, n_l400, n_l1000, n_l1470, n_l5000, n_l1000000, n_o, n_nM, q_g, n_C, q_zk, n_le]
    by_cases e : k = q_ct y v
    · subst e
      refine ⟨nI (q_top y (y 2) + q_ct y v * q_ga y v), ?_⟩
      rw [if_pos]
      have : ¬ (q_top y (y 2) + q_ct y v * q_ga y v < y 0) := by rw [hlt]; omega
      omega
    · have h3 : q_top y (y 2) + k * q_ga y v < y 0 := by rw [hlt]; omega
      rw [if_neg (by omega), q4_ga hM hI hv, q_bind, n_add, q4_pl hM (by omega), q_bind, n_add, n_add, n_add]
      obtain ⟨a, ha⟩ := ih (k + 1) (by omega) (by omega)
      refine ⟨a, ?_⟩
      rw [← ha]
      congr 1
      · rw [Nat.add_mul, Nat.one_mul, Nat.add_assoc]
      · unfold q_pn q_pl
        congr 1
        rw [Nat.add_mul, Nat.one_mul]; omega
theorem q4_tt (hF : 3000 ≤ F) (hM : m_z M = q_z y) (hI : q_I B y) {v w : Nat} (hv : 8 ≤ v ∧ v ≤ 24) (hw : w ≤ 1) : f_X4_toTopNow F M (nI v) (nI w) = some (if v ≤ q_lo y then (if w = 0 then nI (q_ct y v) else nI (q_pn y (q_ct y v))) else nM) := by
  have h6 := q_lo_le hI
  have hc := q_ct_le hI hv.1
  unfold f_X4_toTopNow
  rw [q4_lo hM hI, q_bind]
  simp (disch := first | omega | assumption) only [n_l0, n_l1, n_l2, n_l3, n_l4, n_l5, n_l6, n_l7, n_l8, n_l9, n_l10, n_l11, n_l12, n_l13, n_l14, n_l15, n_l16, n_l17, n_l18, n_l19, n_l20, n_l21, n_l22, n_l23, n_l24, n_l25, n_l30, n_l31, n_l33, n_l48, n_l49, n_l57, n_l60, n_l100, n_l114, n_l115, n_l126, n_l200, n_l214, n_l239, n_l264, n_l294, n_l400, n_l1000, n_l1470, n_l5000, n_l1000000, n_o, n_nM, n_le]
  by_cases e : v ≤ q_lo y
  · obtain ⟨a, ha⟩ := q4_ttL (F := F) hM hI hv F 0 (by omega) (by omega)
    rw [Nat.zero_mul, Nat.add_zero, show q_pn y 0 = 0 by unfold q_pn; omega] at ha
    rw [if_pos e, if_pos e, q4_top hF hM hI, q_bind, ha, q_bind]
    simp (disch := first | omega | assumption) only [n_eq]
    split <;> rfl
  · rw [if_neg e, if_neg e]
def q_best (y : Nat → Nat) (lo hi b : Nat) : Prop := lo ≤ b ∧ b ≤ hi ∧ (∀ v, lo ≤ v → v ≤ hi → q_co y b ≤ q_co y v) ∧ (∀ v, b < v → v ≤ hi → q_co y b < q_co y v)
theorem q_best_u {lo hi b b' : Nat} (h : q_best y lo hi b) (h' : q_best y lo hi b') : b = b' := by
  rcases Nat.lt_trichotomy b b' with e | e | e
  · have h1 := h.2.2.2 b' e h'.2.1
    have h2 := h'.2.2.1 b h.1 h.2.1
    omega
  · exact e
  · have h1 := h'.2.2.2 b e h.2.1
    have h2 := h.2.2.1 b' h'.1 h'.2.1
    omega
theorem q4_btL (hF : 3000 ≤ F) (hM : m_z M = q_z y) (hI : q_I B y) : ∀ n k b, 8 ≤ k → k ≤ q_lo y → q_lo y - k < n → q_best y 8 k b →
    ∃ b' o, f_X4_bestNow_L22 F M n (nI b) (nI (q_co y b)) (nI (k + 1)) = some (nI b', o) ∧ q_best y 8 (q_lo y) b' := by
  have h6 := q_lo_le hI
  intro n
  induction n with
  | zero => intro k b _ _ h; omega
  | succ n ih =>
    intro k b hk1 hk hn hb
    unfold f_X4_bestNow_L22
    rw [q4_lo hM hI, q_bind]
    simp (disch := first | omega | assumption) only [n_l0, n_l1, n_l2, n_l3, n_l4, n_l5, n_l6, n_l7, n_l8, n_l9, n_l10, n_l11, n_l12, n_l13, n_l14, n_l15, n_l16, n_l17, n_l18, n_l19, n_l20, n_l21, n_l22, n_l23, n_l24, n_l25, n_l30, n_l31, n_l33, n_l48, n_l49, n_l57, n_l60, n_l100, n_l114, n_l115, n_l126, n_l200, n_l214, n_l239, n_l264, n_l294, n_l400, n_l1000, n_l1470, n_l5000, n_l1000000, n_o, n_nM, n_lt]
    by_cases e : k = q_lo y
    · subst e
      exact ⟨b, _, if_pos (by omega), hb⟩
    · have hb1 := hb.1
      have hb2 := hb.2.1
      have c1 := q_co_le hI (v := b) hb.1 (by omega)
      have c2 := q_co_le hI (v := k + 1) (by omega) (by omega)
      rw [if_neg (by omega), q4_tt hF hM hI (v := k + 1) (w := 1) ⟨by omega, by omega⟩ (by omega), if_pos (by omega), if_neg (by omega), q_bind, q4_pc (by omega), q_bind, n_mul, show q_pn y (q_ct y (k + 1)) * q_pc (k + 1) = q_co y (k + 1) from rfl, n_add]
      simp (disch := first | omega | assumption) only [n_eqM, if_false, n_lt]
      by_cases e2 : q_co y b < q_co y (k + 1)
      · rw [if_pos e2]
        refine ih (k + 1) b (by omega) (by omega) (by omega) ⟨hb.1, by omega, fun v a c => ?_, fun v a c => ?_⟩
        · by_cases ev : v = k + 1
          · rw [ev]; omega
          · exact hb.2.2.1 v a (by omega)
        · by_cases ev : v = k + 1
          · rw [ev]; exact e2
          · exact hb.2.2.2 v a (by omega)
      · rw [if_neg e2]
        refine ih (k + 1) (k + 1) (by omega) (by omega) (by omega) ⟨by omega, by omega, fun v a c => ?_, fun v a c => by omega⟩
        by_cases ev : v = k + 1
        · rw [ev]; exact Nat.le_refl _
        · exact Nat.le_trans (by omega) (hb.2.2.1 v a (by omega))
theorem q1_btL (hF : 3000 ≤ F) (hI : q_I B y) {q : d_C} (hq : q.1 = q_z y) : ∀ n k b, 7 ≤ k → k < q_lo y → k < n → q_best y (k + 1) (q_lo y) b →
    ∃ b' o, f_X3_bestLength_L24 F q n (nI b) (nI (q_co y b)) (nI k) = some (nI b', o) ∧ q_best y 8 (q_lo y) b' := by
  have h6 := q_lo_le hI
  intro n
  induction n with
  | zero => intro k b _ _ h; omega
  | succ n ih =>
    intro k b hk1 hk hn hb
    unfold f_X3_bestLength_L24
    simp (disch := first | omega | assumption) only [n_l0, n_l1, n_l2, n_l3, n_l4, n_l5, n_l6, n_l7, n_l8, n_l9, n_l10, n_l11, n_l12, n_l13, n_l14, n_l15, n_l16, n_l17, n_l18, n_l19, n_l20, n_l21, n_l22, n_l23, n_l24, n_l25, n_l30, n_l31, n_l33, n_l48, n_l49, n_l57, n_l60, n_l100, n_l114, n_l115, n_l126, n_l200, n_l214, n_l239, n_l264, n_l294, n_l400, n_l1000, n_l1470, n_l5000, n_l1000000, n_o, n_nM, n_lt]
    by_cases e : k = 7
    · subst e
      exact ⟨b, _, if_pos (by omega), hb⟩
    · have hb1 := hb.1
      have hb2 := hb.2.1
      have c1 := q_co_le hI (v := b) (by omega) (by omega)
      have c2 := q_co_le hI (v := k) (by omega) (by omega)
      obtain ⟨j, rfl⟩ : ∃ j, k = j + 1 := ⟨k - 1, by omega⟩
      rw [if_neg (by omega), hq, q1_ct hF hI ⟨by omega, by omega⟩, q_bind, q1_pn hI (q_ct_le hI (by omega)), q_bind, q1_pc (by omega), q_bind, n_mul, show q_pn y (q_ct y (j + 1)) * q_pc (j + 1) = q_co y (j + 1) from rfl, n_sM]
      simp (disch := first | omega | assumption) only [n_eqM, if_false, n_le]
      by_cases e2 : q_co y b ≤ q_co y (j + 1)
      · rw [if_pos e2]
        refine ih j b (by omega) (by omega) (by omega) ⟨by omega, by omega, fun v a c => ?_, fun v a c => hb.2.2.2 v a c⟩
        by_cases ev : v = j + 1
        · rw [ev]; exact e2
        · exact hb.2.2.1 v (by omega) c
      · rw [if_neg e2]
        refine ih j (j + 1) (by omega) (by omega) (by omega) ⟨by omega, by omega, fun v a c => ?_, fun v a c => ?_⟩
        · by_cases ev : v = j + 1
          · rw [ev]; exact Nat.le_refl _
          · exact Nat.le_trans (by omega) (hb.2.2.1 v (by omega) c)
        · have := hb.2.2.1 v (by omega) c
          omega
/-- the best length: both tell the same -/
theorem q_bl (hF : 3000 ≤ F) (hM : m_z M = q_z y) (hI : q_I B y) {q : d_C} (hq : q.1 = q_z y) : ∃ r, f_X3_bestLength F q = some r ∧ f_X4_bestNow F M = some r := by
  have h0 := hI.1
  have h6 := q_lo_le hI
  have ht := q_top_le hI (Nat.le_refl _)
  unfold f_X3_bestLength f_X4_bestNow
  rw [hq, q1_high hF hI, q_bind, q4_top hF hM hI, q_bind, hM]
  simp (disch := first | omega | assumption) only [n_l0, n_l1, n_l2, n_l3, n_l4, n_l5, n_l6, n_l7, n_l8, n_l9, n_l10, n_l11, n_l12, n_l13, n_l14, n_l15, n_l16, n_l17, n_l18, n_l19, n_l20, n_l21, n_l22, n_l23, n_l24, n_l25, n_l30, n_l31, n_l33, n_l48, n_l49, n_l57, n_l60, n_l100, n_l114, n_l115, n_l126, n_l200, n_l214, n_l239, n_l264, n_l294, n_l400, n_l1000, n_l1470, n_l5000, n_l1000000, n_o, n_nM, q_g, n_C, q_zk, n_lt]
  by_cases e : q_top y (y 2) < y 0
  · rw [if_pos e, if_pos rfl, q1_lo hI, q_bind, if_pos e]
    obtain ⟨G, rfl⟩ : ∃ G, F = G + 1 := ⟨F - 1, by omega⟩
    -- the first turns
    have c8 := q_co_le hI (v := 8) (by omega) (by omega)
    have cl := q_co_le hI (v := q_lo y) (by omega) (by omega)
    have h4 : f_X4_bestNow_L22 (G + 1) M (G + 1) nM (nI 0) (nI 8) = f_X4_bestNow_L22 (G + 1) M G (nI 8) (nI (q_co y 8)) (nI (8 + 1)) := by
      conv => lhs; unfold f_X4_bestNow_L22
      rw [q4_lo hM hI, q_bind]
      simp (disch := first | omega | assumption) only [n_l0, n_l1, n_l2, n_l3, n_l4, n_l5, n_l6, n_l7, n_l8, n_l9, n_l10, n_l11, n_l12, n_l13, n_l14, n_l15, n_l16, n_l17, n_l18, n_l19, n_l20, n_l21, n_l22, n_l23, n_l24, n_l25, n_l30, n_l31, n_l33, n_l48, n_l49, n_l57, n_l60, n_l100, n_l114, n_l115, n_l126, n_l200, n_l214, n_l239, n_l264, n_l294, n_l400, n_l1000, n_l1470, n_l5000, n_l1000000, n_o, n_nM, n_lt]
      rw [if_neg (by omega), q4_tt hF hM hI (v := 8) (w := 1) ⟨by omega, by omega⟩ (by omega), if_pos (by omega), if_neg (by omega), q_bind, q4_pc (by omega), q_bind, n_mul, if_pos trivial]
      rfl
    obtain ⟨b4, o4, hb4, hB4⟩ := q4_btL (F := G + 1) hF hM hI G 8 8 (by omega) (by omega) (by omega) ⟨by omega, by omega, fun v a c => by rw [show v = 8 by omega]; exact Nat.le_refl _, fun v a c => by omega⟩
    obtain ⟨l, hl⟩ : ∃ l, q_lo y = l + 1 := ⟨q_lo y - 1, by omega⟩
    have h1 : f_X3_bestLength_L24 (G + 1) q (G + 1) nM (nI 0) (nI (q_lo y)) = f_X3_bestLength_L24 (G + 1) q G (nI (q_lo y)) (nI (q_co y (q_lo y))) (nI l) := by
      conv => lhs; unfold f_X3_bestLength_L24
      simp (disch := first | omega | assumption) only [n_l0, n_l1, n_l2, n_l3, n_l4, n_l5, n_l6, n_l7, n_l8, n_l9, n_l10, n_l11, n_l12, n_l13, n_l14, n_l15, n_l16, n_l17, n_l18, n_l19, n_l20, n_l21, n_l22, n_l23, n_l24, n_l25, n_l30, n_l31, n_l33, n_l48, n_l49, n_l57, n_l60, n_l100, n_l114, n_l115, n_l126, n_l200, n_l214, n_l239, n_l264, n_l294, n_l400, n_l1000, n_l1470, n_l5000, n_l1000000, n_o, n_nM, n_lt]
      rw [if_neg (by omega), hq, q1_ct hF hI ⟨by omega, by omega⟩, q_bind, q1_pn hI (q_ct_le hI (by omega)), q_bind, q1_pc (by omega), q_bind, n_mul, if_pos trivial, hl, n_sM]
      rfl
    obtain ⟨b1, o1, hb1, hB1⟩ := q1_btL (F := G + 1) hF hI hq G l (q_lo y) (by omega) (by omega) (by omega) ⟨by omega, by omega, fun v a c => by rw [show v = q_lo y by omega]; exact Nat.le_refl _, fun v a c => by omega⟩
    refine ⟨nI b1, ?_, ?_⟩
    · rw [h1, hb1]; rfl
    · rw [h4, hb4, q_best_u hB1 hB4]; rfl
  · refine ⟨nM, ?_, ?_⟩
    · rw [if_neg e, if_neg (by decide)]
    · rw [if_neg e]
end RD
