/-! digest: the loops -/
section RR
variable {B F : Nat} {y : Nat → Nat} {q : d_C} {M M0 : d_M} {h : Int64}
def q_hr (M0 M : d_M) (h : Int64) : Prop := m_z M = m_z M0 ∧ m_rows M = m_rows M0 ∧ m_text M = m_text M0 ∧ m_saved M = m_saved M0 ∧ m_length M = m_length M0 ∧ m_thrown M = m_thrown M0 ∧ m_h M = h
theorem q_nt {α β γ : Type} (a : α) (k : α → Option β) : f_nt (some (.inr a : γ ⊕ α)) k = k a := Eq.symm (Eq.symm (Eq.refl _))
theorem q_mxE (F : Nat) (M : d_M) (x : Int64) : f_X4_mix F M x = some (ms_h M ((((31 : Int64)) * (m_h M)) + x)) := Eq.symm (Eq.symm (Eq.refl _))
theorem q_mdE (F : Nat) (h x : Int64) : f_X3_mixed F h x = some ((((31 : Int64)) * h) + x) := Eq.symm (Eq.symm (Eq.refl _))
theorem q_hr_m (r : q_hr M0 M h) (x : Int64) : q_hr M0 (ms_h M ((((31 : Int64)) * (m_h M)) + x)) ((((31 : Int64)) * h) + x) := by
  obtain ⟨a, b, c, d, e, f, g⟩ := r
  subst g
  exact ⟨a, b, c, d, e, f, rfl⟩
theorem q_dg1 (hF : 3000 ≤ F) (hI : q_I B y) (hq : q.1 = q_z y) (hM : m_z M0 = q_z y) (hs : m_saved M0 = q.2.2.1.2.2) : ∀ n k (h : Int64) (M : d_M), k ≤ 19 → 19 - k < n → q_hr M0 M h →
    ∃ h' M', f_X3_digest_L6 F q n h (nI k) = some (h', nI 19) ∧ f_X4_digest_L14 F n (nI k) M = some (nI 19, M') ∧ q_hr M0 M' h' := by
  intro n
  induction n with
  | zero => intro k h M h1 h2; omega
  | succ n ih =>
    intro k h M h1 h2 r
    have hlt := n_lt (a := 18) (b := k) (by omega) (by omega)
    have hle := n_le (a := 19) (b := k) (by omega) (by omega)
    rw [f_X3_digest_L6, f_X4_digest_L14]
    simp only [n_l0, n_l1, n_l2, n_l3, n_l4, n_l5, n_l6, n_l7, n_l8, n_l9, n_l10, n_l11, n_l12, n_l13, n_l14, n_l15, n_l16, n_l17, n_l18, n_l19, n_l20, n_l21, n_l22, n_l23, n_l24, n_l25, n_l30, n_l31, n_l33, n_l48, n_l49, n_l57, n_l60, n_l100, n_l114, n_l115, n_l126, n_l200, n_l214, n_l239, n_l264, n_l294, n_l400, n_l1000, n_l1470, n_l5000, n_l1000000, n_o, n_nM, hlt, hle]
    by_cases e : k = 19
    · subst e
      rw [if_pos (by omega), if_pos (by omega)]
      exact ⟨h, M, rfl, rfl, r⟩
    · obtain ⟨x, e1, e2⟩ := q_cnt (F := F) hF hI hq (r.1.trans hM) (r.2.2.2.1.trans hs) (show k ≤ 18 by omega)
      rw [if_neg (by omega), if_neg (by omega), e1, q_nt, q_mdE, q_bind, e2, q_bind, q_mxE, q_bind, q_let, n_add]
      exact ih (k + 1) _ _ (by omega) (by omega) (q_hr_m r _)
theorem q_dg2 (hF : 3000 ≤ F) (hI : q_I B y) (hq : q.1 = q_z y) (hM : m_z M0 = q_z y) : ∀ n k (h : Int64) (M : d_M), k ≤ 3 → 3 - k < n → q_hr M0 M h →
    ∃ h' M', f_X3_digest_L31 F q n h (nI k) = some (h', nI 3) ∧ f_X4_digest_L38 F n (nI k) M = some (nI 3, M') ∧ q_hr M0 M' h' := by
  intro n
  induction n with
  | zero => intro k h M h1 h2; omega
  | succ n ih =>
    intro k h M h1 h2 r
    have hlt := n_lt (a := 2) (b := k) (by omega) (by omega)
    have hle := n_le (a := 3) (b := k) (by omega) (by omega)
    rw [f_X3_digest_L31, f_X4_digest_L38]
    simp only [n_l0, n_l1, n_l2, n_l3, n_l4, n_l5, n_l6, n_l7, n_l8, n_l9, n_l10, n_l11, n_l12, n_l13, n_l14, n_l15, n_l16, n_l17, n_l18, n_l19, n_l20, n_l21, n_l22, n_l23, n_l24, n_l25, n_l30, n_l31, n_l33, n_l48, n_l49, n_l57, n_l60, n_l100, n_l114, n_l115, n_l126, n_l200, n_l214, n_l239, n_l264, n_l294, n_l400, n_l1000, n_l1470, n_l5000, n_l1000000, n_o, n_nM, hlt, hle]
    by_cases e : k = 3
    · subst e
      rw [if_pos (by omega), if_pos (by omega)]
      exact ⟨h, M, rfl, rfl, r⟩
    · have e1 : f_X3_setting F q (nI k) = some (.inr (nI (y (3 + k)))) := by
        unfold f_X3_setting
        rw [hq]
        rcases (show k = 0 ∨ k = 1 ∨ k = 2 by omega) with e | e | e <;> subst e <;> rfl
      rw [if_neg (by omega), if_neg (by omega), e1, q_nt, q_mdE, q_bind, n_add 3 k, q_g (by omega) (by omega), n_C (by omega), r.1, hM, q_zk, q_mxE, q_bind, q_let, n_add k 1]
      exact ih (k + 1) _ _ (by omega) (by omega) (q_hr_m r _)
theorem q_dg3 (hF : 3000 ≤ F) (hI : q_I B y) (hq : q.1 = q_z y) (hM : m_z M0 = q_z y) {v : Nat} (hv : 8 ≤ v ∧ v ≤ 24) : ∀ n k (h : Int64) (M : d_M), k ≤ 4 → 4 - k < n → q_hr M0 M h →
    ∃ h' M', f_X3_withLengths_L16 F q (nI v) n h (nI k) = some (h', nI 4) ∧ f_X4_digest_L73 F (nI v) n (nI k) M = some (nI 4, M') ∧ q_hr M0 M' h' := by
  intro n
  induction n with
  | zero => intro k h M h1 h2; omega
  | succ n ih =>
    intro k h M h1 h2 r
    have hlt := n_lt (a := 3) (b := k) (by omega) (by omega)
    have hle := n_le (a := 4) (b := k) (by omega) (by omega)
    rw [f_X3_withLengths_L16, f_X4_digest_L73]
    simp only [n_l0, n_l1, n_l2, n_l3, n_l4, n_l5, n_l6, n_l7, n_l8, n_l9, n_l10, n_l11, n_l12, n_l13, n_l14, n_l15, n_l16, n_l17, n_l18, n_l19, n_l20, n_l21, n_l22, n_l23, n_l24, n_l25, n_l30, n_l31, n_l33, n_l48, n_l49, n_l57, n_l60, n_l100, n_l114, n_l115, n_l126, n_l200, n_l214, n_l239, n_l264, n_l294, n_l400, n_l1000, n_l1470, n_l5000, n_l1000000, n_o, n_nM, hlt, hle]
    by_cases e : k = 4
    · subst e
      rw [if_pos (by omega), if_pos (by omega)]
      exact ⟨h, M, rfl, rfl, r⟩
    · obtain ⟨x, e1, e2⟩ := q_slt (F := F) hF hI hq (r.1.trans hM) hv (show k ≤ 4 by omega)
      rw [if_neg (by omega), if_neg (by omega), e1, q_nt, q_mdE, q_bind, e2, q_bind, q_mxE, q_bind, q_let, n_add]
      exact ih (k + 1) _ _ (by omega) (by omega) (q_hr_m r _)
theorem q_dg4 (hF : 3000 ≤ F) (hI : q_I B y) (hq : q.1 = q_z y) (hM : m_z M0 = q_z y) : ∀ n k (h : Int64) (M : d_M), 8 ≤ k → k ≤ 25 → 25 - k < n → q_hr M0 M h →
    ∃ h' M', f_X3_withLengths_L6 F q n h (nI k) = some (h', nI 25) ∧ f_X4_digest_L65 F n (nI k) M = some (nI 25, M') ∧ q_hr M0 M' h' := by
  intro n
  induction n with
  | zero => intro k h M h0 h1 h2; omega
  | succ n ih =>
    intro k h M h0 h1 h2 r
    have hlt := n_lt (a := 24) (b := k) (by omega) (by omega)
    rw [f_X3_withLengths_L6, f_X4_digest_L65]
    simp only [n_l0, n_l1, n_l2, n_l3, n_l4, n_l5, n_l6, n_l7, n_l8, n_l9, n_l10, n_l11, n_l12, n_l13, n_l14, n_l15, n_l16, n_l17, n_l18, n_l19, n_l20, n_l21, n_l22, n_l23, n_l24, n_l25, n_l30, n_l31, n_l33, n_l48, n_l49, n_l57, n_l60, n_l100, n_l114, n_l115, n_l126, n_l200, n_l214, n_l239, n_l264, n_l294, n_l400, n_l1000, n_l1470, n_l5000, n_l1000000, n_o, n_nM, hlt]
    by_cases e : k = 25
    · subst e
      rw [if_pos (by omega), if_pos (by omega)]
      exact ⟨h, M, rfl, rfl, r⟩
    · obtain ⟨h3, M3, e1, e2, r3⟩ := q_dg3 (F := F) hF hI hq hM (v := k) (by omega) F 0 h M (by omega) (by omega) r
      obtain ⟨x, e3, e4⟩ := q_ttp (F := F) hF hI hq (r3.1.trans hM) (v := k) (w := 0) (by omega) (by omega)
      have r4 := q_hr_m r3 x.toInt64
      obtain ⟨x', e5, e6⟩ := q_ttp (F := F) hF hI hq (r4.1.trans hM) (v := k) (w := 1) (by omega) (by omega)
      have r5 := q_hr_m r4 x'.toInt64
      rw [if_neg (by omega), if_neg (by omega), e1, q_bind, e3, q_nt, q_mdE, q_bind, e5, q_nt, q_mdE, q_bind, e2, q_bind]
      simp only []
      rw [e4, q_bind, q_mxE, q_bind, q_let, e6, q_bind, q_mxE, q_bind, q_let, n_add]
      exact ih (k + 1) _ _ (by omega) (by omega) (by omega) r5
theorem q_dg5 (hF : 3000 ≤ F) (hI : q_I B y) (hq : q.1 = q_z y) (hM : m_z M0 = q_z y) {c : Nat} (hc : c < y 2) : ∀ n k (h : Int64) (M : d_M), k ≤ 7 → 7 - k < n → q_hr M0 M h →
    ∃ h' M', f_X3_withCourses_L20 F q (nI c) n h (nI k) = some (h', nI 7) ∧ f_X4_digest_L137 F (nI c) n (nI k) M = some (nI 7, M') ∧ q_hr M0 M' h' := by
  intro n
  induction n with
  | zero => intro k h M h1 h2; omega
  | succ n ih =>
    intro k h M h1 h2 r
    have hlt := n_lt (a := 6) (b := k) (by omega) (by omega)
    have hle := n_le (a := 7) (b := k) (by omega) (by omega)
    rw [f_X3_withCourses_L20, f_X4_digest_L137]
    simp only [n_l0, n_l1, n_l2, n_l3, n_l4, n_l5, n_l6, n_l7, n_l8, n_l9, n_l10, n_l11, n_l12, n_l13, n_l14, n_l15, n_l16, n_l17, n_l18, n_l19, n_l20, n_l21, n_l22, n_l23, n_l24, n_l25, n_l30, n_l31, n_l33, n_l48, n_l49, n_l57, n_l60, n_l100, n_l114, n_l115, n_l126, n_l200, n_l214, n_l239, n_l264, n_l294, n_l400, n_l1000, n_l1470, n_l5000, n_l1000000, n_o, n_nM, hlt, hle]
    by_cases e : k = 7
    · subst e
      rw [if_pos (by omega), if_pos (by omega)]
      exact ⟨h, M, rfl, rfl, r⟩
    · obtain ⟨x, e1, e2⟩ := q_cof (F := F) hF hI hq (r.1.trans hM) hc (show k ≤ 6 by omega)
      rw [if_neg (by omega), if_neg (by omega), e1, q_nt, q_mdE, q_bind, e2, q_bind, q_mxE, q_bind, q_let, n_add]
      exact ih (k + 1) _ _ (by omega) (by omega) (q_hr_m r _)
theorem q_dg6 (hF : 3000 ≤ F) (hI : q_I B y) (hq : q.1 = q_z y) (hM : m_z M0 = q_z y) {c : Nat} (hc : c < y 2) : ∀ n k (h : Int64) (M : d_M), k ≤ q_pl y c → q_pl y c - k < n → q_hr M0 M h →
    ∃ h' M', f_X3_withCourses_L61 F q (nI c) (nI (q_pl y c)) n h (nI k) = some (h', nI (q_pl y c)) ∧ f_X4_digest_L162 F (nI c) n (nI k) M = some (nI (q_pl y c), M') ∧ q_hr M0 M' h' := by
  have h2' := hI.2.2.1
  have hp := q_pl_le (c := c) hI.2.1.2
  intro n
  induction n with
  | zero => intro k h M h1 h2; omega
  | succ n ih =>
    intro k h M h1 h2 r
    have hle := n_le (a := q_pl y c) (b := k) (by omega) (by omega)
    rw [f_X3_withCourses_L61, f_X4_digest_L162, q4_pl (r.1.trans hM) (by omega), q_bind, hq]
    simp only [n_l0, n_l1, n_l2, n_l3, n_l4, n_l5, n_l6, n_l7, n_l8, n_l9, n_l10, n_l11, n_l12, n_l13, n_l14, n_l15, n_l16, n_l17, n_l18, n_l19, n_l20, n_l21, n_l22, n_l23, n_l24, n_l25, n_l30, n_l31, n_l33, n_l48, n_l49, n_l57, n_l60, n_l100, n_l114, n_l115, n_l126, n_l200, n_l214, n_l239, n_l264, n_l294, n_l400, n_l1000, n_l1470, n_l5000, n_l1000000, n_o, n_nM, hle]
    by_cases e : k = q_pl y c
    · subst e
      rw [if_pos (by omega), if_pos (by omega)]
      exact ⟨h, M, rfl, rfl, r⟩
    · have hb := q_b_le (y (114 + c)) k
      have heq := n_eq (a := q_b (y (114 + c)) k) (b := 0) (by omega) (by omega)
      rw [if_neg (by omega), if_neg (by omega), q1_has hI hc (by omega), q_bind, q4_has (r.1.trans hM) hI hc (by omega), q_bind]
      simp only [heq]
      by_cases e2 : q_b (y (114 + c)) k = 0
      · rw [if_pos e2, if_pos e2, q_mdE, q_bind, q_mxE, q_bind, q_let, n_add]
        exact ih (k + 1) _ _ (by omega) (by omega) (q_hr_m r _)
      · rw [if_neg e2, if_neg e2, q_mdE, q_bind, q_mxE, q_bind, q_let, n_add]
        exact ih (k + 1) _ _ (by omega) (by omega) (q_hr_m r _)
theorem q_dg7 (hF : 3000 ≤ F) (hI : q_I B y) (hq : q.1 = q_z y) (hM : m_z M0 = q_z y) : ∀ n k (h : Int64) (M : d_M), k ≤ y 2 → y 2 - k < n → q_hr M0 M h →
    ∃ h' M', f_X3_withCourses_L5 F q n h (nI k) = some (h', nI (y 2)) ∧ f_X4_digest_L125 F n (nI k) M = some (nI (y 2), M') ∧ q_hr M0 M' h' := by
  have h2' := hI.2.2.1
  intro n
  induction n with
  | zero => intro k h M h1 h2; omega
  | succ n ih =>
    intro k h M h1 h2 r
    have hp := q_pl_le (c := k) hI.2.1.2
    have hle := n_le (a := y 2) (b := k) (by omega) (by omega)
    rw [f_X3_withCourses_L5, f_X4_digest_L125, hq, r.1, hM]
    simp (disch := first | omega | assumption) only [n_l0, n_l1, n_l2, n_l3, n_l4, n_l5, n_l6, n_l7, n_l8, n_l9, n_l10, n_l11, n_l12, n_l13, n_l14, n_l15, n_l16, n_l17, n_l18, n_l19, n_l20, n_l21, n_l22, n_l23, n_l24, n_l25, n_l30, n_l31, n_l33, n_l48, n_l49, n_l57, n_l60, n_l100, n_l114, n_l115, n_l126, n_l200, n_l214, n_l239, n_l264, n_l294, n_l400, n_l1000, n_l1470, n_l5000, n_l1000000, n_o, n_nM, q_g, n_C, q_zk2, hle]
    by_cases e : k = y 2
    · subst e
      rw [if_pos (by omega), if_pos (by omega)]
      exact ⟨h, M, rfl, rfl, r⟩
    · obtain ⟨h3, M3, e1, e2, r3⟩ := q_dg5 (F := F) hF hI hq hM (c := k) (by omega) F 0 h M (by omega) (by omega) r
      obtain ⟨h4, M4, e3, e4, r4⟩ := q_dg6 (F := F) hF hI hq hM (c := k) (by omega) F 0 h3 M3 (by omega) (by omega) r3
      rw [if_neg (by omega), if_neg (by omega), e1, q_bind, q1_pl (by omega), q_bind]
      simp only []
      rw [e3, q_bind, e2, q_bind]
      simp only []
      rw [e4, q_bind, n_add]
      exact ih (k + 1) _ _ (by omega) (by omega) r4
end RR
