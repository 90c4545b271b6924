/-! set, cover, setting, clearBuffer, firstError, bestLength, dryDays, reach -/
section RR
variable {B F : Nat} {y : Nat → Nat} {q : d_C} {M : d_M}
theorem q_op_cover (hF : 3000 ≤ F) (h : q_rel B y q M) (hB : B + 20000 ≤ 1000000000) {b : Nat} (hb : b ≤ 1) : ∃ x q' M', f_X3_cover F q (nI b) = some (x, q') ∧ f_X4_cover F M (nI b) = some (x, M') ∧ q_R (B + 20000) q' M' := by
  obtain ⟨sv, M1, k1, k2, kt, k3⟩ := q_keepS hF h
  have hI' : q_I (B + 20000) (q_u y 9 b) := q_set_I h.1 (by omega) hB (by omega)
  have h9 := h.1.2.2.2.2.2.2.2.2.2.1
  have hbb : b = 0 ∨ b = 1 := by omega
  unfold f_X3_cover f_X4_cover
  simp only [n_l0, n_l1, n_l2, n_l3, n_l4, n_l5, n_l6, n_l7, n_l8, n_l9, n_l10, n_l11, n_l12, n_l13, n_l14, n_l15, n_l16, n_l17, n_l18, n_l19, n_l20, n_l21, n_l22, n_l23, n_l24, n_l25, n_l30, n_l31, n_l33, n_l48, n_l49, n_l57, n_l60, n_l100, n_l114, n_l115, n_l126, n_l200, n_l214, n_l239, n_l264, n_l294, n_l400, n_l1000, n_l1470, n_l5000, n_l1000000, n_o, n_nM, q_let, k1, q_bind]
  simp (disch := first | omega | assumption) only [k2, q_bind, q_g, n_C, q_M_z, q_zk, n_eq, q_zu, q_M_s, q_M_d]
  simp only [q_fif hbb]
  refine ⟨nI (y 9), (q_z (q_u y 9 b), q.2.1, sv, q.2.2.2), q_M M1 (q_u y 9 b), ?_, ?_, _, k3 _ _ _ _ hI' (by omega) (q_sm_rf _)⟩
  · rcases (show y 9 = 0 ∨ y 9 = 1 by omega) with e | e
    · rw [if_pos e, e]
    · rw [if_neg (by omega), e]
  · rcases (show b = 0 ∨ b = 1 by omega) with e | e
    · rw [if_pos e, e]
    · rw [if_neg (by omega), e]
theorem q_op_dry (hF : 3000 ≤ F) (h : q_rel B y q M) (hB : B + 20000 ≤ 1000000000) : ∃ x q' M', f_X3_dryDays F q = some (x, q') ∧ f_X4_dryDays F M = some (x, M') ∧ q_R (B + 20000) q' M' := by
  obtain ⟨tr, h1⟩ := q1_dd hF h.1 hB h.2.1
  obtain ⟨a', h2⟩ := q4_dd (M := ms_thrown M (nI 0)) hF h.1 hB
  have e : q_M (ms_thrown M (nI 0)) y = ms_thrown M (nI 0) := (q_M_e (show m_z (ms_thrown M (nI 0)) = q_z y from h.2.2.1)).symm
  rw [e] at h2
  refine ⟨_, _, ms_aside (ms_thrown M (nI 0)) a', h1, ?_, y, q_rel_c (q := q) (M := M) h (by omega) hB ⟨rfl, rfl⟩ ⟨rfl, rfl, rfl, rfl, rfl⟩⟩
  unfold f_X4_dryDays
  rw [n_l0, q_let, h2, q_bind, q_let]
theorem q_op_best (hF : 3000 ≤ F) (h : q_rel B y q M) (hB : B + 20000 ≤ 1000000000) : ∃ x M', f_X3_bestLength F q = some x ∧ f_X4_bestLength F M = some (x, M') ∧ q_R (B + 20000) q M' := by
  obtain ⟨r, h1, h2⟩ := q_bl (M := ms_thrown M (nI 0)) hF h.2.2.1 h.1 h.2.1
  refine ⟨r, ms_thrown M (nI 0), h1, ?_, y, q_rel_c (q := q) (M := M) h (by omega) hB ⟨rfl, rfl⟩ ⟨rfl, rfl, rfl, rfl, rfl⟩⟩
  unfold f_X4_bestLength
  rw [n_l0, q_let, h2]; rfl
theorem q_op_clb (h : q_rel B y q M) (hB : B + 20000 ≤ 1000000000) : ∃ x q' M', f_X3_clearBuffer F q = some (x, q') ∧ f_X4_clearBuffer F M = some (x, M') ∧ q_R (B + 20000) q' M' := by
  obtain ⟨h1, h2, h3, ⟨m, S, h4, h5⟩, ⟨len, c, h6, h7, h8, h9⟩⟩ := h
  refine ⟨nI len, (q.1, q.2.1, q.2.2.1, (q.2.2.2.1, nI 0, q.2.2.2.2.2)), ms_length (ms_thrown M (nI 0)) (nI 0), ?_, ?_, y, q_I_mono h1 (by omega) hB, h2, h3, ⟨m, S, h4, fun k hk => q_I_mono (h5 k hk) (by omega) hB⟩, 0, c, by omega, rfl, rfl, fun k hk => absurd hk (Nat.not_lt_zero k)⟩
  · unfold f_X3_clearBuffer
    rw [q_let, h7]; rfl
  · unfold f_X4_clearBuffer
    rw [q_let, q_let]
    show some (m_length M, _) = _
    rw [h8]; rfl
theorem q_op_fe (hF : 3000 ≤ F) (h : q_rel B y q M) (hB : B + 20000 ≤ 1000000000) : ∃ x M', f_X3_firstError F q = some x ∧ f_X4_firstError F M = some (x, M') ∧ q_R (B + 20000) q M' := by
  obtain ⟨len, c, h6, h7, h8, h9⟩ := h.2.2.2.2
  have e1 := q1_fw (F := F) hF h7 h6 (fun k hk => ⟨(h9 k hk).1, (h9 k hk).2.2⟩)
  obtain ⟨M', g1, g2, -⟩ := q4_read (F := F) (M := ms_thrown M (nI 0)) hF h6 (fun k hk => (h9 k hk).2.2) h8 (fun k hk => (h9 k hk).2.1)
  refine ⟨nI (q_fe c len), M', ?_, ?_, y, q_rel_c (q := q) (M := M) h (by omega) hB ⟨rfl, rfl⟩ ⟨g2.1, g2.2.1, g2.2.2.1, g2.2.2.2.1, g2.2.2.2.2.1⟩⟩
  · unfold f_X3_firstError
    rw [e1]; rfl
  · unfold f_X4_firstError
    rw [n_l0, q_let, g1]; rfl
theorem q_set_y {k v : Nat} (hI : q_I B y) (hB : B + 20000 ≤ 1000000000) (hk : k = 3 ∧ 2 ≤ v ∧ v ≤ 6 ∨ k = 4 ∧ 1 ≤ v ∧ v ≤ 60 ∨ k = 5 ∧ 1 ≤ v ∧ v ≤ 5) : q_I (B + 20000) (q_u y k v) := q_set_I hI (by omega) hB (by omega)
theorem q_op_setting (hF : 3000 ≤ F) (h : q_rel B y q M) (hB : B + 20000 ≤ 1000000000) (v : Int64) (a1 : Int32) : q_go B (f_L_setting F q v a1) (f_X4_setting F M a1) := by
  unfold f_L_setting f_X3_setting f_X4_setting
  simp only [q_let, q_wX4, q_fails, q_bind, n_l0, n_l1, n_l2, n_l3, n_l4, n_l5, n_l6, n_l7, n_l8, n_l9, n_l10, n_l11, n_l12, n_l13, n_l14, n_l15, n_l16, n_l17, n_l18, n_l19, n_l20, n_l21, n_l22, n_l23, n_l24, n_l25, n_l30, n_l31, n_l33, n_l48, n_l49, n_l57, n_l60, n_l100, n_l114, n_l115, n_l126, n_l200, n_l214, n_l239, n_l264, n_l294, n_l400, n_l1000, n_l1470, n_l5000, n_l1000000, n_o, n_nM]
  rcases q_wn (F := F) (a := a1) (lo := 0) (hi := 2) (by omega) (by omega) with e | ⟨a, rfl, ha1, ha2, e⟩
  · simp only [e, q_bind, if_true]
    exact q_bad (tr := q.2.1) h hB (Or.inl rfl)
  · have hz : m_z (ms_thrown M (nI 0)) = q_z y := h.2.2.1
    simp only [e, q_bind]
    rw [if_neg (by decide), if_neg (by decide), h.2.1]
    have hs : f_X1_settingOf F (q_z y) (nI a) = some (nI (y (3 + a))) := by
      unfold f_X1_settingOf
      rcases (show a = 0 ∨ a = 1 ∨ a = 2 by omega) with e | e | e <;> subst e <;> rfl
    rw [hs]
    simp (disch := first | omega | assumption) only [q_bind, n_add, q_g, n_C, hz, q_zk]
    exact ⟨nI 0, q, _, nI (y (3 + a)), ms_thrown M (nI 0), rfl, rfl, rfl, fun _ => rfl, y, q_rel_c (q := q) (M := M) h (by omega) hB ⟨rfl, rfl⟩ ⟨rfl, rfl, rfl, rfl, rfl⟩⟩
end RR
