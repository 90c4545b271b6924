/-! digest: the rest -/
section RR
variable {B F : Nat} {y : Nat → Nat} {M M0 : d_M} {h : Int64}
theorem q_hr_s {M' : d_M} (r : q_hr M0 M h) (s : q_sm M M') : q_hr M0 M' h := by
  obtain ⟨a, b, c, d, e, f, g⟩ := r
  obtain ⟨s1, s2, s3, s4, s5, s6, s7⟩ := s
  exact ⟨s1.trans a, s2.trans b, s3.trans c, s4.trans d, s5.trans e, s6.trans f, s7.trans g⟩
theorem q_dg8 (hF : 3000 ≤ F) (hI : q_I B y) (hM : m_z M0 = q_z y) : ∀ n k (h : Int64) (M : d_M) (q : d_C), q.1 = q_z y → k ≤ 4 → 4 - k < n → q_hr M0 M h →
    ∃ h' M' tr, f_X3_digest_L67 F n h (nI k) q = some (h', nI 4, (q.1, tr, q.2.2)) ∧ f_X4_digest_L203 F n (nI k) M = some (nI 4, M') ∧ q_hr M0 M' h' := by
  intro n
  induction n with
  | zero => intro k h M q hq h1 h2; omega
  | succ n ih =>
    intro k h M q hq h1 h2 r
    have hlt := n_lt (a := 3) (b := k) (by omega) (by omega)
    have hle := n_le (a := 4) (b := k) (by omega) (by omega)
    rw [f_X3_digest_L67, f_X4_digest_L203]
    simp only [n_l0, n_l1, n_l2, n_l3, n_l4, n_l5, n_l6, n_l7, n_l8, n_l9, n_l10, n_l11, n_l12, n_l13, n_l14, n_l15, n_l16, n_l17, n_l18, n_l19, n_l20, n_l21, n_l22, n_l23, n_l24, n_l25, n_l30, n_l31, n_l33, n_l48, n_l49, n_l57, n_l60, n_l100, n_l114, n_l115, n_l126, n_l200, n_l214, n_l239, n_l264, n_l294, n_l400, n_l1000, n_l1470, n_l5000, n_l1000000, n_o, n_nM, hlt, hle]
    by_cases e : k = 4
    · subst e
      rw [if_pos (by omega), if_pos (by omega)]
      exact ⟨h, M, q.2.1, rfl, rfl, r⟩
    · obtain ⟨tr, e1⟩ := q1_re (F := F) hF hI hq (show k ≤ 3 by omega)
      obtain ⟨M', e2, s⟩ := q4_re (F := F) (M := M) hF hI (show k ≤ 3 by omega)
      have hMe := q_M_e (r.1.trans hM)
      rw [← hMe] at e2 s
      have r' := q_hr_s r s
      rw [if_neg (by omega), if_neg (by omega), e1, q_nt, q_let, q_mdE, q_bind, e2, q_bind, q_let, q_mxE, q_bind, q_let, n_add]
      obtain ⟨h3, M3, tr3, g1, g2, g3⟩ := ih (k + 1) _ _ (q.1, tr, q.2.2) hq (by omega) (by omega) (q_hr_m r' (q_rv y k).toInt64)
      exact ⟨h3, M3, tr3, g1, g2, g3⟩
theorem q_dg9 {len : Nat} {c : Nat → Nat} {q : d_C} (hl : len ≤ 60) (ht : q.2.2.2.2.1 = nI len) (hL : m_length M0 = nI len) (hc : ∀ k, k < len → q.2.2.2.1 k = nI (c k) ∧ m_text M0 k = nI (c k) ∧ c k < 128) : ∀ n k (h : Int64) (M : d_M), k ≤ len → len - k < n → q_hr M0 M h →
    ∃ h' M', f_X3_digest_L136 F q n h (nI k) = some (h', nI len) ∧ f_X4_digest_L264 F n (nI k) M = some (nI len, M') ∧ q_hr M0 M' h' := by
  intro n
  induction n with
  | zero => intro k h M h1 h2; omega
  | succ n ih =>
    intro k h M h1 h2 r
    have hle := n_le (a := len) (b := k) (by omega) (by omega)
    have hL' := r.2.2.2.2.1.trans hL
    rw [f_X3_digest_L136, f_X4_digest_L264]
    simp only [ht, hL', hle]
    by_cases e : k = len
    · subst e
      rw [if_pos (by omega), if_pos (by omega)]
      exact ⟨h, M, rfl, rfl, r⟩
    · have hk : k < len := by omega
      have e1 := q_sg (F := F) (t := q.2.2.2) ht hl (fun k hk => ⟨(hc k hk).1, (hc k hk).2.2⟩) hk
      rw [if_neg (by omega), if_neg (by omega), e1, q_bind, q_mdE, q_bind, q_g (by omega) (by omega), n_C (by omega), r.2.2.1, (hc k hk).2.1, q_mxE, q_bind, q_let, show nI k + (1 : Int32) = nI (k + 1) from n_add k 1]
      exact ih (k + 1) _ _ (by omega) (by omega) (q_hr_m r _)
theorem q_op_digest {q : d_C} (hF : 3000 ≤ F) (h : q_rel B y q M) (hB : B + 20000 ≤ 1000000000) : ∃ x q' M', f_X3_digest F q = some (x, q') ∧ f_X4_digest F M = some (x, M') ∧ q_R (B + 20000) q' M' := by
  have hI := h.1
  have hq := h.2.1
  have h2 := hI.2.2.1
  obtain ⟨len, c, t6, t7, t8, t9⟩ := h.2.2.2.2
  obtain ⟨M0, hM0⟩ : ∃ M0 : d_M, M0 = ms_h (ms_thrown M (nI 0)) ((2273 : Int64)) := ⟨_, rfl⟩
  have hM : m_z M0 = q_z y := by rw [hM0]; exact h.2.2.1
  have hs : m_saved M0 = q.2.2.1.2.2 := by rw [hM0]; exact q_rel_sv h
  have hL : m_length M0 = nI len := by rw [hM0]; exact t8
  have hT : ∀ k, k < len → q.2.2.2.1 k = nI (c k) ∧ m_text M0 k = nI (c k) ∧ c k < 128 := by rw [hM0]; exact t9
  have r0 : q_hr M0 M0 ((2273 : Int64)) := ⟨rfl, rfl, rfl, rfl, rfl, rfl, by rw [hM0]⟩
  obtain ⟨h1, M1, a1, b1, r1⟩ := q_dg1 (F := F) hF hI hq hM hs F 0 _ _ (by omega) (by omega) r0
  obtain ⟨h2, M2, a2, b2, r2⟩ := q_dg2 (F := F) hF hI hq hM F 0 _ _ (by omega) (by omega) r1
  obtain ⟨h3, M3, a3, b3, r3⟩ := q_dg4 (F := F) hF hI hq hM F 8 _ _ (by omega) (by omega) (by omega) r2
  obtain ⟨h4, M4, a4, b4, r4⟩ := q_dg7 (F := F) hF hI hq hM F 0 _ _ (by omega) (by omega) r3
  obtain ⟨h5, M5, tr5, a5, b5, r5⟩ := q_dg8 (F := F) hF hI hM F 0 _ _ q hq (by omega) (by omega) r4
  obtain ⟨tr6, a6⟩ := q1_dd (F := F) (q := (q.1, tr5, q.2.2)) hF hI hB hq
  obtain ⟨x6, hx6⟩ : ∃ x6 : Int32, x6 = (if q_fd 201 (q_u y 9 0) ≤ 200 then nI (q_fd 201 (q_u y 9 0)) else nM) := ⟨_, rfl⟩
  obtain ⟨as6, b6⟩ := q4_dd (F := F) (M := M5) hF hI hB
  rw [← hx6] at a6 b6
  have hMe := q_M_e (r5.1.trans hM)
  rw [← hMe] at b6
  have r6 : q_hr M0 (ms_aside M5 as6) h5 := r5
  have r6' := q_hr_m r6 x6.toInt64
  obtain ⟨x7, a7, b7⟩ := q_bl (F := F) (q := (q.1, tr6, q.2.2)) hF (r6'.1.trans hM) hI hq
  have r7 := q_hr_m r6' x7.toInt64
  obtain ⟨x8, d8, a8, b8, a8', b8'⟩ := q_mp (F := F) (q := (q.1, tr6, q.2.2)) hF hI hB hq (r7.1.trans hM)
  have r8 := q_hr_m r7 d8
  have r9 := q_hr_m r8 (nI len).toInt64
  obtain ⟨h10, M10, a10, b10, r10⟩ := q_dg9 (F := F) (q := (q.1, tr6, q.2.2)) t6 t7 hL hT F 0 _ _ (by omega) (by omega) r9
  have w1 : f_X3_withLengths F q h2 = some h3 := by
    unfold f_X3_withLengths
    simp only [n_l0, n_l1, n_l2, n_l3, n_l4, n_l5, n_l6, n_l7, n_l8, n_l9, n_l10, n_l11, n_l12, n_l13, n_l14, n_l15, n_l16, n_l17, n_l18, n_l19, n_l20, n_l21, n_l22, n_l23, n_l24, n_l25, n_l30, n_l31, n_l33, n_l48, n_l49, n_l57, n_l60, n_l100, n_l114, n_l115, n_l126, n_l200, n_l214, n_l239, n_l264, n_l294, n_l400, n_l1000, n_l1470, n_l5000, n_l1000000, n_o, n_nM]
    rw [a3, q_bind]
  have w2 : f_X3_withCourses F q h3 = some h4 := by
    unfold f_X3_withCourses
    simp only [n_l0, n_l1, n_l2, n_l3, n_l4, n_l5, n_l6, n_l7, n_l8, n_l9, n_l10, n_l11, n_l12, n_l13, n_l14, n_l15, n_l16, n_l17, n_l18, n_l19, n_l20, n_l21, n_l22, n_l23, n_l24, n_l25, n_l30, n_l31, n_l33, n_l48, n_l49, n_l57, n_l60, n_l100, n_l114, n_l115, n_l126, n_l200, n_l214, n_l239, n_l264, n_l294, n_l400, n_l1000, n_l1470, n_l5000, n_l1000000, n_o, n_nM]
    rw [a4, q_bind]
  refine ⟨h10, (q.1, tr6, q.2.2), M10, ?_, ?_, y, q_rel_c (q := q) (M := M) h (by omega) hB ⟨rfl, rfl⟩ ?_⟩
  · unfold f_X3_digest
    simp only [n_l0, n_l1, n_l2, n_l3, n_l4, n_l5, n_l6, n_l7, n_l8, n_l9, n_l10, n_l11, n_l12, n_l13, n_l14, n_l15, n_l16, n_l17, n_l18, n_l19, n_l20, n_l21, n_l22, n_l23, n_l24, n_l25, n_l30, n_l31, n_l33, n_l48, n_l49, n_l57, n_l60, n_l100, n_l114, n_l115, n_l126, n_l200, n_l214, n_l239, n_l264, n_l294, n_l400, n_l1000, n_l1470, n_l5000, n_l1000000, n_o, n_nM]
    rw [a1, q_bind]
    simp only []
    rw [a2, q_bind]
    simp only []
    rw [w1, q_bind, w2, q_bind, a5, q_bind]
    simp only []
    rw [a6, q_bind, q_let]
    simp only []
    rw [q_mdE, q_bind, a7, q_bind, q_mdE, q_bind, a8, q_bind, a8', q_bind, q_mdE, q_bind, t7, q_mdE, q_bind, a10, q_bind]
  · unfold f_X4_digest
    simp only [n_l0, n_l1, n_l2, n_l3, n_l4, n_l5, n_l6, n_l7, n_l8, n_l9, n_l10, n_l11, n_l12, n_l13, n_l14, n_l15, n_l16, n_l17, n_l18, n_l19, n_l20, n_l21, n_l22, n_l23, n_l24, n_l25, n_l30, n_l31, n_l33, n_l48, n_l49, n_l57, n_l60, n_l100, n_l114, n_l115, n_l126, n_l200, n_l214, n_l239, n_l264, n_l294, n_l400, n_l1000, n_l1470, n_l5000, n_l1000000, n_o, n_nM]
    rw [q_let, q_let, ← hM0, b1, q_bind]
    simp only []
    rw [b2, q_bind]
    simp only []
    rw [b3, q_bind]
    simp only []
    rw [b4, q_bind]
    simp only []
    rw [b5, q_bind]
    simp only []
    rw [b6, q_bind, q_let]
    simp only []
    rw [q_mxE, q_bind, q_let, b7, q_bind, q_mxE, q_bind, q_let, b8, q_bind, b8', q_bind, q_mxE, q_bind, q_let, r8.2.2.2.2.1, hL, q_mxE, q_bind, q_let, b10, q_bind]
    rw [r10.2.2.2.2.2.2]
  · obtain ⟨z1, z2, z3, z4, z5, -, -⟩ := r10
    rw [hM0] at z1 z2 z3 z4 z5
    exact ⟨z1, z2, z3, z4, z5⟩
end RR
