/-! recut, clearHeap -/
section RR
variable {B F : Nat} {y : Nat → Nat} {q : d_C} {M : d_M}
def q_rc (y : Nat → Nat) (a t m : Nat) : Nat → Nat := q_u (q_u (q_u y (239 + a) (y (239 + a) - m)) (214 + t) (y (214 + t) + m)) 10 (y 10 + m)
theorem q_rc_I {a t m : Nat} (hI : q_I B y) (hB : B + 20000 ≤ 1000000000) (ha : 8 ≤ a ∧ a ≤ 24) (ht : 8 ≤ t ∧ t ≤ 20) (hm : m ≤ 200) : q_I (B + 20000) (q_rc y a t m) := by
  have h13 := hI.2.2.2.2.2.2.2.2.2.2.2.1
  have h12 := hI.2.2.2.2.2.2.2.2.2.2.1
  have hv := hI.2.2.2.2.2.2.2.2.2.2.2.2.2.1
  have hs := hI.2.2.2.2.2.2.2.2.2.2.2.2.2.2.1
  have e : ∀ j, j ≠ 239 + a → j ≠ 214 + t → j ≠ 10 → q_rc y a t m j = y j := fun j h1 h2 h3 => by
    unfold q_rc
    rw [q_u_ne h3, q_u_ne h2, q_u_ne h1]
  have e2 : q_rc y a t m (239 + a) = y (239 + a) - m := by unfold q_rc; rw [q_u_ne (by omega), q_u_ne (by omega), q_u_eq]
  have e3 : q_rc y a t m (214 + t) = y (214 + t) + m := by unfold q_rc; rw [q_u_ne (by omega), q_u_eq]
  have es : q_sum (fun v => q_rc y a t m (264 + v)) 25 = q_sum (fun v => y (264 + v)) 25 := q_sum_cg (fun k hk => e (264 + k) (by omega) (by omega) (by omega))
  refine q_I_ch hI hB (by omega) (fun j hj => e j (by omega) (by omega) (by omega)) (by rw [e 12 (by omega) (by omega) (by omega)]; omega) (by rw [e 13 (by omega) (by omega) (by omega)]; omega) (fun w hw => ?_) (by rw [es]; exact hs)
  have h0 := hv w hw
  rw [e (264 + w) (by omega) (by omega) (by omega)]
  have i1 : q_rc y a t m (214 + w) ≤ B + 20000 ∧ (w < 8 → q_rc y a t m (214 + w) = 0) := by
    by_cases hwt : w = t
    · subst hwt; rw [e3]; exact ⟨by omega, fun h => by omega⟩
    · rw [e (214 + w) (by omega) (by omega) (by omega)]; exact ⟨by omega, fun h => (h0.2.2.2 h).1⟩
  have i2 : q_rc y a t m (239 + w) ≤ B + 20000 ∧ (w < 8 → q_rc y a t m (239 + w) = 0) := by
    by_cases hwt : w = a
    · subst hwt; rw [e2]; exact ⟨by omega, fun h => by omega⟩
    · rw [e (239 + w) (by omega) (by omega) (by omega)]; exact ⟨by omega, fun h => (h0.2.2.2 h).2.1⟩
  exact ⟨i1.1, i2.1, h0.2.2.1, fun h => ⟨i1.2 h, i2.2 h, (h0.2.2.2 h).2.2⟩⟩
theorem q_op_recut (hF : 3000 ≤ F) (h : q_rel B y q M) (hB : B + 20000 ≤ 1000000000) (v : Int64) (a1 a2 a3 : Int32) : q_go B (f_L_recut F q v a1 a2 a3) (f_X4_recut F M a1 a2 a3) := by
  have hz : m_z (ms_thrown M (nI 0)) = q_z y := h.2.2.1
  have hn10 : ¬ nI 1 = nI 0 := by decide
  have hI := h.1
  have hlen1 : f_X3_isLength F a1 = f_X3_isWithin F a1 (nI 8) (nI 24) := rfl
  have hlen4 : f_X4_isLength F a1 = (f_X3_isWithin F a1 (nI 8) (nI 24)).bind fun x2 => f_if (x2 = nI 0 ∨ x2 = nI 1) (some x2) := rfl
  have hq : (fun k => q.1 (239 + k)) = fun k => q_z y (239 + k) := by rw [h.2.1]
  have hbad := q_bad (v := v) (tr := q.2.1) h hB (Or.inl rfl)
  unfold f_L_recut f_X3_recut f_X4_recut
  simp only [q_let, q_fails, q_bind, n_l0, n_l1, n_l2, n_l3, n_l4, n_l5, n_l6, n_l7, n_l8, n_l9, n_l10, n_l11, n_l12, n_l13, n_l14, n_l15, n_l16, n_l17, n_l18, n_l19, n_l20, n_l21, n_l22, n_l23, n_l24, n_l25, n_l30, n_l31, n_l33, n_l48, n_l49, n_l57, n_l60, n_l100, n_l114, n_l115, n_l126, n_l200, n_l214, n_l239, n_l264, n_l294, n_l400, n_l1000, n_l1470, n_l5000, n_l1000000, n_o, n_nM, hlen1, hlen4, q_wX4, hq]
  rcases q_wn2 (F := F) (a := a1) (lo := 8) (hi := 24) (by omega) (by omega) with ⟨e, en⟩ | ⟨a, rfl, ha1, ha2, e⟩
  · rw [e, q_bind, q_bind, if_pos rfl, q_fif (Or.inl rfl), q_bind, q_bind, if_pos rfl]
    exact hbad
  · rw [e, q_bind, q_bind, if_neg hn10, q_fif (Or.inr rfl), q_bind, if_neg hn10]
    rcases q_wn2 (F := F) (a := a2) (lo := 8) (hi := 20) (by omega) (by omega) with ⟨e', en'⟩ | ⟨t, rfl, ht1, ht2, e'⟩
    · rw [e', q_bind, q_bind, if_pos rfl, if_pos rfl, q_bind]
      exact hbad
    · rw [e', q_bind, q_bind, if_neg hn10, if_neg hn10]
      rcases q_wn2 (F := F) (a := a3) (lo := 1) (hi := 200) (by omega) (by omega) with ⟨e', en'⟩ | ⟨m, rfl, hm1, hm2, e'⟩
      · rw [e', q_bind, q_bind, if_pos rfl, if_pos rfl, q_bind]
        exact hbad
      · have hb := q_st hI (v := a) (by omega)
        have hle := n_le (a := t) (b := a - 4) (by omega) (by omega)
        have hle2 := n_le (a := m) (b := y (239 + a)) (by omega) (by omega)
        rw [e', q_bind, q_bind, if_neg hn10, if_neg hn10, n_sub (show 4 ≤ a by omega)]
        simp only [hle]
        by_cases e1 : t ≤ a - 4
        · rw [if_pos e1, if_pos e1, q_vAt (by omega) (by omega), n_add, q_g (by omega) (by omega), q_bind, n_C (by omega), hz]
          simp only [q_zk, hle2]
          by_cases e2 : m ≤ y (239 + a)
          · obtain ⟨sv, M1, k1, k2, kt, k3⟩ := q_keepS hF h
            have hI' := q_rc_I (m := m) hI hB ⟨ha1, ha2⟩ ⟨ht1, ht2⟩ hm2
            rw [if_pos e2, if_pos e2, k1, k2]
            simp only [q_bind]
            have hng : nI (y (239 + a)) + -nI m = nI (y (239 + a) - m) := by rw [n_negsub, n_sub e2]
            have f1 : ∀ z, q_u y (239 + a) z (214 + t) = y (214 + t) := fun z => q_u_ne (by omega)
            have f2 : ∀ z w, q_u (q_u y (239 + a) z) (214 + t) w 10 = y 10 := fun z w => by rw [q_u_ne (by omega), q_u_ne (by omega)]
            have f3 : ∀ z w u, q_u (q_u (q_u y (239 + a) z) (214 + t) w) 10 u (239 + a) = z := fun z w u => by rw [q_u_ne (by omega), q_u_ne (by omega), q_u_eq]
            rw [q_aAt (by omega) (by omega), hng, q_bind, q_put (by omega), q_aAt (by omega) (by omega), n_add, q_bind, q_put (by omega), q_zk, n_add, q_zu, q_vAt (by omega) (by omega), q_bind, q_bind, q_zk]
            simp (disch := first | omega | assumption) only [q_bind, q_g, n_C, q_M_z, q_zk, n_add, n_sub, q_zu, q_M_s, q_M_d, Sum.elim_inr, f1, f2, f3]
            exact ⟨nI 0, _, _, nI (y (239 + a) - m), _, rfl, rfl, kt, fun _ => rfl, _, k3 _ _ _ _ hI' (by omega) (q_sm_rf _)⟩
          · rw [if_neg e2, if_neg e2, q_bind]
            exact q_bad (tr := q.2.1) h hB (Or.inr rfl)
        · rw [if_neg e1, if_neg e1, q_bind]
          exact hbad
def q_cl (y : Nat → Nat) (k : Nat) : Nat → Nat := fun j => if 247 ≤ j ∧ j < 239 + k then 0 else y j
theorem q_cl_s {k : Nat} (hk : 8 ≤ k) : q_u (q_cl y k) (239 + k) 0 = q_cl y (k + 1) := by
  funext j
  unfold q_u q_cl
  by_cases h1 : j = 239 + k
  · rw [if_pos h1, if_pos (by omega)]
  · rw [if_neg h1]
    by_cases h2 : 247 ≤ j ∧ j < 239 + k
    · rw [if_pos h2, if_pos (by omega)]
    · rw [if_neg h2, if_neg (by omega)]
theorem q1_clL {a : Nat} (ha : a ≤ 25) (r : d_Z × d_S × d_T) : ∀ n k, 8 ≤ k → k ≤ a → a - k < n →
    f_X3_clearHeap_L37 F (nI a) n (nI (q_sum (fun v => y (239 + v)) k)) (nI k) (q_z (q_cl y k), r) = some (nI (q_sum (fun v => y (239 + v)) a), nI a, (q_z (q_cl y a), r)) := by
  intro n
  induction n with
  | zero => intro k h1 h2 h3; omega
  | succ n ih =>
    intro k h1 h2 h3
    have hle := n_le (a := a) (b := k) (by omega) (by omega)
    rw [f_X3_clearHeap_L37]
    simp only [hle]
    by_cases e : a ≤ k
    · have : k = a := by omega
      subst this
      rw [if_pos e]
    · have e1 : q_cl y k (239 + k) = y (239 + k) := if_neg (by omega)
      have e2 : nI (q_cl y k (239 + k)) + -nI (y (239 + k)) = nI 0 := by rw [e1, n_negsub, n_sub (Nat.le_refl _), Nat.sub_self]
      rw [if_neg e, q_vAt (by omega) (by omega), q_bind, q_zk, e1, q_aAt (by omega) (by omega), e2, q_bind, q_let, q_put (by omega), q_cl_s h1, n_add, show nI k + 1 = nI (k + 1) from n_add k 1]
      have := ih (k + 1) (by omega) (by omega) (by omega)
      exact this
theorem q4_clL {a : Nat} (ha : a ≤ 25) : ∀ n k, 8 ≤ k → k ≤ a → a - k < n →
    f_X4_clearHeap_L31 F (nI a) n (nI (q_sum (fun v => y (239 + v)) k)) (nI k) (q_M M (q_cl y k)) = some (nI (q_sum (fun v => y (239 + v)) a), nI a, q_M M (q_cl y a)) := by
  intro n
  induction n with
  | zero => intro k h1 h2 h3; omega
  | succ n ih =>
    intro k h1 h2 h3
    have hle := n_le (a := a) (b := k) (by omega) (by omega)
    rw [f_X4_clearHeap_L31]
    simp only [hle]
    by_cases e : a ≤ k
    · have : k = a := by omega
      subst this
      rw [if_pos e]
    · have e1 : q_cl y k (239 + k) = y (239 + k) := if_neg (by omega)
      rw [if_neg e]
      simp (disch := first | omega | assumption) only [n_l0, n_l1, n_l2, n_l3, n_l4, n_l5, n_l6, n_l7, n_l8, n_l9, n_l10, n_l11, n_l12, n_l13, n_l14, n_l15, n_l16, n_l17, n_l18, n_l19, n_l20, n_l21, n_l22, n_l23, n_l24, n_l25, n_l30, n_l31, n_l33, n_l48, n_l49, n_l57, n_l60, n_l100, n_l114, n_l115, n_l126, n_l200, n_l214, n_l239, n_l264, n_l294, n_l400, n_l1000, n_l1470, n_l5000, n_l1000000, n_o, n_nM, n_add, q_g, n_C, q_let, q_M_z, q_zu, q_M_s, q_M_d, q_cl_s, q_zk, e1]
      have := ih (k + 1) (by omega) (by omega) (by omega)
      exact this
theorem q_cl_8 : q_cl y 8 = y := by
  funext j
  exact if_neg (by omega)
theorem q_cl_I {a w : Nat} (hI : q_I B y) (hB : B + 20000 ≤ 1000000000) (ha : 8 ≤ a ∧ a ≤ 25) : q_I (B + 20000) (q_u (q_cl y a) 11 w) := by
  have h13 := hI.2.2.2.2.2.2.2.2.2.2.2.1
  have h12 := hI.2.2.2.2.2.2.2.2.2.2.1
  have hv := hI.2.2.2.2.2.2.2.2.2.2.2.2.2.1
  have hs := hI.2.2.2.2.2.2.2.2.2.2.2.2.2.2.1
  have e : ∀ j, ¬ (247 ≤ j ∧ j < 264) → j ≠ 11 → q_u (q_cl y a) 11 w j = y j := fun j h1 h3 => by
    rw [q_u_ne h3]
    exact if_neg (by omega)
  have e2 : ∀ j, j ≠ 11 → q_u (q_cl y a) 11 w j ≤ y j := fun j h3 => by
    rw [q_u_ne h3]
    unfold q_cl
    split <;> omega
  have es : q_sum (fun v => q_u (q_cl y a) 11 w (264 + v)) 25 = q_sum (fun v => y (264 + v)) 25 := q_sum_cg (fun k hk => e (264 + k) (by omega) (by omega))
  refine q_I_ch hI hB (by omega) (fun j hj => e j (by omega) (by omega)) (by rw [e 12 (by omega) (by omega)]; omega) (by rw [e 13 (by omega) (by omega)]; omega) (fun w hw => ?_) (by rw [es]; exact hs)
  have h0 := hv w hw
  have h1 := e2 (214 + w) (by omega)
  have h2 := e2 (239 + w) (by omega)
  have h3 := e2 (264 + w) (by omega)
  exact ⟨by omega, by omega, by omega, fun h => by have := h0.2.2.2 h; omega⟩
theorem q_op_clearHeap (hF : 3000 ≤ F) (h : q_rel B y q M) (hB : B + 20000 ≤ 1000000000) (v : Int64) (a1 : Int32) : q_go B (f_L_clearHeap F q v a1) (f_X4_clearHeap F M a1) := by
  have hz : m_z (ms_thrown M (nI 0)) = q_z y := h.2.2.1
  have hn10 : ¬ nI 1 = nI 0 := by decide
  have hI := h.1
  have hbad := q_bad (v := v) (tr := q.2.1) h hB (Or.inl rfl)
  unfold f_L_clearHeap f_X3_clearHeap f_X4_clearHeap
  simp only [q_let, q_fails, q_bind, n_l0, n_l1, n_l2, n_l3, n_l4, n_l5, n_l6, n_l7, n_l8, n_l9, n_l10, n_l11, n_l12, n_l13, n_l14, n_l15, n_l16, n_l17, n_l18, n_l19, n_l20, n_l21, n_l22, n_l23, n_l24, n_l25, n_l30, n_l31, n_l33, n_l48, n_l49, n_l57, n_l60, n_l100, n_l114, n_l115, n_l126, n_l200, n_l214, n_l239, n_l264, n_l294, n_l400, n_l1000, n_l1470, n_l5000, n_l1000000, n_o, n_nM, q_wX4]
  rcases q_wn2 (F := F) (a := a1) (lo := 8) (hi := 25) (by omega) (by omega) with ⟨e, en⟩ | ⟨a, rfl, ha1, ha2, e⟩
  · rw [e, q_bind, q_bind, if_pos rfl, if_pos rfl, q_bind]
    exact hbad
  · obtain ⟨sv, M1, k1, k2, kt, k3⟩ := q_keepS hF h
    have c1 := q1_clL (F := F) (y := y) ha2 (q.2.1, sv, q.2.2.2) F 8 (by omega) (by omega) (by omega)
    have c2 := q4_clL (F := F) (y := y) (M := M1) ha2 F 8 (by omega) (by omega) (by omega)
    have hs0 : q_sum (fun v => y (239 + v)) 8 = 0 := q_sum_0 (fun k hk => ((hI.2.2.2.2.2.2.2.2.2.2.2.2.2.1 k (by omega)).2.2.2 hk).2.1)
    rw [q_cl_8, hs0] at c1 c2
    have hI' := q_cl_I (w := q_cl y a 11 + q_sum (fun v => y (239 + v)) a) hI hB ⟨ha1, ha2⟩
    rw [e, q_bind, q_bind, if_neg hn10, if_neg hn10, k1, k2, q_bind, q_bind, c1, c2, q_bind, q_bind]
    simp (disch := first | omega | assumption) only [q_bind, q_g, n_C, q_M_z, q_zk, n_add, n_sub, q_zu, q_M_s, q_M_d, Sum.elim_inr]
    exact ⟨nI 0, _, _, nI (q_sum (fun v => y (239 + v)) a), _, rfl, rfl, kt, fun _ => rfl, _, k3 _ _ _ _ hI' (by omega) (q_sm_rf _)⟩
end RR
