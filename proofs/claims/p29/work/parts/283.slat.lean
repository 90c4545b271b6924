/-! the law's slaters -/
def r_I (B : Nat) (y : Nat → Nat) : Prop := q_I B y ∧ y 0 ≤ 50 ∧ y 2 ≤ 50
theorem r_sum_ge {f : Nat → Nat} : ∀ {n : Nat}, (∀ k, k < n → 1 ≤ f k) → n ≤ q_sum f n := by
  intro n
  induction n with
  | zero => intro _; exact Nat.zero_le _
  | succ n ih =>
    intro h
    have h1 := ih (fun k hk => h k (by omega))
    have h2 := h n (by omega)
    show n + 1 ≤ q_sum f n + f n
    omega
theorem r_top_ge {B : Nat} {y : Nat → Nat} (hI : q_I B y) : y 2 ≤ q_top y (y 2) := by
  unfold q_top
  exact r_sum_ge (fun k hk => q_ga_pos hI (hI.2.2.2.2.2.2.2.2.2.2.2.2.1 k hk).1)
theorem r_step_I {B : Nat} {y : Nat → Nat} {r : Nat × (Nat → Nat)} (h : r_I B y) (hs : q_step y = some r) : r_I B r.2 := by
  have h1 := q_step_I h.1 hs
  have h0 := h1.2.2.2.2 0 (by omega) (by omega) (by omega)
  refine ⟨h1.1, by rw [h0]; exact h.2.1, ?_⟩
  have ht := r_top_ge h1.1
  have h2 := h.2.2
  have hg := r_top_ge h.1
  have h3 := h.2.1
  unfold q_step at hs
  by_cases e1 : q_op y (y 2 - 1) < y 2 - 1 ∧ 0 < y (214 + y (14 + q_op y (y 2 - 1))) ∧ 3 ≤ y 7
  · rw [if_pos e1] at hs
    cases hs
    have hl := h.1.2.2.2.2.2.2.2.2.2.2.2.2.1 (q_op y (y 2 - 1)) (by omega)
    have e5 := q_ly_o (y := y) (c := q_op y (y 2 - 1)) (p := q_g0 y (q_op y (y 2 - 1))) (x := 3) (j := 2) (by omega) (by omega) (by omega)
    exact Nat.le_trans (Nat.le_of_eq e5) h2
  · rw [if_neg e1] at hs
    by_cases e2 : 0 < y 2 ∧ q_g0 y (y 2 - 1) < q_pl y (y 2 - 1)
    · rw [if_pos e2] at hs
      by_cases e3 : 0 < y (214 + y (14 + (y 2 - 1))) ∧ 1 ≤ y 7
      · rw [if_pos e3] at hs
        cases hs
        have e5 := q_ly_o (y := y) (c := y 2 - 1) (p := q_g0 y (y 2 - 1)) (x := 1) (j := 2) (by omega) (by omega) (by omega)
        exact Nat.le_trans (Nat.le_of_eq e5) h2
      · rw [if_neg e3] at hs; cases hs
    · rw [if_neg e2] at hs
      by_cases e4 : q_top y (y 2) < y 0 ∧ y 2 < 100 ∧ q_nl y ≠ 0
      · rw [if_pos e4] at hs
        cases hs
        have e5 : q_bg y (q_nl y) 2 = y 2 + 1 := q_u_eq
        show q_bg y (q_nl y) 2 ≤ 50
        rw [e5]; omega
      · rw [if_neg e4] at hs; cases hs
theorem r_run_I {B : Nat} : ∀ m (y : Nat → Nat), r_I B y → r_I B (q_run m y).2 := by
  intro m
  induction m with
  | zero => intro y h; exact h
  | succ m ih =>
    intro y h
    cases hs : q_step y with
    | none => unfold q_run; rw [hs]; exact h
    | some r =>
      have h4 : q_run (m + 1) y = (r.1 + (q_run m r.2).1, (q_run m r.2).2) := by
        conv => lhs; unfold q_run
        rw [hs]
      rw [h4]
      exact ih r.2 (r_step_I h hs)
section RW
variable {B F : Nat} {y : Nat → Nat}
theorem p5_T (hF : 3000 ≤ F) (hR : r_I B y) (n a : Nat) : (r_T F n (nI a) (r_W y)).bind r_K = if q_top y (y 2) < y 0 ∧ q_nl y ≠ 0 then (f_L_slaters_L3 F n (nI a) (r_W (q_bg y (q_nl y)))).bind r_K else some (nI a, r_W y) := by
  obtain ⟨hI, h0, h2⟩ := hR
  have ht := q_top_le hI (Nat.le_refl _)
  have hnl := q_nl_le hI
  unfold r_T
  simp (disch := first | omega | assumption) only [n_l0, n_l1, n_l2, n_l3, n_l4, n_l5, n_l6, n_l7, n_l8, n_l9, n_l10, n_l11, n_l12, n_l13, n_l14, n_l15, n_l16, n_l17, n_l18, n_l19, n_l20, n_l21, n_l22, n_l23, n_l24, n_l25, n_l30, n_l31, n_l33, n_l48, n_l49, n_l57, n_l60, n_l100, n_l114, n_l115, n_l126, n_l200, n_l214, n_l239, n_l264, n_l294, n_l400, n_l1000, n_l1470, n_l5000, n_l1000000, n_o, n_nM, q_g, n_C, r_W4]
  rw [p5_top hF hI (Nat.le_refl _) (by omega), q_bind]
  simp (disch := first | omega | assumption) only [n_le]
  by_cases e : y 0 ≤ q_top y (y 2)
  · rw [if_pos e, if_neg (fun q => by omega)]; rfl
  · rw [if_neg e, p5_nl hF hI (by omega), q_bind]
    simp (disch := first | omega | assumption) only [n_eq]
    by_cases e2 : q_nl y = 0
    · rw [if_pos e2, if_neg (fun q => q.2 e2)]; rfl
    · rw [if_neg e2, q_bind, if_pos ⟨by omega, e2⟩]
      rw [r_U0 (by omega), q_let]
      simp (disch := first | omega | assumption) only [q_g, n_C, r_W4, q_u_ne]
      rw [r_U1 (by omega), q_let]
      simp (disch := first | omega | assumption) only [q_g, n_C, r_W4, q_u_ne, n_add]
      rw [r_U4 (by omega), q_let]
      rfl
theorem p5_V (hF : 3000 ≤ F) (hR : r_I B y) (n a : Nat) : (r_V F n (nI a) (r_W y)).bind r_K = if 0 < y 2 ∧ q_g0 y (y 2 - 1) < q_pl y (y 2 - 1) then (if 0 < y (214 + y (14 + (y 2 - 1))) ∧ 1 ≤ y 7 then (f_L_slaters_L3 F n (nI (a + 1)) (r_W (q_ly y (y 2 - 1) (q_g0 y (y 2 - 1)) 1))).bind r_K else some (nI a, r_W y)) else (r_T F n (nI a) (r_W y)).bind r_K := by
  obtain ⟨hI, h0, h2⟩ := hR
  have h7 := hI.2.2.2.2.2.2.2.1
  unfold r_V
  by_cases e0 : y 2 = 0
  · have e9 : nI (y 2) - nI 1 = nM := by rw [e0]; exact n_0M
    simp (disch := first | omega | assumption) only [n_l0, n_l1, n_l2, n_l3, n_l4, n_l5, n_l6, n_l7, n_l8, n_l9, n_l10, n_l11, n_l12, n_l13, n_l14, n_l15, n_l16, n_l17, n_l18, n_l19, n_l20, n_l21, n_l22, n_l23, n_l24, n_l25, n_l30, n_l31, n_l33, n_l48, n_l49, n_l57, n_l60, n_l100, n_l114, n_l115, n_l126, n_l200, n_l214, n_l239, n_l264, n_l294, n_l400, n_l1000, n_l1470, n_l5000, n_l1000000, n_o, n_nM, q_g, n_C, r_W4, e9, n_Mlt, if_true]
    rw [if_neg (fun q => by omega)]
  · have hc : y 2 - 1 < y 2 := by omega
    have hl := hI.2.2.2.2.2.2.2.2.2.2.2.2.1 (y 2 - 1) hc
    have h5 := q_pl_le (c := y 2 - 1) hI.2.1.2
    have hw := q_w hI.2.1.2 hl.2.2
    have hst := (q_st hI (v := y (14 + (y 2 - 1))) (by omega)).1
    simp (disch := first | omega | assumption) only [n_l0, n_l1, n_l2, n_l3, n_l4, n_l5, n_l6, n_l7, n_l8, n_l9, n_l10, n_l11, n_l12, n_l13, n_l14, n_l15, n_l16, n_l17, n_l18, n_l19, n_l20, n_l21, n_l22, n_l23, n_l24, n_l25, n_l30, n_l31, n_l33, n_l48, n_l49, n_l57, n_l60, n_l100, n_l114, n_l115, n_l126, n_l200, n_l214, n_l239, n_l264, n_l294, n_l400, n_l1000, n_l1470, n_l5000, n_l1000000, n_o, n_nM, q_g, n_C, r_W4, n_sub, n_lt]
    rw [if_neg (by omega), p5_gap hF hI (by omega) hc]
    simp only [q_bind]
    unfold q_gI
    by_cases e1 : q_fg (y (114 + (y 2 - 1))) (q_pl y (y 2 - 1)) < q_pl y (y 2 - 1)
    · have e1' : 0 < y 2 ∧ q_g0 y (y 2 - 1) < q_pl y (y 2 - 1) := ⟨by omega, e1⟩
      have hb := q_fg_bit e1
      rw [if_pos e1, if_pos e1']
      simp (disch := first | omega | assumption) only [n_lt]
      rw [if_neg (by omega)]
      simp (disch := first | omega | assumption) only [q_g, n_C, r_W0, r_W2, n_eq]
      by_cases e2 : y (214 + y (14 + (y 2 - 1))) = 0
      · rw [if_pos e2, if_neg (fun q => by omega)]; rfl
      · rw [if_neg e2]
        by_cases e3 : y 7 = 0
        · rw [if_pos e3, if_neg (fun q => by omega)]; rfl
        · rw [if_neg e3, if_pos ⟨by omega, by omega⟩]
          have hp : q_fg (y (114 + (y 2 - 1))) (q_pl y (y 2 - 1)) < 32 := by omega
          simp (disch := first | omega | assumption) only [r_W1, n_and31, n_and, n_shl', n_or, q_bset, q_g, n_C]
          rw [r_U1 (by omega), q_let]
          simp (disch := first | omega | assumption) only [q_g, n_C, r_W0, r_W2, q_u_ne, n_sub]
          rw [r_U2 (by omega), q_let]
          simp (disch := first | omega | assumption) only [q_g, n_C, r_W4, q_u_ne, n_sub, n_add]
          rw [r_U4 (by omega), q_let]
          rfl
    · rw [if_neg e1]
      simp (disch := first | omega | assumption) only [n_Mlt, if_true]
      rw [if_neg (fun q => e1 q.2)]
theorem p5_VT (hF : 3000 ≤ F) (hR : r_I B y) (n a : Nat) (hc1 : ¬ (q_op y (y 2 - 1) < y 2 - 1 ∧ 0 < y (214 + y (14 + q_op y (y 2 - 1))) ∧ 3 ≤ y 7)) : (r_V F n (nI a) (r_W y)).bind r_K = match q_step y with
    | none => some (nI a, r_W y)
    | some r => (f_L_slaters_L3 F n (nI (a + r.1)) (r_W r.2)).bind r_K := by
  have h2 := hR.2.2
  rw [p5_V hF hR, p5_T hF hR]
  by_cases c1 : 0 < y 2 ∧ q_g0 y (y 2 - 1) < q_pl y (y 2 - 1)
  · rw [if_pos c1]
    by_cases c2 : 0 < y (214 + y (14 + (y 2 - 1))) ∧ 1 ≤ y 7
    · have hs : q_step y = some (1, q_ly y (y 2 - 1) (q_g0 y (y 2 - 1)) 1) := by
        unfold q_step
        rw [if_neg hc1, if_pos c1, if_pos c2]
      rw [if_pos c2]
      simp only [hs]
    · have hs : q_step y = none := by
        unfold q_step
        rw [if_neg hc1, if_pos c1, if_neg c2]
      rw [if_neg c2]
      simp only [hs]
  · rw [if_neg c1]
    by_cases c3 : q_top y (y 2) < y 0 ∧ q_nl y ≠ 0
    · have hs : q_step y = some (0, q_bg y (q_nl y)) := by
        unfold q_step
        rw [if_neg hc1, if_neg c1, if_pos ⟨c3.1, by omega, c3.2⟩]
      rw [if_pos c3]
      simp only [hs, Nat.add_zero]
    · have hs : q_step y = none := by
        unfold q_step
        rw [if_neg hc1, if_neg c1, if_neg (fun q => c3 ⟨q.1, q.2.2⟩)]
      rw [if_neg c3]
      simp only [hs]
theorem p5_turn (hF : 3000 ≤ F) (hR : r_I B y) (hd : q_dry y = 1) (n a : Nat) : (f_L_slaters_L3 F (n + 1) (nI a) (r_W y)).bind r_K = match q_step y with
    | none => some (nI a, r_W y)
    | some r => (f_L_slaters_L3 F n (nI (a + r.1)) (r_W r.2)).bind r_K := by
  obtain ⟨hI, h0, h2⟩ := id hR
  have h7 := hI.2.2.2.2.2.2.2.1
  have hd2 : y 9 = 0 ∧ y 8 = 0 := by
    unfold q_dry at hd
    by_cases e : y 9 = 0 ∧ y 8 = 0
    · exact e
    · rw [if_neg e] at hd; omega
  rw [r_slE]
  simp (disch := first | omega | assumption) only [n_l0, n_l1, n_l2, n_l3, n_l4, n_l5, n_l6, n_l7, n_l8, n_l9, n_l10, n_l11, n_l12, n_l13, n_l14, n_l15, n_l16, n_l17, n_l18, n_l19, n_l20, n_l21, n_l22, n_l23, n_l24, n_l25, n_l30, n_l31, n_l33, n_l48, n_l49, n_l57, n_l60, n_l100, n_l114, n_l115, n_l126, n_l200, n_l214, n_l239, n_l264, n_l294, n_l400, n_l1000, n_l1470, n_l5000, n_l1000000, n_o, n_nM, q_g, n_C, r_W4, hd2.1, hd2.2, if_true]
  rw [p5_opL hI (by omega) F 0 (by omega) rfl (by omega), q_bind]
  have hop := q_op_le y (y 2 - 1)
  by_cases e1 : q_op y (y 2 - 1) < y 2 - 1
  · have hc : q_op y (y 2 - 1) < y 2 := by omega
    have hl := hI.2.2.2.2.2.2.2.2.2.2.2.2.1 (q_op y (y 2 - 1)) hc
    have h5 := q_pl_le (c := q_op y (y 2 - 1)) hI.2.1.2
    have hw := q_w hI.2.1.2 hl.2.2
    have hst := (q_st hI (v := y (14 + q_op y (y 2 - 1))) (by omega)).1
    have hg := q_op_gap e1
    have hb := q_fg_bit hg
    rw [n_sub (by omega)]
    simp (disch := first | omega | assumption) only [n_le]
    rw [if_neg (by omega), q_bind, if_neg (show ¬ nI 1 = nI 0 by decide)]
    simp (disch := first | omega | assumption) only [q_g, n_C, r_W0, r_W2, n_le]
    by_cases e2 : y (214 + y (14 + q_op y (y 2 - 1))) ≤ 0
    · rw [if_pos e2]
      exact p5_VT hF hR n a (fun q => by omega)
    · rw [if_neg e2]
      by_cases e3 : y 7 ≤ 2
      · rw [if_pos e3]
        exact p5_VT hF hR n a (fun q => by omega)
      · rw [if_neg e3, p5_gap hF hI (by omega) hc, q_bind]
        have hs : q_step y = some (1, q_ly y (q_op y (y 2 - 1)) (q_g0 y (q_op y (y 2 - 1))) 3) := by
          unfold q_step
          rw [if_pos ⟨e1, by omega, by omega⟩]
        simp only [hs]
        unfold q_gI
        rw [if_pos hg]
        have hp : q_fg (y (114 + q_op y (y 2 - 1))) (q_pl y (q_op y (y 2 - 1))) < 32 := by omega
        simp (disch := first | omega | assumption) only [r_W1, n_and31, n_and, n_shl', n_or, q_bset, q_g, n_C]
        rw [r_U1 (by omega), q_let]
        simp (disch := first | omega | assumption) only [q_g, n_C, r_W0, r_W2, q_u_ne, n_sub]
        rw [r_U2 (by omega), q_let]
        simp (disch := first | omega | assumption) only [q_g, n_C, r_W4, q_u_ne, n_sub, n_add]
        rw [r_U4 (by omega), q_let]
        rfl
  · have hj : (if nI (y 2) - nI 1 ≤ nI (q_op y (y 2 - 1)) then some (nI 0) else some (nI 1)) = some (nI 0) := by
      refine if_pos ?_
      by_cases e0 : y 2 = 0
      · rw [e0, n_0M, n_Mle (by have := q_op_le y (0 - 1); omega)]; exact trivial
      · rw [n_sub (by omega), n_le (by omega) (by omega)]; omega
    rw [hj, q_bind, if_pos rfl]
    exact p5_VT hF hR n a (fun q => e1 q.1)
theorem p5_slL (hF : 3000 ≤ F) : ∀ m (y : Nat → Nat) n a, r_I B y → q_dry y = 1 → q_mu y ≤ m → m < n →
    (f_L_slaters_L3 F n (nI a) (r_W y)).bind r_K = some (nI (a + (q_run (m + 1) y).1), r_W (q_run (m + 1) y).2) := by
  intro m
  induction m with
  | zero =>
    intro y n a hR hd hm hn
    obtain ⟨n, rfl⟩ : ∃ k, n = k + 1 := ⟨n - 1, by omega⟩
    rw [p5_turn hF hR hd]
    cases h : q_step y with
    | none => unfold q_run; rw [h]; rfl
    | some r => have := (q_step_I hR.1 h).2.1; omega
  | succ m ih =>
    intro y n a hR hd hm hn
    obtain ⟨n, rfl⟩ : ∃ k, n = k + 1 := ⟨n - 1, by omega⟩
    rw [p5_turn hF hR hd]
    cases h : q_step y with
    | none => unfold q_run; rw [h]; rfl
    | some r =>
      have h1 := q_step_I hR.1 h
      have h3 := ih r.2 n (a + r.1) (r_step_I hR h) (by rw [h1.2.2.1]; exact hd) (by omega) (by omega)
      have h4 : q_run (m + 1 + 1) y = (r.1 + (q_run (m + 1) r.2).1, (q_run (m + 1) r.2).2) := by
        conv => lhs; unfold q_run
        rw [h]
      rw [h4]
      show (f_L_slaters_L3 F n (nI (a + r.1)) (r_W r.2)).bind r_K = _
      rw [h3, Nat.add_assoc]
theorem p5_sl (hF : 3000 ≤ F) (hR : r_I B y) : f_L_slaters F (r_W y) = some (if q_dry y = 1 then (nI (q_run 161 y).1, r_W (q_run 161 y).2) else (nI 0, r_W y)) := by
  have e0 : f_L_slaters F (r_W y) = (f_L_slaters_L3 F F (nI 0) (r_W y)).bind r_K := rfl
  rw [e0]
  by_cases e : q_dry y = 1
  · rw [if_pos e, p5_slL hF 160 y F 0 hR e (q_mu_le hR.1) (by omega), Nat.zero_add]
  · rw [if_neg e]
    obtain ⟨n, hn⟩ : ∃ k, F = k + 1 := ⟨F - 1, by omega⟩
    have h8 := hR.1.2.2.2.2.2.2.2.2.1
    have h9 := hR.1.2.2.2.2.2.2.2.2.2.1
    have key : f_L_slaters_L3 F (n + 1) (nI 0) (r_W y) = some (.inl (nI 0, r_W y)) := by
      rw [r_slE]
      simp (disch := first | omega | assumption) only [n_l0, n_l1, n_l2, n_l3, n_l4, n_l5, n_l6, n_l7, n_l8, n_l9, n_l10, n_l11, n_l12, n_l13, n_l14, n_l15, n_l16, n_l17, n_l18, n_l19, n_l20, n_l21, n_l22, n_l23, n_l24, n_l25, n_l30, n_l31, n_l33, n_l48, n_l49, n_l57, n_l60, n_l100, n_l114, n_l115, n_l126, n_l200, n_l214, n_l239, n_l264, n_l294, n_l400, n_l1000, n_l1470, n_l5000, n_l1000000, n_o, n_nM, q_g, n_C, r_W4, n_eq]
      by_cases c : y 8 = 0
      · rw [if_pos c]
        have c9 : ¬ y 9 = 0 := fun q => e (if_pos ⟨q, c⟩)
        rw [if_neg c9]
      · rw [if_neg c]
    have e1 : f_L_slaters_L3 F F (nI 0) (r_W y) = f_L_slaters_L3 F (n + 1) (nI 0) (r_W y) := by rw [← hn]
    rw [e1, key]; rfl
end RW
