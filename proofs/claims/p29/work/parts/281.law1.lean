/-! done, the next length, the first open course, falling, in the law's own words -/
section RW
variable {B F : Nat} {y : Nat → Nat}
theorem p5_dnL (hI : q_I B y) (h61 : y 2 ≤ 61) (P : Prop) [Decidable P] : ∀ n i, i ≤ y 2 → y 2 - i < n → f_L_done_L29 F (r_W y) n (nI (if P ∧ q_sum (fun c => q_pl y c - q_in y c) i = 0 then 1 else 0)) (nI i) = some (nI (if P ∧ q_gp y = 0 then 1 else 0), nI (y 2)) := by
  intro n
  induction n with
  | zero => intro i _ h; omega
  | succ n ih =>
    intro i hi hn
    by_cases e : i = y 2
    · unfold f_L_done_L29
      simp (disch := first | omega | assumption) only [n_l0, n_l1, n_l2, n_l3, n_l4, n_l5, n_l6, n_l7, n_l8, n_l9, n_l10, n_l11, n_l12, n_l13, n_l14, n_l15, n_l16, n_l17, n_l18, n_l19, n_l20, n_l21, n_l22, n_l23, n_l24, n_l25, n_l30, n_l31, n_l33, n_l48, n_l49, n_l57, n_l60, n_l100, n_l114, n_l115, n_l126, n_l200, n_l214, n_l239, n_l264, n_l294, n_l400, n_l1000, n_l1470, n_l5000, n_l1000000, n_o, n_nM, q_g, n_C, r_W4, n_le]
      rw [if_pos (by omega), e]; rfl
    · have hl := hI.2.2.2.2.2.2.2.2.2.2.2.2.1 i (by omega)
      have h5 := q_pl_le (c := i) hI.2.1.2
      have hw := q_w hI.2.1.2 hl.2.2
      have h6 : 2 ^ q_pl y i ≤ 2 ^ 31 := Nat.pow_le_pow_right (by omega) h5
      have h7 : (y (114 + i) = 2 ^ q_pl y i - 1) = ¬ (q_in y i < q_pl y i) := (r_full (P := q_pl y i) hl.2.2).trans (congrArg Not q_fg_lt)
      have ih' := ih (i + 1) (by omega) (by omega)
      have hs : q_sum (fun c => q_pl y c - q_in y c) (i + 1) = q_sum (fun c => q_pl y c - q_in y c) i + (q_pl y i - q_in y i) := rfl
      rw [hs] at ih'
      conv => lhs; unfold f_L_done_L29
      simp (disch := first | omega | assumption) only [n_l0, n_l1, n_l2, n_l3, n_l4, n_l5, n_l6, n_l7, n_l8, n_l9, n_l10, n_l11, n_l12, n_l13, n_l14, n_l15, n_l16, n_l17, n_l18, n_l19, n_l20, n_l21, n_l22, n_l23, n_l24, n_l25, n_l30, n_l31, n_l33, n_l48, n_l49, n_l57, n_l60, n_l100, n_l114, n_l115, n_l126, n_l200, n_l214, n_l239, n_l264, n_l294, n_l400, n_l1000, n_l1470, n_l5000, n_l1000000, n_o, n_nM, q_g, n_C, r_W4, r_W1, n_le, n_add]
      rw [if_neg (by omega)]
      by_cases e2 : P ∧ q_sum (fun c => q_pl y c - q_in y c) i = 0
      · rw [if_pos e2, if_neg (show ¬ nI 1 = nI 0 by decide), p5_fu (by omega) h5, q_bind]
        simp (disch := first | omega | assumption) only [n_eq]
        by_cases e4 : q_in y i < q_pl y i
        · rw [if_neg (fun q => h7.mp q e4), q_bind]
          rw [if_neg (fun q => by omega)] at ih'
          exact ih'
        · rw [if_pos (h7.mpr e4), q_bind]
          rw [if_pos ⟨e2.1, by omega⟩] at ih'
          exact ih'
      · rw [if_neg e2, if_pos rfl, q_bind]
        rw [if_neg (fun q => e2 ⟨q.1, by omega⟩)] at ih'
        exact ih'
theorem p5_done (hF : 3000 ≤ F) (hI : q_I B y) (h61 : y 2 ≤ 61) : f_L_done F (r_W y) = some (nI (q_dn y)) := by
  have h1 := hI.1
  have ht := q_top_le hI (Nat.le_refl _)
  have kF := p5_dnL (F := F) hI h61 False F 0 (by omega) (by omega)
  rw [if_neg (fun q => q.1), if_neg (fun q => q.1)] at kF
  have kT := p5_dnL (F := F) hI h61 True F 0 (by omega) (by omega)
  rw [if_pos ⟨trivial, rfl⟩] at kT
  unfold f_L_done
  simp (disch := first | omega | assumption) only [n_l0, n_l1, n_l2, n_l3, n_l4, n_l5, n_l6, n_l7, n_l8, n_l9, n_l10, n_l11, n_l12, n_l13, n_l14, n_l15, n_l16, n_l17, n_l18, n_l19, n_l20, n_l21, n_l22, n_l23, n_l24, n_l25, n_l30, n_l31, n_l33, n_l48, n_l49, n_l57, n_l60, n_l100, n_l114, n_l115, n_l126, n_l200, n_l214, n_l239, n_l264, n_l294, n_l400, n_l1000, n_l1470, n_l5000, n_l1000000, n_o, n_nM, q_g, n_C, r_W4, n_le]
  by_cases e : y 2 = 0
  · rw [if_pos (by omega), q_bind, kF, q_bind, q_fif (Or.inl rfl)]
    have h0 : q_top y (y 2) = 0 := by rw [e]; rfl
    unfold q_dn
    rw [if_neg (fun q => by omega)]
  · rw [if_neg (by omega), p5_top hF hI (Nat.le_refl _) h61, q_bind]
    simp (disch := first | omega | assumption) only [n_lt]
    by_cases e2 : q_top y (y 2) < y 0
    · rw [if_pos e2, q_bind, kF, q_bind, q_fif (Or.inl rfl)]
      unfold q_dn
      rw [if_neg (fun q => by omega)]
    · rw [if_neg e2, q_bind, kT, q_bind]
      unfold q_dn
      by_cases e3 : q_gp y = 0
      · rw [if_pos ⟨trivial, e3⟩, if_pos ⟨by omega, e3⟩, q_fif (Or.inr rfl)]
      · rw [if_neg (fun q => e3 q.2), if_neg (fun q => e3 q.2), q_fif (Or.inl rfl)]
theorem q_nx_7 (P : Nat) : ∀ j, j < 8 → q_nx y P j = 0 := by
  intro j
  induction j with
  | zero => intro _; rfl
  | succ j ih2 => intro hj; unfold q_nx; rw [if_neg (by omega)]; exact ih2 (by omega)
theorem p5_nxL (hI : q_I B y) : ∀ n k, k ≤ 24 → k < n →
    (f_L_next_L6 F (r_W y) n (nI k)).bind (fun w9 => Sum.elim (fun _ => some (nI 0)) (fun w6 => some (w6)) w9) = some (nI (q_nx y (q_pl y (y 2)) k)) := by
  have h2 := hI.2.2.1
  have h5 := q_pl_le (c := y 2) hI.2.1.2
  intro n
  induction n with
  | zero => intro k _ h; omega
  | succ n ih =>
    intro k hk hn
    by_cases e : k < 8
    · unfold f_L_next_L6
      simp (disch := first | omega | assumption) only [n_l0, n_l1, n_l2, n_l3, n_l4, n_l5, n_l6, n_l7, n_l8, n_l9, n_l10, n_l11, n_l12, n_l13, n_l14, n_l15, n_l16, n_l17, n_l18, n_l19, n_l20, n_l21, n_l22, n_l23, n_l24, n_l25, n_l30, n_l31, n_l33, n_l48, n_l49, n_l57, n_l60, n_l100, n_l114, n_l115, n_l126, n_l200, n_l214, n_l239, n_l264, n_l294, n_l400, n_l1000, n_l1470, n_l5000, n_l1000000, n_o, n_nM, n_le]
      rw [if_pos (by omega), q_nx_7 _ k e]; rfl
    · obtain ⟨k, rfl⟩ : ∃ j, k = j + 1 := ⟨k - 1, by omega⟩
      have hb := (q_st hI (v := k + 1) (by omega)).1
      unfold f_L_next_L6
      simp (disch := first | omega | assumption) only [n_l0, n_l1, n_l2, n_l3, n_l4, n_l5, n_l6, n_l7, n_l8, n_l9, n_l10, n_l11, n_l12, n_l13, n_l14, n_l15, n_l16, n_l17, n_l18, n_l19, n_l20, n_l21, n_l22, n_l23, n_l24, n_l25, n_l30, n_l31, n_l33, n_l48, n_l49, n_l57, n_l60, n_l100, n_l114, n_l115, n_l126, n_l200, n_l214, n_l239, n_l264, n_l294, n_l400, n_l1000, n_l1470, n_l5000, n_l1000000, n_o, n_nM, n_le, q_g, n_C, r_W4, r_W2]
      rw [if_neg (by omega), p5_pl (by omega), q_bind]
      simp (disch := first | omega | assumption) only [n_lt]
      by_cases e2 : q_pl y (y 2) ≤ y (214 + (k + 1))
      · rw [if_neg (by omega), show q_nx y (q_pl y (y 2)) (k + 1) = k + 1 from if_pos ⟨by omega, e2⟩]; rfl
      · rw [if_pos (by omega), show q_nx y (q_pl y (y 2)) (k + 1) = q_nx y (q_pl y (y 2)) k from if_neg (fun q => e2 q.2), n_sM]
        exact ih k (by omega) (by omega)
theorem p5_nl (hF : 3000 ≤ F) (hI : q_I B y) (h61 : y 2 ≤ 61) : f_L_next F (r_W y) = some (nI (q_nl y)) := by
  have h6 := q_lo_le hI
  unfold f_L_next q_nl
  rw [p5_lo hI h61, q_bind, n_l0]
  exact p5_nxL hI F _ (by omega) (by omega)
theorem p5_opL (hI : q_I B y) (h61 : y 2 ≤ 61) : ∀ n c, c ≤ y 2 - 1 → q_op y c = c → y 2 - 1 - c < n →
    f_L_slaters_L20 F (r_W y) n (nI c) = some (nI (q_op y (y 2 - 1))) := by
  intro n
  induction n with
  | zero => intro c _ _ h; omega
  | succ n ih =>
    intro c hc hg hn
    by_cases e : c = y 2 - 1
    · unfold f_L_slaters_L20
      simp (disch := first | omega | assumption) only [n_l0, n_l1, n_l2, n_l3, n_l4, n_l5, n_l6, n_l7, n_l8, n_l9, n_l10, n_l11, n_l12, n_l13, n_l14, n_l15, n_l16, n_l17, n_l18, n_l19, n_l20, n_l21, n_l22, n_l23, n_l24, n_l25, n_l30, n_l31, n_l33, n_l48, n_l49, n_l57, n_l60, n_l100, n_l114, n_l115, n_l126, n_l200, n_l214, n_l239, n_l264, n_l294, n_l400, n_l1000, n_l1470, n_l5000, n_l1000000, n_o, n_nM, q_g, n_C, r_W4]
      rw [if_pos, ← e, hg]
      by_cases e0 : y 2 = 0
      · rw [e0, n_0M]; simp (disch := first | omega | assumption) only [n_Mle]
      · rw [n_sub (by omega), n_le (by omega) (by omega)]; omega
    · have hl := hI.2.2.2.2.2.2.2.2.2.2.2.2.1 c (by omega)
      have h5 := q_pl_le (c := c) hI.2.1.2
      have hw := q_w hI.2.1.2 hl.2.2
      have h6 : 2 ^ q_pl y c ≤ 2 ^ 31 := Nat.pow_le_pow_right (by omega) h5
      have h7 : (y (114 + c) = 2 ^ q_pl y c - 1) = ¬ (q_fg (y (114 + c)) (q_pl y c) < q_pl y c) := r_full (P := q_pl y c) hl.2.2
      have h8 : q_op y (c + 1) = (if q_fg (y (114 + c)) (q_pl y c) < q_pl y c then c else c + 1) := if_neg (by omega)
      conv => lhs; unfold f_L_slaters_L20
      simp (disch := first | omega | assumption) only [n_l0, n_l1, n_l2, n_l3, n_l4, n_l5, n_l6, n_l7, n_l8, n_l9, n_l10, n_l11, n_l12, n_l13, n_l14, n_l15, n_l16, n_l17, n_l18, n_l19, n_l20, n_l21, n_l22, n_l23, n_l24, n_l25, n_l30, n_l31, n_l33, n_l48, n_l49, n_l57, n_l60, n_l100, n_l114, n_l115, n_l126, n_l200, n_l214, n_l239, n_l264, n_l294, n_l400, n_l1000, n_l1470, n_l5000, n_l1000000, n_o, n_nM, q_g, n_C, r_W4, r_W1, n_add]
      rw [n_sub (by omega)]
      simp (disch := first | omega | assumption) only [n_le]
      rw [if_neg (by omega), p5_fu (by omega) h5, q_bind]
      simp (disch := first | omega | assumption) only [n_eq]
      by_cases e2 : q_fg (y (114 + c)) (q_pl y c) < q_pl y c
      · rw [if_pos e2] at h8
        rw [if_neg (fun q => h7.mp q e2), q_op_st (m := c + 1) (by omega) (by omega), h8]
      · rw [if_neg e2] at h8
        rw [if_pos (h7.mpr e2)]
        exact ih (c + 1) (by omega) h8 (by omega)
theorem p5_faL (hI : q_I B y) (h61 : y 2 ≤ 61) {c r : Nat} (hc : c < y 2) (hr : r < 5) : ∀ n p, p % 5 = r → p ≤ q_pl y c + 4 → q_pl y c + 5 - p < n →
    ∃ p', f_L_fallen_L6 F (nI c) n (nI (q_dw (y (114 + c)) r p).2) (nI p) (r_W (q_u y (114 + c) (q_dw (y (114 + c)) r p).1)) = some (nI (q_dw (y (114 + c)) r (q_pl y c)).2, p', r_W (q_u y (114 + c) (q_dw (y (114 + c)) r (q_pl y c)).1)) := by
  have h2 := hI.2.2.1
  have h5 := q_pl_le (c := c) hI.2.1.2
  have h6 := hI.2.2.2.2.2.2.2.2.2.2.2.2.1 c hc
  have hw := q_w hI.2.1.2 h6.2.2
  intro n
  induction n with
  | zero => intro p _ _ h; omega
  | succ n ih =>
    intro p hp hp2 hn
    have hle := q_dw_le (y (114 + c)) r p
    have e2 : q_pl (q_u y (114 + c) (q_dw (y (114 + c)) r p).1) c = q_pl y c := by unfold q_pl; rw [q_u_ne (by omega)]
    conv => enter [1, p', 1]; unfold f_L_fallen_L6
    simp only [p5_pl (F := F) (y := q_u y (114 + c) (q_dw (y (114 + c)) r p).1) (show c ≤ 100000 by omega), q_bind, e2]
    simp (disch := first | omega | assumption) only [n_le]
    by_cases e : q_pl y c ≤ p
    · refine ⟨nI p, ?_⟩
      rw [if_pos e, q_dw_st h6.2.2 e]; rfl
    · have hbl := q_b_le (q_dw (y (114 + c)) r p).1 p
      have h5' := q_dw_5 (b := y (114 + c)) hp
      have hd : (q_dw (y (114 + c)) r p).1 / 2 ^ p < 2147483648 := Nat.lt_of_le_of_lt (Nat.div_le_self _ _) (by omega)
      simp (disch := first | omega | assumption) only [n_l0, n_l1, n_l2, n_l3, n_l4, n_l5, n_l6, n_l7, n_l8, n_l9, n_l10, n_l11, n_l12, n_l13, n_l14, n_l15, n_l16, n_l17, n_l18, n_l19, n_l20, n_l21, n_l22, n_l23, n_l24, n_l25, n_l30, n_l31, n_l33, n_l48, n_l49, n_l57, n_l60, n_l100, n_l114, n_l115, n_l126, n_l200, n_l214, n_l239, n_l264, n_l294, n_l400, n_l1000, n_l1470, n_l5000, n_l1000000, n_o, n_nM, q_g, n_C, r_W1, q_u_eq, n_and31, n_shr', n_and, Nat.and_one_is_mod, n_eq, n_add, if_neg e]
      by_cases e4 : q_b (q_dw (y (114 + c)) r p).1 p = 1
      · rw [if_pos e4] at h5'
        have hbl2 := q_blo e4
        have ih2 := ih (p + 5) (by omega) (by omega) (by omega)
        rw [h5'] at ih2
        unfold q_b at e4
        have e5 : ¬ (q_dw (y (114 + c)) r p).1 / 2 ^ p % 2 = 0 := by omega
        simp (disch := first | omega | assumption) only [if_neg e5, n_and31, n_and, n_shl', n_sub, r_U1, q_let, q_uu]
        exact ih2
      · rw [if_neg e4] at h5'
        have ih2 := ih (p + 5) (by omega) (by omega) (by omega)
        rw [h5'] at ih2
        unfold q_b at e4 hbl
        have e5 : (q_dw (y (114 + c)) r p).1 / 2 ^ p % 2 = 0 := by omega
        simp (disch := first | omega | assumption) only [if_pos e5]
        exact ih2
theorem p5_fall (hF : 3000 ≤ F) (hI : q_I B y) (h61 : y 2 ≤ 61) {c r : Nat} (hc : c < y 2) (hr : r < 5) : f_L_fallen F (r_W y) (nI c) (nI r) = some (nI (q_fall y c r).1, r_W (q_fall y c r).2) := by
  have h2 := hI.2.2.1
  have h1 := hI.2.1
  have h5 := q_pl_le (c := c) hI.2.1.2
  have h5' : 2 ≤ q_pl y c := by unfold q_pl; omega
  have h6 := hI.2.2.2.2.2.2.2.2.2.2.2.2.1 c hc
  obtain ⟨p', key⟩ := p5_faL (F := F) hI h61 hc hr F r (by omega) (by omega) (by omega)
  rw [q_dw_lo (Nat.le_refl _) hr] at key
  have e0 : q_u y (114 + c) (y (114 + c)) = y := q_ui y rfl
  have key2 : f_L_fallen_L6 F (nI c) F (nI 0) (nI r) (r_W (q_u y (114 + c) (y (114 + c)))) = _ := key
  rw [e0] at key2
  unfold f_L_fallen
  rw [n_l0, key2, q_bind]
  show f_grd (nI c) 61 (f_grd ((r_W (q_u y (114 + c) (q_dw (y (114 + c)) r (q_pl y c)).1)).1 (nI c).toNatClampNeg) 25 (f_grd ((r_W (q_u y (114 + c) (q_dw (y (114 + c)) r (q_pl y c)).1)).1 (nI c).toNatClampNeg) 25 (f_let ((r_W (q_u y (114 + c) (q_dw (y (114 + c)) r (q_pl y c)).1)).1, (r_W (q_u y (114 + c) (q_dw (y (114 + c)) r (q_pl y c)).1)).2.1, (r_W (q_u y (114 + c) (q_dw (y (114 + c)) r (q_pl y c)).1)).2.2.1, upd (r_W (q_u y (114 + c) (q_dw (y (114 + c)) r (q_pl y c)).1)).2.2.2.1 ((r_W (q_u y (114 + c) (q_dw (y (114 + c)) r (q_pl y c)).1)).1 (nI c).toNatClampNeg).toNatClampNeg ((r_W (q_u y (114 + c) (q_dw (y (114 + c)) r (q_pl y c)).1)).2.2.2.1 ((r_W (q_u y (114 + c) (q_dw (y (114 + c)) r (q_pl y c)).1)).1 (nI c).toNatClampNeg).toNatClampNeg + nI (q_dw (y (114 + c)) r (q_pl y c)).2), (r_W (q_u y (114 + c) (q_dw (y (114 + c)) r (q_pl y c)).1)).2.2.2.2) fun u5 => some (nI (q_dw (y (114 + c)) r (q_pl y c)).2, u5)))) = _
  simp (disch := first | omega | assumption) only [q_g, n_C, r_W0, r_W3, q_u_ne, n_add, r_U3, q_let]
  rfl
end RW
