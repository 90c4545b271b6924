/-! the law's day -/
theorem r_fin_fall (s : Nat → Nat) (v c r : Nat) : q_fall (q_u s 7 v) c r = ((q_fall s c r).1, q_u (q_fall s c r).2 7 v) := by
  have e1 : q_u s 7 v (114 + c) = s (114 + c) := q_u_ne (by omega)
  have e2 : q_u s 7 v (14 + c) = s (14 + c) := q_u_ne (by omega)
  have e3 : q_pl (q_u s 7 v) c = q_pl s c := by unfold q_pl; rw [q_u_ne (by omega)]
  have e4 : q_u s 7 v (239 + s (14 + c)) = s (239 + s (14 + c)) := q_u_ne (by omega)
  unfold q_fall q_fl
  rw [e1, e2, e3, e4, q_uc _ _ _ (show 7 ≠ 114 + c by omega), q_uc _ _ _ (show 7 ≠ 239 + s (14 + c) by omega)]
theorem r_sto (s : Nat → Nat) : q_sto (q_fin s) = ((q_sto s).1, q_fin (q_sto s).2) := by
  have e2 : q_fin s 2 = s 2 := q_u_ne (by omega)
  have e6 : q_fin s 6 = s 6 := q_u_ne (by omega)
  have ha : q_sa (q_fin s) = ((q_sa s).1, q_u (q_sa s).2 7 (s 4)) := by
    unfold q_sa
    rw [e2, e6]
    by_cases c : 0 < s 2
    · rw [if_pos c, if_pos c]; exact r_fin_fall s (s 4) _ _
    · rw [if_neg c, if_neg c]; rfl
  have h4 : (q_sa s).2 4 = s 4 := by
    unfold q_sa
    by_cases c : 0 < s 2
    · rw [if_pos c]; exact q_fl_o (by omega) (by omega)
    · rw [if_neg c]
  have hb : ∀ (t : Nat → Nat) (v : Nat), q_sb (q_u t 7 v) = ((q_sb t).1, q_u (q_sb t).2 7 v) := fun t v => by
    have f2 : q_u t 7 v 2 = t 2 := q_u_ne (by omega)
    have f6 : q_u t 7 v 6 = t 6 := q_u_ne (by omega)
    unfold q_sb
    rw [f2, f6]
    by_cases c : 1 < t 2
    · rw [if_pos c, if_pos c]; exact r_fin_fall t v _ _
    · rw [if_neg c, if_neg c]
  have h4' : (q_sb (q_sa s).2).2 4 = s 4 := by
    unfold q_sb
    by_cases c : 1 < (q_sa s).2 2
    · rw [if_pos c]; exact (q_fl_o (by omega) (by omega)).trans h4
    · rw [if_neg c]; exact h4
  unfold q_sto
  rw [ha]
  show ((q_sa s).1 + (q_sb (q_u (q_sa s).2 7 (s 4))).1, (q_sb (q_u (q_sa s).2 7 (s 4))).2) = ((q_sa s).1 + (q_sb (q_sa s).2).1, q_u (q_sb (q_sa s).2).2 7 ((q_sb (q_sa s).2).2 4))
  rw [hb, h4']
section RW
variable {B F : Nat} {y : Nat → Nat}
theorem p5_S (hF : 3000 ≤ F) (hI : q_I B y) (h61 : y 2 ≤ 61) (hB : B + 62 ≤ 1000000000) : r_S F (r_W y) = some (nI (q_sto y).1, r_W (q_sto y).2) := by
  have h6 := hI.2.2.2.2.2.2.1
  have ha := q_sa_I hI (by omega)
  unfold r_S
  by_cases e : y 2 = 0
  · simp (disch := first | omega | assumption) only [n_l0, n_l1, n_l2, n_l3, n_l4, n_l5, n_l6, n_l7, n_l8, n_l9, n_l10, n_l11, n_l12, n_l13, n_l14, n_l15, n_l16, n_l17, n_l18, n_l19, n_l20, n_l21, n_l22, n_l23, n_l24, n_l25, n_l30, n_l31, n_l33, n_l48, n_l49, n_l57, n_l60, n_l100, n_l114, n_l115, n_l126, n_l200, n_l214, n_l239, n_l264, n_l294, n_l400, n_l1000, n_l1470, n_l5000, n_l1000000, n_o, n_nM, q_g, n_C, r_W4, e, if_true]
    unfold q_sto q_sa q_sb
    rw [if_neg (by omega), if_neg (show ¬ 1 < y 2 by omega)]
    rfl
  · simp (disch := first | omega | assumption) only [n_l0, n_l1, n_l2, n_l3, n_l4, n_l5, n_l6, n_l7, n_l8, n_l9, n_l10, n_l11, n_l12, n_l13, n_l14, n_l15, n_l16, n_l17, n_l18, n_l19, n_l20, n_l21, n_l22, n_l23, n_l24, n_l25, n_l30, n_l31, n_l33, n_l48, n_l49, n_l57, n_l60, n_l100, n_l114, n_l115, n_l126, n_l200, n_l214, n_l239, n_l264, n_l294, n_l400, n_l1000, n_l1470, n_l5000, n_l1000000, n_o, n_nM, q_g, n_C, r_W4, n_eq, n_mod, n_sub]
    have hsa : q_sa y = q_fall y (y 2 - 1) (y 6 % 5) := if_pos (by omega)
    rw [if_neg e, p5_fall hF hI h61 (by omega) (Nat.mod_lt _ (by omega)), ← hsa, q_bind]
    have g2 := ha.2.1 2 (by omega)
    have g6 := ha.2.1 6 (by omega)
    have hI' := ha.1
    simp (disch := first | omega | assumption) only [q_let, q_g, n_C, r_W4, n_le, g2, g6, n_add, n_mod]
    unfold q_sto q_sb
    rw [g2, g6]
    by_cases e2 : 2 ≤ y 2
    · rw [if_pos e2, n_sub e2, p5_fall hF hI' (by omega) (by omega) (Nat.mod_lt _ (by omega)), q_bind, if_pos (show 1 < y 2 by omega)]
      simp only [q_let, n_add]
    · rw [if_neg e2, if_neg (show ¬ 1 < y 2 by omega)]; rfl
theorem p5_day (hF : 3000 ≤ F) (hI : q_I B y) (h61 : y 2 ≤ 61) (hB : B + 63 ≤ 1000000000) {w : Nat} (hw : w ≤ 2) : f_L_day F (r_W y) (nI w) = some (nI (q_day y w).1, r_W (q_day y w).2) := by
  have hI1 : q_I (B + 1) (q_u y 6 (y 6 + 1)) := q_set_I hI (by omega) (by omega) (Or.inl ⟨rfl, by have := hI.2.2.2.2.2.2.1; omega⟩)
  have hI2 := q_dp_I (w := w) hI1
  have e2 : q_u y 6 (y 6 + 1) 2 = y 2 := q_u_ne (by omega)
  have hd2 : q_dp (q_u y 6 (y 6 + 1)) w 2 = y 2 := (hI2.2 2 (by omega)).trans e2
  have h4 := hI2.1.2.2.2.2.1
  have hI3 : q_I (B + 1) (q_fin (q_dp (q_u y 6 (y 6 + 1)) w)) := q_set_I hI2.1 (Nat.le_refl _) (by omega) (Or.inr (Or.inl ⟨rfl, h4.2⟩))
  have hf2 : q_fin (q_dp (q_u y 6 (y 6 + 1)) w) 2 = y 2 := (q_u_ne (by omega)).trans hd2
  have hf9 : q_fin (q_dp (q_u y 6 (y 6 + 1)) w) 9 = q_dp (q_u y 6 (y 6 + 1)) w 9 := q_u_ne (by omega)
  have h9 := hI2.1.2.2.2.2.2.2.2.2.2.1
  rw [r_dayE]
  simp (disch := first | omega | assumption) only [n_l0, n_l1, n_l2, n_l3, n_l4, n_l5, n_l6, n_l7, n_l8, n_l9, n_l10, n_l11, n_l12, n_l13, n_l14, n_l15, n_l16, n_l17, n_l18, n_l19, n_l20, n_l21, n_l22, n_l23, n_l24, n_l25, n_l30, n_l31, n_l33, n_l48, n_l49, n_l57, n_l60, n_l100, n_l114, n_l115, n_l126, n_l200, n_l214, n_l239, n_l264, n_l294, n_l400, n_l1000, n_l1470, n_l5000, n_l1000000, n_o, n_nM, q_g, n_C, r_W4, n_add]
  rw [r_U4 (by omega), q_let]
  unfold q_day q_s2
  generalize hu : q_u y 6 (y 6 + 1) = u at *
  simp (disch := first | omega | assumption) only [q_g, n_C, r_W4]
  have h8 := hI1.2.2.2.2.2.2.2.2.1
  have h5 := hI1.2.2.2.2.2.1
  have h9u := hI1.2.2.2.2.2.2.2.2.2.1
  have hj : ∀ (K : Int32 → Option (Int32 × d_W)), (((if nI w ≤ nI 0 then some (nI 0) else (if nI (u 9) = nI 0 then (f_L_done F (r_W u)).bind fun x7 => (if x7 = nI 0 then some (nI 1) else some (nI 0)) else some (nI 0)))).bind fun j3 => ((if j3 = nI 0 then (if nI w = nI 0 then (if nI (u 8) ≤ nI 0 then (some (nI (u 8))) else (some (nI (u 8) - nI 1))) else (some (nI (u 8)))) else (some (nI (u 5))))).bind K) = K (nI (q_dp u w 8)) := by
    intro K
    have hdn := q_dn_le u
    rw [p5_done hF hI1 (by omega)]
    simp (disch := first | omega | assumption) only [n_le, n_eq]
    by_cases c : w = 0
    · have hr : q_dp u w 8 = u 8 - 1 := by unfold q_dp; rw [if_pos c]; exact q_u_eq
      rw [hr, if_pos (by omega), q_bind, if_pos rfl, if_pos c]
      by_cases c8 : u 8 ≤ 0
      · rw [if_pos c8, q_bind, show u 8 - 1 = u 8 by omega]
      · rw [if_neg c8, n_sub (by omega), q_bind]
    · rw [if_neg (by omega)]
      by_cases c9 : u 9 = 0
      · rw [if_pos c9, q_bind]
        simp (disch := first | omega | assumption) only [n_eq]
        by_cases cd : q_dn u = 0
        · have hr : q_dp u w 8 = u 5 := by unfold q_dp; rw [if_neg c, if_pos ⟨c9, cd⟩]; exact q_u_eq
          rw [hr, if_pos cd, q_bind, if_neg (by decide), q_bind]
        · have hr : q_dp u w 8 = u 8 := by unfold q_dp; rw [if_neg c, if_neg (fun q => cd q.2)]
          rw [hr, if_neg cd, q_bind, if_pos rfl, if_neg c, q_bind]
      · have hr : q_dp u w 8 = u 8 := by unfold q_dp; rw [if_neg c, if_neg (fun q => c9 q.1)]
        rw [hr, if_neg c9, q_bind, if_pos rfl, if_neg c, q_bind]
  rw [hj]
  have hq : q_u u 8 (q_dp u w 8) = q_dp u w := by
    funext k
    unfold q_u
    by_cases ck : k = 8
    · rw [if_pos ck, ck]
    · rw [if_neg ck, hI2.2 k ck]
  rw [r_U4 (by omega), q_let, hq]
  simp (disch := first | omega | assumption) only [q_g, n_C, r_W4]
  rw [r_U4 (by omega), q_let]
  have hfin : q_u (q_dp u w) 7 (q_dp u w 4) = q_fin (q_dp u w) := rfl
  rw [hfin]
  simp (disch := first | omega | assumption) only [q_g, n_C, r_W4, n_lt]
  by_cases cw : w = 2
  · rw [if_neg (by omega), hf9]
    simp (disch := first | omega | assumption) only [n_eq]
    by_cases c9 : q_dp u w 9 = 0
    · rw [if_neg (by omega), p5_S hF hI3 (by omega) (by omega), r_sto, if_pos ⟨cw, c9⟩]
    · rw [if_pos (by omega), if_neg (fun q => c9 q.2)]
  · rw [if_pos (by omega), if_neg (fun q => cw q.1)]
theorem r_day_I {w : Nat} (hR : r_I B y) (hB : B + 63 ≤ 1000000000) : r_I (B + 63) (q_day y w).2 := by
  have h1 := q_day_I (w := w) hR.1 hB
  have hI1 : q_I (B + 1) (q_u y 6 (y 6 + 1)) := q_set_I hR.1 (by omega) (by omega) (Or.inl ⟨rfl, by have := hR.1.2.2.2.2.2.2.1; omega⟩)
  have hI2 := q_dp_I (w := w) hI1
  have hI3 := q_s2_I (w := w) hI2.1 (by omega)
  have e : ∀ j, j < 14 → j ≠ 6 → j ≠ 7 → j ≠ 8 → (q_day y w).2 j = y j := fun j h1 h2 h3 h4 => by
    show q_fin (q_s2 (q_dp (q_u y 6 (y 6 + 1)) w) w).2 j = y j
    unfold q_fin
    rw [q_u_ne h3, hI3.2 j h1, hI2.2 j h4, q_u_ne h2]
  exact ⟨h1, by rw [e 0 (by omega) (by omega) (by omega) (by omega)]; exact hR.2.1, by rw [e 2 (by omega) (by omega) (by omega) (by omega)]; exact hR.2.2⟩
theorem r_wd_I {w : Nat} (hR : r_I B y) (hB : B + 63 ≤ 1000000000) : r_I (B + 63) (q_wd y w).2 := by
  unfold q_wd
  split
  · exact r_run_I 161 _ (r_day_I hR hB)
  · exact r_day_I hR hB
/-- a day and its slaters -/
theorem p5_wd (hF : 3000 ≤ F) (hR : r_I B y) (hB : B + 63 ≤ 1000000000) {w : Nat} (hw : w ≤ 2) : ∃ x, f_L_day F (r_W y) (nI w) = some x ∧ f_L_slaters F x.2 = some (nI (q_wd y w).1, r_W (q_wd y w).2) := by
  refine ⟨_, p5_day hF hR.1 (by have := hR.2.2; omega) hB hw, ?_⟩
  show f_L_slaters F (r_W (q_day y w).2) = _
  rw [p5_sl hF (r_day_I hR hB)]
  unfold q_wd
  split <;> rfl
end RW
