/-! heap cleared, a course begun, a slate mended, slates laid -/
section RK
variable {B F : Nat} {y : Nat → Nat} {q : d_C}
theorem p5_clL {a3 : Int32} (g : f_L_at F a3 (nI 3) = some (nI 0)) {j : Nat} (hj : j < 17) (q : d_C) (ev : d_Z) : ∀ n k, 8 ≤ k → k ≤ 8 + j → 8 + j - k < n →
    f_L_act_L315 F a3 (nI j) n (nI (q_sum (fun v => y (239 + v)) k)) (nI k) (q, ev, r_W (q_cl y k)) = some (nI (q_sum (fun v => y (239 + v)) (8 + j)), nI (8 + j), (q, ev, r_W (q_cl y (8 + j)))) := by
  intro n
  induction n with
  | zero => intro k _ _ h; omega
  | succ n ih =>
    intro k h1 h2 h3
    unfold f_L_act_L315
    simp (disch := first | omega | assumption) only [n_l0, n_l1, n_l2, n_l3, n_l4, n_l5, n_l6, n_l7, n_l8, n_l9, n_l10, n_l11, n_l12, n_l13, n_l14, n_l15, n_l16, n_l17, n_l18, n_l19, n_l20, n_l21, n_l22, n_l23, n_l24, n_l25, n_l30, n_l31, n_l33, n_l48, n_l49, n_l57, n_l60, n_l100, n_l114, n_l115, n_l126, n_l200, n_l214, n_l239, n_l264, n_l294, n_l400, n_l1000, n_l1470, n_l5000, n_l1000000, n_o, n_nM, n_add, n_le, g, q_bind]
    by_cases e : 8 + j ≤ k
    · rw [if_pos e, show k = 8 + j by omega]
    · have e1 : q_cl y k (239 + k) = y (239 + k) := if_neg (by omega)
      rw [if_neg e]
      simp (disch := first | omega | assumption) only [q_g, n_C, r_W3, if_true, e1, n_add]
      rw [r_U3 (by omega), q_let, q_cl_s h1]
      exact ih (k + 1) (by omega) (by omega) (by omega)
theorem p5_Aclear (hF : 3000 ≤ F) (h : r_rel B y q) (hB : B + 20000 ≤ 1000000000) (a1 a2 a3 j3 : Int32) {j : Nat} (hj : j < 17) : r_ok B y (r_Aclear F (q, r_a y 264 25, r_W y) a1 a2 a3 (nI j) j3) := by
  obtain ⟨e, he, g⟩ := p5_at (F := F) (n := 3) (by omega) (by omega) a3
  have hI := h.1.1
  have hc0 := q_sum_0 (f := fun v => y (239 + v)) (n := 8) (fun v hv => ((hI.2.2.2.2.2.2.2.2.2.2.2.2.2.1 v (by omega)).2.2.2 hv).2.1)
  obtain ⟨n, hn⟩ : ∃ k, F = k + 1 := ⟨F - 1, by omega⟩
  have hk : ∃ a, 8 ≤ a ∧ a ≤ 25 ∧ f_L_act_L315 F a3 (nI j) F (nI 0) (nI 8) (q, r_a y 264 25, r_W y) = some (nI (q_sum (fun v => y (239 + v)) a), nI a, (q, r_a y 264 25, r_W (q_cl y a))) ∧ (if nI e = nI 0 then some (nI (8 + j)) else some (nI 8)) = some (nI a) := by
    by_cases c : e = 0
    · subst c
      have key := p5_clL (F := F) (y := y) g hj q (r_a y 264 25) F 8 (by omega) (by omega) (by omega)
      rw [hc0, q_cl_8] at key
      exact ⟨8 + j, by omega, by omega, key, if_pos rfl⟩
    · have hne : ¬ nI e = nI 0 := by rw [n_eq (by omega) (by omega)]; exact c
      refine ⟨8, by omega, by omega, ?_, if_neg hne⟩
      rw [hc0, q_cl_8]
      have e9 : f_L_act_L315 F a3 (nI j) (n + 1) (nI 0) (nI 8) (q, r_a y 264 25, r_W y) = some (nI 0, nI 8, (q, r_a y 264 25, r_W y)) := by
        unfold f_L_act_L315
        simp only [n_l0, n_l1, n_l2, n_l3, n_l4, n_l5, n_l6, n_l7, n_l8, n_l9, n_l10, n_l11, n_l12, n_l13, n_l14, n_l15, n_l16, n_l17, n_l18, n_l19, n_l20, n_l21, n_l22, n_l23, n_l24, n_l25, n_l30, n_l31, n_l33, n_l48, n_l49, n_l57, n_l60, n_l100, n_l114, n_l115, n_l126, n_l200, n_l214, n_l239, n_l264, n_l294, n_l400, n_l1000, n_l1470, n_l5000, n_l1000000, n_o, n_nM, g, q_bind, if_neg hne, ite_self]
      rw [← hn] at e9
      exact e9
  obtain ⟨a, a1', a2', ek, ej⟩ := hk
  obtain ⟨q', s1, s2⟩ := p1_clear (F := F) hF h hB ⟨a1', a2'⟩
  have e11 : q_cl y a 11 = y 11 := if_neg (by omega)
  refine r_okI (q' := q') ?_ s2 (fun i hi => by rw [q_u_ne (by omega)]; exact if_neg (by omega)) (by rw [q_u_ne (by omega), show q_cl y a 6 = y 6 from if_neg (by omega)]; omega)
  unfold r_Aclear
  simp only [n_l0, n_l1, n_l2, n_l3, n_l4, n_l5, n_l6, n_l7, n_l8, n_l9, n_l10, n_l11, n_l12, n_l13, n_l14, n_l15, n_l16, n_l17, n_l18, n_l19, n_l20, n_l21, n_l22, n_l23, n_l24, n_l25, n_l30, n_l31, n_l33, n_l48, n_l49, n_l57, n_l60, n_l100, n_l114, n_l115, n_l126, n_l200, n_l214, n_l239, n_l264, n_l294, n_l400, n_l1000, n_l1470, n_l5000, n_l1000000, n_o, n_nM, ek, q_bind, n_add]
  simp (disch := first | omega | assumption) only [q_g, n_C, r_W4, e11, n_add, g, q_bind, ej]
  rw [r_U4 (by omega), q_let]
  simp only [r_nt s1, q_let, if_true]
theorem p5_Aadd (hF : 3000 ≤ F) (h : r_rel B y q) (hB : B + 20000 ≤ 1000000000) {a : Nat} (ha : 8 ≤ a ∧ a ≤ q_lo y) (hd : q_dry y = 1) (hg : ¬ (0 < y 2 ∧ q_g0 y (y 2 - 1) < q_pl y (y 2 - 1))) : r_ok B y (r_Aadd F (q, r_a y 264 25, r_W y) (nI a)) := by
  have h2 := h.1.2.2
  have h0 := h.1.2.1
  have hI := h.1.1
  have ht := q_top_le hI (Nat.le_refl (y 2))
  unfold r_Aadd
  simp (disch := first | omega | assumption) only [n_l0, n_l1, n_l2, n_l3, n_l4, n_l5, n_l6, n_l7, n_l8, n_l9, n_l10, n_l11, n_l12, n_l13, n_l14, n_l15, n_l16, n_l17, n_l18, n_l19, n_l20, n_l21, n_l22, n_l23, n_l24, n_l25, n_l30, n_l31, n_l33, n_l48, n_l49, n_l57, n_l60, n_l100, n_l114, n_l115, n_l126, n_l200, n_l214, n_l239, n_l264, n_l294, n_l400, n_l1000, n_l1470, n_l5000, n_l1000000, n_o, n_nM, q_g, n_C, r_W4, p5_top hF hI (Nat.le_refl _) (show y 2 ≤ 61 by omega), q_bind, n_lt]
  by_cases e : q_top y (y 2) < y 0
  · obtain ⟨q', s1, s2⟩ := p1_course (F := F) hF h hB ha hd e hg
    have o264 : ∀ k, k < 25 → q_bg y a (264 + k) = y (264 + k) := fun k hk => q_bg_o (by omega) (by omega) (by omega)
    have o6 : q_bg y a 6 = y 6 := q_bg_o (by omega) (by omega) (by omega)
    refine r_okI (q' := q') ?_ s2 o264 (by rw [o6]; omega)
    rw [if_pos e]
    rw [r_U0 (by omega), q_let]
    simp (disch := first | omega | assumption) only [q_g, n_C, r_W4, q_u_ne]
    rw [r_U1 (by omega), q_let]
    simp (disch := first | omega | assumption) only [q_g, n_C, r_W4, q_u_ne, n_add]
    rw [r_U4 (by omega), q_let]
    have e9 : q_u (q_u (q_u y (14 + y 2) a) (114 + y 2) 0) 2 (y 2 + 1) = q_bg y a := rfl
    rw [e9]
    simp only [r_nt s1, q_let]
    rw [if_pos (Int32.sub_add_cancel _ _).symm]
  · rw [if_neg e]; exact r_okS h hB
theorem p5_Acourse (hF : 3000 ≤ F) (h : r_rel B y q) (hB : B + 20000 ≤ 1000000000) (a1 a2 a3 x2 : Int32) : r_ok B y (r_Acourse F (q, r_a y 264 25, r_W y) a1 a2 a3 x2 (nI (q_dry y))) := by
  have h2 := h.1.2.2
  have hI := h.1.1
  have hlo := q_lo_le hI
  have hdl := q_dry_le y
  obtain ⟨i, hi, gi⟩ := p5_at (F := F) (n := q_lo y - 7) (by omega) (by omega) a2
  unfold r_Acourse
  simp (disch := first | omega | assumption) only [n_l0, n_l1, n_l2, n_l3, n_l4, n_l5, n_l6, n_l7, n_l8, n_l9, n_l10, n_l11, n_l12, n_l13, n_l14, n_l15, n_l16, n_l17, n_l18, n_l19, n_l20, n_l21, n_l22, n_l23, n_l24, n_l25, n_l30, n_l31, n_l33, n_l48, n_l49, n_l57, n_l60, n_l100, n_l114, n_l115, n_l126, n_l200, n_l214, n_l239, n_l264, n_l294, n_l400, n_l1000, n_l1470, n_l5000, n_l1000000, n_o, n_nM, p5_lo hI (show y 2 ≤ 61 by omega), q_bind, n_sub, gi, n_eq, q_g, n_C, r_W4]
  by_cases e : q_dry y = 0
  · rw [if_pos e]; exact r_okS h hB
  · rw [if_neg e]
    by_cases e2 : y 2 = 0
    · have e9 : nI (y 2) - nI 1 = nM := by rw [e2]; exact n_0M
      rw [e9]
      simp (disch := first | omega | assumption) only [n_Mlt, if_true]
      exact p5_Aadd hF h hB ⟨by omega, by omega⟩ (by omega) (fun q => by omega)
    · rw [n_sub (by omega), if_neg (by rw [n_lt (by omega) (by omega)]; omega), p5_gap hF hI (by omega) (show y 2 - 1 < y 2 by omega), q_bind]
      unfold q_gI
      by_cases e3 : q_fg (y (114 + (y 2 - 1))) (q_pl y (y 2 - 1)) < q_pl y (y 2 - 1)
      · have h5 := q_pl_le (c := y 2 - 1) hI.2.1.2
        rw [if_pos e3, if_pos (by rw [n_le (by omega) (by omega)]; omega)]; exact r_okS h hB
      · rw [if_neg e3, if_neg (show ¬ nI 0 ≤ nM by decide)]
        exact p5_Aadd hF h hB ⟨by omega, by omega⟩ (by omega) (fun q => e3 q.2)
theorem p5_Amend (hF : 3000 ≤ F) (h : r_rel B y q) (hB : B + 20000 ≤ 1000000000) (h0 : 0 < y 2) (hd : q_dry y = 1) (a1 a2 a3 x2 j3 : Int32) : r_ok B y (r_Amend F (q, r_a y 264 25, r_W y) a1 a2 a3 x2 j3) := by
  have h2 := h.1.2.2
  have hI := h.1.1
  have h7 := hI.2.2.2.2.2.2.2.1
  obtain ⟨c, hc, gc⟩ := p5_at (F := F) (n := y 2) (by omega) (by omega) a2
  have hl := hI.2.2.2.2.2.2.2.2.2.2.2.2.1 c hc
  have h5 := q_pl_le (c := c) hI.2.1.2
  have hw := q_w hI.2.1.2 hl.2.2
  have hst := (q_st hI (v := y (14 + c)) (by omega)).1
  unfold r_Amend
  simp (disch := first | omega | assumption) only [n_l0, n_l1, n_l2, n_l3, n_l4, n_l5, n_l6, n_l7, n_l8, n_l9, n_l10, n_l11, n_l12, n_l13, n_l14, n_l15, n_l16, n_l17, n_l18, n_l19, n_l20, n_l21, n_l22, n_l23, n_l24, n_l25, n_l30, n_l31, n_l33, n_l48, n_l49, n_l57, n_l60, n_l100, n_l114, n_l115, n_l126, n_l200, n_l214, n_l239, n_l264, n_l294, n_l400, n_l1000, n_l1470, n_l5000, n_l1000000, n_o, n_nM, q_g, n_C, r_W4, gc, q_bind, p5_gap hF hI (show y 2 ≤ 61 by omega) hc]
  unfold q_gI
  by_cases e1 : q_fg (y (114 + c)) (q_pl y c) < q_pl y c
  · have hb := q_fg_bit e1
    have hp : q_fg (y (114 + c)) (q_pl y c) < 32 := by omega
    rw [if_pos e1]
    simp (disch := first | omega | assumption) only [n_lt]
    rw [if_neg (by omega)]
    simp (disch := first | omega | assumption) only [q_g, n_C, r_W0, r_W2, n_eq, n_le]
    by_cases e2 : y (214 + y (14 + c)) = 0
    · rw [if_pos e2]; exact r_okS h hB
    · rw [if_neg e2]
      by_cases e3 : 3 ≤ y 7
      · obtain ⟨q', s1, s2⟩ := p1_mend (F := F) (p := q_g0 y c) h hB hd hc e1 hb (by omega) e3
        have e7 : q_ly y c (q_g0 y c) 3 7 = y 7 - 3 := q_u_eq
        refine r_okI (q' := q') ?_ s2 (fun k hk => q_ly_o (by omega) (by omega) (by omega)) (by rw [q_ly_o (by omega) (by omega) (by omega)]; omega)
        rw [if_pos e3]
        simp (disch := first | omega | assumption) only [r_W1, n_and31, n_and, n_shl', n_or, q_bset, q_g, n_C]
        rw [r_U1 (by omega), q_let]
        simp (disch := first | omega | assumption) only [q_g, n_C, r_W0, r_W2, q_u_ne, n_sub]
        rw [r_U2 (by omega), q_let]
        simp (disch := first | omega | assumption) only [q_g, n_C, r_W4, q_u_ne, n_sub]
        rw [r_U4 (by omega), q_let]
        have e9 : q_u (q_u (q_u y (114 + c) (y (114 + c) + 2 ^ q_fg (y (114 + c)) (q_pl y c))) (214 + y (14 + c)) (y (214 + y (14 + c)) - 1)) 7 (y 7 - 3) = q_ly y c (q_g0 y c) 3 := rfl
        have e10 : q_fg (y (114 + c)) (q_pl y c) = q_g0 y c := rfl
        rw [e9, e10]
        simp only []
        rw [r_nt s1, q_let]
        simp (disch := first | omega | assumption) only [q_g, n_C, r_W4, e7, if_true]
      · rw [if_neg e3]; exact r_okS h hB
  · rw [if_neg e1]
    simp (disch := first | omega | assumption) only [n_Mlt, if_true]
    exact r_okS h hB
theorem q_sl_I {c p : Nat} (hI : q_I B y) (hc : c < y 2) (h61 : y 2 ≤ 61) (hp : p < q_pl y c) (hb : q_b (y (114 + c)) p = 0) : q_I B (q_u y (114 + c) (y (114 + c) + 2 ^ p)) := by
  obtain ⟨a0, a1, a2, a3, a4, a5, a6, a7, a8, a9, a12, a13, ac, av, as, ak, aB⟩ := hI
  have hcc := ac c hc
  have e : ∀ j, j ≠ 114 + c → q_u y (114 + c) (y (114 + c) + 2 ^ p) j = y j := fun j h1 => q_u_ne h1
  have e4 : q_u y (114 + c) (y (114 + c) + 2 ^ p) (114 + c) = y (114 + c) + 2 ^ p := q_u_eq
  generalize hu : q_u y (114 + c) (y (114 + c) + 2 ^ p) = u at *
  unfold q_I
  rw [e 0 (by omega), e 1 (by omega), e 2 (by omega), e 3 (by omega), e 4 (by omega), e 5 (by omega), e 6 (by omega), e 7 (by omega), e 8 (by omega), e 9 (by omega), e 12 (by omega), e 13 (by omega)]
  refine ⟨a0, a1, a2, a3, a4, a5, a6, a7, a8, a9, a12, a13, fun d hd => ?_, fun w hw => ?_, ?_, fun k hk => ?_, aB⟩
  · rw [e (14 + d) (by omega)]
    by_cases h : d = c
    · subst h
      rw [e4]
      exact ⟨hcc.1, hcc.2.1, q_bhi hb hcc.2.2 hp⟩
    · rw [e (114 + d) (by omega)]
      exact ac d hd
  · rw [e (214 + w) (by omega), e (239 + w) (by omega), e (264 + w) (by omega)]
    exact av w hw
  · rw [q_sum_cg (g := fun v => y (264 + v)) (fun k hk => e (264 + k) (by omega))]
    exact as
  · rw [e k (by omega)]; exact ak k hk
def r_lz (c : Nat) : Nat → (Nat → Nat) → (Nat → Nat)
  | 0, y => y
  | k + 1, y => r_lz c k (q_u y (114 + c) (y (114 + c) + 2 ^ q_g0 y c))
theorem r_lz_o {c j : Nat} (h : j ≠ 114 + c) : ∀ r (s : Nat → Nat), r_lz c r s j = s j := by
  intro r
  induction r with
  | zero => intro s; rfl
  | succ r ih => intro s; exact (ih _).trans (q_u_ne h)
theorem r_lz_u {c j w : Nat} (h1 : j ≠ 114 + c) (h2 : j ≠ 1) : ∀ r (s : Nat → Nat), r_lz c r (q_u s j w) = q_u (r_lz c r s) j w := by
  intro r
  induction r with
  | zero => intro s; rfl
  | succ r ih =>
    intro s
    have e1 : q_g0 (q_u s j w) c = q_g0 s c := by
      unfold q_g0 q_pl; rw [q_u_ne (Ne.symm h1), q_u_ne (Ne.symm h2)]
    show r_lz c r (q_u (q_u s j w) (114 + c) (q_u s j w (114 + c) + 2 ^ q_g0 (q_u s j w) c)) = q_u (r_lz c r (q_u s (114 + c) (s (114 + c) + 2 ^ q_g0 s c))) j w
    rw [e1, q_u_ne (Ne.symm h1), q_uc _ _ _ h1, ih]
theorem q_lz_r {c : Nat} (hc : c ≤ 60) : ∀ k (y : Nat → Nat), y (14 + c) ≤ 24 → q_lz c k y = q_u (q_u (r_lz c k y) (214 + y (14 + c)) (y (214 + y (14 + c)) - k)) 7 (y 7 - k) := by
  intro k
  induction k with
  | zero =>
    intro y h
    show y = q_u (q_u y (214 + y (14 + c)) (y (214 + y (14 + c)) - 0)) 7 (y 7 - 0)
    rw [Nat.sub_zero, Nat.sub_zero, q_ui y (k := 214 + y (14 + c)) rfl, q_ui y rfl]
  | succ k ih =>
    intro y h
    have e3 : q_ly y c (q_g0 y c) 1 (14 + c) = y (14 + c) := q_ly_o (by omega) (by omega) (by omega)
    have e5 : q_ly y c (q_g0 y c) 1 (214 + y (14 + c)) = y (214 + y (14 + c)) - 1 := by unfold q_ly; rw [q_u_ne (by omega), q_u_eq]
    have e6 : q_ly y c (q_g0 y c) 1 7 = y 7 - 1 := q_u_eq
    show q_lz c k (q_ly y c (q_g0 y c) 1) = q_u (q_u (r_lz c k (q_u y (114 + c) (y (114 + c) + 2 ^ q_g0 y c))) (214 + y (14 + c)) (y (214 + y (14 + c)) - (k + 1))) 7 (y 7 - (k + 1))
    rw [ih _ (by rw [e3]; exact h), e3, e5, e6]
    have e7 : r_lz c k (q_ly y c (q_g0 y c) 1) = q_u (q_u (r_lz c k (q_u y (114 + c) (y (114 + c) + 2 ^ q_g0 y c))) (214 + y (14 + c)) (y (214 + y (14 + c)) - 1)) 7 (y 7 - 1) := by
      unfold q_ly
      rw [r_lz_u (by omega) (by omega), r_lz_u (by omega) (by omega)]
    rw [e7, q_uc _ _ _ (show 7 ≠ 214 + y (14 + c) by omega), q_uu, q_uu, show y (214 + y (14 + c)) - 1 - k = y (214 + y (14 + c)) - (k + 1) by omega, show y 7 - 1 - k = y 7 - (k + 1) by omega]
theorem p1_lzL (hF : 3000 ≤ F) {c m : Nat} (hm : m ≤ 60) (hc60 : c ≤ 60) {q13 : d_C} (hc13 : q13.1 2 - nI 1 = nI c) (rest : d_Z × d_S × d_T) : ∀ r (y : Nat → Nat) n k, k + r = m → q_I B y → c < y 2 → r ≤ q_pl y c - q_in y c → r ≤ y (214 + y (14 + c)) → r ≤ y 7 → r < n →
    f_X3_lay_L74 F (nI m) q13 n (nI k) (q_z y, rest) = some (nI m, (q_z (q_lz c r y), rest)) ∧ q_I B (q_lz c r y) := by
  intro r
  induction r with
  | zero =>
    intro y n k h1 hI hc h2 h3 h4 h5
    obtain ⟨n, rfl⟩ : ∃ n', n = n' + 1 := ⟨n - 1, by omega⟩
    have hle := n_le (a := m) (b := k) (by omega) (by omega)
    rw [f_X3_lay_L74]
    simp only [hle]
    rw [if_pos (show m ≤ k by omega), show k = m by omega]
    exact ⟨rfl, hI⟩
  | succ r ih =>
    intro y n k h1 hI hc h2 h3 h4 h5
    obtain ⟨n, rfl⟩ : ∃ n', n = n' + 1 := ⟨n - 1, by omega⟩
    have hle := n_le (a := m) (b := k) (by omega) (by omega)
    have hlt : q_g0 y c < q_pl y c := by
      have : q_in y c < q_pl y c := by omega
      unfold q_in at this
      rw [← q_fg_lt] at this
      exact this
    have hb : q_b (y (114 + c)) (q_g0 y c) = 0 := q_fg_bit hlt
    have hg : q_gI (y (114 + c)) (q_pl y c) = nI (q_g0 y c) := if_pos hlt
    obtain ⟨i1, i2, i3, i4, i5, i6⟩ := q_ly_in hlt hb hI hc
    have hI' := q_ly_I (x := 1) hI hc hlt hb
    rw [f_X3_lay_L74]
    simp only [hle]
    rw [if_neg (show ¬ m ≤ k by omega), show (1 : Int32) = nI 1 from n_l1, hc13]
    rw [q1_fg hF hI hc, q_bind, hg, q1_ly hI hc hlt hb (by omega) (by omega), q_bind, q_let, n_add]
    exact ih (q_ly y c (q_g0 y c) 1) n (k + 1) (by omega) hI' (by omega) (by omega) (by rw [i4, i5]; omega) (by omega) (by omega)
theorem p1_lay (hF : 3000 ≤ F) (h : r_rel B y q) (hB : B + 20000 ≤ 1000000000) {m : Nat} (h0 : 0 < y 2) (hd : q_dry y = 1) (hm1 : 1 ≤ m) (hmp : m ≤ q_pl y (y 2 - 1) - q_in y (y 2 - 1)) (hms : m ≤ y (214 + y (14 + (y 2 - 1)))) (hm7 : m ≤ y 7) : ∃ q', f_X3_lay F q (nI m) = some (.inr (nI (q_in (q_lz (y 2 - 1) m y) (y 2 - 1)), q')) ∧ r_rel (B + 20000) (q_lz (y 2 - 1) m y) q' := by
  obtain ⟨sv, k1, k2⟩ := r_keep (F := F) h.1.1 h.2.1 (r_sv0 h.2.2.1)
  have hI := h.1.1
  have h2 := h.1.2.2
  have hc : y 2 - 1 < y 2 := by omega
  have hl := hI.2.2.2.2.2.2.2.2.2.2.2.2.1 _ hc
  have hpl := q_pl_le (c := y 2 - 1) hI.2.1.2
  have hin := q_in_le y (y 2 - 1)
  have hst := (q_st hI (v := y (14 + (y 2 - 1))) (by omega)).1
  have h7 := hI.2.2.2.2.2.2.2.1
  have hlt1 := n_lt (a := q_pl y (y 2 - 1) - q_in y (y 2 - 1)) (b := m) (by omega) (by omega)
  have hlt2 := n_lt (a := y (214 + y (14 + (y 2 - 1)))) (b := m) (by omega) (by omega)
  have hle3 := n_le (a := m) (b := y 7) (by omega) (by omega)
  have hlt3 := n_lt (a := y 7) (b := m) (by omega) (by omega)
  have hcl : f_X1_canLay F (q_z y) (nI m) = some (nI 1) := by
    unfold f_X1_canLay
    simp only [n_l0, n_l1, n_l2, n_l3, n_l4, n_l5, n_l6, n_l7, n_l8, n_l9, n_l10, n_l11, n_l12, n_l13, n_l14, n_l15, n_l16, n_l17, n_l18, n_l19, n_l20, n_l21, n_l22, n_l23, n_l24, n_l25, n_l30, n_l31, n_l33, n_l48, n_l49, n_l57, n_l60, n_l100, n_l114, n_l115, n_l126, n_l200, n_l214, n_l239, n_l264, n_l294, n_l400, n_l1000, n_l1470, n_l5000, n_l1000000, n_o, n_nM]
    rw [q_zk2, n_sub (by omega), q1_hc hI (by omega), if_pos hc, q_bind, if_neg r_n10, q1_pl (by omega), q_bind, q1_sl hI hc, q_bind, n_sub hin]
    simp only [hlt1]
    rw [if_neg (by omega), q_vAt (by omega) (by omega), q_bind, q_zk, q_vAt (by omega) (by omega), q_bind, q_zk, q_zk7]
    simp (disch := first | omega | assumption) only [hlt2, hlt3, hle3]
    rw [if_neg (by omega)]
    first | rw [if_pos (show m ≤ y 7 by omega)] | rw [if_neg (show ¬ y 7 < m by omega)]
  have hc13 : ((q_z y, q.2.1, sv, q.2.2.2) : d_C).1 2 - nI 1 = nI (y 2 - 1) := by
    show q_z y 2 - nI 1 = nI (y 2 - 1)
    rw [q_zk2, n_sub (by omega)]
  obtain ⟨c1, c3⟩ := p1_lzL hF (show m ≤ 60 by omega) (show y 2 - 1 ≤ 60 by omega) hc13 (q.2.1, sv, q.2.2.2) m y F 0 (by omega) hI hc hmp hms hm7 (by omega)
  have el := q_lz_r (c := y 2 - 1) (by omega) m y (by omega)
  have o0 : q_lz (y 2 - 1) m y 0 = y 0 := by rw [el, q_u_ne (by omega), q_u_ne (by omega), r_lz_o (by omega)]
  have o2 : q_lz (y 2 - 1) m y 2 = y 2 := by rw [el, q_u_ne (by omega), q_u_ne (by omega), r_lz_o (by omega)]
  refine ⟨(q_z (q_lz (y 2 - 1) m y), q.2.1, sv, q.2.2.2), ?_, r_fin h k2 (q_I_mono c3 (show B ≤ B + 20000 by omega) hB) o0 o2 q.2.1⟩
  unfold f_X3_lay
  simp only [q_let, n_l0, n_l1, n_l2, n_l3, n_l4, n_l5, n_l6, n_l7, n_l8, n_l9, n_l10, n_l11, n_l12, n_l13, n_l14, n_l15, n_l16, n_l17, n_l18, n_l19, n_l20, n_l21, n_l22, n_l23, n_l24, n_l25, n_l30, n_l31, n_l33, n_l48, n_l49, n_l57, n_l60, n_l100, n_l114, n_l115, n_l126, n_l200, n_l214, n_l239, n_l264, n_l294, n_l400, n_l1000, n_l1470, n_l5000, n_l1000000, n_o, n_nM, h.2.1]
  rw [r_in1 (by omega) hm1 (by omega), q_bind, if_neg r_n10, q1_dry hI, q_bind, hd, if_neg r_n10, hcl, q_bind, if_neg r_n10, k1, q_bind, c1, q_bind, hc13]
  simp only []
  rw [q1_sl c3 (by omega), q_bind]
theorem p5_lzL (hF : 3000 ≤ F) {c i : Nat} (hi : i < 100) (Y0 : d_A) (hY : Y0.2.2.2.2.2.2 2 - nI 1 = nI c) (q : d_C) (ev : d_Z) : ∀ r (s : Nat → Nat) n k, k + r = 1 + i → q_I B s → c < s 2 → s 2 ≤ 61 → r ≤ q_pl s c - q_in s c → r < n →
    f_L_act_L848 F Y0 (nI i) n (nI k) (q, ev, r_W s) = some (nI (1 + i), (q, ev, r_W (r_lz c r s))) := by
  intro r
  induction r with
  | zero =>
    intro s n k h1 hI hc h61 h2 h5
    obtain ⟨n, rfl⟩ : ∃ n', n = n' + 1 := ⟨n - 1, by omega⟩
    unfold f_L_act_L848
    simp (disch := first | omega | assumption) only [n_l0, n_l1, n_l2, n_l3, n_l4, n_l5, n_l6, n_l7, n_l8, n_l9, n_l10, n_l11, n_l12, n_l13, n_l14, n_l15, n_l16, n_l17, n_l18, n_l19, n_l20, n_l21, n_l22, n_l23, n_l24, n_l25, n_l30, n_l31, n_l33, n_l48, n_l49, n_l57, n_l60, n_l100, n_l114, n_l115, n_l126, n_l200, n_l214, n_l239, n_l264, n_l294, n_l400, n_l1000, n_l1470, n_l5000, n_l1000000, n_o, n_nM, n_add, n_le]
    rw [if_pos (by omega), show k = 1 + i by omega]
    rfl
  | succ r ih =>
    intro s n k h1 hI hc h61 h2 h5
    obtain ⟨n, rfl⟩ : ∃ n', n = n' + 1 := ⟨n - 1, by omega⟩
    have hpl := q_pl_le (c := c) hI.2.1.2
    have hlt : q_fg (s (114 + c)) (q_pl s c) < q_pl s c := by
      have : q_in s c < q_pl s c := by omega
      unfold q_in at this
      rw [← q_fg_lt] at this
      exact this
    have hb : q_b (s (114 + c)) (q_fg (s (114 + c)) (q_pl s c)) = 0 := q_fg_bit hlt
    have hp : q_fg (s (114 + c)) (q_pl s c) < 32 := by omega
    have hg : q_gI (s (114 + c)) (q_pl s c) = nI (q_fg (s (114 + c)) (q_pl s c)) := if_pos hlt
    obtain ⟨i1, i2, i3, i4, i5, i6⟩ := q_ly_in hlt hb hI hc
    have hI' := q_sl_I hI hc h61 hlt hb
    have j1 : q_u s (114 + c) (s (114 + c) + 2 ^ q_fg (s (114 + c)) (q_pl s c)) 2 = s 2 := q_u_ne (by omega)
    have j2 : q_pl (q_u s (114 + c) (s (114 + c) + 2 ^ q_fg (s (114 + c)) (q_pl s c))) c = q_pl s c := by unfold q_pl; rw [q_u_ne (by omega)]
    have j3 : q_in (q_u s (114 + c) (s (114 + c) + 2 ^ q_fg (s (114 + c)) (q_pl s c))) c = q_in s c + 1 := by
      rw [← i1]
      unfold q_in
      rw [i2, j2, q_u_eq]
      have e4 : q_ly s c (q_fg (s (114 + c)) (q_pl s c)) 1 (114 + c) = s (114 + c) + 2 ^ q_fg (s (114 + c)) (q_pl s c) := by
        have hlc := hI.2.2.2.2.2.2.2.2.2.2.2.2.1 c hc
        unfold q_ly; rw [q_u_ne (by omega), q_u_ne (by omega), q_u_eq]
      rw [e4]
    unfold f_L_act_L848
    simp (disch := first | omega | assumption) only [n_l0, n_l1, n_l2, n_l3, n_l4, n_l5, n_l6, n_l7, n_l8, n_l9, n_l10, n_l11, n_l12, n_l13, n_l14, n_l15, n_l16, n_l17, n_l18, n_l19, n_l20, n_l21, n_l22, n_l23, n_l24, n_l25, n_l30, n_l31, n_l33, n_l48, n_l49, n_l57, n_l60, n_l100, n_l114, n_l115, n_l126, n_l200, n_l214, n_l239, n_l264, n_l294, n_l400, n_l1000, n_l1470, n_l5000, n_l1000000, n_o, n_nM, n_add, n_le, n_C, hY]
    rw [if_neg (by omega), p5_gap hF hI h61 hc]
    simp only [q_bind, hg]
    simp (disch := first | omega | assumption) only [q_g, n_C, r_W1, n_and31, n_and, n_shl', n_or, q_bset]
    rw [r_U1 (by omega), q_let]
    exact ih _ n (k + 1) (by omega) hI' (by omega) (by omega) (by omega) (by omega)
theorem p5_Alay (hF : 3000 ≤ F) (h : r_rel B y q) (hB : B + 20000 ≤ 1000000000) (h0 : 0 < y 2) (hd : q_dry y = 1) (a1 a2 a3 x2 j3 : Int32) : r_ok B y (r_Alay F (q, r_a y 264 25, r_W y) a1 a2 a3 x2 j3) := by
  have h2 := h.1.2.2
  have hI := h.1.1
  have h7 := hI.2.2.2.2.2.2.2.1
  have hc : y 2 - 1 < y 2 := by omega
  have hl := hI.2.2.2.2.2.2.2.2.2.2.2.2.1 _ hc
  have hpl := q_pl_le (c := y 2 - 1) hI.2.1.2
  have hin := q_in_le y (y 2 - 1)
  have hst := (q_st hI (v := y (14 + (y 2 - 1))) (by omega)).1
  have g1 := p5_pl (F := F) (y := y) (c := y 2 - 1) (by omega)
  have g2 := p5_in (F := F) hF hI hc (by omega)
  have hm : ∃ o, (if y (214 + y (14 + (y 2 - 1))) ≤ q_pl y (y 2 - 1) - q_in y (y 2 - 1) then some (nI (y (214 + y (14 + (y 2 - 1))))) else some (nI (q_pl y (y 2 - 1) - q_in y (y 2 - 1)))) = some (nI o) ∧ o ≤ y (214 + y (14 + (y 2 - 1))) ∧ o ≤ q_pl y (y 2 - 1) - q_in y (y 2 - 1) := by
    by_cases e : y (214 + y (14 + (y 2 - 1))) ≤ q_pl y (y 2 - 1) - q_in y (y 2 - 1)
    · exact ⟨_, if_pos e, Nat.le_refl _, e⟩
    · exact ⟨_, if_neg e, by omega, Nat.le_refl _⟩
  obtain ⟨o, eo, o1, o2⟩ := hm
  have hm2 : ∃ m, (if y 7 ≤ o then some (nI (y 7)) else some (nI o)) = some (nI m) ∧ m ≤ y 7 ∧ m ≤ o := by
    by_cases e : y 7 ≤ o
    · exact ⟨_, if_pos e, Nat.le_refl _, e⟩
    · exact ⟨_, if_neg e, by omega, Nat.le_refl _⟩
  obtain ⟨m, em, m1, m2⟩ := hm2
  unfold r_Alay
  simp (disch := first | omega | assumption) only [n_l0, n_l1, n_l2, n_l3, n_l4, n_l5, n_l6, n_l7, n_l8, n_l9, n_l10, n_l11, n_l12, n_l13, n_l14, n_l15, n_l16, n_l17, n_l18, n_l19, n_l20, n_l21, n_l22, n_l23, n_l24, n_l25, n_l30, n_l31, n_l33, n_l48, n_l49, n_l57, n_l60, n_l100, n_l114, n_l115, n_l126, n_l200, n_l214, n_l239, n_l264, n_l294, n_l400, n_l1000, n_l1470, n_l5000, n_l1000000, n_o, n_nM, q_g, n_C, r_W4, n_sub, g1, g2, q_bind]
  simp (disch := first | omega | assumption) only [q_g, n_C, r_W0, r_W2, n_le, eo, q_bind]
  simp (disch := first | omega | assumption) only [n_le, em, q_bind, n_eq]
  by_cases e0 : m = 0
  · rw [if_pos e0]; exact r_okS h hB
  · rw [if_neg e0]
    obtain ⟨i, hi, gi⟩ := p5_at (F := F) (n := m) (by omega) (by omega) a3
    obtain ⟨q', s1, s2⟩ := p1_lay (F := F) (m := 1 + i) hF h hB h0 hd (by omega) (by omega) (by omega) (by omega)
    have hY : ((q, r_a y 264 25, r_W y) : d_A).2.2.2.2.2.2 2 - nI 1 = nI (y 2 - 1) := by
      show (r_W y).2.2.2.2 2 - nI 1 = _
      rw [r_W4 (by omega), n_sub (by omega)]
    have key := p5_lzL (F := F) hF (show i < 100 by omega) (q, r_a y 264 25, r_W y) hY q (r_a y 264 25) (1 + i) y F 0 (by omega) hI hc (by omega) (by omega) (by omega)
    have el := q_lz_r (c := y 2 - 1) (by omega) (1 + i) y (by omega)
    have l14 : r_lz (y 2 - 1) (1 + i) y (14 + (y 2 - 1)) = y (14 + (y 2 - 1)) := r_lz_o (by omega) _ _
    have l214 : r_lz (y 2 - 1) (1 + i) y (214 + y (14 + (y 2 - 1))) = y (214 + y (14 + (y 2 - 1))) := r_lz_o (by omega) _ _
    have l7 : r_lz (y 2 - 1) (1 + i) y 7 = y 7 := r_lz_o (by omega) _ _
    have oo : ∀ j, (j = 2 ∨ j = 6 ∨ 264 ≤ j) → q_lz (y 2 - 1) (1 + i) y j = y j := fun j hj => by
      rw [el, q_u_ne (by omega), q_u_ne (by omega), r_lz_o (by omega)]
    have o9 := oo 2 (by omega)
    refine r_okI (q' := q') ?_ s2 (fun k hk => oo _ (by omega)) (by rw [oo 6 (by omega)]; omega)
    rw [gi, q_bind, key, q_bind]
    simp (disch := first | omega | assumption) only [q_g, n_C, r_W0, r_W2, l14, l214, n_add, n_sub]
    rw [r_U2 (by omega), q_let]
    simp (disch := first | omega | assumption) only [q_g, n_C, r_W4, q_u_ne, l7, n_sub]
    rw [r_U4 (by omega), q_let, ← el]
    simp only []
    rw [r_nt s1, q_let]
    simp only []
    rw [p5_in hF s2.1.1 (by omega) (by omega), q_bind]
    exact if_pos rfl
end RK
