/-! the slaters' steps -/
def q_g0 (y : Nat → Nat) (c : Nat) : Nat := q_fg (y (114 + c)) (q_pl y c)
def q_cm (y : Nat → Nat) : Prop := q_op y (y 2 - 1) < y 2 - 1 ∧ 0 < y (214 + y (14 + q_op y (y 2 - 1))) ∧ 3 ≤ y 7
def q_step (y : Nat → Nat) : Option (Nat × (Nat → Nat)) :=
  if q_op y (y 2 - 1) < y 2 - 1 ∧ 0 < y (214 + y (14 + q_op y (y 2 - 1))) ∧ 3 ≤ y 7 then some (1, q_ly y (q_op y (y 2 - 1)) (q_g0 y (q_op y (y 2 - 1))) 3)
  else if 0 < y 2 ∧ q_g0 y (y 2 - 1) < q_pl y (y 2 - 1) then
    (if 0 < y (214 + y (14 + (y 2 - 1))) ∧ 1 ≤ y 7 then some (1, q_ly y (y 2 - 1) (q_g0 y (y 2 - 1)) 1) else none)
  else if q_top y (y 2) < y 0 ∧ y 2 < 100 ∧ q_nl y ≠ 0 then some (0, q_bg y (q_nl y)) else none
def q_mu (y : Nat → Nat) : Nat := y 7 + (100 - y 2)
def q_run : Nat → (Nat → Nat) → Nat × (Nat → Nat)
  | 0, y => (0, y)
  | n + 1, y => match q_step y with
    | none => (0, y)
    | some r => (r.1 + (q_run n r.2).1, (q_run n r.2).2)
theorem q_ly_o {y : Nat → Nat} {c p x j : Nat} (h1 : j ≠ 114 + c) (h2 : j ≠ 214 + y (14 + c)) (h3 : j ≠ 7) : q_ly y c p x j = y j := by
  unfold q_ly; rw [q_u_ne h3, q_u_ne h2, q_u_ne h1]
theorem q_bg_o {y : Nat → Nat} {v j : Nat} (h1 : j ≠ 14 + y 2) (h2 : j ≠ 114 + y 2) (h3 : j ≠ 2) : q_bg y v j = y j := by
  unfold q_bg; rw [q_u_ne h3, q_u_ne h2, q_u_ne h1]
theorem q_step_I {B : Nat} {y : Nat → Nat} {r : Nat × (Nat → Nat)} (hI : q_I B y) (h : q_step y = some r) : q_I B r.2 ∧ q_mu r.2 < q_mu y ∧ q_dry r.2 = q_dry y ∧ r.1 ≤ 1 ∧ (∀ j, j ≤ 13 → j ≠ 7 → j ≠ 2 → r.2 j = y j) := by
  have h2 := hI.2.2.1
  have hl := hI.2.2.2.2.2.2.2.2.2.2.2.2.1
  unfold q_step at h
  have hly : ∀ c x, c < y 2 → q_g0 y c < q_pl y c → 1 ≤ x → x ≤ y 7 → q_I B (q_ly y c (q_g0 y c) x) ∧ q_mu (q_ly y c (q_g0 y c) x) < q_mu y ∧ q_dry (q_ly y c (q_g0 y c) x) = q_dry y ∧ (∀ j, j ≤ 13 → j ≠ 7 → j ≠ 2 → q_ly y c (q_g0 y c) x j = y j) := by
    intro c x hc hg h1 hx
    have hlc := hl c hc
    refine ⟨q_ly_I hI hc hg (q_fg_bit hg), ?_, ?_, fun j a b d => q_ly_o (by omega) (by omega) (by omega)⟩
    · unfold q_mu
      rw [show q_ly y c (q_g0 y c) x 7 = y 7 - x from q_u_eq, q_ly_o (by omega) (by omega) (by omega)]
      omega
    · unfold q_dry
      rw [q_ly_o (by omega) (by omega) (by omega), q_ly_o (by omega) (by omega) (by omega)]
  by_cases e1 : q_op y (y 2 - 1) < y 2 - 1 ∧ 0 < y (214 + y (14 + q_op y (y 2 - 1))) ∧ 3 ≤ y 7
  · rw [if_pos e1] at h
    cases h
    have := hly _ 3 (by omega) (q_op_gap e1.1) (by omega) e1.2.2
    exact ⟨this.1, this.2.1, this.2.2.1, Nat.le_refl 1, this.2.2.2⟩
  · rw [if_neg e1] at h
    by_cases e2 : 0 < y 2 ∧ q_g0 y (y 2 - 1) < q_pl y (y 2 - 1)
    · rw [if_pos e2] at h
      by_cases e3 : 0 < y (214 + y (14 + (y 2 - 1))) ∧ 1 ≤ y 7
      · rw [if_pos e3] at h
        cases h
        have := hly _ 1 (by omega) e2.2 (by omega) e3.2
        exact ⟨this.1, this.2.1, this.2.2.1, Nat.le_refl 1, this.2.2.2⟩
      · rw [if_neg e3] at h; cases h
    · rw [if_neg e2] at h
      by_cases e4 : q_top y (y 2) < y 0 ∧ y 2 < 100 ∧ q_nl y ≠ 0
      · rw [if_pos e4] at h
        cases h
        have h9 := q_nx_le (y := y) (P := q_pl y (y 2)) (q_lo y)
        have h10 := q_lo_le hI
        refine ⟨q_bg_I hI ⟨(h9.2 e4.2.2).1, by have := h9.1; unfold q_nl; omega⟩ e4.2.1, ?_, ?_, by show 0 ≤ 1; omega, fun j a b d => q_bg_o (by omega) (by omega) (by omega)⟩
        · unfold q_mu
          show q_bg y (q_nl y) 7 + (100 - q_bg y (q_nl y) 2) < _
          rw [show q_bg y (q_nl y) 2 = y 2 + 1 from q_u_eq, q_bg_o (by omega) (by omega) (by omega)]
          omega
        · unfold q_dry
          show (if q_bg y (q_nl y) 9 = 0 ∧ q_bg y (q_nl y) 8 = 0 then 1 else 0) = _
          rw [q_bg_o (by omega) (by omega) (by omega), q_bg_o (by omega) (by omega) (by omega)]
      · rw [if_neg e4] at h; cases h
section RD
variable {B F : Nat} {y : Nat → Nat} {M : d_M}
theorem q1_cm {c p : Nat} (hI : q_I B y) (hc : c < y 2) (hp : p < q_pl y c) (hb : q_b (y (114 + c)) p = 0) : f_X1_canMend F (q_z y) (nI c) (nI p) = some (if 0 < y (214 + y (14 + c)) ∧ 3 ≤ y 7 then nI 1 else nI 0) := by
  have h2 := hI.2.2.1
  have h7 := hI.2.2.2.2.2.2.2.1
  have h5 := q_pl_le (c := c) hI.2.1.2
  have h6 := hI.2.2.2.2.2.2.2.2.2.2.2.2.1 c hc
  have h8 := (q_st hI (v := y (14 + c)) (by omega)).1
  unfold f_X1_canMend
  rw [q1_hp hI (by omega) (by omega), if_pos ⟨hc, hp⟩, q_bind, if_neg (by decide), q1_has hI hc (by omega), hb, q_bind, n_l0, if_pos rfl, q_vAt (by omega) (by omega), q_bind, q_zk, q_vAt (by omega) (by omega), q_bind, q_zk, q_zk]
  simp (disch := first | omega | assumption) only [n_l0, n_l1, n_l2, n_l3, n_l4, n_l5, n_l6, n_l7, n_l8, n_l9, n_l10, n_l11, n_l12, n_l13, n_l14, n_l15, n_l16, n_l17, n_l18, n_l19, n_l20, n_l21, n_l22, n_l23, n_l24, n_l25, n_l30, n_l31, n_l33, n_l48, n_l49, n_l57, n_l60, n_l100, n_l114, n_l115, n_l126, n_l200, n_l214, n_l239, n_l264, n_l294, n_l400, n_l1000, n_l1470, n_l5000, n_l1000000, n_o, n_nM, n_le, n_lt]
  by_cases e1 : 0 < y (214 + y (14 + c))
  · rw [if_neg (by omega)]
    by_cases e2 : 3 ≤ y 7
    · rw [if_neg (by omega), if_pos ⟨e1, e2⟩]
    · rw [if_pos (by omega), if_neg (fun q => e2 q.2)]
  · rw [if_pos (by omega), if_neg (fun q => e1 q.1)]
theorem q1_mfg (hF : 3000 ≤ F) (hI : q_I B y) : f_X1_mendFirstGap F (q_z y) = some (if q_op y (y 2 - 1) < y 2 - 1 ∧ 0 < y (214 + y (14 + q_op y (y 2 - 1))) ∧ 3 ≤ y 7 then (nI 1, q_z (q_ly y (q_op y (y 2 - 1)) (q_g0 y (q_op y (y 2 - 1))) 3)) else (nI 0, q_z y)) := by
  have h2 := hI.2.2.1
  unfold f_X1_mendFirstGap
  rw [n_l0, q1_opL hI F 0 (by omega) rfl (by omega), q_bind]
  by_cases e : q_op y (y 2 - 1) < y 2 - 1
  · have hg : q_g0 y (q_op y (y 2 - 1)) < q_pl y (q_op y (y 2 - 1)) := q_op_gap e
    rw [if_pos e]
    show ((f_X1_firstGap F (q_z y) (nI (q_op y (y 2 - 1)))).bind _) = _
    rw [q1_fg hF hI (by omega), q_bind, show q_gI (y (114 + q_op y (y 2 - 1))) (q_pl y (q_op y (y 2 - 1))) = nI (q_g0 y (q_op y (y 2 - 1))) from if_pos hg, q1_cm hI (by omega) hg (q_fg_bit hg), q_bind]
    by_cases e2 : 0 < y (214 + y (14 + q_op y (y 2 - 1))) ∧ 3 ≤ y 7
    · rw [if_pos e2, if_neg (by decide), show (3 : Int32) = nI 3 from rfl, q1_ly hI (by omega) hg (q_fg_bit hg) e2.1 e2.2, if_pos ⟨e, e2⟩]
      rfl
    · rw [if_neg e2, if_pos rfl, if_neg (fun q => e2 q.2)]
      rfl
  · rw [if_neg e, if_neg (fun q => e q.1)]
    rfl
theorem q1_ln (hF : 3000 ≤ F) (hI : q_I B y) : f_X1_layNext F (q_z y) = some (if 0 < y 2 ∧ q_g0 y (y 2 - 1) < q_pl y (y 2 - 1) ∧ 0 < y (214 + y (14 + (y 2 - 1))) ∧ 1 ≤ y 7 then (nI 1, q_z (q_ly y (y 2 - 1) (q_g0 y (y 2 - 1)) 1)) else (nI 0, q_z y)) := by
  have h2 := hI.2.2.1
  have h7 := hI.2.2.2.2.2.2.2.1
  unfold f_X1_layNext f_X1_canLay
  simp only [n_l0, n_l1, n_l2, n_l3, n_l4, n_l5, n_l6, n_l7, n_l8, n_l9, n_l10, n_l11, n_l12, n_l13, n_l14, n_l15, n_l16, n_l17, n_l18, n_l19, n_l20, n_l21, n_l22, n_l23, n_l24, n_l25, n_l30, n_l31, n_l33, n_l48, n_l49, n_l57, n_l60, n_l100, n_l114, n_l115, n_l126, n_l200, n_l214, n_l239, n_l264, n_l294, n_l400, n_l1000, n_l1470, n_l5000, n_l1000000, n_o, n_nM, q_zk2]
  by_cases e0 : y 2 = 0
  · have hR : ¬ (0 < y 2 ∧ q_g0 y (y 2 - 1) < q_pl y (y 2 - 1) ∧ 0 < y (214 + y (14 + (y 2 - 1))) ∧ 1 ≤ y 7) := fun q => by omega
    rw [if_neg hR, e0, n_0M]
    have : f_X1_hasCourse F (q_z y) nM = some (nI 0) := by
      unfold f_X1_hasCourse
      simp (disch := first | omega | assumption) only [n_l0, n_l1, n_l2, n_l3, n_l4, n_l5, n_l6, n_l7, n_l8, n_l9, n_l10, n_l11, n_l12, n_l13, n_l14, n_l15, n_l16, n_l17, n_l18, n_l19, n_l20, n_l21, n_l22, n_l23, n_l24, n_l25, n_l30, n_l31, n_l33, n_l48, n_l49, n_l57, n_l60, n_l100, n_l114, n_l115, n_l126, n_l200, n_l214, n_l239, n_l264, n_l294, n_l400, n_l1000, n_l1470, n_l5000, n_l1000000, n_o, n_nM, n_Mlt, if_true]
    rw [this]; rfl
  · have h6 := hI.2.2.2.2.2.2.2.2.2.2.2.2.1 (y 2 - 1) (by omega)
    have h8 := (q_st hI (v := y (14 + (y 2 - 1))) (by omega)).1
    have h9 := q_in_le y (y 2 - 1)
    have h5 := q_pl_le (c := y 2 - 1) hI.2.1.2
    have h10 : (q_in y (y 2 - 1) < q_pl y (y 2 - 1)) = (q_g0 y (y 2 - 1) < q_pl y (y 2 - 1)) := q_fg_lt.symm
    rw [n_sub (by omega), q1_hc hI (by omega), if_pos (by omega), q_bind, if_neg (by decide), q1_pl (by omega), q_bind, q1_sl hI (by omega), q_bind, n_sub h9]
    simp (disch := first | omega | assumption) only [n_lt]
    by_cases e1 : q_g0 y (y 2 - 1) < q_pl y (y 2 - 1)
    · have e1' := e1
      rw [← h10] at e1'
      rw [if_neg (by omega), q_vAt (by omega) (by omega), q_bind, q_zk, q_vAt (by omega) (by omega), q_bind, q_zk, q_zk]
      simp (disch := first | omega | assumption) only [n_lt]
      by_cases e2 : 0 < y (214 + y (14 + (y 2 - 1)))
      · rw [if_neg (by omega)]
        by_cases e3 : 1 ≤ y 7
        · rw [if_neg (by omega), if_pos ⟨by omega, e1, e2, e3⟩, q_bind, if_neg (by decide), q1_fg hF hI (by omega), q_bind, show q_gI (y (114 + (y 2 - 1))) (q_pl y (y 2 - 1)) = nI (q_g0 y (y 2 - 1)) from if_pos e1, q1_ly hI (by omega) e1 (q_fg_bit e1) e2 e3]
          rfl
        · rw [if_pos (by omega), if_neg (fun q => e3 q.2.2.2)]; rfl
      · rw [if_pos (by omega), if_neg (fun q => e2 q.2.2.1)]; rfl
    · have e1' := e1
      rw [← h10] at e1'
      rw [if_pos (by omega), if_neg (fun q => e1 q.2.1)]; rfl
theorem q1_up (hF : 3000 ≤ F) (hI : q_I B y) : f_X1_canGoUp F (q_z y) = some (if q_top y (y 2) < y 0 ∧ y 2 < 100 ∧ ¬ (0 < y 2 ∧ q_g0 y (y 2 - 1) < q_pl y (y 2 - 1)) then nI 1 else nI 0) := by
  have h2 := hI.2.2.1
  unfold f_X1_canGoUp
  simp (disch := first | omega | assumption) only [n_l0, n_l1, n_l2, n_l3, n_l4, n_l5, n_l6, n_l7, n_l8, n_l9, n_l10, n_l11, n_l12, n_l13, n_l14, n_l15, n_l16, n_l17, n_l18, n_l19, n_l20, n_l21, n_l22, n_l23, n_l24, n_l25, n_l30, n_l31, n_l33, n_l48, n_l49, n_l57, n_l60, n_l100, n_l114, n_l115, n_l126, n_l200, n_l214, n_l239, n_l264, n_l294, n_l400, n_l1000, n_l1470, n_l5000, n_l1000000, n_o, n_nM, q_zk2, n_le, n_eq]
  by_cases e1 : y 2 < 100
  · rw [if_neg (by omega), q1_high hF hI, q_bind]
    by_cases e2 : q_top y (y 2) < y 0
    · rw [if_pos e2, if_pos rfl]
      by_cases e3 : y 2 = 0
      · rw [if_pos e3, if_pos ⟨e2, e1, by omega⟩]
      · rw [if_neg e3, n_sub (by omega), show f_X1_isFull F (q_z y) (nI (y 2 - 1)) = some (if q_g0 y (y 2 - 1) < q_pl y (y 2 - 1) then nI 0 else nI 1) from q1_full hI (by omega), q_bind]
        by_cases e4 : q_g0 y (y 2 - 1) < q_pl y (y 2 - 1)
        · rw [if_pos e4, if_pos rfl, if_neg (fun q => q.2.2 ⟨by omega, e4⟩)]
        · rw [if_neg e4, if_neg (by decide), if_pos ⟨e2, e1, fun q => e4 q.2⟩]
    · rw [if_neg e2, if_neg (by decide), if_neg (fun q => e2 q.1)]
  · rw [if_pos (by omega), if_neg (fun q => e1 q.2.1)]
theorem q_nI_M {k : Nat} (hk : k < 2147483648) : (q_nI k = nM) = (k = 0) := by
  apply propext
  unfold q_nI
  by_cases e : k = 0
  · rw [if_pos e]; exact ⟨fun _ => e, fun _ => rfl⟩
  · rw [if_neg e]
    constructor
    · intro q; rw [n_eqM hk] at q; exact q.elim
    · intro q; exact absurd q e
theorem q_nl_le (hI : q_I B y) : q_nl y ≤ 24 := by
  have h9 := (q_nx_le (y := y) (P := q_pl y (y 2)) (q_lo y)).1
  have h10 := q_lo_le hI
  unfold q_nl; omega
/-- the class's loop: one turn -/
theorem q1_turn (hF : 3000 ≤ F) (hI : q_I B y) (hd : q_dry y = 1) {n a s : Nat} (hs : s < 1000000) :
    f_X1_slateForTheDay_L4 F (n + 1) (nI a) (nI s) (q_z y) = match q_step y with
      | none => some (nI a, nI s, q_z y)
      | some r => f_X1_slateForTheDay_L4 F n (nI (a + r.1)) (nI (s + 1)) (q_z r.2) := by
  conv => lhs; unfold f_X1_slateForTheDay_L4
  rw [q1_dry hI, hd]
  simp (disch := first | omega | assumption) only [n_l0, n_l1, n_l2, n_l3, n_l4, n_l5, n_l6, n_l7, n_l8, n_l9, n_l10, n_l11, n_l12, n_l13, n_l14, n_l15, n_l16, n_l17, n_l18, n_l19, n_l20, n_l21, n_l22, n_l23, n_l24, n_l25, n_l30, n_l31, n_l33, n_l48, n_l49, n_l57, n_l60, n_l100, n_l114, n_l115, n_l126, n_l200, n_l214, n_l239, n_l264, n_l294, n_l400, n_l1000, n_l1470, n_l5000, n_l1000000, n_o, n_nM, n_le, q_bind]
  rw [if_neg (by omega), if_neg (by decide)]
  unfold q_step
  by_cases e1 : q_op y (y 2 - 1) < y 2 - 1 ∧ 0 < y (214 + y (14 + q_op y (y 2 - 1))) ∧ 3 ≤ y 7
  · rw [q1_mfg hF hI, if_pos e1, if_pos e1, q_bind, q_let, if_neg (by show ¬ nI 1 = nI 0; decide), n_add, n_add]
  · rw [q1_mfg hF hI, if_neg e1, if_neg e1, q_bind, q_let, if_pos (by rfl)]
    show ((f_X1_layNext F (q_z y)).bind _) = _
    by_cases e2 : 0 < y 2 ∧ q_g0 y (y 2 - 1) < q_pl y (y 2 - 1)
    · rw [if_pos e2]
      by_cases e3 : 0 < y (214 + y (14 + (y 2 - 1))) ∧ 1 ≤ y 7
      · have h3 : 0 < y 2 ∧ q_g0 y (y 2 - 1) < q_pl y (y 2 - 1) ∧ 0 < y (214 + y (14 + (y 2 - 1))) ∧ 1 ≤ y 7 := ⟨e2.1, e2.2, e3.1, e3.2⟩
        rw [if_pos e3, q1_ln hF hI, if_pos h3, q_bind, q_let, if_neg (by show ¬ nI 1 = nI 0; decide), n_add, n_add]
      · have h3 : ¬ (0 < y 2 ∧ q_g0 y (y 2 - 1) < q_pl y (y 2 - 1) ∧ 0 < y (214 + y (14 + (y 2 - 1))) ∧ 1 ≤ y 7) := fun q => e3 ⟨q.2.2.1, q.2.2.2⟩
        have h4 : ¬ (q_top y (y 2) < y 0 ∧ y 2 < 100 ∧ ¬ (0 < y 2 ∧ q_g0 y (y 2 - 1) < q_pl y (y 2 - 1))) := fun q => q.2.2 e2
        rw [if_neg e3, q1_ln hF hI, if_neg h3, q_bind, q_let, if_pos (by rfl)]
        show ((f_X1_canGoUp F (q_z y)).bind _) = _
        rw [q1_up hF hI, if_neg h4, q_bind, if_pos rfl]
    · have h3 : ¬ (0 < y 2 ∧ q_g0 y (y 2 - 1) < q_pl y (y 2 - 1) ∧ 0 < y (214 + y (14 + (y 2 - 1))) ∧ 1 ≤ y 7) := fun q => e2 ⟨q.1, q.2.1⟩
      rw [if_neg e2, q1_ln hF hI, if_neg h3, q_bind, q_let, if_pos (by rfl)]
      show ((f_X1_canGoUp F (q_z y)).bind _) = _
      by_cases e4 : q_top y (y 2) < y 0 ∧ y 2 < 100
      · have hnl := q_nl_le hI
        have h4 : q_top y (y 2) < y 0 ∧ y 2 < 100 ∧ ¬ (0 < y 2 ∧ q_g0 y (y 2 - 1) < q_pl y (y 2 - 1)) := ⟨e4.1, e4.2, e2⟩
        rw [q1_up hF hI, if_pos h4, q_bind, if_neg (by decide)]
        show ((f_X1_nextLength F (q_z y)).bind _) = _
        rw [q1_nl hF hI, q_bind]
        simp (disch := first | omega | assumption) only [q_nI_M]
        by_cases e5 : q_nl y = 0
        · have h5 : ¬ (q_top y (y 2) < y 0 ∧ y 2 < 100 ∧ q_nl y ≠ 0) := fun q => q.2.2 e5
          rw [if_pos e5, if_neg h5]
        · have h5 : q_top y (y 2) < y 0 ∧ y 2 < 100 ∧ q_nl y ≠ 0 := ⟨e4.1, e4.2, e5⟩
          rw [if_neg e5, if_pos h5, q_bind, show q_nI (q_nl y) = nI (q_nl y) from if_neg e5]
          show ((f_X1_addCourse F (q_z y) (nI (q_nl y))).bind _) = _
          rw [q1_bg hI e4.2, q_bind, n_add]
          rfl
      · have h4 : ¬ (q_top y (y 2) < y 0 ∧ y 2 < 100 ∧ ¬ (0 < y 2 ∧ q_g0 y (y 2 - 1) < q_pl y (y 2 - 1))) := fun q => e4 ⟨q.1, q.2.1⟩
        have h5 : ¬ (q_top y (y 2) < y 0 ∧ y 2 < 100 ∧ q_nl y ≠ 0) := fun q => e4 ⟨q.1, q.2.1⟩
        rw [q1_up hF hI, if_neg h4, q_bind, if_pos rfl, if_neg h5]
end RD
