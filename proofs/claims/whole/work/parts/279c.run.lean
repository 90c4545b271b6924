/-! the check's step, and both runs of a day -/
def q_T4 (F : Nat) (M : d_M) : Option (Int32 × d_M) := (f_X4_top F M).bind fun x30 => f_grd ((0 : Int32)) 294 ((if ((m_z M) ((0 : Int32)).toNatClampNeg) ≤ x30 then some (((-1 : Int32), M)) else f_grd ((2 : Int32)) 294 ((if ((m_z M) ((2 : Int32)).toNatClampNeg) = ((100 : Int32)) then some (((-1 : Int32), M)) else (f_X4_nextLength F M).bind fun x34 => (if x34 = ((-1 : Int32)) then some (((-1 : Int32), M)) else (f_X4_nextLength F M).bind fun x37 => (f_X4_begins F M x37).bind fun x39 => f_let x39 fun M41 => some (((0 : Int32), M41)))))))
def q_L4 (F : Nat) (M : d_M) : Option (Int32 × d_M) := (f_X4_lastCourse F M).bind fun x5 => (if 0 ≤ x5 then (f_X4_firstGap F M x5).bind fun x8 => (if x8 = ((-1 : Int32)) then (f_X4_top F M).bind fun x11 => f_grd ((0 : Int32)) 294 ((if ((m_z M) ((0 : Int32)).toNatClampNeg) ≤ x11 then some (((-1 : Int32), M)) else f_grd ((2 : Int32)) 294 ((if ((m_z M) ((2 : Int32)).toNatClampNeg) = ((100 : Int32)) then some (((-1 : Int32), M)) else (f_X4_nextLength F M).bind fun x15 => (if x15 = ((-1 : Int32)) then some (((-1 : Int32), M)) else (f_X4_nextLength F M).bind fun x18 => (f_X4_begins F M x18).bind fun x20 => f_let x20 fun M22 => some (((0 : Int32), M22))))))) else f_grd (((14 : Int32)) + x5) 294 (f_grd (((214 : Int32)) + ((m_z M) (((14 : Int32)) + x5).toNatClampNeg)) 294 ((if ((m_z M) (((214 : Int32)) + ((m_z M) (((14 : Int32)) + x5).toNatClampNeg)).toNatClampNeg) = 0 then some (((-1 : Int32), M)) else f_grd ((7 : Int32)) 294 ((if ((m_z M) ((7 : Int32)).toNatClampNeg) = 0 then some (((-1 : Int32), M)) else (f_X4_lays F M x5 x8 ((1 : Int32))).bind fun x26 => f_let x26 fun M28 => some (((1 : Int32), M28)))))))) else (f_X4_top F M).bind fun x30 => f_grd ((0 : Int32)) 294 ((if ((m_z M) ((0 : Int32)).toNatClampNeg) ≤ x30 then some (((-1 : Int32), M)) else f_grd ((2 : Int32)) 294 ((if ((m_z M) ((2 : Int32)).toNatClampNeg) = ((100 : Int32)) then some (((-1 : Int32), M)) else (f_X4_nextLength F M).bind fun x34 => (if x34 = ((-1 : Int32)) then some (((-1 : Int32), M)) else (f_X4_nextLength F M).bind fun x37 => (f_X4_begins F M x37).bind fun x39 => f_let x39 fun M41 => some (((0 : Int32), M41))))))))
section RD
variable {B F : Nat} {y : Nat → Nat} {M : d_M}
theorem q4_lc (hM : m_z M = q_z y) : f_X4_lastCourse F M = some (nI (y 2) - nI 1) := by
  unfold f_X4_lastCourse
  rw [hM]
  simp (disch := first | omega | assumption) only [n_l0, n_l1, n_l2, n_l3, n_l4, n_l5, n_l6, n_l7, n_l8, n_l9, n_l10, n_l11, n_l12, n_l13, n_l14, n_l15, n_l16, n_l17, n_l18, n_l19, n_l20, n_l21, n_l22, n_l23, n_l24, n_l25, n_l30, n_l31, n_l33, n_l48, n_l49, n_l57, n_l60, n_l100, n_l114, n_l115, n_l126, n_l200, n_l214, n_l239, n_l264, n_l294, n_l400, n_l1000, n_l1470, n_l5000, n_l1000000, n_o, n_nM, q_g, n_C, q_zk]
theorem q4_op (hF : 3000 ≤ F) (hM : m_z M = q_z y) (hI : q_I B y) : f_X4_openCourse F M = some (if q_op y (y 2 - 1) < y 2 - 1 then nI (q_op y (y 2 - 1)) else nM) := by
  have h2 := hI.2.2.1
  unfold f_X4_openCourse
  rw [n_l0, q4_opL hF hM hI F 0 (by omega) rfl (by omega), q_bind]
  split <;> rfl
theorem q4_upT (hF : 3000 ≤ F) (hI : q_I B y) : q_T4 F (q_M M y) = some (if q_top y (y 2) < y 0 ∧ y 2 < 100 ∧ q_nl y ≠ 0 then (nI 0, q_M M (q_bg y (q_nl y))) else (nM, q_M M y)) := by
  unfold q_T4
  have h1 := hI.1
  have h2 := hI.2.2.1
  have h3 := q_top_le hI (Nat.le_refl _)
  have hnl := q_nl_le hI
  rw [q4_top hF (q_M_z M y) hI, q4_nl hF (q_M_z M y) hI]
  simp (disch := first | omega | assumption) only [q_bind, n_l0, n_l1, n_l2, n_l3, n_l4, n_l5, n_l6, n_l7, n_l8, n_l9, n_l10, n_l11, n_l12, n_l13, n_l14, n_l15, n_l16, n_l17, n_l18, n_l19, n_l20, n_l21, n_l22, n_l23, n_l24, n_l25, n_l30, n_l31, n_l33, n_l48, n_l49, n_l57, n_l60, n_l100, n_l114, n_l115, n_l126, n_l200, n_l214, n_l239, n_l264, n_l294, n_l400, n_l1000, n_l1470, n_l5000, n_l1000000, n_o, n_nM, q_g, n_C, q_M_z, q_zk, n_le, n_eq, q_nI_M]
  by_cases e1 : q_top y (y 2) < y 0
  · rw [if_neg (by omega)]
    by_cases e2 : y 2 < 100
    · rw [if_neg (by omega)]
      by_cases e3 : q_nl y = 0
      · have h5 : ¬ (q_top y (y 2) < y 0 ∧ y 2 < 100 ∧ q_nl y ≠ 0) := fun q => q.2.2 e3
        rw [if_pos e3, if_neg h5]
      · have h5 : q_top y (y 2) < y 0 ∧ y 2 < 100 ∧ q_nl y ≠ 0 := ⟨e1, e2, e3⟩
        rw [if_neg e3, if_pos h5, show q_nI (q_nl y) = nI (q_nl y) from if_neg e3, q4_bg hI e2, q_bind, q_let]
    · have h5 : ¬ (q_top y (y 2) < y 0 ∧ y 2 < 100 ∧ q_nl y ≠ 0) := fun q => e2 q.2.1
      rw [if_pos (by omega), if_neg h5]
  · have h5 : ¬ (q_top y (y 2) < y 0 ∧ y 2 < 100 ∧ q_nl y ≠ 0) := fun q => e1 q.1
    rw [if_pos (by omega), if_neg h5]
theorem q4_last (hF : 3000 ≤ F) (hI : q_I B y) : q_L4 F (q_M M y) = some (if 0 < y 2 ∧ q_g0 y (y 2 - 1) < q_pl y (y 2 - 1) then
      (if 0 < y (214 + y (14 + (y 2 - 1))) ∧ 1 ≤ y 7 then (nI 1, q_M M (q_ly y (y 2 - 1) (q_g0 y (y 2 - 1)) 1)) else (nM, q_M M y))
    else if q_top y (y 2) < y 0 ∧ y 2 < 100 ∧ q_nl y ≠ 0 then (nI 0, q_M M (q_bg y (q_nl y))) else (nM, q_M M y)) := by
  have h2 := hI.2.2.1
  have h7 := hI.2.2.2.2.2.2.2.1
  have hT : ∀ x, q_T4 F (q_M M y) = x → q_T4 F (q_M M y) = x := fun _ h => h
  unfold q_L4
  rw [q4_lc (q_M_z M y), q_bind]
  by_cases e0 : y 2 = 0
  · have h3 : ¬ (0 < y 2 ∧ q_g0 y (y 2 - 1) < q_pl y (y 2 - 1)) := fun q => by omega
    have h4 : nI (y 2) - nI 1 = nM := by rw [e0, n_0M]
    rw [if_neg h3, h4, if_neg (by decide)]
    exact q4_upT hF hI
  · have h6 := hI.2.2.2.2.2.2.2.2.2.2.2.2.1 (y 2 - 1) (by omega)
    have h8 := (q_st hI (v := y (14 + (y 2 - 1))) (by omega)).1
    have h5 := q_pl_le (c := y 2 - 1) hI.2.1.2
    rw [n_sub (by omega), if_pos (by rw [n_l0, n_le (by omega) (by omega)]; omega), q4_fg hF (q_M_z M y) hI (by omega), q_bind]
    by_cases e1 : q_g0 y (y 2 - 1) < q_pl y (y 2 - 1)
    · have h3 : 0 < y 2 ∧ q_g0 y (y 2 - 1) < q_pl y (y 2 - 1) := ⟨by omega, e1⟩
      rw [if_pos h3, show q_gI (y (114 + (y 2 - 1))) (q_pl y (y 2 - 1)) = nI (q_g0 y (y 2 - 1)) from if_pos e1]
      simp (disch := first | omega | assumption) only [n_l0, n_l1, n_l2, n_l3, n_l4, n_l5, n_l6, n_l7, n_l8, n_l9, n_l10, n_l11, n_l12, n_l13, n_l14, n_l15, n_l16, n_l17, n_l18, n_l19, n_l20, n_l21, n_l22, n_l23, n_l24, n_l25, n_l30, n_l31, n_l33, n_l48, n_l49, n_l57, n_l60, n_l100, n_l114, n_l115, n_l126, n_l200, n_l214, n_l239, n_l264, n_l294, n_l400, n_l1000, n_l1470, n_l5000, n_l1000000, n_o, n_nM, n_eqM, if_false, n_add, q_g, n_C, q_M_z, q_zk, n_eq]
      by_cases e2 : 0 < y (214 + y (14 + (y 2 - 1)))
      · rw [if_neg (by omega)]
        by_cases e3 : 1 ≤ y 7
        · have h4 : 0 < y (214 + y (14 + (y 2 - 1))) ∧ 1 ≤ y 7 := ⟨e2, e3⟩
          rw [if_neg (by omega), if_pos h4, q4_ly hI (by omega) e1 (q_fg_bit e1) e2 e3]
          rfl
        · have h4 : ¬ (0 < y (214 + y (14 + (y 2 - 1))) ∧ 1 ≤ y 7) := fun q => e3 q.2
          rw [if_pos (by omega), if_neg h4]
      · have h4 : ¬ (0 < y (214 + y (14 + (y 2 - 1))) ∧ 1 ≤ y 7) := fun q => e2 q.1
        rw [if_pos (by omega), if_neg h4]
    · have h3 : ¬ (0 < y 2 ∧ q_g0 y (y 2 - 1) < q_pl y (y 2 - 1)) := fun q => e1 q.2
      rw [if_neg h3, show q_gI (y (114 + (y 2 - 1))) (q_pl y (y 2 - 1)) = nM from if_neg e1, if_pos (by rfl)]
      exact q4_upT hF hI
def q_sO (M : d_M) (y : Nat → Nat) : Option (Nat × (Nat → Nat)) → Int32 × d_M
  | none => (nM, q_M M y)
  | some r => (nI r.1, q_M M r.2)
theorem q4_step (hF : 3000 ≤ F) (hI : q_I B y) (hd : q_dry y = 1) : f_X4_step F (q_M M y) = some (q_sO M y (q_step y)) := by
  have h2 := hI.2.2.1
  have h0 : f_X4_step F (q_M M y) = ((f_X4_openCourse F (q_M M y)).bind fun x2 => (if x2 = ((-1 : Int32)) then q_L4 F (q_M M y) else (f_X4_firstGap F (q_M M y) x2).bind fun x43 => (f_X4_mayMend F (q_M M y) x2 x43).bind fun x45 => (if x45 = 0 then q_L4 F (q_M M y) else (f_X4_firstGap F (q_M M y) x2).bind fun x83 => (f_X4_lays F (q_M M y) x2 x83 ((3 : Int32))).bind fun x85 => f_let x85 fun M87 => some (((1 : Int32), M87))))) := rfl
  rw [h0, q4_op hF (q_M_z M y) hI, q_bind]
  unfold q_step
  have hL := q4_last (M := M) hF hI
  by_cases e : q_op y (y 2 - 1) < y 2 - 1
  · have hg : q_g0 y (q_op y (y 2 - 1)) < q_pl y (q_op y (y 2 - 1)) := q_op_gap e
    have hb := q_fg_bit hg
    rw [if_pos e]
    simp (disch := first | omega | assumption) only [n_l0, n_l1, n_l2, n_l3, n_l4, n_l5, n_l6, n_l7, n_l8, n_l9, n_l10, n_l11, n_l12, n_l13, n_l14, n_l15, n_l16, n_l17, n_l18, n_l19, n_l20, n_l21, n_l22, n_l23, n_l24, n_l25, n_l30, n_l31, n_l33, n_l48, n_l49, n_l57, n_l60, n_l100, n_l114, n_l115, n_l126, n_l200, n_l214, n_l239, n_l264, n_l294, n_l400, n_l1000, n_l1470, n_l5000, n_l1000000, n_o, n_nM, n_eqM, if_false]
    rw [q4_fg hF (q_M_z M y) hI (by omega), q_bind, show q_gI (y (114 + q_op y (y 2 - 1))) (q_pl y (q_op y (y 2 - 1))) = nI (q_g0 y (q_op y (y 2 - 1))) from if_pos hg, q4_mm (q_M_z M y) hI hd (by omega) hg]
    by_cases e2 : 0 < y (214 + y (14 + q_op y (y 2 - 1))) ∧ 3 ≤ y 7
    · rw [if_pos ⟨hb, e2.1, e2.2⟩, if_pos ⟨e, e2⟩, q_bind, if_neg (by decide), q_bind, q4_ly hI (by omega) hg hb e2.1 e2.2]
      rfl
    · have h3 : ¬ (q_b (y (114 + q_op y (y 2 - 1))) (q_g0 y (q_op y (y 2 - 1))) = 0 ∧ 0 < y (214 + y (14 + q_op y (y 2 - 1))) ∧ 3 ≤ y 7) := fun q => e2 q.2
      have h4 : ¬ (q_op y (y 2 - 1) < y 2 - 1 ∧ 0 < y (214 + y (14 + q_op y (y 2 - 1))) ∧ 3 ≤ y 7) := fun q => e2 q.2
      rw [if_neg h3, if_neg h4, q_bind, if_pos rfl, hL]
      congr 1
      split
      · split <;> rfl
      · split <;> rfl
  · have h4 : ¬ (q_op y (y 2 - 1) < y 2 - 1 ∧ 0 < y (214 + y (14 + q_op y (y 2 - 1))) ∧ 3 ≤ y 7) := fun q => e q.1
    rw [if_neg e, if_pos (by rfl), if_neg h4, hL]
    congr 1
    split
    · split <;> rfl
    · split <;> rfl
/-- the class's loop -/
theorem q1_slL (hF : 3000 ≤ F) : ∀ m (y : Nat → Nat) n a s, q_I B y → q_dry y = 1 → q_mu y ≤ m → m < n → s + m < 1000000 →
    (f_X1_slateForTheDay_L4 F n (nI a) (nI s) (q_z y)).bind (fun o1 => some ((o1.1, o1.2.2))) = some (nI (a + (q_run (m + 1) y).1), q_z (q_run (m + 1) y).2) := by
  intro m
  induction m with
  | zero =>
    intro y n a s hI hd hm hn hs
    obtain ⟨n, rfl⟩ : ∃ k, n = k + 1 := ⟨n - 1, by omega⟩
    rw [q1_turn hF hI hd (by omega)]
    cases h : q_step y with
    | none => unfold q_run; rw [h]; rfl
    | some r => have := (q_step_I hI h).2.1; omega
  | succ m ih =>
    intro y n a s hI hd hm hn hs
    obtain ⟨n, rfl⟩ : ∃ k, n = k + 1 := ⟨n - 1, by omega⟩
    rw [q1_turn hF hI hd (by omega)]
    cases h : q_step y with
    | none => unfold q_run; rw [h]; rfl
    | some r =>
      have h1 := q_step_I hI h
      have h3 := ih r.2 n (a + r.1) (s + 1) h1.1 (by rw [h1.2.2.1]; exact hd) (by omega) (by omega) (by omega)
      have h4 : q_run (m + 1 + 1) y = (r.1 + (q_run (m + 1) r.2).1, (q_run (m + 1) r.2).2) := by
        conv => lhs; unfold q_run
        rw [h]
      rw [h4]
      show (f_X1_slateForTheDay_L4 F n (nI (a + r.1)) (nI (s + 1)) (q_z r.2)).bind _ = _
      rw [h3, Nat.add_assoc]
/-- the check's loop -/
theorem q4_wdL (hF : 3000 ≤ F) : ∀ m (y : Nat → Nat) n a k, q_I B y → q_dry y = 1 → q_mu y ≤ m → m + 1 < n → k ≤ 1 →
    (f_X4_workDay_L24 F n (nI a) (nI k) (q_M M y)).bind (fun o1 => some ((o1.1, o1.2.2))) = some (nI (a + k + (q_run (m + 1) y).1), q_M M (q_run (m + 1) y).2) := by
  intro m
  induction m with
  | zero =>
    intro y n a k hI hd hm hn hk
    obtain ⟨n, rfl⟩ : ∃ j, n = j + 1 + 1 := ⟨n - 2, by omega⟩
    unfold f_X4_workDay_L24
    simp (disch := first | omega | assumption) only [n_l0, n_l1, n_l2, n_l3, n_l4, n_l5, n_l6, n_l7, n_l8, n_l9, n_l10, n_l11, n_l12, n_l13, n_l14, n_l15, n_l16, n_l17, n_l18, n_l19, n_l20, n_l21, n_l22, n_l23, n_l24, n_l25, n_l30, n_l31, n_l33, n_l48, n_l49, n_l57, n_l60, n_l100, n_l114, n_l115, n_l126, n_l200, n_l214, n_l239, n_l264, n_l294, n_l400, n_l1000, n_l1470, n_l5000, n_l1000000, n_o, n_nM, n_eqM, if_false]
    rw [q4_step hF hI hd]
    cases h : q_step y with
    | none =>
      unfold q_run; rw [h]
      show (f_X4_workDay_L24 F (n + 1) (nI a + nI k) nM (q_M M y)).bind _ = _
      unfold f_X4_workDay_L24
      rw [if_pos (by rfl), n_add]; rfl
    | some r => have := (q_step_I hI h).2.1; omega
  | succ m ih =>
    intro y n a k hI hd hm hn hk
    obtain ⟨n, rfl⟩ : ∃ j, n = j + 1 + 1 := ⟨n - 2, by omega⟩
    unfold f_X4_workDay_L24
    simp (disch := first | omega | assumption) only [n_l0, n_l1, n_l2, n_l3, n_l4, n_l5, n_l6, n_l7, n_l8, n_l9, n_l10, n_l11, n_l12, n_l13, n_l14, n_l15, n_l16, n_l17, n_l18, n_l19, n_l20, n_l21, n_l22, n_l23, n_l24, n_l25, n_l30, n_l31, n_l33, n_l48, n_l49, n_l57, n_l60, n_l100, n_l114, n_l115, n_l126, n_l200, n_l214, n_l239, n_l264, n_l294, n_l400, n_l1000, n_l1470, n_l5000, n_l1000000, n_o, n_nM, n_eqM, if_false]
    rw [q4_step hF hI hd]
    cases h : q_step y with
    | none =>
      unfold q_run; rw [h]
      show (f_X4_workDay_L24 F (n + 1) (nI a + nI k) nM (q_M M y)).bind _ = _
      unfold f_X4_workDay_L24
      rw [if_pos (by rfl), n_add]; rfl
    | some r =>
      have h1 := q_step_I hI h
      have h3 := ih r.2 (n + 1) (a + k) r.1 h1.1 (by rw [h1.2.2.1]; exact hd) (by omega) (by omega) h1.2.2.2.1
      have h4 : q_run (m + 1 + 1) y = (r.1 + (q_run (m + 1) r.2).1, (q_run (m + 1) r.2).2) := by
        conv => lhs; unfold q_run
        rw [h]
      rw [h4]
      show (f_X4_workDay_L24 F (n + 1) (nI a + nI k) (nI r.1) (q_M M r.2)).bind _ = _
      rw [n_add, h3, Nat.add_assoc (a + k)]
end RD
