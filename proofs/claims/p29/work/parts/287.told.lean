/-! what is told after each action -/
theorem r_i2f {n : Nat} (hn : n < 2147483648) : ∃ c q, FP.Core.val64 (FP.i2d (nI n)) = .fin false c q ∧ FP.Core.fits FP.Core.b64 (.fin false c q) := by
  obtain ⟨c, q, v, l, m⟩ := q_i2d hn
  refine ⟨c, q, v, ?_⟩
  have e1 : FP.Core.val64 (FP.i2d (nI n)) = FP.Core.round FP.Core.b64 (.fin false n 0) := by
    show FP.Core.val64 (FP.Core.i2d _) = _
    rw [FP.Core.val64_i2d, n_T hn]
    unfold FP.Core.ofInt
    rw [show decide ((n : Int) < 0) = false by rw [decide_eq_false_iff_not]; omega, Int.natAbs_natCast]
  rw [← v, e1]
  exact FP.Core.round_fits FP.Core.good_b64 _
theorem r_dm1 {n : Nat} (hn : n < 2147483648) : FP.dmul FP.dconst1 (FP.i2d (nI n)) = FP.i2d (nI n) := by
  obtain ⟨c, q, v, hf⟩ := r_i2f hn
  have e2 : FP.Core.val64 (FP.dmul FP.dconst1 (FP.i2d (nI n))) = .fin false c q := by
    show FP.Core.val64 (FP.Core.dmul _ _) = _
    rw [FP.Core.val64_dmul, q_1v, v]
    simp only [FP.Core.exactProduct, FP.Core.round]
    refine FP.Core.roundRatio_exact FP.Core.good_b64 (by decide) hf ?_
    rw [show (-52 + q - q).toNat = 0 by omega, show (q - (-52 + q)).toNat = 52 by omega]
    omega
  exact FP.Core.val64_inj (by rw [e2]; intro h; cases h) (e2.trans v.symm)
theorem r_dcmp {x : UInt64} {c : Nat} {q : Int} (h : FP.Core.val64 x = .fin false c q) : Op.cmpValue (FP.dcmp x x) .l = nI 0 := by
  have e : FP.dcmp x x = FP.Core.order (FP.Core.val64 x) (FP.Core.val64 x) := rfl
  rw [e, h, q_ord]
  generalize ((c * 2 ^ (q - min q q).toNat : Nat) : Int) = z
  have e3 : compare z z = .eq := by
    cases hc : compare z z
    · exact absurd (Int.compare_eq_lt.mp hc) (Int.lt_irrefl _)
    · rfl
    · exact absurd (Int.compare_eq_gt.mp hc) (Int.lt_irrefl _)
  rw [e3]; rfl
theorem r_dv {a b : Nat} (ha : a < 2147483648) (hb : 1 ≤ b) (hb' : b < 2147483648) : ∃ c q, FP.Core.val64 (FP.ddiv (FP.i2d (nI a)) (FP.i2d (nI b))) = .fin false c q := by
  by_cases e : a = 0
  · rw [e, q_quo0 hb hb']
    exact ⟨_, _, q_0v⟩
  · obtain ⟨c, q, g1, g2⟩ := q_quo (n1 := a) (n2 := b) (by omega) ha hb hb'
    rw [g2]
    exact ⟨c, q, q_Dv g1⟩
theorem r_ush1 (x : Int32) : (x.toUInt32 >>> (((1 : Int32)).toUInt32 &&& Int32.toUInt32 31)).toInt32 = nI (x.toUInt32.toNat / 2) ∧ x.toUInt32.toNat / 2 < 2147483648 := by
  have hx := x.toUInt32.toNat_lt
  refine ⟨?_, by omega⟩
  have e1 : (((1 : Int32)).toUInt32 &&& Int32.toUInt32 31) = UInt32.ofNat 1 := by decide
  rw [e1]
  apply Int32.toBitVec_inj.mp
  apply BitVec.eq_of_toNat_eq
  show (x.toUInt32 >>> UInt32.ofNat 1).toNat = (BitVec.ofNat 32 (x.toUInt32.toNat / 2)).toNat
  rw [UInt32.toNat_shiftRight, UInt32.toNat_ofNat', BitVec.toNat_ofNat, Nat.shiftRight_eq_div_pow]
  rw [Nat.mod_eq_of_lt (show x.toUInt32.toNat / 2 < 2 ^ 32 by omega)]
section RT
variable {B F : Nat} {y : Nat → Nat} {q : d_C}
theorem p5_at {n : Nat} (h0 : 0 < n) (hn : n < 2147483648) (x : Int32) : ∃ j, j < n ∧ f_L_at F x (nI n) = some (nI j) := by
  obtain ⟨e, hlt⟩ := r_ush1 x
  refine ⟨(x.toUInt32.toNat / 2) % n, Nat.mod_lt _ h0, ?_⟩
  unfold f_L_at
  rw [e, n_mod hlt h0 hn]
  refine q_fif ?_
  rw [n_l0, n_eq hn (by omega)]
  omega
theorem p5_lgL (hI : q_I B y) (h61 : y 2 ≤ 61) {c : Nat} (hc : c < y 2) (ev : d_Z) : ∀ n k, k ≤ q_pl y c → q_pl y c - k < n →
    f_L_courses_L18 F (q, ev, r_W y) (nI c) n (nI (q_lg (y (114 + c)) k) + nM) (nI k) = some (nI (q_lg (y (114 + c)) (q_pl y c)) + nM, nI (q_pl y c)) := by
  have h5 := q_pl_le (c := c) hI.2.1.2
  have hb := q_w hI.2.1.2 (hI.2.2.2.2.2.2.2.2.2.2.2.2.1 c hc).2.2
  intro n
  induction n with
  | zero => intro k _ h; omega
  | succ n ih =>
    intro k hk hn
    have h1 : y (114 + c) / 2 ^ k < 2147483648 := Nat.lt_of_le_of_lt (Nat.div_le_self _ _) hb
    unfold f_L_courses_L18
    simp only []
    rw [p5_pl (by omega), q_bind]
    simp (disch := first | omega | assumption) only [n_le]
    by_cases e : k = q_pl y c
    · rw [if_pos (by omega), e]
    · rw [if_neg (by omega)]
      simp (disch := first | omega | assumption) only [n_l0, n_l1, n_l2, n_l3, n_l4, n_l5, n_l6, n_l7, n_l8, n_l9, n_l10, n_l11, n_l12, n_l13, n_l14, n_l15, n_l16, n_l17, n_l18, n_l19, n_l20, n_l21, n_l22, n_l23, n_l24, n_l25, n_l30, n_l31, n_l33, n_l48, n_l49, n_l57, n_l60, n_l100, n_l114, n_l115, n_l126, n_l200, n_l214, n_l239, n_l264, n_l294, n_l400, n_l1000, n_l1470, n_l5000, n_l1000000, n_o, n_nM, q_g, n_C, r_W1, n_and31, n_shr', n_and, Nat.and_one_is_mod, n_eq, n_add]
      have h8 : q_lg (y (114 + c)) (k + 1) = (if q_b (y (114 + c)) k = 0 then k + 1 else q_lg (y (114 + c)) k) := rfl
      have ih' := ih (k + 1) (by omega) (by omega)
      rw [h8] at ih'
      unfold q_b at ih'
      by_cases e2 : y (114 + c) / 2 ^ k % 2 = 0
      · rw [if_pos e2, n_sM] at ih'
        rw [if_pos e2, q_bind]; exact ih'
      · rw [if_neg e2] at ih'
        rw [if_neg e2, q_bind]; exact ih'
theorem p5_courses (hF : 3000 ≤ F) (hI : q_I B y) (h61 : y 2 ≤ 60) (hq : q.1 = q_z y) (ev : d_Z) {c : Nat} (hc : c < y 2) (x : Int32) : f_L_courses F (q, ev, r_W y) (nI c) x = some (nI 1) := by
  have h3 := hI.2.2.2.1
  have h5 := q_pl_le (c := c) hI.2.1.2
  have hp2 : 2 ≤ q_pl y c := by unfold q_pl; have := hI.2.1; omega
  have hl := hI.2.2.2.2.2.2.2.2.2.2.2.2.1 c hc
  have hb := q_w hI.2.1.2 hl.2.2
  obtain ⟨j, hj, hat⟩ := p5_at (F := F) (n := q_pl y c) (by omega) (by omega) x
  have h1 : y (114 + c) / 2 ^ j < 2147483648 := Nat.lt_of_le_of_lt (Nat.div_le_self _ _) hb
  have hL := p5_lgL (F := F) (q := q) hI (by omega) hc ev F 0 (by omega) (by omega)
  rw [show q_lg (y (114 + c)) 0 = 0 from rfl, n_zM] at hL
  have hpl := p5_pl (F := F) (y := y) (c := c) (by omega)
  have htop := p5_top (F := F) hF hI (n := c + 1) (by omega) (by omega)
  have hgap := p5_gap (F := F) hF hI (by omega) hc
  have hone := p5_ones (F := F) hF hb
  rw [r_in hI hc] at hone
  have h37 := p1_lies (F := F) hI hq hc hj
  unfold f_L_courses
  simp (disch := first | omega | assumption) only [n_l0, n_l1, n_l2, n_l3, n_l4, n_l5, n_l6, n_l7, n_l8, n_l9, n_l10, n_l11, n_l12, n_l13, n_l14, n_l15, n_l16, n_l17, n_l18, n_l19, n_l20, n_l21, n_l22, n_l23, n_l24, n_l25, n_l30, n_l31, n_l33, n_l48, n_l49, n_l57, n_l60, n_l100, n_l114, n_l115, n_l126, n_l200, n_l214, n_l239, n_l264, n_l294, n_l400, n_l1000, n_l1470, n_l5000, n_l1000000, n_o, n_nM, hpl, q_bind, hat, hL, p1_co0 hF hI hq hc, p1_co1 hF hI hq hc, p1_co2 hF hI hq hc, p1_co3 hF hI hq hc, p1_co4 hF hI hq hc, p1_co5 hF hI hq hc, p1_co6 hF hI hq hc, h37, q_nt, q_g, n_C, r_W0, r_W1, r_W4, hone, n_sub, n_div, n_add, htop, hgap, if_true, q_ga, q_b, n_and31, n_shr', n_and, Nat.and_one_is_mod, n_eq]
  rcases (show y (114 + c) / 2 ^ j % 2 = 0 ∨ y (114 + c) / 2 ^ j % 2 = 1 by omega) with e | e
  · rw [e]; rfl
  · rw [e]; rfl
theorem p5_t44 (hF : 3000 ≤ F) (hI : q_I B y) (h61 : y 2 ≤ 60) (hq : q.1 = q_z y) (ev : d_Z) (a : Int32) : ∀ n k, k ≤ 3 → 3 - k < n → ∃ v, f_L_told_L44 F (q, ev, r_W y) a n (nI k) = some (.inl v) := by
  intro n
  induction n with
  | zero => intro k _ h; omega
  | succ n ih =>
    intro k hk hn
    conv => enter [1, v, 1]; unfold f_L_told_L44
    simp (disch := first | omega | assumption) only [n_l0, n_l1, n_l2, n_l3, n_l4, n_l5, n_l6, n_l7, n_l8, n_l9, n_l10, n_l11, n_l12, n_l13, n_l14, n_l15, n_l16, n_l17, n_l18, n_l19, n_l20, n_l21, n_l22, n_l23, n_l24, n_l25, n_l30, n_l31, n_l33, n_l48, n_l49, n_l57, n_l60, n_l100, n_l114, n_l115, n_l126, n_l200, n_l214, n_l239, n_l264, n_l294, n_l400, n_l1000, n_l1470, n_l5000, n_l1000000, n_o, n_nM, n_le, q_g, n_C, r_W4]
    by_cases e : 3 ≤ k
    · rw [if_pos e]; exact ⟨_, rfl⟩
    · rw [if_neg e]
      by_cases e2 : y 2 ≤ 0
      · rw [if_pos e2]; exact ⟨_, rfl⟩
      · rw [if_neg e2]
        obtain ⟨j, hj, hat⟩ := p5_at (F := F) (n := y 2) (by omega) (by omega) (a >>> (nI 3 * nI k &&& nI 31) + nI k)
        simp (disch := first | omega | assumption) only [n_mul, n_and] at hat ⊢
        simp only [hat, q_bind, p5_courses hF hI h61 hq ev hj, n_add]
        obtain ⟨v, hv⟩ := ih (k + 1) (by omega) (by omega)
        exact ⟨v, by rw [if_neg r_n10]; exact hv⟩
theorem p5_t115 (hF : 3000 ≤ F) (hI : q_I B y) (h61 : y 2 ≤ 60) (ev : d_Z) {j : Nat} (hj : j < 17) : f_L_told_L115 F (q, ev, r_W y) (nI j) F (nI 0) (nI 0) = some (nI (q_rb y (8 + j)), nI (y 2)) := by
  have key := q_accum (f_L_told_L115 F (q, ev, r_W y) (nI j)) (fun c => if y (14 + c) = 8 + j then q_in y c else 0) (y 2) (fun k a => by
    unfold f_L_told_L115
    simp (disch := first | omega | assumption) only [n_l0, n_l1, n_l2, n_l3, n_l4, n_l5, n_l6, n_l7, n_l8, n_l9, n_l10, n_l11, n_l12, n_l13, n_l14, n_l15, n_l16, n_l17, n_l18, n_l19, n_l20, n_l21, n_l22, n_l23, n_l24, n_l25, n_l30, n_l31, n_l33, n_l48, n_l49, n_l57, n_l60, n_l100, n_l114, n_l115, n_l126, n_l200, n_l214, n_l239, n_l264, n_l294, n_l400, n_l1000, n_l1470, n_l5000, n_l1000000, n_o, n_nM, q_g, n_C, r_W4]
    exact if_pos (Int32.le_refl _)) (fun k a i hi => by
    have hl := hI.2.2.2.2.2.2.2.2.2.2.2.2.1 i hi
    conv => lhs; unfold f_L_told_L115
    simp (disch := first | omega | assumption) only [n_l0, n_l1, n_l2, n_l3, n_l4, n_l5, n_l6, n_l7, n_l8, n_l9, n_l10, n_l11, n_l12, n_l13, n_l14, n_l15, n_l16, n_l17, n_l18, n_l19, n_l20, n_l21, n_l22, n_l23, n_l24, n_l25, n_l30, n_l31, n_l33, n_l48, n_l49, n_l57, n_l60, n_l100, n_l114, n_l115, n_l126, n_l200, n_l214, n_l239, n_l264, n_l294, n_l400, n_l1000, n_l1470, n_l5000, n_l1000000, n_o, n_nM, n_le, q_g, n_C, r_W4, r_W0, n_add, n_eq]
    rw [if_neg (by omega), p5_in hF hI hi (by omega)]
    by_cases e : y (14 + i) = 8 + j
    · rw [if_pos e, if_pos e]; rfl
    · rw [if_neg e, if_neg e]; rfl) F 0 (by omega) (by omega)
  rw [show q_sum (fun c => if y (14 + c) = 8 + j then q_in y c else 0) 0 = 0 from rfl] at key
  exact key
theorem p5_t6 (hF : 3000 ≤ F) (hI : q_I B y) (h61 : y 2 ≤ 60) (ev : d_Z) : f_L_told_L6 F (q, ev, r_W y) F (nI 0) (nI 0) = some (nI (q_gp y), nI (y 2)) := by
  have key := q_accum (f_L_told_L6 F (q, ev, r_W y)) (fun c => q_pl y c - q_in y c) (y 2) (fun k a => by
    unfold f_L_told_L6
    simp (disch := first | omega | assumption) only [n_l0, n_l1, n_l2, n_l3, n_l4, n_l5, n_l6, n_l7, n_l8, n_l9, n_l10, n_l11, n_l12, n_l13, n_l14, n_l15, n_l16, n_l17, n_l18, n_l19, n_l20, n_l21, n_l22, n_l23, n_l24, n_l25, n_l30, n_l31, n_l33, n_l48, n_l49, n_l57, n_l60, n_l100, n_l114, n_l115, n_l126, n_l200, n_l214, n_l239, n_l264, n_l294, n_l400, n_l1000, n_l1470, n_l5000, n_l1000000, n_o, n_nM, q_g, n_C, r_W4]
    exact if_pos (Int32.le_refl _)) (fun k a i hi => by
    have hin := q_in_le y i
    conv => lhs; unfold f_L_told_L6
    simp (disch := first | omega | assumption) only [n_l0, n_l1, n_l2, n_l3, n_l4, n_l5, n_l6, n_l7, n_l8, n_l9, n_l10, n_l11, n_l12, n_l13, n_l14, n_l15, n_l16, n_l17, n_l18, n_l19, n_l20, n_l21, n_l22, n_l23, n_l24, n_l25, n_l30, n_l31, n_l33, n_l48, n_l49, n_l57, n_l60, n_l100, n_l114, n_l115, n_l126, n_l200, n_l214, n_l239, n_l264, n_l294, n_l400, n_l1000, n_l1470, n_l5000, n_l1000000, n_o, n_nM, n_le, q_g, n_C, r_W4, n_add]
    rw [if_neg (by omega), p5_pl (by omega), p5_in hF hI hi (by omega)]
    simp only [q_bind]
    rw [n_sub hin]) F 0 (by omega) (by omega)
  rw [show q_sum (fun c => q_pl y c - q_in y c) 0 = 0 from rfl] at key
  exact key
theorem p5_t340 (hF : 3000 ≤ F) (hI : q_I B y) (hq : q.1 = q_z y) (ev : d_Z) : ∃ v, f_L_told_L340 F (q, ev, r_W y) F (nI 0) = some (.inl v) := by
  obtain ⟨G, rfl⟩ : ∃ G, F = G + 5 := ⟨F - 5, by omega⟩
  have s : ∀ n k, k < 4 → f_L_told_L340 (G + 5) (q, ev, r_W y) (n + 1) (nI k) = f_L_told_L340 (G + 5) (q, ev, r_W y) n (nI (k + 1)) := by
    intro n k hk
    conv => lhs; unfold f_L_told_L340
    rcases (show k = 0 ∨ k = 1 ∨ k = 2 ∨ k = 3 by omega) with rfl | rfl | rfl | rfl
    · simp (disch := first | omega | assumption) only [n_l0, n_l1, n_l2, n_l3, n_l4, n_l5, n_l6, n_l7, n_l8, n_l9, n_l10, n_l11, n_l12, n_l13, n_l14, n_l15, n_l16, n_l17, n_l18, n_l19, n_l20, n_l21, n_l22, n_l23, n_l24, n_l25, n_l30, n_l31, n_l33, n_l48, n_l49, n_l57, n_l60, n_l100, n_l114, n_l115, n_l126, n_l200, n_l214, n_l239, n_l264, n_l294, n_l400, n_l1000, n_l1470, n_l5000, n_l1000000, n_o, n_nM, n_le, n_add, Nat.reduceAdd, p1_c7 hF hI hq, p1_c14 hF hI hq, q_nt, q_g, n_C, r_W4, if_true]; rfl
    · simp (disch := first | omega | assumption) only [n_l0, n_l1, n_l2, n_l3, n_l4, n_l5, n_l6, n_l7, n_l8, n_l9, n_l10, n_l11, n_l12, n_l13, n_l14, n_l15, n_l16, n_l17, n_l18, n_l19, n_l20, n_l21, n_l22, n_l23, n_l24, n_l25, n_l30, n_l31, n_l33, n_l48, n_l49, n_l57, n_l60, n_l100, n_l114, n_l115, n_l126, n_l200, n_l214, n_l239, n_l264, n_l294, n_l400, n_l1000, n_l1470, n_l5000, n_l1000000, n_o, n_nM, n_le, n_add, Nat.reduceAdd, p1_c8 hF hI hq, p1_c15 hF hI hq, q_nt, q_g, n_C, r_W4, if_true]; rfl
    · simp (disch := first | omega | assumption) only [n_l0, n_l1, n_l2, n_l3, n_l4, n_l5, n_l6, n_l7, n_l8, n_l9, n_l10, n_l11, n_l12, n_l13, n_l14, n_l15, n_l16, n_l17, n_l18, n_l19, n_l20, n_l21, n_l22, n_l23, n_l24, n_l25, n_l30, n_l31, n_l33, n_l48, n_l49, n_l57, n_l60, n_l100, n_l114, n_l115, n_l126, n_l200, n_l214, n_l239, n_l264, n_l294, n_l400, n_l1000, n_l1470, n_l5000, n_l1000000, n_o, n_nM, n_le, n_add, Nat.reduceAdd, p1_c9 hF hI hq, p1_c16 hF hI hq, q_nt, q_g, n_C, r_W4, if_true]; rfl
    · simp (disch := first | omega | assumption) only [n_l0, n_l1, n_l2, n_l3, n_l4, n_l5, n_l6, n_l7, n_l8, n_l9, n_l10, n_l11, n_l12, n_l13, n_l14, n_l15, n_l16, n_l17, n_l18, n_l19, n_l20, n_l21, n_l22, n_l23, n_l24, n_l25, n_l30, n_l31, n_l33, n_l48, n_l49, n_l57, n_l60, n_l100, n_l114, n_l115, n_l126, n_l200, n_l214, n_l239, n_l264, n_l294, n_l400, n_l1000, n_l1470, n_l5000, n_l1000000, n_o, n_nM, n_le, n_add, Nat.reduceAdd, p1_c10 hF hI hq, p1_c17 hF hI hq, q_nt, q_g, n_C, r_W4, if_true]; rfl
  rw [s _ 0 (by omega), s _ 1 (by omega), s _ 2 (by omega), s _ 3 (by omega)]
  unfold f_L_told_L340
  exact ⟨_, if_pos (by decide)⟩
theorem p5_t397 (hF : 3000 ≤ F) (hq : q.1 = q_z y) (ev : d_Z) : ∀ n k, k ≤ 3 → 3 - k < n → ∃ v, f_L_told_L397 F (q, ev, r_W y) n (nI k) = some (.inl v) := by
  intro n
  induction n with
  | zero => intro k _ h; omega
  | succ n ih =>
    intro k hk hn
    conv => enter [1, v, 1]; unfold f_L_told_L397
    simp (disch := first | omega | assumption) only [n_l0, n_l1, n_l2, n_l3, n_l4, n_l5, n_l6, n_l7, n_l8, n_l9, n_l10, n_l11, n_l12, n_l13, n_l14, n_l15, n_l16, n_l17, n_l18, n_l19, n_l20, n_l21, n_l22, n_l23, n_l24, n_l25, n_l30, n_l31, n_l33, n_l48, n_l49, n_l57, n_l60, n_l100, n_l114, n_l115, n_l126, n_l200, n_l214, n_l239, n_l264, n_l294, n_l400, n_l1000, n_l1470, n_l5000, n_l1000000, n_o, n_nM, n_le]
    by_cases e : 3 ≤ k
    · rw [if_pos e]; exact ⟨_, rfl⟩
    · rw [if_neg e]
      simp (disch := first | omega | assumption) only [p1_stg (F := F) hq (show k ≤ 2 by omega), q_nt, n_add, q_g, n_C, r_W4, if_true]
      exact ih (k + 1) (by omega) (by omega)
set_option maxHeartbeats 4000000 in
theorem p5_told (hF : 3000 ≤ F) (hI : q_I B y) (hB : B + 20000 ≤ 1000000000) (h61 : y 2 ≤ 60) (hq : q.1 = q_z y) (a : Int32) : f_L_told F (q, r_a y 264 25, r_W y) a = some (nI 1) := by
  have hon := q_on_le hI
  have h12 := hI.2.2.2.2.2.2.2.2.2.2.1
  have h13 := hI.2.2.2.2.2.2.2.2.2.2.2.1
  have hv := hI.2.2.2.2.2.2.2.2.2.2.2.2.2.1
  obtain ⟨v44, e44⟩ := p5_t44 (F := F) hF hI h61 hq (r_a y 264 25) a F 0 (by omega) (by omega)
  obtain ⟨j, hj, hat⟩ := p5_at (F := F) (n := 17) (by omega) (by omega) (a >>> (nI 2 &&& nI 31))
  have hv8 : 8 ≤ 8 + j ∧ 8 + j ≤ 24 := by omega
  obtain ⟨v340, e340⟩ := p5_t340 (F := F) hF hI hq (r_a y 264 25)
  obtain ⟨v397, e397⟩ := p5_t397 (F := F) hF hq (r_a y 264 25) F 0 (by omega) (by omega)
  have hdn := q_dn_le y
  have hvv : (8 + j) * (8 + j) < 2147483648 := Nat.lt_of_le_of_lt (Nat.mul_le_mul (show 8 + j ≤ 24 by omega) (show 8 + j ≤ 24 by omega)) (by decide)
  have a2 := p5_all (F := F) (y := y) hF (off := 264) (fun v h => ((hv v (by omega)).2.2.2 h).2.2)
  have a3 : f_L_all F 25 (r_W y).2.2.1 = some (nI (q_sum (fun v => y (214 + v)) 25)) := p5_all (F := F) (y := y) hF (off := 214) (fun v h => ((hv v (by omega)).2.2.2 h).1)
  have a4 : f_L_all F 25 (r_W y).2.2.2.1 = some (nI (q_sum (fun v => y (239 + v)) 25)) := p5_all (F := F) (y := y) hF (off := 239) (fun v h => ((hv v (by omega)).2.2.2 h).2.1)
  obtain ⟨m1, m2⟩ := p1_mean (F := F) hF hI hB hq
  have hdone := p5_done (F := F) hF hI (by omega)
  have hlying := p5_lying (F := F) hF hI (by omega)
  have htop := p5_top (F := F) hF hI (Nat.le_refl _) (by omega)
  unfold f_L_told
  simp only [n_l0, n_l1, n_l2, n_l3, n_l4, n_l5, n_l6, n_l7, n_l8, n_l9, n_l10, n_l11, n_l12, n_l13, n_l14, n_l15, n_l16, n_l17, n_l18, n_l19, n_l20, n_l21, n_l22, n_l23, n_l24, n_l25, n_l30, n_l31, n_l33, n_l48, n_l49, n_l57, n_l60, n_l100, n_l114, n_l115, n_l126, n_l200, n_l214, n_l239, n_l264, n_l294, n_l400, n_l1000, n_l1470, n_l5000, n_l1000000, n_o, n_nM] at hat ⊢
  simp (config := { maxSteps := 20000000 }) (disch := first | omega | assumption) only [p5_t6 hF hI h61, q_bind, e44, Sum.elim_inl, hat, p5_t115 hF hI h61 _ hj, n_add, p1_sl0 hF hI hq hv8, p1_sl1 hF hI hq hv8, p1_sl2 hF hI hq hv8, p1_sl3 hF hI hq hv8, p1_sl4 hF hI hq hv8, q_nt, q_g, n_C, r_W2, r_W3, r_ak, if_true, n_mul, n_div, q_pc,
    p1_c0 hF hI hq, p1_c1 hF hI hq, p1_c2 hF hI hq, p1_c3 hF hI hq, p1_c4 hF hI hq, p1_c5 hF hI hq, p1_c6 hF hI hq, r_W4, htop, hlying, hdone]
  have hj6 : ∀ (K : Int32 → Option Int32), ((if nI (q_dn y) = nI 1 then some (nI 1) else some (nI 0)).bind K) = K (nI (q_dn y)) := by
    intro K
    rcases (show q_dn y = 0 ∨ q_dn y = 1 by omega) with e | e
    · rw [e]; rfl
    · rw [e]; rfl
  rw [hj6]
  simp (disch := first | omega | assumption) only [if_true, e340, q_bind, Sum.elim_inl, e397, p1_c11 hF hI hq, p1_c12 hF hI hq, p1_c13 hF hI hq, q_nt, a2, a3, a4, m1, n_add, n_eq]
  by_cases e : q_on y + y 12 = 0
  · rw [if_pos e, if_pos e]
    rw [if_pos (r_dcmp q_0v)]
  · obtain ⟨c, qq, hval⟩ := r_dv (a := y 13) (b := q_on y + y 12) (by omega) (by omega) (by omega)
    obtain ⟨c', qq', hv', -⟩ := r_i2f (n := y 13) (by omega)
    rw [if_neg e, if_neg e]
    rw [r_dm1 (by omega), q_fif (q_nn hv'), q_fif (q_nn hval), if_pos (r_dcmp hval)]
end RT
