/-! slates fall -/
def q_dw (b r : Nat) : Nat → Nat × Nat
  | 0 => (b, 0)
  | n + 1 => if n % 5 = r ∧ q_b (q_dw b r n).1 n = 1 then ((q_dw b r n).1 - 2 ^ n, (q_dw b r n).2 + 1) else q_dw b r n
def q_fl (y : Nat → Nat) (c w n : Nat) : Nat → Nat := q_u (q_u y (114 + c) w) (239 + y (14 + c)) (y (239 + y (14 + c)) + n)
def q_fall (y : Nat → Nat) (c r : Nat) : Nat × (Nat → Nat) := ((q_dw (y (114 + c)) r (q_pl y c)).2, q_fl y c (q_dw (y (114 + c)) r (q_pl y c)).1 (q_dw (y (114 + c)) r (q_pl y c)).2)
theorem q_dw_le (b r : Nat) : ∀ n, (q_dw b r n).1 ≤ b ∧ (q_dw b r n).2 ≤ n := by
  intro n
  induction n with
  | zero => exact ⟨Nat.le_refl _, Nat.le_refl _⟩
  | succ n ih =>
    unfold q_dw
    split
    · exact ⟨Nat.le_trans (Nat.sub_le _ _) ih.1, by show (q_dw b r n).2 + 1 ≤ n + 1; omega⟩
    · exact ⟨ih.1, by omega⟩
theorem q_dw_st {b r P : Nat} (hb : b < 2 ^ P) : ∀ {n : Nat}, P ≤ n → q_dw b r n = q_dw b r P := by
  intro n
  induction n with
  | zero => intro h; have : P = 0 := by omega
            subst this; rfl
  | succ n ih =>
    intro h
    by_cases e : P = n + 1
    · subst e; rfl
    · have h1 := ih (by omega)
      have h2 := (q_dw_le b r n).1
      have h3 := q_b_hi (b := (q_dw b r n).1) (p := P) (k := n) (by omega) (by omega)
      show (if _ then _ else q_dw b r n) = _
      rw [if_neg (by rw [h3]; omega), h1]
theorem q_dw_no {b r n : Nat} (h : n % 5 ≠ r) : q_dw b r (n + 1) = q_dw b r n := if_neg (fun q => h q.1)
theorem q_dw_5 {b r p : Nat} (h : p % 5 = r) : q_dw b r (p + 5) = (if q_b (q_dw b r p).1 p = 1 then ((q_dw b r p).1 - 2 ^ p, (q_dw b r p).2 + 1) else q_dw b r p) := by
  rw [q_dw_no (n := p + 4) (by omega), q_dw_no (n := p + 3) (by omega), q_dw_no (n := p + 2) (by omega), q_dw_no (n := p + 1) (by omega)]
  show (if p % 5 = r ∧ _ then _ else _) = _
  by_cases e : q_b (q_dw b r p).1 p = 1
  · rw [if_pos ⟨h, e⟩, if_pos e]
  · rw [if_neg (fun q => e q.2), if_neg e]
theorem q_dw_lo {b r n : Nat} (h : n ≤ r) (hr : r < 5) : q_dw b r n = (b, 0) := by
  induction n with
  | zero => rfl
  | succ n ih => rw [q_dw_no (by omega), ih (by omega)]
theorem q_uu (y : Nat → Nat) (k a b : Nat) : q_u (q_u y k a) k b = q_u y k b := by
  funext j; unfold q_u; by_cases h : j = k
  · rw [if_pos h, if_pos h]
  · rw [if_neg h, if_neg h, if_neg h]
theorem q_uc (y : Nat → Nat) {k l : Nat} (a b : Nat) (h : k ≠ l) : q_u (q_u y k a) l b = q_u (q_u y l b) k a := by
  funext j; unfold q_u; by_cases h1 : j = k
  · have h2 : ¬ j = l := fun q => h (h1.symm.trans q)
    simp only [if_pos h1, if_neg h2]
  · by_cases h2 : j = l
    · simp only [if_neg h1, if_pos h2]
    · simp only [if_neg h1, if_neg h2]
theorem q_ui (y : Nat → Nat) {k v : Nat} (h : y k = v) : q_u y k v = y := by
  funext j; unfold q_u; by_cases h1 : j = k
  · rw [if_pos h1, h1, h]
  · rw [if_neg h1]
theorem q_fl_0 (y : Nat → Nat) (c : Nat) : q_fl y c (y (114 + c)) 0 = y := by
  unfold q_fl
  rw [Nat.add_zero, q_ui y rfl, q_ui y rfl]
theorem q_fl_s {y : Nat → Nat} {c w w' n n' : Nat} (h : y (14 + c) < 25) (hc : c < 100) : q_u (q_u (q_fl y c w n) (114 + c) w') (239 + y (14 + c)) (y (239 + y (14 + c)) + n') = q_fl y c w' n' := by
  unfold q_fl
  rw [q_uc _ _ _ (show 239 + y (14 + c) ≠ 114 + c by omega), q_uu, q_uu]
theorem q_fl_o {y : Nat → Nat} {c w n j : Nat} (h1 : j ≠ 114 + c) (h2 : j ≠ 239 + y (14 + c)) : q_fl y c w n j = y j := by
  unfold q_fl; rw [q_u_ne h2, q_u_ne h1]
theorem q_fl_w {y : Nat → Nat} {c w n : Nat} (h : y (14 + c) < 25) (hc : c < 100) : q_fl y c w n (114 + c) = w := by
  unfold q_fl; rw [q_u_ne (by omega), q_u_eq]
theorem q_fl_h {y : Nat → Nat} {c w n : Nat} : q_fl y c w n (239 + y (14 + c)) = y (239 + y (14 + c)) + n := q_u_eq
theorem q_I_mono {B B' : Nat} {y : Nat → Nat} (h : q_I B y) (hb : B ≤ B') (hB : B' ≤ 1000000000) : q_I B' y := by
  obtain ⟨a0, a1, a2, a3, a4, a5, a6, a7, a8, a9, a12, a13, ac, av, as, ak, aB⟩ := h
  exact ⟨a0, a1, a2, a3, a4, a5, by omega, a7, a8, a9, by omega, by omega, ac, fun v hv => ⟨by have := av v hv; omega, by have := av v hv; omega, (av v hv).2.2⟩, as, ak, hB⟩
theorem q_fl_I {B : Nat} {y : Nat → Nat} {c w n : Nat} (hI : q_I B y) (hc : c < y 2) (hw : w ≤ y (114 + c)) (hn : n ≤ 31) (hB : B + 31 ≤ 1000000000) : q_I (B + 31) (q_fl y c w n) := by
  obtain ⟨a0, a1, a2, a3, a4, a5, a6, a7, a8, a9, a12, a13, ac, av, as, ak, aB⟩ := hI
  have hcc := ac c hc
  have e : ∀ j, j ≠ 114 + c → j ≠ 239 + y (14 + c) → q_fl y c w n j = y j := fun j h1 h2 => q_fl_o h1 h2
  unfold q_I
  rw [e 0 (by omega) (by omega), e 1 (by omega) (by omega), e 2 (by omega) (by omega), e 3 (by omega) (by omega), e 4 (by omega) (by omega), e 5 (by omega) (by omega), e 6 (by omega) (by omega), e 7 (by omega) (by omega), e 8 (by omega) (by omega), e 9 (by omega) (by omega), e 12 (by omega) (by omega), e 13 (by omega) (by omega)]
  refine ⟨a0, a1, a2, a3, a4, a5, by omega, a7, a8, a9, by omega, by omega, fun d hd => ?_, fun v hv => ?_, ?_, fun k hk => ?_, hB⟩
  · rw [e (14 + d) (by omega) (by omega)]
    by_cases h : d = c
    · subst h
      rw [q_fl_w (by omega) (by omega)]
      exact ⟨hcc.1, hcc.2.1, by omega⟩
    · rw [e (114 + d) (by omega) (by omega)]
      exact ac d hd
  · rw [e (214 + v) (by omega) (by omega), e (264 + v) (by omega) (by omega)]
    have h1 := av v hv
    by_cases h : v = y (14 + c)
    · subst h
      rw [q_fl_h]
      exact ⟨by omega, by omega, h1.2.2.1, fun h => by omega⟩
    · rw [e (239 + v) (by omega) (by omega)]
      exact ⟨by omega, by omega, h1.2.2⟩
  · rw [q_sum_cg (g := fun v => y (264 + v)) (fun k hk => e (264 + k) (by omega) (by omega))]
    exact as
  · rw [e k (by omega) (by omega)]; exact ak k hk
theorem q_w_I {B : Nat} {y : Nat → Nat} {c w : Nat} (hI : q_I B y) (hc : c < y 2) (hw : w ≤ y (114 + c)) : q_I B (q_u y (114 + c) w) := by
  obtain ⟨a0, a1, a2, a3, a4, a5, a6, a7, a8, a9, a12, a13, ac, av, as, ak, aB⟩ := hI
  have hcc := ac c hc
  have e : ∀ j, j ≠ 114 + c → q_u y (114 + c) w j = y j := fun j h1 => q_u_ne h1
  unfold q_I
  rw [e 0 (by omega), e 1 (by omega), e 2 (by omega), e 3 (by omega), e 4 (by omega), e 5 (by omega), e 6 (by omega), e 7 (by omega), e 8 (by omega), e 9 (by omega), e 12 (by omega), e 13 (by omega)]
  refine ⟨a0, a1, a2, a3, a4, a5, a6, a7, a8, a9, a12, a13, fun d hd => ?_, fun v hv => ?_, ?_, fun k hk => ?_, aB⟩
  · rw [e (14 + d) (by omega)]
    by_cases h : d = c
    · subst h
      rw [q_u_eq]
      exact ⟨hcc.1, hcc.2.1, by omega⟩
    · rw [e (114 + d) (by omega)]
      exact ac d hd
  · rw [e (214 + v) (by omega), e (264 + v) (by omega), e (239 + v) (by omega)]
    exact av v hv
  · rw [q_sum_cg (g := fun v => y (264 + v)) (fun k hk => e (264 + k) (by omega))]
    exact as
  · rw [e k (by omega)]; exact ak k hk
theorem n_negsub (a b : Nat) : nI a + -nI b = nI a - nI b := (Int32.sub_eq_add_neg _ _).symm
section RD
variable {B F : Nat} {y : Nat → Nat} {M : d_M}
theorem q1_drL (hI : q_I B y) {c r : Nat} (hc : c < y 2) (hr : r < 5) : ∀ n p, p % 5 = r → p ≤ q_pl y c + 4 → q_pl y c + 5 - p < n →
    f_X1_dropSlates_L22 F (nI c) (nI (q_pl y c)) n (nI (q_dw (y (114 + c)) r p).2) (nI p) (q_z (q_u y (114 + c) (q_dw (y (114 + c)) r p).1)) =
      f_X1_dropSlates_L22 F (nI c) (nI (q_pl y c)) 1 (nI (q_dw (y (114 + c)) r (q_pl y c)).2) (nI (q_pl y c)) (q_z (q_u y (114 + c) (q_dw (y (114 + c)) r (q_pl y c)).1)) ∨
    ∃ p', f_X1_dropSlates_L22 F (nI c) (nI (q_pl y c)) n (nI (q_dw (y (114 + c)) r p).2) (nI p) (q_z (q_u y (114 + c) (q_dw (y (114 + c)) r p).1)) = some (nI (q_dw (y (114 + c)) r (q_pl y c)).2, p', q_z (q_u y (114 + c) (q_dw (y (114 + c)) r (q_pl y c)).1)) := by
  have h2 := hI.2.2.1
  have h5 := q_pl_le (c := c) hI.2.1.2
  have h6 := hI.2.2.2.2.2.2.2.2.2.2.2.2.1 c hc
  have hw := q_w hI.2.1.2 h6.2.2
  intro n
  induction n with
  | zero => intro p _ _ h; omega
  | succ n ih =>
    intro p hp hp2 hn
    right
    have hle := q_dw_le (y (114 + c)) r p
    conv => enter [1, p', 1]; unfold f_X1_dropSlates_L22
    simp (disch := first | omega | assumption) only [n_le]
    by_cases e : q_pl y c ≤ p
    · refine ⟨nI p, ?_⟩
      rw [if_pos e, q_dw_st h6.2.2 e]; rfl
    · have hIw := q_w_I hI hc hle.1
      have e3 : q_u y (114 + c) (q_dw (y (114 + c)) r p).1 2 = y 2 := q_u_ne (by omega)
      have hh := q1_has (F := F) (c := c) (p := p) hIw (by rw [e3]; exact hc) (by omega)
      rw [q_u_eq] at hh
      have hbl := q_b_le (q_dw (y (114 + c)) r p).1 p
      have h5' := q_dw_5 (b := y (114 + c)) hp
      simp only [if_neg e, hh, q_bind]
      by_cases e4 : q_b (q_dw (y (114 + c)) r p).1 p = 1
      · rw [if_pos e4] at h5'
        have hbl2 := q_blo e4
        have ih2 := ih (p + 5) (by omega) (by omega) (by omega)
        rw [h5'] at ih2
        rw [e4]
        simp (disch := first | omega | assumption) only [n_l0, n_l1, n_l2, n_l3, n_l4, n_l5, n_l6, n_l7, n_l8, n_l9, n_l10, n_l11, n_l12, n_l13, n_l14, n_l15, n_l16, n_l17, n_l18, n_l19, n_l20, n_l21, n_l22, n_l23, n_l24, n_l25, n_l30, n_l31, n_l33, n_l48, n_l49, n_l57, n_l60, n_l100, n_l114, n_l115, n_l126, n_l200, n_l214, n_l239, n_l264, n_l294, n_l400, n_l1000, n_l1470, n_l5000, n_l1000000, n_o, n_nM, n_and, n_and31, n_shl']
        refine Exists.elim (ih2.elim (fun q => ?_) (fun q => q)) (fun p' hp' => ⟨p', ?_⟩)
        · refine ⟨nI (q_pl y c), q.trans ?_⟩
          unfold f_X1_dropSlates_L22
          exact if_pos (by rw [n_le (by omega) (by omega)]; exact Nat.le_refl _)
        · rw [if_neg (by decide), q_addK (w := (q_dw (y (114 + c)) r p).1 - 2 ^ p) (by rw [q_u_eq, n_negsub, n_sub hbl2]) (by omega) (by omega), q_uu, n_add, n_add]
          exact hp'
      · rw [if_neg e4] at h5'
        have ih2 := ih (p + 5) (by omega) (by omega) (by omega)
        rw [h5'] at ih2
        rw [show q_b (q_dw (y (114 + c)) r p).1 p = 0 by omega]
        simp (disch := first | omega | assumption) only [n_l0, n_l1, n_l2, n_l3, n_l4, n_l5, n_l6, n_l7, n_l8, n_l9, n_l10, n_l11, n_l12, n_l13, n_l14, n_l15, n_l16, n_l17, n_l18, n_l19, n_l20, n_l21, n_l22, n_l23, n_l24, n_l25, n_l30, n_l31, n_l33, n_l48, n_l49, n_l57, n_l60, n_l100, n_l114, n_l115, n_l126, n_l200, n_l214, n_l239, n_l264, n_l294, n_l400, n_l1000, n_l1470, n_l5000, n_l1000000, n_o, n_nM]
        refine Exists.elim (ih2.elim (fun q => ?_) (fun q => q)) (fun p' hp' => ⟨p', ?_⟩)
        · refine ⟨nI (q_pl y c), q.trans ?_⟩
          unfold f_X1_dropSlates_L22
          exact if_pos (by rw [n_le (by omega) (by omega)]; exact Nat.le_refl _)
        · rw [if_pos trivial, n_add]
          exact hp'
theorem q1_drop (hF : 3000 ≤ F) (hI : q_I B y) {c r : Nat} (hc : c < y 2) (hr : r < 5) : f_X1_dropSlates F (q_z y) (nI c) (nI r) = some (nI (q_fall y c r).1, q_z (q_fall y c r).2) := by
  have h2 := hI.2.2.1
  have h1 := hI.2.1
  have h5 := q_pl_le (c := c) hI.2.1.2
  have h5' : 2 ≤ q_pl y c := by unfold q_pl; omega
  have h6 := hI.2.2.2.2.2.2.2.2.2.2.2.2.1 c hc
  unfold f_X1_dropSlates
  rw [q1_hc hI (by omega), if_pos hc, q_bind, if_neg (by decide), q1_pl (by omega), q_bind]
  have key := q1_drL (F := F) hI hc hr F r (by omega) (by omega) (by omega)
  rw [q_dw_lo (Nat.le_refl _) hr] at key
  have key2 : ∃ p', f_X1_dropSlates_L22 F (nI c) (nI (q_pl y c)) F (nI 0) (nI r) (q_z y) = some (nI (q_dw (y (114 + c)) r (q_pl y c)).2, p', q_z (q_u y (114 + c) (q_dw (y (114 + c)) r (q_pl y c)).1)) := by
    have e0 : q_u y (114 + c) (y (114 + c)) = y := q_ui y rfl
    rcases key with q | q
    · refine ⟨nI (q_pl y c), ?_⟩
      have q' : f_X1_dropSlates_L22 F (nI c) (nI (q_pl y c)) F (nI 0) (nI r) (q_z (q_u y (114 + c) (y (114 + c)))) = _ := q
      rw [e0] at q'
      rw [q']
      unfold f_X1_dropSlates_L22
      exact if_pos (by rw [n_le (by omega) (by omega)]; exact Nat.le_refl _)
    · have q' : ∃ p', f_X1_dropSlates_L22 F (nI c) (nI (q_pl y c)) F (nI 0) (nI r) (q_z (q_u y (114 + c) (y (114 + c)))) = _ := q
      rw [e0] at q'
      exact q'
  obtain ⟨p', hk⟩ := key2
  rw [n_l0, hk, q_bind]
  show ((f_X3_valueAt F 100 (fun k => q_z (q_u y (114 + c) (q_dw (y (114 + c)) r (q_pl y c)).1) (14 + k)) (nI c)).bind _) = _
  rw [q_vAt (by omega) (by omega), q_bind, q_zk, q_u_ne (by omega), q_addK (n_add _ _) (by omega) (by omega), q_u_ne (show 239 + y (14 + c) ≠ 114 + c by omega)]
  rfl
theorem q_fall_I (hI : q_I B y) (hB : B + 31 ≤ 1000000000) {c r : Nat} (hc : c < y 2) : q_I (B + 31) (q_fall y c r).2 := by
  have h5 := q_pl_le (c := c) hI.2.1.2
  have hle := q_dw_le (y (114 + c)) r (q_pl y c)
  exact q_fl_I hI hc hle.1 (by omega) hB
theorem q_fall_o {c r j : Nat} (h1 : j ≠ 114 + c) (h2 : j ≠ 239 + y (14 + c)) : (q_fall y c r).2 j = y j := q_fl_o h1 h2
end RD
