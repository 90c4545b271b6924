/-! how many dry days -/
def q_fd : Nat → (Nat → Nat) → Nat
  | 0, _ => 0
  | m + 1, s => if q_dn s = 1 then 0 else q_fd m (q_wd s 0).2 + 1
theorem q_fd_le : ∀ m s, q_fd m s ≤ m := by
  intro m
  induction m with
  | zero => intro s; exact Nat.le_refl _
  | succ m ih => intro s; unfold q_fd; split
                 · omega
                 · have := ih (q_wd s 0).2; omega
/-- a fixed state: dry, the effort is the pace, no step -/
def q_fix (t : Nat → Nat) : Prop := q_step t = none ∧ t 7 = t 4 ∧ t 8 = 0 ∧ t 9 = 0 ∧ q_dn t = 0
theorem q_fix_s {t : Nat → Nat} (h : q_fix t) : q_fix (q_wd t 0).2 := by
  obtain ⟨h1, h7, h8, h9, hd⟩ := h
  have e1 : q_dp (q_u t 6 (t 6 + 1)) 0 = q_u (q_u t 6 (t 6 + 1)) 8 0 := by
    unfold q_dp
    rw [if_pos rfl, q_u_ne (show 8 ≠ 6 by omega), h8]
  have e2 : q_s2 (q_u (q_u t 6 (t 6 + 1)) 8 0) 0 = (0, q_u (q_u t 6 (t 6 + 1)) 8 0) := if_neg (by omega)
  have e3 : (q_day t 0).2 = q_u t 6 (t 6 + 1) := by
    unfold q_day q_fin
    rw [e1, e2]
    show q_u (q_u (q_u t 6 (t 6 + 1)) 8 0) 7 (q_u (q_u t 6 (t 6 + 1)) 8 0 4) = _
    rw [q_ui (q_u t 6 (t 6 + 1)) (show q_u t 6 (t 6 + 1) 8 = 0 by rw [q_u_ne (by omega), h8])]
    exact q_ui _ (by rw [q_u_ne (by omega), q_u_ne (by omega), h7])
  have e4 : ∀ j, j ≠ 6 → q_u t 6 (t 6 + 1) j = t j := fun j hj => q_u_ne hj
  have e5 : q_step (q_u t 6 (t 6 + 1)) = none := q_step_cg (fun j hj => e4 j (by omega)) (e4 7 (by omega)) h1
  have e6 : (q_wd t 0).2 = q_u t 6 (t 6 + 1) := by
    unfold q_wd
    rw [e3]
    split
    · unfold q_run; rw [e5]
    · rfl
  rw [e6]
  exact ⟨e5, by rw [e4 7 (by omega), e4 4 (by omega), h7], by rw [e4 8 (by omega), h8], by rw [e4 9 (by omega), h9], by rw [(q_fg_cg (fun j hj => e4 j (by omega))).2.2.2.2.2.2.2.2, hd]⟩
theorem q_fix_fd : ∀ m t, q_fix t → q_fd m t = m := by
  intro m
  induction m with
  | zero => intro t _; rfl
  | succ m ih =>
    intro t h
    unfold q_fd
    rw [if_neg (by rw [h.2.2.2.2]; omega), ih _ (q_fix_s h)]
theorem q_wd_fix {B : Nat} {s : Nat → Nat} (hI : q_I B s) (hB : B + 63 ≤ 1000000000) (h0 : (q_wd s 0).1 = 0) (hd : q_dry (q_wd s 0).2 = 1) (hn : q_dn (q_wd s 0).2 ≠ 1) : q_fix (q_wd s 0).2 := by
  have hI2 := q_day_I (w := 0) hI hB
  have h40 : ∀ s : Nat → Nat, q_fin s 7 = q_fin s 4 := fun s => by
    unfold q_fin
    rw [q_u_eq, q_u_ne (by omega)]
  have h4 : (q_day s 0).2 7 = (q_day s 0).2 4 := h40 _
  have hle := q_dn_le (q_wd s 0).2
  have h89 : (q_wd s 0).2 8 = 0 ∧ (q_wd s 0).2 9 = 0 := by
    unfold q_dry at hd
    split at hd
    · rename_i h; exact ⟨h.2, h.1⟩
    · omega
  unfold q_wd at *
  by_cases e : q_dry (q_day s 0).2 = 1
  · rw [if_pos e] at *
    have h5 := q_run_I 161 _ hI2
    have h6 := q_mu_le hI2
    refine ⟨q_run_end 161 _ hI2 (by omega), ?_, h89.1, h89.2, by omega⟩
    rw [q_run_0 161 _ h0, h5.2.1 4 (by omega) (by omega) (by omega), h4]
  · rw [if_neg e] at *
    exact absurd hd e
section RD
variable {B F : Nat} {y : Nat → Nat} {M : d_M}
theorem q1_ddL (hF : 3000 ≤ F) (z0 : d_Z) (rest : d_S × d_T) : ∀ m (s : Nat → Nat) B d n, q_I B s → B + 63 * (m + 1) ≤ 1000000000 → d + m = 201 → m < n →
    ∃ s', (f_X3_dryDays_L33 F n (nI d) (z0, q_z s, rest)).bind (fun w9 => Sum.elim (fun w12 => some ((nM, w12.2))) (fun w9 => Sum.elim (fun w14 => some ((nM, w14.2))) (fun w16 => some ((w16.1, w16.2))) w9) w9) = some (if d + q_fd m (q_wd s 0).2 ≤ 200 then nI (d + q_fd m (q_wd s 0).2) else nM, (z0, s', rest)) := by
  intro m
  induction m with
  | zero =>
    intro s B d n hI hB hd hn
    refine ⟨q_z s, ?_⟩
    obtain ⟨n, rfl⟩ : ∃ k, n = k + 1 := ⟨n - 1, by omega⟩
    unfold f_X3_dryDays_L33
    rw [if_pos (by rw [show (200 : Int32) = nI 200 from rfl, n_lt (by omega) (by omega)]; omega), if_neg (by show ¬ d + 0 ≤ 200; omega)]
    rfl
  | succ m ih =>
    intro s B d n hI hB hd hn
    obtain ⟨n, rfl⟩ : ∃ k, n = k + 1 := ⟨n - 1, by omega⟩
    have hw := q_wd_I (w := 0) hI (by omega)
    have hdn := q_dn_le (q_wd s 0).2
    have hdr := q_dry_le (q_wd s 0).2
    have e0 : q_fd (m + 1) (q_wd s 0).2 = if q_dn (q_wd s 0).2 = 1 then 0 else q_fd m (q_wd (q_wd s 0).2 0).2 + 1 := rfl
    conv => enter [1, s', 1, 1]; unfold f_X3_dryDays_L33
    rw [if_neg (by rw [show (200 : Int32) = nI 200 from rfl, n_lt (by omega) (by omega)]; omega)]
    have hwd := q1_wd hF hI (by omega) (w := 0) (by omega) (fun x34007 => f_let (z0, x34007.2, rest) fun q34009 => (f_X1_isDone F q34009.2.1).bind fun x34011 => (if x34011 = 0 then (if x34007.1 = 0 then (f_X1_canBeSlated F q34009.2.1).bind fun x34015 => (if x34015 = 0 then f_X3_dryDays_L33 F  n ((nI d) + (1 : Int32)) q34009 else some (.inr (.inl ((nI d), q34009)))) else f_X3_dryDays_L33 F  n ((nI d) + (1 : Int32)) q34009) else some (.inr (.inr (((nI d), q34009))))))
    have hwd2 : ((f_X1_passDay F (q_z s) ((0 : Int32))).bind fun x34003 => f_let (z0, x34003.2, rest) fun q34005 => (f_X1_slateForTheDay F q34005.2.1).bind fun x34007 => f_let (q34005.1, x34007.2, q34005.2.2) fun q34009 => (f_X1_isDone F q34009.2.1).bind fun x34011 => (if x34011 = 0 then (if x34007.1 = 0 then (f_X1_canBeSlated F q34009.2.1).bind fun x34015 => (if x34015 = 0 then f_X3_dryDays_L33 F  n ((nI d) + (1 : Int32)) q34009 else some (.inr (.inl ((nI d), q34009)))) else f_X3_dryDays_L33 F  n ((nI d) + (1 : Int32)) q34009) else some (.inr (.inr (((nI d), q34009)))))) = _ := hwd
    simp only [q_let] at hwd2 ⊢
    simp only [hwd2]
    rw [q1_done hF hw.1, q_bind]
    simp (disch := first | omega | assumption) only [n_l0, n_l1, n_l2, n_l3, n_l4, n_l5, n_l6, n_l7, n_l8, n_l9, n_l10, n_l11, n_l12, n_l13, n_l14, n_l15, n_l16, n_l17, n_l18, n_l19, n_l20, n_l21, n_l22, n_l23, n_l24, n_l25, n_l30, n_l31, n_l33, n_l48, n_l49, n_l57, n_l60, n_l100, n_l114, n_l115, n_l126, n_l200, n_l214, n_l239, n_l264, n_l294, n_l400, n_l1000, n_l1470, n_l5000, n_l1000000, n_o, n_nM, n_eq]
    by_cases ed : q_dn (q_wd s 0).2 = 1
    · refine ⟨q_z (q_wd s 0).2, ?_⟩
      rw [if_neg (by omega), e0, if_pos ed, if_pos (by omega)]
      rfl
    · rw [if_pos (by omega)]
      rw [if_neg ed] at e0
      have ih2 := ih (q_wd s 0).2 (B + 63) (d + 1) n hw.1 (by omega) (by omega) (by omega)
      have e1 : d + 1 + q_fd m (q_wd (q_wd s 0).2 0).2 = d + q_fd (m + 1) (q_wd s 0).2 := by omega
      rw [e1] at ih2
      rw [q1_dry hw.1, n_add]
      simp (disch := first | omega | assumption) only [q_bind, n_eq]
      by_cases ep : (q_wd s 0).1 = 0
      · by_cases edr : q_dry (q_wd s 0).2 = 1
        · have hfix := q_wd_fix hI (by omega) ep edr ed
          refine ⟨q_z (q_wd s 0).2, ?_⟩
          rw [if_pos ep, if_neg (by omega), q_fix_fd _ _ hfix, if_neg (by omega)]
          rfl
        · rw [if_pos ep, if_pos (by omega)]
          exact ih2
      · rw [if_neg ep]
        exact ih2
/-- dry days: the class -/
theorem q1_dd (hF : 3000 ≤ F) (hI : q_I B y) (hB : B + 20000 ≤ 1000000000) {q : d_C} (hq : q.1 = q_z y) : ∃ tr, f_X3_dryDays F q = some (if q_fd 201 (q_u y 9 0) ≤ 200 then nI (q_fd 201 (q_u y 9 0)) else nM, (q.1, tr, q.2.2)) := by
  have hB1 := hI.2.2.2.2.2.2.2.2.2.2.2.2.2.2.2.2
  have h9 := hI.2.2.2.2.2.2.2.2.2.1
  have I1 : q_I B (q_u y 9 0) := q_set_I hI (Nat.le_refl _) hB1 (by omega)
  have hdn := q_dn_le y
  have e9 : q_dn (q_u y 9 0) = q_dn y := (q_fg_cg (fun j hj => q_u_ne (by omega))).2.2.2.2.2.2.2.2
  obtain ⟨z, tr, rest⟩ := q
  subst hq
  unfold f_X3_dryDays
  show ∃ tr', ((f_X1_isDone F (q_z y)).bind _) = _
  rw [q1_done hF hI, q_bind]
  have e0 : q_fd 201 (q_u y 9 0) = if q_dn (q_u y 9 0) = 1 then 0 else q_fd 200 (q_wd (q_u y 9 0) 0).2 + 1 := rfl
  rw [e9] at e0
  by_cases ed : q_dn y = 1
  · refine ⟨tr, ?_⟩
    rw [ed, if_neg (by decide), e0, if_pos ed]
    rfl
  · rw [if_neg ed] at e0
    obtain ⟨s', h1⟩ := q1_ddL hF (q_z y) rest 200 (q_u y 9 0) B 1 F I1 (by omega) (by omega) (by omega)
    refine ⟨s', ?_⟩
    rw [show q_dn y = 0 by omega, if_pos (by rfl)]
    unfold f_X1_copyFrom
    rw [q_fif (show q_z y 9 = 0 ∨ q_z y 9 = 1 by
      rcases (show y 9 = 0 ∨ y 9 = 1 by omega) with c | c
      · left; show nI (y 9) = 0; rw [c]; rfl
      · right; show nI (y 9) = 1; rw [c]; rfl), q_bind]
    simp only [n_l0, n_l1, n_l2, n_l3, n_l4, n_l5, n_l6, n_l7, n_l8, n_l9, n_l10, n_l11, n_l12, n_l13, n_l14, n_l15, n_l16, n_l17, n_l18, n_l19, n_l20, n_l21, n_l22, n_l23, n_l24, n_l25, n_l30, n_l31, n_l33, n_l48, n_l49, n_l57, n_l60, n_l100, n_l114, n_l115, n_l126, n_l200, n_l214, n_l239, n_l264, n_l294, n_l400, n_l1000, n_l1470, n_l5000, n_l1000000, n_o, n_nM, q_let, q_zu]
    rw [h1, e0, Nat.add_comm 1]
end RD
