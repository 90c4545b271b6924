/-! days as texts: what the law appends, what the class reads -/
def r_dl (c : Nat → Nat) (k : Nat) : List Nat := q_ds (q_tp c k).2.1 (q_tp c k).2.2 (q_tp c k).1
def r_pt (c : Nat → Nat) (k : Nat) (D : List Nat) (kd v : Nat) : Prop := 1 ≤ (q_tp c k).1 ∧ q_ds (q_tp c k).2.1 (q_tp c k).2.2 ((q_tp c k).1 - 1) = D ∧ q_lk c k = kd ∧ q_lr c k = v
theorem r_cg2 {c c' : Nat → Nat} : ∀ {n : Nat}, (∀ i, i < n → c i = c' i) → q_sc c n = q_sc c' n ∧ q_tp c n = q_tp c' n := by
  intro n
  induction n with
  | zero => intro _; exact ⟨rfl, rfl⟩
  | succ n ih =>
    intro h
    obtain ⟨h1, h2⟩ := ih (fun i hi => h i (by omega))
    have h3 := h n (by omega)
    refine ⟨?_, ?_⟩
    · show q_af (q_sc c n) (c n) = q_af (q_sc c' n) (c' n)
      rw [h1, h3]
    · unfold q_tp
      rw [h1, h2, h3]
theorem r_pt_dl {c : Nat → Nat} {k kd v : Nat} {D : List Nat} (h : r_pt c k D kd v) : r_dl c k = D ++ List.replicate v kd := by
  obtain ⟨h1, h2, h3, h4⟩ := h
  unfold r_dl
  obtain ⟨m, hm⟩ : ∃ m, (q_tp c k).1 = m + 1 := ⟨(q_tp c k).1 - 1, by omega⟩
  unfold q_lk at h3
  unfold q_lr at h4
  rw [hm] at h2 h3 h4 ⊢
  rw [Nat.add_sub_cancel] at h2 h3 h4
  show q_ds (q_tp c k).2.1 (q_tp c k).2.2 m ++ List.replicate ((q_tp c k).2.2 m) ((q_tp c k).2.1 m) = _
  rw [h2, h3, h4]
theorem r_letter {c : Nat → Nat} {k a : Nat} (hw : q_wt a ≠ 3) (hs : q_sc c k ≠ 5 ∧ q_sc c k ≠ 2) : q_sc (q_u c k a) (k + 1) = 1 ∧ r_pt (q_u c k a) (k + 1) (r_dl c k) (q_wt a) 1 := by
  obtain ⟨g1, g2⟩ := r_cg2 (c := q_u c k a) (c' := c) (n := k) (fun i hi => q_u_ne (by omega))
  have ha : q_u c k a k = a := q_u_eq
  obtain ⟨t1, t2, t3, t4⟩ := q_tp_let (c := q_u c k a) (n := k) (by rw [ha]; exact hw)
  rw [ha] at t2
  rw [g2] at t1 t4
  refine ⟨?_, by omega, ?_, t2, t3⟩
  · show q_af (q_sc (q_u c k a) k) (q_u c k a k) = 1
    rw [g1, ha]
    unfold q_af
    rw [if_neg hs.1, if_pos hw, if_neg hs.2]
  · unfold r_dl
    rw [t1, Nat.add_sub_cancel]
    exact q_ds_cg t4
theorem r_digit {c : Nat → Nat} {k a kd v : Nat} {D : List Nat} (hw : 48 ≤ a ∧ a ≤ 57) (h : r_pt c k D kd v) : r_pt (q_u c k a) (k + 1) D kd (if q_sc c k = 1 then a - 48 else 10 * v + (a - 48)) ∧ q_sc (q_u c k a) (k + 1) = q_af (q_sc c k) a := by
  obtain ⟨g1, g2⟩ := r_cg2 (c := q_u c k a) (c' := c) (n := k) (fun i hi => q_u_ne (by omega))
  have ha : q_u c k a k = a := q_u_eq
  have hw3 : q_wt a = 3 := by unfold q_wt; rw [if_neg (by omega), if_neg (by omega), if_neg (by omega)]
  obtain ⟨h1, h2, h3, h4⟩ := h
  obtain ⟨t1, t2, t3, t4⟩ := q_tp_dig (c := q_u c k a) (n := k) (by rw [ha, hw3]; exact fun q => q rfl)
  have l1 : q_lk (q_u c k a) k = q_lk c k := by unfold q_lk; rw [g2]
  have l2 : q_lr (q_u c k a) k = q_lr c k := by unfold q_lr; rw [g2]
  rw [ha, g1, l2, h4] at t3
  rw [l1, h3] at t2
  rw [g2] at t1 t4
  refine ⟨⟨by omega, ?_, t2, t3⟩, ?_⟩
  · rw [t1, ← h2]
    exact q_ds_cg t4
  · show q_af (q_sc (q_u c k a) k) (q_u c k a k) = _
    rw [g1, ha]
def r_tx (k : Nat) (c : Nat → Nat) (t : d_T) : Prop := k ≤ 60 ∧ t.2.1 = nI k ∧ ∀ i, i < k → t.1 i = nI (c i) ∧ c i < 128
theorem r_wl_I : ∀ (l : List Nat) (B : Nat) (s : Nat × (Nat → Nat)), r_I B s.2 → B + 63 * l.length ≤ 1000000000 → r_I (B + 63 * l.length) (q_wl l s).2 := by
  intro l
  induction l with
  | nil => intro B s h _; exact h
  | cons w l ih =>
    intro B s h hB
    rw [List.length_cons] at hB ⊢
    have := ih (B + 63) (s.1 + (q_wd s.2 w).1, (q_wd s.2 w).2) (r_wd_I h (by omega)) (by omega)
    rw [show B + 63 * (l.length + 1) = B + 63 + 63 * l.length by omega]
    exact this
theorem r_step_o {B : Nat} {y : Nat → Nat} {r : Nat × (Nat → Nat)} (hI : q_I B y) (h : q_step y = some r) : ∀ j, 264 ≤ j → r.2 j = y j := by
  intro j hj
  have hl := hI.2.2.2.2.2.2.2.2.2.2.2.2.1
  have h2 := hI.2.2.1
  unfold q_step at h
  by_cases e1 : q_op y (y 2 - 1) < y 2 - 1 ∧ 0 < y (214 + y (14 + q_op y (y 2 - 1))) ∧ 3 ≤ y 7
  · rw [if_pos e1] at h
    cases h
    have := hl (q_op y (y 2 - 1)) (by omega)
    exact q_ly_o (by omega) (by omega) (by omega)
  · rw [if_neg e1] at h
    by_cases e2 : 0 < y 2 ∧ q_g0 y (y 2 - 1) < q_pl y (y 2 - 1)
    · rw [if_pos e2] at h
      by_cases e3 : 0 < y (214 + y (14 + (y 2 - 1))) ∧ 1 ≤ y 7
      · rw [if_pos e3] at h
        cases h
        have := hl (y 2 - 1) (by omega)
        exact q_ly_o (by omega) (by omega) (by omega)
      · rw [if_neg e3] at h; cases h
    · rw [if_neg e2] at h
      by_cases e4 : q_top y (y 2) < y 0 ∧ y 2 < 100 ∧ q_nl y ≠ 0
      · rw [if_pos e4] at h
        cases h
        exact q_bg_o (by omega) (by omega) (by omega)
      · rw [if_neg e4] at h; cases h
theorem r_run_o {B : Nat} : ∀ m (y : Nat → Nat), q_I B y → ∀ j, 264 ≤ j → (q_run m y).2 j = y j := by
  intro m
  induction m with
  | zero => intro y _ j _; rfl
  | succ m ih =>
    intro y hI j hj
    cases hs : q_step y with
    | none => unfold q_run; rw [hs]
    | some r =>
      have h4 : q_run (m + 1) y = (r.1 + (q_run m r.2).1, (q_run m r.2).2) := by
        conv => lhs; unfold q_run
        rw [hs]
      rw [h4]
      exact (ih r.2 (q_step_I hI hs).1 j hj).trans (r_step_o hI hs j hj)
/-- what a day leaves: the number of the day goes on, what was bought stays -/
theorem r_day_o {B : Nat} {y : Nat → Nat} {w : Nat} (hI : q_I B y) (hB : B + 63 ≤ 1000000000) : (q_day y w).2 6 = y 6 + 1 ∧ ∀ j, 264 ≤ j → (q_day y w).2 j = y j := by
  have hI1 : q_I (B + 1) (q_u y 6 (y 6 + 1)) := q_set_I hI (by omega) (by omega) (Or.inl ⟨rfl, by have := hI.2.2.2.2.2.2.1; omega⟩)
  have hI2 := q_dp_I (w := w) hI1
  have hI3 := q_s2_I (w := w) hI2.1 (by omega)
  have hl := hI2.1.2.2.2.2.2.2.2.2.2.2.2.2.1
  refine ⟨?_, fun j hj => ?_⟩
  · show q_fin (q_s2 (q_dp (q_u y 6 (y 6 + 1)) w) w).2 6 = y 6 + 1
    unfold q_fin
    rw [q_u_ne (by omega), hI3.2 6 (by omega), hI2.2 6 (by omega), q_u_eq]
  · show q_fin (q_s2 (q_dp (q_u y 6 (y 6 + 1)) w) w).2 j = y j
    have e : (q_s2 (q_dp (q_u y 6 (y 6 + 1)) w) w).2 j = q_dp (q_u y 6 (y 6 + 1)) w j := by
      generalize q_dp (q_u y 6 (y 6 + 1)) w = s at *
      have hsa := q_sa_I hI2.1 (by omega)
      have a1 : (q_sa s).2 j = s j := by
        unfold q_sa
        by_cases c : 0 < s 2
        · rw [if_pos c]
          have := hl (s 2 - 1) (by omega)
          have h2 := hI2.1.2.2.1
          exact q_fall_o (by omega) (by omega)
        · rw [if_neg c]
      have a2 : (q_sb (q_sa s).2).2 j = s j := by
        have i2 := hsa.1.2.2.1
        have il := hsa.1.2.2.2.2.2.2.2.2.2.2.2.2.1
        unfold q_sb
        by_cases c : 1 < (q_sa s).2 2
        · rw [if_pos c]
          have := il ((q_sa s).2 2 - 2) (by omega)
          exact (q_fall_o (by omega) (by omega)).trans a1
        · rw [if_neg c]; exact a1
      unfold q_s2 q_sto
      split
      · exact a2
      · rfl
    unfold q_fin
    rw [q_u_ne (by omega), e, hI2.2 j (by omega), q_u_ne (by omega)]
theorem r_wd_o {B : Nat} {y : Nat → Nat} {w : Nat} (hI : q_I B y) (hB : B + 63 ≤ 1000000000) : (q_wd y w).2 6 = y 6 + 1 ∧ ∀ j, 264 ≤ j → (q_wd y w).2 j = y j := by
  have h1 := r_day_o (w := w) hI hB
  have h2 := q_day_I (w := w) hI hB
  unfold q_wd
  split
  · exact ⟨((q_run_I 161 _ h2).2.1 6 (by omega) (by omega) (by omega)).trans h1.1, fun j hj => (r_run_o 161 _ h2 j hj).trans (h1.2 j hj)⟩
  · exact h1
theorem r_wl_o : ∀ (l : List Nat) (B : Nat) (s : Nat × (Nat → Nat)), q_I B s.2 → B + 63 * l.length ≤ 1000000000 → (q_wl l s).2 6 = s.2 6 + l.length ∧ ∀ j, 264 ≤ j → (q_wl l s).2 j = s.2 j := by
  intro l
  induction l with
  | nil => intro B s _ _; exact ⟨rfl, fun _ _ => rfl⟩
  | cons w l ih =>
    intro B s h hB
    rw [List.length_cons] at hB ⊢
    have h1 := r_wd_o (w := w) h (by omega)
    have h2 := ih (B + 63) (s.1 + (q_wd s.2 w).1, (q_wd s.2 w).2) (q_wd_I h (by omega)).1 (by omega)
    refine ⟨?_, fun j hj => (h2.2 j hj).trans (h1.2 j hj)⟩
    show (q_wl l (s.1 + (q_wd s.2 w).1, (q_wd s.2 w).2)).2 6 = _
    rw [h2.1]
    show (q_wd s.2 w).2 6 + l.length = _
    rw [h1.1]; omega
section RX
variable {B F : Nat} {y : Nat → Nat} {q : d_C} {c : Nat → Nat} {k : Nat}
theorem p1_app {a : Nat} (ha : 33 ≤ a ∧ a ≤ 126) (hk : k < 60) (ht : r_tx k c q.2.2.2) : ∃ t, f_X3_append F q (nI a) = some (.inr (nI (k + 1), (q.1, q.2.1, q.2.2.1, t))) ∧ r_tx (k + 1) (q_u c k a) t := by
  obtain ⟨h1, h2, h3⟩ := ht
  obtain ⟨z, tr, sv, ⟨sg, ln, ws, rs, ps⟩⟩ := q
  have h2' : ln = nI k := h2
  subst h2'
  refine ⟨(upd sg k (nI a), nI (k + 1), ws, rs, ps), ?_, by omega, rfl, fun i hi => ?_⟩
  · unfold f_X3_append
    rw [show (33 : Int32) = nI 33 from rfl, show (126 : Int32) = nI 126 from rfl, r_in1 (by omega) ha.1 ha.2, q_bind, if_neg (show ¬ nI 1 = 0 from r_n10), q_ch16 a (by omega)]
    simp only []
    rw [if_pos (by rw [show (60 : Int32) = nI 60 from rfl, n_lt (by omega) (by omega)]; exact hk)]
    unfold f_X0_addSign
    simp (disch := first | omega | assumption) only [n_l0, n_l1, n_l2, n_l3, n_l4, n_l5, n_l6, n_l7, n_l8, n_l9, n_l10, n_l11, n_l12, n_l13, n_l14, n_l15, n_l16, n_l17, n_l18, n_l19, n_l20, n_l21, n_l22, n_l23, n_l24, n_l25, n_l30, n_l31, n_l33, n_l48, n_l49, n_l57, n_l60, n_l100, n_l114, n_l115, n_l126, n_l200, n_l214, n_l239, n_l264, n_l294, n_l400, n_l1000, n_l1470, n_l5000, n_l1000000, n_o, n_nM, n_lt, n_le, q_g, n_C, q_let, n_add]
    rw [if_neg (by omega), if_neg (by omega), q_bind, q_chI a (by omega)]
  · show upd sg k (nI a) i = nI (q_u c k a i) ∧ q_u c k a i < 128
    unfold upd q_u
    by_cases e : i = k
    · rw [if_pos e, if_pos e]; exact ⟨rfl, by omega⟩
    · rw [if_neg e, if_neg e]; exact h3 i (by omega)
theorem p1_work (hF : 3000 ≤ F) (hR : r_I B y) (hB : B + 20000 ≤ 1000000000) (hq : q.1 = q_z y) (hS : r_sv 1 q.2.2.1) (ht : r_tx k c q.2.2.2) (hs : q_sc c k = 1 ∨ q_sc c k = 3 ∨ q_sc c k = 4) (hd : (r_dl c k).length ≤ 200) (h6 : y 6 + (r_dl c k).length ≤ 1000) : ∃ q', f_X3_work F q = some (.inr (nI (q_wl (r_dl c k) (0, y)).1, q')) ∧ r_rel (B + 20000) (q_wl (r_dl c k) (0, y)).2 q' := by
  obtain ⟨t6, t7, t9⟩ := ht
  have hI := hR.1
  have hy6 := hI.2.2.2.2.2.2.1
  have e1 := q1_ic (F := F) hF t7 t6 t9
  have hcm : q_cm1 (q_sc c k) = 1 := if_pos hs
  have hsc : q_sc c k ≠ 5 := by omega
  obtain ⟨W, R, p1, p2⟩ := q1_rp (F := F) hF t7 t6 t9 hsc
  obtain ⟨b1, -, -, b4⟩ := q_tp_b k hsc
  have hlen := q_ds_len (q_tp c k).2.1 (q_tp c k).2.2 (q_tp c k).1
  have hlen' : (r_dl c k).length = q_sum (q_tp c k).2.2 (q_tp c k).1 := hlen
  obtain ⟨v, k1, k2⟩ := r_keep (F := F) (q := (q.1, q.2.1, q.2.2.1, (q.2.2.2.1, nI k, W, R, nI (q_tp c k).1))) hI hq (r_sv0 hS)
  have c1 := q1_wpL (F := F) hF (show (q_tp c k).1 ≤ 60 by omega) (fun j hj => ⟨(b4 j hj).1, (b4 j hj).2.1⟩) (tr := q.2.1) (sv := v) (t := (q.2.2.2.1, nI k, W, R, nI (q_tp c k).1)) rfl p2 hI (by omega) (q_tp c k).1 F 0 (by omega) (by omega)
  have c1' : f_X3_work_L75 F F (nI 0) (nI 0) (q_z y, q.2.1, v, (q.2.2.2.1, nI k, W, R, nI (q_tp c k).1)) = _ := c1
  have hR' := r_wl_I (r_dl c k) B (0, y) hR (by omega)
  refine ⟨(q_z (q_wl (r_dl c k) (0, y)).2, q.2.1, v, (q.2.2.2.1, nI 0, W, R, nI (q_tp c k).1)), ?_, ⟨q_I_mono hR'.1 (show _ ≤ B + 20000 by omega) hB, hR'.2⟩, rfl, k2, rfl⟩
  unfold f_X3_work
  rw [e1, q_bind, hcm]
  simp only [n_l0, n_l1, n_l2, n_l3, n_l4, n_l5, n_l6, n_l7, n_l8, n_l9, n_l10, n_l11, n_l12, n_l13, n_l14, n_l15, n_l16, n_l17, n_l18, n_l19, n_l20, n_l21, n_l22, n_l23, n_l24, n_l25, n_l30, n_l31, n_l33, n_l48, n_l49, n_l57, n_l60, n_l100, n_l114, n_l115, n_l126, n_l200, n_l214, n_l239, n_l264, n_l294, n_l400, n_l1000, n_l1470, n_l5000, n_l1000000, n_o, n_nM]
  rw [if_neg r_n10, p1, q_bind, q_let]
  simp only []
  rw [if_neg (by rw [n_lt (by omega) (by omega)]; omega), hq, q_zk, n_add, if_pos (by rw [n_le (by omega) (by omega)]; omega)]
  rw [← hq, k1, q_bind, q_let]
  simp only [n_l0, n_l1, n_l2, n_l3, n_l4, n_l5, n_l6, n_l7, n_l8, n_l9, n_l10, n_l11, n_l12, n_l13, n_l14, n_l15, n_l16, n_l17, n_l18, n_l19, n_l20, n_l21, n_l22, n_l23, n_l24, n_l25, n_l30, n_l31, n_l33, n_l48, n_l49, n_l57, n_l60, n_l100, n_l114, n_l115, n_l126, n_l200, n_l214, n_l239, n_l264, n_l294, n_l400, n_l1000, n_l1470, n_l5000, n_l1000000, n_o, n_nM]
  rw [c1', q_bind]
  simp only [q_let]
  rfl
end RX
