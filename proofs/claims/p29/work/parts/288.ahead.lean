/-! what would be: up to the top, the best length, the dry days, the stock -/
section RI
variable {F : Nat} {u u' : d_W}
theorem r_ipl (h4 : u.2.2.2.2 = u'.2.2.2.2) (c : Int32) : f_L_places F u c = f_L_places F u' c := by
  unfold f_L_places; rw [h4]
theorem r_itop (h1 : u.1 = u'.1) (h4 : u.2.2.2.2 = u'.2.2.2.2) (a : Int32) : f_L_top F u a = f_L_top F u' a := by
  have k : ∀ n v w, f_L_top_L5 F u a n v w = f_L_top_L5 F u' a n v w := by
    intro n
    induction n with
    | zero => intro v w; rfl
    | succ n ih =>
      intro v w
      unfold f_L_top_L5
      rw [h1, h4]
      simp only [ih]
  unfold f_L_top
  rw [k]
theorem r_inext (h1 : u.1 = u'.1) (h2 : u.2.2.1 = u'.2.2.1) (h4 : u.2.2.2.2 = u'.2.2.2.2) : f_L_next F u = f_L_next F u' := by
  have hl : f_L_longest F u = f_L_longest F u' := by unfold f_L_longest; rw [h1, h4]
  have k : ∀ n v, f_L_next_L6 F u n v = f_L_next_L6 F u' n v := by
    intro n
    induction n with
    | zero => intro v; rfl
    | succ n ih =>
      intro v
      unfold f_L_next_L6
      rw [h2, h4]
      simp only [ih, r_ipl h4]
  unfold f_L_next
  rw [hl]
  simp only [k]
end RI
section RA
variable {B F : Nat} {y : Nat → Nat} {q : d_C}
theorem p5_ttL (hI : q_I B y) (h61 : y 2 ≤ 61) {v : Nat} (hv : 8 ≤ v ∧ v ≤ 24) : ∀ n k, k ≤ q_ct y v → q_ct y v - k < n →
    ∃ a, f_L_toTop_L16 F (r_W y) (nI v) n (nI k) (nI (q_pn y k)) (nI (q_top y (y 2) + k * q_ga y v)) = some (nI (q_ct y v), nI (q_pn y (q_ct y v)), a) := by
  have h0 := hI.1
  have h3' := hI.2.2.2.1
  have ht := q_top_le hI (Nat.le_refl _)
  have hc := q_ct_le hI hv.1
  have hg2 := q_ga_le (y := y) hv.2
  intro n
  induction n with
  | zero => intro k _ h; omega
  | succ n ih =>
    intro k hk hn
    have hkm : k * q_ga y v ≤ 400 * 12 := Nat.mul_le_mul (by omega) hg2
    have hlt := q_ct_lt hI (k := k) hv.1
    unfold f_L_toTop_L16
    simp (disch := first | omega | assumption) only [n_l0, n_l1, n_l2, n_l3, n_l4, n_l5, n_l6, n_l7, n_l8, n_l9, n_l10, n_l11, n_l12, n_l13, n_l14, n_l15, n_l16, n_l17, n_l18, n_l19, n_l20, n_l21, n_l22, n_l23, n_l24, n_l25, n_l30, n_l31, n_l33, n_l48, n_l49, n_l57, n_l60, n_l100, n_l114, n_l115, n_l126, n_l200, n_l214, n_l239, n_l264, n_l294, n_l400, n_l1000, n_l1470, n_l5000, n_l1000000, n_o, n_nM, q_g, n_C, r_W4, n_le]
    by_cases e : k = q_ct y v
    · subst e
      refine ⟨nI (q_top y (y 2) + q_ct y v * q_ga y v), ?_⟩
      rw [if_pos]
      have : ¬ (q_top y (y 2) + q_ct y v * q_ga y v < y 0) := by rw [hlt]; omega
      omega
    · have h3 : q_top y (y 2) + k * q_ga y v < y 0 := by rw [hlt]; omega
      rw [if_neg (by omega), n_add, p5_pl (by omega), q_bind, n_sub (by omega), n_div (by omega) (by omega) (by omega), n_add, n_add, n_add]
      obtain ⟨a, ha⟩ := ih (k + 1) (by omega) (by omega)
      refine ⟨a, ?_⟩
      rw [← ha]
      congr 1
      · unfold q_pn q_pl
        congr 1
        rw [Nat.add_mul, Nat.one_mul]; omega
      · rw [Nat.add_mul, Nat.one_mul, Nat.add_assoc]; rfl
theorem p5_tt (hF : 3000 ≤ F) (hI : q_I B y) (h61 : y 2 ≤ 61) {v w : Nat} (hv : 8 ≤ v ∧ v ≤ 24) (hw : w ≤ 1) : f_L_toTop F (r_W y) (nI v) (nI w) = some (if w = 0 then nI (q_ct y v) else nI (q_pn y (q_ct y v))) := by
  have hc := q_ct_le hI hv.1
  obtain ⟨a, ha⟩ := p5_ttL (F := F) hI h61 hv F 0 (by omega) (by omega)
  rw [show q_pn y 0 = 0 by unfold q_pn; omega, Nat.zero_mul, Nat.add_zero] at ha
  unfold f_L_toTop
  simp (disch := first | omega | assumption) only [n_l0, n_l1, n_l2, n_l3, n_l4, n_l5, n_l6, n_l7, n_l8, n_l9, n_l10, n_l11, n_l12, n_l13, n_l14, n_l15, n_l16, n_l17, n_l18, n_l19, n_l20, n_l21, n_l22, n_l23, n_l24, n_l25, n_l30, n_l31, n_l33, n_l48, n_l49, n_l57, n_l60, n_l100, n_l114, n_l115, n_l126, n_l200, n_l214, n_l239, n_l264, n_l294, n_l400, n_l1000, n_l1470, n_l5000, n_l1000000, n_o, n_nM, q_g, n_C, r_W4]
  rw [p5_top hF hI (Nat.le_refl _) h61, q_bind, ha, q_bind]
  simp (disch := first | omega | assumption) only [n_eq]
  split <;> rfl
theorem p5_btL (hF : 3000 ≤ F) (hI : q_I B y) (h61 : y 2 ≤ 61) (htl : q_top y (y 2) < y 0) (ev : d_Z) : ∀ n k b, 7 ≤ k → k < q_lo y → k < n → q_best y (k + 1) (q_lo y) b →
    ∃ b' o, f_L_ahead_L98 F (q, ev, r_W y) n (nI b) (nI k) = some (nI b', o) ∧ q_best y 8 (q_lo y) b' := by
  have h6 := q_lo_le hI
  have h0 := hI.1
  have ht := q_top_le hI (Nat.le_refl _)
  intro n
  induction n with
  | zero => intro k b _ _ h; omega
  | succ n ih =>
    intro k b h7 hk hn hb
    conv => enter [1, b', 1, o, 1, 1]; unfold f_L_ahead_L98
    simp (disch := first | omega | assumption) only [n_l0, n_l1, n_l2, n_l3, n_l4, n_l5, n_l6, n_l7, n_l8, n_l9, n_l10, n_l11, n_l12, n_l13, n_l14, n_l15, n_l16, n_l17, n_l18, n_l19, n_l20, n_l21, n_l22, n_l23, n_l24, n_l25, n_l30, n_l31, n_l33, n_l48, n_l49, n_l57, n_l60, n_l100, n_l114, n_l115, n_l126, n_l200, n_l214, n_l239, n_l264, n_l294, n_l400, n_l1000, n_l1470, n_l5000, n_l1000000, n_o, n_nM, n_le, q_g, n_C, r_W4]
    by_cases e : k ≤ 7
    · rw [if_pos e]
      have : k = 7 := by omega
      subst this
      exact ⟨b, _, rfl, hb⟩
    · obtain ⟨b1, b2, b3, b4⟩ := id hb
      have ck := q_co_le hI (v := k) (by omega) (by omega)
      have cb := q_co_le hI (v := b) (by omega) (by omega)
      have hkk : k * k < 2147483648 := Nat.lt_of_le_of_lt (Nat.mul_le_mul (show k ≤ 24 by omega) (show k ≤ 24 by omega)) (by decide)
      have hbb : b * b < 2147483648 := Nat.lt_of_le_of_lt (Nat.mul_le_mul (show b ≤ 24 by omega) (show b ≤ 24 by omega)) (by decide)
      rw [if_neg e, p5_top hF hI (Nat.le_refl _) h61]
      simp only [q_bind]
      rw [if_neg (by rw [n_le (by omega) (by omega)]; omega), if_neg (by rw [n_lt (by omega) (by omega)]; omega)]
      have t1 := p5_tt (F := F) (w := 1) hF hI h61 (v := k) ⟨by omega, by omega⟩ (by omega)
      have t2 := p5_tt (F := F) (w := 1) hF hI h61 (v := b) ⟨by omega, by omega⟩ (by omega)
      rw [if_neg (by omega)] at t1 t2
      rw [t1, t2]
      simp (disch := first | omega | assumption) only [q_bind, n_mul, n_div]
      have e1 : q_pn y (q_ct y k) * (k * k / 16) = q_co y k := rfl
      have e2 : q_pn y (q_ct y b) * (b * b / 16) = q_co y b := rfl
      rw [e1, e2]
      simp (disch := first | omega | assumption) only [n_le]
      obtain ⟨k, rfl⟩ : ∃ j, k = j + 1 := ⟨k - 1, by omega⟩
      rw [n_sM]
      by_cases e3 : q_co y b ≤ q_co y (k + 1)
      · rw [if_pos e3]
        refine ih k b (by omega) (by omega) (by omega) ⟨by omega, b2, fun v a c => ?_, b4⟩
        by_cases ev2 : v = k + 1
        · rw [ev2]; exact e3
        · exact b3 v (by omega) c
      · rw [if_neg e3]
        refine ih k (k + 1) (by omega) (by omega) (by omega) ⟨by omega, by omega, fun v a c => ?_, fun v a c => ?_⟩
        · by_cases ev2 : v = k + 1
          · rw [ev2]; exact Nat.le_refl _
          · have := b3 v (by omega) c; omega
        · have := b3 v (by omega) c; omega
theorem p5_ddL (hF : 3000 ≤ F) (Y : d_A) : ∀ m (s : Nat → Nat) B k n, r_I B s → B + 63 * (m + 1) ≤ 1000000000 → k + m = 201 → m < n →
    ∃ s' : Nat → Nat, f_L_ahead_L259 F n (nI k) (Y, r_W s) = some (nI (k + q_fd m s), (Y, r_W s')) := by
  intro m
  induction m with
  | zero =>
    intro s B k n hI hB hd hn
    refine ⟨s, ?_⟩
    obtain ⟨n, rfl⟩ : ∃ k, n = k + 1 := ⟨n - 1, by omega⟩
    unfold f_L_ahead_L259
    rw [if_pos (by rw [show (201 : Int32) = nI 201 from rfl, n_le (by omega) (by omega)]; omega)]
    rfl
  | succ m ih =>
    intro s B k n hI hB hd hn
    obtain ⟨n, rfl⟩ : ∃ k, n = k + 1 := ⟨n - 1, by omega⟩
    have h61 : s 2 ≤ 61 := by have := hI.2.2; omega
    have hw := r_wd_I (w := 0) hI (by omega)
    have hdn := q_dn_le s
    have e0 : q_fd (m + 1) s = if q_dn s = 1 then 0 else q_fd m (q_wd s 0).2 + 1 := rfl
    unfold f_L_ahead_L259
    simp only []
    rw [if_neg (by rw [show (201 : Int32) = nI 201 from rfl, n_le (by omega) (by omega)]; omega), p5_done hF hI.1 h61, q_bind]
    simp (disch := first | omega | assumption) only [n_l0, n_l1, n_l2, n_l3, n_l4, n_l5, n_l6, n_l7, n_l8, n_l9, n_l10, n_l11, n_l12, n_l13, n_l14, n_l15, n_l16, n_l17, n_l18, n_l19, n_l20, n_l21, n_l22, n_l23, n_l24, n_l25, n_l30, n_l31, n_l33, n_l48, n_l49, n_l57, n_l60, n_l100, n_l114, n_l115, n_l126, n_l200, n_l214, n_l239, n_l264, n_l294, n_l400, n_l1000, n_l1470, n_l5000, n_l1000000, n_o, n_nM, n_eq]
    by_cases ed : q_dn s = 1
    · refine ⟨s, ?_⟩
      rw [if_neg (by omega), e0, if_pos ed]
      rfl
    · obtain ⟨x, g1, g2⟩ := p5_wd (F := F) (w := 0) hF hI (by omega) (by omega)
      rw [if_pos (by omega), g1, q_bind, q_let]
      simp only []
      rw [g2, q_bind, q_let, n_add]
      rw [if_neg ed] at e0
      obtain ⟨s', h1⟩ := ih (q_wd s 0).2 (B + 63) (k + 1) n hw (by omega) (by omega) (by omega)
      refine ⟨s', ?_⟩
      show f_L_ahead_L259 F n (nI (k + 1)) (Y, r_W (q_wd s 0).2) = _
      rw [h1, e0]
      congr 3
      omega
theorem r_r1_I (hR : r_I B y) (h : q_top y (y 2) < y 0 ∧ y 2 < 100 ∧ q_nl y ≠ 0) : r_I B (q_r1 y) := by
  have h1 := q_r1_I hR.1 h
  have h2 := r_top_ge hR.1
  have h3 := hR.2.1
  have h4 := q_nl_le hR.1
  refine ⟨h1.1, ?_, by rw [h1.2.1]; omega⟩
  have e : q_r1 y 0 = y 0 := by
    unfold q_r1
    rw [q_bg_o (by omega) (by omega) (by omega), q_u_ne (by omega)]
  rw [e]; exact h3
theorem r_rr_I : ∀ m (y : Nat → Nat), r_I B y → r_I B (q_rr m y) := by
  intro m
  induction m with
  | zero => intro y h; exact h
  | succ m ih =>
    intro y h
    have e0 : q_rr (m + 1) y = if q_top y (y 2) < y 0 ∧ y 2 < 100 ∧ q_nl y ≠ 0 then q_rr m (q_r1 y) else y := rfl
    rw [e0]
    split
    · rename_i hc; exact ih _ (r_r1_I h hc)
    · exact h
theorem p5_reL (hF : 3000 ≤ F) (Y : d_A) (g h : d_Z) {n0 : Nat} : ∀ m (s : Nat → Nat) n, r_I B s → n0 ≤ s 2 → 100 - s 2 ≤ m → m < n →
    f_L_ahead_L356 F n (q_rx n0 s) (Y, (r_a s 14 61, g, r_a s 214 25, h, r_a s 0 14)) = some (q_rx n0 (q_rr m s), (Y, (r_a (q_rr m s) 14 61, g, r_a (q_rr m s) 214 25, h, r_a (q_rr m s) 0 14))) := by
  intro m
  induction m with
  | zero =>
    intro s n hR h0 hm hn
    have := hR.2.2
    omega
  | succ m ih =>
    intro s n hR h0 hm hn
    obtain ⟨n, rfl⟩ : ∃ k, n = k + 1 := ⟨n - 1, by omega⟩
    have hI := hR.1
    have h2 := hR.2.2
    have h50 := hR.2.1
    have ht := q_top_le hI (Nat.le_refl _)
    have hnl := q_nl_le hI
    have e0 : q_rr (m + 1) s = if q_top s (s 2) < s 0 ∧ s 2 < 100 ∧ q_nl s ≠ 0 then q_rr m (q_r1 s) else s := rfl
    have htop : f_L_top F (r_a s 14 61, g, r_a s 214 25, h, r_a s 0 14) (nI (s 2)) = some (nI (q_top s (s 2))) := (r_itop (u := (r_a s 14 61, g, r_a s 214 25, h, r_a s 0 14)) (u' := r_W s) rfl rfl _).trans (p5_top hF hI (Nat.le_refl _) (by omega))
    have hnx : f_L_next F (r_a s 14 61, g, r_a s 214 25, h, r_a s 0 14) = some (nI (q_nl s)) := (r_inext (u := (r_a s 14 61, g, r_a s 214 25, h, r_a s 0 14)) (u' := r_W s) rfl rfl rfl).trans (p5_nl hF hI (by omega))
    have hpl : f_L_places F (r_a s 14 61, g, r_a s 214 25, h, r_a s 0 14) (nI (s 2)) = some (nI (q_pl s (s 2))) := (r_ipl (u := (r_a s 14 61, g, r_a s 214 25, h, r_a s 0 14)) (u' := r_W s) rfl _).trans (p5_pl (by omega))
    unfold f_L_ahead_L356
    simp (disch := first | omega | assumption) only [n_l0, n_l1, n_l2, n_l3, n_l4, n_l5, n_l6, n_l7, n_l8, n_l9, n_l10, n_l11, n_l12, n_l13, n_l14, n_l15, n_l16, n_l17, n_l18, n_l19, n_l20, n_l21, n_l22, n_l23, n_l24, n_l25, n_l30, n_l31, n_l33, n_l48, n_l49, n_l57, n_l60, n_l100, n_l114, n_l115, n_l126, n_l200, n_l214, n_l239, n_l264, n_l294, n_l400, n_l1000, n_l1470, n_l5000, n_l1000000, n_o, n_nM, q_g, n_C, r_ak, Nat.zero_add, htop, q_bind, n_le]
    by_cases e2 : q_top s (s 2) < s 0
    · rw [if_neg (by omega), hnx, q_bind]
      simp (disch := first | omega | assumption) only [n_le]
      by_cases e3 : q_nl s = 0
      · rw [if_pos (by omega), e0, if_neg (fun q => q.2.2 e3)]
      · have hc : q_top s (s 2) < s 0 ∧ s 2 < 100 ∧ q_nl s ≠ 0 := ⟨e2, by omega, e3⟩
        have h9 := q_nx_le (y := s) (P := q_pl s (s 2)) (q_lo s)
        have h10 : q_pl s (s 2) ≤ s (214 + q_nl s) := (h9.2 e3).2
        have h8 : 8 ≤ q_nl s := (h9.2 e3).1
        have h1 := q_r1_I hI hc
        have hR1 := r_r1_I hR hc
        have e5 : q_rx n0 (q_r1 s) = nI (q_nl s) := by
          unfold q_rx
          rw [if_neg (by rw [h1.2.1]; omega), h1.2.2.1]
        have er : q_r1 s = q_u (q_u (q_u (q_u s (214 + q_nl s) (s (214 + q_nl s) - q_pl s (s 2))) (14 + s 2) (q_nl s)) (114 + s 2) 0) 2 (s 2 + 1) := by
          unfold q_r1 q_bg
          rw [show q_u s (214 + q_nl s) (s (214 + q_nl s) - q_pl s (s 2)) 2 = s 2 from q_u_ne (by omega)]
        have c0 : r_a (q_u s (14 + s 2) (q_nl s)) 14 61 = r_a (q_r1 s) 14 61 := r_cg (fun k hk => by
          rw [er]; unfold q_u; repeat' split
          all_goals first | rfl | (exfalso; omega))
        have c2 : r_a (q_u s (214 + q_nl s) (s (214 + q_nl s) - q_pl s (s 2))) 214 25 = r_a (q_r1 s) 214 25 := r_cg (fun k hk => by
          rw [er]; unfold q_u; repeat' split
          all_goals first | rfl | (exfalso; omega))
        have c4 : r_a (q_u s (0 + 2) (s 2 + 1)) 0 14 = r_a (q_r1 s) 0 14 := r_cg (fun k hk => by
          rw [er]; unfold q_u; repeat' split
          all_goals first | rfl | (exfalso; omega))
        rw [if_neg (by omega), q_bind, hpl, q_bind]
        simp (disch := first | omega | assumption) only [q_g, n_C, r_ak, Nat.zero_add, n_sub, q_let, n_add]
        rw [r_au (by omega), r_au (by omega), r_au (by omega), c0, c2, c4, e0, if_pos hc, ← e5]
        exact ih (q_r1 s) n hR1 (by rw [h1.2.1]; omega) (by rw [h1.2.1]; omega) (by omega)
    · rw [if_pos (by omega), e0, if_neg (fun q => e2 q.1)]
end RA
