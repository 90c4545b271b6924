/-! all that would be, beside the class -/
section RA
variable {B F : Nat} {y : Nat → Nat} {q : d_C}
theorem p5_best (hF : 3000 ≤ F) (hI : q_I B y) (h61 : y 2 ≤ 61) (hq : q.1 = q_z y) (ev : d_Z) : ∃ r o, f_X3_bestLength F q = some r ∧ f_L_ahead_L98 F (q, ev, r_W y) F nM (nI (q_lo y)) = some (r, o) := by
  have h6 := q_lo_le hI
  have h0 := hI.1
  have ht := q_top_le hI (Nat.le_refl _)
  obtain ⟨r, g1, g2, g3⟩ := p1_best (F := F) hF hI hq
  obtain ⟨G, hG⟩ : ∃ G, F = G + 1 := ⟨F - 1, by omega⟩
  by_cases e : q_top y (y 2) < y 0
  · obtain ⟨b, rfl, hb⟩ := g2 e
    obtain ⟨l, hl⟩ : ∃ l, q_lo y = l + 1 := ⟨q_lo y - 1, by omega⟩
    obtain ⟨b', o, k1, k2⟩ := p5_btL (F := F) (q := q) hF hI h61 e ev G l (q_lo y) (by omega) (by omega) (by omega) ⟨by omega, by omega, fun v a c => by rw [show v = q_lo y by omega]; exact Nat.le_refl _, fun v a c => by omega⟩
    refine ⟨nI b, o, g1, ?_⟩
    have h1 : f_L_ahead_L98 F (q, ev, r_W y) (G + 1) nM (nI (q_lo y)) = f_L_ahead_L98 F (q, ev, r_W y) G (nI (q_lo y)) (nI l) := by
      conv => lhs; unfold f_L_ahead_L98
      simp (disch := first | omega | assumption) only [n_l0, n_l1, n_l2, n_l3, n_l4, n_l5, n_l6, n_l7, n_l8, n_l9, n_l10, n_l11, n_l12, n_l13, n_l14, n_l15, n_l16, n_l17, n_l18, n_l19, n_l20, n_l21, n_l22, n_l23, n_l24, n_l25, n_l30, n_l31, n_l33, n_l48, n_l49, n_l57, n_l60, n_l100, n_l114, n_l115, n_l126, n_l200, n_l214, n_l239, n_l264, n_l294, n_l400, n_l1000, n_l1470, n_l5000, n_l1000000, n_o, n_nM, n_le, q_g, n_C, r_W4]
      rw [if_neg (by omega), p5_top hF hI (Nat.le_refl _) h61]
      simp (disch := first | omega | assumption) only [q_bind, n_le]
      rw [if_neg (by omega), if_pos (by decide), hl, n_sM]
    have h2 : f_L_ahead_L98 F (q, ev, r_W y) F nM (nI (q_lo y)) = f_L_ahead_L98 F (q, ev, r_W y) (G + 1) nM (nI (q_lo y)) := by rw [← hG]
    rw [h2, h1, k1, q_best_u k2 hb]
  · have hr := g3 e
    subst hr
    refine ⟨nM, nI (q_lo y), g1, ?_⟩
    have h2 : f_L_ahead_L98 F (q, ev, r_W y) F nM (nI (q_lo y)) = f_L_ahead_L98 F (q, ev, r_W y) (G + 1) nM (nI (q_lo y)) := by rw [← hG]
    rw [h2]
    conv => lhs; unfold f_L_ahead_L98
    simp (disch := first | omega | assumption) only [n_l0, n_l1, n_l2, n_l3, n_l4, n_l5, n_l6, n_l7, n_l8, n_l9, n_l10, n_l11, n_l12, n_l13, n_l14, n_l15, n_l16, n_l17, n_l18, n_l19, n_l20, n_l21, n_l22, n_l23, n_l24, n_l25, n_l30, n_l31, n_l33, n_l48, n_l49, n_l57, n_l60, n_l100, n_l114, n_l115, n_l126, n_l200, n_l214, n_l239, n_l264, n_l294, n_l400, n_l1000, n_l1470, n_l5000, n_l1000000, n_o, n_nM, n_le, q_g, n_C, r_W4]
    rw [if_neg (by omega), p5_top hF hI (Nat.le_refl _) h61]
    simp (disch := first | omega | assumption) only [q_bind, n_le]
    rw [if_pos (by omega)]
set_option maxHeartbeats 4000000 in
theorem p5_ahead (hF : 3000 ≤ F) (h : r_rel B y q) (hB : B + 20000 ≤ 1000000000) (x : Int32) : ∃ q', f_L_ahead F (q, r_a y 264 25, r_W y) x = some (nI 1, (q', r_a y 264 25, r_W y)) ∧ r_rel B y q' := by
  obtain ⟨hR, hq, hS, hT⟩ := id h
  have hI := hR.1
  have h2 := hR.2.2
  have h61 : y 2 ≤ 61 := by omega
  have h6 := q_lo_le hI
  obtain ⟨j, hj, hat⟩ := p5_at (F := F) (n := 17) (by omega) (by omega) x
  have hv : 8 ≤ 8 + j ∧ 8 + j ≤ 24 := by omega
  have hct := q_ct_le hI hv.1
  obtain ⟨r, o, hb1, hb2⟩ := p5_best (F := F) hF hI h61 hq (r_a y 264 25)
  have hpre : ∀ (w : Nat) (K : Int32 → Option (Int32 × d_A)), w ≤ 1 → ((if nI (if 8 + j ≤ q_lo y then 1 else 0) = nI 0 then some nM else (f_L_toTop F (r_W y) (nI (8 + j)) (nI w)).bind fun x => some x)).bind K = K (if 8 + j ≤ q_lo y then (if w = 0 then nI (q_ct y (8 + j)) else nI (q_pn y (q_ct y (8 + j)))) else nM) := by
    intro w K hw
    by_cases e : 8 + j ≤ q_lo y
    · rw [if_pos e, if_neg r_n10, p5_tt hF hI h61 hv hw, if_pos e]; rfl
    · rw [if_neg e, if_pos rfl, if_neg e]; rfl
  have hj5 : (if nI (q_lo y) < nI (8 + j) then some (nI 0) else some (nI 1)) = some (nI (if 8 + j ≤ q_lo y then 1 else 0)) := by
    by_cases e : 8 + j ≤ q_lo y
    · rw [if_pos e, if_neg (by rw [n_lt (by omega) (by omega)]; omega)]
    · rw [if_neg e, if_pos (by rw [n_lt (by omega) (by omega)]; omega)]
  -- the dry days
  have hs9 : r_I B (q_u y 9 0) := ⟨q_set_I hI (Nat.le_refl _) (by omega) (by omega), by rw [q_u_ne (by omega)]; exact hR.2.1, by rw [q_u_ne (by omega)]; exact hR.2.2⟩
  have hfd := q_fd_le 201 (q_u y 9 0)
  obtain ⟨s', hdd⟩ := p5_ddL (F := F) hF (q, r_a y 264 25, r_W y) 201 (q_u y 9 0) B 0 F hs9 (by omega) (by omega) (by omega)
  rw [Nat.zero_add] at hdd
  obtain ⟨tr, hd1⟩ := q1_dd (F := F) hF hI hB hq
  have hjd : ∀ (K : Int32 → Option (Int32 × d_A)), ((if nI (q_fd 201 (q_u y 9 0)) ≤ nI 200 then some (nI (q_fd 201 (q_u y 9 0))) else some nM)).bind K = K (if q_fd 201 (q_u y 9 0) ≤ 200 then nI (q_fd 201 (q_u y 9 0)) else nM) := by
    intro K
    by_cases e : q_fd 201 (q_u y 9 0) ≤ 200
    · rw [if_pos e, if_pos (by rw [n_le (by omega) (by omega)]; exact e)]; rfl
    · rw [if_neg e, if_neg (by rw [n_le (by omega) (by omega)]; exact e)]; rfl
  -- the stock
  have hrr := r_rr_I 100 y hR
  have hr2 := (q_rr_I 100 y hI).2
  have hre := p5_reL (F := F) hF ((q.1, tr, q.2.2), r_a y 264 25, r_W y) (r_a s' 114 61) (r_a s' 239 25) (n0 := y 2) 100 y F hR (Nat.le_refl _) (by omega) (by omega)
  rw [show q_rx (y 2) y = nM from if_pos rfl] at hre
  obtain ⟨t0, hc0⟩ := q1_re (F := F) (q := (q.1, tr, q.2.2)) (w := 0) hF hI hq (by omega)
  obtain ⟨t1, hc1⟩ := q1_re (F := F) (q := (q.1, t0, q.2.2)) (w := 1) hF hI hq (by omega)
  obtain ⟨t2, hc2⟩ := q1_re (F := F) (q := (q.1, t1, q.2.2)) (w := 2) hF hI hq (by omega)
  obtain ⟨t3, hc3⟩ := q1_re (F := F) (q := (q.1, t2, q.2.2)) (w := 3) hF hI hq (by omega)
  have htop : f_L_top F (r_a (q_rr 100 y) 14 61, r_a s' 114 61, r_a (q_rr 100 y) 214 25, r_a s' 239 25, r_a (q_rr 100 y) 0 14) (nI (q_rr 100 y 2)) = some (nI (q_top (q_rr 100 y) (q_rr 100 y 2))) := (r_itop (u := (r_a (q_rr 100 y) 14 61, r_a s' 114 61, r_a (q_rr 100 y) 214 25, r_a s' 239 25, r_a (q_rr 100 y) 0 14)) (u' := r_W (q_rr 100 y)) rfl rfl _).trans (p5_top hF hrr.1 (Nat.le_refl _) (by have := hrr.2.2; omega))
  have hall := p5_all (F := F) (y := q_rr 100 y) hF (off := 214) (fun v h => ((hrr.1.2.2.2.2.2.2.2.2.2.2.2.2.2.1 v (by omega)).2.2.2 h).1)
  have hr3 := hrr.2.2
  refine ⟨(q.1, t3, q.2.2), ?_, hR, hq, hS, hT⟩
  unfold f_L_ahead
  rw [show (17 : Int32) = nI 17 from rfl, hat, q_bind, p5_lo hI h61, q_bind]
  simp only [n_l0, n_l1, n_l2, n_l3, n_l4, n_l5, n_l6, n_l7, n_l8, n_l9, n_l10, n_l11, n_l12, n_l13, n_l14, n_l15, n_l16, n_l17, n_l18, n_l19, n_l20, n_l21, n_l22, n_l23, n_l24, n_l25, n_l30, n_l31, n_l33, n_l48, n_l49, n_l57, n_l60, n_l100, n_l114, n_l115, n_l126, n_l200, n_l214, n_l239, n_l264, n_l294, n_l400, n_l1000, n_l1470, n_l5000, n_l1000000, n_o, n_nM, n_add]
  rw [hj5, q_bind, r_nt (p1_tt (w := 0) hF hI hq hv (by omega)), hpre 0 _ (by omega), if_pos rfl, r_nt (p1_tt (w := 1) hF hI hq hv (by omega)), hpre 1 _ (by omega), if_pos rfl, q_bind, hb2, q_bind, hb1, q_bind, if_pos rfl]
  simp (disch := first | omega | assumption) only [q_let, q_g, n_C]
  rw [r_U4 (by omega), hdd, q_bind]
  simp only []
  rw [hd1, q_bind]
  simp only []
  rw [hjd, if_pos rfl]
  have hsh : (((q.1, tr, q.2.2), r_a y 264 25, r_W y), ((r_W y).1, (r_W s').2.1, (r_W y).2.2.1, (r_W s').2.2.2.1, (r_W y).2.2.2.2)) = ((((q.1, tr, q.2.2), r_a y 264 25, r_W y), (r_a y 14 61, r_a s' 114 61, r_a y 214 25, r_a s' 239 25, r_a y 0 14)) : d_X) := rfl
  rw [hsh, hre, q_bind]
  simp only []
  rw [r_nt hc0]
  simp (disch := first | omega | assumption) only [r_ak, Nat.zero_add, r_W4, n_sub]
  rw [show q_rv y 0 = nI (q_rr 100 y 2 - y 2) from rfl, if_pos rfl, r_nt hc1]
  simp (disch := first | omega | assumption) only [r_ak, Nat.zero_add, htop, q_bind]
  rw [show q_rv y 1 = nI (q_top (q_rr 100 y) (q_rr 100 y 2)) from rfl, if_pos rfl, r_nt hc2]
  simp (disch := first | omega | assumption) only [hall, q_bind]
  rw [show q_rv y 2 = nI (q_sum (fun v => q_rr 100 y (214 + v)) 25) from rfl, if_pos rfl, r_nt hc3]
  simp only []
  rw [show q_rv y 3 = q_rx (y 2) (q_rr 100 y) from rfl, if_pos rfl]
end RA
