/-! each action, beside the class -/
def r_ok (B : Nat) (y : Nat → Nat) (o : Option (Int32 × d_A)) : Prop := ∃ q' y', o = some (nI 1, (q', r_a y' 264 25, r_W y')) ∧ r_rel (B + 20000) y' q' ∧ y' 6 ≤ y 6 + 36 ∧ q_sum (fun v => y' (264 + v)) 25 ≤ q_sum (fun v => y (264 + v)) 25 + 60
theorem r_Wcg {y u : Nat → Nat} (h : ∀ j, j < 264 → y j = u j) : r_W y = r_W u := by
  unfold r_W
  rw [r_cg (fun k hk => h (14 + k) (by omega)), r_cg (fun k hk => h (114 + k) (by omega)), r_cg (fun k hk => h (214 + k) (by omega)), r_cg (fun k hk => h (239 + k) (by omega)), r_cg (y := y) (u := u) (off := 0) (fun k hk => h (0 + k) (by omega))]
section RK
variable {B F : Nat} {y : Nat → Nat} {q : d_C}
theorem r_okS (h : r_rel B y q) (hB : B + 20000 ≤ 1000000000) : r_ok B y (some (nI 1, (q, r_a y 264 25, r_W y))) :=
  ⟨q, y, rfl, ⟨⟨q_I_mono h.1.1 (by omega) hB, h.1.2⟩, h.2⟩, by omega, by omega⟩
theorem r_okI {q' : d_C} {y' : Nat → Nat} {o : Option (Int32 × d_A)} (ho : o = some (nI 1, (q', r_a y 264 25, r_W y'))) (hr : r_rel (B + 20000) y' q') (he : ∀ k, k < 25 → y' (264 + k) = y (264 + k)) (h6 : y' 6 ≤ y 6 + 36) : r_ok B y o := by
  refine ⟨q', y', ?_, hr, h6, ?_⟩
  · rw [ho, r_cg (y := y) (u := y') (fun k hk => (he k hk).symm)]
  · rw [q_sum_cg he]; omega
theorem p5_bought (hI : q_I B y) {a m r : Nat} {s s' : Int32} (ha : 8 ≤ a ∧ a ≤ 24) (hr : r ≤ m) (hm : m ≤ 200) (hb : f_L_bought_L9 F (nI m) F s (nI 0) (nI 0) = some (s', nI r, nI m)) : f_L_bought F (q, r_a y 264 25, r_W y) (nI a) (nI m) s = some (nI r, (q, r_a (q_by y a m r) 264 25, r_W (q_by y a m r))) := by
  have haa : a * a < 2147483648 := Nat.lt_of_le_of_lt (Nat.mul_le_mul ha.2 ha.2) (by decide)
  unfold f_L_bought
  simp only [n_l0, n_l1, n_l2, n_l3, n_l4, n_l5, n_l6, n_l7, n_l8, n_l9, n_l10, n_l11, n_l12, n_l13, n_l14, n_l15, n_l16, n_l17, n_l18, n_l19, n_l20, n_l21, n_l22, n_l23, n_l24, n_l25, n_l30, n_l31, n_l33, n_l48, n_l49, n_l57, n_l60, n_l100, n_l114, n_l115, n_l126, n_l200, n_l214, n_l239, n_l264, n_l294, n_l400, n_l1000, n_l1470, n_l5000, n_l1000000, n_o, n_nM, hb, q_bind]
  simp (disch := first | omega | assumption) only [q_g, n_C, r_W2, n_sub, n_add]
  rw [r_U2 (by omega), q_let]
  simp (disch := first | omega | assumption) only [q_g, n_C, r_W3, q_u_ne, n_add]
  rw [r_U3 (by omega), q_let]
  simp (disch := first | omega | assumption) only [q_g, n_C, r_ak, n_add, n_mul, n_div]
  rw [r_au (by omega), q_let]
  simp (disch := first | omega | assumption) only [q_g, n_C, r_W4, q_u_ne, n_add]
  rw [r_U4 (by omega), q_let]
  have e1 : r_a (q_u y (264 + a) (y (264 + a) + m)) 264 25 = r_a (q_by y a m r) 264 25 := r_cg (fun k hk => by
    unfold q_by q_u; repeat' split
    all_goals first | rfl | (exfalso; omega))
  have e2 : r_W (q_u (q_u (q_u y (214 + a) (y (214 + a) + (m - r))) (239 + a) (y (239 + a) + r)) 13 (y 13 + m * (a * a / 16))) = r_W (q_by y a m r) := r_Wcg (fun k hk => by
    unfold q_by q_pc q_u; repeat' split
    all_goals first | rfl | (exfalso; omega))
  rw [e1, e2]
theorem p5_Abuy (hF : 3000 ≤ F) (h : r_rel B y q) (hB : B + 20000 ≤ 1000000000) (hsum : q_sum (fun v => y (264 + v)) 25 + 60 ≤ 5000) (a1 a2 a3 j3 : Int32) {j : Nat} (hj : j < 17) : r_ok B y (r_Abuy F (q, r_a y 264 25, r_W y) a1 a2 a3 (nI j) j3) := by
  obtain ⟨m, hm, em⟩ := p5_at (F := F) (n := 60) (by omega) (by omega) a3
  obtain ⟨q', s', r, b1, b2, b3, b4⟩ := p1_buy (F := F) (a := 8 + j) (m := 1 + m) hF h hB ⟨by omega, by omega⟩ ⟨by omega, by omega⟩ (a3 - a2) (by omega)
  have hbo := p5_bought (F := F) (q := q') h.1.1 (show 8 ≤ 8 + j ∧ 8 + j ≤ 24 by omega) b3 (by omega) b2
  refine ⟨q', q_by y (8 + j) (1 + m) r, ?_, b4, ?_, ?_⟩
  · unfold r_Abuy
    simp only [n_l0, n_l1, n_l2, n_l3, n_l4, n_l5, n_l6, n_l7, n_l8, n_l9, n_l10, n_l11, n_l12, n_l13, n_l14, n_l15, n_l16, n_l17, n_l18, n_l19, n_l20, n_l21, n_l22, n_l23, n_l24, n_l25, n_l30, n_l31, n_l33, n_l48, n_l49, n_l57, n_l60, n_l100, n_l114, n_l115, n_l126, n_l200, n_l214, n_l239, n_l264, n_l294, n_l400, n_l1000, n_l1470, n_l5000, n_l1000000, n_o, n_nM, em, q_bind, n_add, r_nt b1, q_let, hbo, if_true]
  · unfold q_by
    rw [q_u_ne (by omega), q_u_ne (by omega), q_u_ne (by omega), q_u_ne (by omega)]; omega
  · have e4 : q_by y (8 + j) (1 + m) r (264 + (8 + j)) = y (264 + (8 + j)) + (1 + m) := by unfold q_by; rw [q_u_ne (by omega), q_u_ne (by omega), q_u_ne (by omega), q_u_eq]
    have es : q_sum (fun v => q_by y (8 + j) (1 + m) r (264 + v)) 25 = q_sum (fun v => y (264 + v)) 25 + (1 + m) := q_sum_u (i := 8 + j) (by omega) (fun k hk hn => by
      unfold q_by
      rw [q_u_ne (by omega), q_u_ne (by omega), q_u_ne (by omega), q_u_ne (by omega)]) e4
    rw [es]; omega
theorem p5_Aset (h : r_rel B y q) (hB : B + 20000 ≤ 1000000000) (a1 a2 a3 x2 j3 : Int32) : r_ok B y (r_Aset F (q, r_a y 264 25, r_W y) a1 a2 a3 x2 j3) := by
  obtain ⟨k, hk, ek⟩ := p5_at (F := F) (n := 3) (by omega) (by omega) a2
  obtain ⟨e5, h5, g5⟩ := p5_at (F := F) (n := 5) (by omega) (by omega) a3
  obtain ⟨e60, h60, g60⟩ := p5_at (F := F) (n := 60) (by omega) (by omega) a3
  have hv : ∃ v, (k = 0 ∧ 2 ≤ v ∧ v ≤ 6 ∨ k = 1 ∧ 1 ≤ v ∧ v ≤ 60 ∨ k = 2 ∧ 1 ≤ v ∧ v ≤ 5) ∧ (if nI k = nI 0 then (some (nI e5)).bind fun x303 => some (nI 2 + x303) else ((if nI k = nI 1 then some (nI 60) else some (nI 5))).bind fun j298 => (f_L_at F a3 j298).bind fun x301 => some (nI 1 + x301)) = some (nI v) := by
    rcases (show k = 0 ∨ k = 1 ∨ k = 2 by omega) with rfl | rfl | rfl
    · exact ⟨2 + e5, by omega, by rw [if_pos rfl, q_bind, n_add]⟩
    · exact ⟨1 + e60, by omega, by rw [if_neg (by decide), if_pos rfl, q_bind, g60, q_bind, n_add]⟩
    · exact ⟨1 + e5, by omega, by rw [if_neg (by decide), if_neg (by decide), q_bind, g5, q_bind, n_add]⟩
  obtain ⟨v, hkv, ev⟩ := hv
  obtain ⟨q', s1, s2⟩ := p1_set (F := F) h hB hkv
  refine r_okI (q' := q') (y' := q_u y (3 + k) v) ?_ s2 (fun i hi => q_u_ne (by omega)) (by rw [q_u_ne (by omega)]; omega)
  unfold r_Aset
  simp only [n_l0, n_l1, n_l2, n_l3, n_l4, n_l5, n_l6, n_l7, n_l8, n_l9, n_l10, n_l11, n_l12, n_l13, n_l14, n_l15, n_l16, n_l17, n_l18, n_l19, n_l20, n_l21, n_l22, n_l23, n_l24, n_l25, n_l30, n_l31, n_l33, n_l48, n_l49, n_l57, n_l60, n_l100, n_l114, n_l115, n_l126, n_l200, n_l214, n_l239, n_l264, n_l294, n_l400, n_l1000, n_l1470, n_l5000, n_l1000000, n_o, n_nM, ek, q_bind, n_add]
  simp only [q_bind] at ev
  simp (disch := first | omega | assumption) only [q_g, n_C, r_W4, g5, q_bind, ev]
  rw [r_U4 (by omega), q_let]
  simp (disch := first | omega | assumption) only [q_g, n_C, r_W4, q_u_eq, r_nt s1, q_let, if_true]
theorem p5_Acover (h : r_rel B y q) (hB : B + 20000 ≤ 1000000000) (a1 a2 a3 x2 j3 : Int32) : r_ok B y (r_Acover F (q, r_a y 264 25, r_W y) a1 a2 a3 x2 j3) := by
  obtain ⟨e, he, g⟩ := p5_at (F := F) (n := 3) (by omega) (by omega) a3
  have hv : ∃ v, v ≤ 1 ∧ (if nI e = nI 0 then some (nI 1) else some (nI 0)) = some (nI v) ∧ (if nI v = nI 1 then some (nI 1) else some (nI 0)) = some (nI v) := by
    by_cases c : e = 0
    · exact ⟨1, by omega, by rw [c]; rfl, rfl⟩
    · exact ⟨0, by omega, by rw [if_neg (by rw [n_eq (by omega) (by omega)]; exact c)], rfl⟩
  obtain ⟨v, hv1, e1, e2⟩ := hv
  obtain ⟨q', s1, s2⟩ := p1_cover (F := F) h hB hv1
  refine r_okI (q' := q') (y' := q_u y 9 v) ?_ s2 (fun i hi => q_u_ne (by omega)) (by rw [q_u_ne (by omega)]; omega)
  unfold r_Acover
  simp (disch := first | omega | assumption) only [n_l0, n_l1, n_l2, n_l3, n_l4, n_l5, n_l6, n_l7, n_l8, n_l9, n_l10, n_l11, n_l12, n_l13, n_l14, n_l15, n_l16, n_l17, n_l18, n_l19, n_l20, n_l21, n_l22, n_l23, n_l24, n_l25, n_l30, n_l31, n_l33, n_l48, n_l49, n_l57, n_l60, n_l100, n_l114, n_l115, n_l126, n_l200, n_l214, n_l239, n_l264, n_l294, n_l400, n_l1000, n_l1470, n_l5000, n_l1000000, n_o, n_nM, q_g, n_C, r_W4, g, q_bind, e1]
  rw [r_U4 (by omega), q_let]
  simp (disch := first | omega | assumption) only [q_g, n_C, r_W4, q_u_eq, e2, q_bind, s1, q_let, if_true]
theorem p5_Apass (hF : 3000 ≤ F) (h : r_rel B y q) (hB : B + 20000 ≤ 1000000000) (h6 : y 6 + 36 ≤ 1000) (a1 a2 a3 x2 j3 : Int32) : r_ok B y (r_Apass F (q, r_a y 264 25, r_W y) a1 a2 a3 x2 j3) := by
  obtain ⟨e, he, g⟩ := p5_at (F := F) (n := 4) (by omega) (by omega) a2
  have hv : ∃ w, w ≤ 2 ∧ (if nI e ≤ nI 2 then some (nI e) else some (nI 0)) = some (nI w) := by
    by_cases c : e ≤ 2
    · exact ⟨e, c, by rw [if_pos (by rw [n_le (by omega) (by omega)]; exact c)]⟩
    · exact ⟨0, by omega, by rw [if_neg (by rw [n_le (by omega) (by omega)]; exact c)]⟩
  obtain ⟨w, hw, e1⟩ := hv
  obtain ⟨q', s1, s2⟩ := p1_pass (F := F) hF h hB hw (by omega)
  have hd := p5_day (F := F) hF h.1.1 (by have := h.1.2.2; omega) (by omega) hw
  have ho := r_day_o (w := w) h.1.1 (by omega)
  refine r_okI (q' := q') (y' := (q_day y w).2) ?_ s2 (fun i hi => ho.2 _ (by omega)) (by rw [ho.1]; omega)
  unfold r_Apass
  simp only [n_l0, n_l1, n_l2, n_l3, n_l4, n_l5, n_l6, n_l7, n_l8, n_l9, n_l10, n_l11, n_l12, n_l13, n_l14, n_l15, n_l16, n_l17, n_l18, n_l19, n_l20, n_l21, n_l22, n_l23, n_l24, n_l25, n_l30, n_l31, n_l33, n_l48, n_l49, n_l57, n_l60, n_l100, n_l114, n_l115, n_l126, n_l200, n_l214, n_l239, n_l264, n_l294, n_l400, n_l1000, n_l1470, n_l5000, n_l1000000, n_o, n_nM, g, q_bind, e1, r_nt s1, q_let, hd, if_true]
theorem r_pass7 : r_Apass7 = r_Apass := rfl
theorem p5_Aworks (hF : 3000 ≤ F) (h : r_rel B y q) (hB : B + 20000 ≤ 1000000000) (h6 : y 6 + 36 ≤ 1000) (a1 a2 a3 x2 j3 : Int32) : r_ok B y (r_Aworks F (q, r_a y 264 25, r_W y) a1 a2 a3 x2 j3) := by
  obtain ⟨l, q', g1, g2, g3⟩ := p5_works (F := F) hF h hB h6 (r_a y 264 25) a2 a3
  have ho := r_wl_o l B (0, y) h.1.1 (by omega)
  refine r_okI (q' := q') (y' := (q_wl l (0, y)).2) ?_ g3 (fun i hi => ho.2 _ (by omega)) (by rw [ho.1]; show y 6 + l.length ≤ _; omega)
  unfold r_Aworks
  simp only [n_l0, n_l1, n_l2, n_l3, n_l4, n_l5, n_l6, n_l7, n_l8, n_l9, n_l10, n_l11, n_l12, n_l13, n_l14, n_l15, n_l16, n_l17, n_l18, n_l19, n_l20, n_l21, n_l22, n_l23, n_l24, n_l25, n_l30, n_l31, n_l33, n_l48, n_l49, n_l57, n_l60, n_l100, n_l114, n_l115, n_l126, n_l200, n_l214, n_l239, n_l264, n_l294, n_l400, n_l1000, n_l1470, n_l5000, n_l1000000, n_o, n_nM, g2, q_bind, q_let]
  exact q_fif (Or.inr trivial)
theorem p5_Abegin (hF : 3000 ≤ F) (h : r_rel B y q) (hB : B + 20000 ≤ 1000000000) (a1 a2 a3 x2 j3 : Int32) : r_ok B y (r_Abegin F (q, r_a y 264 25, r_W y) a1 a2 a3 x2 j3) := by
  obtain ⟨e0, h0, g0⟩ := p5_at (F := F) (n := 31) (by omega) (by omega) (a2 >>> (nI 3 &&& nI 31))
  obtain ⟨e1, h1, g1⟩ := p5_at (F := F) (n := 29) (by omega) (by omega) (a3 >>> (nI 3 &&& nI 31))
  have hly := p5_lying (F := F) hF h.1.1 (by have := h.1.2.2; omega)
  obtain ⟨q', s1, s2⟩ := p1_begin (F := F) (a := 20 + e0) (b := 2 + e1) hF h.1.1 h.2.1 (r_sv0 h.2.2.1) h.2.2.2 hB ⟨by omega, by omega⟩ ⟨by omega, by omega⟩
  refine r_okI (q' := q') (y' := q_u (q_u (q_u (q_u y 12 (y 12 + q_on y)) 2 0) 0 (20 + e0)) 1 (2 + e1)) ?_ s2 (fun i hi => by rw [q_u_ne (by omega), q_u_ne (by omega), q_u_ne (by omega), q_u_ne (by omega)]) (by rw [q_u_ne (by omega), q_u_ne (by omega), q_u_ne (by omega), q_u_ne (by omega)]; omega)
  have e2 : r_W (q_u (q_u (q_u (q_u y 12 (y 12 + q_on y)) 0 (20 + e0)) 1 (2 + e1)) 2 0) = r_W (q_u (q_u (q_u (q_u y 12 (y 12 + q_on y)) 2 0) 0 (20 + e0)) 1 (2 + e1)) := r_Wcg (fun k hk => by
    unfold q_u; repeat' split
    all_goals first | rfl | (exfalso; omega))
  have l29 : (29 : Int32) = nI 29 := rfl
  unfold r_Abegin
  simp only [n_l0, n_l1, n_l2, n_l3, n_l4, n_l5, n_l6, n_l7, n_l8, n_l9, n_l10, n_l11, n_l12, n_l13, n_l14, n_l15, n_l16, n_l17, n_l18, n_l19, n_l20, n_l21, n_l22, n_l23, n_l24, n_l25, n_l30, n_l31, n_l33, n_l48, n_l49, n_l57, n_l60, n_l100, n_l114, n_l115, n_l126, n_l200, n_l214, n_l239, n_l264, n_l294, n_l400, n_l1000, n_l1470, n_l5000, n_l1000000, n_o, n_nM, l29] at g0 g1 ⊢
  simp (disch := first | omega | assumption) only [hly, q_bind, q_g, n_C, r_W4, n_add, g0, g1]
  rw [r_U4 (by omega), q_let]
  simp (disch := first | omega | assumption) only [q_g, n_C, r_W4, n_add, g0, g1, q_bind]
  rw [r_U4 (by omega), q_let]
  simp (disch := first | omega | assumption) only [q_g, n_C, r_W4, n_add, g0, g1, q_bind]
  rw [r_U4 (by omega), q_let]
  simp (disch := first | omega | assumption) only [q_g, n_C, r_W4, n_add, g0, g1, q_bind]
  rw [r_U4 (by omega), q_let, e2]
  simp (disch := first | omega | assumption) only [q_g, n_C, r_W4, q_u_eq, q_u_ne, r_nt s1, q_let, if_true]
theorem p5_Acut (h : r_rel B y q) (hB : B + 20000 ≤ 1000000000) (a1 a2 a3 j3 : Int32) {j : Nat} (hj : j < 17) : r_ok B y (r_Acut F (q, r_a y 264 25, r_W y) a1 a2 a3 (nI j) j3) := by
  obtain ⟨t, ht, gt⟩ := p5_at (F := F) (n := 13) (by omega) (by omega) a3
  have hst := (q_st h.1.1 (v := 8 + j) (by omega)).2.1
  unfold r_Acut
  simp (disch := first | omega | assumption) only [n_l0, n_l1, n_l2, n_l3, n_l4, n_l5, n_l6, n_l7, n_l8, n_l9, n_l10, n_l11, n_l12, n_l13, n_l14, n_l15, n_l16, n_l17, n_l18, n_l19, n_l20, n_l21, n_l22, n_l23, n_l24, n_l25, n_l30, n_l31, n_l33, n_l48, n_l49, n_l57, n_l60, n_l100, n_l114, n_l115, n_l126, n_l200, n_l214, n_l239, n_l264, n_l294, n_l400, n_l1000, n_l1470, n_l5000, n_l1000000, n_o, n_nM, gt, q_bind, n_add, n_sub, n_lt, q_g, n_C, r_W3, n_eq, n_le]
  by_cases c1 : 8 + j - 4 < 8 + t
  · rw [if_pos c1]; exact r_okS h hB
  · rw [if_neg c1]
    by_cases c2 : y (239 + (8 + j)) = 0
    · rw [if_pos c2]; exact r_okS h hB
    · rw [if_neg c2]
      have hm : ∃ m, 0 < m ∧ m ≤ 200 ∧ m ≤ y (239 + (8 + j)) ∧ (if y (239 + (8 + j)) ≤ 200 then some (nI (y (239 + (8 + j)))) else some (nI 200)) = some (nI m) := by
        by_cases c3 : y (239 + (8 + j)) ≤ 200
        · exact ⟨y (239 + (8 + j)), by omega, c3, Nat.le_refl _, if_pos c3⟩
        · exact ⟨200, by omega, by omega, by omega, if_neg c3⟩
      obtain ⟨m, m0, m1, m2, em⟩ := hm
      obtain ⟨i, hi, gi⟩ := p5_at (F := F) (n := m) m0 (by omega) (a3 >>> (nI 4 &&& nI 31))
      obtain ⟨q', s1, s2⟩ := p1_recut (F := F) (a := 8 + j) (t := 8 + t) (m := 1 + i) h hB ⟨by omega, by omega⟩ ⟨by omega, by omega⟩ (by omega) ⟨by omega, by omega⟩ (by omega)
      have e1 : q_rc y (8 + j) (8 + t) (1 + i) (239 + (8 + j)) = y (239 + (8 + j)) - (1 + i) := by unfold q_rc; rw [q_u_ne (by omega), q_u_ne (by omega), q_u_eq]
      refine r_okI (q' := q') (y' := q_rc y (8 + j) (8 + t) (1 + i)) ?_ s2 (fun k hk => by unfold q_rc; rw [q_u_ne (by omega), q_u_ne (by omega), q_u_ne (by omega)]) (by unfold q_rc; rw [q_u_ne (by omega), q_u_ne (by omega), q_u_ne (by omega)]; omega)
      rw [em, q_bind, gi, q_bind, n_add, n_sub (by omega)]
      rw [r_U3 (by omega), q_let]
      simp (disch := first | omega | assumption) only [q_g, n_C, r_W2, q_u_ne, n_add]
      rw [r_U2 (by omega), q_let]
      simp (disch := first | omega | assumption) only [q_g, n_C, r_W4, q_u_ne, n_add]
      rw [r_U4 (by omega), q_let]
      have e9 : q_u (q_u (q_u y (239 + (8 + j)) (y (239 + (8 + j)) - (1 + i))) (214 + (8 + t)) (y (214 + (8 + t)) + (1 + i))) 10 (y 10 + (1 + i)) = q_rc y (8 + j) (8 + t) (1 + i) := rfl
      rw [e9]
      simp only []
      rw [r_nt s1, q_let]
      simp (disch := first | omega | assumption) only [q_g, n_C, r_W3, e1, if_true]
end RK
