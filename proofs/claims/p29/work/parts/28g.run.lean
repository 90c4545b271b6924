/-! the law, turn by turn -/
section RK
variable {F : Nat}
theorem p5_cell {L : Nat} (hL : L ≤ 260) (xs : Nat → Int32) {k : Nat} (hk : k < 100) : ∃ v, f_L_cell F L xs (nI k) = some v := by
  unfold f_L_cell
  rw [n_o]
  by_cases e : L ≤ k
  · exact ⟨_, if_pos (by rw [n_le (by omega) (by omega)]; exact e)⟩
  · refine ⟨xs k, ?_⟩
    rw [if_neg (by rw [n_le (by omega) (by omega)]; exact e), q_g (by omega) (by omega), n_C (by omega)]
theorem p5_law (hF : 3000 ≤ F) {L : Nat} (hL : L ≤ 260) (xs : Nat → Int32) : ∀ n t B (y : Nat → Nat) (q : d_C), t + n = 27 → 1 ≤ n → r_rel B y q → B ≤ 21000 + 20000 * t → y 6 ≤ 36 * t → q_sum (fun v => y (264 + v)) 25 ≤ 60 * t →
    f_law_L F L xs n (nI t) (q, r_a y 264 25, r_W y) = some 1 := by
  intro n
  induction n with
  | zero => intro t B y q _ h; omega
  | succ n ih =>
    intro t B y q ht hn h hB h6 hs
    have l26 : (26 : Int32) = nI 26 := rfl
    unfold f_law_L
    simp only [n_l0, n_l1, n_l2, n_l3, n_l4, n_l5, n_l6, n_l7, n_l8, n_l9, n_l10, n_l11, n_l12, n_l13, n_l14, n_l15, n_l16, n_l17, n_l18, n_l19, n_l20, n_l21, n_l22, n_l23, n_l24, n_l25, n_l30, n_l31, n_l33, n_l48, n_l49, n_l57, n_l60, n_l100, n_l114, n_l115, n_l126, n_l200, n_l214, n_l239, n_l264, n_l294, n_l400, n_l1000, n_l1470, n_l5000, n_l1000000, n_o, n_nM, l26]
    by_cases e : 26 ≤ t
    · obtain ⟨m, o, k1, k2, k3, k4, k5⟩ := h.2.2.1
      rw [if_pos (by rw [n_le (by omega) (by omega)]; exact e), r_nt (p1_c18 k4), if_neg (by rw [n_le (by omega) (by omega)]; omega)]
    · obtain ⟨v6, g6⟩ := p5_cell (F := F) hL xs (show 2 * t < 100 by omega)
      obtain ⟨v8, g8⟩ := p5_cell (F := F) hL xs (show 2 * t + 1 < 100 by omega)
      have hj : ∀ X : Int32, ∃ a, a < 20 ∧ (if nI 3 ≤ nI t then (if nI t = nI 3 then some (nI 11) else (if nI t = nI 4 then some (nI 15) else (f_L_at F X (nI 20)).bind fun x14 => some x14)) else some (nI 0)) = some (nI a) := by
        intro X
        obtain ⟨a, ha, ea⟩ := p5_at (F := F) (n := 20) (by omega) (by omega) X
        by_cases c3 : 3 ≤ t
        · rw [if_pos (by rw [n_le (by omega) (by omega)]; exact c3)]
          by_cases d3 : t = 3
          · exact ⟨11, by omega, if_pos (by rw [d3])⟩
          · rw [if_neg (by rw [n_eq (by omega) (by omega)]; exact d3)]
            by_cases d4 : t = 4
            · exact ⟨15, by omega, if_pos (by rw [d4])⟩
            · rw [if_neg (by rw [n_eq (by omega) (by omega)]; exact d4), ea]
              exact ⟨a, ha, rfl⟩
        · exact ⟨0, by omega, if_neg (by rw [n_le (by omega) (by omega)]; exact c3)⟩
      obtain ⟨a, ha, ea⟩ := hj ((v6 &&& 2147483647) >>> (nI 13 &&& nI 31))
      obtain ⟨q', y', o1, o2, o3, o4⟩ := p5_act (F := F) hF h (by omega) (by omega) (by omega) ha (v6 &&& 2147483647) (v8 &&& 2147483647)
      have hmod : nI t - nI t / nI 5 * nI 5 = nI (t % 5) := n_mod (by omega) (by omega) (by omega)
      have hto := p5_told (F := F) hF o2.1.1 (by omega) (by have := o2.1.2.2; omega) o2.2.1 ((v8 &&& 2147483647) >>> (nI 2 &&& nI 31))
      rw [if_neg (by rw [n_le (by omega) (by omega)]; exact e), n_mul, g6, q_bind, n_add, g8, q_bind, ea, q_bind, o1, q_bind, q_let]
      dsimp only
      rw [if_neg r_n10, hto, q_bind, if_neg r_n10, hmod]
      by_cases c5 : t % 5 = 4
      · obtain ⟨q2, a1, a2⟩ := p5_ahead (F := F) hF o2 (by omega) ((v6 &&& 2147483647) >>> (nI 3 &&& nI 31))
        rw [if_pos (by rw [c5]), a1, q_bind, q_let]
        dsimp only
        rw [if_neg r_n10, n_add]
        exact ih (t + 1) (B + 20000) y' q2 (by omega) (by omega) a2 (by omega) (by omega) (by omega)
      · rw [if_neg (by rw [n_eq (by omega) (by omega)]; exact c5), n_add]
        exact ih (t + 1) (B + 20000) y' q' (by omega) (by omega) o2 (by omega) (by omega) (by omega)
def q_y0 : Nat → Nat := fun k => if k = 0 then 100 else if k = 1 then 6 else if k = 3 then 4 else if k = 4 then 20 else if k = 5 then 2 else if k = 7 then 20 else 0
theorem q_z0 : d_z0 = q_z q_y0 := by
  funext k
  unfold d_z0 q_z q_y0
  repeat' split
  all_goals rfl
theorem q_y0_o {k : Nat} (h : 8 ≤ k) : q_y0 k = 0 := by
  unfold q_y0
  rw [if_neg (by omega), if_neg (by omega), if_neg (by omega), if_neg (by omega), if_neg (by omega), if_neg (by omega)]
theorem r_I0 : q_I 1000 q_y0 := by
  have e0 : q_y0 0 = 100 := by decide
  have e1 : q_y0 1 = 6 := by decide
  have e2 : q_y0 2 = 0 := by decide
  have e3 : q_y0 3 = 4 := by decide
  have e4 : q_y0 4 = 20 := by decide
  have e5 : q_y0 5 = 2 := by decide
  have e6 : q_y0 6 = 0 := by decide
  have e7 : q_y0 7 = 20 := by decide
  unfold q_I
  rw [e0, e1, e2, e3, e4, e5, e6, e7, q_y0_o (k := 8) (by omega), q_y0_o (k := 9) (by omega), q_y0_o (k := 12) (by omega), q_y0_o (k := 13) (by omega)]
  refine ⟨by omega, by omega, by omega, by omega, by omega, by omega, by omega, by omega, by omega, by omega, by omega, by omega, fun c hc => absurd hc (Nat.not_lt_zero c), fun v hv => ?_, ?_, fun k hk => q_y0_o (by omega), by omega⟩
  · rw [q_y0_o (k := 214 + v) (by omega), q_y0_o (k := 239 + v) (by omega), q_y0_o (k := 264 + v) (by omega)]
    exact ⟨by omega, by omega, by omega, fun _ => ⟨rfl, rfl, rfl⟩⟩
  · rw [q_sum_0 (fun k _ => q_y0_o (by omega))]
    omega
theorem r_a0 (off n : Nat) : (fun _ => 0 : d_Z) = r_a (fun _ => 0) off n := by
  funext k
  unfold r_a
  split <;> rfl
theorem r_w0 : d_w0 = r_W (fun _ => 0) := by
  unfold r_W
  rw [← r_a0 14 61, ← r_a0 114 61, ← r_a0 214 25, ← r_a0 239 25, ← r_a0 0 14]
  rfl
def r_y1 : Nat → Nat := q_u (q_u (q_u (q_u q_y0 12 (q_y0 12 + q_on q_y0)) 2 0) 0 50) 1 6
theorem r_on0 : q_on q_y0 = 0 := rfl
theorem q_pure {L : Nat} (hL : L ≤ 260) (xs : Nat → Int32) : f_law 3000 L xs d_Y0 = some 1 := by
  have l50 : (50 : Int32) = nI 50 := rfl
  obtain ⟨q', b1, b2⟩ := p1_begin (F := 3000) (q := d_q0) (a := 50) (b := 6) (by omega) r_I0 q_z0 ⟨0, 0, by omega, by omega, by omega, rfl, rfl⟩ rfl (by omega) (by omega) (by omega)
  rw [r_on0] at b1
  have hy1 : r_y1 = q_u (q_u (q_u (q_u q_y0 12 0) 2 0) 0 50) 1 6 := rfl
  have eW : r_W (q_u (q_u (q_u (q_u (q_u (q_u (fun _ => 0) 0 50) 1 6) 3 4) 4 20) 5 2) 7 20) = r_W r_y1 := r_Wcg (fun k hk => by
    rw [hy1]
    unfold q_u q_y0
    repeat' split
    all_goals first | rfl | (exfalso; omega))
  have eE : (fun _ => 0 : d_Z) = r_a r_y1 264 25 := (r_a0 264 25).trans (r_cg (fun k hk => by
    rw [hy1]
    unfold q_u q_y0
    repeat' split
    all_goals first | rfl | (exfalso; omega)))
  have hto := p5_told (F := 3000) (by omega) b2.1.1 (by omega) (by have := b2.1.2.2; omega) b2.2.1 (nI 5)
  obtain ⟨q2, a1, a2⟩ := p5_ahead (F := 3000) (by omega) b2 (by omega) (nI 9)
  have h6 : r_y1 6 = 0 := by decide
  have hs : q_sum (fun v => r_y1 (264 + v)) 25 = 0 := q_sum_0 (fun k hk => by
    unfold r_y1
    rw [q_u_ne (by omega), q_u_ne (by omega), q_u_ne (by omega), q_u_ne (by omega)]
    exact q_y0_o (by omega))
  have e0 : d_Y0 = (d_q0, r_a r_y1 264 25, r_W (fun _ => 0)) := by
    unfold d_Y0
    rw [r_w0, eE]
  rw [e0]
  unfold f_law
  simp only [n_l0, n_l1, n_l2, n_l3, n_l4, n_l5, n_l6, n_l7, n_l8, n_l9, n_l10, n_l11, n_l12, n_l13, n_l14, n_l15, n_l16, n_l17, n_l18, n_l19, n_l20, n_l21, n_l22, n_l23, n_l24, n_l25, n_l30, n_l31, n_l33, n_l48, n_l49, n_l57, n_l60, n_l100, n_l114, n_l115, n_l126, n_l200, n_l214, n_l239, n_l264, n_l294, n_l400, n_l1000, n_l1470, n_l5000, n_l1000000, n_o, n_nM, l50]
  rw [q_g (by omega) (by omega), n_C (by omega)]
  try dsimp only
  rw [r_U4 (by omega), q_let, q_g (by omega) (by omega), n_C (by omega)]
  try dsimp only
  rw [r_U4 (by omega), q_let, q_g (by omega) (by omega), n_C (by omega)]
  try dsimp only
  rw [r_U4 (by omega), q_let, q_g (by omega) (by omega), n_C (by omega)]
  try dsimp only
  rw [r_U4 (by omega), q_let, q_g (by omega) (by omega), n_C (by omega)]
  try dsimp only
  rw [r_U4 (by omega), q_let, q_g (by omega) (by omega), n_C (by omega)]
  try dsimp only
  rw [r_U4 (by omega), q_let, eW]
  try dsimp only
  rw [r_nt b1, q_let]
  try dsimp only
  rw [if_pos rfl]
  have hto' : f_L_told 3000 (q', r_a r_y1 264 25, r_W r_y1) (nI 5) = some (nI 1) := hto
  have a1' : f_L_ahead 3000 (q', r_a r_y1 264 25, r_W r_y1) (nI 9) = some (nI 1, (q2, r_a r_y1 264 25, r_W r_y1)) := a1
  rw [hto', q_bind, if_neg r_n10, a1', q_bind, q_let]
  try dsimp only
  rw [if_neg r_n10]
  exact p5_law (by omega) hL xs 27 0 21000 r_y1 q2 rfl (by omega) a2 (by omega) (by omega) (by omega)
end RK
