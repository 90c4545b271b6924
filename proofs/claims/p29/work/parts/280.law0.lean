/-! the law's own rows as a view of the state -/
def r_a (y : Nat → Nat) (off n : Nat) : d_Z := fun k => if k < n then nI (y (off + k)) else 0
def r_W (y : Nat → Nat) : d_W := (r_a y 14 61, r_a y 114 61, r_a y 214 25, r_a y 239 25, r_a y 0 14)
theorem r_ak {y : Nat → Nat} {off n k : Nat} (h : k < n) : r_a y off n k = nI (y (off + k)) := if_pos h
theorem r_au {y : Nat → Nat} {off n k v : Nat} (h : k < n) : upd (r_a y off n) k (nI v) = r_a (q_u y (off + k) v) off n := by
  funext j
  unfold upd r_a q_u
  by_cases e : j = k
  · subst e; rw [if_pos rfl, if_pos h, if_pos rfl]
  · rw [if_neg e]
    by_cases e2 : j < n
    · rw [if_pos e2, if_pos e2, if_neg (by omega)]
    · rw [if_neg e2, if_neg e2]
theorem r_an {y : Nat → Nat} {off n j v : Nat} (h : j < off ∨ off + n ≤ j) : r_a (q_u y j v) off n = r_a y off n := by
  funext k
  unfold r_a q_u
  by_cases e : k < n
  · rw [if_pos e, if_pos e, if_neg (by omega)]
  · rw [if_neg e, if_neg e]
theorem r_cg {y u : Nat → Nat} {off n : Nat} (h : ∀ k, k < n → y (off + k) = u (off + k)) : r_a y off n = r_a u off n := by
  funext k
  unfold r_a
  by_cases e : k < n
  · rw [if_pos e, if_pos e, h k e]
  · rw [if_neg e, if_neg e]
theorem r_W0 {y : Nat → Nat} {k : Nat} (h : k < 61) : (r_W y).1 k = nI (y (14 + k)) := if_pos h
theorem r_W1 {y : Nat → Nat} {k : Nat} (h : k < 61) : (r_W y).2.1 k = nI (y (114 + k)) := if_pos h
theorem r_W2 {y : Nat → Nat} {k : Nat} (h : k < 25) : (r_W y).2.2.1 k = nI (y (214 + k)) := if_pos h
theorem r_W3 {y : Nat → Nat} {k : Nat} (h : k < 25) : (r_W y).2.2.2.1 k = nI (y (239 + k)) := if_pos h
theorem r_W4 {y : Nat → Nat} {k : Nat} (h : k < 14) : (r_W y).2.2.2.2 k = nI (y k) := by
  have h1 : (r_W y).2.2.2.2 k = nI (y (0 + k)) := if_pos h
  rw [h1, Nat.zero_add]
theorem r_U0 {y : Nat → Nat} {k v : Nat} (h : k < 61) : (upd (r_W y).1 k (nI v), (r_W y).2.1, (r_W y).2.2.1, (r_W y).2.2.2.1, (r_W y).2.2.2.2) = r_W (q_u y (14 + k) v) := by
  show (upd (r_a y 14 61) k (nI v), r_a y 114 61, r_a y 214 25, r_a y 239 25, r_a y 0 14) = _
  unfold r_W
  rw [r_au h, r_an (off := 114) (by omega), r_an (off := 214) (by omega), r_an (off := 239) (by omega), r_an (off := 0) (by omega)]
theorem r_U1 {y : Nat → Nat} {k v : Nat} (h : k < 61) : ((r_W y).1, upd (r_W y).2.1 k (nI v), (r_W y).2.2.1, (r_W y).2.2.2.1, (r_W y).2.2.2.2) = r_W (q_u y (114 + k) v) := by
  show (r_a y 14 61, upd (r_a y 114 61) k (nI v), r_a y 214 25, r_a y 239 25, r_a y 0 14) = _
  unfold r_W
  rw [r_au h, r_an (off := 14) (by omega), r_an (off := 214) (by omega), r_an (off := 239) (by omega), r_an (off := 0) (by omega)]
theorem r_U2 {y : Nat → Nat} {k v : Nat} (h : k < 25) : ((r_W y).1, (r_W y).2.1, upd (r_W y).2.2.1 k (nI v), (r_W y).2.2.2.1, (r_W y).2.2.2.2) = r_W (q_u y (214 + k) v) := by
  show (r_a y 14 61, r_a y 114 61, upd (r_a y 214 25) k (nI v), r_a y 239 25, r_a y 0 14) = _
  unfold r_W
  rw [r_au h, r_an (off := 14) (by omega), r_an (off := 114) (by omega), r_an (off := 239) (by omega), r_an (off := 0) (by omega)]
theorem r_U3 {y : Nat → Nat} {k v : Nat} (h : k < 25) : ((r_W y).1, (r_W y).2.1, (r_W y).2.2.1, upd (r_W y).2.2.2.1 k (nI v), (r_W y).2.2.2.2) = r_W (q_u y (239 + k) v) := by
  show (r_a y 14 61, r_a y 114 61, r_a y 214 25, upd (r_a y 239 25) k (nI v), r_a y 0 14) = _
  unfold r_W
  rw [r_au h, r_an (off := 14) (by omega), r_an (off := 114) (by omega), r_an (off := 214) (by omega), r_an (off := 0) (by omega)]
theorem r_U4 {y : Nat → Nat} {k v : Nat} (h : k < 14) : ((r_W y).1, (r_W y).2.1, (r_W y).2.2.1, (r_W y).2.2.2.1, upd (r_W y).2.2.2.2 k (nI v)) = r_W (q_u y k v) := by
  have h1 := r_au (y := y) (off := 0) (v := v) h
  rw [Nat.zero_add] at h1
  show (r_a y 14 61, r_a y 114 61, r_a y 214 25, r_a y 239 25, upd (r_a y 0 14) k (nI v)) = _
  unfold r_W
  rw [h1, r_an (off := 14) (by omega), r_an (off := 114) (by omega), r_an (off := 214) (by omega), r_an (off := 239) (by omega)]
/-! bits -/
theorem r_all {f : Nat → Nat} : ∀ {n : Nat}, (∀ k, k < n → f k ≤ 1) → q_sum f n = n → ∀ k, k < n → f k = 1 := by
  intro n
  induction n with
  | zero => intro _ _ k h; omega
  | succ n ih =>
    intro h1 hs k hk
    have h2 := q_sum_le (f := f) (b := 1) (n := n) (fun k hk => h1 k (by omega))
    have h3 := h1 n (by omega)
    have h4 : q_sum f n + f n = n + 1 := hs
    by_cases e : k = n
    · subst e; omega
    · exact ih (fun k hk => h1 k (by omega)) (by omega) k (by omega)
theorem r_full {b P : Nat} (hb : b < 2 ^ P) : (b = 2 ^ P - 1) = ¬ (q_fg b P < P) := by
  apply propext
  have hle := q_sum_le (f := q_b b) (b := 1) (n := P) (fun k _ => q_b_le b k)
  constructor
  · intro e
    rw [q_fg_lt]
    have h1 : ∀ k, k < P → q_b b k = 1 := fun k hk => by
      have h2 := q_b_tb b k
      rw [e, Nat.testBit_two_pow_sub_one] at h2
      rw [decide_eq_true hk] at h2
      have h3 := q_b_le (2 ^ P - 1) k
      rw [e]
      by_cases h0 : q_b (2 ^ P - 1) k = 1
      · exact h0
      · rw [show q_b (2 ^ P - 1) k = 0 by omega] at h2
        exact absurd h2 (by decide)
    have h4 : q_sum (q_b b) P = q_sum (fun _ => 1) P := q_sum_cg h1
    have h5 : ∀ n, q_sum (fun _ => 1) n = n := by
      intro n
      induction n with
      | zero => rfl
      | succ n ih => show q_sum (fun _ => 1) n + 1 = n + 1; rw [ih]
    rw [h4, h5]; omega
  · intro h
    rw [q_fg_lt] at h
    have h1 := r_all (f := q_b b) (n := P) (fun k _ => q_b_le b k) (by omega)
    apply Nat.eq_of_testBit_eq
    intro i
    rw [Nat.testBit_two_pow_sub_one, q_b_tb]
    by_cases hi : i < P
    · rw [h1 i hi, decide_eq_true hi]; rfl
    · rw [q_b_hi hb (by omega), decide_eq_false hi]; rfl
section RW
variable {B F : Nat} {y : Nat → Nat}
theorem p5_pl {c : Nat} (hc : c ≤ 100000) : f_L_places F (r_W y) (nI c) = some (nI (q_pl y c)) := by
  unfold f_L_places q_pl
  simp (disch := first | omega | assumption) only [n_l0, n_l1, n_l2, n_l3, n_l4, n_l5, n_l6, n_l7, n_l8, n_l9, n_l10, n_l11, n_l12, n_l13, n_l14, n_l15, n_l16, n_l17, n_l18, n_l19, n_l20, n_l21, n_l22, n_l23, n_l24, n_l25, n_l30, n_l31, n_l33, n_l48, n_l49, n_l57, n_l60, n_l100, n_l114, n_l115, n_l126, n_l200, n_l214, n_l239, n_l264, n_l294, n_l400, n_l1000, n_l1470, n_l5000, n_l1000000, n_o, n_nM, q_g, n_C, r_W4, n_mod, n_add]
theorem p5_fu {c : Nat} (hc : c ≤ 100000) (h : q_pl y c ≤ 31) : f_L_full F (r_W y) (nI c) = some (nI (2 ^ q_pl y c - 1)) := by
  have hp := Nat.two_pow_pos (q_pl y c)
  unfold f_L_full
  rw [p5_pl hc]
  simp only [q_bind, n_l0, n_l1, n_l2, n_l3, n_l4, n_l5, n_l6, n_l7, n_l8, n_l9, n_l10, n_l11, n_l12, n_l13, n_l14, n_l15, n_l16, n_l17, n_l18, n_l19, n_l20, n_l21, n_l22, n_l23, n_l24, n_l25, n_l30, n_l31, n_l33, n_l48, n_l49, n_l57, n_l60, n_l100, n_l114, n_l115, n_l126, n_l200, n_l214, n_l239, n_l264, n_l294, n_l400, n_l1000, n_l1470, n_l5000, n_l1000000, n_o, n_nM]
  by_cases e : q_pl y c = 31
  · rw [e]; rfl
  · rw [if_neg (by rw [n_eq (by omega) (by omega)]; exact e), n_shl (by omega), n_sub (by omega)]
theorem p5_ones (hF : 3000 ≤ F) {b : Nat} (hb : b < 2147483648) : f_L_ones F (nI b) = some (nI (q_sum (q_b b) 31)) := by
  unfold f_L_ones
  have key := q_accum (f_L_ones_L4 F (nI b)) (q_b b) 31 (fun n a => by
    unfold f_L_ones_L4
    exact if_pos (Int32.le_refl _)) (fun n a i hi => by
    conv => lhs; unfold f_L_ones_L4
    simp (disch := first | omega | assumption) only [n_l0, n_l1, n_l2, n_l3, n_l4, n_l5, n_l6, n_l7, n_l8, n_l9, n_l10, n_l11, n_l12, n_l13, n_l14, n_l15, n_l16, n_l17, n_l18, n_l19, n_l20, n_l21, n_l22, n_l23, n_l24, n_l25, n_l30, n_l31, n_l33, n_l48, n_l49, n_l57, n_l60, n_l100, n_l114, n_l115, n_l126, n_l200, n_l214, n_l239, n_l264, n_l294, n_l400, n_l1000, n_l1470, n_l5000, n_l1000000, n_o, n_nM, n_le, n_and31, n_shr', n_and, Nat.and_one_is_mod]
    rw [if_neg (by omega)]
    have h1 : b / 2 ^ i < 2147483648 := Nat.lt_of_le_of_lt (Nat.div_le_self _ _) hb
    simp (disch := first | omega | assumption) only [n_and31, n_shr', n_and, Nat.and_one_is_mod, n_add]
    rfl) F 0 (by omega) (by omega)
  rw [show ((0 : Int32)) = nI 0 from rfl]
  rw [show q_sum (q_b b) 0 = 0 from rfl] at key
  rw [key]; rfl
theorem r_in (hI : q_I B y) {c : Nat} (hc : c < y 2) : q_sum (q_b (y (114 + c))) 31 = q_in y c := by
  have hb := (hI.2.2.2.2.2.2.2.2.2.2.2.2.1 c hc).2.2
  unfold q_in q_pl
  exact q_sum_cut (m := y 1 + c % 2) (by have := hI.2.1.2; omega) (fun k a _ => q_b_hi hb a)
theorem p5_in (hF : 3000 ≤ F) (hI : q_I B y) {c : Nat} (hc : c < y 2) (h61 : y 2 ≤ 61) : f_L_ones F ((r_W y).2.1 c) = some (nI (q_in y c)) := by
  have hb := q_w hI.2.1.2 (hI.2.2.2.2.2.2.2.2.2.2.2.2.1 c hc).2.2
  rw [r_W1 (by omega), p5_ones hF hb, r_in hI hc]
theorem p5_top (hF : 3000 ≤ F) (hI : q_I B y) {n : Nat} (hn : n ≤ y 2) (h61 : y 2 ≤ 61) : f_L_top F (r_W y) (nI n) = some (nI (q_top y n)) := by
  have h3 := hI.2.2.2.1
  have hl := hI.2.2.2.2.2.2.2.2.2.2.2.2.1
  unfold f_L_top q_top
  have key := q_accum (f_L_top_L5 F (r_W y) (nI n)) (fun c => q_ga y (y (14 + c))) n (fun k a => by
    unfold f_L_top_L5
    exact if_pos (Int32.le_refl _)) (fun k a i hi => by
    have hli := hl i (by omega)
    conv => lhs; unfold f_L_top_L5
    simp (disch := first | omega | assumption) only [n_l0, n_l1, n_l2, n_l3, n_l4, n_l5, n_l6, n_l7, n_l8, n_l9, n_l10, n_l11, n_l12, n_l13, n_l14, n_l15, n_l16, n_l17, n_l18, n_l19, n_l20, n_l21, n_l22, n_l23, n_l24, n_l25, n_l30, n_l31, n_l33, n_l48, n_l49, n_l57, n_l60, n_l100, n_l114, n_l115, n_l126, n_l200, n_l214, n_l239, n_l264, n_l294, n_l400, n_l1000, n_l1470, n_l5000, n_l1000000, n_o, n_nM, n_le, q_g, n_C, r_W0, r_W4, n_sub, n_div, n_add]
    rw [if_neg (by omega)]
    rfl) F 0 (by omega) (by omega)
  rw [show ((0 : Int32)) = nI 0 from rfl]
  rw [show q_sum (fun c => q_ga y (y (14 + c))) 0 = 0 from rfl] at key
  rw [key]; rfl
theorem p5_lying (hF : 3000 ≤ F) (hI : q_I B y) (h61 : y 2 ≤ 61) : f_L_lying F (r_W y) = some (nI (q_on y)) := by
  unfold f_L_lying q_on
  have key := q_accum (f_L_lying_L4 F (r_W y)) (q_in y) (y 2) (fun k a => by
    unfold f_L_lying_L4
    simp (disch := first | omega | assumption) only [n_l0, n_l1, n_l2, n_l3, n_l4, n_l5, n_l6, n_l7, n_l8, n_l9, n_l10, n_l11, n_l12, n_l13, n_l14, n_l15, n_l16, n_l17, n_l18, n_l19, n_l20, n_l21, n_l22, n_l23, n_l24, n_l25, n_l30, n_l31, n_l33, n_l48, n_l49, n_l57, n_l60, n_l100, n_l114, n_l115, n_l126, n_l200, n_l214, n_l239, n_l264, n_l294, n_l400, n_l1000, n_l1470, n_l5000, n_l1000000, n_o, n_nM, q_g, n_C, r_W4]
    exact if_pos (Int32.le_refl _)) (fun k a i hi => by
    conv => lhs; unfold f_L_lying_L4
    simp (disch := first | omega | assumption) only [n_l0, n_l1, n_l2, n_l3, n_l4, n_l5, n_l6, n_l7, n_l8, n_l9, n_l10, n_l11, n_l12, n_l13, n_l14, n_l15, n_l16, n_l17, n_l18, n_l19, n_l20, n_l21, n_l22, n_l23, n_l24, n_l25, n_l30, n_l31, n_l33, n_l48, n_l49, n_l57, n_l60, n_l100, n_l114, n_l115, n_l126, n_l200, n_l214, n_l239, n_l264, n_l294, n_l400, n_l1000, n_l1470, n_l5000, n_l1000000, n_o, n_nM, n_le, q_g, n_C, r_W4]
    rw [if_neg (by omega), p5_in hF hI (by omega) h61]
    simp only [q_bind, n_add]) F 0 (by omega) (by omega)
  rw [show ((0 : Int32)) = nI 0 from rfl]
  rw [show q_sum (q_in y) 0 = 0 from rfl] at key
  rw [key]; rfl
theorem p5_all (hF : 3000 ≤ F) {off : Nat} (h0 : ∀ v, v < 8 → y (off + v) = 0) : f_L_all F 25 (r_a y off 25) = some (nI (q_sum (fun v => y (off + v)) 25)) := by
  unfold f_L_all
  have key := q_accum (f_L_all_L5 F 25 (r_a y off 25)) (fun v => y (off + v)) 25 (fun k a => by
    unfold f_L_all_L5
    exact if_pos (Int32.le_refl _)) (fun k a i hi => by
    conv => lhs; unfold f_L_all_L5
    simp (disch := first | omega | assumption) only [n_l0, n_l1, n_l2, n_l3, n_l4, n_l5, n_l6, n_l7, n_l8, n_l9, n_l10, n_l11, n_l12, n_l13, n_l14, n_l15, n_l16, n_l17, n_l18, n_l19, n_l20, n_l21, n_l22, n_l23, n_l24, n_l25, n_l30, n_l31, n_l33, n_l48, n_l49, n_l57, n_l60, n_l100, n_l114, n_l115, n_l126, n_l200, n_l214, n_l239, n_l264, n_l294, n_l400, n_l1000, n_l1470, n_l5000, n_l1000000, n_o, n_nM, n_le, q_g, n_C, r_ak, n_add]
    rw [if_neg (by omega)]) F 8 (by omega) (by omega)
  rw [show q_sum (fun v => y (off + v)) 8 = 0 from q_sum_0 h0] at key
  rw [show ((0 : Int32)) = nI 0 from rfl, show ((8 : Int32)) = nI 8 from rfl, key]; rfl
theorem p5_lo (hI : q_I B y) (h61 : y 2 ≤ 61) : f_L_longest F (r_W y) = some (nI (q_lo y)) := by
  unfold f_L_longest q_lo
  simp (disch := first | omega | assumption) only [n_l0, n_l1, n_l2, n_l3, n_l4, n_l5, n_l6, n_l7, n_l8, n_l9, n_l10, n_l11, n_l12, n_l13, n_l14, n_l15, n_l16, n_l17, n_l18, n_l19, n_l20, n_l21, n_l22, n_l23, n_l24, n_l25, n_l30, n_l31, n_l33, n_l48, n_l49, n_l57, n_l60, n_l100, n_l114, n_l115, n_l126, n_l200, n_l214, n_l239, n_l264, n_l294, n_l400, n_l1000, n_l1470, n_l5000, n_l1000000, n_o, n_nM, q_g, n_C, r_W4, n_eq]
  by_cases e : y 2 = 0
  · rw [if_pos e, if_pos e]
  · rw [if_neg e, if_neg e]
    simp (disch := first | omega | assumption) only [n_sub, q_g, n_C, r_W0]
theorem p5_gapL (hI : q_I B y) (h61 : y 2 ≤ 61) {c : Nat} (hc : c < y 2) : ∀ n p, p ≤ q_pl y c → q_fg (y (114 + c)) p = p → q_pl y c - p < n →
    f_L_gap_L2 F (r_W y) (nI c) n (nI p) = some (if q_fg (y (114 + c)) (q_pl y c) < q_pl y c then .inr (nI (q_fg (y (114 + c)) (q_pl y c))) else .inl (nI (q_pl y c))) := by
  have h5 := q_pl_le (c := c) hI.2.1.2
  have hb := q_w hI.2.1.2 (hI.2.2.2.2.2.2.2.2.2.2.2.2.1 c hc).2.2
  intro n
  induction n with
  | zero => intro p _ _ h; omega
  | succ n ih =>
    intro p hp hg hn
    have h1 : y (114 + c) / 2 ^ p < 2147483648 := Nat.lt_of_le_of_lt (Nat.div_le_self _ _) hb
    unfold f_L_gap_L2
    rw [p5_pl (by omega)]
    simp (disch := first | omega | assumption) only [q_bind, n_le]
    by_cases e : p = q_pl y c
    · rw [if_pos (by omega), ← e, if_neg (by omega)]
    · rw [if_neg (by omega)]
      simp (disch := first | omega | assumption) only [n_l0, n_l1, n_l2, n_l3, n_l4, n_l5, n_l6, n_l7, n_l8, n_l9, n_l10, n_l11, n_l12, n_l13, n_l14, n_l15, n_l16, n_l17, n_l18, n_l19, n_l20, n_l21, n_l22, n_l23, n_l24, n_l25, n_l30, n_l31, n_l33, n_l48, n_l49, n_l57, n_l60, n_l100, n_l114, n_l115, n_l126, n_l200, n_l214, n_l239, n_l264, n_l294, n_l400, n_l1000, n_l1470, n_l5000, n_l1000000, n_o, n_nM, q_g, n_C, r_W1, n_and31, n_shr', n_and, Nat.and_one_is_mod, n_eq, n_add]
      have h8 : q_fg (y (114 + c)) (p + 1) = (if q_b (y (114 + c)) p = 0 then p else p + 1) := if_neg (by omega)
      by_cases e2 : q_b (y (114 + c)) p = 0
      · rw [if_pos e2] at h8
        have h9 := q_fg_st (b := y (114 + c)) (m := p + 1) (by omega) (n := q_pl y c) (by omega)
        unfold q_b at e2
        rw [if_pos e2, if_pos (by omega), h9, h8]
      · rw [if_neg e2] at h8
        unfold q_b at e2
        rw [if_neg e2]
        exact ih (p + 1) (by omega) h8 (by omega)
theorem p5_gap (hF : 3000 ≤ F) (hI : q_I B y) (h61 : y 2 ≤ 61) {c : Nat} (hc : c < y 2) : f_L_gap F (r_W y) (nI c) = some (q_gI (y (114 + c)) (q_pl y c)) := by
  have h2 := hI.2.2.1
  have h5 := q_pl_le (c := c) hI.2.1.2
  unfold f_L_gap q_gI
  rw [n_l0, p5_gapL hI h61 hc F 0 (by omega) rfl (by omega)]
  simp only [q_bind, n_l0, n_l1, n_l2, n_l3, n_l4, n_l5, n_l6, n_l7, n_l8, n_l9, n_l10, n_l11, n_l12, n_l13, n_l14, n_l15, n_l16, n_l17, n_l18, n_l19, n_l20, n_l21, n_l22, n_l23, n_l24, n_l25, n_l30, n_l31, n_l33, n_l48, n_l49, n_l57, n_l60, n_l100, n_l114, n_l115, n_l126, n_l200, n_l214, n_l239, n_l264, n_l294, n_l400, n_l1000, n_l1470, n_l5000, n_l1000000, n_o, n_nM]
  split <;> rfl
end RW
