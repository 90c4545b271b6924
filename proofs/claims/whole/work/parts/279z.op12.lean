/-! buy, recut, clearHeap -/
section RR
variable {B F : Nat} {y : Nat → Nat} {q : d_C} {M : d_M}
theorem q_I_ch {B' : Nat} {u : Nat → Nat} (hI : q_I B y) (hB : B' ≤ 1000000000) (hBB : B ≤ B') (e : ∀ j, (j ≤ 9 ∨ (14 ≤ j ∧ j < 214) ∨ 289 ≤ j) → u j = y j) (e12 : u 12 ≤ B') (e13 : u 13 ≤ B')
    (eh : ∀ v, v < 25 → u (214 + v) ≤ B' ∧ u (239 + v) ≤ B' ∧ u (264 + v) ≤ 5000 ∧ (v < 8 → u (214 + v) = 0 ∧ u (239 + v) = 0 ∧ u (264 + v) = 0)) (es : q_sum (fun v => u (264 + v)) 25 ≤ 5000) : q_I B' u := by
  obtain ⟨a0, a1, a2, a3, a4, a5, a6, a7, a8, a9, a12, a13, ac, av, as, ak, aB⟩ := hI
  unfold q_I
  rw [e 0 (by omega), e 1 (by omega), e 2 (by omega), e 3 (by omega), e 4 (by omega), e 5 (by omega), e 6 (by omega), e 7 (by omega), e 8 (by omega), e 9 (by omega)]
  refine ⟨a0, a1, a2, a3, a4, a5, by omega, a7, a8, a9, e12, e13, fun c hc => ?_, eh, es, fun k hk => ?_, hB⟩
  · rw [e (14 + c) (by omega), e (114 + c) (by omega)]; exact ac c hc
  · rw [e k (by omega)]; exact ak k hk
theorem q_ush (x : Int32) : ((x.toUInt32 >>> (((16 : Int32)).toUInt32 &&& Int32.toUInt32 31)).toInt32) &&& ((32767 : Int32)) = (x >>> (((16 : Int32)) &&& 31)) &&& ((32767 : Int32)) := by
  have e1 : (((16 : Int32)).toUInt32 &&& Int32.toUInt32 31) = UInt32.ofNat 16 := by decide
  have e2 : (((16 : Int32)) &&& 31) = (16 : Int32) := by decide
  rw [e1, e2]
  apply Int32.toBitVec_inj.mp
  rw [Int32.toBitVec_and, Int32.toBitVec_and, Int32.toBitVec_shiftRight]
  have e3 : ((16 : Int32).toBitVec.smod 32).toNat = 16 := by decide
  have e4 : (x.toUInt32 >>> UInt32.ofNat 16).toInt32.toBitVec = x.toBitVec >>> 16 := by
    show (x.toUInt32 >>> UInt32.ofNat 16).toBitVec = _
    rw [UInt32.toBitVec_shiftRight]
    rfl
  rw [e4]
  show _ = x.toBitVec.sshiftRight ((16 : Int32).toBitVec.smod 32).toNat &&& _
  rw [e3]
  apply BitVec.eq_of_getLsbD_eq
  intro i hi
  rw [BitVec.getLsbD_and, BitVec.getLsbD_and, BitVec.getLsbD_ushiftRight, BitVec.getLsbD_sshiftRight]
  by_cases h : i < 15
  · rw [if_pos (show 16 + i < 32 by omega)]
    simp only [show ¬ 32 ≤ i by omega, decide_false, Bool.not_false, Bool.true_and]
  · have e5 : ∀ j, j < 32 → ¬ j < 15 → (32767 : Int32).toBitVec.getLsbD j = false := by decide
    rw [e5 i hi h, Bool.and_false, Bool.and_false]
theorem q_brk {a : Nat} (ha : a ≤ 200) : ∀ n k r s, r ≤ k → k ≤ a → a - k < n → ∃ s' r', f_X3_brokenAmong_L7 F (nI a) n s (nI r) (nI k) = some (s', nI r', nI a) ∧ f_X4_buy_L63 F (nI a) n s (nI r) (nI k) = some (s', nI r', nI a) ∧ r' ≤ a := by
  intro n
  induction n with
  | zero => intro k r s h1 h2 h3; omega
  | succ n ih =>
    intro k r s h1 h2 h3
    rw [f_X3_brokenAmong_L7, f_X4_buy_L63]
    rw [q_ush]
    have hle := n_le (a := a) (b := k) (by omega) (by omega)
    simp only [hle]
    by_cases e : a ≤ k
    · have : k = a := by omega
      subst this
      rw [if_pos e, if_pos e]
      exact ⟨s, r, rfl, rfl, h1⟩
    · rw [if_neg e, if_neg e]
      simp only [n_l0, n_l1, n_add]
      split
      · exact ih (k + 1) (r + 1) _ (by omega) (by omega) (by omega)
      · rw [Nat.add_zero]
        exact ih (k + 1) r _ (by omega) (by omega) (by omega)
def q_by (y : Nat → Nat) (a m r : Nat) : Nat → Nat := q_u (q_u (q_u (q_u y (264 + a) (y (264 + a) + m)) (214 + a) (y (214 + a) + (m - r))) (239 + a) (y (239 + a) + r)) 13 (y 13 + m * q_pc a)
theorem q_buy_I {a m r : Nat} (hI : q_I B y) (hB : B + 20000 ≤ 1000000000) (ha : 8 ≤ a ∧ a ≤ 24) (hm : m ≤ 200) (hr : r ≤ m) (hs : q_sum (fun v => y (264 + v)) 25 + m ≤ 5000) : q_I (B + 20000) (q_by y a m r) := by
  have hp := q_pc_le ha.2
  have h13 := hI.2.2.2.2.2.2.2.2.2.2.2.1
  have h12 := hI.2.2.2.2.2.2.2.2.2.2.1
  have hv := hI.2.2.2.2.2.2.2.2.2.2.2.2.2.1
  have hmp : m * q_pc a ≤ 200 * 36 := Nat.mul_le_mul hm hp
  have e : ∀ j, j ≠ 264 + a → j ≠ 214 + a → j ≠ 239 + a → j ≠ 13 → q_by y a m r j = y j := fun j h1 h2 h3 h4 => by
    unfold q_by
    rw [q_u_ne h4, q_u_ne h3, q_u_ne h2, q_u_ne h1]
  have e1 : q_by y a m r 13 = y 13 + m * q_pc a := q_u_eq
  have e2 : q_by y a m r (239 + a) = y (239 + a) + r := by unfold q_by; rw [q_u_ne (by omega), q_u_eq]
  have e3 : q_by y a m r (214 + a) = y (214 + a) + (m - r) := by unfold q_by; rw [q_u_ne (by omega), q_u_ne (by omega), q_u_eq]
  have e4 : q_by y a m r (264 + a) = y (264 + a) + m := by unfold q_by; rw [q_u_ne (by omega), q_u_ne (by omega), q_u_ne (by omega), q_u_eq]
  have es : q_sum (fun v => q_by y a m r (264 + v)) 25 = q_sum (fun v => y (264 + v)) 25 + m := q_sum_u (i := a) (by omega) (fun k hk hn => e (264 + k) (by omega) (by omega) (by omega) (by omega)) e4
  have hle : ∀ w, w < 25 → q_by y a m r (264 + w) ≤ 5000 := fun w hw => by
    have := q_sum_mono (f := fun v => q_by y a m r (264 + v)) (m := w + 1) (n := 25) (by omega)
    have h2 : q_sum (fun v => q_by y a m r (264 + v)) (w + 1) = q_sum (fun v => q_by y a m r (264 + v)) w + q_by y a m r (264 + w) := rfl
    omega
  refine q_I_ch hI hB (by omega) (fun j hj => e j (by omega) (by omega) (by omega) (by omega)) (by rw [e 12 (by omega) (by omega) (by omega) (by omega)]; omega) (by rw [e1]; omega) (fun w hw => ?_) (by rw [es]; exact hs)
  have h0 := hv w hw
  by_cases hwa : w = a
  · subst hwa
    have := hle w hw
    rw [e2, e3]
    exact ⟨by omega, by omega, this, fun h8 => by omega⟩
  · rw [e (214 + w) (by omega) (by omega) (by omega) (by omega), e (239 + w) (by omega) (by omega) (by omega) (by omega), e (264 + w) (by omega) (by omega) (by omega) (by omega)]
    exact ⟨by omega, by omega, h0.2.2.1, h0.2.2.2⟩
theorem q_op_buy (hF : 3000 ≤ F) (h : q_rel B y q M) (hB : B + 20000 ≤ 1000000000) (v : Int64) (a1 a2 a3 : Int32) : q_go B (f_L_buy F q v a1 a2 a3) (f_X4_buy F M a1 a2 a3) := by
  have hz : m_z (ms_thrown M (nI 0)) = q_z y := h.2.2.1
  have hn10 : ¬ nI 1 = nI 0 := by decide
  have hI := h.1
  have hlen1 : f_X3_isLength F a1 = f_X3_isWithin F a1 (nI 8) (nI 24) := rfl
  have hlen4 : f_X4_isLength F a1 = (f_X3_isWithin F a1 (nI 8) (nI 24)).bind fun x2 => f_if (x2 = nI 0 ∨ x2 = nI 1) (some x2) := rfl
  have hq : (fun k => q.1 (264 + k)) = fun k => q_z y (264 + k) := by rw [h.2.1]
  have hs := q1_sum (y := y) hF 264
  have hs' : f_X3_sumOf F 25 (fun k => q_z y (264 + k)) = some (nI (q_sum (fun v => y (264 + v)) 25)) := hs
  have hs4 := q4_sum hF hz (off := 264) (by omega) (fun w hw => (((hI.2.2.2.2.2.2.2.2.2.2.2.2.2.1 w (by omega)).2.2.2) hw).2.2)
  have hsum := hI.2.2.2.2.2.2.2.2.2.2.2.2.2.2.1
  unfold f_L_buy f_X3_buy f_X4_buy
  simp only [q_let, q_fails, q_bind, n_l0, n_l1, n_l2, n_l3, n_l4, n_l5, n_l6, n_l7, n_l8, n_l9, n_l10, n_l11, n_l12, n_l13, n_l14, n_l15, n_l16, n_l17, n_l18, n_l19, n_l20, n_l21, n_l22, n_l23, n_l24, n_l25, n_l30, n_l31, n_l33, n_l48, n_l49, n_l57, n_l60, n_l100, n_l114, n_l115, n_l126, n_l200, n_l214, n_l239, n_l264, n_l294, n_l400, n_l1000, n_l1470, n_l5000, n_l1000000, n_o, n_nM, hlen1, hlen4, q_wX4, hq]
  rcases q_wn2 (F := F) (a := a1) (lo := 8) (hi := 24) (by omega) (by omega) with ⟨e, en⟩ | ⟨a, rfl, ha1, ha2, e⟩
  · rw [e, q_bind, q_bind, if_pos rfl, q_fif (Or.inl rfl), q_bind, q_bind, if_pos rfl]
    exact q_bad (tr := q.2.1) h hB (Or.inl rfl)
  · rw [e, q_bind, q_bind, if_neg hn10, q_fif (Or.inr rfl), q_bind, if_neg hn10]
    rcases q_wn2 (F := F) (a := a2) (lo := 1) (hi := 200) (by omega) (by omega) with ⟨e', en'⟩ | ⟨m, rfl, hm1, hm2, e'⟩
    · rw [e', q_bind, q_bind, if_pos rfl, if_pos rfl, q_bind]
      exact q_bad (tr := q.2.1) h hB (Or.inl rfl)
    · rw [e', q_bind, q_bind, if_neg hn10, if_neg hn10, hs', hs4, q_bind, q_bind, n_add]
      have hle := n_le (a := q_sum (fun v => y (264 + v)) 25 + m) (b := 5000) (by omega) (by omega)
      simp only [hle]
      by_cases e1 : q_sum (fun v => y (264 + v)) 25 + m ≤ 5000
      · rw [if_pos e1, if_pos e1]
        obtain ⟨sv, M1, k1, k2, kt, k3⟩ := q_keepS hF h
        obtain ⟨s', r', b1, b2, b3⟩ := q_brk (F := F) hm2 F 0 0 a3 (by omega) (by omega) (by omega)
        rw [k1, k2]
        simp only [q_bind]
        have b1' : f_X3_brokenAmong F (nI m) a3 = some (nI r') := by
          unfold f_X3_brokenAmong
          simp only [n_l0, b1, q_bind]
        have hI' := q_buy_I (r := r') hI hB ⟨ha1, ha2⟩ hm2 b3 e1
        have hu : q_by y a m r' = q_u (q_u (q_u (q_u y (239 + a) (y (239 + a) + r')) (214 + a) (y (214 + a) + (m - r'))) (264 + a) (y (264 + a) + m)) 13 (y 13 + m * q_pc a) := by
          unfold q_by
          rw [q_uc y (k := 264 + a) (l := 214 + a) _ _ (by omega), q_uc _ (k := 264 + a) (l := 239 + a) _ _ (by omega), q_uc y (k := 214 + a) (l := 239 + a) _ _ (by omega)]
        have ea : ∀ z w u : Nat, q_u (q_u y (264 + a) z) (214 + a) w (239 + a) = y (239 + a) := fun z w u => by rw [q_u_ne (by omega), q_u_ne (by omega)]
        rw [b1', q_bind, q_aAt (by omega) (by omega), q_bind, n_add, q_put (by omega), n_sub b3, q_aAt (by omega) (by omega), q_bind, n_add, q_put (by omega), q_aAt (by omega) (by omega), q_bind, n_add, q_put (by omega), q1_pc ha2, q_bind, q_zk, n_mul, n_add, q_zu]
        have b2' : f_X4_buy_L63 F (nI m) F a3 (nI 0) (nI 0) = some (s', nI r', nI m) := b2
        rw [b2']
        simp (disch := first | omega | assumption) only [q_bind, q_g, n_C, q_M_z, q_zk, n_add, n_sub, q_zu, q_M_s, q_M_d, q4_pc, n_mul, Sum.elim_inr]
        have f1 : ∀ z, q_u y (264 + a) z (214 + a) = y (214 + a) := fun z => q_u_ne (by omega)
        have f2 : ∀ z w, q_u (q_u y (264 + a) z) (214 + a) w (239 + a) = y (239 + a) := fun z w => by rw [q_u_ne (by omega), q_u_ne (by omega)]
        have f3 : ∀ z w u, q_u (q_u (q_u y (264 + a) z) (214 + a) w) (239 + a) u 13 = y 13 := fun z w u => by rw [q_u_ne (by omega), q_u_ne (by omega), q_u_ne (by omega)]
        have g1 : ∀ z, q_u y (239 + a) z (214 + a) = y (214 + a) := fun z => q_u_ne (by omega)
        have g2 : ∀ z w, q_u (q_u y (239 + a) z) (214 + a) w (264 + a) = y (264 + a) := fun z w => by rw [q_u_ne (by omega), q_u_ne (by omega)]
        have g3 : ∀ z w u, q_u (q_u (q_u y (239 + a) z) (214 + a) w) (264 + a) u 13 = y 13 := fun z w u => by rw [q_u_ne (by omega), q_u_ne (by omega), q_u_ne (by omega)]
        simp only [f1, f2, f3, g1, g2, g3]
        rw [← hu]
        exact ⟨nI 0, _, _, nI r', _, rfl, rfl, kt, fun _ => rfl, _, k3 _ _ _ _ hI' (by omega) (q_sm_rf _)⟩
      · rw [if_neg e1, if_neg e1, q_bind]
        exact q_bad (tr := q.2.1) h hB (Or.inr rfl)
end RR
