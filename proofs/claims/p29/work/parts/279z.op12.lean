/-! buy, recut, clearHeap -/
section RR
variable {B F : Nat} {y : Nat → Nat} {q : d_C} {M : d_M}
theorem q_I_ch {B' : Nat} {u : Nat → Nat} (hI : q_I B y) (hB : B' ≤ 1000000000) (hBB : B ≤ B') (e : ∀ j, (j ≤ 9 ∨ (14 ≤ j ∧ j < 214) ∨ 289 ≤ j) → u j = y j) (e12 : u 12 ≤ B') (e13 : u 13 ≤ B')
    (eh : ∀ v, v < 25 → u (214 + v) ≤ B' ∧ u (239 + v) ≤ B' ∧ u (264 + v) ≤ 5000 ∧ (v < 8 → u (214 + v) = 0 ∧ u (239 + v) = 0 ∧ u (264 + v) = 0)) (es : q_sum (fun v => u (264 + v)) 25 ≤ 5000) : q_I B' u := by
  obtain ⟨a0, a1, a2, a3, a4, a5, a6, a7, a8, a9, a12, a13, ac, av, as, ak, aB⟩ := hI
  unfold q_I
  rw [e 0 (by omega), e 1 (by omega), e 2 (by omega), e 3 (by omega), e 4 (by omega), e 5 (by omega), e 6 (by omega), e 7 (by omega), e 8 (by omega), e 9 (by omega)]
  refine ⟨a0, a1, a2, a3, a4, a5, by omega, a7, a8, a9, e12, e13, fun c hc => ?_, eh, es, fun k hk => ?_, hB⟩
  · rw [e (14 + c) (by omega), e (114 + c) (by omega)]; exact ac c hc
  · rw [e k (by omega)]; exact ak k hk
theorem q_ush (x : Int32) : ((x.toUInt32 >>> (((16 : Int32)).toUInt32 &&& Int32.toUInt32 31)).toInt32) &&& ((32767 : Int32)) = (x >>> (((16 : Int32)) &&& 31)) &&& ((32767 : Int32)) := by
  have e1 : (((16 : Int32)).toUInt32 &&& Int32.toUInt32 31) = UInt32.ofNat 16 := by decide
  have e2 : (((16 : Int32)) &&& 31) = (16 : Int32) := by decide
  rw [e1, e2]
  apply Int32.toBitVec_inj.mp
  rw [Int32.toBitVec_and, Int32.toBitVec_and, Int32.toBitVec_shiftRight]
  have e3 : ((16 : Int32).toBitVec.smod 32).toNat = 16 := by decide
  have e4 : (x.toUInt32 >>> UInt32.ofNat 16).toInt32.toBitVec = x.toBitVec >>> 16 := by
    show (x.toUInt32 >>> UInt32.ofNat 16).toBitVec = _
    rw [UInt32.toBitVec_shiftRight]
    rfl
  rw [e4]
  show _ = x.toBitVec.sshiftRight ((16 : Int32).toBitVec.smod 32).toNat &&& _
  rw [e3]
  apply BitVec.eq_of_getLsbD_eq
  intro i hi
  rw [BitVec.getLsbD_and, BitVec.getLsbD_and, BitVec.getLsbD_ushiftRight, BitVec.getLsbD_sshiftRight]
  by_cases h : i < 15
  · rw [if_pos (show 16 + i < 32 by omega)]
    simp only [show ¬ 32 ≤ i by omega, decide_false, Bool.not_false, Bool.true_and]
  · have e5 : ∀ j, j < 32 → ¬ j < 15 → (32767 : Int32).toBitVec.getLsbD j = false := by decide
    rw [e5 i hi h, Bool.and_false, Bool.and_false]
def q_by (y : Nat → Nat) (a m r : Nat) : Nat → Nat := q_u (q_u (q_u (q_u y (264 + a) (y (264 + a) + m)) (214 + a) (y (214 + a) + (m - r))) (239 + a) (y (239 + a) + r)) 13 (y 13 + m * q_pc a)
theorem q_buy_I {a m r : Nat} (hI : q_I B y) (hB : B + 20000 ≤ 1000000000) (ha : 8 ≤ a ∧ a ≤ 24) (hm : m ≤ 200) (hr : r ≤ m) (hs : q_sum (fun v => y (264 + v)) 25 + m ≤ 5000) : q_I (B + 20000) (q_by y a m r) := by
  have hp := q_pc_le ha.2
  have h13 := hI.2.2.2.2.2.2.2.2.2.2.2.1
  have h12 := hI.2.2.2.2.2.2.2.2.2.2.1
  have hv := hI.2.2.2.2.2.2.2.2.2.2.2.2.2.1
  have hmp : m * q_pc a ≤ 200 * 36 := Nat.mul_le_mul hm hp
  have e : ∀ j, j ≠ 264 + a → j ≠ 214 + a → j ≠ 239 + a → j ≠ 13 → q_by y a m r j = y j := fun j h1 h2 h3 h4 => by
    unfold q_by
    rw [q_u_ne h4, q_u_ne h3, q_u_ne h2, q_u_ne h1]
  have e1 : q_by y a m r 13 = y 13 + m * q_pc a := q_u_eq
  have e2 : q_by y a m r (239 + a) = y (239 + a) + r := by unfold q_by; rw [q_u_ne (by omega), q_u_eq]
  have e3 : q_by y a m r (214 + a) = y (214 + a) + (m - r) := by unfold q_by; rw [q_u_ne (by omega), q_u_ne (by omega), q_u_eq]
  have e4 : q_by y a m r (264 + a) = y (264 + a) + m := by unfold q_by; rw [q_u_ne (by omega), q_u_ne (by omega), q_u_ne (by omega), q_u_eq]
  have es : q_sum (fun v => q_by y a m r (264 + v)) 25 = q_sum (fun v => y (264 + v)) 25 + m := q_sum_u (i := a) (by omega) (fun k hk hn => e (264 + k) (by omega) (by omega) (by omega) (by omega)) e4
  have hle : ∀ w, w < 25 → q_by y a m r (264 + w) ≤ 5000 := fun w hw => by
    have := q_sum_mono (f := fun v => q_by y a m r (264 + v)) (m := w + 1) (n := 25) (by omega)
    have h2 : q_sum (fun v => q_by y a m r (264 + v)) (w + 1) = q_sum (fun v => q_by y a m r (264 + v)) w + q_by y a m r (264 + w) := rfl
    omega
  refine q_I_ch hI hB (by omega) (fun j hj => e j (by omega) (by omega) (by omega) (by omega)) (by rw [e 12 (by omega) (by omega) (by omega) (by omega)]; omega) (by rw [e1]; omega) (fun w hw => ?_) (by rw [es]; exact hs)
  have h0 := hv w hw
  by_cases hwa : w = a
  · subst hwa
    have := hle w hw
    rw [e2, e3]
    exact ⟨by omega, by omega, this, fun h8 => by omega⟩
  · rw [e (214 + w) (by omega) (by omega) (by omega) (by omega), e (239 + w) (by omega) (by omega) (by omega) (by omega), e (264 + w) (by omega) (by omega) (by omega) (by omega)]
    exact ⟨by omega, by omega, h0.2.2.1, h0.2.2.2⟩
end RR
