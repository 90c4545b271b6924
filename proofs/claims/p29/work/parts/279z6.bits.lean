/-! the bits of a double, and a quotient of two whole numbers -/
section RR
variable {c F : Nat} {q : Int}
theorem n_6or (a b : Nat) : Int64.ofNat a ||| Int64.ofNat b = Int64.ofNat (a ||| b) := by
  apply Int64.toBitVec_inj.mp
  rw [Int64.toBitVec_or]
  show BitVec.ofNat 64 a ||| BitVec.ofNat 64 b = BitVec.ofNat 64 (a ||| b)
  exact (BitVec.ofNat_or ..).symm
theorem n_6sh : ∀ E, E < 2048 → Int64.ofNat E <<< (((52 : Int32)).toInt64 &&& 63) = Int64.ofNat (4503599627370496 * E) := by decide +kernel
theorem n_6s {E : Nat} : Int64.ofNat (E + 1) - 1 = Int64.ofNat E := by
  have : Int64.ofNat (E + 1) = Int64.ofNat E + 1 := Int64.ofNat_add E 1
  rw [this, Int64.add_sub_cancel]
theorem q_Dn (h : q_nrm c q) : (q_D c q).toNat = 4503599627370496 * (q + 1075).toNat + (c - 4503599627370496) := by
  obtain ⟨b1, b2, b3, b4, b5⟩ := q_b64
  unfold q_D
  rw [FP.Core.toNat_of64 (q_Df h)]
  simp only [FP.Core.encode]
  obtain ⟨h1, h2, h3, h4⟩ := h
  rw [b4, if_neg (by omega)]
  unfold FP.Core.assemble
  rw [b2, b4, b5, show (q - -1074).toNat + 1 = (q + 1075).toNat by omega, show Bool.toNat false * 2048 = 0 by decide, Nat.zero_add, Nat.mul_comm]
theorem q_DI (h : q_nrm c q) : (Int64.ofNat (q + 1075).toNat <<< (((52 : Int32)).toInt64 &&& 63)) ||| Int64.ofNat (c - 4503599627370496) = (q_D c q).toInt64 := by
  have h5 := q_Dn h
  obtain ⟨h1, h2, h3, h4⟩ := h
  rw [n_6sh _ (by omega), n_6or]
  have h6 := Nat.two_pow_add_eq_or_of_lt (i := 52) (b := c - 4503599627370496) (show c - 4503599627370496 < 2 ^ 52 by omega) (q + 1075).toNat
  rw [show (2 : Nat) ^ 52 = 4503599627370496 by decide] at h6
  rw [← h6, ← h5]
  apply Int64.toBitVec_inj.mp
  apply BitVec.eq_of_toNat_eq
  show (BitVec.ofNat 64 (q_D c q).toNat).toNat = (q_D c q).toBitVec.toNat
  rw [BitVec.toNat_ofNat, UInt64.toNat_toBitVec]
  exact Nat.mod_eq_of_lt (q_D c q).toNat_lt
theorem q_i2d {n : Nat} (hn : n < 2147483648) : ∃ c q, FP.Core.val64 (FP.i2d (nI n)) = .fin false c q ∧ -1074 ≤ q ∧ c * 2 ^ (q - -1074).toNat = n * 2 ^ (0 - -1074 : Int).toNat := by
  obtain ⟨b1, b2, b3, b4, b5⟩ := q_b64
  have e1 : FP.Core.val64 (FP.i2d (nI n)) = FP.Core.round FP.Core.b64 (.fin false n 0) := by
    show FP.Core.val64 (FP.Core.i2d _) = _
    rw [FP.Core.val64_i2d, n_T hn]
    unfold FP.Core.ofInt
    rw [show decide ((n : Int) < 0) = false by rw [decide_eq_false_iff_not]; omega, Int.natAbs_natCast]
  obtain ⟨c', q', r1, r2⟩ := FP.Core.round_exact (f := FP.Core.b64) FP.Core.good_b64 false (c := n) (q := 0) (by rw [b1]; omega) (by rw [b2]; decide) (by rw [b3]; decide)
  have hf1 := FP.Core.round_fits FP.Core.good_b64 (FP.Core.Datum.fin false n 0)
  rw [r1] at e1 hf1
  unfold FP.Core.inUnits at r2
  rw [b2] at r2
  refine ⟨c', q', e1, by have := hf1.2.1; rw [b2] at this; exact this, r2⟩
theorem q_quo {n1 n2 : Nat} (h1 : 1 ≤ n1) (h1' : n1 < 2147483648) (h2 : 1 ≤ n2) (h2' : n2 < 2147483648) : ∃ c q, q_nrm c q ∧ FP.ddiv (FP.i2d (nI n1)) (FP.i2d (nI n2)) = q_D c q := by
  obtain ⟨b1, b2, b3, b4, b5⟩ := q_b64
  obtain ⟨c1, q1, v1, l1, m1⟩ := q_i2d h1'
  obtain ⟨c2, q2, v2, l2, m2⟩ := q_i2d h2'
  obtain ⟨k1, rfl⟩ : ∃ k : Nat, q1 = (k : Int) - 1074 := ⟨(q1 + 1074).toNat, by omega⟩
  obtain ⟨k2, rfl⟩ : ∃ k : Nat, q2 = (k : Int) - 1074 := ⟨(q2 + 1074).toNat, by omega⟩
  rw [show ((k1 : Int) - 1074 - -1074).toNat = k1 by omega] at m1
  rw [show ((k2 : Int) - 1074 - -1074).toNat = k2 by omega] at m2
  obtain ⟨u, hu⟩ : ∃ u : Nat, (0 - -1074 : Int).toNat = u := ⟨_, rfl⟩
  rw [hu] at m1 m2
  have hc2 : 0 < c2 := by
    rcases Nat.eq_zero_or_pos c2 with e | e
    · exfalso
      rw [e, Nat.zero_mul] at m2
      have := Nat.mul_pos (show 0 < n2 by omega) (Nat.two_pow_pos u)
      omega
    · exact e
  have e1 : FP.Core.val64 (FP.ddiv (FP.i2d (nI n1)) (FP.i2d (nI n2))) = FP.Core.roundRatio FP.Core.b64 false n1 n2 0 := by
    show FP.Core.val64 (FP.Core.ddiv _ _) = _
    rw [FP.Core.val64_ddiv, v1, v2]
    simp only [FP.Core.quotient]
    rw [if_neg (by omega)]
    refine FP.Core.roundRatio_congr hc2 (by omega) ?_
    rw [show ((k1 : Int) - 1074 - ((k2 : Int) - 1074) - 0).toNat = k1 - k2 by omega, show (0 - ((k1 : Int) - 1074 - ((k2 : Int) - 1074))).toNat = k2 - k1 by omega]
    refine Nat.eq_of_mul_eq_mul_right (Nat.two_pow_pos (min k1 k2)) ?_
    rw [Nat.mul_assoc (c1 * n2), ← Nat.pow_add, Nat.mul_assoc (n1 * c2), ← Nat.pow_add, show k1 - k2 + min k1 k2 = k1 by omega, show k2 - k1 + min k1 k2 = k2 by omega, Nat.mul_right_comm, m1, Nat.mul_assoc n1 c2, m2, Nat.mul_assoc, Nat.mul_comm (2 ^ u)]
  have g1 : n1.log2 < 31 := (Nat.log2_lt (by omega)).mpr (by omega)
  have g2 : n2.log2 < 31 := (Nat.log2_lt (by omega)).mpr (by omega)
  have hL : -32 ≤ FP.Core.leading n1 n2 ∧ FP.Core.leading n1 n2 ≤ 32 := by
    unfold FP.Core.leading
    simp only []
    split <;> omega
  have hQ : FP.Core.quantum FP.Core.b64 n1 n2 0 = FP.Core.leading n1 n2 - 52 := by
    unfold FP.Core.quantum
    rw [b1, b2]
    omega
  have hle := FP.Core.nearest_units_le (f := FP.Core.b64) (A := n1) (B := n2) (by omega) (by omega) 0
  have hge : FP.Core.b64.tails ≤ FP.Core.nearest (FP.Core.unitsNum n1 0 (FP.Core.quantum FP.Core.b64 n1 n2 0)) (FP.Core.unitsDen n2 0 (FP.Core.quantum FP.Core.b64 n1 n2 0)) := by
    rcases FP.Core.quantum_not_below (f := FP.Core.b64) (A := n1) (B := n2) (by omega) (by omega) 0 with h | h
    · exfalso; rw [hQ, b2] at h; omega
    · refine FP.Core.nearest_ge (FP.Core.unitsDen_pos (by omega) ..) ?_
      rw [show (FP.Core.b64.p : Int) - 1 = ((FP.Core.b64.p - 1 : Nat) : Int) by rw [b1]; rfl, ← FP.Core.units_below] at h
      exact Nat.le_of_not_lt h
  rw [hQ] at hle hge
  have e2 : FP.Core.roundRatio FP.Core.b64 false n1 n2 0 = FP.Core.settle FP.Core.b64 false (FP.Core.nearest (FP.Core.unitsNum n1 0 (FP.Core.leading n1 n2 - 52)) (FP.Core.unitsDen n2 0 (FP.Core.leading n1 n2 - 52))) (FP.Core.leading n1 n2 - 52) := by
    unfold FP.Core.roundRatio
    rw [if_neg (by omega), hQ]
    rfl
  generalize FP.Core.nearest (FP.Core.unitsNum n1 0 (FP.Core.leading n1 n2 - 52)) (FP.Core.unitsDen n2 0 (FP.Core.leading n1 n2 - 52)) = c0 at hle hge e2
  rw [b1] at hle
  rw [b4] at hge
  rw [e2] at e1
  unfold FP.Core.settle FP.Core.bound at e1
  rw [b1, b3, b4] at e1
  by_cases e3 : c0 < 2 ^ 53
  · rw [if_pos e3, if_pos (by omega)] at e1
    have hn : q_nrm c0 (FP.Core.leading n1 n2 - 52) := ⟨hge, by omega, by omega, by omega⟩
    exact ⟨c0, _, hn, q_eqD hn e1⟩
  · rw [if_neg e3, if_pos (by omega)] at e1
    have hn : q_nrm 4503599627370496 (FP.Core.leading n1 n2 - 52 + 1) := ⟨by omega, by omega, by omega, by omega⟩
    exact ⟨_, _, hn, q_eqD hn e1⟩
theorem q_quo0 {n2 : Nat} (h2 : 1 ≤ n2) (h2' : n2 < 2147483648) : FP.ddiv (FP.i2d (nI 0)) (FP.i2d (nI n2)) = FP.dconst0 := by
  obtain ⟨b1, b2, b3, b4, b5⟩ := q_b64
  obtain ⟨c2, q2, v2, l2, m2⟩ := q_i2d h2'
  have hc2 : c2 ≠ 0 := by
    intro e
    rw [e, Nat.zero_mul] at m2
    have := Nat.mul_pos (show 0 < n2 by omega) (Nat.two_pow_pos (0 - -1074 : Int).toNat)
    omega
  have v1 : FP.Core.val64 (FP.i2d (nI 0)) = .fin false 0 (-1074) := by decide +kernel
  refine FP.Core.val64_inj ?_ ?_
  · show FP.Core.val64 (FP.Core.ddiv _ _) ≠ _
    rw [FP.Core.val64_ddiv, v1, v2]
    simp only [FP.Core.quotient]
    rw [if_neg hc2]
    unfold FP.Core.roundRatio
    rw [if_pos rfl]
    intro h; cases h
  · show FP.Core.val64 (FP.Core.ddiv _ _) = _
    rw [FP.Core.val64_ddiv, v1, v2, q_0v]
    simp only [FP.Core.quotient]
    rw [if_neg hc2]
    unfold FP.Core.roundRatio
    rw [if_pos rfl, b2]
    rfl
end RR
