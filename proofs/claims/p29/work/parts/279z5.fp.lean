/-! doubles: a normal positive one is c times 2 to the q -/
section RR
variable {c : Nat} {q : Int}
def q_D (c : Nat) (q : Int) : UInt64 := FP.Core.of64 (.fin false c q)
def q_nrm (c : Nat) (q : Int) : Prop := 4503599627370496 ≤ c ∧ c < 9007199254740992 ∧ -1074 ≤ q ∧ q ≤ 971
theorem q_b64 : FP.Core.b64.p = 53 ∧ FP.Core.b64.qmin = -1074 ∧ FP.Core.b64.qmax = 971 ∧ FP.Core.b64.tails = 4503599627370496 ∧ FP.Core.b64.exps = 2048 := by decide +kernel
theorem q_Df (h : q_nrm c q) : FP.Core.fits FP.Core.b64 (.fin false c q) := by
  obtain ⟨h1, h2, h3, h4⟩ := h
  obtain ⟨e1, e2, e3, e4, e5⟩ := q_b64
  refine ⟨?_, ?_, ?_, Or.inr ?_⟩
  · rw [e1]; exact h2
  · rw [e2]; exact h3
  · rw [e3]; exact h4
  · rw [e4]; exact h1
theorem q_Dv (h : q_nrm c q) : FP.Core.val64 (q_D c q) = .fin false c q := FP.Core.val64_of64 (q_Df h)
theorem q_2v : FP.Core.val64 4611686018427387904 = .fin false 4503599627370496 (-51) := by decide +kernel
theorem q_1v : FP.Core.val64 FP.dconst1 = .fin false 4503599627370496 (-52) := by decide +kernel
theorem q_0v : FP.Core.val64 FP.dconst0 = .fin false 0 (-1074) := by decide +kernel
theorem q_52v : FP.Core.val64 4841369599423283200 = .fin false 4503599627370496 0 := by decide +kernel
theorem q_nn {a : UInt64} {s : Bool} {c : Nat} {q : Int} (h : FP.Core.val64 a = .fin s c q) : isNaN64 a = false := by
  have h1 := (FP.Core.fin_bits a).mp ⟨s, c, q, h⟩
  rw [Bool.eq_false_iff]
  intro h2
  simp only [isNaN64, decide_eq_true_eq, gt_iff_lt, UInt64.lt_iff_toNat_lt, UInt64.toNat_and] at h2
  have h3 : (0x7fffffffffffffff : UInt64).toNat = 2 ^ 63 - 1 := by decide
  have h4 : (0x7ff0000000000000 : UInt64).toNat = 9218868437227405312 := by decide
  rw [h3, h4, Nat.and_two_pow_sub_one_eq_mod] at h2
  omega
theorem q_eqD {a : UInt64} (h : q_nrm c q) (e : FP.Core.val64 a = .fin false c q) : a = q_D c q := by
  refine FP.Core.val64_inj ?_ ?_
  · rw [e]; intro h; cases h
  · rw [e, q_Dv h]
theorem q_Dhalf (h : q_nrm c q) (h' : q_nrm c (q - 1)) : FP.ddiv (q_D c q) 4611686018427387904 = q_D c (q - 1) := by
  refine q_eqD h' ?_
  show FP.Core.val64 (FP.Core.ddiv _ _) = _
  rw [FP.Core.val64_ddiv, q_Dv h, q_2v]
  simp only [FP.Core.quotient]
  rw [if_neg (by decide)]
  refine FP.Core.roundRatio_exact FP.Core.good_b64 (by decide) (q_Df h') ?_
  rw [show (q - -51 - (q - 1)).toNat = 52 by omega, show (q - 1 - (q - -51)).toNat = 0 by omega]
  omega
theorem q_Dtwice (h : q_nrm c q) (h' : q_nrm c (q + 1)) : FP.dmul (q_D c q) 4611686018427387904 = q_D c (q + 1) := by
  refine q_eqD h' ?_
  show FP.Core.val64 (FP.Core.dmul _ _) = _
  rw [FP.Core.val64_dmul, q_Dv h, q_2v]
  simp only [FP.Core.exactProduct, FP.Core.round]
  refine FP.Core.roundRatio_exact FP.Core.good_b64 (by decide) (q_Df h') ?_
  rw [show (q + -51 - (q + 1)).toNat = 0 by omega, show (q + 1 - (q + -51)).toNat = 52 by omega]
  omega
theorem q_ord (c d : Nat) (q r : Int) : FP.Core.order (.fin false c q) (.fin false d r) = some (compare ((c * 2 ^ (q - min q r).toNat : Nat) : Int) ((d * 2 ^ (r - min q r).toNat : Nat) : Int)) := rfl
theorem q_c2 (h : q_nrm c q) : (Op.cmpValue (FP.dcmp (q_D c q) 4611686018427387904) .l < 0) = (q < -51) := by
  have e : FP.dcmp (q_D c q) 4611686018427387904 = FP.Core.order (FP.Core.val64 (q_D c q)) (FP.Core.val64 4611686018427387904) := rfl
  rw [e, q_Dv h, q_2v, q_ord]
  obtain ⟨h1, h2, h3, h4⟩ := h
  apply propext
  by_cases e1 : q < -51
  · have e2 : min q (-51) = q := by omega
    obtain ⟨k, hk⟩ : ∃ k, (-51 - q).toNat = k + 1 := ⟨(-51 - q).toNat - 1, by omega⟩
    rw [e2, show (q - q).toNat = 0 by omega, hk]
    have e3 : compare ((c * 2 ^ 0 : Nat) : Int) ((4503599627370496 * 2 ^ (k + 1) : Nat) : Int) = .lt := by
      rw [Int.compare_eq_lt, Int.ofNat_lt, Nat.pow_succ]
      have := Nat.two_pow_pos k
      omega
    rw [e3]
    exact ⟨fun _ => e1, fun _ => by decide⟩
  · have e2 : min q (-51) = -51 := by omega
    rw [e2]
    have e3 : 4503599627370496 * 2 ^ (-51 - -51 : Int).toNat ≤ c * 2 ^ (q - -51).toNat := Nat.mul_le_mul h1 (Nat.pow_le_pow_right (by decide) (by omega))
    have e4 : ¬ ((c * 2 ^ (q - -51).toNat : Nat) : Int) < ((4503599627370496 * 2 ^ (-51 - -51 : Int).toNat : Nat) : Int) := by
      rw [Int.ofNat_lt]; omega
    have e5 : compare ((c * 2 ^ (q - -51).toNat : Nat) : Int) ((4503599627370496 * 2 ^ (-51 - -51 : Int).toNat : Nat) : Int) ≠ .lt := fun h => e4 (Int.compare_eq_lt.mp h)
    refine ⟨fun h => ?_, fun h => absurd h e1⟩
    exfalso
    revert h e5
    cases compare ((c * 2 ^ (q - -51).toNat : Nat) : Int) ((4503599627370496 * 2 ^ (-51 - -51 : Int).toNat : Nat) : Int)
    · intro e5 h; exact e5 rfl
    · intro e5 h; exact absurd h (by decide)
    · intro e5 h; exact absurd h (by decide)
theorem q_c1 (h : q_nrm c q) : (0 ≤ Op.cmpValue (FP.dcmp (q_D c q) FP.dconst1) .g) = (-52 ≤ q) := by
  have e : FP.dcmp (q_D c q) FP.dconst1 = FP.Core.order (FP.Core.val64 (q_D c q)) (FP.Core.val64 FP.dconst1) := rfl
  rw [e, q_Dv h, q_1v, q_ord]
  obtain ⟨h1, h2, h3, h4⟩ := h
  apply propext
  by_cases e1 : q < -52
  · have e2 : min q (-52) = q := by omega
    obtain ⟨k, hk⟩ : ∃ k, (-52 - q).toNat = k + 1 := ⟨(-52 - q).toNat - 1, by omega⟩
    rw [e2, show (q - q).toNat = 0 by omega, hk]
    have e3 : compare ((c * 2 ^ 0 : Nat) : Int) ((4503599627370496 * 2 ^ (k + 1) : Nat) : Int) = .lt := by
      rw [Int.compare_eq_lt, Int.ofNat_lt, Nat.pow_succ]
      have := Nat.two_pow_pos k
      omega
    rw [e3]
    exact ⟨fun h => absurd h (by decide), fun h => by omega⟩
  · have e2 : min q (-52) = -52 := by omega
    rw [e2]
    have e3 : 4503599627370496 * 2 ^ (-52 - -52 : Int).toNat ≤ c * 2 ^ (q - -52).toNat := Nat.mul_le_mul h1 (Nat.pow_le_pow_right (by decide) (by omega))
    have e4 : ¬ ((c * 2 ^ (q - -52).toNat : Nat) : Int) < ((4503599627370496 * 2 ^ (-52 - -52 : Int).toNat : Nat) : Int) := by
      rw [Int.ofNat_lt]; omega
    have e5 : compare ((c * 2 ^ (q - -52).toNat : Nat) : Int) ((4503599627370496 * 2 ^ (-52 - -52 : Int).toNat : Nat) : Int) ≠ .lt := fun h => e4 (Int.compare_eq_lt.mp h)
    refine ⟨fun h => by omega, fun h => ?_⟩
    revert e5
    cases compare ((c * 2 ^ (q - -52).toNat : Nat) : Int) ((4503599627370496 * 2 ^ (-52 - -52 : Int).toNat : Nat) : Int)
    · intro e5; exact absurd rfl e5
    · intro e5; decide
    · intro e5; decide
theorem q_c0 (h : q_nrm c q) : 0 < Op.cmpValue (FP.dcmp (q_D c q) FP.dconst0) .l := by
  have e : FP.dcmp (q_D c q) FP.dconst0 = FP.Core.order (FP.Core.val64 (q_D c q)) (FP.Core.val64 FP.dconst0) := rfl
  rw [e, q_Dv h, q_0v, q_ord, Nat.zero_mul]
  have h1 := Nat.mul_pos (show 0 < c from by have := h.1; omega) (Nat.two_pow_pos (q - min q (-1074)).toNat)
  have e3 : compare ((c * 2 ^ (q - min q (-1074)).toNat : Nat) : Int) ((0 : Nat) : Int) = .gt := by
    rw [Int.compare_eq_gt, Int.ofNat_lt]
    exact h1
  rw [e3]
  decide
theorem q_fr (h : q_nrm c (-52)) : isNaN64 (FP.dsub (q_D c (-52)) FP.dconst1) = false ∧ isNaN64 (FP.dmul (FP.dsub (q_D c (-52)) FP.dconst1) 4841369599423283200) = false ∧ FP.d2l (FP.dmul (FP.dsub (q_D c (-52)) FP.dconst1) 4841369599423283200) = Int64.ofNat (c - 4503599627370496) := by
  obtain ⟨t, rfl⟩ : ∃ t, c = 4503599627370496 + t := ⟨c - 4503599627370496, by have := h.1; omega⟩
  have ht : t < 4503599627370496 := by have := h.2.1; omega
  obtain ⟨b1, b2, b3, b4, b5⟩ := q_b64
  have htp : t < 2 ^ FP.Core.b64.p := by rw [b1]; omega
  have e1 : FP.Core.val64 (FP.dsub (q_D (4503599627370496 + t) (-52)) FP.dconst1) = FP.Core.round FP.Core.b64 (.fin false t (-52)) := by
    show FP.Core.val64 (FP.Core.dsub _ _) = _
    rw [FP.Core.val64_dsub, q_Dv h, q_1v]
    have e2 : FP.Core.sumUnits false (4503599627370496 + t) (-52) true 4503599627370496 (-52) (min (-52) (-52)) = (t : Int) := by
      show ((4503599627370496 + t) * 2 ^ 0 : Nat) + -((4503599627370496 * 2 ^ 0 : Nat) : Int) = (t : Int)
      omega
    have e3 : FP.Core.sumSign false true (t : Int) = false := by
      unfold FP.Core.sumSign
      split
      · rfl
      · rw [decide_eq_false_iff_not]; omega
    simp only [FP.Core.negate, FP.Core.exactSum, Bool.not_false]
    rw [e2, e3]
    rfl
  obtain ⟨c', q', r1, r2⟩ := FP.Core.round_exact (f := FP.Core.b64) FP.Core.good_b64 false (c := t) (q := -52) htp (by rw [b2]; decide) (by rw [b3]; decide)
  have hf1 := FP.Core.round_fits FP.Core.good_b64 (FP.Core.Datum.fin false t (-52))
  rw [r1] at e1 hf1
  have e4 : FP.Core.val64 (FP.dmul (FP.dsub (q_D (4503599627370496 + t) (-52)) FP.dconst1) 4841369599423283200) = FP.Core.round FP.Core.b64 (.fin false t 0) := by
    show FP.Core.val64 (FP.Core.dmul _ _) = _
    rw [FP.Core.val64_dmul, e1, q_52v]
    simp only [FP.Core.exactProduct, FP.Core.round]
    refine FP.Core.roundRatio_congr (by decide) (by decide) ?_
    have hq1 : -1074 ≤ q' := by have := hf1.2.1; rw [b2] at this; exact this
    unfold FP.Core.inUnits at r2
    rw [b2] at r2
    obtain ⟨u, hu⟩ : ∃ u : Nat, u = 1022 := ⟨_, rfl⟩
    rw [show (-52 - -1074 : Int).toNat = u by rw [hu]; decide] at r2
    obtain ⟨k, rfl⟩ : ∃ k : Nat, q' = (k : Int) - 1074 := ⟨(q' + 1074).toNat, by omega⟩
    rw [show ((k : Int) - 1074 - -1074).toNat = k by omega] at r2
    rw [show ((k : Int) - 1074 + 0 - 0).toNat = k - 1074 by omega, show (0 - ((k : Int) - 1074 + 0)).toNat = 1074 - k by omega, Nat.mul_one, Nat.mul_one]
    have hp : 0 < 2 ^ (min k 1074) := Nat.two_pow_pos _
    refine Nat.eq_of_mul_eq_mul_right hp ?_
    rw [Nat.mul_assoc (c' * 4503599627370496), ← Nat.pow_add, Nat.mul_assoc t, ← Nat.pow_add, show k - 1074 + min k 1074 = k by omega, show 1074 - k + min k 1074 = u + 52 by omega, Nat.pow_add 2 u 52, ← Nat.mul_assoc, ← r2]
    rw [Nat.mul_right_comm, show (2 : Nat) ^ 52 = 4503599627370496 by decide]
  obtain ⟨c2, q2, s1, s2⟩ := FP.Core.round_exact (f := FP.Core.b64) FP.Core.good_b64 false (c := t) (q := 0) htp (by rw [b2]; decide) (by rw [b3]; decide)
  have hf2 := FP.Core.round_fits FP.Core.good_b64 (FP.Core.Datum.fin false t 0)
  rw [s1] at e4 hf2
  refine ⟨q_nn e1, q_nn e4, ?_⟩
  have e5 : FP.d2l (FP.dmul (FP.dsub (q_D (4503599627370496 + t) (-52)) FP.dconst1) 4841369599423283200) = FP.Core.toL (FP.Core.val64 (FP.dmul (FP.dsub (q_D (4503599627370496 + t) (-52)) FP.dconst1) 4841369599423283200)) := rfl
  rw [e5, e4]
  have e6 : FP.Core.truncate false c2 q2 = (t : Int) := by
    unfold FP.Core.truncate
    show ((c2 * 2 ^ q2.toNat / 2 ^ (-q2).toNat : Nat) : Int) = (t : Int)
    have hq1 : -1074 ≤ q2 := by have := hf2.2.1; rw [b2] at this; exact this
    unfold FP.Core.inUnits at s2
    rw [b2, show (0 - -1074 : Int).toNat = 1074 by decide] at s2
    obtain ⟨k, rfl⟩ : ∃ k : Nat, q2 = (k : Int) - 1074 := ⟨(q2 + 1074).toNat, by omega⟩
    rw [show ((k : Int) - 1074 - -1074).toNat = k by omega] at s2
    rw [show ((k : Int) - 1074).toNat = k - 1074 by omega, show (-((k : Int) - 1074)).toNat = 1074 - k by omega]
    congr 1
    have hp : 0 < 2 ^ (min k 1074) := Nat.two_pow_pos _
    have h7 : c2 * 2 ^ (k - 1074) = t * 2 ^ (1074 - k) := by
      refine Nat.eq_of_mul_eq_mul_right hp ?_
      rw [Nat.mul_assoc, ← Nat.pow_add, Nat.mul_assoc, ← Nat.pow_add, show k - 1074 + min k 1074 = k by omega, show 1074 - k + min k 1074 = 1074 by omega]
      exact s2
    rw [h7]
    exact Nat.mul_div_cancel _ (Nat.two_pow_pos _)
  unfold FP.Core.toL FP.Core.toInt
  simp only []
  rw [e6, show max (-2 ^ 63 : Int) (min (2 ^ 63 - 1) (t : Int)) = (t : Int) by omega, Nat.add_sub_cancel_left]
  exact Int64.ofInt_eq_ofNat ..
end RR
