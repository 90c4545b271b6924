/-! whole numbers as ints: the pure problem works on naturals -/
theorem n_T {n : Nat} (h : n < 2147483648) : (nI n).toInt = (n : Int) := by
  show (Int32.ofNat n).toInt = n
  exact Int32.toInt_ofNat_of_lt (by omega)
theorem n_C {n : Nat} (h : n < 2147483648) : (nI n).toNatClampNeg = n := by
  show (nI n).toInt.toNat = n
  rw [n_T h]; rfl
theorem n_lt {a b : Nat} (ha : a < 2147483648) (hb : b < 2147483648) : (nI a < nI b) = (a < b) := by
  apply propext
  rw [Int32.lt_iff_toInt_lt, n_T ha, n_T hb]; omega
theorem n_le {a b : Nat} (ha : a < 2147483648) (hb : b < 2147483648) : (nI a ≤ nI b) = (a ≤ b) := by
  apply propext
  rw [Int32.le_iff_toInt_le, n_T ha, n_T hb]; omega
theorem n_eq {a b : Nat} (ha : a < 2147483648) (hb : b < 2147483648) : (nI a = nI b) = (a = b) := by
  apply propext
  rw [← Int32.toInt_inj, n_T ha, n_T hb]; omega
theorem n_add (a b : Nat) : nI a + nI b = nI (a + b) := (Int32.ofNat_add a b).symm
theorem n_mul (a b : Nat) : nI a * nI b = nI (a * b) := (Int32.ofNat_mul a b).symm
theorem n_sub {a b : Nat} (h : b ≤ a) : nI a - nI b = nI (a - b) := by
  have : nI a = nI (a - b) + nI b := by rw [n_add, Nat.sub_add_cancel h]
  rw [this, Int32.add_sub_cancel]
theorem n_l0 : (0 : Int32) = nI 0 := Eq.symm (Eq.symm (Eq.refl _))
theorem n_l1 : (1 : Int32) = nI 1 := Eq.symm (Eq.symm (Eq.refl _))
theorem n_l2 : (2 : Int32) = nI 2 := Eq.symm (Eq.symm (Eq.refl _))
theorem n_l3 : (3 : Int32) = nI 3 := Eq.symm (Eq.symm (Eq.refl _))
theorem n_l4 : (4 : Int32) = nI 4 := Eq.symm (Eq.symm (Eq.refl _))
theorem n_l5 : (5 : Int32) = nI 5 := Eq.symm (Eq.symm (Eq.refl _))
theorem n_l6 : (6 : Int32) = nI 6 := Eq.symm (Eq.symm (Eq.refl _))
theorem n_l7 : (7 : Int32) = nI 7 := Eq.symm (Eq.symm (Eq.refl _))
theorem n_l8 : (8 : Int32) = nI 8 := Eq.symm (Eq.symm (Eq.refl _))
theorem n_l9 : (9 : Int32) = nI 9 := Eq.symm (Eq.symm (Eq.refl _))
theorem n_l10 : (10 : Int32) = nI 10 := Eq.symm (Eq.symm (Eq.refl _))
theorem n_l11 : (11 : Int32) = nI 11 := Eq.symm (Eq.symm (Eq.refl _))
theorem n_l12 : (12 : Int32) = nI 12 := Eq.symm (Eq.symm (Eq.refl _))
theorem n_l13 : (13 : Int32) = nI 13 := Eq.symm (Eq.symm (Eq.refl _))
theorem n_l14 : (14 : Int32) = nI 14 := Eq.symm (Eq.symm (Eq.refl _))
theorem n_l15 : (15 : Int32) = nI 15 := Eq.symm (Eq.symm (Eq.refl _))
theorem n_l16 : (16 : Int32) = nI 16 := Eq.symm (Eq.symm (Eq.refl _))
theorem n_l17 : (17 : Int32) = nI 17 := Eq.symm (Eq.symm (Eq.refl _))
theorem n_l18 : (18 : Int32) = nI 18 := Eq.symm (Eq.symm (Eq.refl _))
theorem n_l19 : (19 : Int32) = nI 19 := Eq.symm (Eq.symm (Eq.refl _))
theorem n_l20 : (20 : Int32) = nI 20 := Eq.symm (Eq.symm (Eq.refl _))
theorem n_l21 : (21 : Int32) = nI 21 := Eq.symm (Eq.symm (Eq.refl _))
theorem n_l22 : (22 : Int32) = nI 22 := Eq.symm (Eq.symm (Eq.refl _))
theorem n_l23 : (23 : Int32) = nI 23 := Eq.symm (Eq.symm (Eq.refl _))
theorem n_l24 : (24 : Int32) = nI 24 := Eq.symm (Eq.symm (Eq.refl _))
theorem n_l25 : (25 : Int32) = nI 25 := Eq.symm (Eq.symm (Eq.refl _))
theorem n_l30 : (30 : Int32) = nI 30 := Eq.symm (Eq.symm (Eq.refl _))
theorem n_l31 : (31 : Int32) = nI 31 := Eq.symm (Eq.symm (Eq.refl _))
theorem n_l33 : (33 : Int32) = nI 33 := Eq.symm (Eq.symm (Eq.refl _))
theorem n_l48 : (48 : Int32) = nI 48 := Eq.symm (Eq.symm (Eq.refl _))
theorem n_l49 : (49 : Int32) = nI 49 := Eq.symm (Eq.symm (Eq.refl _))
theorem n_l57 : (57 : Int32) = nI 57 := Eq.symm (Eq.symm (Eq.refl _))
theorem n_l60 : (60 : Int32) = nI 60 := Eq.symm (Eq.symm (Eq.refl _))
theorem n_l100 : (100 : Int32) = nI 100 := Eq.symm (Eq.symm (Eq.refl _))
theorem n_l114 : (114 : Int32) = nI 114 := Eq.symm (Eq.symm (Eq.refl _))
theorem n_l115 : (115 : Int32) = nI 115 := Eq.symm (Eq.symm (Eq.refl _))
theorem n_l126 : (126 : Int32) = nI 126 := Eq.symm (Eq.symm (Eq.refl _))
theorem n_l200 : (200 : Int32) = nI 200 := Eq.symm (Eq.symm (Eq.refl _))
theorem n_l214 : (214 : Int32) = nI 214 := Eq.symm (Eq.symm (Eq.refl _))
theorem n_l239 : (239 : Int32) = nI 239 := Eq.symm (Eq.symm (Eq.refl _))
theorem n_l264 : (264 : Int32) = nI 264 := Eq.symm (Eq.symm (Eq.refl _))
theorem n_l294 : (294 : Int32) = nI 294 := Eq.symm (Eq.symm (Eq.refl _))
theorem n_l400 : (400 : Int32) = nI 400 := Eq.symm (Eq.symm (Eq.refl _))
theorem n_l1000 : (1000 : Int32) = nI 1000 := Eq.symm (Eq.symm (Eq.refl _))
theorem n_l1470 : (1470 : Int32) = nI 1470 := Eq.symm (Eq.symm (Eq.refl _))
theorem n_l5000 : (5000 : Int32) = nI 5000 := Eq.symm (Eq.symm (Eq.refl _))
theorem n_l1000000 : (1000000 : Int32) = nI 1000000 := Eq.symm (Eq.symm (Eq.refl _))
def nM : Int32 := -1
theorem n_nM : -nI 1 = nM := Eq.symm (Eq.symm (Eq.refl _))
theorem n_o (n : Nat) : Int32.ofNat n = nI n := Eq.symm (Eq.symm (Eq.refl _))
theorem n_div {a b : Nat} (ha : a < 2147483648) (h0 : 0 < b) (hb : b < 2147483648) : nI a / nI b = nI (a / b) := by
  apply Int32.toInt_inj.mp
  rw [Int32.toInt_div_of_ne_left, n_T ha, n_T hb, n_T (Nat.lt_of_le_of_lt (Nat.div_le_self a b) ha)]
  · rfl
  · intro h
    have := congrArg Int32.toInt h
    rw [n_T ha] at this
    have h2 : Int32.minValue.toInt = -2147483648 := by decide
    omega
theorem n_mod {a b : Nat} (ha : a < 2147483648) (h0 : 0 < b) (hb : b < 2147483648) : nI a - nI a / nI b * nI b = nI (a % b) := by
  rw [n_div ha h0 hb, n_mul, n_sub (Nat.div_mul_le_self a b)]
  exact congrArg nI (by have := Nat.div_add_mod' a b; omega)
theorem n_of {x : Int32} (h : ¬ x < 0) : ∃ j : Nat, j < 2147483648 ∧ x = nI j := by
  rw [Int32.lt_iff_toInt_lt] at h
  have h0 : (0 : Int32).toInt = 0 := by decide
  have hx := Int32.toInt_lt x
  refine ⟨x.toInt.toNat, by omega, Int32.toInt_inj.mp ?_⟩
  rw [n_T (by omega)]
  omega
theorem n_and (a b : Nat) : nI a &&& nI b = nI (a &&& b) := by
  apply Int32.toBitVec_inj.mp
  show BitVec.ofNat 32 a &&& BitVec.ofNat 32 b = BitVec.ofNat 32 (a &&& b)
  exact BitVec.ofNat_and.symm
theorem n_or (a b : Nat) : nI a ||| nI b = nI (a ||| b) := by
  apply Int32.toBitVec_inj.mp
  show BitVec.ofNat 32 a ||| BitVec.ofNat 32 b = BitVec.ofNat 32 (a ||| b)
  exact BitVec.ofNat_or.symm
theorem n_bv (a : Nat) : (nI a).toBitVec = BitVec.ofNat 32 a := rfl
theorem n_k31 : ∀ k, k < 32 → ((nI k).toUInt32 &&& (nI 31).toUInt32) = UInt32.ofNat k := by decide +kernel
theorem n_k31' : ∀ k, k < 32 → (nI k &&& nI 31) = nI k := by decide +kernel
theorem n_ushr {a k : Nat} (ha : a < 4294967296) (hk : k < 32) : ((nI a).toUInt32 >>> ((nI k).toUInt32 &&& (nI 31).toUInt32)).toInt32 = nI (a / 2 ^ k) := by
  rw [n_k31 k hk]
  apply Int32.toBitVec_inj.mp
  apply BitVec.eq_of_toNat_eq
  show ((UInt32.ofNat a) >>> (UInt32.ofNat k)).toNat = (BitVec.ofNat 32 (a / 2 ^ k)).toNat
  rw [UInt32.toNat_shiftRight, UInt32.toNat_ofNat', UInt32.toNat_ofNat', Nat.mod_eq_of_lt (show a < 2 ^ 32 from ha), Nat.mod_eq_of_lt (show k < 2 ^ 32 by omega), Nat.mod_eq_of_lt hk, BitVec.toNat_ofNat, Nat.shiftRight_eq_div_pow]
  exact (Nat.mod_eq_of_lt (Nat.lt_of_le_of_lt (Nat.div_le_self _ _) ha)).symm
theorem n_shr {a k : Nat} (ha : a < 2147483648) (hk : k < 32) : nI a >>> (nI k &&& nI 31) = nI (a / 2 ^ k) := by
  rw [n_k31' k hk]
  apply Int32.toInt_inj.mp
  rw [n_T (Nat.lt_of_le_of_lt (Nat.div_le_self _ _) ha)]
  have h1 : (nI a >>> nI k).toBitVec = (nI a).toBitVec.sshiftRight k := by
    rw [Int32.toBitVec_shiftRight]
    have h2 : ∀ j, j < 32 → ((nI j).toBitVec.smod 32).toNat = j := by decide +kernel
    show (nI a).toBitVec.sshiftRight ((nI k).toBitVec.smod 32).toNat = _
    rw [h2 k hk]
  rw [← Int32.toInt_toBitVec, h1, BitVec.toInt_sshiftRight, Int32.toInt_toBitVec, n_T ha, Int.shiftRight_eq_div_pow]
  norm_cast
theorem n_shl {k : Nat} (hk : k < 32) : nI 1 <<< (nI k &&& nI 31) = nI (2 ^ k) := by
  revert hk; revert k; decide +kernel
theorem n_and31 : ∀ {k : Nat}, k < 32 → nI (k &&& 31) = nI k := by decide +kernel
theorem n_shr' {a k : Nat} (ha : a < 2147483648) (hk : k < 32) : nI a >>> nI k = nI (a / 2 ^ k) := by
  have := n_shr ha hk
  rwa [n_and, n_and31 hk] at this
theorem n_shl' {k : Nat} (hk : k < 32) : nI 1 <<< nI k = nI (2 ^ k) := by
  have := n_shl hk
  rwa [n_and, n_and31 hk] at this
theorem n_MT : nM.toInt = -1 := by decide
theorem n_Mlt {k : Nat} (hk : k < 2147483648) : (nM < nI k) = True := by
  apply propext; rw [Int32.lt_iff_toInt_lt, n_MT, n_T hk]; simp only [iff_true]; omega
theorem n_Mle {k : Nat} (hk : k < 2147483648) : (nM ≤ nI k) = True := by
  apply propext; rw [Int32.le_iff_toInt_le, n_MT, n_T hk]; simp only [iff_true]; omega
theorem n_ltM {k : Nat} (hk : k < 2147483648) : (nI k < nM) = False := by
  apply propext; rw [Int32.lt_iff_toInt_lt, n_MT, n_T hk]; simp only [iff_false]; omega
theorem n_leM {k : Nat} (hk : k < 2147483648) : (nI k ≤ nM) = False := by
  apply propext; rw [Int32.le_iff_toInt_le, n_MT, n_T hk]; simp only [iff_false]; omega
theorem n_eqM {k : Nat} (hk : k < 2147483648) : (nI k = nM) = False := by
  apply propext; rw [← Int32.toInt_inj, n_MT, n_T hk]; simp only [iff_false]; omega
theorem n_Meq {k : Nat} (hk : k < 2147483648) : (nM = nI k) = False := by
  apply propext; rw [← Int32.toInt_inj, n_MT, n_T hk]; simp only [iff_false]; omega
theorem n_0M : nI 0 - nI 1 = nM := by decide
theorem n_sM (k : Nat) : nI (k + 1) + nM = nI k := by
  rw [← n_add, Int32.add_assoc, show nI 1 + nM = 0 by decide, Int32.add_zero]
theorem n_zM : nI 0 + nM = nM := by decide
theorem n_aM (x : Int32) : x + nM = x - nI 1 := by
  rw [Int32.sub_eq_add_neg]; rfl
