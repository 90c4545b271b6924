/-! SlateRoof.isWithin(III)Z -/
set_option maxRecDepth 100000 in
def f_X3_isWithin (F : Nat) (a1 : Int32) (a2 : Int32) (a3 : Int32) : Option (Int32) := (if a1 < a2 then some ((0 : Int32)) else (if a3 < a1 then some ((0 : Int32)) else some ((1 : Int32))))
set_option maxHeartbeats 4000000 in
set_option maxRecDepth 100000 in
theorem c_X3_isWithin (l : Launch) (g : a_G) (F : Nat) {h : List va_E} {a1 : Int32} {a2 : Int32} {a3 : Int32} {out : Int32} (hf : f_X3_isWithin F a1 a2 a3 = some out) : a_CT l g yX3_isWithin cX3_isWithin 3 (some .boolean) (a_rm 0 0) [.int a1, .int a2, .int a3] h none none (fun r h' => r = some (.int out) ∧ h' = h) := by
  refine a_enter ⟨by decide, rfl, Nat.le_of_ble_eq_true rfl⟩ (fun p e s m args below meth c hr hin => ?_)
  unfold f_X3_isWithin at hf
  refine a_sub (ls' := [(0, .int a1), (1, .int a2), (2, .int a3)]) [0, 1, 2] rfl ?_
  refine a_iload_n (pc' := 1) 0 dX3_isWithin_0 rfl rfl rfl ?_
  refine a_iload_n (pc' := 2) 1 dX3_isWithin_1 rfl rfl rfl ?_
  refine a_icmp_lt (pc' := 5) 14 dX3_isWithin_2 (by decide) rfl (fun k1 => ?_) (fun k1 => ?_)
  · replace hf := (if_pos k1).symm.trans hf
    refine a_iconst (pc' := 15) (v := (0 : Int32)) dX3_isWithin_14 rfl (by decide) ?_
    cases hf
    exact a_zret hr rfl ⟨rfl, rfl⟩ dX3_isWithin_15
  · replace hf := (if_neg k1).symm.trans hf
    refine a_iload_n (pc' := 6) 0 dX3_isWithin_5 rfl rfl rfl ?_
    refine a_iload_n (pc' := 7) 2 dX3_isWithin_6 rfl rfl rfl ?_
    refine a_icmp_gt (pc' := 10) 14 dX3_isWithin_7 (by decide) rfl (fun k2 => ?_) (fun k2 => ?_)
    · replace hf := (if_pos k2).symm.trans hf
      refine a_iconst (pc' := 15) (v := (0 : Int32)) dX3_isWithin_14 rfl (by decide) ?_
      cases hf
      exact a_zret hr rfl ⟨rfl, rfl⟩ dX3_isWithin_15
    · replace hf := (if_neg k2).symm.trans hf
      refine a_iconst (pc' := 11) (v := (1 : Int32)) dX3_isWithin_10 rfl (by decide) ?_
      refine a_goto 15 dX3_isWithin_11 (by decide) ?_
      cases hf
      exact a_zret hr rfl ⟨rfl, rfl⟩ dX3_isWithin_15
/-! SlateRoof.valueAt([II)I -/
set_option maxRecDepth 100000 in
def f_X3_valueAt (F : Nat) (na : Nat) (f : d_Z) (a1 : Int32) : Option (Int32) := (if a1 < 0 then some ((0 : Int32)) else (if (Int32.ofNat na) ≤ a1 then some ((0 : Int32)) else f_grd a1 na (some (f a1.toNatClampNeg))))
set_option maxHeartbeats 4000000 in
set_option maxRecDepth 100000 in
theorem c_X3_valueAt (l : Launch) (g : a_G) (F : Nat) {h : List va_E} {a : Nat} {na : Nat} {f : d_Z} {a1 : Int32} (hz : d_arr h a na 0 f) {out : Int32} (hf : f_X3_valueAt F na f a1 = some out) : a_CT l g yX3_valueAt cX3_valueAt 2 (some .int) (a_rm 0 0) [.ref a, .int a1] h none none (fun r h' => r = some (.int out) ∧ h' = h) := by
  refine a_enter ⟨by decide, rfl, Nat.le_of_ble_eq_true rfl⟩ (fun p e s m args below meth c hr hin => ?_)
  unfold f_X3_valueAt at hf
  refine a_sub (ls' := [(0, .ref a), (1, .int a1)]) [0, 1] rfl ?_
  refine a_iload_n (pc' := 1) 1 dX3_valueAt_0 rfl rfl rfl ?_
  refine a_if_lt (pc' := 4) 16 dX3_valueAt_1 (by decide) rfl (fun k1 => ?_) (fun k1 => ?_)
  · replace hf := (if_pos k1).symm.trans hf
    refine a_iconst (pc' := 17) (v := (0 : Int32)) dX3_valueAt_16 rfl (by decide) ?_
    cases hf
    exact a_iret hr ⟨rfl, rfl⟩ dX3_valueAt_17
  · replace hf := (if_neg k1).symm.trans hf
    refine a_iload_n (pc' := 5) 1 dX3_valueAt_4 rfl rfl rfl ?_
    refine a_aload_n (pc' := 6) 0 dX3_valueAt_5 rfl rfl rfl ?_
    refine b_alen (pc' := 7) (kd := 0) (by decide) hz dX3_valueAt_6 rfl ?_
    refine a_icmp_ge (pc' := 10) 16 dX3_valueAt_7 (by decide) rfl (fun k2 => ?_) (fun k2 => ?_)
    · replace hf := (if_pos k2).symm.trans hf
      refine a_iconst (pc' := 17) (v := (0 : Int32)) dX3_valueAt_16 rfl (by decide) ?_
      cases hf
      exact a_iret hr ⟨rfl, rfl⟩ dX3_valueAt_17
    · replace hf := (if_neg k2).symm.trans hf
      refine a_aload_n (pc' := 11) 0 dX3_valueAt_10 rfl rfl rfl ?_
      refine a_iload_n (pc' := 12) 1 dX3_valueAt_11 rfl rfl rfl ?_
      obtain ⟨hg, hf⟩ := f_grd_x hf
      refine b_iald (pc' := 13) hz hg dX3_valueAt_12 rfl ?_
      refine a_goto 17 dX3_valueAt_13 (by decide) ?_
      cases hf
      exact a_iret hr ⟨rfl, rfl⟩ dX3_valueAt_17
/-! java/lang/Integer.bitCount(I)I -/
set_option maxRecDepth 100000 in
def f_J6_bitCount (F : Nat) (a1 : Int32) : Option (Int32) := some ((((((((a1 - (((a1.toUInt32 >>> (((1 : Int32)).toUInt32 &&& Int32.toUInt32 31)).toInt32) &&& ((1431655765 : Int32)))) &&& ((858993459 : Int32))) + ((((a1 - (((a1.toUInt32 >>> (((1 : Int32)).toUInt32 &&& Int32.toUInt32 31)).toInt32) &&& ((1431655765 : Int32)))).toUInt32 >>> (((2 : Int32)).toUInt32 &&& Int32.toUInt32 31)).toInt32) &&& ((858993459 : Int32)))) + (((((a1 - (((a1.toUInt32 >>> (((1 : Int32)).toUInt32 &&& Int32.toUInt32 31)).toInt32) &&& ((1431655765 : Int32)))) &&& ((858993459 : Int32))) + ((((a1 - (((a1.toUInt32 >>> (((1 : Int32)).toUInt32 &&& Int32.toUInt32 31)).toInt32) &&& ((1431655765 : Int32)))).toUInt32 >>> (((2 : Int32)).toUInt32 &&& Int32.toUInt32 31)).toInt32) &&& ((858993459 : Int32)))).toUInt32 >>> (((4 : Int32)).toUInt32 &&& Int32.toUInt32 31)).toInt32)) &&& ((252645135 : Int32))) + (((((((a1 - (((a1.toUInt32 >>> (((1 : Int32)).toUInt32 &&& Int32.toUInt32 31)).toInt32) &&& ((1431655765 : Int32)))) &&& ((858993459 : Int32))) + ((((a1 - (((a1.toUInt32 >>> (((1 : Int32)).toUInt32 &&& Int32.toUInt32 31)).toInt32) &&& ((1431655765 : Int32)))).toUInt32 >>> (((2 : Int32)).toUInt32 &&& Int32.toUInt32 31)).toInt32) &&& ((858993459 : Int32)))) + (((((a1 - (((a1.toUInt32 >>> (((1 : Int32)).toUInt32 &&& Int32.toUInt32 31)).toInt32) &&& ((1431655765 : Int32)))) &&& ((858993459 : Int32))) + ((((a1 - (((a1.toUInt32 >>> (((1 : Int32)).toUInt32 &&& Int32.toUInt32 31)).toInt32) &&& ((1431655765 : Int32)))).toUInt32 >>> (((2 : Int32)).toUInt32 &&& Int32.toUInt32 31)).toInt32) &&& ((858993459 : Int32)))).toUInt32 >>> (((4 : Int32)).toUInt32 &&& Int32.toUInt32 31)).toInt32)) &&& ((252645135 : Int32))).toUInt32 >>> (((8 : Int32)).toUInt32 &&& Int32.toUInt32 31)).toInt32)) + ((((((((a1 - (((a1.toUInt32 >>> (((1 : Int32)).toUInt32 &&& Int32.toUInt32 31)).toInt32) &&& ((1431655765 : Int32)))) &&& ((858993459 : Int32))) + ((((a1 - (((a1.toUInt32 >>> (((1 : Int32)).toUInt32 &&& Int32.toUInt32 31)).toInt32) &&& ((1431655765 : Int32)))).toUInt32 >>> (((2 : Int32)).toUInt32 &&& Int32.toUInt32 31)).toInt32) &&& ((858993459 : Int32)))) + (((((a1 - (((a1.toUInt32 >>> (((1 : Int32)).toUInt32 &&& Int32.toUInt32 31)).toInt32) &&& ((1431655765 : Int32)))) &&& ((858993459 : Int32))) + ((((a1 - (((a1.toUInt32 >>> (((1 : Int32)).toUInt32 &&& Int32.toUInt32 31)).toInt32) &&& ((1431655765 : Int32)))).toUInt32 >>> (((2 : Int32)).toUInt32 &&& Int32.toUInt32 31)).toInt32) &&& ((858993459 : Int32)))).toUInt32 >>> (((4 : Int32)).toUInt32 &&& Int32.toUInt32 31)).toInt32)) &&& ((252645135 : Int32))) + (((((((a1 - (((a1.toUInt32 >>> (((1 : Int32)).toUInt32 &&& Int32.toUInt32 31)).toInt32) &&& ((1431655765 : Int32)))) &&& ((858993459 : Int32))) + ((((a1 - (((a1.toUInt32 >>> (((1 : Int32)).toUInt32 &&& Int32.toUInt32 31)).toInt32) &&& ((1431655765 : Int32)))).toUInt32 >>> (((2 : Int32)).toUInt32 &&& Int32.toUInt32 31)).toInt32) &&& ((858993459 : Int32)))) + (((((a1 - (((a1.toUInt32 >>> (((1 : Int32)).toUInt32 &&& Int32.toUInt32 31)).toInt32) &&& ((1431655765 : Int32)))) &&& ((858993459 : Int32))) + ((((a1 - (((a1.toUInt32 >>> (((1 : Int32)).toUInt32 &&& Int32.toUInt32 31)).toInt32) &&& ((1431655765 : Int32)))).toUInt32 >>> (((2 : Int32)).toUInt32 &&& Int32.toUInt32 31)).toInt32) &&& ((858993459 : Int32)))).toUInt32 >>> (((4 : Int32)).toUInt32 &&& Int32.toUInt32 31)).toInt32)) &&& ((252645135 : Int32))).toUInt32 >>> (((8 : Int32)).toUInt32 &&& Int32.toUInt32 31)).toInt32)).toUInt32 >>> (((16 : Int32)).toUInt32 &&& Int32.toUInt32 31)).toInt32)) &&& ((63 : Int32)))
set_option maxHeartbeats 4000000 in
set_option maxRecDepth 100000 in
theorem c_J6_bitCount (l : Launch) (g : a_G) (F : Nat) {h : List va_E} {a1 : Int32} {out : Int32} (hf : f_J6_bitCount F a1 = some out) : a_CT l g yJ6_bitCount_0f7a4 cJ6_bitCount_0f7a4 1 (some .int) (a_rm 0 0) [.int a1] h none none (fun r h' => r = some (.int out) ∧ h' = h) := by
  refine a_enter ⟨by decide, rfl, Nat.le_of_ble_eq_true rfl⟩ (fun p e s m args below meth c hr hin => ?_)
  unfold f_J6_bitCount at hf
  refine a_sub (ls' := [(0, .int a1)]) [0] rfl ?_
  refine a_iload_n (pc' := 1) 0 dJ6_bitCount_0f7a4_0 rfl rfl rfl ?_
  refine a_iload_n (pc' := 2) 0 dJ6_bitCount_0f7a4_1 rfl rfl rfl ?_
  refine a_iconst (pc' := 3) (v := (1 : Int32)) dJ6_bitCount_0f7a4_2 rfl (by decide) ?_
  refine a_iushr (pc' := 4) dJ6_bitCount_0f7a4_3 rfl ?_
  refine a_ldcw (pc' := 7) (v := (1431655765 : Int32)) (a_in2 12 rfl rfl) dJ6_bitCount_0f7a4_4 rfl ?_
  refine a_iand (pc' := 8) dJ6_bitCount_0f7a4_7 rfl ?_
  refine a_isub (pc' := 9) dJ6_bitCount_0f7a4_8 rfl ?_
  refine a_istore_n (pc' := 10) (ls' := [(0, .int (a1 - (((a1.toUInt32 >>> (((1 : Int32)).toUInt32 &&& Int32.toUInt32 31)).toInt32) &&& ((1431655765 : Int32)))))]) dJ6_bitCount_0f7a4_9 rfl (by decide) rfl rfl ?_
  refine a_iload_n (pc' := 11) 0 dJ6_bitCount_0f7a4_10 rfl rfl rfl ?_
  refine a_ldcw (pc' := 14) (v := (858993459 : Int32)) (a_in2 13 rfl rfl) dJ6_bitCount_0f7a4_11 rfl ?_
  refine a_iand (pc' := 15) dJ6_bitCount_0f7a4_14 rfl ?_
  refine a_iload_n (pc' := 16) 0 dJ6_bitCount_0f7a4_15 rfl rfl rfl ?_
  refine a_iconst (pc' := 17) (v := (2 : Int32)) dJ6_bitCount_0f7a4_16 rfl (by decide) ?_
  refine a_iushr (pc' := 18) dJ6_bitCount_0f7a4_17 rfl ?_
  refine a_ldcw (pc' := 21) (v := (858993459 : Int32)) (a_in2 13 rfl rfl) dJ6_bitCount_0f7a4_18 rfl ?_
  refine a_iand (pc' := 22) dJ6_bitCount_0f7a4_21 rfl ?_
  refine a_iadd (pc' := 23) dJ6_bitCount_0f7a4_22 rfl ?_
  refine a_istore_n (pc' := 24) (ls' := [(0, .int (((a1 - (((a1.toUInt32 >>> (((1 : Int32)).toUInt32 &&& Int32.toUInt32 31)).toInt32) &&& ((1431655765 : Int32)))) &&& ((858993459 : Int32))) + ((((a1 - (((a1.toUInt32 >>> (((1 : Int32)).toUInt32 &&& Int32.toUInt32 31)).toInt32) &&& ((1431655765 : Int32)))).toUInt32 >>> (((2 : Int32)).toUInt32 &&& Int32.toUInt32 31)).toInt32) &&& ((858993459 : Int32)))))]) dJ6_bitCount_0f7a4_23 rfl (by decide) rfl rfl ?_
  refine a_iload_n (pc' := 25) 0 dJ6_bitCount_0f7a4_24 rfl rfl rfl ?_
  refine a_iload_n (pc' := 26) 0 dJ6_bitCount_0f7a4_25 rfl rfl rfl ?_
  refine a_iconst (pc' := 27) (v := (4 : Int32)) dJ6_bitCount_0f7a4_26 rfl (by decide) ?_
  refine a_iushr (pc' := 28) dJ6_bitCount_0f7a4_27 rfl ?_
  refine a_iadd (pc' := 29) dJ6_bitCount_0f7a4_28 rfl ?_
  refine a_ldcw (pc' := 32) (v := (252645135 : Int32)) (a_in2 14 rfl rfl) dJ6_bitCount_0f7a4_29 rfl ?_
  refine a_iand (pc' := 33) dJ6_bitCount_0f7a4_32 rfl ?_
  refine a_istore_n (pc' := 34) (ls' := [(0, .int (((((a1 - (((a1.toUInt32 >>> (((1 : Int32)).toUInt32 &&& Int32.toUInt32 31)).toInt32) &&& ((1431655765 : Int32)))) &&& ((858993459 : Int32))) + ((((a1 - (((a1.toUInt32 >>> (((1 : Int32)).toUInt32 &&& Int32.toUInt32 31)).toInt32) &&& ((1431655765 : Int32)))).toUInt32 >>> (((2 : Int32)).toUInt32 &&& Int32.toUInt32 31)).toInt32) &&& ((858993459 : Int32)))) + (((((a1 - (((a1.toUInt32 >>> (((1 : Int32)).toUInt32 &&& Int32.toUInt32 31)).toInt32) &&& ((1431655765 : Int32)))) &&& ((858993459 : Int32))) + ((((a1 - (((a1.toUInt32 >>> (((1 : Int32)).toUInt32 &&& Int32.toUInt32 31)).toInt32) &&& ((1431655765 : Int32)))).toUInt32 >>> (((2 : Int32)).toUInt32 &&& Int32.toUInt32 31)).toInt32) &&& ((858993459 : Int32)))).toUInt32 >>> (((4 : Int32)).toUInt32 &&& Int32.toUInt32 31)).toInt32)) &&& ((252645135 : Int32))))]) dJ6_bitCount_0f7a4_33 rfl (by decide) rfl rfl ?_
  refine a_iload_n (pc' := 35) 0 dJ6_bitCount_0f7a4_34 rfl rfl rfl ?_
  refine a_iload_n (pc' := 36) 0 dJ6_bitCount_0f7a4_35 rfl rfl rfl ?_
  refine a_bipush (pc' := 38) (v := (8 : Int32)) dJ6_bitCount_0f7a4_36 rfl (by decide) ?_
  refine a_iushr (pc' := 39) dJ6_bitCount_0f7a4_38 rfl ?_
  refine a_iadd (pc' := 40) dJ6_bitCount_0f7a4_39 rfl ?_
  refine a_istore_n (pc' := 41) (ls' := [(0, .int ((((((a1 - (((a1.toUInt32 >>> (((1 : Int32)).toUInt32 &&& Int32.toUInt32 31)).toInt32) &&& ((1431655765 : Int32)))) &&& ((858993459 : Int32))) + ((((a1 - (((a1.toUInt32 >>> (((1 : Int32)).toUInt32 &&& Int32.toUInt32 31)).toInt32) &&& ((1431655765 : Int32)))).toUInt32 >>> (((2 : Int32)).toUInt32 &&& Int32.toUInt32 31)).toInt32) &&& ((858993459 : Int32)))) + (((((a1 - (((a1.toUInt32 >>> (((1 : Int32)).toUInt32 &&& Int32.toUInt32 31)).toInt32) &&& ((1431655765 : Int32)))) &&& ((858993459 : Int32))) + ((((a1 - (((a1.toUInt32 >>> (((1 : Int32)).toUInt32 &&& Int32.toUInt32 31)).toInt32) &&& ((1431655765 : Int32)))).toUInt32 >>> (((2 : Int32)).toUInt32 &&& Int32.toUInt32 31)).toInt32) &&& ((858993459 : Int32)))).toUInt32 >>> (((4 : Int32)).toUInt32 &&& Int32.toUInt32 31)).toInt32)) &&& ((252645135 : Int32))) + (((((((a1 - (((a1.toUInt32 >>> (((1 : Int32)).toUInt32 &&& Int32.toUInt32 31)).toInt32) &&& ((1431655765 : Int32)))) &&& ((858993459 : Int32))) + ((((a1 - (((a1.toUInt32 >>> (((1 : Int32)).toUInt32 &&& Int32.toUInt32 31)).toInt32) &&& ((1431655765 : Int32)))).toUInt32 >>> (((2 : Int32)).toUInt32 &&& Int32.toUInt32 31)).toInt32) &&& ((858993459 : Int32)))) + (((((a1 - (((a1.toUInt32 >>> (((1 : Int32)).toUInt32 &&& Int32.toUInt32 31)).toInt32) &&& ((1431655765 : Int32)))) &&& ((858993459 : Int32))) + ((((a1 - (((a1.toUInt32 >>> (((1 : Int32)).toUInt32 &&& Int32.toUInt32 31)).toInt32) &&& ((1431655765 : Int32)))).toUInt32 >>> (((2 : Int32)).toUInt32 &&& Int32.toUInt32 31)).toInt32) &&& ((858993459 : Int32)))).toUInt32 >>> (((4 : Int32)).toUInt32 &&& Int32.toUInt32 31)).toInt32)) &&& ((252645135 : Int32))).toUInt32 >>> (((8 : Int32)).toUInt32 &&& Int32.toUInt32 31)).toInt32)))]) dJ6_bitCount_0f7a4_40 rfl (by decide) rfl rfl ?_
  refine a_iload_n (pc' := 42) 0 dJ6_bitCount_0f7a4_41 rfl rfl rfl ?_
  refine a_iload_n (pc' := 43) 0 dJ6_bitCount_0f7a4_42 rfl rfl rfl ?_
  refine a_bipush (pc' := 45) (v := (16 : Int32)) dJ6_bitCount_0f7a4_43 rfl (by decide) ?_
  refine a_iushr (pc' := 46) dJ6_bitCount_0f7a4_45 rfl ?_
  refine a_iadd (pc' := 47) dJ6_bitCount_0f7a4_46 rfl ?_
  refine a_istore_n (pc' := 48) (ls' := [(0, .int (((((((a1 - (((a1.toUInt32 >>> (((1 : Int32)).toUInt32 &&& Int32.toUInt32 31)).toInt32) &&& ((1431655765 : Int32)))) &&& ((858993459 : Int32))) + ((((a1 - (((a1.toUInt32 >>> (((1 : Int32)).toUInt32 &&& Int32.toUInt32 31)).toInt32) &&& ((1431655765 : Int32)))).toUInt32 >>> (((2 : Int32)).toUInt32 &&& Int32.toUInt32 31)).toInt32) &&& ((858993459 : Int32)))) + (((((a1 - (((a1.toUInt32 >>> (((1 : Int32)).toUInt32 &&& Int32.toUInt32 31)).toInt32) &&& ((1431655765 : Int32)))) &&& ((858993459 : Int32))) + ((((a1 - (((a1.toUInt32 >>> (((1 : Int32)).toUInt32 &&& Int32.toUInt32 31)).toInt32) &&& ((1431655765 : Int32)))).toUInt32 >>> (((2 : Int32)).toUInt32 &&& Int32.toUInt32 31)).toInt32) &&& ((858993459 : Int32)))).toUInt32 >>> (((4 : Int32)).toUInt32 &&& Int32.toUInt32 31)).toInt32)) &&& ((252645135 : Int32))) + (((((((a1 - (((a1.toUInt32 >>> (((1 : Int32)).toUInt32 &&& Int32.toUInt32 31)).toInt32) &&& ((1431655765 : Int32)))) &&& ((858993459 : Int32))) + ((((a1 - (((a1.toUInt32 >>> (((1 : Int32)).toUInt32 &&& Int32.toUInt32 31)).toInt32) &&& ((1431655765 : Int32)))).toUInt32 >>> (((2 : Int32)).toUInt32 &&& Int32.toUInt32 31)).toInt32) &&& ((858993459 : Int32)))) + (((((a1 - (((a1.toUInt32 >>> (((1 : Int32)).toUInt32 &&& Int32.toUInt32 31)).toInt32) &&& ((1431655765 : Int32)))) &&& ((858993459 : Int32))) + ((((a1 - (((a1.toUInt32 >>> (((1 : Int32)).toUInt32 &&& Int32.toUInt32 31)).toInt32) &&& ((1431655765 : Int32)))).toUInt32 >>> (((2 : Int32)).toUInt32 &&& Int32.toUInt32 31)).toInt32) &&& ((858993459 : Int32)))).toUInt32 >>> (((4 : Int32)).toUInt32 &&& Int32.toUInt32 31)).toInt32)) &&& ((252645135 : Int32))).toUInt32 >>> (((8 : Int32)).toUInt32 &&& Int32.toUInt32 31)).toInt32)) + ((((((((a1 - (((a1.toUInt32 >>> (((1 : Int32)).toUInt32 &&& Int32.toUInt32 31)).toInt32) &&& ((1431655765 : Int32)))) &&& ((858993459 : Int32))) + ((((a1 - (((a1.toUInt32 >>> (((1 : Int32)).toUInt32 &&& Int32.toUInt32 31)).toInt32) &&& ((1431655765 : Int32)))).toUInt32 >>> (((2 : Int32)).toUInt32 &&& Int32.toUInt32 31)).toInt32) &&& ((858993459 : Int32)))) + (((((a1 - (((a1.toUInt32 >>> (((1 : Int32)).toUInt32 &&& Int32.toUInt32 31)).toInt32) &&& ((1431655765 : Int32)))) &&& ((858993459 : Int32))) + ((((a1 - (((a1.toUInt32 >>> (((1 : Int32)).toUInt32 &&& Int32.toUInt32 31)).toInt32) &&& ((1431655765 : Int32)))).toUInt32 >>> (((2 : Int32)).toUInt32 &&& Int32.toUInt32 31)).toInt32) &&& ((858993459 : Int32)))).toUInt32 >>> (((4 : Int32)).toUInt32 &&& Int32.toUInt32 31)).toInt32)) &&& ((252645135 : Int32))) + (((((((a1 - (((a1.toUInt32 >>> (((1 : Int32)).toUInt32 &&& Int32.toUInt32 31)).toInt32) &&& ((1431655765 : Int32)))) &&& ((858993459 : Int32))) + ((((a1 - (((a1.toUInt32 >>> (((1 : Int32)).toUInt32 &&& Int32.toUInt32 31)).toInt32) &&& ((1431655765 : Int32)))).toUInt32 >>> (((2 : Int32)).toUInt32 &&& Int32.toUInt32 31)).toInt32) &&& ((858993459 : Int32)))) + (((((a1 - (((a1.toUInt32 >>> (((1 : Int32)).toUInt32 &&& Int32.toUInt32 31)).toInt32) &&& ((1431655765 : Int32)))) &&& ((858993459 : Int32))) + ((((a1 - (((a1.toUInt32 >>> (((1 : Int32)).toUInt32 &&& Int32.toUInt32 31)).toInt32) &&& ((1431655765 : Int32)))).toUInt32 >>> (((2 : Int32)).toUInt32 &&& Int32.toUInt32 31)).toInt32) &&& ((858993459 : Int32)))).toUInt32 >>> (((4 : Int32)).toUInt32 &&& Int32.toUInt32 31)).toInt32)) &&& ((252645135 : Int32))).toUInt32 >>> (((8 : Int32)).toUInt32 &&& Int32.toUInt32 31)).toInt32)).toUInt32 >>> (((16 : Int32)).toUInt32 &&& Int32.toUInt32 31)).toInt32)))]) dJ6_bitCount_0f7a4_47 rfl (by decide) rfl rfl ?_
  refine a_iload_n (pc' := 49) 0 dJ6_bitCount_0f7a4_48 rfl rfl rfl ?_
  refine a_bipush (pc' := 51) (v := (63 : Int32)) dJ6_bitCount_0f7a4_49 rfl (by decide) ?_
  refine a_iand (pc' := 52) dJ6_bitCount_0f7a4_51 rfl ?_
  cases hf
  exact a_iret hr ⟨rfl, rfl⟩ dJ6_bitCount_0f7a4_52
/-! SlateRoof.sumOf([I)I -/
set_option maxRecDepth 100000 in
def f_X3_sumOf_L4 (F : Nat) (na : Nat) (f : d_Z) : Nat → Int32 → Int32 → Option (Int32 × Int32)
  | 0, _, _ => none
  | n + 1, v1_4, v2_4 => (if (Int32.ofNat na) ≤ v2_4 then some (v1_4, v2_4) else f_grd v2_4 na (f_X3_sumOf_L4 F na f n (v1_4 + (f v2_4.toNatClampNeg)) (v2_4 + (1 : Int32))))
set_option maxRecDepth 100000 in
def f_X3_sumOf (F : Nat) (na : Nat) (f : d_Z) : Option (Int32) := (f_X3_sumOf_L4 F na f F ((0 : Int32)) ((0 : Int32))).bind fun o2 => some (o2.1)
set_option maxHeartbeats 4000000 in
set_option maxRecDepth 100000 in
theorem l_X3_sumOf_L4 {p : Program} {l : Launch} {e : Env} {s : State} {m : MethodId} {args : Array Value} {below : List Frame} {meth : Method} {c : Code} {Q : State → Prop} {g : a_G} (F : Nat) {h : List va_E} {a : Nat} (na : Nat) (f : d_Z) (hz : d_arr h a na 0 f) : ∀ (n : Nat) (v1_4 : Int32) (v2_4 : Int32) (o : Int32 × Int32), f_X3_sumOf_L4 F na f n v1_4 v2_4 = some o → (∀ e9 : Int32 × Int32, o = e9 → a_W p l e (a_rm 0 0) s m args below meth c Q RX3 cX3_sumOf 3 g 0 0 none 22 [(1, .int e9.1)] [] h) → a_W p l e (a_rm 0 0) s m args below meth c Q RX3 cX3_sumOf 3 g 0 0 none 4 [(0, .ref a), (1, .int v1_4), (2, .int v2_4)] [] h := by
  intro n
  induction n with
  | zero => intro v1_4 v2_4 o hf; exact nomatch (show (none : Option (Int32 × Int32)) = some o from hf)
  | succ n ih =>
    intro v1_4 v2_4 o hf hX0
    rw [f_X3_sumOf_L4] at hf
    refine a_iload_n (pc' := 5) 2 dX3_sumOf_4 rfl rfl rfl ?_
    refine a_aload_n (pc' := 6) 0 dX3_sumOf_5 rfl rfl rfl ?_
    refine b_alen (pc' := 7) (kd := 0) (by decide) hz dX3_sumOf_6 rfl ?_
    refine a_icmp_ge (pc' := 10) 22 dX3_sumOf_7 (by decide) rfl (fun k1 => ?_) (fun k1 => ?_)
    · replace hf := (if_pos k1).symm.trans hf
      cases hf
      refine a_sub [1] rfl ?_
      exact hX0 _ rfl
    · replace hf := (if_neg k1).symm.trans hf
      refine a_iload_n (pc' := 11) 1 dX3_sumOf_10 rfl rfl rfl ?_
      refine a_aload_n (pc' := 12) 0 dX3_sumOf_11 rfl rfl rfl ?_
      refine a_iload_n (pc' := 13) 2 dX3_sumOf_12 rfl rfl rfl ?_
      obtain ⟨hg, hf⟩ := f_grd_x hf
      refine b_iald (pc' := 14) hz hg dX3_sumOf_13 rfl ?_
      refine a_iadd (pc' := 15) dX3_sumOf_14 rfl ?_
      refine a_istore_n (pc' := 16) (ls' := [(1, .int (v1_4 + (f v2_4.toNatClampNeg))), (0, .ref a), (2, .int v2_4)]) dX3_sumOf_15 rfl (by decide) rfl rfl ?_
      refine a_iinc (pc' := 19) (v := v2_4 + (1 : Int32)) (ls' := [(2, .int (v2_4 + (1 : Int32))), (1, .int (v1_4 + (f v2_4.toNatClampNeg))), (0, .ref a)]) 2 dX3_sumOf_16 rfl (by rfl) (by decide) rfl rfl ?_
      refine a_goto 4 dX3_sumOf_19 (by decide) ?_
      refine a_sub [2, 1, 0] rfl ?_
      exact ih _ _ _ hf hX0
set_option maxHeartbeats 4000000 in
set_option maxRecDepth 100000 in
theorem c_X3_sumOf (l : Launch) (g : a_G) (F : Nat) {h : List va_E} {a : Nat} {na : Nat} {f : d_Z} (hz : d_arr h a na 0 f) {out : Int32} (hf : f_X3_sumOf F na f = some out) : a_CT l g yX3_sumOf cX3_sumOf 3 (some .int) (a_rm 0 0) [.ref a] h none none (fun r h' => r = some (.int out) ∧ h' = h) := by
  refine a_enter ⟨by decide, rfl, Nat.le_of_ble_eq_true rfl⟩ (fun p e s m args below meth c hr hin => ?_)
  unfold f_X3_sumOf at hf
  refine a_sub (ls' := [(0, .ref a)]) [0] rfl ?_
  refine a_iconst (pc' := 1) (v := (0 : Int32)) dX3_sumOf_0 rfl (by decide) ?_
  refine a_istore_n (pc' := 2) (ls' := [(1, .int ((0 : Int32))), (0, .ref a)]) dX3_sumOf_1 rfl (by decide) rfl rfl ?_
  refine a_iconst (pc' := 3) (v := (0 : Int32)) dX3_sumOf_2 rfl (by decide) ?_
  refine a_istore_n (pc' := 4) (ls' := [(2, .int ((0 : Int32))), (1, .int ((0 : Int32))), (0, .ref a)]) dX3_sumOf_3 rfl (by decide) rfl rfl ?_
  obtain ⟨o2, e3, hf⟩ := Option.bind_eq_some_iff.mp hf
  refine a_sub [2, 1, 0] rfl ?_
  refine l_X3_sumOf_L4 F na f hz F _ _ o2 e3 (fun e9 he9 => ?_)
  subst he9
  refine a_iload_n (pc' := 23) 0 dX3_sumOf_22 rfl rfl rfl ?_
  cases hf
  exact a_iret hr ⟨rfl, rfl⟩ dX3_sumOf_23
/-! SlateRoof.brokenAmong(II)I -/
set_option maxRecDepth 100000 in
def f_X3_brokenAmong_L7 (F : Nat) (a1 : Int32) : Nat → Int32 → Int32 → Int32 → Option (Int32 × Int32 × Int32)
  | 0, _, _, _ => none
  | n + 1, v2_7, v3_7, v4_7 => (if a1 ≤ v4_7 then some (v2_7, v3_7, v4_7) else (if ((((((v2_7 * ((1103515245 : Int32))) + ((12345 : Int32))).toUInt32 >>> (((16 : Int32)).toUInt32 &&& Int32.toUInt32 31)).toInt32) &&& ((32767 : Int32))) - (((((v2_7 * ((1103515245 : Int32))) + ((12345 : Int32))).toUInt32 >>> (((16 : Int32)).toUInt32 &&& Int32.toUInt32 31)).toInt32) &&& ((32767 : Int32))) / ((10 : Int32)) * ((10 : Int32))) = 0 then f_X3_brokenAmong_L7 F a1 n ((v2_7 * ((1103515245 : Int32))) + ((12345 : Int32))) (v3_7 + (1 : Int32)) (v4_7 + (1 : Int32)) else f_X3_brokenAmong_L7 F a1 n ((v2_7 * ((1103515245 : Int32))) + ((12345 : Int32))) v3_7 (v4_7 + (1 : Int32))))
set_option maxRecDepth 100000 in
def f_X3_brokenAmong (F : Nat) (a1 : Int32) (a2 : Int32) : Option (Int32) := (f_X3_brokenAmong_L7 F a1 F a2 ((0 : Int32)) ((0 : Int32))).bind fun o3 => some (o3.2.1)
set_option maxHeartbeats 4000000 in
set_option maxRecDepth 100000 in
theorem l_X3_brokenAmong_L7 {p : Program} {l : Launch} {e : Env} {s : State} {m : MethodId} {args : Array Value} {below : List Frame} {meth : Method} {c : Code} {Q : State → Prop} {g : a_G} (F : Nat) {h : List va_E} (a1 : Int32) : ∀ (n : Nat) (v2_7 : Int32) (v3_7 : Int32) (v4_7 : Int32) (o : Int32 × Int32 × Int32), f_X3_brokenAmong_L7 F a1 n v2_7 v3_7 v4_7 = some o → (∀ e9 : Int32 × Int32 × Int32, o = e9 → a_W p l e (a_rm 0 0) s m args below meth c Q RX3 cX3_brokenAmong 5 g 0 0 none 46 [(3, .int e9.2.1)] [] h) → a_W p l e (a_rm 0 0) s m args below meth c Q RX3 cX3_brokenAmong 5 g 0 0 none 7 [(0, .int a1), (2, .int v2_7), (3, .int v3_7), (4, .int v4_7)] [] h := by
  intro n
  induction n with
  | zero => intro v2_7 v3_7 v4_7 o hf; exact nomatch (show (none : Option (Int32 × Int32 × Int32)) = some o from hf)
  | succ n ih =>
    intro v2_7 v3_7 v4_7 o hf hX0
    rw [f_X3_brokenAmong_L7] at hf
    refine a_iload (pc' := 9) 3 dX3_brokenAmong_7 rfl rfl ?_
    refine a_iload_n (pc' := 10) 0 dX3_brokenAmong_9 rfl rfl rfl ?_
    refine a_icmp_ge (pc' := 13) 46 dX3_brokenAmong_10 (by decide) rfl (fun k1 => ?_) (fun k1 => ?_)
    · replace hf := (if_pos k1).symm.trans hf
      cases hf
      refine a_sub [2] rfl ?_
      exact hX0 _ rfl
    · replace hf := (if_neg k1).symm.trans hf
      refine a_iload_n (pc' := 14) 1 dX3_brokenAmong_13 rfl rfl rfl ?_
      refine a_ldcw (pc' := 17) (v := (1103515245 : Int32)) (a_in3 109 rfl rfl) dX3_brokenAmong_14 rfl ?_
      refine a_imul (pc' := 18) dX3_brokenAmong_17 rfl ?_
      refine a_sipush (pc' := 21) (v := (12345 : Int32)) dX3_brokenAmong_18 rfl (by decide) ?_
      refine a_iadd (pc' := 22) dX3_brokenAmong_21 rfl ?_
      refine a_istore_n (pc' := 23) (ls' := [(2, .int ((v2_7 * ((1103515245 : Int32))) + ((12345 : Int32)))), (0, .int a1), (3, .int v3_7), (4, .int v4_7)]) dX3_brokenAmong_22 rfl (by decide) rfl rfl ?_
      refine a_iload_n (pc' := 24) 0 dX3_brokenAmong_23 rfl rfl rfl ?_
      refine a_bipush (pc' := 26) (v := (16 : Int32)) dX3_brokenAmong_24 rfl (by decide) ?_
      refine a_iushr (pc' := 27) dX3_brokenAmong_26 rfl ?_
      refine a_sipush (pc' := 30) (v := (32767 : Int32)) dX3_brokenAmong_27 rfl (by decide) ?_
      refine a_iand (pc' := 31) dX3_brokenAmong_30 rfl ?_
      refine a_bipush (pc' := 33) (v := (10 : Int32)) dX3_brokenAmong_31 rfl (by decide) ?_
      refine a_irem (pc' := 34) dX3_brokenAmong_33 rfl (by decide) ?_
      refine a_if_ne (pc' := 37) 40 dX3_brokenAmong_34 (by decide) rfl (fun k2 => ?_) (fun k2 => ?_)
      · replace hf := (if_neg k2).symm.trans hf
        refine a_iinc (pc' := 43) (v := v4_7 + (1 : Int32)) (ls' := [(4, .int (v4_7 + (1 : Int32))), (2, .int ((v2_7 * ((1103515245 : Int32))) + ((12345 : Int32)))), (0, .int a1), (3, .int v3_7)]) 3 dX3_brokenAmong_40 rfl (by rfl) (by decide) rfl rfl ?_
        refine a_goto 7 dX3_brokenAmong_43 (by decide) ?_
        refine a_sub [2, 1, 3, 0] rfl ?_
        exact ih _ _ _ _ hf hX0
      · replace hf := (if_pos k2).symm.trans hf
        refine a_iinc (pc' := 40) (v := v3_7 + (1 : Int32)) (ls' := [(3, .int (v3_7 + (1 : Int32))), (2, .int ((v2_7 * ((1103515245 : Int32))) + ((12345 : Int32)))), (0, .int a1), (4, .int v4_7)]) 2 dX3_brokenAmong_37 rfl (by rfl) (by decide) rfl rfl ?_
        refine a_iinc (pc' := 43) (v := v4_7 + (1 : Int32)) (ls' := [(4, .int (v4_7 + (1 : Int32))), (3, .int (v3_7 + (1 : Int32))), (2, .int ((v2_7 * ((1103515245 : Int32))) + ((12345 : Int32)))), (0, .int a1)]) 3 dX3_brokenAmong_40 rfl (by rfl) (by decide) rfl rfl ?_
        refine a_goto 7 dX3_brokenAmong_43 (by decide) ?_
        refine a_sub [3, 2, 1, 0] rfl ?_
        exact ih _ _ _ _ hf hX0
set_option maxHeartbeats 4000000 in
set_option maxRecDepth 100000 in
theorem c_X3_brokenAmong (l : Launch) (g : a_G) (F : Nat) {h : List va_E} {a1 : Int32} {a2 : Int32} {out : Int32} (hf : f_X3_brokenAmong F a1 a2 = some out) : a_CT l g yX3_brokenAmong cX3_brokenAmong 5 (some .int) (a_rm 0 0) [.int a1, .int a2] h none none (fun r h' => r = some (.int out) ∧ h' = h) := by
  refine a_enter ⟨by decide, rfl, Nat.le_of_ble_eq_true rfl⟩ (fun p e s m args below meth c hr hin => ?_)
  unfold f_X3_brokenAmong at hf
  refine a_sub (ls' := [(0, .int a1), (1, .int a2)]) [0, 1] rfl ?_
  refine a_iload_n (pc' := 1) 1 dX3_brokenAmong_0 rfl rfl rfl ?_
  refine a_istore_n (pc' := 2) (ls' := [(2, .int a2), (0, .int a1), (1, .int a2)]) dX3_brokenAmong_1 rfl (by decide) rfl rfl ?_
  refine a_iconst (pc' := 3) (v := (0 : Int32)) dX3_brokenAmong_2 rfl (by decide) ?_
  refine a_istore_n (pc' := 4) (ls' := [(3, .int ((0 : Int32))), (2, .int a2), (0, .int a1), (1, .int a2)]) dX3_brokenAmong_3 rfl (by decide) rfl rfl ?_
  refine a_iconst (pc' := 5) (v := (0 : Int32)) dX3_brokenAmong_4 rfl (by decide) ?_
  refine a_istore (pc' := 7) (ls' := [(4, .int ((0 : Int32))), (3, .int ((0 : Int32))), (2, .int a2), (0, .int a1), (1, .int a2)]) dX3_brokenAmong_5 (by decide) rfl rfl ?_
  obtain ⟨o3, e4, hf⟩ := Option.bind_eq_some_iff.mp hf
  refine a_sub [3, 2, 1, 0] rfl ?_
  refine l_X3_brokenAmong_L7 F a1  F _ _ _ o3 e4 (fun e9 he9 => ?_)
  subst he9
  refine a_iload_n (pc' := 47) 0 dX3_brokenAmong_46 rfl rfl rfl ?_
  cases hf
  exact a_iret hr ⟨rfl, rfl⟩ dX3_brokenAmong_47
/-! SlateRoof.addAt([III)V -/
set_option maxRecDepth 100000 in
def f_X3_addAt (F : Nat) (na : Nat) (f : d_Z) (a1 : Int32) (a2 : Int32) : Option (d_Z) := (if a1 < 0 then some (f) else (if (Int32.ofNat na) ≤ a1 then some (f) else f_grd a1 na (f_grd a1 na (f_let (upd f a1.toNatClampNeg ((f a1.toNatClampNeg) + a2)) fun f4 => some (f4)))))
set_option maxHeartbeats 4000000 in
set_option maxRecDepth 100000 in
theorem c_X3_addAt (l : Launch) (g : a_G) (F : Nat) {h : List va_E} {a : Nat} {na : Nat} {f : d_Z} {a1 : Int32} {a2 : Int32} (hz : d_arr h a na 0 f) {out : d_Z} (hf : f_X3_addAt F na f a1 a2 = some out) : a_CT l g yX3_addAt cX3_addAt 3 none (a_rm 0 0) [.ref a, .int a1, .int a2] h none none (fun r h' => r = none ∧ d_arr h' a na 0 out ∧ d_frm a 1 h h') := by
  refine a_enter ⟨by decide, rfl, Nat.le_of_ble_eq_true rfl⟩ (fun p e s m args below meth c hr hin => ?_)
  unfold f_X3_addAt at hf
  have hfr : d_frm a 1 h h := d_frm.rf
  refine a_sub (ls' := [(0, .ref a), (1, .int a1), (2, .int a2)]) [0, 1, 2] rfl ?_
  refine a_iload_n (pc' := 1) 1 dX3_addAt_0 rfl rfl rfl ?_
  refine a_if_lt (pc' := 4) 17 dX3_addAt_1 (by decide) rfl (fun k1 => ?_) (fun k1 => ?_)
  · replace hf := (if_pos k1).symm.trans hf
    cases hf
    exact a_vret hr ⟨rfl, hz, hfr⟩ dX3_addAt_17
  · replace hf := (if_neg k1).symm.trans hf
    refine a_iload_n (pc' := 5) 1 dX3_addAt_4 rfl rfl rfl ?_
    refine a_aload_n (pc' := 6) 0 dX3_addAt_5 rfl rfl rfl ?_
    refine b_alen (pc' := 7) (kd := 0) (by decide) hz dX3_addAt_6 rfl ?_
    refine a_icmp_ge (pc' := 10) 17 dX3_addAt_7 (by decide) rfl (fun k2 => ?_) (fun k2 => ?_)
    · replace hf := (if_pos k2).symm.trans hf
      cases hf
      exact a_vret hr ⟨rfl, hz, hfr⟩ dX3_addAt_17
    · replace hf := (if_neg k2).symm.trans hf
      refine a_aload_n (pc' := 11) 0 dX3_addAt_10 rfl rfl rfl ?_
      refine a_iload_n (pc' := 12) 1 dX3_addAt_11 rfl rfl rfl ?_
      refine a_dup2 (pc' := 13) dX3_addAt_12 rfl rfl rfl ?_
      obtain ⟨hg, hf⟩ := f_grd_x hf
      refine b_iald (pc' := 14) hz hg dX3_addAt_13 rfl ?_
      refine a_iload_n (pc' := 15) 2 dX3_addAt_14 rfl rfl rfl ?_
      refine a_iadd (pc' := 16) dX3_addAt_15 rfl ?_
      obtain ⟨hg, hf⟩ := f_grd_x hf
      refine b_iast (pc' := 17) hz hg dX3_addAt_16 rfl (fun h3 hz hfr1 => ?_)
      obtain ⟨f4, hf, hz⟩ := f_let_x (P := fun w => d_arr h3 a na 0 w) hf hz
      replace hfr := d_frm.tr hfr hfr1 (by omega)
      cases hf
      exact a_vret hr ⟨rfl, hz, hfr⟩ dX3_addAt_17
/-! SlateRoof$DayText.weatherOf(C)I -/
set_option maxRecDepth 100000 in
def f_X0_weatherOf (F : Nat) (a1 : Int32) : Option (Int32) := (if a1 = (100 : Int32) then some ((0 : Int32)) else (if a1 = (114 : Int32) then some ((1 : Int32)) else (if a1 = (115 : Int32) then some ((2 : Int32)) else (some ((-1 : Int32))))))
set_option maxHeartbeats 4000000 in
set_option maxRecDepth 100000 in
theorem c_X0_weatherOf (l : Launch) (g : a_G) (F : Nat) {h : List va_E} {a1 : Int32} {out : Int32} (hf : f_X0_weatherOf F a1 = some out) : a_CT l g yX0_weatherOf cX0_weatherOf 1 (some .int) (a_rm 0 0) [.int a1] h none none (fun r h' => r = some (.int out) ∧ h' = h) := by
  refine a_enter ⟨by decide, rfl, Nat.le_of_ble_eq_true rfl⟩ (fun p e s m args below meth c hr hin => ?_)
  unfold f_X0_weatherOf at hf
  refine a_sub (ls' := [(0, .int a1)]) [0] rfl ?_
  refine a_iload_n (pc' := 1) 0 dX0_weatherOf_0 rfl rfl rfl ?_
  by_cases k1 : a1 = (100 : Int32)
  · replace hf := (if_pos k1).symm.trans hf
    refine b_top k1 ?_
    refine a_lookup (off := 35) 36 dX0_weatherOf_1 rfl (by decide) (by decide) ?_
    refine a_iconst (pc' := 37) (v := (0 : Int32)) dX0_weatherOf_36 rfl (by decide) ?_
    cases hf
    exact a_iret hr ⟨rfl, rfl⟩ dX0_weatherOf_37
  · replace hf := (if_neg k1).symm.trans hf
    by_cases k2 : a1 = (114 : Int32)
    · replace hf := (if_pos k2).symm.trans hf
      refine b_top k2 ?_
      refine a_lookup (off := 37) 38 dX0_weatherOf_1 rfl (by decide) (by decide) ?_
      refine a_iconst (pc' := 39) (v := (1 : Int32)) dX0_weatherOf_38 rfl (by decide) ?_
      cases hf
      exact a_iret hr ⟨rfl, rfl⟩ dX0_weatherOf_39
    · replace hf := (if_neg k2).symm.trans hf
      by_cases k3 : a1 = (115 : Int32)
      · replace hf := (if_pos k3).symm.trans hf
        refine b_top k3 ?_
        refine a_lookup (off := 39) 40 dX0_weatherOf_1 rfl (by decide) (by decide) ?_
        refine a_iconst (pc' := 41) (v := (2 : Int32)) dX0_weatherOf_40 rfl (by decide) ?_
        cases hf
        exact a_iret hr ⟨rfl, rfl⟩ dX0_weatherOf_41
      · replace hf := (if_neg k3).symm.trans hf
        refine a_lookup (off := 41) 42 dX0_weatherOf_1 rfl (b_lout3 k1 k2 k3) (by decide) ?_
        refine a_iconst (pc' := 43) (v := (-1 : Int32)) dX0_weatherOf_42 rfl (by decide) ?_
        cases hf
        exact a_iret hr ⟨rfl, rfl⟩ dX0_weatherOf_43
/-! SlateRoof$DayText.isDigit(C)Z -/
set_option maxRecDepth 100000 in
def f_X0_isDigit (F : Nat) (a1 : Int32) : Option (Int32) := (if a1 < ((48 : Int32)) then some ((0 : Int32)) else (if ((57 : Int32)) < a1 then some ((0 : Int32)) else some ((1 : Int32))))
set_option maxHeartbeats 4000000 in
set_option maxRecDepth 100000 in
theorem c_X0_isDigit (l : Launch) (g : a_G) (F : Nat) {h : List va_E} {a1 : Int32} {out : Int32} (hf : f_X0_isDigit F a1 = some out) : a_CT l g yX0_isDigit cX0_isDigit 1 (some .boolean) (a_rm 0 0) [.int a1] h none none (fun r h' => r = some (.int out) ∧ h' = h) := by
  refine a_enter ⟨by decide, rfl, Nat.le_of_ble_eq_true rfl⟩ (fun p e s m args below meth c hr hin => ?_)
  unfold f_X0_isDigit at hf
  refine a_sub (ls' := [(0, .int a1)]) [0] rfl ?_
  refine a_iload_n (pc' := 1) 0 dX0_isDigit_0 rfl rfl rfl ?_
  refine a_bipush (pc' := 3) (v := (48 : Int32)) dX0_isDigit_1 rfl (by decide) ?_
  refine a_icmp_lt (pc' := 6) 16 dX0_isDigit_3 (by decide) rfl (fun k1 => ?_) (fun k1 => ?_)
  · replace hf := (if_pos k1).symm.trans hf
    refine a_iconst (pc' := 17) (v := (0 : Int32)) dX0_isDigit_16 rfl (by decide) ?_
    cases hf
    exact a_zret hr rfl ⟨rfl, rfl⟩ dX0_isDigit_17
  · replace hf := (if_neg k1).symm.trans hf
    refine a_iload_n (pc' := 7) 0 dX0_isDigit_6 rfl rfl rfl ?_
    refine a_bipush (pc' := 9) (v := (57 : Int32)) dX0_isDigit_7 rfl (by decide) ?_
    refine a_icmp_gt (pc' := 12) 16 dX0_isDigit_9 (by decide) rfl (fun k2 => ?_) (fun k2 => ?_)
    · replace hf := (if_pos k2).symm.trans hf
      refine a_iconst (pc' := 17) (v := (0 : Int32)) dX0_isDigit_16 rfl (by decide) ?_
      cases hf
      exact a_zret hr rfl ⟨rfl, rfl⟩ dX0_isDigit_17
    · replace hf := (if_neg k2).symm.trans hf
      refine a_iconst (pc' := 13) (v := (1 : Int32)) dX0_isDigit_12 rfl (by decide) ?_
      refine a_goto 17 dX0_isDigit_13 (by decide) ?_
      cases hf
      exact a_zret hr rfl ⟨rfl, rfl⟩ dX0_isDigit_17
/-! SlateRoof$DayText.after(IC)I -/
set_option maxRecDepth 100000 in
def f_X0_after (F : Nat) (a1 : Int32) (a2 : Int32) : Option (Int32) := (f_X0_weatherOf F a2).bind fun x2 => (if x2 = ((-1 : Int32)) then (f_X0_isDigit F a2).bind fun x5 => (if x5 = 0 then some ((-1 : Int32)) else (if a1 = (1 : Int32) then (if a2 = ((48 : Int32)) then some ((-1 : Int32)) else (if a2 = ((49 : Int32)) then some ((2 : Int32)) else some ((3 : Int32)))) else (if a1 = (2 : Int32) then some ((4 : Int32)) else (if a1 = (3 : Int32) then some ((4 : Int32)) else (some ((-1 : Int32))))))) else (if a1 = ((2 : Int32)) then some ((-1 : Int32)) else some ((1 : Int32))))
set_option maxHeartbeats 4000000 in
set_option maxRecDepth 100000 in
theorem c_X0_after (l : Launch) (g : a_G) (F : Nat) {h : List va_E} {a1 : Int32} {a2 : Int32} {out : Int32} (hf : f_X0_after F a1 a2 = some out) : a_CT l g yX0_after cX0_after 2 (some .int) (a_rm 1 20) [.int a1, .int a2] h none none (fun r h' => r = some (.int out) ∧ h' = h) := by
  refine a_enter ⟨by decide, rfl, Nat.le_of_ble_eq_true rfl⟩ (fun p e s m args below meth c hr hin => ?_)
  unfold f_X0_after at hf
  refine a_sub (ls' := [(0, .int a1), (1, .int a2)]) [0, 1] rfl ?_
  refine a_iload_n (pc' := 1) 1 dX0_after_0 rfl rfl rfl ?_
  obtain ⟨x2, e1, hf⟩ := Option.bind_eq_some_iff.mp hf
  refine k_X0_37 (pc' := 4) (c_X0_weatherOf l g F e1) ⟨Nat.le_of_ble_eq_true rfl, Nat.le_of_ble_eq_true rfl⟩ (Nat.le_of_ble_eq_true rfl) dX0_after_1 rfl ?_
  refine a_iconst (pc' := 5) (v := (-1 : Int32)) dX0_after_4 rfl (by decide) ?_
  refine a_icmp_eq (pc' := 8) 19 dX0_after_5 (by decide) rfl (fun k3 => ?_) (fun k3 => ?_)
  · replace hf := (if_pos k3).symm.trans hf
    refine a_iload_n (pc' := 20) 1 dX0_after_19 rfl rfl rfl ?_
    obtain ⟨x5, e4, hf⟩ := Option.bind_eq_some_iff.mp hf
    refine k_X0_41 (pc' := 23) (c_X0_isDigit l g F e4) ⟨Nat.le_of_ble_eq_true rfl, Nat.le_of_ble_eq_true rfl⟩ (Nat.le_of_ble_eq_true rfl) dX0_after_20 rfl ?_
    refine a_if_ne (pc' := 26) 28 dX0_after_23 (by decide) rfl (fun k6 => ?_) (fun k6 => ?_)
    · replace hf := (if_neg k6).symm.trans hf
      refine a_iload_n (pc' := 29) 0 dX0_after_28 rfl rfl rfl ?_
      by_cases k7 : a1 = (1 : Int32)
      · replace hf := (if_pos k7).symm.trans hf
        refine b_top k7 ?_
        refine a_tableIn (off := 27) 56 dX0_after_29 (by decide) (by decide) rfl (by decide) ?_
        refine a_iload_n (pc' := 57) 1 dX0_after_56 rfl rfl rfl ?_
        refine a_bipush (pc' := 59) (v := (48 : Int32)) dX0_after_57 rfl (by decide) ?_
        refine a_icmp_ne (pc' := 62) 64 dX0_after_59 (by decide) rfl (fun k8 => ?_) (fun k8 => ?_)
        · replace hf := (if_neg k8).symm.trans hf
          refine a_iload_n (pc' := 65) 1 dX0_after_64 rfl rfl rfl ?_
          refine a_bipush (pc' := 67) (v := (49 : Int32)) dX0_after_65 rfl (by decide) ?_
          refine a_icmp_ne (pc' := 70) 74 dX0_after_67 (by decide) rfl (fun k9 => ?_) (fun k9 => ?_)
          · replace hf := (if_neg k9).symm.trans hf
            refine a_iconst (pc' := 75) (v := (3 : Int32)) dX0_after_74 rfl (by decide) ?_
            cases hf
            exact a_iret hr ⟨rfl, rfl⟩ dX0_after_75
          · replace hf := (if_pos k9).symm.trans hf
            refine a_iconst (pc' := 71) (v := (2 : Int32)) dX0_after_70 rfl (by decide) ?_
            refine a_goto 75 dX0_after_71 (by decide) ?_
            cases hf
            exact a_iret hr ⟨rfl, rfl⟩ dX0_after_75
        · replace hf := (if_pos k8).symm.trans hf
          refine a_iconst (pc' := 63) (v := (-1 : Int32)) dX0_after_62 rfl (by decide) ?_
          cases hf
          exact a_iret hr ⟨rfl, rfl⟩ dX0_after_63
      · replace hf := (if_neg k7).symm.trans hf
        by_cases k10 : a1 = (2 : Int32)
        · replace hf := (if_pos k10).symm.trans hf
          refine b_top k10 ?_
          refine a_tableIn (off := 47) 76 dX0_after_29 (by decide) (by decide) rfl (by decide) ?_
          refine a_iconst (pc' := 77) (v := (4 : Int32)) dX0_after_76 rfl (by decide) ?_
          cases hf
          exact a_iret hr ⟨rfl, rfl⟩ dX0_after_77
        · replace hf := (if_neg k10).symm.trans hf
          by_cases k11 : a1 = (3 : Int32)
          · replace hf := (if_pos k11).symm.trans hf
            refine b_top k11 ?_
            refine a_tableIn (off := 47) 76 dX0_after_29 (by decide) (by decide) rfl (by decide) ?_
            refine a_iconst (pc' := 77) (v := (4 : Int32)) dX0_after_76 rfl (by decide) ?_
            cases hf
            exact a_iret hr ⟨rfl, rfl⟩ dX0_after_77
          · replace hf := (if_neg k11).symm.trans hf
            refine a_tableOut 78 dX0_after_29 (b_tout3_1 k7 k10 k11) (by decide) ?_
            refine a_iconst (pc' := 79) (v := (-1 : Int32)) dX0_after_78 rfl (by decide) ?_
            cases hf
            exact a_iret hr ⟨rfl, rfl⟩ dX0_after_79
    · replace hf := (if_pos k6).symm.trans hf
      refine a_iconst (pc' := 27) (v := (-1 : Int32)) dX0_after_26 rfl (by decide) ?_
      cases hf
      exact a_iret hr ⟨rfl, rfl⟩ dX0_after_27
  · replace hf := (if_neg k3).symm.trans hf
    refine a_iload_n (pc' := 9) 0 dX0_after_8 rfl rfl rfl ?_
    refine a_iconst (pc' := 10) (v := (2 : Int32)) dX0_after_9 rfl (by decide) ?_
    refine a_icmp_ne (pc' := 13) 17 dX0_after_10 (by decide) rfl (fun k12 => ?_) (fun k12 => ?_)
    · replace hf := (if_neg k12).symm.trans hf
      refine a_iconst (pc' := 18) (v := (1 : Int32)) dX0_after_17 rfl (by decide) ?_
      cases hf
      exact a_iret hr ⟨rfl, rfl⟩ dX0_after_18
    · replace hf := (if_pos k12).symm.trans hf
      refine a_iconst (pc' := 14) (v := (-1 : Int32)) dX0_after_13 rfl (by decide) ?_
      refine a_goto 18 dX0_after_14 (by decide) ?_
      cases hf
      exact a_iret hr ⟨rfl, rfl⟩ dX0_after_18
/-! java/lang/Double.isNaN(D)Z -/
set_option maxRecDepth 100000 in
def f_Jxe99ae_isNaN (F : Nat) (a1 : UInt64) : Option (Int32) := (if (Op.cmpValue (FP.dcmp a1 a1) .l) = 0 then some ((0 : Int32)) else some ((1 : Int32)))
set_option maxHeartbeats 4000000 in
set_option maxRecDepth 100000 in
theorem c_Jxe99ae_isNaN (l : Launch) (g : a_G) (F : Nat) {h : List va_E} {a1 : UInt64} {out : Int32} (hf : f_Jxe99ae_isNaN F a1 = some out) : a_CT l g yJxe99ae_isNaN_b9ae7 cJxe99ae_isNaN_b9ae7 2 (some .boolean) (a_rm 0 0) [.double a1] h none none (fun r h' => r = some (.int out) ∧ h' = h) := by
  refine a_enter ⟨by decide, rfl, Nat.le_of_ble_eq_true rfl⟩ (fun p e s m args below meth c hr hin => ?_)
  unfold f_Jxe99ae_isNaN at hf
  refine a_sub (ls' := [(0, .double a1)]) [0] rfl ?_
  refine a_dload_n (pc' := 1) 0 dJxe99ae_isNaN_b9ae7_0 rfl rfl rfl ?_
  refine a_dload_n (pc' := 2) 0 dJxe99ae_isNaN_b9ae7_1 rfl rfl rfl ?_
  refine a_dcmp (pc' := 3) dJxe99ae_isNaN_b9ae7_2 rfl ?_
  refine a_if_eq (pc' := 6) 10 dJxe99ae_isNaN_b9ae7_3 (by decide) rfl (fun k1 => ?_) (fun k1 => ?_)
  · replace hf := (if_pos k1).symm.trans hf
    refine a_iconst (pc' := 11) (v := (0 : Int32)) dJxe99ae_isNaN_b9ae7_10 rfl (by decide) ?_
    cases hf
    exact a_zret hr rfl ⟨rfl, rfl⟩ dJxe99ae_isNaN_b9ae7_11
  · replace hf := (if_neg k1).symm.trans hf
    refine a_iconst (pc' := 7) (v := (1 : Int32)) dJxe99ae_isNaN_b9ae7_6 rfl (by decide) ?_
    refine a_goto 11 dJxe99ae_isNaN_b9ae7_7 (by decide) ?_
    cases hf
    exact a_zret hr rfl ⟨rfl, rfl⟩ dJxe99ae_isNaN_b9ae7_11
