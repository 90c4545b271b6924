/-! SlateRoof.isWithin(III)Z -/
set_option maxRecDepth 100000 in
def f_X3_isWithin (F : Nat) (a1 : Int32) (a2 : Int32) (a3 : Int32) : Option (Int32) := (if a1 < a2 then some ((0 : Int32)) else (if a3 < a1 then some ((0 : Int32)) else some ((1 : Int32))))
set_option maxHeartbeats 4000000 in
set_option maxRecDepth 100000 in
theorem c_X3_isWithin (l : Launch) (g : a_G) (F : Nat) {h : List va_E} {a1 : Int32} {a2 : Int32} {a3 : Int32} {out : Int32} (hf : f_X3_isWithin F a1 a2 a3 = some out) : a_CT l g yX3_isWithin cX3_isWithin 3 (some .boolean) (a_rm 0 0) [.int a1, .int a2, .int a3] h none none (fun r h' => r = some (.int out) ∧ h' = h) := by
  refine a_enter ⟨by decide, rfl, Nat.le_of_ble_eq_true rfl⟩ (fun p e s m args below meth c hr hin => ?_)
  unfold f_X3_isWithin at hf
  refine a_sub (ls' := [(0, .int a1), (1, .int a2), (2, .int a3)]) [0, 1, 2] rfl ?_
  refine a_iload_n (pc' := 1) 0 dX3_isWithin_0 rfl rfl rfl ?_
  refine a_iload_n (pc' := 2) 1 dX3_isWithin_1 rfl rfl rfl ?_
  refine a_icmp_lt (pc' := 5) 14 dX3_isWithin_2 (by decide) rfl (fun k1 => ?_) (fun k1 => ?_)
  · replace hf := (if_pos k1).symm.trans hf
    refine a_iconst (pc' := 15) (v := (0 : Int32)) dX3_isWithin_14 rfl (by decide) ?_
    cases hf
    exact a_zret hr rfl ⟨rfl, rfl⟩ dX3_isWithin_15
  · replace hf := (if_neg k1).symm.trans hf
    refine a_iload_n (pc' := 6) 0 dX3_isWithin_5 rfl rfl rfl ?_
    refine a_iload_n (pc' := 7) 2 dX3_isWithin_6 rfl rfl rfl ?_
    refine a_icmp_gt (pc' := 10) 14 dX3_isWithin_7 (by decide) rfl (fun k2 => ?_) (fun k2 => ?_)
    · replace hf := (if_pos k2).symm.trans hf
      refine a_iconst (pc' := 15) (v := (0 : Int32)) dX3_isWithin_14 rfl (by decide) ?_
      cases hf
      exact a_zret hr rfl ⟨rfl, rfl⟩ dX3_isWithin_15
    · replace hf := (if_neg k2).symm.trans hf
      refine a_iconst (pc' := 11) (v := (1 : Int32)) dX3_isWithin_10 rfl (by decide) ?_
      refine a_goto 15 dX3_isWithin_11 (by decide) ?_
      cases hf
      exact a_zret hr rfl ⟨rfl, rfl⟩ dX3_isWithin_15
/-! SlateRoof$Saves.keep(LSlateRoof$Roof;)V -/
set_option maxRecDepth 100000 in
def f_X2_keep (F : Nat) (q : d_C) : Option (d_C) := f_grd ((q.2.2.1.2.1 + q.2.2.1.2.2) - (q.2.2.1.2.1 + q.2.2.1.2.2) / (6 : Int32) * (6 : Int32)) 6 (f_if (q.1 9 = 0 ∨ q.1 9 = 1) (f_let (q.1, q.2.1, (va_up q.2.2.1.1 ((q.2.2.1.2.1 + q.2.2.1.2.2) - (q.2.2.1.2.1 + q.2.2.1.2.2) / (6 : Int32) * (6 : Int32)).toNatClampNeg q.1, q.2.2.1.2), q.2.2.2) fun q2 => (if ((6 : Int32)) ≤ q2.2.2.1.2.2 then f_let (q2.1, q2.2.1, (q2.2.2.1.1, (q2.2.2.1.2.1 + ((1 : Int32))) - (q2.2.2.1.2.1 + ((1 : Int32))) / ((6 : Int32)) * ((6 : Int32)), q2.2.2.1.2.2), q2.2.2.2) fun q5 => some (q5) else f_let (q2.1, q2.2.1, (q2.2.2.1.1, q2.2.2.1.2.1, q2.2.2.1.2.2 + ((1 : Int32))), q2.2.2.2) fun q7 => some (q7))))
set_option maxHeartbeats 4000000 in
set_option maxRecDepth 100000 in
theorem c_X2_keep (l : Launch) (g : a_G) (F : Nat) {h : List va_E} {q : d_C} (hz : d_cls h q) {out : d_C} (hf : f_X2_keep F q = some out) : a_CT l g yX2_keep cX2_keep 3 none (a_rm 3 82) [.ref 13, .ref 1] h none none (fun r h' => r = none ∧ d_cls h' out ∧ d_frm 0 55 h h') := by
  refine a_enter ⟨by decide, rfl, Nat.le_of_ble_eq_true rfl⟩ (fun p e s m args below meth c hr hin => ?_)
  unfold f_X2_keep at hf
  have hfr : d_frm 0 55 h h := d_frm.rf
  refine a_sub (ls' := [(0, .ref 13), (1, .ref 1)]) [0, 1] rfl ?_
  refine a_aload_n (pc' := 1) 0 dX2_keep_0 rfl rfl rfl ?_
  refine a_aload_n (pc' := 2) 0 dX2_keep_1 rfl rfl rfl ?_
  refine g_X2_18 (pc' := 5) hz.2.2.2.1.1 rfl dX2_keep_2 rfl ?_
  refine a_aload_n (pc' := 6) 0 dX2_keep_5 rfl rfl rfl ?_
  refine g_X2_22 (pc' := 9) hz.2.2.2.1.1 rfl dX2_keep_6 rfl ?_
  refine a_iadd (pc' := 10) dX2_keep_9 rfl ?_
  obtain ⟨hgs, hf⟩ := f_grd_x hf
  refine k_slotAt (pc' := 13) hz.2.2.2.1 hgs ⟨Nat.le_of_ble_eq_true rfl, Nat.le_of_ble_eq_true rfl⟩ dX2_keep_10 rfl ?_
  refine a_astore_n (pc' := 14) (ls' := [(2, .ref (15 + 6 * ((q.2.2.1.2.1 + q.2.2.1.2.2) - (q.2.2.1.2.1 + q.2.2.1.2.2) / (6 : Int32) * (6 : Int32)).toNatClampNeg)), (0, .ref 13), (1, .ref 1)]) dX2_keep_13 rfl (by decide) rfl rfl ?_
  refine a_aload_n (pc' := 15) 0 dX2_keep_14 rfl rfl rfl ?_
  refine a_ifnull (pc' := 18) dX2_keep_15 rfl ?_
  refine a_aload_n (pc' := 19) 0 dX2_keep_18 rfl rfl rfl ?_
  refine a_aload_n (pc' := 20) 2 dX2_keep_19 rfl rfl rfl ?_
  obtain ⟨hg, hf⟩ := f_if_x hf
  refine k_copyslot (pc' := 23) (c_copy_slot l g hz hgs hg) ⟨Nat.le_of_ble_eq_true rfl, Nat.le_of_ble_eq_true rfl⟩ (hz.2.2.2.1.2.2 _ (d_in6 hgs)).1 dX2_keep_20 rfl (fun h1 hq => ?_)
  obtain ⟨hz1, hfr1⟩ := hq
  obtain ⟨q2, hf, hz⟩ := f_let_x (P := fun w => d_cls h1 w) hf hz1
  replace hfr := d_frm.tr hfr hfr1 (by omega)
  refine a_aload_n (pc' := 24) 1 dX2_keep_23 rfl rfl rfl ?_
  refine g_X2_22 (pc' := 27) hz.2.2.2.1.1 rfl dX2_keep_24 rfl ?_
  refine a_bipush (pc' := 29) (v := (6 : Int32)) dX2_keep_27 rfl (by decide) ?_
  refine a_icmp_ge (pc' := 32) 45 dX2_keep_29 (by decide) rfl (fun k3 => ?_) (fun k3 => ?_)
  · replace hf := (if_pos k3).symm.trans hf
    refine a_aload_n (pc' := 46) 1 dX2_keep_45 rfl rfl rfl ?_
    refine a_aload_n (pc' := 47) 1 dX2_keep_46 rfl rfl rfl ?_
    refine g_X2_18 (pc' := 50) hz.2.2.2.1.1 rfl dX2_keep_47 rfl ?_
    refine a_iconst (pc' := 51) (v := (1 : Int32)) dX2_keep_50 rfl (by decide) ?_
    refine a_iadd (pc' := 52) dX2_keep_51 rfl ?_
    refine a_bipush (pc' := 54) (v := (6 : Int32)) dX2_keep_52 rfl (by decide) ?_
    refine a_irem (pc' := 55) dX2_keep_54 rfl (by decide) ?_
    refine pt_X2_18 (pc' := 58) hz.2.2.2.1 dX2_keep_55 rfl (fun h4 hz1 hfr1 => ?_)
    have hz2 := d_c_saves hz hz1 hfr1
    obtain ⟨q5, hf, hz⟩ := f_let_x (P := fun w => d_cls h4 w) hf hz2
    replace hfr := d_frm.tr hfr hfr1 (by omega)
    cases hf
    exact a_vret hr ⟨rfl, hz, hfr⟩ dX2_keep_58
  · replace hf := (if_neg k3).symm.trans hf
    refine a_aload_n (pc' := 33) 1 dX2_keep_32 rfl rfl rfl ?_
    refine a_dup (pc' := 34) dX2_keep_33 rfl rfl ?_
    refine g_X2_22 (pc' := 37) hz.2.2.2.1.1 rfl dX2_keep_34 rfl ?_
    refine a_iconst (pc' := 38) (v := (1 : Int32)) dX2_keep_37 rfl (by decide) ?_
    refine a_iadd (pc' := 39) dX2_keep_38 rfl ?_
    refine pt_X2_22 (pc' := 42) hz.2.2.2.1 dX2_keep_39 rfl (fun h6 hz1 hfr1 => ?_)
    have hz2 := d_c_saves hz hz1 hfr1
    obtain ⟨q7, hf, hz⟩ := f_let_x (P := fun w => d_cls h6 w) hf hz2
    replace hfr := d_frm.tr hfr hfr1 (by omega)
    refine a_goto 58 dX2_keep_42 (by decide) ?_
    cases hf
    exact a_vret hr ⟨rfl, hz, hfr⟩ dX2_keep_58
/-! SlateRoof.valueAt([II)I -/
set_option maxRecDepth 100000 in
def f_X3_valueAt (F : Nat) (na : Nat) (f : d_Z) (a1 : Int32) : Option (Int32) := (if a1 < 0 then some ((0 : Int32)) else (if (Int32.ofNat na) ≤ a1 then some ((0 : Int32)) else f_grd a1 na (some (f a1.toNatClampNeg))))
set_option maxHeartbeats 4000000 in
set_option maxRecDepth 100000 in
theorem c_X3_valueAt (l : Launch) (g : a_G) (F : Nat) {h : List va_E} {a : Nat} {na : Nat} {f : d_Z} {a1 : Int32} (hz : d_arr h a na 0 f) {out : Int32} (hf : f_X3_valueAt F na f a1 = some out) : a_CT l g yX3_valueAt cX3_valueAt 2 (some .int) (a_rm 0 0) [.ref a, .int a1] h none none (fun r h' => r = some (.int out) ∧ h' = h) := by
  refine a_enter ⟨by decide, rfl, Nat.le_of_ble_eq_true rfl⟩ (fun p e s m args below meth c hr hin => ?_)
  unfold f_X3_valueAt at hf
  refine a_sub (ls' := [(0, .ref a), (1, .int a1)]) [0, 1] rfl ?_
  refine a_iload_n (pc' := 1) 1 dX3_valueAt_0 rfl rfl rfl ?_
  refine a_if_lt (pc' := 4) 16 dX3_valueAt_1 (by decide) rfl (fun k1 => ?_) (fun k1 => ?_)
  · replace hf := (if_pos k1).symm.trans hf
    refine a_iconst (pc' := 17) (v := (0 : Int32)) dX3_valueAt_16 rfl (by decide) ?_
    cases hf
    exact a_iret hr ⟨rfl, rfl⟩ dX3_valueAt_17
  · replace hf := (if_neg k1).symm.trans hf
    refine a_iload_n (pc' := 5) 1 dX3_valueAt_4 rfl rfl rfl ?_
    refine a_aload_n (pc' := 6) 0 dX3_valueAt_5 rfl rfl rfl ?_
    refine b_alen (pc' := 7) (kd := 0) (by decide) hz dX3_valueAt_6 rfl ?_
    refine a_icmp_ge (pc' := 10) 16 dX3_valueAt_7 (by decide) rfl (fun k2 => ?_) (fun k2 => ?_)
    · replace hf := (if_pos k2).symm.trans hf
      refine a_iconst (pc' := 17) (v := (0 : Int32)) dX3_valueAt_16 rfl (by decide) ?_
      cases hf
      exact a_iret hr ⟨rfl, rfl⟩ dX3_valueAt_17
    · replace hf := (if_neg k2).symm.trans hf
      refine a_aload_n (pc' := 11) 0 dX3_valueAt_10 rfl rfl rfl ?_
      refine a_iload_n (pc' := 12) 1 dX3_valueAt_11 rfl rfl rfl ?_
      obtain ⟨hg, hf⟩ := f_grd_x hf
      refine b_iald (pc' := 13) hz hg dX3_valueAt_12 rfl ?_
      refine a_goto 17 dX3_valueAt_13 (by decide) ?_
      cases hf
      exact a_iret hr ⟨rfl, rfl⟩ dX3_valueAt_17
set_option maxHeartbeats 4000000 in
set_option maxRecDepth 100000 in
theorem c_X3_valueAt_ro1000 (l : Launch) (g : a_G) (F : Nat) {h : List va_E} {a1 : Int32} {out : Int32} (hf : f_X3_valueAt F 3 a_least a1 = some out) : a_CT l g yX3_valueAt cX3_valueAt 2 (some .int) (a_rm 0 0) [.ref 1000, .int a1] h none none (fun r h' => r = some (.int out) ∧ h' = h) := by
  refine a_enter ⟨by decide, rfl, Nat.le_of_ble_eq_true rfl⟩ (fun p e s m args below meth c hr hin => ?_)
  unfold f_X3_valueAt at hf
  refine a_sub (ls' := [(0, .ref 1000), (1, .int a1)]) [0, 1] rfl ?_
  refine a_iload_n (pc' := 1) 1 dX3_valueAt_0 rfl rfl rfl ?_
  refine a_if_lt (pc' := 4) 16 dX3_valueAt_1 (by decide) rfl (fun k1 => ?_) (fun k1 => ?_)
  · replace hf := (if_pos k1).symm.trans hf
    refine a_iconst (pc' := 17) (v := (0 : Int32)) dX3_valueAt_16 rfl (by decide) ?_
    cases hf
    exact a_iret hr ⟨rfl, rfl⟩ dX3_valueAt_17
  · replace hf := (if_neg k1).symm.trans hf
    refine a_iload_n (pc' := 5) 1 dX3_valueAt_4 rfl rfl rfl ?_
    refine a_aload_n (pc' := 6) 0 dX3_valueAt_5 rfl rfl rfl ?_
    refine b_roalen1000 (pc' := 7) dX3_valueAt_6 rfl ?_
    refine a_icmp_ge (pc' := 10) 16 dX3_valueAt_7 (by decide) rfl (fun k2 => ?_) (fun k2 => ?_)
    · replace hf := (if_pos k2).symm.trans hf
      refine a_iconst (pc' := 17) (v := (0 : Int32)) dX3_valueAt_16 rfl (by decide) ?_
      cases hf
      exact a_iret hr ⟨rfl, rfl⟩ dX3_valueAt_17
    · replace hf := (if_neg k2).symm.trans hf
      refine a_aload_n (pc' := 11) 0 dX3_valueAt_10 rfl rfl rfl ?_
      refine a_iload_n (pc' := 12) 1 dX3_valueAt_11 rfl rfl rfl ?_
      obtain ⟨hg, hf⟩ := f_grd_x hf
      refine b_roald1000 (pc' := 13) hg dX3_valueAt_12 rfl ?_
      refine a_goto 17 dX3_valueAt_13 (by decide) ?_
      cases hf
      exact a_iret hr ⟨rfl, rfl⟩ dX3_valueAt_17
set_option maxHeartbeats 4000000 in
set_option maxRecDepth 100000 in
theorem c_X3_valueAt_ro1001 (l : Launch) (g : a_G) (F : Nat) {h : List va_E} {a1 : Int32} {out : Int32} (hf : f_X3_valueAt F 3 a_most a1 = some out) : a_CT l g yX3_valueAt cX3_valueAt 2 (some .int) (a_rm 0 0) [.ref 1001, .int a1] h none none (fun r h' => r = some (.int out) ∧ h' = h) := by
  refine a_enter ⟨by decide, rfl, Nat.le_of_ble_eq_true rfl⟩ (fun p e s m args below meth c hr hin => ?_)
  unfold f_X3_valueAt at hf
  refine a_sub (ls' := [(0, .ref 1001), (1, .int a1)]) [0, 1] rfl ?_
  refine a_iload_n (pc' := 1) 1 dX3_valueAt_0 rfl rfl rfl ?_
  refine a_if_lt (pc' := 4) 16 dX3_valueAt_1 (by decide) rfl (fun k1 => ?_) (fun k1 => ?_)
  · replace hf := (if_pos k1).symm.trans hf
    refine a_iconst (pc' := 17) (v := (0 : Int32)) dX3_valueAt_16 rfl (by decide) ?_
    cases hf
    exact a_iret hr ⟨rfl, rfl⟩ dX3_valueAt_17
  · replace hf := (if_neg k1).symm.trans hf
    refine a_iload_n (pc' := 5) 1 dX3_valueAt_4 rfl rfl rfl ?_
    refine a_aload_n (pc' := 6) 0 dX3_valueAt_5 rfl rfl rfl ?_
    refine b_roalen1001 (pc' := 7) dX3_valueAt_6 rfl ?_
    refine a_icmp_ge (pc' := 10) 16 dX3_valueAt_7 (by decide) rfl (fun k2 => ?_) (fun k2 => ?_)
    · replace hf := (if_pos k2).symm.trans hf
      refine a_iconst (pc' := 17) (v := (0 : Int32)) dX3_valueAt_16 rfl (by decide) ?_
      cases hf
      exact a_iret hr ⟨rfl, rfl⟩ dX3_valueAt_17
    · replace hf := (if_neg k2).symm.trans hf
      refine a_aload_n (pc' := 11) 0 dX3_valueAt_10 rfl rfl rfl ?_
      refine a_iload_n (pc' := 12) 1 dX3_valueAt_11 rfl rfl rfl ?_
      obtain ⟨hg, hf⟩ := f_grd_x hf
      refine b_roald1001 (pc' := 13) hg dX3_valueAt_12 rfl ?_
      refine a_goto 17 dX3_valueAt_13 (by decide) ?_
      cases hf
      exact a_iret hr ⟨rfl, rfl⟩ dX3_valueAt_17
/-! java/lang/Integer.bitCount(I)I -/
set_option maxRecDepth 100000 in
def f_J6_bitCount (F : Nat) (a1 : Int32) : Option (Int32) := some ((((((((a1 - (((a1.toUInt32 >>> (((1 : Int32)).toUInt32 &&& Int32.toUInt32 31)).toInt32) &&& ((1431655765 : Int32)))) &&& ((858993459 : Int32))) + ((((a1 - (((a1.toUInt32 >>> (((1 : Int32)).toUInt32 &&& Int32.toUInt32 31)).toInt32) &&& ((1431655765 : Int32)))).toUInt32 >>> (((2 : Int32)).toUInt32 &&& Int32.toUInt32 31)).toInt32) &&& ((858993459 : Int32)))) + (((((a1 - (((a1.toUInt32 >>> (((1 : Int32)).toUInt32 &&& Int32.toUInt32 31)).toInt32) &&& ((1431655765 : Int32)))) &&& ((858993459 : Int32))) + ((((a1 - (((a1.toUInt32 >>> (((1 : Int32)).toUInt32 &&& Int32.toUInt32 31)).toInt32) &&& ((1431655765 : Int32)))).toUInt32 >>> (((2 : Int32)).toUInt32 &&& Int32.toUInt32 31)).toInt32) &&& ((858993459 : Int32)))).toUInt32 >>> (((4 : Int32)).toUInt32 &&& Int32.toUInt32 31)).toInt32)) &&& ((252645135 : Int32))) + (((((((a1 - (((a1.toUInt32 >>> (((1 : Int32)).toUInt32 &&& Int32.toUInt32 31)).toInt32) &&& ((1431655765 : Int32)))) &&& ((858993459 : Int32))) + ((((a1 - (((a1.toUInt32 >>> (((1 : Int32)).toUInt32 &&& Int32.toUInt32 31)).toInt32) &&& ((1431655765 : Int32)))).toUInt32 >>> (((2 : Int32)).toUInt32 &&& Int32.toUInt32 31)).toInt32) &&& ((858993459 : Int32)))) + (((((a1 - (((a1.toUInt32 >>> (((1 : Int32)).toUInt32 &&& Int32.toUInt32 31)).toInt32) &&& ((1431655765 : Int32)))) &&& ((858993459 : Int32))) + ((((a1 - (((a1.toUInt32 >>> (((1 : Int32)).toUInt32 &&& Int32.toUInt32 31)).toInt32) &&& ((1431655765 : Int32)))).toUInt32 >>> (((2 : Int32)).toUInt32 &&& Int32.toUInt32 31)).toInt32) &&& ((858993459 : Int32)))).toUInt32 >>> (((4 : Int32)).toUInt32 &&& Int32.toUInt32 31)).toInt32)) &&& ((252645135 : Int32))).toUInt32 >>> (((8 : Int32)).toUInt32 &&& Int32.toUInt32 31)).toInt32)) + ((((((((a1 - (((a1.toUInt32 >>> (((1 : Int32)).toUInt32 &&& Int32.toUInt32 31)).toInt32) &&& ((1431655765 : Int32)))) &&& ((858993459 : Int32))) + ((((a1 - (((a1.toUInt32 >>> (((1 : Int32)).toUInt32 &&& Int32.toUInt32 31)).toInt32) &&& ((1431655765 : Int32)))).toUInt32 >>> (((2 : Int32)).toUInt32 &&& Int32.toUInt32 31)).toInt32) &&& ((858993459 : Int32)))) + (((((a1 - (((a1.toUInt32 >>> (((1 : Int32)).toUInt32 &&& Int32.toUInt32 31)).toInt32) &&& ((1431655765 : Int32)))) &&& ((858993459 : Int32))) + ((((a1 - (((a1.toUInt32 >>> (((1 : Int32)).toUInt32 &&& Int32.toUInt32 31)).toInt32) &&& ((1431655765 : Int32)))).toUInt32 >>> (((2 : Int32)).toUInt32 &&& Int32.toUInt32 31)).toInt32) &&& ((858993459 : Int32)))).toUInt32 >>> (((4 : Int32)).toUInt32 &&& Int32.toUInt32 31)).toInt32)) &&& ((252645135 : Int32))) + (((((((a1 - (((a1.toUInt32 >>> (((1 : Int32)).toUInt32 &&& Int32.toUInt32 31)).toInt32) &&& ((1431655765 : Int32)))) &&& ((858993459 : Int32))) + ((((a1 - (((a1.toUInt32 >>> (((1 : Int32)).toUInt32 &&& Int32.toUInt32 31)).toInt32) &&& ((1431655765 : Int32)))).toUInt32 >>> (((2 : Int32)).toUInt32 &&& Int32.toUInt32 31)).toInt32) &&& ((858993459 : Int32)))) + (((((a1 - (((a1.toUInt32 >>> (((1 : Int32)).toUInt32 &&& Int32.toUInt32 31)).toInt32) &&& ((1431655765 : Int32)))) &&& ((858993459 : Int32))) + ((((a1 - (((a1.toUInt32 >>> (((1 : Int32)).toUInt32 &&& Int32.toUInt32 31)).toInt32) &&& ((1431655765 : Int32)))).toUInt32 >>> (((2 : Int32)).toUInt32 &&& Int32.toUInt32 31)).toInt32) &&& ((858993459 : Int32)))).toUInt32 >>> (((4 : Int32)).toUInt32 &&& Int32.toUInt32 31)).toInt32)) &&& ((252645135 : Int32))).toUInt32 >>> (((8 : Int32)).toUInt32 &&& Int32.toUInt32 31)).toInt32)).toUInt32 >>> (((16 : Int32)).toUInt32 &&& Int32.toUInt32 31)).toInt32)) &&& ((63 : Int32)))
set_option maxHeartbeats 4000000 in
set_option maxRecDepth 100000 in
theorem c_J6_bitCount (l : Launch) (g : a_G) (F : Nat) {h : List va_E} {a1 : Int32} {out : Int32} (hf : f_J6_bitCount F a1 = some out) : a_CT l g yJ6_bitCount_0f7a4 cJ6_bitCount_0f7a4 1 (some .int) (a_rm 0 0) [.int a1] h none none (fun r h' => r = some (.int out) ∧ h' = h) := by
  refine a_enter ⟨by decide, rfl, Nat.le_of_ble_eq_true rfl⟩ (fun p e s m args below meth c hr hin => ?_)
  unfold f_J6_bitCount at hf
  refine a_sub (ls' := [(0, .int a1)]) [0] rfl ?_
  refine a_iload_n (pc' := 1) 0 dJ6_bitCount_0f7a4_0 rfl rfl rfl ?_
  refine a_iload_n (pc' := 2) 0 dJ6_bitCount_0f7a4_1 rfl rfl rfl ?_
  refine a_iconst (pc' := 3) (v := (1 : Int32)) dJ6_bitCount_0f7a4_2 rfl (by decide) ?_
  refine a_iushr (pc' := 4) dJ6_bitCount_0f7a4_3 rfl ?_
  refine a_ldcw (pc' := 7) (v := (1431655765 : Int32)) (a_in2 32 rfl rfl) dJ6_bitCount_0f7a4_4 rfl ?_
  refine a_iand (pc' := 8) dJ6_bitCount_0f7a4_7 rfl ?_
  refine a_isub (pc' := 9) dJ6_bitCount_0f7a4_8 rfl ?_
  refine a_istore_n (pc' := 10) (ls' := [(0, .int (a1 - (((a1.toUInt32 >>> (((1 : Int32)).toUInt32 &&& Int32.toUInt32 31)).toInt32) &&& ((1431655765 : Int32)))))]) dJ6_bitCount_0f7a4_9 rfl (by decide) rfl rfl ?_
  refine a_iload_n (pc' := 11) 0 dJ6_bitCount_0f7a4_10 rfl rfl rfl ?_
  refine a_ldcw (pc' := 14) (v := (858993459 : Int32)) (a_in2 33 rfl rfl) dJ6_bitCount_0f7a4_11 rfl ?_
  refine a_iand (pc' := 15) dJ6_bitCount_0f7a4_14 rfl ?_
  refine a_iload_n (pc' := 16) 0 dJ6_bitCount_0f7a4_15 rfl rfl rfl ?_
  refine a_iconst (pc' := 17) (v := (2 : Int32)) dJ6_bitCount_0f7a4_16 rfl (by decide) ?_
  refine a_iushr (pc' := 18) dJ6_bitCount_0f7a4_17 rfl ?_
  refine a_ldcw (pc' := 21) (v := (858993459 : Int32)) (a_in2 33 rfl rfl) dJ6_bitCount_0f7a4_18 rfl ?_
  refine a_iand (pc' := 22) dJ6_bitCount_0f7a4_21 rfl ?_
  refine a_iadd (pc' := 23) dJ6_bitCount_0f7a4_22 rfl ?_
  refine a_istore_n (pc' := 24) (ls' := [(0, .int (((a1 - (((a1.toUInt32 >>> (((1 : Int32)).toUInt32 &&& Int32.toUInt32 31)).toInt32) &&& ((1431655765 : Int32)))) &&& ((858993459 : Int32))) + ((((a1 - (((a1.toUInt32 >>> (((1 : Int32)).toUInt32 &&& Int32.toUInt32 31)).toInt32) &&& ((1431655765 : Int32)))).toUInt32 >>> (((2 : Int32)).toUInt32 &&& Int32.toUInt32 31)).toInt32) &&& ((858993459 : Int32)))))]) dJ6_bitCount_0f7a4_23 rfl (by decide) rfl rfl ?_
  refine a_iload_n (pc' := 25) 0 dJ6_bitCount_0f7a4_24 rfl rfl rfl ?_
  refine a_iload_n (pc' := 26) 0 dJ6_bitCount_0f7a4_25 rfl rfl rfl ?_
  refine a_iconst (pc' := 27) (v := (4 : Int32)) dJ6_bitCount_0f7a4_26 rfl (by decide) ?_
  refine a_iushr (pc' := 28) dJ6_bitCount_0f7a4_27 rfl ?_
  refine a_iadd (pc' := 29) dJ6_bitCount_0f7a4_28 rfl ?_
  refine a_ldcw (pc' := 32) (v := (252645135 : Int32)) (a_in2 34 rfl rfl) dJ6_bitCount_0f7a4_29 rfl ?_
  refine a_iand (pc' := 33) dJ6_bitCount_0f7a4_32 rfl ?_
  refine a_istore_n (pc' := 34) (ls' := [(0, .int (((((a1 - (((a1.toUInt32 >>> (((1 : Int32)).toUInt32 &&& Int32.toUInt32 31)).toInt32) &&& ((1431655765 : Int32)))) &&& ((858993459 : Int32))) + ((((a1 - (((a1.toUInt32 >>> (((1 : Int32)).toUInt32 &&& Int32.toUInt32 31)).toInt32) &&& ((1431655765 : Int32)))).toUInt32 >>> (((2 : Int32)).toUInt32 &&& Int32.toUInt32 31)).toInt32) &&& ((858993459 : Int32)))) + (((((a1 - (((a1.toUInt32 >>> (((1 : Int32)).toUInt32 &&& Int32.toUInt32 31)).toInt32) &&& ((1431655765 : Int32)))) &&& ((858993459 : Int32))) + ((((a1 - (((a1.toUInt32 >>> (((1 : Int32)).toUInt32 &&& Int32.toUInt32 31)).toInt32) &&& ((1431655765 : Int32)))).toUInt32 >>> (((2 : Int32)).toUInt32 &&& Int32.toUInt32 31)).toInt32) &&& ((858993459 : Int32)))).toUInt32 >>> (((4 : Int32)).toUInt32 &&& Int32.toUInt32 31)).toInt32)) &&& ((252645135 : Int32))))]) dJ6_bitCount_0f7a4_33 rfl (by decide) rfl rfl ?_
  refine a_iload_n (pc' := 35) 0 dJ6_bitCount_0f7a4_34 rfl rfl rfl ?_
  refine a_iload_n (pc' := 36) 0 dJ6_bitCount_0f7a4_35 rfl rfl rfl ?_
  refine a_bipush (pc' := 38) (v := (8 : Int32)) dJ6_bitCount_0f7a4_36 rfl (by decide) ?_
  refine a_iushr (pc' := 39) dJ6_bitCount_0f7a4_38 rfl ?_
  refine a_iadd (pc' := 40) dJ6_bitCount_0f7a4_39 rfl ?_
  refine a_istore_n (pc' := 41) (ls' := [(0, .int ((((((a1 - (((a1.toUInt32 >>> (((1 : Int32)).toUInt32 &&& Int32.toUInt32 31)).toInt32) &&& ((1431655765 : Int32)))) &&& ((858993459 : Int32))) + ((((a1 - (((a1.toUInt32 >>> (((1 : Int32)).toUInt32 &&& Int32.toUInt32 31)).toInt32) &&& ((1431655765 : Int32)))).toUInt32 >>> (((2 : Int32)).toUInt32 &&& Int32.toUInt32 31)).toInt32) &&& ((858993459 : Int32)))) + (((((a1 - (((a1.toUInt32 >>> (((1 : Int32)).toUInt32 &&& Int32.toUInt32 31)).toInt32) &&& ((1431655765 : Int32)))) &&& ((858993459 : Int32))) + ((((a1 - (((a1.toUInt32 >>> (((1 : Int32)).toUInt32 &&& Int32.toUInt32 31)).toInt32) &&& ((1431655765 : Int32)))).toUInt32 >>> (((2 : Int32)).toUInt32 &&& Int32.toUInt32 31)).toInt32) &&& ((858993459 : Int32)))).toUInt32 >>> (((4 : Int32)).toUInt32 &&& Int32.toUInt32 31)).toInt32)) &&& ((252645135 : Int32))) + (((((((a1 - (((a1.toUInt32 >>> (((1 : Int32)).toUInt32 &&& Int32.toUInt32 31)).toInt32) &&& ((1431655765 : Int32)))) &&& ((858993459 : Int32))) + ((((a1 - (((a1.toUInt32 >>> (((1 : Int32)).toUInt32 &&& Int32.toUInt32 31)).toInt32) &&& ((1431655765 : Int32)))).toUInt32 >>> (((2 : Int32)).toUInt32 &&& Int32.toUInt32 31)).toInt32) &&& ((858993459 : Int32)))) + (((((a1 - (((a1.toUInt32 >>> (((1 : Int32)).toUInt32 &&& Int32.toUInt32 31)).toInt32) &&& ((1431655765 : Int32)))) &&& ((858993459 : Int32))) + ((((a1 - (((a1.toUInt32 >>> (((1 : Int32)).toUInt32 &&& Int32.toUInt32 31)).toInt32) &&& ((1431655765 : Int32)))).toUInt32 >>> (((2 : Int32)).toUInt32 &&& Int32.toUInt32 31)).toInt32) &&& ((858993459 : Int32)))).toUInt32 >>> (((4 : Int32)).toUInt32 &&& Int32.toUInt32 31)).toInt32)) &&& ((252645135 : Int32))).toUInt32 >>> (((8 : Int32)).toUInt32 &&& Int32.toUInt32 31)).toInt32)))]) dJ6_bitCount_0f7a4_40 rfl (by decide) rfl rfl ?_
  refine a_iload_n (pc' := 42) 0 dJ6_bitCount_0f7a4_41 rfl rfl rfl ?_
  refine a_iload_n (pc' := 43) 0 dJ6_bitCount_0f7a4_42 rfl rfl rfl ?_
  refine a_bipush (pc' := 45) (v := (16 : Int32)) dJ6_bitCount_0f7a4_43 rfl (by decide) ?_
  refine a_iushr (pc' := 46) dJ6_bitCount_0f7a4_45 rfl ?_
  refine a_iadd (pc' := 47) dJ6_bitCount_0f7a4_46 rfl ?_
  refine a_istore_n (pc' := 48) (ls' := [(0, .int (((((((a1 - (((a1.toUInt32 >>> (((1 : Int32)).toUInt32 &&& Int32.toUInt32 31)).toInt32) &&& ((1431655765 : Int32)))) &&& ((858993459 : Int32))) + ((((a1 - (((a1.toUInt32 >>> (((1 : Int32)).toUInt32 &&& Int32.toUInt32 31)).toInt32) &&& ((1431655765 : Int32)))).toUInt32 >>> (((2 : Int32)).toUInt32 &&& Int32.toUInt32 31)).toInt32) &&& ((858993459 : Int32)))) + (((((a1 - (((a1.toUInt32 >>> (((1 : Int32)).toUInt32 &&& Int32.toUInt32 31)).toInt32) &&& ((1431655765 : Int32)))) &&& ((858993459 : Int32))) + ((((a1 - (((a1.toUInt32 >>> (((1 : Int32)).toUInt32 &&& Int32.toUInt32 31)).toInt32) &&& ((1431655765 : Int32)))).toUInt32 >>> (((2 : Int32)).toUInt32 &&& Int32.toUInt32 31)).toInt32) &&& ((858993459 : Int32)))).toUInt32 >>> (((4 : Int32)).toUInt32 &&& Int32.toUInt32 31)).toInt32)) &&& ((252645135 : Int32))) + (((((((a1 - (((a1.toUInt32 >>> (((1 : Int32)).toUInt32 &&& Int32.toUInt32 31)).toInt32) &&& ((1431655765 : Int32)))) &&& ((858993459 : Int32))) + ((((a1 - (((a1.toUInt32 >>> (((1 : Int32)).toUInt32 &&& Int32.toUInt32 31)).toInt32) &&& ((1431655765 : Int32)))).toUInt32 >>> (((2 : Int32)).toUInt32 &&& Int32.toUInt32 31)).toInt32) &&& ((858993459 : Int32)))) + (((((a1 - (((a1.toUInt32 >>> (((1 : Int32)).toUInt32 &&& Int32.toUInt32 31)).toInt32) &&& ((1431655765 : Int32)))) &&& ((858993459 : Int32))) + ((((a1 - (((a1.toUInt32 >>> (((1 : Int32)).toUInt32 &&& Int32.toUInt32 31)).toInt32) &&& ((1431655765 : Int32)))).toUInt32 >>> (((2 : Int32)).toUInt32 &&& Int32.toUInt32 31)).toInt32) &&& ((858993459 : Int32)))).toUInt32 >>> (((4 : Int32)).toUInt32 &&& Int32.toUInt32 31)).toInt32)) &&& ((252645135 : Int32))).toUInt32 >>> (((8 : Int32)).toUInt32 &&& Int32.toUInt32 31)).toInt32)) + ((((((((a1 - (((a1.toUInt32 >>> (((1 : Int32)).toUInt32 &&& Int32.toUInt32 31)).toInt32) &&& ((1431655765 : Int32)))) &&& ((858993459 : Int32))) + ((((a1 - (((a1.toUInt32 >>> (((1 : Int32)).toUInt32 &&& Int32.toUInt32 31)).toInt32) &&& ((1431655765 : Int32)))).toUInt32 >>> (((2 : Int32)).toUInt32 &&& Int32.toUInt32 31)).toInt32) &&& ((858993459 : Int32)))) + (((((a1 - (((a1.toUInt32 >>> (((1 : Int32)).toUInt32 &&& Int32.toUInt32 31)).toInt32) &&& ((1431655765 : Int32)))) &&& ((858993459 : Int32))) + ((((a1 - (((a1.toUInt32 >>> (((1 : Int32)).toUInt32 &&& Int32.toUInt32 31)).toInt32) &&& ((1431655765 : Int32)))).toUInt32 >>> (((2 : Int32)).toUInt32 &&& Int32.toUInt32 31)).toInt32) &&& ((858993459 : Int32)))).toUInt32 >>> (((4 : Int32)).toUInt32 &&& Int32.toUInt32 31)).toInt32)) &&& ((252645135 : Int32))) + (((((((a1 - (((a1.toUInt32 >>> (((1 : Int32)).toUInt32 &&& Int32.toUInt32 31)).toInt32) &&& ((1431655765 : Int32)))) &&& ((858993459 : Int32))) + ((((a1 - (((a1.toUInt32 >>> (((1 : Int32)).toUInt32 &&& Int32.toUInt32 31)).toInt32) &&& ((1431655765 : Int32)))).toUInt32 >>> (((2 : Int32)).toUInt32 &&& Int32.toUInt32 31)).toInt32) &&& ((858993459 : Int32)))) + (((((a1 - (((a1.toUInt32 >>> (((1 : Int32)).toUInt32 &&& Int32.toUInt32 31)).toInt32) &&& ((1431655765 : Int32)))) &&& ((858993459 : Int32))) + ((((a1 - (((a1.toUInt32 >>> (((1 : Int32)).toUInt32 &&& Int32.toUInt32 31)).toInt32) &&& ((1431655765 : Int32)))).toUInt32 >>> (((2 : Int32)).toUInt32 &&& Int32.toUInt32 31)).toInt32) &&& ((858993459 : Int32)))).toUInt32 >>> (((4 : Int32)).toUInt32 &&& Int32.toUInt32 31)).toInt32)) &&& ((252645135 : Int32))).toUInt32 >>> (((8 : Int32)).toUInt32 &&& Int32.toUInt32 31)).toInt32)).toUInt32 >>> (((16 : Int32)).toUInt32 &&& Int32.toUInt32 31)).toInt32)))]) dJ6_bitCount_0f7a4_47 rfl (by decide) rfl rfl ?_
  refine a_iload_n (pc' := 49) 0 dJ6_bitCount_0f7a4_48 rfl rfl rfl ?_
  refine a_bipush (pc' := 51) (v := (63 : Int32)) dJ6_bitCount_0f7a4_49 rfl (by decide) ?_
  refine a_iand (pc' := 52) dJ6_bitCount_0f7a4_51 rfl ?_
  cases hf
  exact a_iret hr ⟨rfl, rfl⟩ dJ6_bitCount_0f7a4_52
/-! SlateRoof$Roof.slatesIn(I)I -/
set_option maxRecDepth 100000 in
def f_X1_slatesIn (F : Nat) (z : d_Z) (a1 : Int32) : Option (Int32) := (f_X3_valueAt F 100 (fun k => z (114 + k)) a1).bind fun x2 => (f_J6_bitCount F x2).bind fun x4 => some (x4)
set_option maxHeartbeats 4000000 in
set_option maxRecDepth 100000 in
theorem c_X1_slatesIn (l : Launch) (g : a_G) (F : Nat) {h : List va_E} {i : Nat} {z : d_Z} {a1 : Int32} (hz : d_roof h i z) {out : Int32} (hf : f_X1_slatesIn F z a1 = some out) : a_CT l g yX1_slatesIn cX1_slatesIn 2 (some .int) (a_rm 1 21) [.ref i, .int a1] h none none (fun r h' => r = some (.int out) ∧ h' = h) := by
  refine a_enter ⟨by decide, rfl, Nat.le_of_ble_eq_true rfl⟩ (fun p e s m args below meth c hr hin => ?_)
  unfold f_X1_slatesIn at hf
  refine a_sub (ls' := [(0, .ref i), (1, .int a1)]) [0, 1] rfl ?_
  refine a_aload_n (pc' := 1) 0 dX1_slatesIn_0 rfl rfl rfl ?_
  refine g_X1_22 (pc' := 4) hz.1 rfl dX1_slatesIn_1 rfl ?_
  refine a_iload_n (pc' := 5) 1 dX1_slatesIn_4 rfl rfl rfl ?_
  obtain ⟨x2, e1, hf⟩ := Option.bind_eq_some_iff.mp hf
  refine k_X1_83 (pc' := 8) (c_X3_valueAt l g F hz.2.2.1 e1) ⟨Nat.le_of_ble_eq_true rfl, Nat.le_of_ble_eq_true rfl⟩ (Nat.le_of_ble_eq_true rfl) dX1_slatesIn_5 rfl ?_
  obtain ⟨x4, e3, hf⟩ := Option.bind_eq_some_iff.mp hf
  refine k_X1_87 (pc' := 11) (c_J6_bitCount l g F e3) ⟨Nat.le_of_ble_eq_true rfl, Nat.le_of_ble_eq_true rfl⟩ (Nat.le_of_ble_eq_true rfl) dX1_slatesIn_8 rfl ?_
  cases hf
  exact a_iret hr ⟨rfl, rfl⟩ dX1_slatesIn_11
/-! SlateRoof$Roof.slatesOnRoof()I -/
set_option maxRecDepth 100000 in
def f_X1_slatesOnRoof_L4 (F : Nat) (z : d_Z) : Nat → Int32 → Int32 → Option (Int32 × Int32)
  | 0, _, _ => none
  | n + 1, v1_4, v2_4 => (if (z 2) ≤ v2_4 then some (v1_4, v2_4) else (f_X1_slatesIn F z v2_4).bind fun x5003 => f_X1_slatesOnRoof_L4 F z n (v1_4 + x5003) (v2_4 + (1 : Int32)))
set_option maxRecDepth 100000 in
def f_X1_slatesOnRoof (F : Nat) (z : d_Z) : Option (Int32) := (f_X1_slatesOnRoof_L4 F z F ((0 : Int32)) ((0 : Int32))).bind fun o1 => some (o1.1)
set_option maxHeartbeats 4000000 in
set_option maxRecDepth 100000 in
theorem l_X1_slatesOnRoof_L4 {p : Program} {l : Launch} {e : Env} {s : State} {m : MethodId} {args : Array Value} {below : List Frame} {meth : Method} {c : Code} {Q : State → Prop} {g : a_G} (F : Nat) {h : List va_E} {i : Nat} (z : d_Z) (hz : d_roof h i z) : ∀ (n : Nat) (v1_4 : Int32) (v2_4 : Int32) (o : Int32 × Int32), f_X1_slatesOnRoof_L4 F z n v1_4 v2_4 = some o → (∀ e9 : Int32 × Int32, o = e9 → a_W p l e (a_rm 2 42) s m args below meth c Q RX1 cX1_slatesOnRoof 3 g 0 0 none 26 [(1, .int e9.1)] [] h) → a_W p l e (a_rm 2 42) s m args below meth c Q RX1 cX1_slatesOnRoof 3 g 0 0 none 4 [(0, .ref i), (1, .int v1_4), (2, .int v2_4)] [] h := by
  intro n
  induction n with
  | zero => intro v1_4 v2_4 o hf; exact nomatch (show (none : Option (Int32 × Int32)) = some o from hf)
  | succ n ih =>
    intro v1_4 v2_4 o hf hX0
    rw [f_X1_slatesOnRoof_L4] at hf
    refine a_iload_n (pc' := 5) 2 dX1_slatesOnRoof_4 rfl rfl rfl ?_
    refine a_aload_n (pc' := 6) 0 dX1_slatesOnRoof_5 rfl rfl rfl ?_
    refine g_X1_46 (pc' := 9) hz.1 rfl dX1_slatesOnRoof_6 rfl ?_
    refine a_icmp_ge (pc' := 12) 26 dX1_slatesOnRoof_9 (by decide) rfl (fun k5001 => ?_) (fun k5001 => ?_)
    · replace hf := (if_pos k5001).symm.trans hf
      cases hf
      refine a_sub [1] rfl ?_
      exact hX0 _ rfl
    · replace hf := (if_neg k5001).symm.trans hf
      refine a_iload_n (pc' := 13) 1 dX1_slatesOnRoof_12 rfl rfl rfl ?_
      refine a_aload_n (pc' := 14) 0 dX1_slatesOnRoof_13 rfl rfl rfl ?_
      refine a_iload_n (pc' := 15) 2 dX1_slatesOnRoof_14 rfl rfl rfl ?_
      obtain ⟨x5003, e5002, hf⟩ := Option.bind_eq_some_iff.mp hf
      refine k_X1_92 (pc' := 18) (c_X1_slatesIn l g F hz e5002) ⟨Nat.le_of_ble_eq_true rfl, Nat.le_of_ble_eq_true rfl⟩ hz.1 (Nat.le_of_ble_eq_true rfl) dX1_slatesOnRoof_15 rfl ?_
      refine a_iadd (pc' := 19) dX1_slatesOnRoof_18 rfl ?_
      refine a_istore_n (pc' := 20) (ls' := [(1, .int (v1_4 + x5003)), (0, .ref i), (2, .int v2_4)]) dX1_slatesOnRoof_19 rfl (by decide) rfl rfl ?_
      refine a_iinc (pc' := 23) (v := v2_4 + (1 : Int32)) (ls' := [(2, .int (v2_4 + (1 : Int32))), (1, .int (v1_4 + x5003)), (0, .ref i)]) 2 dX1_slatesOnRoof_20 rfl (by rfl) (by decide) rfl rfl ?_
      refine a_goto 4 dX1_slatesOnRoof_23 (by decide) ?_
      refine a_sub [2, 1, 0] rfl ?_
      exact ih _ _ _ hf hX0
set_option maxHeartbeats 4000000 in
set_option maxRecDepth 100000 in
theorem c_X1_slatesOnRoof (l : Launch) (g : a_G) (F : Nat) {h : List va_E} {i : Nat} {z : d_Z} (hz : d_roof h i z) {out : Int32} (hf : f_X1_slatesOnRoof F z = some out) : a_CT l g yX1_slatesOnRoof cX1_slatesOnRoof 3 (some .int) (a_rm 2 42) [.ref i] h none none (fun r h' => r = some (.int out) ∧ h' = h) := by
  refine a_enter ⟨by decide, rfl, Nat.le_of_ble_eq_true rfl⟩ (fun p e s m args below meth c hr hin => ?_)
  unfold f_X1_slatesOnRoof at hf
  refine a_sub (ls' := [(0, .ref i)]) [0] rfl ?_
  refine a_iconst (pc' := 1) (v := (0 : Int32)) dX1_slatesOnRoof_0 rfl (by decide) ?_
  refine a_istore_n (pc' := 2) (ls' := [(1, .int ((0 : Int32))), (0, .ref i)]) dX1_slatesOnRoof_1 rfl (by decide) rfl rfl ?_
  refine a_iconst (pc' := 3) (v := (0 : Int32)) dX1_slatesOnRoof_2 rfl (by decide) ?_
  refine a_istore_n (pc' := 4) (ls' := [(2, .int ((0 : Int32))), (1, .int ((0 : Int32))), (0, .ref i)]) dX1_slatesOnRoof_3 rfl (by decide) rfl rfl ?_
  obtain ⟨o1, e2, hf⟩ := Option.bind_eq_some_iff.mp hf
  refine a_sub [2, 1, 0] rfl ?_
  refine l_X1_slatesOnRoof_L4 F z hz F _ _ o1 e2 (fun e9 he9 => ?_)
  subst he9
  refine a_iload_n (pc' := 27) 0 dX1_slatesOnRoof_26 rfl rfl rfl ?_
  cases hf
  exact a_iret hr ⟨rfl, rfl⟩ dX1_slatesOnRoof_27
/-! SlateRoof.begin(II)I -/
set_option maxRecDepth 100000 in
def f_X3_begin (F : Nat) (q : d_C) (a1 : Int32) (a2 : Int32) : Option ((Nat × d_C) ⊕ (Int32 × d_C)) := (f_X3_isWithin F a1 ((20 : Int32)) ((400 : Int32))).bind fun x2 => (if x2 = 0 then some (.inl (0, q)) else (f_X3_isWithin F a2 ((2 : Int32)) ((30 : Int32))).bind fun x5 => (if x5 = 0 then some (.inl (0, q)) else (f_X2_keep F q).bind fun x8 => f_let x8 fun q10 => (f_X1_slatesOnRoof F q10.1).bind fun x12 => f_let (upd q10.1 12 ((q10.1 12) + x12), q10.2) fun q14 => f_let (upd q14.1 2 ((0 : Int32)), q14.2) fun q16 => f_let (upd q16.1 0 a1, q16.2) fun q18 => f_let (upd q18.1 1 a2, q18.2) fun q20 => some (.inr ((x12, q20)))))
set_option maxHeartbeats 4000000 in
set_option maxRecDepth 100000 in
theorem c_X3_begin (l : Launch) (g : a_G) (F : Nat) {h : List va_E} {q : d_C} {a1 : Int32} {a2 : Int32} (hz : d_cls h q) {out : Int32 × d_C} (hf : f_X3_begin F q a1 a2 = some (.inr out)) : a_CT l g yX3_begin cX3_begin 4 (some .int) (a_rm 4 104) [.ref 0, .int a1, .int a2] h none none (fun r h' => r = some (.int out.1) ∧ d_cls h' out.2 ∧ d_frm 0 55 h h') := by
  refine a_enter ⟨by decide, rfl, Nat.le_of_ble_eq_true rfl⟩ (fun p e s m args below meth c hr hin => ?_)
  unfold f_X3_begin at hf
  have hfr : d_frm 0 55 h h := d_frm.rf
  refine a_sub (ls' := [(0, .ref 0), (1, .int a1), (2, .int a2)]) [0, 1, 2] rfl ?_
  refine a_iload_n (pc' := 1) 1 dX3_begin_0 rfl rfl rfl ?_
  refine a_bipush (pc' := 3) (v := (20 : Int32)) dX3_begin_1 rfl (by decide) ?_
  refine a_sipush (pc' := 6) (v := (400 : Int32)) dX3_begin_3 rfl (by decide) ?_
  obtain ⟨x2, e1, hf⟩ := Option.bind_eq_some_iff.mp hf
  refine k_X3_33 (pc' := 9) (c_X3_isWithin l g F e1) ⟨Nat.le_of_ble_eq_true rfl, Nat.le_of_ble_eq_true rfl⟩ (Nat.le_of_ble_eq_true rfl) dX3_begin_6 rfl ?_
  refine a_if_eq (pc' := 12) 22 dX3_begin_9 (by decide) rfl (fun k3 => ?_) (fun k3 => ?_)
  · replace hf := (if_pos k3).symm.trans hf
    cases hf
  · replace hf := (if_neg k3).symm.trans hf
    refine a_iload_n (pc' := 13) 2 dX3_begin_12 rfl rfl rfl ?_
    refine a_iconst (pc' := 14) (v := (2 : Int32)) dX3_begin_13 rfl (by decide) ?_
    refine a_bipush (pc' := 16) (v := (30 : Int32)) dX3_begin_14 rfl (by decide) ?_
    obtain ⟨x5, e4, hf⟩ := Option.bind_eq_some_iff.mp hf
    refine k_X3_33 (pc' := 19) (c_X3_isWithin l g F e4) ⟨Nat.le_of_ble_eq_true rfl, Nat.le_of_ble_eq_true rfl⟩ (Nat.le_of_ble_eq_true rfl) dX3_begin_16 rfl ?_
    refine a_if_ne (pc' := 22) 32 dX3_begin_19 (by decide) rfl (fun k6 => ?_) (fun k6 => ?_)
    · replace hf := (if_neg k6).symm.trans hf
      refine a_aload_n (pc' := 33) 0 dX3_begin_32 rfl rfl rfl ?_
      refine g_X3_22 (pc' := 36) hz.1 rfl dX3_begin_33 rfl ?_
      refine a_aload_n (pc' := 37) 0 dX3_begin_36 rfl rfl rfl ?_
      refine g_X3_10 (pc' := 40) hz.1 rfl dX3_begin_37 rfl ?_
      obtain ⟨x8, e7, hf⟩ := Option.bind_eq_some_iff.mp hf
      refine k_X3_44 (pc' := 43) (c_X2_keep l g F hz e7) ⟨Nat.le_of_ble_eq_true rfl, Nat.le_of_ble_eq_true rfl⟩ hz.2.2.2.1.1 (Nat.le_of_ble_eq_true rfl) dX3_begin_40 rfl (fun h9 hq => ?_)
      obtain ⟨hz1, hfr1⟩ := hq
      obtain ⟨q10, hf, hz⟩ := f_let_x (P := fun w => d_cls h9 w) hf hz1
      replace hfr := d_frm.tr hfr hfr1 (by omega)
      refine a_aload_n (pc' := 44) 0 dX3_begin_43 rfl rfl rfl ?_
      refine g_X3_10 (pc' := 47) hz.1 rfl dX3_begin_44 rfl ?_
      obtain ⟨x12, e11, hf⟩ := Option.bind_eq_some_iff.mp hf
      refine k_X3_48 (pc' := 50) (c_X1_slatesOnRoof l g F hz.2.1 e11) ⟨Nat.le_of_ble_eq_true rfl, Nat.le_of_ble_eq_true rfl⟩ hz.2.1.1 (Nat.le_of_ble_eq_true rfl) dX3_begin_47 rfl ?_
      refine a_istore_n (pc' := 51) (ls' := [(3, .int x12), (0, .ref 0), (1, .int a1), (2, .int a2)]) dX3_begin_50 rfl (by decide) rfl rfl ?_
      refine a_aload_n (pc' := 52) 1 dX3_begin_51 rfl rfl rfl ?_
      refine g_X3_10 (pc' := 55) hz.1 rfl dX3_begin_52 rfl ?_
      refine a_dup (pc' := 56) dX3_begin_55 rfl rfl ?_
      refine g_X3_52 (pc' := 59) hz.2.1.1 rfl dX3_begin_56 rfl ?_
      refine a_iload_n (pc' := 60) 0 dX3_begin_59 rfl rfl rfl ?_
      refine a_iadd (pc' := 61) dX3_begin_60 rfl ?_
      refine pt_X3_52 (pc' := 64) (z := q10.1) hz.2.1 dX3_begin_61 rfl (fun h13 hz1 hfr1 => ?_)
      have hz2 := d_c_now hz hz1 hfr1
      obtain ⟨q14, hf, hz⟩ := f_let_x (P := fun w => d_cls h13 w) hf hz2
      replace hfr := d_frm.tr hfr hfr1 (by omega)
      refine a_aload_n (pc' := 65) 1 dX3_begin_64 rfl rfl rfl ?_
      refine g_X3_10 (pc' := 68) hz.1 rfl dX3_begin_65 rfl ?_
      refine a_iconst (pc' := 69) (v := (0 : Int32)) dX3_begin_68 rfl (by decide) ?_
      refine pt_X3_56 (pc' := 72) (z := q14.1) hz.2.1 dX3_begin_69 rfl (fun h15 hz1 hfr1 => ?_)
      have hz2 := d_c_now hz hz1 hfr1
      obtain ⟨q16, hf, hz⟩ := f_let_x (P := fun w => d_cls h15 w) hf hz2
      replace hfr := d_frm.tr hfr hfr1 (by omega)
      refine a_aload_n (pc' := 73) 1 dX3_begin_72 rfl rfl rfl ?_
      refine g_X3_10 (pc' := 76) hz.1 rfl dX3_begin_73 rfl ?_
      refine a_iload_n (pc' := 77) 2 dX3_begin_76 rfl rfl rfl ?_
      refine pt_X3_59 (pc' := 80) (z := q16.1) hz.2.1 dX3_begin_77 rfl (fun h17 hz1 hfr1 => ?_)
      have hz2 := d_c_now hz hz1 hfr1
      obtain ⟨q18, hf, hz⟩ := f_let_x (P := fun w => d_cls h17 w) hf hz2
      replace hfr := d_frm.tr hfr hfr1 (by omega)
      refine a_aload_n (pc' := 81) 1 dX3_begin_80 rfl rfl rfl ?_
      refine g_X3_10 (pc' := 84) hz.1 rfl dX3_begin_81 rfl ?_
      refine a_iload_n (pc' := 85) 3 dX3_begin_84 rfl rfl rfl ?_
      refine pt_X3_62 (pc' := 88) (z := q18.1) hz.2.1 dX3_begin_85 rfl (fun h19 hz1 hfr1 => ?_)
      have hz2 := d_c_now hz hz1 hfr1
      obtain ⟨q20, hf, hz⟩ := f_let_x (P := fun w => d_cls h19 w) hf hz2
      replace hfr := d_frm.tr hfr hfr1 (by omega)
      refine a_iload_n (pc' := 89) 0 dX3_begin_88 rfl rfl rfl ?_
      cases hf
      exact a_iret hr ⟨rfl, hz, hfr⟩ dX3_begin_89
    · replace hf := (if_pos k6).symm.trans hf
      cases hf
/-! SlateRoof$Roof.settingOf(I)I -/
set_option maxRecDepth 100000 in
def f_X1_settingOf (F : Nat) (z : d_Z) (a1 : Int32) : Option (Int32) := (if a1 = (0 : Int32) then some (z 3) else (if a1 = (1 : Int32) then some (z 4) else (some (z 5))))
set_option maxHeartbeats 4000000 in
set_option maxRecDepth 100000 in
theorem c_X1_settingOf (l : Launch) (g : a_G) (F : Nat) {h : List va_E} {i : Nat} {z : d_Z} {a1 : Int32} (hz : d_roof h i z) {out : Int32} (hf : f_X1_settingOf F z a1 = some out) : a_CT l g yX1_settingOf cX1_settingOf 2 (some .int) (a_rm 0 0) [.ref i, .int a1] h none none (fun r h' => r = some (.int out) ∧ h' = h) := by
  refine a_enter ⟨by decide, rfl, Nat.le_of_ble_eq_true rfl⟩ (fun p e s m args below meth c hr hin => ?_)
  unfold f_X1_settingOf at hf
  refine a_sub (ls' := [(0, .ref i), (1, .int a1)]) [0, 1] rfl ?_
  refine a_iload_n (pc' := 1) 1 dX1_settingOf_0 rfl rfl rfl ?_
  by_cases k1 : a1 = (0 : Int32)
  · replace hf := (if_pos k1).symm.trans hf
    refine b_top k1 ?_
    refine a_lookup (off := 27) 28 dX1_settingOf_1 rfl (by decide) (by decide) ?_
    refine a_aload_n (pc' := 29) 0 dX1_settingOf_28 rfl rfl rfl ?_
    refine g_X1_34 (pc' := 32) hz.1 rfl dX1_settingOf_29 rfl ?_
    cases hf
    exact a_iret hr ⟨rfl, rfl⟩ dX1_settingOf_32
  · replace hf := (if_neg k1).symm.trans hf
    by_cases k2 : a1 = (1 : Int32)
    · replace hf := (if_pos k2).symm.trans hf
      refine b_top k2 ?_
      refine a_lookup (off := 32) 33 dX1_settingOf_1 rfl (by decide) (by decide) ?_
      refine a_aload_n (pc' := 34) 0 dX1_settingOf_33 rfl rfl rfl ?_
      refine g_X1_37 (pc' := 37) hz.1 rfl dX1_settingOf_34 rfl ?_
      cases hf
      exact a_iret hr ⟨rfl, rfl⟩ dX1_settingOf_37
    · replace hf := (if_neg k2).symm.trans hf
      refine a_lookup (off := 37) 38 dX1_settingOf_1 rfl (b_lout2 k1 k2) (by decide) ?_
      refine a_aload_n (pc' := 39) 0 dX1_settingOf_38 rfl rfl rfl ?_
      refine g_X1_40 (pc' := 42) hz.1 rfl dX1_settingOf_39 rfl ?_
      cases hf
      exact a_iret hr ⟨rfl, rfl⟩ dX1_settingOf_42
/-! SlateRoof$Roof.changeSetting(II)V -/
set_option maxRecDepth 100000 in
def f_X1_changeSetting (F : Nat) (z : d_Z) (a1 : Int32) (a2 : Int32) : Option (d_Z) := (if a1 = (0 : Int32) then f_let (upd z 3 a2) fun z3 => some (z3) else (if a1 = (1 : Int32) then f_let (upd z 4 a2) fun z6 => some (z6) else (f_let (upd z 5 a2) fun z8 => some (z8))))
set_option maxHeartbeats 4000000 in
set_option maxRecDepth 100000 in
theorem c_X1_changeSetting (l : Launch) (g : a_G) (F : Nat) {h : List va_E} {i : Nat} {z : d_Z} {a1 : Int32} {a2 : Int32} (hz : d_roof h i z) {out : d_Z} (hf : f_X1_changeSetting F z a1 a2 = some out) : a_CT l g yX1_changeSetting cX1_changeSetting 3 none (a_rm 0 0) [.ref i, .int a1, .int a2] h none none (fun r h' => r = none ∧ d_roof h' i out ∧ d_frm i 6 h h') := by
  refine a_enter ⟨by decide, rfl, Nat.le_of_ble_eq_true rfl⟩ (fun p e s m args below meth c hr hin => ?_)
  unfold f_X1_changeSetting at hf
  have hfr : d_frm i 6 h h := d_frm.rf
  refine a_sub (ls' := [(0, .ref i), (1, .int a1), (2, .int a2)]) [0, 1, 2] rfl ?_
  refine a_iload_n (pc' := 1) 1 dX1_changeSetting_0 rfl rfl rfl ?_
  by_cases k1 : a1 = (0 : Int32)
  · replace hf := (if_pos k1).symm.trans hf
    refine b_top k1 ?_
    refine a_lookup (off := 27) 28 dX1_changeSetting_1 rfl (by decide) (by decide) ?_
    refine a_aload_n (pc' := 29) 0 dX1_changeSetting_28 rfl rfl rfl ?_
    refine a_iload_n (pc' := 30) 2 dX1_changeSetting_29 rfl rfl rfl ?_
    refine pt_X1_34 (pc' := 33) (z := z) hz dX1_changeSetting_30 rfl (fun h2 hz1 hfr1 => ?_)
    obtain ⟨z3, hf, hz⟩ := f_let_x (P := fun w => d_roof h2 i w) hf hz1
    replace hfr := d_frm.tr hfr hfr1 (by omega)
    refine a_goto 49 dX1_changeSetting_33 (by decide) ?_
    cases hf
    exact a_vret hr ⟨rfl, hz, hfr⟩ dX1_changeSetting_49
  · replace hf := (if_neg k1).symm.trans hf
    by_cases k4 : a1 = (1 : Int32)
    · replace hf := (if_pos k4).symm.trans hf
      refine b_top k4 ?_
      refine a_lookup (off := 35) 36 dX1_changeSetting_1 rfl (by decide) (by decide) ?_
      refine a_aload_n (pc' := 37) 0 dX1_changeSetting_36 rfl rfl rfl ?_
      refine a_iload_n (pc' := 38) 2 dX1_changeSetting_37 rfl rfl rfl ?_
      refine pt_X1_37 (pc' := 41) (z := z) hz dX1_changeSetting_38 rfl (fun h5 hz1 hfr1 => ?_)
      obtain ⟨z6, hf, hz⟩ := f_let_x (P := fun w => d_roof h5 i w) hf hz1
      replace hfr := d_frm.tr hfr hfr1 (by omega)
      refine a_goto 49 dX1_changeSetting_41 (by decide) ?_
      cases hf
      exact a_vret hr ⟨rfl, hz, hfr⟩ dX1_changeSetting_49
    · replace hf := (if_neg k4).symm.trans hf
      refine a_lookup (off := 43) 44 dX1_changeSetting_1 rfl (b_lout2 k1 k4) (by decide) ?_
      refine a_aload_n (pc' := 45) 0 dX1_changeSetting_44 rfl rfl rfl ?_
      refine a_iload_n (pc' := 46) 2 dX1_changeSetting_45 rfl rfl rfl ?_
      refine pt_X1_40 (pc' := 49) (z := z) hz dX1_changeSetting_46 rfl (fun h7 hz1 hfr1 => ?_)
      obtain ⟨z8, hf, hz⟩ := f_let_x (P := fun w => d_roof h7 i w) hf hz1
      replace hfr := d_frm.tr hfr hfr1 (by omega)
      cases hf
      exact a_vret hr ⟨rfl, hz, hfr⟩ dX1_changeSetting_49
/-! SlateRoof.set(II)I -/
set_option maxRecDepth 100000 in
def f_X3_set (F : Nat) (q : d_C) (a1 : Int32) (a2 : Int32) : Option ((Nat × d_C) ⊕ (Int32 × d_C)) := (f_X3_isWithin F a1 ((0 : Int32)) ((2 : Int32))).bind fun x2 => (if x2 = 0 then some (.inl (2, q)) else (f_X3_valueAt F 3 a_least a1).bind fun x5 => (f_X3_valueAt F 3 a_most a1).bind fun x7 => (f_X3_isWithin F a2 x5 x7).bind fun x9 => (if x9 = 0 then some (.inl (0, q)) else (f_X2_keep F q).bind fun x12 => f_let x12 fun q14 => (f_X1_settingOf F q14.1 a1).bind fun x16 => (f_X1_changeSetting F q14.1 a1 a2).bind fun x18 => f_let (x18, q14.2) fun q20 => some (.inr ((x16, q20)))))
set_option maxHeartbeats 4000000 in
set_option maxRecDepth 100000 in
theorem c_X3_set (l : Launch) (g : a_G) (F : Nat) {h : List va_E} {q : d_C} {a1 : Int32} {a2 : Int32} (hz : d_cls h q) {out : Int32 × d_C} (hf : f_X3_set F q a1 a2 = some (.inr out)) : a_CT l g yX3_set cX3_set 4 (some .int) (a_rm 4 104) [.ref 0, .int a1, .int a2] h none none (fun r h' => r = some (.int out.1) ∧ d_cls h' out.2 ∧ d_frm 0 55 h h') := by
  refine a_enter ⟨by decide, rfl, Nat.le_of_ble_eq_true rfl⟩ (fun p e s m args below meth c hr hin => ?_)
  unfold f_X3_set at hf
  have hfr : d_frm 0 55 h h := d_frm.rf
  refine a_sub (ls' := [(0, .ref 0), (1, .int a1), (2, .int a2)]) [0, 1, 2] rfl ?_
  refine a_iload_n (pc' := 1) 1 dX3_set_0 rfl rfl rfl ?_
  refine a_iconst (pc' := 2) (v := (0 : Int32)) dX3_set_1 rfl (by decide) ?_
  refine a_iconst (pc' := 3) (v := (2 : Int32)) dX3_set_2 rfl (by decide) ?_
  obtain ⟨x2, e1, hf⟩ := Option.bind_eq_some_iff.mp hf
  refine k_X3_33 (pc' := 6) (c_X3_isWithin l g F e1) ⟨Nat.le_of_ble_eq_true rfl, Nat.le_of_ble_eq_true rfl⟩ (Nat.le_of_ble_eq_true rfl) dX3_set_3 rfl ?_
  refine a_if_ne (pc' := 9) 19 dX3_set_6 (by decide) rfl (fun k3 => ?_) (fun k3 => ?_)
  · replace hf := (if_neg k3).symm.trans hf
    refine a_iload_n (pc' := 20) 2 dX3_set_19 rfl rfl rfl ?_
    refine b_stat1000 (pc' := 23) dX3_set_20 rfl ?_
    refine a_iload_n (pc' := 24) 1 dX3_set_23 rfl rfl rfl ?_
    obtain ⟨x5, e4, hf⟩ := Option.bind_eq_some_iff.mp hf
    refine k_X3_74 (pc' := 27) (c_X3_valueAt_ro1000 l g F e4) ⟨Nat.le_of_ble_eq_true rfl, Nat.le_of_ble_eq_true rfl⟩ (Nat.le_of_ble_eq_true rfl) dX3_set_24 rfl ?_
    refine b_stat1001 (pc' := 30) dX3_set_27 rfl ?_
    refine a_iload_n (pc' := 31) 1 dX3_set_30 rfl rfl rfl ?_
    obtain ⟨x7, e6, hf⟩ := Option.bind_eq_some_iff.mp hf
    refine k_X3_74 (pc' := 34) (c_X3_valueAt_ro1001 l g F e6) ⟨Nat.le_of_ble_eq_true rfl, Nat.le_of_ble_eq_true rfl⟩ (Nat.le_of_ble_eq_true rfl) dX3_set_31 rfl ?_
    obtain ⟨x9, e8, hf⟩ := Option.bind_eq_some_iff.mp hf
    refine k_X3_33 (pc' := 37) (c_X3_isWithin l g F e8) ⟨Nat.le_of_ble_eq_true rfl, Nat.le_of_ble_eq_true rfl⟩ (Nat.le_of_ble_eq_true rfl) dX3_set_34 rfl ?_
    refine a_if_ne (pc' := 40) 50 dX3_set_37 (by decide) rfl (fun k10 => ?_) (fun k10 => ?_)
    · replace hf := (if_neg k10).symm.trans hf
      refine a_aload_n (pc' := 51) 0 dX3_set_50 rfl rfl rfl ?_
      refine g_X3_22 (pc' := 54) hz.1 rfl dX3_set_51 rfl ?_
      refine a_aload_n (pc' := 55) 0 dX3_set_54 rfl rfl rfl ?_
      refine g_X3_10 (pc' := 58) hz.1 rfl dX3_set_55 rfl ?_
      obtain ⟨x12, e11, hf⟩ := Option.bind_eq_some_iff.mp hf
      refine k_X3_44 (pc' := 61) (c_X2_keep l g F hz e11) ⟨Nat.le_of_ble_eq_true rfl, Nat.le_of_ble_eq_true rfl⟩ hz.2.2.2.1.1 (Nat.le_of_ble_eq_true rfl) dX3_set_58 rfl (fun h13 hq => ?_)
      obtain ⟨hz1, hfr1⟩ := hq
      obtain ⟨q14, hf, hz⟩ := f_let_x (P := fun w => d_cls h13 w) hf hz1
      replace hfr := d_frm.tr hfr hfr1 (by omega)
      refine a_aload_n (pc' := 62) 0 dX3_set_61 rfl rfl rfl ?_
      refine g_X3_10 (pc' := 65) hz.1 rfl dX3_set_62 rfl ?_
      refine a_iload_n (pc' := 66) 1 dX3_set_65 rfl rfl rfl ?_
      obtain ⟨x16, e15, hf⟩ := Option.bind_eq_some_iff.mp hf
      refine k_X3_83 (pc' := 69) (c_X1_settingOf l g F hz.2.1 e15) ⟨Nat.le_of_ble_eq_true rfl, Nat.le_of_ble_eq_true rfl⟩ hz.2.1.1 (Nat.le_of_ble_eq_true rfl) dX3_set_66 rfl ?_
      refine a_istore_n (pc' := 70) (ls' := [(3, .int x16), (0, .ref 0), (1, .int a1), (2, .int a2)]) dX3_set_69 rfl (by decide) rfl rfl ?_
      refine a_aload_n (pc' := 71) 1 dX3_set_70 rfl rfl rfl ?_
      refine g_X3_10 (pc' := 74) hz.1 rfl dX3_set_71 rfl ?_
      refine a_iload_n (pc' := 75) 2 dX3_set_74 rfl rfl rfl ?_
      refine a_iload_n (pc' := 76) 3 dX3_set_75 rfl rfl rfl ?_
      obtain ⟨x18, e17, hf⟩ := Option.bind_eq_some_iff.mp hf
      refine k_X3_87 (pc' := 79) (c_X1_changeSetting l g F hz.2.1 e17) ⟨Nat.le_of_ble_eq_true rfl, Nat.le_of_ble_eq_true rfl⟩ hz.2.1.1 (Nat.le_of_ble_eq_true rfl) dX3_set_76 rfl (fun h19 hq => ?_)
      obtain ⟨hz1, hfr1⟩ := hq
      have hz2 := d_c_now hz hz1 hfr1
      obtain ⟨q20, hf, hz⟩ := f_let_x (P := fun w => d_cls h19 w) hf hz2
      replace hfr := d_frm.tr hfr hfr1 (by omega)
      refine a_iload_n (pc' := 80) 0 dX3_set_79 rfl rfl rfl ?_
      cases hf
      exact a_iret hr ⟨rfl, hz, hfr⟩ dX3_set_80
    · replace hf := (if_pos k10).symm.trans hf
      cases hf
  · replace hf := (if_pos k3).symm.trans hf
    cases hf
/-! SlateRoof.isLength(I)Z -/
set_option maxRecDepth 100000 in
def f_X3_isLength (F : Nat) (a1 : Int32) : Option (Int32) := (if a1 < ((8 : Int32)) then some ((0 : Int32)) else (if ((24 : Int32)) < a1 then some ((0 : Int32)) else some ((1 : Int32))))
set_option maxHeartbeats 4000000 in
set_option maxRecDepth 100000 in
theorem c_X3_isLength (l : Launch) (g : a_G) (F : Nat) {h : List va_E} {a1 : Int32} {out : Int32} (hf : f_X3_isLength F a1 = some out) : a_CT l g yX3_isLength cX3_isLength 1 (some .boolean) (a_rm 0 0) [.int a1] h none none (fun r h' => r = some (.int out) ∧ h' = h) := by
  refine a_enter ⟨by decide, rfl, Nat.le_of_ble_eq_true rfl⟩ (fun p e s m args below meth c hr hin => ?_)
  unfold f_X3_isLength at hf
  refine a_sub (ls' := [(0, .int a1)]) [0] rfl ?_
  refine a_iload_n (pc' := 1) 0 dX3_isLength_0 rfl rfl rfl ?_
  refine a_bipush (pc' := 3) (v := (8 : Int32)) dX3_isLength_1 rfl (by decide) ?_
  refine a_icmp_lt (pc' := 6) 16 dX3_isLength_3 (by decide) rfl (fun k1 => ?_) (fun k1 => ?_)
  · replace hf := (if_pos k1).symm.trans hf
    refine a_iconst (pc' := 17) (v := (0 : Int32)) dX3_isLength_16 rfl (by decide) ?_
    cases hf
    exact a_zret hr rfl ⟨rfl, rfl⟩ dX3_isLength_17
  · replace hf := (if_neg k1).symm.trans hf
    refine a_iload_n (pc' := 7) 0 dX3_isLength_6 rfl rfl rfl ?_
    refine a_bipush (pc' := 9) (v := (24 : Int32)) dX3_isLength_7 rfl (by decide) ?_
    refine a_icmp_gt (pc' := 12) 16 dX3_isLength_9 (by decide) rfl (fun k2 => ?_) (fun k2 => ?_)
    · replace hf := (if_pos k2).symm.trans hf
      refine a_iconst (pc' := 17) (v := (0 : Int32)) dX3_isLength_16 rfl (by decide) ?_
      cases hf
      exact a_zret hr rfl ⟨rfl, rfl⟩ dX3_isLength_17
    · replace hf := (if_neg k2).symm.trans hf
      refine a_iconst (pc' := 13) (v := (1 : Int32)) dX3_isLength_12 rfl (by decide) ?_
      refine a_goto 17 dX3_isLength_13 (by decide) ?_
      cases hf
      exact a_zret hr rfl ⟨rfl, rfl⟩ dX3_isLength_17
/-! SlateRoof.sumOf([I)I -/
set_option maxRecDepth 100000 in
def f_X3_sumOf_L4 (F : Nat) (na : Nat) (f : d_Z) : Nat → Int32 → Int32 → Option (Int32 × Int32)
  | 0, _, _ => none
  | n + 1, v1_4, v2_4 => (if (Int32.ofNat na) ≤ v2_4 then some (v1_4, v2_4) else f_grd v2_4 na (f_X3_sumOf_L4 F na f n (v1_4 + (f v2_4.toNatClampNeg)) (v2_4 + (1 : Int32))))
set_option maxRecDepth 100000 in
def f_X3_sumOf (F : Nat) (na : Nat) (f : d_Z) : Option (Int32) := (f_X3_sumOf_L4 F na f F ((0 : Int32)) ((0 : Int32))).bind fun o1 => some (o1.1)
set_option maxHeartbeats 4000000 in
set_option maxRecDepth 100000 in
theorem l_X3_sumOf_L4 {p : Program} {l : Launch} {e : Env} {s : State} {m : MethodId} {args : Array Value} {below : List Frame} {meth : Method} {c : Code} {Q : State → Prop} {g : a_G} (F : Nat) {h : List va_E} {a : Nat} (na : Nat) (f : d_Z) (hz : d_arr h a na 0 f) : ∀ (n : Nat) (v1_4 : Int32) (v2_4 : Int32) (o : Int32 × Int32), f_X3_sumOf_L4 F na f n v1_4 v2_4 = some o → (∀ e9 : Int32 × Int32, o = e9 → a_W p l e (a_rm 0 0) s m args below meth c Q RX3 cX3_sumOf 3 g 0 0 none 22 [(1, .int e9.1)] [] h) → a_W p l e (a_rm 0 0) s m args below meth c Q RX3 cX3_sumOf 3 g 0 0 none 4 [(0, .ref a), (1, .int v1_4), (2, .int v2_4)] [] h := by
  intro n
  induction n with
  | zero => intro v1_4 v2_4 o hf; exact nomatch (show (none : Option (Int32 × Int32)) = some o from hf)
  | succ n ih =>
    intro v1_4 v2_4 o hf hX0
    rw [f_X3_sumOf_L4] at hf
    refine a_iload_n (pc' := 5) 2 dX3_sumOf_4 rfl rfl rfl ?_
    refine a_aload_n (pc' := 6) 0 dX3_sumOf_5 rfl rfl rfl ?_
    refine b_alen (pc' := 7) (kd := 0) (by decide) hz dX3_sumOf_6 rfl ?_
    refine a_icmp_ge (pc' := 10) 22 dX3_sumOf_7 (by decide) rfl (fun k5001 => ?_) (fun k5001 => ?_)
    · replace hf := (if_pos k5001).symm.trans hf
      cases hf
      refine a_sub [1] rfl ?_
      exact hX0 _ rfl
    · replace hf := (if_neg k5001).symm.trans hf
      refine a_iload_n (pc' := 11) 1 dX3_sumOf_10 rfl rfl rfl ?_
      refine a_aload_n (pc' := 12) 0 dX3_sumOf_11 rfl rfl rfl ?_
      refine a_iload_n (pc' := 13) 2 dX3_sumOf_12 rfl rfl rfl ?_
      obtain ⟨hg, hf⟩ := f_grd_x hf
      refine b_iald (pc' := 14) hz hg dX3_sumOf_13 rfl ?_
      refine a_iadd (pc' := 15) dX3_sumOf_14 rfl ?_
      refine a_istore_n (pc' := 16) (ls' := [(1, .int (v1_4 + (f v2_4.toNatClampNeg))), (0, .ref a), (2, .int v2_4)]) dX3_sumOf_15 rfl (by decide) rfl rfl ?_
      refine a_iinc (pc' := 19) (v := v2_4 + (1 : Int32)) (ls' := [(2, .int (v2_4 + (1 : Int32))), (1, .int (v1_4 + (f v2_4.toNatClampNeg))), (0, .ref a)]) 2 dX3_sumOf_16 rfl (by rfl) (by decide) rfl rfl ?_
      refine a_goto 4 dX3_sumOf_19 (by decide) ?_
      refine a_sub [2, 1, 0] rfl ?_
      exact ih _ _ _ hf hX0
set_option maxHeartbeats 4000000 in
set_option maxRecDepth 100000 in
theorem c_X3_sumOf (l : Launch) (g : a_G) (F : Nat) {h : List va_E} {a : Nat} {na : Nat} {f : d_Z} (hz : d_arr h a na 0 f) {out : Int32} (hf : f_X3_sumOf F na f = some out) : a_CT l g yX3_sumOf cX3_sumOf 3 (some .int) (a_rm 0 0) [.ref a] h none none (fun r h' => r = some (.int out) ∧ h' = h) := by
  refine a_enter ⟨by decide, rfl, Nat.le_of_ble_eq_true rfl⟩ (fun p e s m args below meth c hr hin => ?_)
  unfold f_X3_sumOf at hf
  refine a_sub (ls' := [(0, .ref a)]) [0] rfl ?_
  refine a_iconst (pc' := 1) (v := (0 : Int32)) dX3_sumOf_0 rfl (by decide) ?_
  refine a_istore_n (pc' := 2) (ls' := [(1, .int ((0 : Int32))), (0, .ref a)]) dX3_sumOf_1 rfl (by decide) rfl rfl ?_
  refine a_iconst (pc' := 3) (v := (0 : Int32)) dX3_sumOf_2 rfl (by decide) ?_
  refine a_istore_n (pc' := 4) (ls' := [(2, .int ((0 : Int32))), (1, .int ((0 : Int32))), (0, .ref a)]) dX3_sumOf_3 rfl (by decide) rfl rfl ?_
  obtain ⟨o1, e2, hf⟩ := Option.bind_eq_some_iff.mp hf
  refine a_sub [2, 1, 0] rfl ?_
  refine l_X3_sumOf_L4 F na f hz F _ _ o1 e2 (fun e9 he9 => ?_)
  subst he9
  refine a_iload_n (pc' := 23) 0 dX3_sumOf_22 rfl rfl rfl ?_
  cases hf
  exact a_iret hr ⟨rfl, rfl⟩ dX3_sumOf_23
/-! SlateRoof.brokenAmong(II)I -/
set_option maxRecDepth 100000 in
def f_X3_brokenAmong_L7 (F : Nat) (a1 : Int32) : Nat → Int32 → Int32 → Int32 → Option (Int32 × Int32 × Int32)
  | 0, _, _, _ => none
  | n + 1, v2_7, v3_7, v4_7 => (if a1 ≤ v4_7 then some (v2_7, v3_7, v4_7) else (if ((((((v2_7 * ((1103515245 : Int32))) + ((12345 : Int32))).toUInt32 >>> (((16 : Int32)).toUInt32 &&& Int32.toUInt32 31)).toInt32) &&& ((32767 : Int32))) - (((((v2_7 * ((1103515245 : Int32))) + ((12345 : Int32))).toUInt32 >>> (((16 : Int32)).toUInt32 &&& Int32.toUInt32 31)).toInt32) &&& ((32767 : Int32))) / ((10 : Int32)) * ((10 : Int32))) = 0 then f_X3_brokenAmong_L7 F a1 n ((v2_7 * ((1103515245 : Int32))) + ((12345 : Int32))) (v3_7 + (1 : Int32)) (v4_7 + (1 : Int32)) else f_X3_brokenAmong_L7 F a1 n ((v2_7 * ((1103515245 : Int32))) + ((12345 : Int32))) v3_7 (v4_7 + (1 : Int32))))
set_option maxRecDepth 100000 in
def f_X3_brokenAmong (F : Nat) (a1 : Int32) (a2 : Int32) : Option (Int32) := (f_X3_brokenAmong_L7 F a1 F a2 ((0 : Int32)) ((0 : Int32))).bind fun o1 => some (o1.2.1)
set_option maxHeartbeats 4000000 in
set_option maxRecDepth 100000 in
theorem l_X3_brokenAmong_L7 {p : Program} {l : Launch} {e : Env} {s : State} {m : MethodId} {args : Array Value} {below : List Frame} {meth : Method} {c : Code} {Q : State → Prop} {g : a_G} (F : Nat) {h : List va_E} (a1 : Int32) : ∀ (n : Nat) (v2_7 : Int32) (v3_7 : Int32) (v4_7 : Int32) (o : Int32 × Int32 × Int32), f_X3_brokenAmong_L7 F a1 n v2_7 v3_7 v4_7 = some o → (∀ e9 : Int32 × Int32 × Int32, o = e9 → a_W p l e (a_rm 0 0) s m args below meth c Q RX3 cX3_brokenAmong 5 g 0 0 none 46 [(3, .int e9.2.1)] [] h) → a_W p l e (a_rm 0 0) s m args below meth c Q RX3 cX3_brokenAmong 5 g 0 0 none 7 [(0, .int a1), (2, .int v2_7), (3, .int v3_7), (4, .int v4_7)] [] h := by
  intro n
  induction n with
  | zero => intro v2_7 v3_7 v4_7 o hf; exact nomatch (show (none : Option (Int32 × Int32 × Int32)) = some o from hf)
  | succ n ih =>
    intro v2_7 v3_7 v4_7 o hf hX0
    rw [f_X3_brokenAmong_L7] at hf
    refine a_iload (pc' := 9) 3 dX3_brokenAmong_7 rfl rfl ?_
    refine a_iload_n (pc' := 10) 0 dX3_brokenAmong_9 rfl rfl rfl ?_
    refine a_icmp_ge (pc' := 13) 46 dX3_brokenAmong_10 (by decide) rfl (fun k8001 => ?_) (fun k8001 => ?_)
    · replace hf := (if_pos k8001).symm.trans hf
      cases hf
      refine a_sub [2] rfl ?_
      exact hX0 _ rfl
    · replace hf := (if_neg k8001).symm.trans hf
      refine a_iload_n (pc' := 14) 1 dX3_brokenAmong_13 rfl rfl rfl ?_
      refine a_ldcw (pc' := 17) (v := (1103515245 : Int32)) (a_in3 97 rfl rfl) dX3_brokenAmong_14 rfl ?_
      refine a_imul (pc' := 18) dX3_brokenAmong_17 rfl ?_
      refine a_sipush (pc' := 21) (v := (12345 : Int32)) dX3_brokenAmong_18 rfl (by decide) ?_
      refine a_iadd (pc' := 22) dX3_brokenAmong_21 rfl ?_
      refine a_istore_n (pc' := 23) (ls' := [(2, .int ((v2_7 * ((1103515245 : Int32))) + ((12345 : Int32)))), (0, .int a1), (3, .int v3_7), (4, .int v4_7)]) dX3_brokenAmong_22 rfl (by decide) rfl rfl ?_
      refine a_iload_n (pc' := 24) 0 dX3_brokenAmong_23 rfl rfl rfl ?_
      refine a_bipush (pc' := 26) (v := (16 : Int32)) dX3_brokenAmong_24 rfl (by decide) ?_
      refine a_iushr (pc' := 27) dX3_brokenAmong_26 rfl ?_
      refine a_sipush (pc' := 30) (v := (32767 : Int32)) dX3_brokenAmong_27 rfl (by decide) ?_
      refine a_iand (pc' := 31) dX3_brokenAmong_30 rfl ?_
      refine a_bipush (pc' := 33) (v := (10 : Int32)) dX3_brokenAmong_31 rfl (by decide) ?_
      refine a_irem (pc' := 34) dX3_brokenAmong_33 rfl (by decide) ?_
      refine a_if_ne (pc' := 37) 40 dX3_brokenAmong_34 (by decide) rfl (fun k8002 => ?_) (fun k8002 => ?_)
      · replace hf := (if_neg k8002).symm.trans hf
        refine a_iinc (pc' := 43) (v := v4_7 + (1 : Int32)) (ls' := [(4, .int (v4_7 + (1 : Int32))), (2, .int ((v2_7 * ((1103515245 : Int32))) + ((12345 : Int32)))), (0, .int a1), (3, .int v3_7)]) 3 dX3_brokenAmong_40 rfl (by rfl) (by decide) rfl rfl ?_
        refine a_goto 7 dX3_brokenAmong_43 (by decide) ?_
        refine a_sub [2, 1, 3, 0] rfl ?_
        exact ih _ _ _ _ hf hX0
      · replace hf := (if_pos k8002).symm.trans hf
        refine a_iinc (pc' := 40) (v := v3_7 + (1 : Int32)) (ls' := [(3, .int (v3_7 + (1 : Int32))), (2, .int ((v2_7 * ((1103515245 : Int32))) + ((12345 : Int32)))), (0, .int a1), (4, .int v4_7)]) 2 dX3_brokenAmong_37 rfl (by rfl) (by decide) rfl rfl ?_
        refine a_iinc (pc' := 43) (v := v4_7 + (1 : Int32)) (ls' := [(4, .int (v4_7 + (1 : Int32))), (3, .int (v3_7 + (1 : Int32))), (2, .int ((v2_7 * ((1103515245 : Int32))) + ((12345 : Int32)))), (0, .int a1)]) 3 dX3_brokenAmong_40 rfl (by rfl) (by decide) rfl rfl ?_
        refine a_goto 7 dX3_brokenAmong_43 (by decide) ?_
        refine a_sub [3, 2, 1, 0] rfl ?_
        exact ih _ _ _ _ hf hX0
set_option maxHeartbeats 4000000 in
set_option maxRecDepth 100000 in
theorem c_X3_brokenAmong (l : Launch) (g : a_G) (F : Nat) {h : List va_E} {a1 : Int32} {a2 : Int32} {out : Int32} (hf : f_X3_brokenAmong F a1 a2 = some out) : a_CT l g yX3_brokenAmong cX3_brokenAmong 5 (some .int) (a_rm 0 0) [.int a1, .int a2] h none none (fun r h' => r = some (.int out) ∧ h' = h) := by
  refine a_enter ⟨by decide, rfl, Nat.le_of_ble_eq_true rfl⟩ (fun p e s m args below meth c hr hin => ?_)
  unfold f_X3_brokenAmong at hf
  refine a_sub (ls' := [(0, .int a1), (1, .int a2)]) [0, 1] rfl ?_
  refine a_iload_n (pc' := 1) 1 dX3_brokenAmong_0 rfl rfl rfl ?_
  refine a_istore_n (pc' := 2) (ls' := [(2, .int a2), (0, .int a1), (1, .int a2)]) dX3_brokenAmong_1 rfl (by decide) rfl rfl ?_
  refine a_iconst (pc' := 3) (v := (0 : Int32)) dX3_brokenAmong_2 rfl (by decide) ?_
  refine a_istore_n (pc' := 4) (ls' := [(3, .int ((0 : Int32))), (2, .int a2), (0, .int a1), (1, .int a2)]) dX3_brokenAmong_3 rfl (by decide) rfl rfl ?_
  refine a_iconst (pc' := 5) (v := (0 : Int32)) dX3_brokenAmong_4 rfl (by decide) ?_
  refine a_istore (pc' := 7) (ls' := [(4, .int ((0 : Int32))), (3, .int ((0 : Int32))), (2, .int a2), (0, .int a1), (1, .int a2)]) dX3_brokenAmong_5 (by decide) rfl rfl ?_
  obtain ⟨o1, e2, hf⟩ := Option.bind_eq_some_iff.mp hf
  refine a_sub [3, 2, 1, 0] rfl ?_
  refine l_X3_brokenAmong_L7 F a1  F _ _ _ o1 e2 (fun e9 he9 => ?_)
  subst he9
  refine a_iload_n (pc' := 47) 0 dX3_brokenAmong_46 rfl rfl rfl ?_
  cases hf
  exact a_iret hr ⟨rfl, rfl⟩ dX3_brokenAmong_47
/-! SlateRoof.addAt([III)V -/
set_option maxRecDepth 100000 in
def f_X3_addAt (F : Nat) (na : Nat) (f : d_Z) (a1 : Int32) (a2 : Int32) : Option (d_Z) := (if a1 < 0 then some (f) else (if (Int32.ofNat na) ≤ a1 then some (f) else f_grd a1 na (f_grd a1 na (f_let (upd f a1.toNatClampNeg ((f a1.toNatClampNeg) + a2)) fun f4 => some (f4)))))
set_option maxHeartbeats 4000000 in
set_option maxRecDepth 100000 in
theorem c_X3_addAt (l : Launch) (g : a_G) (F : Nat) {h : List va_E} {a : Nat} {na : Nat} {f : d_Z} {a1 : Int32} {a2 : Int32} (hz : d_arr h a na 0 f) {out : d_Z} (hf : f_X3_addAt F na f a1 a2 = some out) : a_CT l g yX3_addAt cX3_addAt 3 none (a_rm 0 0) [.ref a, .int a1, .int a2] h none none (fun r h' => r = none ∧ d_arr h' a na 0 out ∧ d_frm a 1 h h') := by
  refine a_enter ⟨by decide, rfl, Nat.le_of_ble_eq_true rfl⟩ (fun p e s m args below meth c hr hin => ?_)
  unfold f_X3_addAt at hf
  have hfr : d_frm a 1 h h := d_frm.rf
  refine a_sub (ls' := [(0, .ref a), (1, .int a1), (2, .int a2)]) [0, 1, 2] rfl ?_
  refine a_iload_n (pc' := 1) 1 dX3_addAt_0 rfl rfl rfl ?_
  refine a_if_lt (pc' := 4) 17 dX3_addAt_1 (by decide) rfl (fun k1 => ?_) (fun k1 => ?_)
  · replace hf := (if_pos k1).symm.trans hf
    cases hf
    exact a_vret hr ⟨rfl, hz, hfr⟩ dX3_addAt_17
  · replace hf := (if_neg k1).symm.trans hf
    refine a_iload_n (pc' := 5) 1 dX3_addAt_4 rfl rfl rfl ?_
    refine a_aload_n (pc' := 6) 0 dX3_addAt_5 rfl rfl rfl ?_
    refine b_alen (pc' := 7) (kd := 0) (by decide) hz dX3_addAt_6 rfl ?_
    refine a_icmp_ge (pc' := 10) 17 dX3_addAt_7 (by decide) rfl (fun k2 => ?_) (fun k2 => ?_)
    · replace hf := (if_pos k2).symm.trans hf
      cases hf
      exact a_vret hr ⟨rfl, hz, hfr⟩ dX3_addAt_17
    · replace hf := (if_neg k2).symm.trans hf
      refine a_aload_n (pc' := 11) 0 dX3_addAt_10 rfl rfl rfl ?_
      refine a_iload_n (pc' := 12) 1 dX3_addAt_11 rfl rfl rfl ?_
      refine a_dup2 (pc' := 13) dX3_addAt_12 rfl rfl rfl ?_
      obtain ⟨hg, hf⟩ := f_grd_x hf
      refine b_iald (pc' := 14) hz hg dX3_addAt_13 rfl ?_
      refine a_iload_n (pc' := 15) 2 dX3_addAt_14 rfl rfl rfl ?_
      refine a_iadd (pc' := 16) dX3_addAt_15 rfl ?_
      obtain ⟨hg, hf⟩ := f_grd_x hf
      refine b_iast (pc' := 17) hz hg dX3_addAt_16 rfl (fun h3 hz1 hfr1 => ?_)
      obtain ⟨f4, hf, hz⟩ := f_let_x (P := fun w => d_arr h3 a na 0 w) hf hz1
      replace hfr := d_frm.tr hfr hfr1 (by omega)
      cases hf
      exact a_vret hr ⟨rfl, hz, hfr⟩ dX3_addAt_17
/-! SlateRoof.priceOf(I)I -/
set_option maxRecDepth 100000 in
def f_X3_priceOf (F : Nat) (a1 : Int32) : Option (Int32) := some ((a1 * a1) / ((16 : Int32)))
set_option maxHeartbeats 4000000 in
set_option maxRecDepth 100000 in
theorem c_X3_priceOf (l : Launch) (g : a_G) (F : Nat) {h : List va_E} {a1 : Int32} {out : Int32} (hf : f_X3_priceOf F a1 = some out) : a_CT l g yX3_priceOf cX3_priceOf 1 (some .int) (a_rm 0 0) [.int a1] h none none (fun r h' => r = some (.int out) ∧ h' = h) := by
  refine a_enter ⟨by decide, rfl, Nat.le_of_ble_eq_true rfl⟩ (fun p e s m args below meth c hr hin => ?_)
  unfold f_X3_priceOf at hf
  refine a_sub (ls' := [(0, .int a1)]) [0] rfl ?_
  refine a_iload_n (pc' := 1) 0 dX3_priceOf_0 rfl rfl rfl ?_
  refine a_iload_n (pc' := 2) 0 dX3_priceOf_1 rfl rfl rfl ?_
  refine a_imul (pc' := 3) dX3_priceOf_2 rfl ?_
  refine a_bipush (pc' := 5) (v := (16 : Int32)) dX3_priceOf_3 rfl (by decide) ?_
  refine a_idiv (pc' := 6) dX3_priceOf_5 rfl (by decide) ?_
  cases hf
  exact a_iret hr ⟨rfl, rfl⟩ dX3_priceOf_6
/-! SlateRoof.buy(III)I -/
set_option maxRecDepth 100000 in
def f_X3_buy (F : Nat) (q : d_C) (a1 : Int32) (a2 : Int32) (a3 : Int32) : Option ((Nat × d_C) ⊕ (Int32 × d_C)) := (f_X3_isLength F a1).bind fun x2 => (if x2 = 0 then some (.inl (0, q)) else (f_X3_isWithin F a2 ((1 : Int32)) ((200 : Int32))).bind fun x5 => (if x5 = 0 then some (.inl (0, q)) else (f_X3_sumOf F 25 (fun k => q.1 (264 + k))).bind fun x8 => (if (x8 + a2) ≤ ((5000 : Int32)) then (f_X2_keep F q).bind fun x11 => f_let x11 fun q13 => (f_X3_brokenAmong F a2 a3).bind fun x15 => (f_X3_addAt F 25 (fun k => q13.1 (264 + k)) a1 a2).bind fun x17 => f_let (d_put q13.1 264 25 x17, q13.2) fun q19 => (f_X3_addAt F 25 (fun k => q19.1 (214 + k)) a1 (a2 - x15)).bind fun x21 => f_let (d_put q19.1 214 25 x21, q19.2) fun q23 => (f_X3_addAt F 25 (fun k => q23.1 (239 + k)) a1 x15).bind fun x25 => f_let (d_put q23.1 239 25 x25, q23.2) fun q27 => (f_X3_priceOf F a1).bind fun x29 => f_let (upd q27.1 13 ((q27.1 13) + (a2 * x29)), q27.2) fun q31 => some (.inr ((x15, q31))) else some (.inl (1, q)))))
set_option maxHeartbeats 4000000 in
set_option maxRecDepth 100000 in
theorem c_X3_buy (l : Launch) (g : a_G) (F : Nat) {h : List va_E} {q : d_C} {a1 : Int32} {a2 : Int32} {a3 : Int32} (hz : d_cls h q) {out : Int32 × d_C} (hf : f_X3_buy F q a1 a2 a3 = some (.inr out)) : a_CT l g yX3_buy cX3_buy 5 (some .int) (a_rm 4 104) [.ref 0, .int a1, .int a2, .int a3] h none none (fun r h' => r = some (.int out.1) ∧ d_cls h' out.2 ∧ d_frm 0 55 h h') := by
  refine a_enter ⟨by decide, rfl, Nat.le_of_ble_eq_true rfl⟩ (fun p e s m args below meth c hr hin => ?_)
  unfold f_X3_buy at hf
  have hfr : d_frm 0 55 h h := d_frm.rf
  refine a_sub (ls' := [(0, .ref 0), (1, .int a1), (2, .int a2), (3, .int a3)]) [0, 1, 2, 3] rfl ?_
  refine a_iload_n (pc' := 1) 1 dX3_buy_0 rfl rfl rfl ?_
  obtain ⟨x2, e1, hf⟩ := Option.bind_eq_some_iff.mp hf
  refine k_X3_91 (pc' := 4) (c_X3_isLength l g F e1) ⟨Nat.le_of_ble_eq_true rfl, Nat.le_of_ble_eq_true rfl⟩ (Nat.le_of_ble_eq_true rfl) dX3_buy_1 rfl ?_
  refine a_if_eq (pc' := 7) 18 dX3_buy_4 (by decide) rfl (fun k3 => ?_) (fun k3 => ?_)
  · replace hf := (if_pos k3).symm.trans hf
    cases hf
  · replace hf := (if_neg k3).symm.trans hf
    refine a_iload_n (pc' := 8) 2 dX3_buy_7 rfl rfl rfl ?_
    refine a_iconst (pc' := 9) (v := (1 : Int32)) dX3_buy_8 rfl (by decide) ?_
    refine a_sipush (pc' := 12) (v := (200 : Int32)) dX3_buy_9 rfl (by decide) ?_
    obtain ⟨x5, e4, hf⟩ := Option.bind_eq_some_iff.mp hf
    refine k_X3_33 (pc' := 15) (c_X3_isWithin l g F e4) ⟨Nat.le_of_ble_eq_true rfl, Nat.le_of_ble_eq_true rfl⟩ (Nat.le_of_ble_eq_true rfl) dX3_buy_12 rfl ?_
    refine a_if_ne (pc' := 18) 28 dX3_buy_15 (by decide) rfl (fun k6 => ?_) (fun k6 => ?_)
    · replace hf := (if_neg k6).symm.trans hf
      refine a_aload_n (pc' := 29) 0 dX3_buy_28 rfl rfl rfl ?_
      refine g_X3_10 (pc' := 32) hz.1 rfl dX3_buy_29 rfl ?_
      refine g_X3_97 (pc' := 35) hz.2.1.1 rfl dX3_buy_32 rfl ?_
      obtain ⟨x8, e7, hf⟩ := Option.bind_eq_some_iff.mp hf
      refine k_X3_100 (pc' := 38) (c_X3_sumOf l g F hz.2.1.2.2.2.2.2 e7) ⟨Nat.le_of_ble_eq_true rfl, Nat.le_of_ble_eq_true rfl⟩ (Nat.le_of_ble_eq_true rfl) dX3_buy_35 rfl ?_
      refine a_iload_n (pc' := 39) 2 dX3_buy_38 rfl rfl rfl ?_
      refine a_iadd (pc' := 40) dX3_buy_39 rfl ?_
      refine a_sipush (pc' := 43) (v := (5000 : Int32)) dX3_buy_40 rfl (by decide) ?_
      refine a_icmp_le (pc' := 46) 56 dX3_buy_43 (by decide) rfl (fun k9 => ?_) (fun k9 => ?_)
      · replace hf := (if_pos k9).symm.trans hf
        refine a_aload_n (pc' := 57) 0 dX3_buy_56 rfl rfl rfl ?_
        refine g_X3_22 (pc' := 60) hz.1 rfl dX3_buy_57 rfl ?_
        refine a_aload_n (pc' := 61) 0 dX3_buy_60 rfl rfl rfl ?_
        refine g_X3_10 (pc' := 64) hz.1 rfl dX3_buy_61 rfl ?_
        obtain ⟨x11, e10, hf⟩ := Option.bind_eq_some_iff.mp hf
        refine k_X3_44 (pc' := 67) (c_X2_keep l g F hz e10) ⟨Nat.le_of_ble_eq_true rfl, Nat.le_of_ble_eq_true rfl⟩ hz.2.2.2.1.1 (Nat.le_of_ble_eq_true rfl) dX3_buy_64 rfl (fun h12 hq => ?_)
        obtain ⟨hz1, hfr1⟩ := hq
        obtain ⟨q13, hf, hz⟩ := f_let_x (P := fun w => d_cls h12 w) hf hz1
        replace hfr := d_frm.tr hfr hfr1 (by omega)
        refine a_iload_n (pc' := 68) 2 dX3_buy_67 rfl rfl rfl ?_
        refine a_iload_n (pc' := 69) 3 dX3_buy_68 rfl rfl rfl ?_
        obtain ⟨x15, e14, hf⟩ := Option.bind_eq_some_iff.mp hf
        refine k_X3_109 (pc' := 72) (c_X3_brokenAmong l g F e14) ⟨Nat.le_of_ble_eq_true rfl, Nat.le_of_ble_eq_true rfl⟩ (Nat.le_of_ble_eq_true rfl) dX3_buy_69 rfl ?_
        refine a_istore (pc' := 74) (ls' := [(4, .int x15), (0, .ref 0), (1, .int a1), (2, .int a2), (3, .int a3)]) dX3_buy_72 (by decide) rfl rfl ?_
        refine a_aload_n (pc' := 75) 1 dX3_buy_74 rfl rfl rfl ?_
        refine g_X3_10 (pc' := 78) hz.1 rfl dX3_buy_75 rfl ?_
        refine g_X3_97 (pc' := 81) hz.2.1.1 rfl dX3_buy_78 rfl ?_
        refine a_iload_n (pc' := 82) 2 dX3_buy_81 rfl rfl rfl ?_
        refine a_iload_n (pc' := 83) 3 dX3_buy_82 rfl rfl rfl ?_
        obtain ⟨x17, e16, hf⟩ := Option.bind_eq_some_iff.mp hf
        refine k_X3_113 (pc' := 86) (c_X3_addAt l g F hz.2.1.2.2.2.2.2 e16) ⟨Nat.le_of_ble_eq_true rfl, Nat.le_of_ble_eq_true rfl⟩ (Nat.le_of_ble_eq_true rfl) dX3_buy_83 rfl (fun h18 hq => ?_)
        obtain ⟨hz1, hfr1⟩ := hq
        replace hz1 := d_r_a5 hz.2.1 hz1 hfr1
        replace hfr1 := d_frm.mono (lo := 1) (n := 6) hfr1 (by omega)
        have hz2 := d_c_now hz hz1 hfr1
        obtain ⟨q19, hf, hz⟩ := f_let_x (P := fun w => d_cls h18 w) hf hz2
        replace hfr := d_frm.tr hfr hfr1 (by omega)
        refine a_aload_n (pc' := 87) 1 dX3_buy_86 rfl rfl rfl ?_
        refine g_X3_10 (pc' := 90) hz.1 rfl dX3_buy_87 rfl ?_
        refine g_X3_117 (pc' := 93) hz.2.1.1 rfl dX3_buy_90 rfl ?_
        refine a_iload_n (pc' := 94) 2 dX3_buy_93 rfl rfl rfl ?_
        refine a_iload_n (pc' := 95) 3 dX3_buy_94 rfl rfl rfl ?_
        refine a_iload (pc' := 97) 0 dX3_buy_95 rfl rfl ?_
        refine a_isub (pc' := 98) dX3_buy_97 rfl ?_
        obtain ⟨x21, e20, hf⟩ := Option.bind_eq_some_iff.mp hf
        refine k_X3_113 (pc' := 101) (c_X3_addAt l g F hz.2.1.2.2.2.1 e20) ⟨Nat.le_of_ble_eq_true rfl, Nat.le_of_ble_eq_true rfl⟩ (Nat.le_of_ble_eq_true rfl) dX3_buy_98 rfl (fun h22 hq => ?_)
        obtain ⟨hz1, hfr1⟩ := hq
        replace hz1 := d_r_a3 hz.2.1 hz1 hfr1
        replace hfr1 := d_frm.mono (lo := 1) (n := 6) hfr1 (by omega)
        have hz2 := d_c_now hz hz1 hfr1
        obtain ⟨q23, hf, hz⟩ := f_let_x (P := fun w => d_cls h22 w) hf hz2
        replace hfr := d_frm.tr hfr hfr1 (by omega)
        refine a_aload_n (pc' := 102) 1 dX3_buy_101 rfl rfl rfl ?_
        refine g_X3_10 (pc' := 105) hz.1 rfl dX3_buy_102 rfl ?_
        refine g_X3_120 (pc' := 108) hz.2.1.1 rfl dX3_buy_105 rfl ?_
        refine a_iload_n (pc' := 109) 2 dX3_buy_108 rfl rfl rfl ?_
        refine a_iload (pc' := 111) 0 dX3_buy_109 rfl rfl ?_
        obtain ⟨x25, e24, hf⟩ := Option.bind_eq_some_iff.mp hf
        refine k_X3_113 (pc' := 114) (c_X3_addAt l g F hz.2.1.2.2.2.2.1 e24) ⟨Nat.le_of_ble_eq_true rfl, Nat.le_of_ble_eq_true rfl⟩ (Nat.le_of_ble_eq_true rfl) dX3_buy_111 rfl (fun h26 hq => ?_)
        obtain ⟨hz1, hfr1⟩ := hq
        replace hz1 := d_r_a4 hz.2.1 hz1 hfr1
        replace hfr1 := d_frm.mono (lo := 1) (n := 6) hfr1 (by omega)
        have hz2 := d_c_now hz hz1 hfr1
        obtain ⟨q27, hf, hz⟩ := f_let_x (P := fun w => d_cls h26 w) hf hz2
        replace hfr := d_frm.tr hfr hfr1 (by omega)
        refine a_aload_n (pc' := 115) 1 dX3_buy_114 rfl rfl rfl ?_
        refine g_X3_10 (pc' := 118) hz.1 rfl dX3_buy_115 rfl ?_
        refine a_dup (pc' := 119) dX3_buy_118 rfl rfl ?_
        refine g_X3_123 (pc' := 122) hz.2.1.1 rfl dX3_buy_119 rfl ?_
        refine a_iload_n (pc' := 123) 3 dX3_buy_122 rfl rfl rfl ?_
        refine a_iload_n (pc' := 124) 2 dX3_buy_123 rfl rfl rfl ?_
        obtain ⟨x29, e28, hf⟩ := Option.bind_eq_some_iff.mp hf
        refine k_X3_126 (pc' := 127) (c_X3_priceOf l g F e28) ⟨Nat.le_of_ble_eq_true rfl, Nat.le_of_ble_eq_true rfl⟩ (Nat.le_of_ble_eq_true rfl) dX3_buy_124 rfl ?_
        refine a_imul (pc' := 128) dX3_buy_127 rfl ?_
        refine a_iadd (pc' := 129) dX3_buy_128 rfl ?_
        refine pt_X3_123 (pc' := 132) (z := q27.1) hz.2.1 dX3_buy_129 rfl (fun h30 hz1 hfr1 => ?_)
        have hz2 := d_c_now hz hz1 hfr1
        obtain ⟨q31, hf, hz⟩ := f_let_x (P := fun w => d_cls h30 w) hf hz2
        replace hfr := d_frm.tr hfr hfr1 (by omega)
        refine a_iload (pc' := 134) 0 dX3_buy_132 rfl rfl ?_
        cases hf
        exact a_iret hr ⟨rfl, hz, hfr⟩ dX3_buy_134
      · replace hf := (if_neg k9).symm.trans hf
        cases hf
    · replace hf := (if_pos k6).symm.trans hf
      cases hf
/-! SlateRoof.recut(III)I -/
set_option maxRecDepth 100000 in
def f_X3_recut (F : Nat) (q : d_C) (a1 : Int32) (a2 : Int32) (a3 : Int32) : Option ((Nat × d_C) ⊕ (Int32 × d_C)) := (f_X3_isLength F a1).bind fun x2 => (if x2 = 0 then some (.inl (0, q)) else (f_X3_isWithin F a2 ((8 : Int32)) ((20 : Int32))).bind fun x5 => (if x5 = 0 then some (.inl (0, q)) else (f_X3_isWithin F a3 ((1 : Int32)) ((200 : Int32))).bind fun x8 => (if x8 = 0 then some (.inl (0, q)) else (if a2 ≤ (a1 - ((4 : Int32))) then (f_X3_valueAt F 25 (fun k => q.1 (239 + k)) a1).bind fun x12 => (if a3 ≤ x12 then (f_X2_keep F q).bind fun x15 => f_let x15 fun q17 => (f_X3_addAt F 25 (fun k => q17.1 (239 + k)) a1 (-a3)).bind fun x19 => f_let (d_put q17.1 239 25 x19, q17.2) fun q21 => (f_X3_addAt F 25 (fun k => q21.1 (214 + k)) a2 a3).bind fun x23 => f_let (d_put q21.1 214 25 x23, q21.2) fun q25 => f_let (upd q25.1 10 ((q25.1 10) + a3), q25.2) fun q27 => (f_X3_valueAt F 25 (fun k => q27.1 (239 + k)) a1).bind fun x29 => some (.inr ((x29, q27))) else some (.inl (1, q))) else some (.inl (0, q))))))
set_option maxHeartbeats 4000000 in
set_option maxRecDepth 100000 in
theorem c_X3_recut (l : Launch) (g : a_G) (F : Nat) {h : List va_E} {q : d_C} {a1 : Int32} {a2 : Int32} {a3 : Int32} (hz : d_cls h q) {out : Int32 × d_C} (hf : f_X3_recut F q a1 a2 a3 = some (.inr out)) : a_CT l g yX3_recut cX3_recut 4 (some .int) (a_rm 4 104) [.ref 0, .int a1, .int a2, .int a3] h none none (fun r h' => r = some (.int out.1) ∧ d_cls h' out.2 ∧ d_frm 0 55 h h') := by
  refine a_enter ⟨by decide, rfl, Nat.le_of_ble_eq_true rfl⟩ (fun p e s m args below meth c hr hin => ?_)
  unfold f_X3_recut at hf
  have hfr : d_frm 0 55 h h := d_frm.rf
  refine a_sub (ls' := [(0, .ref 0), (1, .int a1), (2, .int a2), (3, .int a3)]) [0, 1, 2, 3] rfl ?_
  refine a_iload_n (pc' := 1) 1 dX3_recut_0 rfl rfl rfl ?_
  obtain ⟨x2, e1, hf⟩ := Option.bind_eq_some_iff.mp hf
  refine k_X3_91 (pc' := 4) (c_X3_isLength l g F e1) ⟨Nat.le_of_ble_eq_true rfl, Nat.le_of_ble_eq_true rfl⟩ (Nat.le_of_ble_eq_true rfl) dX3_recut_1 rfl ?_
  refine a_if_eq (pc' := 7) 36 dX3_recut_4 (by decide) rfl (fun k3 => ?_) (fun k3 => ?_)
  · replace hf := (if_pos k3).symm.trans hf
    cases hf
  · replace hf := (if_neg k3).symm.trans hf
    refine a_iload_n (pc' := 8) 2 dX3_recut_7 rfl rfl rfl ?_
    refine a_bipush (pc' := 10) (v := (8 : Int32)) dX3_recut_8 rfl (by decide) ?_
    refine a_bipush (pc' := 12) (v := (20 : Int32)) dX3_recut_10 rfl (by decide) ?_
    obtain ⟨x5, e4, hf⟩ := Option.bind_eq_some_iff.mp hf
    refine k_X3_33 (pc' := 15) (c_X3_isWithin l g F e4) ⟨Nat.le_of_ble_eq_true rfl, Nat.le_of_ble_eq_true rfl⟩ (Nat.le_of_ble_eq_true rfl) dX3_recut_12 rfl ?_
    refine a_if_eq (pc' := 18) 36 dX3_recut_15 (by decide) rfl (fun k6 => ?_) (fun k6 => ?_)
    · replace hf := (if_pos k6).symm.trans hf
      cases hf
    · replace hf := (if_neg k6).symm.trans hf
      refine a_iload_n (pc' := 19) 3 dX3_recut_18 rfl rfl rfl ?_
      refine a_iconst (pc' := 20) (v := (1 : Int32)) dX3_recut_19 rfl (by decide) ?_
      refine a_sipush (pc' := 23) (v := (200 : Int32)) dX3_recut_20 rfl (by decide) ?_
      obtain ⟨x8, e7, hf⟩ := Option.bind_eq_some_iff.mp hf
      refine k_X3_33 (pc' := 26) (c_X3_isWithin l g F e7) ⟨Nat.le_of_ble_eq_true rfl, Nat.le_of_ble_eq_true rfl⟩ (Nat.le_of_ble_eq_true rfl) dX3_recut_23 rfl ?_
      refine a_if_eq (pc' := 29) 36 dX3_recut_26 (by decide) rfl (fun k9 => ?_) (fun k9 => ?_)
      · replace hf := (if_pos k9).symm.trans hf
        cases hf
      · replace hf := (if_neg k9).symm.trans hf
        refine a_iload_n (pc' := 30) 2 dX3_recut_29 rfl rfl rfl ?_
        refine a_iload_n (pc' := 31) 1 dX3_recut_30 rfl rfl rfl ?_
        refine a_iconst (pc' := 32) (v := (4 : Int32)) dX3_recut_31 rfl (by decide) ?_
        refine a_isub (pc' := 33) dX3_recut_32 rfl ?_
        refine a_icmp_le (pc' := 36) 46 dX3_recut_33 (by decide) rfl (fun k10 => ?_) (fun k10 => ?_)
        · replace hf := (if_pos k10).symm.trans hf
          refine a_aload_n (pc' := 47) 0 dX3_recut_46 rfl rfl rfl ?_
          refine g_X3_10 (pc' := 50) hz.1 rfl dX3_recut_47 rfl ?_
          refine g_X3_120 (pc' := 53) hz.2.1.1 rfl dX3_recut_50 rfl ?_
          refine a_iload_n (pc' := 54) 1 dX3_recut_53 rfl rfl rfl ?_
          obtain ⟨x12, e11, hf⟩ := Option.bind_eq_some_iff.mp hf
          refine k_X3_74 (pc' := 57) (c_X3_valueAt l g F hz.2.1.2.2.2.2.1 e11) ⟨Nat.le_of_ble_eq_true rfl, Nat.le_of_ble_eq_true rfl⟩ (Nat.le_of_ble_eq_true rfl) dX3_recut_54 rfl ?_
          refine a_iload_n (pc' := 58) 3 dX3_recut_57 rfl rfl rfl ?_
          refine a_icmp_ge (pc' := 61) 71 dX3_recut_58 (by decide) rfl (fun k13 => ?_) (fun k13 => ?_)
          · replace hf := (if_pos k13).symm.trans hf
            refine a_aload_n (pc' := 72) 0 dX3_recut_71 rfl rfl rfl ?_
            refine g_X3_22 (pc' := 75) hz.1 rfl dX3_recut_72 rfl ?_
            refine a_aload_n (pc' := 76) 0 dX3_recut_75 rfl rfl rfl ?_
            refine g_X3_10 (pc' := 79) hz.1 rfl dX3_recut_76 rfl ?_
            obtain ⟨x15, e14, hf⟩ := Option.bind_eq_some_iff.mp hf
            refine k_X3_44 (pc' := 82) (c_X2_keep l g F hz e14) ⟨Nat.le_of_ble_eq_true rfl, Nat.le_of_ble_eq_true rfl⟩ hz.2.2.2.1.1 (Nat.le_of_ble_eq_true rfl) dX3_recut_79 rfl (fun h16 hq => ?_)
            obtain ⟨hz1, hfr1⟩ := hq
            obtain ⟨q17, hf, hz⟩ := f_let_x (P := fun w => d_cls h16 w) hf hz1
            replace hfr := d_frm.tr hfr hfr1 (by omega)
            refine a_aload_n (pc' := 83) 0 dX3_recut_82 rfl rfl rfl ?_
            refine g_X3_10 (pc' := 86) hz.1 rfl dX3_recut_83 rfl ?_
            refine g_X3_120 (pc' := 89) hz.2.1.1 rfl dX3_recut_86 rfl ?_
            refine a_iload_n (pc' := 90) 1 dX3_recut_89 rfl rfl rfl ?_
            refine a_iload_n (pc' := 91) 3 dX3_recut_90 rfl rfl rfl ?_
            refine a_ineg (pc' := 92) dX3_recut_91 rfl ?_
            obtain ⟨x19, e18, hf⟩ := Option.bind_eq_some_iff.mp hf
            refine k_X3_113 (pc' := 95) (c_X3_addAt l g F hz.2.1.2.2.2.2.1 e18) ⟨Nat.le_of_ble_eq_true rfl, Nat.le_of_ble_eq_true rfl⟩ (Nat.le_of_ble_eq_true rfl) dX3_recut_92 rfl (fun h20 hq => ?_)
            obtain ⟨hz1, hfr1⟩ := hq
            replace hz1 := d_r_a4 hz.2.1 hz1 hfr1
            replace hfr1 := d_frm.mono (lo := 1) (n := 6) hfr1 (by omega)
            have hz2 := d_c_now hz hz1 hfr1
            obtain ⟨q21, hf, hz⟩ := f_let_x (P := fun w => d_cls h20 w) hf hz2
            replace hfr := d_frm.tr hfr hfr1 (by omega)
            refine a_aload_n (pc' := 96) 0 dX3_recut_95 rfl rfl rfl ?_
            refine g_X3_10 (pc' := 99) hz.1 rfl dX3_recut_96 rfl ?_
            refine g_X3_117 (pc' := 102) hz.2.1.1 rfl dX3_recut_99 rfl ?_
            refine a_iload_n (pc' := 103) 2 dX3_recut_102 rfl rfl rfl ?_
            refine a_iload_n (pc' := 104) 3 dX3_recut_103 rfl rfl rfl ?_
            obtain ⟨x23, e22, hf⟩ := Option.bind_eq_some_iff.mp hf
            refine k_X3_113 (pc' := 107) (c_X3_addAt l g F hz.2.1.2.2.2.1 e22) ⟨Nat.le_of_ble_eq_true rfl, Nat.le_of_ble_eq_true rfl⟩ (Nat.le_of_ble_eq_true rfl) dX3_recut_104 rfl (fun h24 hq => ?_)
            obtain ⟨hz1, hfr1⟩ := hq
            replace hz1 := d_r_a3 hz.2.1 hz1 hfr1
            replace hfr1 := d_frm.mono (lo := 1) (n := 6) hfr1 (by omega)
            have hz2 := d_c_now hz hz1 hfr1
            obtain ⟨q25, hf, hz⟩ := f_let_x (P := fun w => d_cls h24 w) hf hz2
            replace hfr := d_frm.tr hfr hfr1 (by omega)
            refine a_aload_n (pc' := 108) 0 dX3_recut_107 rfl rfl rfl ?_
            refine g_X3_10 (pc' := 111) hz.1 rfl dX3_recut_108 rfl ?_
            refine a_dup (pc' := 112) dX3_recut_111 rfl rfl ?_
            refine g_X3_133 (pc' := 115) hz.2.1.1 rfl dX3_recut_112 rfl ?_
            refine a_iload_n (pc' := 116) 3 dX3_recut_115 rfl rfl rfl ?_
            refine a_iadd (pc' := 117) dX3_recut_116 rfl ?_
            refine pt_X3_133 (pc' := 120) (z := q25.1) hz.2.1 dX3_recut_117 rfl (fun h26 hz1 hfr1 => ?_)
            have hz2 := d_c_now hz hz1 hfr1
            obtain ⟨q27, hf, hz⟩ := f_let_x (P := fun w => d_cls h26 w) hf hz2
            replace hfr := d_frm.tr hfr hfr1 (by omega)
            refine a_aload_n (pc' := 121) 0 dX3_recut_120 rfl rfl rfl ?_
            refine g_X3_10 (pc' := 124) hz.1 rfl dX3_recut_121 rfl ?_
            refine g_X3_120 (pc' := 127) hz.2.1.1 rfl dX3_recut_124 rfl ?_
            refine a_iload_n (pc' := 128) 1 dX3_recut_127 rfl rfl rfl ?_
            obtain ⟨x29, e28, hf⟩ := Option.bind_eq_some_iff.mp hf
            refine k_X3_74 (pc' := 131) (c_X3_valueAt l g F hz.2.1.2.2.2.2.1 e28) ⟨Nat.le_of_ble_eq_true rfl, Nat.le_of_ble_eq_true rfl⟩ (Nat.le_of_ble_eq_true rfl) dX3_recut_128 rfl ?_
            cases hf
            exact a_iret hr ⟨rfl, hz, hfr⟩ dX3_recut_131
          · replace hf := (if_neg k13).symm.trans hf
            cases hf
        · replace hf := (if_neg k10).symm.trans hf
          cases hf
/-! SlateRoof.clearHeap(I)I -/
set_option maxRecDepth 100000 in
def f_X3_clearHeap_L37 (F : Nat) (a1 : Int32) : Nat → Int32 → Int32 → d_C → Option (Int32 × Int32 × d_C)
  | 0, _, _, _ => none
  | n + 1, v2_37, v3_37, q_37 => (if a1 ≤ v3_37 then some (v2_37, v3_37, q_37) else (f_X3_valueAt F 25 (fun k => q_37.1 (239 + k)) v3_37).bind fun x38003 => (f_X3_addAt F 25 (fun k => q_37.1 (239 + k)) v3_37 (-x38003)).bind fun x38005 => f_let (d_put q_37.1 239 25 x38005, q_37.2) fun q38007 => f_X3_clearHeap_L37 F a1 n (v2_37 + x38003) (v3_37 + (1 : Int32)) q38007)
set_option maxRecDepth 100000 in
def f_X3_clearHeap (F : Nat) (q : d_C) (a1 : Int32) : Option ((Nat × d_C) ⊕ (Int32 × d_C)) := (f_X3_isWithin F a1 ((8 : Int32)) ((25 : Int32))).bind fun x2 => (if x2 = 0 then some (.inl (0, q)) else (f_X2_keep F q).bind fun x5 => f_let x5 fun q7 => (f_X3_clearHeap_L37 F a1 F ((0 : Int32)) ((8 : Int32)) q7).bind fun o8 => f_let (upd o8.2.2.1 11 ((o8.2.2.1 11) + o8.1), o8.2.2.2) fun q12 => some (.inr ((o8.1, q12))))
set_option maxHeartbeats 4000000 in
set_option maxRecDepth 100000 in
theorem l_X3_clearHeap_L37 {p : Program} {l : Launch} {e : Env} {s : State} {m : MethodId} {args : Array Value} {below : List Frame} {meth : Method} {c : Code} {Q : State → Prop} {g : a_G} (F : Nat) {h : List va_E} (a1 : Int32) : ∀ (n : Nat) (v2_37 : Int32) (v3_37 : Int32) (q_37 : d_C) (o : Int32 × Int32 × d_C), f_X3_clearHeap_L37 F a1 n v2_37 v3_37 q_37 = some o → (∀ e9 : Int32 × Int32 × d_C, o = e9 → ∀ h1, d_cls h1 e9.2.2 → d_frm 0 55 h h1 → a_W p l e (a_rm 4 104) s m args below meth c Q RX3 cX3_clearHeap 5 g 0 0 none 80 [(0, .ref 0), (2, .int e9.1)] [] h1) → ∀ h1, d_cls h1 q_37 → d_frm 0 55 h h1 → a_W p l e (a_rm 4 104) s m args below meth c Q RX3 cX3_clearHeap 5 g 0 0 none 37 [(0, .ref 0), (1, .int a1), (2, .int v2_37), (3, .int v3_37)] [] h1 := by
  intro n
  induction n with
  | zero => intro v2_37 v3_37 q_37 o hf; exact nomatch (show (none : Option (Int32 × Int32 × d_C)) = some o from hf)
  | succ n ih =>
    intro v2_37 v3_37 q_37 o hf hX0 h1 hz hfr
    rw [f_X3_clearHeap_L37] at hf
    refine a_iload_n (pc' := 38) 3 dX3_clearHeap_37 rfl rfl rfl ?_
    refine a_iload_n (pc' := 39) 1 dX3_clearHeap_38 rfl rfl rfl ?_
    refine a_icmp_ge (pc' := 42) 80 dX3_clearHeap_39 (by decide) rfl (fun k38001 => ?_) (fun k38001 => ?_)
    · replace hf := (if_pos k38001).symm.trans hf
      cases hf
      refine a_sub [0, 2] rfl ?_
      exact hX0 _ rfl _ hz hfr
    · replace hf := (if_neg k38001).symm.trans hf
      refine a_aload_n (pc' := 43) 0 dX3_clearHeap_42 rfl rfl rfl ?_
      refine g_X3_10 (pc' := 46) hz.1 rfl dX3_clearHeap_43 rfl ?_
      refine g_X3_120 (pc' := 49) hz.2.1.1 rfl dX3_clearHeap_46 rfl ?_
      refine a_iload_n (pc' := 50) 3 dX3_clearHeap_49 rfl rfl rfl ?_
      obtain ⟨x38003, e38002, hf⟩ := Option.bind_eq_some_iff.mp hf
      refine k_X3_74 (pc' := 53) (c_X3_valueAt l g F hz.2.1.2.2.2.2.1 e38002) ⟨Nat.le_of_ble_eq_true rfl, Nat.le_of_ble_eq_true rfl⟩ (Nat.le_of_ble_eq_true rfl) dX3_clearHeap_50 rfl ?_
      refine a_istore (pc' := 55) (ls' := [(4, .int x38003), (0, .ref 0), (1, .int a1), (2, .int v2_37), (3, .int v3_37)]) dX3_clearHeap_53 (by decide) rfl rfl ?_
      refine a_aload_n (pc' := 56) 1 dX3_clearHeap_55 rfl rfl rfl ?_
      refine g_X3_10 (pc' := 59) hz.1 rfl dX3_clearHeap_56 rfl ?_
      refine g_X3_120 (pc' := 62) hz.2.1.1 rfl dX3_clearHeap_59 rfl ?_
      refine a_iload_n (pc' := 63) 4 dX3_clearHeap_62 rfl rfl rfl ?_
      refine a_iload (pc' := 65) 0 dX3_clearHeap_63 rfl rfl ?_
      refine a_ineg (pc' := 66) dX3_clearHeap_65 rfl ?_
      obtain ⟨x38005, e38004, hf⟩ := Option.bind_eq_some_iff.mp hf
      refine k_X3_113 (pc' := 69) (c_X3_addAt l g F hz.2.1.2.2.2.2.1 e38004) ⟨Nat.le_of_ble_eq_true rfl, Nat.le_of_ble_eq_true rfl⟩ (Nat.le_of_ble_eq_true rfl) dX3_clearHeap_66 rfl (fun h38006 hq => ?_)
      obtain ⟨hz1, hfr1⟩ := hq
      replace hz1 := d_r_a4 hz.2.1 hz1 hfr1
      replace hfr1 := d_frm.mono (lo := 1) (n := 6) hfr1 (by omega)
      have hz2 := d_c_now hz hz1 hfr1
      obtain ⟨q38007, hf, hz⟩ := f_let_x (P := fun w => d_cls h38006 w) hf hz2
      replace hfr := d_frm.tr hfr hfr1 (by omega)
      refine a_iload_n (pc' := 70) 3 dX3_clearHeap_69 rfl rfl rfl ?_
      refine a_iload (pc' := 72) 0 dX3_clearHeap_70 rfl rfl ?_
      refine a_iadd (pc' := 73) dX3_clearHeap_72 rfl ?_
      refine a_istore_n (pc' := 74) (ls' := [(2, .int (v2_37 + x38003)), (4, .int x38003), (0, .ref 0), (1, .int a1), (3, .int v3_37)]) dX3_clearHeap_73 rfl (by decide) rfl rfl ?_
      refine a_iinc (pc' := 77) (v := v3_37 + (1 : Int32)) (ls' := [(3, .int (v3_37 + (1 : Int32))), (2, .int (v2_37 + x38003)), (4, .int x38003), (0, .ref 0), (1, .int a1)]) 4 dX3_clearHeap_74 rfl (by rfl) (by decide) rfl rfl ?_
      refine a_goto 37 dX3_clearHeap_77 (by decide) ?_
      refine a_sub [3, 4, 1, 0] rfl ?_
      exact ih _ _ _ _ hf hX0 _ hz hfr
set_option maxHeartbeats 4000000 in
set_option maxRecDepth 100000 in
theorem c_X3_clearHeap (l : Launch) (g : a_G) (F : Nat) {h : List va_E} {q : d_C} {a1 : Int32} (hz : d_cls h q) {out : Int32 × d_C} (hf : f_X3_clearHeap F q a1 = some (.inr out)) : a_CT l g yX3_clearHeap cX3_clearHeap 5 (some .int) (a_rm 4 104) [.ref 0, .int a1] h none none (fun r h' => r = some (.int out.1) ∧ d_cls h' out.2 ∧ d_frm 0 55 h h') := by
  refine a_enter ⟨by decide, rfl, Nat.le_of_ble_eq_true rfl⟩ (fun p e s m args below meth c hr hin => ?_)
  unfold f_X3_clearHeap at hf
  have hfr : d_frm 0 55 h h := d_frm.rf
  refine a_sub (ls' := [(0, .ref 0), (1, .int a1)]) [0, 1] rfl ?_
  refine a_iload_n (pc' := 1) 1 dX3_clearHeap_0 rfl rfl rfl ?_
  refine a_bipush (pc' := 3) (v := (8 : Int32)) dX3_clearHeap_1 rfl (by decide) ?_
  refine a_bipush (pc' := 5) (v := (25 : Int32)) dX3_clearHeap_3 rfl (by decide) ?_
  obtain ⟨x2, e1, hf⟩ := Option.bind_eq_some_iff.mp hf
  refine k_X3_33 (pc' := 8) (c_X3_isWithin l g F e1) ⟨Nat.le_of_ble_eq_true rfl, Nat.le_of_ble_eq_true rfl⟩ (Nat.le_of_ble_eq_true rfl) dX3_clearHeap_5 rfl ?_
  refine a_if_ne (pc' := 11) 21 dX3_clearHeap_8 (by decide) rfl (fun k3 => ?_) (fun k3 => ?_)
  · replace hf := (if_neg k3).symm.trans hf
    refine a_aload_n (pc' := 22) 0 dX3_clearHeap_21 rfl rfl rfl ?_
    refine g_X3_22 (pc' := 25) hz.1 rfl dX3_clearHeap_22 rfl ?_
    refine a_aload_n (pc' := 26) 0 dX3_clearHeap_25 rfl rfl rfl ?_
    refine g_X3_10 (pc' := 29) hz.1 rfl dX3_clearHeap_26 rfl ?_
    obtain ⟨x5, e4, hf⟩ := Option.bind_eq_some_iff.mp hf
    refine k_X3_44 (pc' := 32) (c_X2_keep l g F hz e4) ⟨Nat.le_of_ble_eq_true rfl, Nat.le_of_ble_eq_true rfl⟩ hz.2.2.2.1.1 (Nat.le_of_ble_eq_true rfl) dX3_clearHeap_29 rfl (fun h6 hq => ?_)
    obtain ⟨hz1, hfr1⟩ := hq
    obtain ⟨q7, hf, hz⟩ := f_let_x (P := fun w => d_cls h6 w) hf hz1
    replace hfr := d_frm.tr hfr hfr1 (by omega)
    refine a_iconst (pc' := 33) (v := (0 : Int32)) dX3_clearHeap_32 rfl (by decide) ?_
    refine a_istore_n (pc' := 34) (ls' := [(2, .int ((0 : Int32))), (0, .ref 0), (1, .int a1)]) dX3_clearHeap_33 rfl (by decide) rfl rfl ?_
    refine a_bipush (pc' := 36) (v := (8 : Int32)) dX3_clearHeap_34 rfl (by decide) ?_
    refine a_istore_n (pc' := 37) (ls' := [(3, .int ((8 : Int32))), (2, .int ((0 : Int32))), (0, .ref 0), (1, .int a1)]) dX3_clearHeap_36 rfl (by decide) rfl rfl ?_
    obtain ⟨o8, e9, hf⟩ := Option.bind_eq_some_iff.mp hf
    refine a_sub [2, 3, 1, 0] rfl ?_
    refine l_X3_clearHeap_L37 F a1  F _ _ _ o8 e9 (fun e9 he9 h10 hz hfr => ?_) _ hz hfr
    subst he9
    refine a_aload_n (pc' := 81) 0 dX3_clearHeap_80 rfl rfl rfl ?_
    refine g_X3_10 (pc' := 84) hz.1 rfl dX3_clearHeap_81 rfl ?_
    refine a_dup (pc' := 85) dX3_clearHeap_84 rfl rfl ?_
    refine g_X3_138 (pc' := 88) hz.2.1.1 rfl dX3_clearHeap_85 rfl ?_
    refine a_iload_n (pc' := 89) 1 dX3_clearHeap_88 rfl rfl rfl ?_
    refine a_iadd (pc' := 90) dX3_clearHeap_89 rfl ?_
    refine pt_X3_138 (pc' := 93) (z := o8.2.2.1) hz.2.1 dX3_clearHeap_90 rfl (fun h11 hz1 hfr1 => ?_)
    have hz2 := d_c_now hz hz1 hfr1
    obtain ⟨q12, hf, hz⟩ := f_let_x (P := fun w => d_cls h11 w) hf hz2
    replace hfr := d_frm.tr hfr hfr1 (by omega)
    refine a_iload_n (pc' := 94) 1 dX3_clearHeap_93 rfl rfl rfl ?_
    cases hf
    exact a_iret hr ⟨rfl, hz, hfr⟩ dX3_clearHeap_94
  · replace hf := (if_pos k3).symm.trans hf
    cases hf
/-! SlateRoof$Roof.canBeSlated()Z -/
set_option maxRecDepth 100000 in
def f_X1_canBeSlated (F : Nat) (z : d_Z) : Option (Int32) := (if (z 9) = 0 then (if (z 8) = 0 then some ((1 : Int32)) else some ((0 : Int32))) else some ((0 : Int32)))
set_option maxHeartbeats 4000000 in
set_option maxRecDepth 100000 in
theorem c_X1_canBeSlated (l : Launch) (g : a_G) (F : Nat) {h : List va_E} {i : Nat} {z : d_Z} (hz : d_roof h i z) {out : Int32} (hf : f_X1_canBeSlated F z = some out) : a_CT l g yX1_canBeSlated cX1_canBeSlated 1 (some .boolean) (a_rm 0 0) [.ref i] h none none (fun r h' => r = some (.int out) ∧ h' = h) := by
  refine a_enter ⟨by decide, rfl, Nat.le_of_ble_eq_true rfl⟩ (fun p e s m args below meth c hr hin => ?_)
  unfold f_X1_canBeSlated at hf
  refine a_sub (ls' := [(0, .ref i)]) [0] rfl ?_
  refine a_aload_n (pc' := 1) 0 dX1_canBeSlated_0 rfl rfl rfl ?_
  refine g_X1_59 (pc' := 4) hz.1 rfl dX1_canBeSlated_1 rfl ?_
  refine a_if_ne (pc' := 7) 18 dX1_canBeSlated_4 (by decide) rfl (fun k1 => ?_) (fun k1 => ?_)
  · replace hf := (if_neg k1).symm.trans hf
    refine a_iconst (pc' := 19) (v := (0 : Int32)) dX1_canBeSlated_18 rfl (by decide) ?_
    cases hf
    exact a_zret hr rfl ⟨rfl, rfl⟩ dX1_canBeSlated_19
  · replace hf := (if_pos k1).symm.trans hf
    refine a_aload_n (pc' := 8) 0 dX1_canBeSlated_7 rfl rfl rfl ?_
    refine g_X1_56 (pc' := 11) hz.1 rfl dX1_canBeSlated_8 rfl ?_
    refine a_if_ne (pc' := 14) 18 dX1_canBeSlated_11 (by decide) rfl (fun k2 => ?_) (fun k2 => ?_)
    · replace hf := (if_neg k2).symm.trans hf
      refine a_iconst (pc' := 19) (v := (0 : Int32)) dX1_canBeSlated_18 rfl (by decide) ?_
      cases hf
      exact a_zret hr rfl ⟨rfl, rfl⟩ dX1_canBeSlated_19
    · replace hf := (if_pos k2).symm.trans hf
      refine a_iconst (pc' := 15) (v := (1 : Int32)) dX1_canBeSlated_14 rfl (by decide) ?_
      refine a_goto 19 dX1_canBeSlated_15 (by decide) ?_
      cases hf
      exact a_zret hr rfl ⟨rfl, rfl⟩ dX1_canBeSlated_19
/-! SlateRoof$Roof.gaugeOf(I)I -/
set_option maxRecDepth 100000 in
def f_X1_gaugeOf (F : Nat) (z : d_Z) (a1 : Int32) : Option (Int32) := some ((a1 - (z 3)) / ((2 : Int32)))
set_option maxHeartbeats 4000000 in
set_option maxRecDepth 100000 in
theorem c_X1_gaugeOf (l : Launch) (g : a_G) (F : Nat) {h : List va_E} {i : Nat} {z : d_Z} {a1 : Int32} (hz : d_roof h i z) {out : Int32} (hf : f_X1_gaugeOf F z a1 = some out) : a_CT l g yX1_gaugeOf cX1_gaugeOf 2 (some .int) (a_rm 0 0) [.ref i, .int a1] h none none (fun r h' => r = some (.int out) ∧ h' = h) := by
  refine a_enter ⟨by decide, rfl, Nat.le_of_ble_eq_true rfl⟩ (fun p e s m args below meth c hr hin => ?_)
  unfold f_X1_gaugeOf at hf
  refine a_sub (ls' := [(0, .ref i), (1, .int a1)]) [0, 1] rfl ?_
  refine a_iload_n (pc' := 1) 1 dX1_gaugeOf_0 rfl rfl rfl ?_
  refine a_aload_n (pc' := 2) 0 dX1_gaugeOf_1 rfl rfl rfl ?_
  refine g_X1_34 (pc' := 5) hz.1 rfl dX1_gaugeOf_2 rfl ?_
  refine a_isub (pc' := 6) dX1_gaugeOf_5 rfl ?_
  refine a_iconst (pc' := 7) (v := (2 : Int32)) dX1_gaugeOf_6 rfl (by decide) ?_
  refine a_idiv (pc' := 8) dX1_gaugeOf_7 rfl (by decide) ?_
  cases hf
  exact a_iret hr ⟨rfl, rfl⟩ dX1_gaugeOf_8
/-! SlateRoof$Roof.topOf(I)I -/
set_option maxRecDepth 100000 in
def f_X1_topOf_L4 (F : Nat) (z : d_Z) (a1 : Int32) : Nat → Int32 → Int32 → Option (Int32 × Int32)
  | 0, _, _ => none
  | n + 1, v2_4, v3_4 => (if a1 < v3_4 then some (v2_4, v3_4) else (if (z 2) ≤ v3_4 then some (v2_4, v3_4) else (f_X3_valueAt F 100 (fun k => z (14 + k)) v3_4).bind fun x5004 => (f_X1_gaugeOf F z x5004).bind fun x5006 => f_X1_topOf_L4 F z a1 n (v2_4 + x5006) (v3_4 + (1 : Int32))))
set_option maxRecDepth 100000 in
def f_X1_topOf (F : Nat) (z : d_Z) (a1 : Int32) : Option (Int32) := (f_X1_topOf_L4 F z a1 F ((0 : Int32)) ((0 : Int32))).bind fun o1 => some (o1.1)
set_option maxHeartbeats 4000000 in
set_option maxRecDepth 100000 in
theorem l_X1_topOf_L4 {p : Program} {l : Launch} {e : Env} {s : State} {m : MethodId} {args : Array Value} {below : List Frame} {meth : Method} {c : Code} {Q : State → Prop} {g : a_G} (F : Nat) {h : List va_E} {i : Nat} (z : d_Z) (a1 : Int32) (hz : d_roof h i z) : ∀ (n : Nat) (v2_4 : Int32) (v3_4 : Int32) (o : Int32 × Int32), f_X1_topOf_L4 F z a1 n v2_4 v3_4 = some o → (∀ e9 : Int32 × Int32, o = e9 → a_W p l e (a_rm 1 21) s m args below meth c Q RX1 cX1_topOf 4 g 0 0 none 38 [(2, .int e9.1)] [] h) → a_W p l e (a_rm 1 21) s m args below meth c Q RX1 cX1_topOf 4 g 0 0 none 4 [(0, .ref i), (1, .int a1), (2, .int v2_4), (3, .int v3_4)] [] h := by
  intro n
  induction n with
  | zero => intro v2_4 v3_4 o hf; exact nomatch (show (none : Option (Int32 × Int32)) = some o from hf)
  | succ n ih =>
    intro v2_4 v3_4 o hf hX0
    rw [f_X1_topOf_L4] at hf
    refine a_iload_n (pc' := 5) 3 dX1_topOf_4 rfl rfl rfl ?_
    refine a_iload_n (pc' := 6) 1 dX1_topOf_5 rfl rfl rfl ?_
    refine a_icmp_gt (pc' := 9) 38 dX1_topOf_6 (by decide) rfl (fun k5001 => ?_) (fun k5001 => ?_)
    · replace hf := (if_pos k5001).symm.trans hf
      cases hf
      refine a_sub [2] rfl ?_
      exact hX0 _ rfl
    · replace hf := (if_neg k5001).symm.trans hf
      refine a_iload_n (pc' := 10) 3 dX1_topOf_9 rfl rfl rfl ?_
      refine a_aload_n (pc' := 11) 0 dX1_topOf_10 rfl rfl rfl ?_
      refine g_X1_46 (pc' := 14) hz.1 rfl dX1_topOf_11 rfl ?_
      refine a_icmp_ge (pc' := 17) 38 dX1_topOf_14 (by decide) rfl (fun k5002 => ?_) (fun k5002 => ?_)
      · replace hf := (if_pos k5002).symm.trans hf
        cases hf
        refine a_sub [2] rfl ?_
        exact hX0 _ rfl
      · replace hf := (if_neg k5002).symm.trans hf
        refine a_iload_n (pc' := 18) 2 dX1_topOf_17 rfl rfl rfl ?_
        refine a_aload_n (pc' := 19) 0 dX1_topOf_18 rfl rfl rfl ?_
        refine a_aload_n (pc' := 20) 0 dX1_topOf_19 rfl rfl rfl ?_
        refine g_X1_18 (pc' := 23) hz.1 rfl dX1_topOf_20 rfl ?_
        refine a_iload_n (pc' := 24) 3 dX1_topOf_23 rfl rfl rfl ?_
        obtain ⟨x5004, e5003, hf⟩ := Option.bind_eq_some_iff.mp hf
        refine k_X1_83 (pc' := 27) (c_X3_valueAt l g F hz.2.1 e5003) ⟨Nat.le_of_ble_eq_true rfl, Nat.le_of_ble_eq_true rfl⟩ (Nat.le_of_ble_eq_true rfl) dX1_topOf_24 rfl ?_
        obtain ⟨x5006, e5005, hf⟩ := Option.bind_eq_some_iff.mp hf
        refine k_X1_99 (pc' := 30) (c_X1_gaugeOf l g F hz e5005) ⟨Nat.le_of_ble_eq_true rfl, Nat.le_of_ble_eq_true rfl⟩ hz.1 (Nat.le_of_ble_eq_true rfl) dX1_topOf_27 rfl ?_
        refine a_iadd (pc' := 31) dX1_topOf_30 rfl ?_
        refine a_istore_n (pc' := 32) (ls' := [(2, .int (v2_4 + x5006)), (0, .ref i), (1, .int a1), (3, .int v3_4)]) dX1_topOf_31 rfl (by decide) rfl rfl ?_
        refine a_iinc (pc' := 35) (v := v3_4 + (1 : Int32)) (ls' := [(3, .int (v3_4 + (1 : Int32))), (2, .int (v2_4 + x5006)), (0, .ref i), (1, .int a1)]) 3 dX1_topOf_32 rfl (by rfl) (by decide) rfl rfl ?_
        refine a_goto 4 dX1_topOf_35 (by decide) ?_
        refine a_sub [2, 3, 1, 0] rfl ?_
        exact ih _ _ _ hf hX0
set_option maxHeartbeats 4000000 in
set_option maxRecDepth 100000 in
theorem c_X1_topOf (l : Launch) (g : a_G) (F : Nat) {h : List va_E} {i : Nat} {z : d_Z} {a1 : Int32} (hz : d_roof h i z) {out : Int32} (hf : f_X1_topOf F z a1 = some out) : a_CT l g yX1_topOf cX1_topOf 4 (some .int) (a_rm 1 21) [.ref i, .int a1] h none none (fun r h' => r = some (.int out) ∧ h' = h) := by
  refine a_enter ⟨by decide, rfl, Nat.le_of_ble_eq_true rfl⟩ (fun p e s m args below meth c hr hin => ?_)
  unfold f_X1_topOf at hf
  refine a_sub (ls' := [(0, .ref i), (1, .int a1)]) [0, 1] rfl ?_
  refine a_iconst (pc' := 1) (v := (0 : Int32)) dX1_topOf_0 rfl (by decide) ?_
  refine a_istore_n (pc' := 2) (ls' := [(2, .int ((0 : Int32))), (0, .ref i), (1, .int a1)]) dX1_topOf_1 rfl (by decide) rfl rfl ?_
  refine a_iconst (pc' := 3) (v := (0 : Int32)) dX1_topOf_2 rfl (by decide) ?_
  refine a_istore_n (pc' := 4) (ls' := [(3, .int ((0 : Int32))), (2, .int ((0 : Int32))), (0, .ref i), (1, .int a1)]) dX1_topOf_3 rfl (by decide) rfl rfl ?_
  obtain ⟨o1, e2, hf⟩ := Option.bind_eq_some_iff.mp hf
  refine a_sub [2, 3, 1, 0] rfl ?_
  refine l_X1_topOf_L4 F z a1 hz F _ _ o1 e2 (fun e9 he9 => ?_)
  subst he9
  refine a_iload_n (pc' := 39) 0 dX1_topOf_38 rfl rfl rfl ?_
  cases hf
  exact a_iret hr ⟨rfl, rfl⟩ dX1_topOf_39
/-! SlateRoof$Roof.isHighEnough()Z -/
set_option maxRecDepth 100000 in
def f_X1_isHighEnough (F : Nat) (z : d_Z) : Option (Int32) := (f_X1_topOf F z ((z 2) - ((1 : Int32)))).bind fun x2 => (if x2 < (z 0) then some ((0 : Int32)) else some ((1 : Int32)))
set_option maxHeartbeats 4000000 in
set_option maxRecDepth 100000 in
theorem c_X1_isHighEnough (l : Launch) (g : a_G) (F : Nat) {h : List va_E} {i : Nat} {z : d_Z} (hz : d_roof h i z) {out : Int32} (hf : f_X1_isHighEnough F z = some out) : a_CT l g yX1_isHighEnough cX1_isHighEnough 1 (some .boolean) (a_rm 2 44) [.ref i] h none none (fun r h' => r = some (.int out) ∧ h' = h) := by
  refine a_enter ⟨by decide, rfl, Nat.le_of_ble_eq_true rfl⟩ (fun p e s m args below meth c hr hin => ?_)
  unfold f_X1_isHighEnough at hf
  refine a_sub (ls' := [(0, .ref i)]) [0] rfl ?_
  refine a_aload_n (pc' := 1) 0 dX1_isHighEnough_0 rfl rfl rfl ?_
  refine a_aload_n (pc' := 2) 0 dX1_isHighEnough_1 rfl rfl rfl ?_
  refine g_X1_46 (pc' := 5) hz.1 rfl dX1_isHighEnough_2 rfl ?_
  refine a_iconst (pc' := 6) (v := (1 : Int32)) dX1_isHighEnough_5 rfl (by decide) ?_
  refine a_isub (pc' := 7) dX1_isHighEnough_6 rfl ?_
  obtain ⟨x2, e1, hf⟩ := Option.bind_eq_some_iff.mp hf
  refine k_X1_102 (pc' := 10) (c_X1_topOf l g F hz e1) ⟨Nat.le_of_ble_eq_true rfl, Nat.le_of_ble_eq_true rfl⟩ hz.1 (Nat.le_of_ble_eq_true rfl) dX1_isHighEnough_7 rfl ?_
  refine a_aload_n (pc' := 11) 0 dX1_isHighEnough_10 rfl rfl rfl ?_
  refine g_X1_9 (pc' := 14) hz.1 rfl dX1_isHighEnough_11 rfl ?_
  refine a_icmp_lt (pc' := 17) 21 dX1_isHighEnough_14 (by decide) rfl (fun k3 => ?_) (fun k3 => ?_)
  · replace hf := (if_pos k3).symm.trans hf
    refine a_iconst (pc' := 22) (v := (0 : Int32)) dX1_isHighEnough_21 rfl (by decide) ?_
    cases hf
    exact a_zret hr rfl ⟨rfl, rfl⟩ dX1_isHighEnough_22
  · replace hf := (if_neg k3).symm.trans hf
    refine a_iconst (pc' := 18) (v := (1 : Int32)) dX1_isHighEnough_17 rfl (by decide) ?_
    refine a_goto 22 dX1_isHighEnough_18 (by decide) ?_
    cases hf
    exact a_zret hr rfl ⟨rfl, rfl⟩ dX1_isHighEnough_22
/-! SlateRoof$Roof.placesOf(I)I -/
set_option maxRecDepth 100000 in
def f_X1_placesOf (F : Nat) (z : d_Z) (a1 : Int32) : Option (Int32) := (if (a1 - a1 / ((2 : Int32)) * ((2 : Int32))) = 0 then some (z 1) else some ((z 1) + ((1 : Int32))))
set_option maxHeartbeats 4000000 in
set_option maxRecDepth 100000 in
theorem c_X1_placesOf (l : Launch) (g : a_G) (F : Nat) {h : List va_E} {i : Nat} {z : d_Z} {a1 : Int32} (hz : d_roof h i z) {out : Int32} (hf : f_X1_placesOf F z a1 = some out) : a_CT l g yX1_placesOf cX1_placesOf 2 (some .int) (a_rm 0 0) [.ref i, .int a1] h none none (fun r h' => r = some (.int out) ∧ h' = h) := by
  refine a_enter ⟨by decide, rfl, Nat.le_of_ble_eq_true rfl⟩ (fun p e s m args below meth c hr hin => ?_)
  unfold f_X1_placesOf at hf
  refine a_sub (ls' := [(0, .ref i), (1, .int a1)]) [0, 1] rfl ?_
  refine a_iload_n (pc' := 1) 1 dX1_placesOf_0 rfl rfl rfl ?_
  refine a_iconst (pc' := 2) (v := (2 : Int32)) dX1_placesOf_1 rfl (by decide) ?_
  refine a_irem (pc' := 3) dX1_placesOf_2 rfl (by decide) ?_
  refine a_if_ne (pc' := 6) 13 dX1_placesOf_3 (by decide) rfl (fun k1 => ?_) (fun k1 => ?_)
  · replace hf := (if_neg k1).symm.trans hf
    refine a_aload_n (pc' := 14) 0 dX1_placesOf_13 rfl rfl rfl ?_
    refine g_X1_15 (pc' := 17) hz.1 rfl dX1_placesOf_14 rfl ?_
    refine a_iconst (pc' := 18) (v := (1 : Int32)) dX1_placesOf_17 rfl (by decide) ?_
    refine a_iadd (pc' := 19) dX1_placesOf_18 rfl ?_
    cases hf
    exact a_iret hr ⟨rfl, rfl⟩ dX1_placesOf_19
  · replace hf := (if_pos k1).symm.trans hf
    refine a_aload_n (pc' := 7) 0 dX1_placesOf_6 rfl rfl rfl ?_
    refine g_X1_15 (pc' := 10) hz.1 rfl dX1_placesOf_7 rfl ?_
    refine a_goto 19 dX1_placesOf_10 (by decide) ?_
    cases hf
    exact a_iret hr ⟨rfl, rfl⟩ dX1_placesOf_19
/-! SlateRoof$Roof.isFull(I)Z -/
set_option maxRecDepth 100000 in
def f_X1_isFull (F : Nat) (z : d_Z) (a1 : Int32) : Option (Int32) := (f_X1_slatesIn F z a1).bind fun x2 => (f_X1_placesOf F z a1).bind fun x4 => (if x2 < x4 then some ((0 : Int32)) else some ((1 : Int32)))
set_option maxHeartbeats 4000000 in
set_option maxRecDepth 100000 in
theorem c_X1_isFull (l : Launch) (g : a_G) (F : Nat) {h : List va_E} {i : Nat} {z : d_Z} {a1 : Int32} (hz : d_roof h i z) {out : Int32} (hf : f_X1_isFull F z a1 = some out) : a_CT l g yX1_isFull cX1_isFull 2 (some .boolean) (a_rm 2 42) [.ref i, .int a1] h none none (fun r h' => r = some (.int out) ∧ h' = h) := by
  refine a_enter ⟨by decide, rfl, Nat.le_of_ble_eq_true rfl⟩ (fun p e s m args below meth c hr hin => ?_)
  unfold f_X1_isFull at hf
  refine a_sub (ls' := [(0, .ref i), (1, .int a1)]) [0, 1] rfl ?_
  refine a_aload_n (pc' := 1) 0 dX1_isFull_0 rfl rfl rfl ?_
  refine a_iload_n (pc' := 2) 1 dX1_isFull_1 rfl rfl rfl ?_
  obtain ⟨x2, e1, hf⟩ := Option.bind_eq_some_iff.mp hf
  refine k_X1_92 (pc' := 5) (c_X1_slatesIn l g F hz e1) ⟨Nat.le_of_ble_eq_true rfl, Nat.le_of_ble_eq_true rfl⟩ hz.1 (Nat.le_of_ble_eq_true rfl) dX1_isFull_2 rfl ?_
  refine a_aload_n (pc' := 6) 0 dX1_isFull_5 rfl rfl rfl ?_
  refine a_iload_n (pc' := 7) 1 dX1_isFull_6 rfl rfl rfl ?_
  obtain ⟨x4, e3, hf⟩ := Option.bind_eq_some_iff.mp hf
  refine k_X1_79 (pc' := 10) (c_X1_placesOf l g F hz e3) ⟨Nat.le_of_ble_eq_true rfl, Nat.le_of_ble_eq_true rfl⟩ hz.1 (Nat.le_of_ble_eq_true rfl) dX1_isFull_7 rfl ?_
  refine a_icmp_lt (pc' := 13) 17 dX1_isFull_10 (by decide) rfl (fun k5 => ?_) (fun k5 => ?_)
  · replace hf := (if_pos k5).symm.trans hf
    refine a_iconst (pc' := 18) (v := (0 : Int32)) dX1_isFull_17 rfl (by decide) ?_
    cases hf
    exact a_zret hr rfl ⟨rfl, rfl⟩ dX1_isFull_18
  · replace hf := (if_neg k5).symm.trans hf
    refine a_iconst (pc' := 14) (v := (1 : Int32)) dX1_isFull_13 rfl (by decide) ?_
    refine a_goto 18 dX1_isFull_14 (by decide) ?_
    cases hf
    exact a_zret hr rfl ⟨rfl, rfl⟩ dX1_isFull_18
/-! SlateRoof$Roof.canGoUp()Z -/
set_option maxRecDepth 100000 in
def f_X1_canGoUp (F : Nat) (z : d_Z) : Option (Int32) := (if ((100 : Int32)) ≤ (z 2) then some ((0 : Int32)) else (f_X1_isHighEnough F z).bind fun x3 => (if x3 = 0 then (if (z 2) = 0 then some ((1 : Int32)) else (f_X1_isFull F z ((z 2) - ((1 : Int32)))).bind fun x7 => (if x7 = 0 then some ((0 : Int32)) else some ((1 : Int32)))) else some ((0 : Int32))))
set_option maxHeartbeats 4000000 in
set_option maxRecDepth 100000 in
theorem c_X1_canGoUp (l : Launch) (g : a_G) (F : Nat) {h : List va_E} {i : Nat} {z : d_Z} (hz : d_roof h i z) {out : Int32} (hf : f_X1_canGoUp F z = some out) : a_CT l g yX1_canGoUp cX1_canGoUp 1 (some .boolean) (a_rm 3 64) [.ref i] h none none (fun r h' => r = some (.int out) ∧ h' = h) := by
  refine a_enter ⟨by decide, rfl, Nat.le_of_ble_eq_true rfl⟩ (fun p e s m args below meth c hr hin => ?_)
  unfold f_X1_canGoUp at hf
  refine a_sub (ls' := [(0, .ref i)]) [0] rfl ?_
  refine a_aload_n (pc' := 1) 0 dX1_canGoUp_0 rfl rfl rfl ?_
  refine g_X1_46 (pc' := 4) hz.1 rfl dX1_canGoUp_1 rfl ?_
  refine a_bipush (pc' := 6) (v := (100 : Int32)) dX1_canGoUp_4 rfl (by decide) ?_
  refine a_icmp_ge (pc' := 9) 40 dX1_canGoUp_6 (by decide) rfl (fun k1 => ?_) (fun k1 => ?_)
  · replace hf := (if_pos k1).symm.trans hf
    refine a_iconst (pc' := 41) (v := (0 : Int32)) dX1_canGoUp_40 rfl (by decide) ?_
    cases hf
    exact a_zret hr rfl ⟨rfl, rfl⟩ dX1_canGoUp_41
  · replace hf := (if_neg k1).symm.trans hf
    refine a_aload_n (pc' := 10) 0 dX1_canGoUp_9 rfl rfl rfl ?_
    obtain ⟨x3, e2, hf⟩ := Option.bind_eq_some_iff.mp hf
    refine k_X1_105 (pc' := 13) (c_X1_isHighEnough l g F hz e2) ⟨Nat.le_of_ble_eq_true rfl, Nat.le_of_ble_eq_true rfl⟩ hz.1 (Nat.le_of_ble_eq_true rfl) dX1_canGoUp_10 rfl ?_
    refine a_if_ne (pc' := 16) 40 dX1_canGoUp_13 (by decide) rfl (fun k4 => ?_) (fun k4 => ?_)
    · replace hf := (if_neg k4).symm.trans hf
      refine a_iconst (pc' := 41) (v := (0 : Int32)) dX1_canGoUp_40 rfl (by decide) ?_
      cases hf
      exact a_zret hr rfl ⟨rfl, rfl⟩ dX1_canGoUp_41
    · replace hf := (if_pos k4).symm.trans hf
      refine a_aload_n (pc' := 17) 0 dX1_canGoUp_16 rfl rfl rfl ?_
      refine g_X1_46 (pc' := 20) hz.1 rfl dX1_canGoUp_17 rfl ?_
      refine a_if_eq (pc' := 23) 36 dX1_canGoUp_20 (by decide) rfl (fun k5 => ?_) (fun k5 => ?_)
      · replace hf := (if_pos k5).symm.trans hf
        refine a_iconst (pc' := 37) (v := (1 : Int32)) dX1_canGoUp_36 rfl (by decide) ?_
        refine a_goto 41 dX1_canGoUp_37 (by decide) ?_
        cases hf
        exact a_zret hr rfl ⟨rfl, rfl⟩ dX1_canGoUp_41
      · replace hf := (if_neg k5).symm.trans hf
        refine a_aload_n (pc' := 24) 0 dX1_canGoUp_23 rfl rfl rfl ?_
        refine a_aload_n (pc' := 25) 0 dX1_canGoUp_24 rfl rfl rfl ?_
        refine g_X1_46 (pc' := 28) hz.1 rfl dX1_canGoUp_25 rfl ?_
        refine a_iconst (pc' := 29) (v := (1 : Int32)) dX1_canGoUp_28 rfl (by decide) ?_
        refine a_isub (pc' := 30) dX1_canGoUp_29 rfl ?_
        obtain ⟨x7, e6, hf⟩ := Option.bind_eq_some_iff.mp hf
        refine k_X1_113 (pc' := 33) (c_X1_isFull l g F hz e6) ⟨Nat.le_of_ble_eq_true rfl, Nat.le_of_ble_eq_true rfl⟩ hz.1 (Nat.le_of_ble_eq_true rfl) dX1_canGoUp_30 rfl ?_
        refine a_if_eq (pc' := 36) 40 dX1_canGoUp_33 (by decide) rfl (fun k8 => ?_) (fun k8 => ?_)
        · replace hf := (if_pos k8).symm.trans hf
          refine a_iconst (pc' := 41) (v := (0 : Int32)) dX1_canGoUp_40 rfl (by decide) ?_
          cases hf
          exact a_zret hr rfl ⟨rfl, rfl⟩ dX1_canGoUp_41
        · replace hf := (if_neg k8).symm.trans hf
          refine a_iconst (pc' := 37) (v := (1 : Int32)) dX1_canGoUp_36 rfl (by decide) ?_
          refine a_goto 41 dX1_canGoUp_37 (by decide) ?_
          cases hf
          exact a_zret hr rfl ⟨rfl, rfl⟩ dX1_canGoUp_41
/-! SlateRoof$Roof.longestNext()I -/
set_option maxRecDepth 100000 in
def f_X1_longestNext (F : Nat) (z : d_Z) : Option (Int32) := (if (z 2) ≤ 0 then some ((24 : Int32)) else (f_X3_valueAt F 100 (fun k => z (14 + k)) ((z 2) - ((1 : Int32)))).bind fun x3 => some (x3))
set_option maxHeartbeats 4000000 in
set_option maxRecDepth 100000 in
theorem c_X1_longestNext (l : Launch) (g : a_G) (F : Nat) {h : List va_E} {i : Nat} {z : d_Z} (hz : d_roof h i z) {out : Int32} (hf : f_X1_longestNext F z = some out) : a_CT l g yX1_longestNext cX1_longestNext 1 (some .int) (a_rm 1 21) [.ref i] h none none (fun r h' => r = some (.int out) ∧ h' = h) := by
  refine a_enter ⟨by decide, rfl, Nat.le_of_ble_eq_true rfl⟩ (fun p e s m args below meth c hr hin => ?_)
  unfold f_X1_longestNext at hf
  refine a_sub (ls' := [(0, .ref i)]) [0] rfl ?_
  refine a_aload_n (pc' := 1) 0 dX1_longestNext_0 rfl rfl rfl ?_
  refine g_X1_46 (pc' := 4) hz.1 rfl dX1_longestNext_1 rfl ?_
  refine a_if_le (pc' := 7) 23 dX1_longestNext_4 (by decide) rfl (fun k1 => ?_) (fun k1 => ?_)
  · replace hf := (if_pos k1).symm.trans hf
    refine a_bipush (pc' := 25) (v := (24 : Int32)) dX1_longestNext_23 rfl (by decide) ?_
    cases hf
    exact a_iret hr ⟨rfl, rfl⟩ dX1_longestNext_25
  · replace hf := (if_neg k1).symm.trans hf
    refine a_aload_n (pc' := 8) 0 dX1_longestNext_7 rfl rfl rfl ?_
    refine g_X1_18 (pc' := 11) hz.1 rfl dX1_longestNext_8 rfl ?_
    refine a_aload_n (pc' := 12) 0 dX1_longestNext_11 rfl rfl rfl ?_
    refine g_X1_46 (pc' := 15) hz.1 rfl dX1_longestNext_12 rfl ?_
    refine a_iconst (pc' := 16) (v := (1 : Int32)) dX1_longestNext_15 rfl (by decide) ?_
    refine a_isub (pc' := 17) dX1_longestNext_16 rfl ?_
    obtain ⟨x3, e2, hf⟩ := Option.bind_eq_some_iff.mp hf
    refine k_X1_83 (pc' := 20) (c_X3_valueAt l g F hz.2.1 e2) ⟨Nat.le_of_ble_eq_true rfl, Nat.le_of_ble_eq_true rfl⟩ (Nat.le_of_ble_eq_true rfl) dX1_longestNext_17 rfl ?_
    refine a_goto 25 dX1_longestNext_20 (by decide) ?_
    cases hf
    exact a_iret hr ⟨rfl, rfl⟩ dX1_longestNext_25
/-! SlateRoof$Roof.addCourse(I)V -/
set_option maxRecDepth 100000 in
def f_X1_addCourse (F : Nat) (z : d_Z) (a1 : Int32) : Option (d_Z) := (if (z 2) < 0 then some (z) else (if (Int32.ofNat 100) ≤ (z 2) then some (z) else (if (Int32.ofNat 100) ≤ (z 2) then some (z) else f_grd (z 2) 100 (f_let (d_put z 14 100 (upd (fun k => z (14 + k)) (z 2).toNatClampNeg a1)) fun z5 => f_grd (z5 2) 100 (f_let (d_put z5 114 100 (upd (fun k => z5 (114 + k)) (z5 2).toNatClampNeg ((0 : Int32)))) fun z7 => f_let (upd z7 2 ((z7 2) + ((1 : Int32)))) fun z9 => some (z9))))))
set_option maxHeartbeats 4000000 in
set_option maxRecDepth 100000 in
theorem c_X1_addCourse (l : Launch) (g : a_G) (F : Nat) {h : List va_E} {i : Nat} {z : d_Z} {a1 : Int32} (hz : d_roof h i z) {out : d_Z} (hf : f_X1_addCourse F z a1 = some out) : a_CT l g yX1_addCourse cX1_addCourse 2 none (a_rm 0 0) [.ref i, .int a1] h none none (fun r h' => r = none ∧ d_roof h' i out ∧ d_frm i 6 h h') := by
  refine a_enter ⟨by decide, rfl, Nat.le_of_ble_eq_true rfl⟩ (fun p e s m args below meth c hr hin => ?_)
  unfold f_X1_addCourse at hf
  have hfr : d_frm i 6 h h := d_frm.rf
  refine a_sub (ls' := [(0, .ref i), (1, .int a1)]) [0, 1] rfl ?_
  refine a_aload_n (pc' := 1) 0 dX1_addCourse_0 rfl rfl rfl ?_
  refine g_X1_46 (pc' := 4) hz.1 rfl dX1_addCourse_1 rfl ?_
  refine a_if_lt (pc' := 7) 61 dX1_addCourse_4 (by decide) rfl (fun k1 => ?_) (fun k1 => ?_)
  · replace hf := (if_pos k1).symm.trans hf
    cases hf
    exact a_vret hr ⟨rfl, hz, hfr⟩ dX1_addCourse_61
  · replace hf := (if_neg k1).symm.trans hf
    refine a_aload_n (pc' := 8) 0 dX1_addCourse_7 rfl rfl rfl ?_
    refine g_X1_46 (pc' := 11) hz.1 rfl dX1_addCourse_8 rfl ?_
    refine a_aload_n (pc' := 12) 0 dX1_addCourse_11 rfl rfl rfl ?_
    refine g_X1_18 (pc' := 15) hz.1 rfl dX1_addCourse_12 rfl ?_
    refine b_alen (pc' := 16) (kd := 0) (by decide) hz.2.1 dX1_addCourse_15 rfl ?_
    refine a_icmp_ge (pc' := 19) 61 dX1_addCourse_16 (by decide) rfl (fun k2 => ?_) (fun k2 => ?_)
    · replace hf := (if_pos k2).symm.trans hf
      cases hf
      exact a_vret hr ⟨rfl, hz, hfr⟩ dX1_addCourse_61
    · replace hf := (if_neg k2).symm.trans hf
      refine a_aload_n (pc' := 20) 0 dX1_addCourse_19 rfl rfl rfl ?_
      refine g_X1_46 (pc' := 23) hz.1 rfl dX1_addCourse_20 rfl ?_
      refine a_aload_n (pc' := 24) 0 dX1_addCourse_23 rfl rfl rfl ?_
      refine g_X1_22 (pc' := 27) hz.1 rfl dX1_addCourse_24 rfl ?_
      refine b_alen (pc' := 28) (kd := 0) (by decide) hz.2.2.1 dX1_addCourse_27 rfl ?_
      refine a_icmp_ge (pc' := 31) 61 dX1_addCourse_28 (by decide) rfl (fun k3 => ?_) (fun k3 => ?_)
      · replace hf := (if_pos k3).symm.trans hf
        cases hf
        exact a_vret hr ⟨rfl, hz, hfr⟩ dX1_addCourse_61
      · replace hf := (if_neg k3).symm.trans hf
        refine a_aload_n (pc' := 32) 0 dX1_addCourse_31 rfl rfl rfl ?_
        refine g_X1_18 (pc' := 35) hz.1 rfl dX1_addCourse_32 rfl ?_
        refine a_aload_n (pc' := 36) 0 dX1_addCourse_35 rfl rfl rfl ?_
        refine g_X1_46 (pc' := 39) hz.1 rfl dX1_addCourse_36 rfl ?_
        refine a_iload_n (pc' := 40) 1 dX1_addCourse_39 rfl rfl rfl ?_
        obtain ⟨hg, hf⟩ := f_grd_x hf
        refine b_iast (pc' := 41) hz.2.1 hg dX1_addCourse_40 rfl (fun h4 hz1 hfr1 => ?_)
        replace hz1 := d_r_a1 hz hz1 hfr1
        replace hfr1 := d_frm.mono (lo := i) (n := 6) hfr1 (by omega)
        obtain ⟨z5, hf, hz⟩ := f_let_x (P := fun w => d_roof h4 i w) hf hz1
        replace hfr := d_frm.tr hfr hfr1 (by omega)
        refine a_aload_n (pc' := 42) 0 dX1_addCourse_41 rfl rfl rfl ?_
        refine g_X1_22 (pc' := 45) hz.1 rfl dX1_addCourse_42 rfl ?_
        refine a_aload_n (pc' := 46) 0 dX1_addCourse_45 rfl rfl rfl ?_
        refine g_X1_46 (pc' := 49) hz.1 rfl dX1_addCourse_46 rfl ?_
        refine a_iconst (pc' := 50) (v := (0 : Int32)) dX1_addCourse_49 rfl (by decide) ?_
        obtain ⟨hg, hf⟩ := f_grd_x hf
        refine b_iast (pc' := 51) hz.2.2.1 hg dX1_addCourse_50 rfl (fun h6 hz1 hfr1 => ?_)
        replace hz1 := d_r_a2 hz hz1 hfr1
        replace hfr1 := d_frm.mono (lo := i) (n := 6) hfr1 (by omega)
        obtain ⟨z7, hf, hz⟩ := f_let_x (P := fun w => d_roof h6 i w) hf hz1
        replace hfr := d_frm.tr hfr hfr1 (by omega)
        refine a_aload_n (pc' := 52) 0 dX1_addCourse_51 rfl rfl rfl ?_
        refine a_dup (pc' := 53) dX1_addCourse_52 rfl rfl ?_
        refine g_X1_46 (pc' := 56) hz.1 rfl dX1_addCourse_53 rfl ?_
        refine a_iconst (pc' := 57) (v := (1 : Int32)) dX1_addCourse_56 rfl (by decide) ?_
        refine a_iadd (pc' := 58) dX1_addCourse_57 rfl ?_
        refine pt_X1_46 (pc' := 61) (z := z7) hz dX1_addCourse_58 rfl (fun h8 hz1 hfr1 => ?_)
        obtain ⟨z9, hf, hz⟩ := f_let_x (P := fun w => d_roof h8 i w) hf hz1
        replace hfr := d_frm.tr hfr hfr1 (by omega)
        cases hf
        exact a_vret hr ⟨rfl, hz, hfr⟩ dX1_addCourse_61
/-! SlateRoof.course(I)I -/
set_option maxRecDepth 100000 in
def f_X3_course (F : Nat) (q : d_C) (a1 : Int32) : Option ((Nat × d_C) ⊕ (Int32 × d_C)) := (f_X3_isLength F a1).bind fun x2 => (if x2 = 0 then some (.inl (0, q)) else (f_X1_canBeSlated F q.1).bind fun x5 => (if x5 = 0 then some (.inl (1, q)) else (f_X1_canGoUp F q.1).bind fun x8 => (if x8 = 0 then some (.inl (1, q)) else (f_X1_longestNext F q.1).bind fun x11 => (if a1 ≤ x11 then (f_X2_keep F q).bind fun x14 => f_let x14 fun q16 => (f_X1_addCourse F q16.1 a1).bind fun x18 => f_let (x18, q16.2) fun q20 => some (.inr (((q20.1 2) - ((1 : Int32)), q20))) else some (.inl (1, q))))))
set_option maxHeartbeats 4000000 in
set_option maxRecDepth 100000 in
theorem c_X3_course (l : Launch) (g : a_G) (F : Nat) {h : List va_E} {q : d_C} {a1 : Int32} (hz : d_cls h q) {out : Int32 × d_C} (hf : f_X3_course F q a1 = some (.inr out)) : a_CT l g yX3_course cX3_course 2 (some .int) (a_rm 4 104) [.ref 0, .int a1] h none none (fun r h' => r = some (.int out.1) ∧ d_cls h' out.2 ∧ d_frm 0 55 h h') := by
  refine a_enter ⟨by decide, rfl, Nat.le_of_ble_eq_true rfl⟩ (fun p e s m args below meth c hr hin => ?_)
  unfold f_X3_course at hf
  have hfr : d_frm 0 55 h h := d_frm.rf
  refine a_sub (ls' := [(0, .ref 0), (1, .int a1)]) [0, 1] rfl ?_
  refine a_iload_n (pc' := 1) 1 dX3_course_0 rfl rfl rfl ?_
  obtain ⟨x2, e1, hf⟩ := Option.bind_eq_some_iff.mp hf
  refine k_X3_91 (pc' := 4) (c_X3_isLength l g F e1) ⟨Nat.le_of_ble_eq_true rfl, Nat.le_of_ble_eq_true rfl⟩ (Nat.le_of_ble_eq_true rfl) dX3_course_1 rfl ?_
  refine a_if_ne (pc' := 7) 17 dX3_course_4 (by decide) rfl (fun k3 => ?_) (fun k3 => ?_)
  · replace hf := (if_neg k3).symm.trans hf
    refine a_aload_n (pc' := 18) 0 dX3_course_17 rfl rfl rfl ?_
    refine g_X3_10 (pc' := 21) hz.1 rfl dX3_course_18 rfl ?_
    obtain ⟨x5, e4, hf⟩ := Option.bind_eq_some_iff.mp hf
    refine k_X3_141 (pc' := 24) (c_X1_canBeSlated l g F hz.2.1 e4) ⟨Nat.le_of_ble_eq_true rfl, Nat.le_of_ble_eq_true rfl⟩ hz.2.1.1 (Nat.le_of_ble_eq_true rfl) dX3_course_21 rfl ?_
    refine a_if_eq (pc' := 27) 48 dX3_course_24 (by decide) rfl (fun k6 => ?_) (fun k6 => ?_)
    · replace hf := (if_pos k6).symm.trans hf
      cases hf
    · replace hf := (if_neg k6).symm.trans hf
      refine a_aload_n (pc' := 28) 0 dX3_course_27 rfl rfl rfl ?_
      refine g_X3_10 (pc' := 31) hz.1 rfl dX3_course_28 rfl ?_
      obtain ⟨x8, e7, hf⟩ := Option.bind_eq_some_iff.mp hf
      refine k_X3_145 (pc' := 34) (c_X1_canGoUp l g F hz.2.1 e7) ⟨Nat.le_of_ble_eq_true rfl, Nat.le_of_ble_eq_true rfl⟩ hz.2.1.1 (Nat.le_of_ble_eq_true rfl) dX3_course_31 rfl ?_
      refine a_if_eq (pc' := 37) 48 dX3_course_34 (by decide) rfl (fun k9 => ?_) (fun k9 => ?_)
      · replace hf := (if_pos k9).symm.trans hf
        cases hf
      · replace hf := (if_neg k9).symm.trans hf
        refine a_iload_n (pc' := 38) 1 dX3_course_37 rfl rfl rfl ?_
        refine a_aload_n (pc' := 39) 0 dX3_course_38 rfl rfl rfl ?_
        refine g_X3_10 (pc' := 42) hz.1 rfl dX3_course_39 rfl ?_
        obtain ⟨x11, e10, hf⟩ := Option.bind_eq_some_iff.mp hf
        refine k_X3_148 (pc' := 45) (c_X1_longestNext l g F hz.2.1 e10) ⟨Nat.le_of_ble_eq_true rfl, Nat.le_of_ble_eq_true rfl⟩ hz.2.1.1 (Nat.le_of_ble_eq_true rfl) dX3_course_42 rfl ?_
        refine a_icmp_le (pc' := 48) 58 dX3_course_45 (by decide) rfl (fun k12 => ?_) (fun k12 => ?_)
        · replace hf := (if_pos k12).symm.trans hf
          refine a_aload_n (pc' := 59) 0 dX3_course_58 rfl rfl rfl ?_
          refine g_X3_22 (pc' := 62) hz.1 rfl dX3_course_59 rfl ?_
          refine a_aload_n (pc' := 63) 0 dX3_course_62 rfl rfl rfl ?_
          refine g_X3_10 (pc' := 66) hz.1 rfl dX3_course_63 rfl ?_
          obtain ⟨x14, e13, hf⟩ := Option.bind_eq_some_iff.mp hf
          refine k_X3_44 (pc' := 69) (c_X2_keep l g F hz e13) ⟨Nat.le_of_ble_eq_true rfl, Nat.le_of_ble_eq_true rfl⟩ hz.2.2.2.1.1 (Nat.le_of_ble_eq_true rfl) dX3_course_66 rfl (fun h15 hq => ?_)
          obtain ⟨hz1, hfr1⟩ := hq
          obtain ⟨q16, hf, hz⟩ := f_let_x (P := fun w => d_cls h15 w) hf hz1
          replace hfr := d_frm.tr hfr hfr1 (by omega)
          refine a_aload_n (pc' := 70) 0 dX3_course_69 rfl rfl rfl ?_
          refine g_X3_10 (pc' := 73) hz.1 rfl dX3_course_70 rfl ?_
          refine a_iload_n (pc' := 74) 1 dX3_course_73 rfl rfl rfl ?_
          obtain ⟨x18, e17, hf⟩ := Option.bind_eq_some_iff.mp hf
          refine k_X3_153 (pc' := 77) (c_X1_addCourse l g F hz.2.1 e17) ⟨Nat.le_of_ble_eq_true rfl, Nat.le_of_ble_eq_true rfl⟩ hz.2.1.1 (Nat.le_of_ble_eq_true rfl) dX3_course_74 rfl (fun h19 hq => ?_)
          obtain ⟨hz1, hfr1⟩ := hq
          have hz2 := d_c_now hz hz1 hfr1
          obtain ⟨q20, hf, hz⟩ := f_let_x (P := fun w => d_cls h19 w) hf hz2
          replace hfr := d_frm.tr hfr hfr1 (by omega)
          refine a_aload_n (pc' := 78) 0 dX3_course_77 rfl rfl rfl ?_
          refine g_X3_10 (pc' := 81) hz.1 rfl dX3_course_78 rfl ?_
          refine g_X3_56 (pc' := 84) hz.2.1.1 rfl dX3_course_81 rfl ?_
          refine a_iconst (pc' := 85) (v := (1 : Int32)) dX3_course_84 rfl (by decide) ?_
          refine a_isub (pc' := 86) dX3_course_85 rfl ?_
          cases hf
          exact a_iret hr ⟨rfl, hz, hfr⟩ dX3_course_86
        · replace hf := (if_neg k12).symm.trans hf
          cases hf
  · replace hf := (if_pos k3).symm.trans hf
    cases hf
/-! SlateRoof$Roof.hasCourse(I)Z -/
set_option maxRecDepth 100000 in
def f_X1_hasCourse (F : Nat) (z : d_Z) (a1 : Int32) : Option (Int32) := (if a1 < 0 then some ((0 : Int32)) else (if (z 2) ≤ a1 then some ((0 : Int32)) else some ((1 : Int32))))
set_option maxHeartbeats 4000000 in
set_option maxRecDepth 100000 in
theorem c_X1_hasCourse (l : Launch) (g : a_G) (F : Nat) {h : List va_E} {i : Nat} {z : d_Z} {a1 : Int32} (hz : d_roof h i z) {out : Int32} (hf : f_X1_hasCourse F z a1 = some out) : a_CT l g yX1_hasCourse cX1_hasCourse 2 (some .boolean) (a_rm 0 0) [.ref i, .int a1] h none none (fun r h' => r = some (.int out) ∧ h' = h) := by
  refine a_enter ⟨by decide, rfl, Nat.le_of_ble_eq_true rfl⟩ (fun p e s m args below meth c hr hin => ?_)
  unfold f_X1_hasCourse at hf
  refine a_sub (ls' := [(0, .ref i), (1, .int a1)]) [0, 1] rfl ?_
  refine a_iload_n (pc' := 1) 1 dX1_hasCourse_0 rfl rfl rfl ?_
  refine a_if_lt (pc' := 4) 16 dX1_hasCourse_1 (by decide) rfl (fun k1 => ?_) (fun k1 => ?_)
  · replace hf := (if_pos k1).symm.trans hf
    refine a_iconst (pc' := 17) (v := (0 : Int32)) dX1_hasCourse_16 rfl (by decide) ?_
    cases hf
    exact a_zret hr rfl ⟨rfl, rfl⟩ dX1_hasCourse_17
  · replace hf := (if_neg k1).symm.trans hf
    refine a_iload_n (pc' := 5) 1 dX1_hasCourse_4 rfl rfl rfl ?_
    refine a_aload_n (pc' := 6) 0 dX1_hasCourse_5 rfl rfl rfl ?_
    refine g_X1_46 (pc' := 9) hz.1 rfl dX1_hasCourse_6 rfl ?_
    refine a_icmp_ge (pc' := 12) 16 dX1_hasCourse_9 (by decide) rfl (fun k2 => ?_) (fun k2 => ?_)
    · replace hf := (if_pos k2).symm.trans hf
      refine a_iconst (pc' := 17) (v := (0 : Int32)) dX1_hasCourse_16 rfl (by decide) ?_
      cases hf
      exact a_zret hr rfl ⟨rfl, rfl⟩ dX1_hasCourse_17
    · replace hf := (if_neg k2).symm.trans hf
      refine a_iconst (pc' := 13) (v := (1 : Int32)) dX1_hasCourse_12 rfl (by decide) ?_
      refine a_goto 17 dX1_hasCourse_13 (by decide) ?_
      cases hf
      exact a_zret hr rfl ⟨rfl, rfl⟩ dX1_hasCourse_17
/-! SlateRoof$Roof.canLay(I)Z -/
set_option maxRecDepth 100000 in
def f_X1_canLay (F : Nat) (z : d_Z) (a1 : Int32) : Option (Int32) := (f_X1_hasCourse F z ((z 2) - ((1 : Int32)))).bind fun x2 => (if x2 = 0 then some ((0 : Int32)) else (f_X1_placesOf F z ((z 2) - ((1 : Int32)))).bind fun x5 => (f_X1_slatesIn F z ((z 2) - ((1 : Int32)))).bind fun x7 => (if (x5 - x7) < a1 then some ((0 : Int32)) else (f_X3_valueAt F 100 (fun k => z (14 + k)) ((z 2) - ((1 : Int32)))).bind fun x10 => (f_X3_valueAt F 25 (fun k => z (214 + k)) x10).bind fun x12 => (if x12 < a1 then some ((0 : Int32)) else (if (z 7) < a1 then some ((0 : Int32)) else some ((1 : Int32))))))
set_option maxHeartbeats 4000000 in
set_option maxRecDepth 100000 in
theorem c_X1_canLay (l : Launch) (g : a_G) (F : Nat) {h : List va_E} {i : Nat} {z : d_Z} {a1 : Int32} (hz : d_roof h i z) {out : Int32} (hf : f_X1_canLay F z a1 = some out) : a_CT l g yX1_canLay cX1_canLay 3 (some .boolean) (a_rm 2 42) [.ref i, .int a1] h none none (fun r h' => r = some (.int out) ∧ h' = h) := by
  refine a_enter ⟨by decide, rfl, Nat.le_of_ble_eq_true rfl⟩ (fun p e s m args below meth c hr hin => ?_)
  unfold f_X1_canLay at hf
  refine a_sub (ls' := [(0, .ref i), (1, .int a1)]) [0, 1] rfl ?_
  refine a_aload_n (pc' := 1) 0 dX1_canLay_0 rfl rfl rfl ?_
  refine g_X1_46 (pc' := 4) hz.1 rfl dX1_canLay_1 rfl ?_
  refine a_iconst (pc' := 5) (v := (1 : Int32)) dX1_canLay_4 rfl (by decide) ?_
  refine a_isub (pc' := 6) dX1_canLay_5 rfl ?_
  refine a_istore_n (pc' := 7) (ls' := [(2, .int ((z 2) - ((1 : Int32)))), (0, .ref i), (1, .int a1)]) dX1_canLay_6 rfl (by decide) rfl rfl ?_
  refine a_aload_n (pc' := 8) 1 dX1_canLay_7 rfl rfl rfl ?_
  refine a_iload_n (pc' := 9) 0 dX1_canLay_8 rfl rfl rfl ?_
  obtain ⟨x2, e1, hf⟩ := Option.bind_eq_some_iff.mp hf
  refine k_X1_75 (pc' := 12) (c_X1_hasCourse l g F hz e1) ⟨Nat.le_of_ble_eq_true rfl, Nat.le_of_ble_eq_true rfl⟩ hz.1 (Nat.le_of_ble_eq_true rfl) dX1_canLay_9 rfl ?_
  refine a_if_eq (pc' := 15) 61 dX1_canLay_12 (by decide) rfl (fun k3 => ?_) (fun k3 => ?_)
  · replace hf := (if_pos k3).symm.trans hf
    refine a_iconst (pc' := 62) (v := (0 : Int32)) dX1_canLay_61 rfl (by decide) ?_
    cases hf
    exact a_zret hr rfl ⟨rfl, rfl⟩ dX1_canLay_62
  · replace hf := (if_neg k3).symm.trans hf
    refine a_aload_n (pc' := 16) 1 dX1_canLay_15 rfl rfl rfl ?_
    refine a_iload_n (pc' := 17) 0 dX1_canLay_16 rfl rfl rfl ?_
    obtain ⟨x5, e4, hf⟩ := Option.bind_eq_some_iff.mp hf
    refine k_X1_79 (pc' := 20) (c_X1_placesOf l g F hz e4) ⟨Nat.le_of_ble_eq_true rfl, Nat.le_of_ble_eq_true rfl⟩ hz.1 (Nat.le_of_ble_eq_true rfl) dX1_canLay_17 rfl ?_
    refine a_aload_n (pc' := 21) 1 dX1_canLay_20 rfl rfl rfl ?_
    refine a_iload_n (pc' := 22) 0 dX1_canLay_21 rfl rfl rfl ?_
    obtain ⟨x7, e6, hf⟩ := Option.bind_eq_some_iff.mp hf
    refine k_X1_92 (pc' := 25) (c_X1_slatesIn l g F hz e6) ⟨Nat.le_of_ble_eq_true rfl, Nat.le_of_ble_eq_true rfl⟩ hz.1 (Nat.le_of_ble_eq_true rfl) dX1_canLay_22 rfl ?_
    refine a_isub (pc' := 26) dX1_canLay_25 rfl ?_
    refine a_iload_n (pc' := 27) 2 dX1_canLay_26 rfl rfl rfl ?_
    refine a_icmp_lt (pc' := 30) 61 dX1_canLay_27 (by decide) rfl (fun k8 => ?_) (fun k8 => ?_)
    · replace hf := (if_pos k8).symm.trans hf
      refine a_iconst (pc' := 62) (v := (0 : Int32)) dX1_canLay_61 rfl (by decide) ?_
      cases hf
      exact a_zret hr rfl ⟨rfl, rfl⟩ dX1_canLay_62
    · replace hf := (if_neg k8).symm.trans hf
      refine a_aload_n (pc' := 31) 1 dX1_canLay_30 rfl rfl rfl ?_
      refine g_X1_25 (pc' := 34) hz.1 rfl dX1_canLay_31 rfl ?_
      refine a_aload_n (pc' := 35) 1 dX1_canLay_34 rfl rfl rfl ?_
      refine g_X1_18 (pc' := 38) hz.1 rfl dX1_canLay_35 rfl ?_
      refine a_iload_n (pc' := 39) 0 dX1_canLay_38 rfl rfl rfl ?_
      obtain ⟨x10, e9, hf⟩ := Option.bind_eq_some_iff.mp hf
      refine k_X1_83 (pc' := 42) (c_X3_valueAt l g F hz.2.1 e9) ⟨Nat.le_of_ble_eq_true rfl, Nat.le_of_ble_eq_true rfl⟩ (Nat.le_of_ble_eq_true rfl) dX1_canLay_39 rfl ?_
      obtain ⟨x12, e11, hf⟩ := Option.bind_eq_some_iff.mp hf
      refine k_X1_83 (pc' := 45) (c_X3_valueAt l g F hz.2.2.2.1 e11) ⟨Nat.le_of_ble_eq_true rfl, Nat.le_of_ble_eq_true rfl⟩ (Nat.le_of_ble_eq_true rfl) dX1_canLay_42 rfl ?_
      refine a_iload_n (pc' := 46) 2 dX1_canLay_45 rfl rfl rfl ?_
      refine a_icmp_lt (pc' := 49) 61 dX1_canLay_46 (by decide) rfl (fun k13 => ?_) (fun k13 => ?_)
      · replace hf := (if_pos k13).symm.trans hf
        refine a_iconst (pc' := 62) (v := (0 : Int32)) dX1_canLay_61 rfl (by decide) ?_
        cases hf
        exact a_zret hr rfl ⟨rfl, rfl⟩ dX1_canLay_62
      · replace hf := (if_neg k13).symm.trans hf
        refine a_aload_n (pc' := 50) 1 dX1_canLay_49 rfl rfl rfl ?_
        refine g_X1_43 (pc' := 53) hz.1 rfl dX1_canLay_50 rfl ?_
        refine a_iload_n (pc' := 54) 2 dX1_canLay_53 rfl rfl rfl ?_
        refine a_icmp_lt (pc' := 57) 61 dX1_canLay_54 (by decide) rfl (fun k14 => ?_) (fun k14 => ?_)
        · replace hf := (if_pos k14).symm.trans hf
          refine a_iconst (pc' := 62) (v := (0 : Int32)) dX1_canLay_61 rfl (by decide) ?_
          cases hf
          exact a_zret hr rfl ⟨rfl, rfl⟩ dX1_canLay_62
        · replace hf := (if_neg k14).symm.trans hf
          refine a_iconst (pc' := 58) (v := (1 : Int32)) dX1_canLay_57 rfl (by decide) ?_
          refine a_goto 62 dX1_canLay_58 (by decide) ?_
          cases hf
          exact a_zret hr rfl ⟨rfl, rfl⟩ dX1_canLay_62
/-! SlateRoof$Roof.hasSlate(II)Z -/
set_option maxRecDepth 100000 in
def f_X1_hasSlate (F : Nat) (z : d_Z) (a1 : Int32) (a2 : Int32) : Option (Int32) := (f_X3_valueAt F 100 (fun k => z (114 + k)) a1).bind fun x2 => (if (((x2.toUInt32 >>> (a2.toUInt32 &&& Int32.toUInt32 31)).toInt32) &&& ((1 : Int32))) = ((1 : Int32)) then some ((1 : Int32)) else some ((0 : Int32)))
set_option maxHeartbeats 4000000 in
set_option maxRecDepth 100000 in
theorem c_X1_hasSlate (l : Launch) (g : a_G) (F : Nat) {h : List va_E} {i : Nat} {z : d_Z} {a1 : Int32} {a2 : Int32} (hz : d_roof h i z) {out : Int32} (hf : f_X1_hasSlate F z a1 a2 = some out) : a_CT l g yX1_hasSlate cX1_hasSlate 3 (some .boolean) (a_rm 1 21) [.ref i, .int a1, .int a2] h none none (fun r h' => r = some (.int out) ∧ h' = h) := by
  refine a_enter ⟨by decide, rfl, Nat.le_of_ble_eq_true rfl⟩ (fun p e s m args below meth c hr hin => ?_)
  unfold f_X1_hasSlate at hf
  refine a_sub (ls' := [(0, .ref i), (1, .int a1), (2, .int a2)]) [0, 1, 2] rfl ?_
  refine a_aload_n (pc' := 1) 0 dX1_hasSlate_0 rfl rfl rfl ?_
  refine g_X1_22 (pc' := 4) hz.1 rfl dX1_hasSlate_1 rfl ?_
  refine a_iload_n (pc' := 5) 1 dX1_hasSlate_4 rfl rfl rfl ?_
  obtain ⟨x2, e1, hf⟩ := Option.bind_eq_some_iff.mp hf
  refine k_X1_83 (pc' := 8) (c_X3_valueAt l g F hz.2.2.1 e1) ⟨Nat.le_of_ble_eq_true rfl, Nat.le_of_ble_eq_true rfl⟩ (Nat.le_of_ble_eq_true rfl) dX1_hasSlate_5 rfl ?_
  refine a_iload_n (pc' := 9) 2 dX1_hasSlate_8 rfl rfl rfl ?_
  refine a_iushr (pc' := 10) dX1_hasSlate_9 rfl ?_
  refine a_iconst (pc' := 11) (v := (1 : Int32)) dX1_hasSlate_10 rfl (by decide) ?_
  refine a_iand (pc' := 12) dX1_hasSlate_11 rfl ?_
  refine a_iconst (pc' := 13) (v := (1 : Int32)) dX1_hasSlate_12 rfl (by decide) ?_
  refine a_icmp_ne (pc' := 16) 20 dX1_hasSlate_13 (by decide) rfl (fun k3 => ?_) (fun k3 => ?_)
  · replace hf := (if_neg k3).symm.trans hf
    refine a_iconst (pc' := 21) (v := (0 : Int32)) dX1_hasSlate_20 rfl (by decide) ?_
    cases hf
    exact a_zret hr rfl ⟨rfl, rfl⟩ dX1_hasSlate_21
  · replace hf := (if_pos k3).symm.trans hf
    refine a_iconst (pc' := 17) (v := (1 : Int32)) dX1_hasSlate_16 rfl (by decide) ?_
    refine a_goto 21 dX1_hasSlate_17 (by decide) ?_
    cases hf
    exact a_zret hr rfl ⟨rfl, rfl⟩ dX1_hasSlate_21
/-! SlateRoof$Roof.firstGap(I)I -/
set_option maxRecDepth 100000 in
def f_X1_firstGap_L8 (F : Nat) (z : d_Z) (a1 : Int32) (x2 : Int32) : Nat → Int32 → Option ((Int32) ⊕ (Int32))
  | 0, _ => none
  | n + 1, v3_8 => (if x2 ≤ v3_8 then some (.inl (v3_8)) else (f_X1_hasSlate F z a1 v3_8).bind fun x9003 => (if x9003 = 0 then some (.inr ((v3_8))) else f_X1_firstGap_L8 F z a1 x2 n (v3_8 + (1 : Int32))))
set_option maxRecDepth 100000 in
def f_X1_firstGap (F : Nat) (z : d_Z) (a1 : Int32) : Option (Int32) := (f_X1_placesOf F z a1).bind fun x2 => (f_X1_firstGap_L8 F z a1 x2 F ((0 : Int32))).bind (fun w9 => Sum.elim (fun w5 => some ((-1 : Int32))) (fun w6 => some (w6)) w9)
set_option maxHeartbeats 4000000 in
set_option maxRecDepth 100000 in
theorem l_X1_firstGap_L8 {p : Program} {l : Launch} {e : Env} {s : State} {m : MethodId} {args : Array Value} {below : List Frame} {meth : Method} {c : Code} {Q : State → Prop} {g : a_G} (F : Nat) {h : List va_E} {i : Nat} (z : d_Z) (a1 : Int32) (x2 : Int32) (hz : d_roof h i z) : ∀ (n : Nat) (v3_8 : Int32) (o : (Int32) ⊕ (Int32)), f_X1_firstGap_L8 F z a1 x2 n v3_8 = some o → (∀ e9 : Int32, o = .inl e9 → a_W p l e (a_rm 2 43) s m args below meth c Q RX1 cX1_firstGap 4 g 0 0 none 30 [] [] h) → (∀ e9 : Int32, o = .inr (e9) → a_W p l e (a_rm 2 43) s m args below meth c Q RX1 cX1_firstGap 4 g 0 0 none 22 [(3, .int e9)] [] h) → a_W p l e (a_rm 2 43) s m args below meth c Q RX1 cX1_firstGap 4 g 0 0 none 8 [(0, .ref i), (1, .int a1), (2, .int x2), (3, .int v3_8)] [] h := by
  intro n
  induction n with
  | zero => intro v3_8 o hf; exact nomatch (show (none : Option ((Int32) ⊕ (Int32))) = some o from hf)
  | succ n ih =>
    intro v3_8 o hf hX0 hX1
    rw [f_X1_firstGap_L8] at hf
    refine a_iload_n (pc' := 9) 3 dX1_firstGap_8 rfl rfl rfl ?_
    refine a_iload_n (pc' := 10) 2 dX1_firstGap_9 rfl rfl rfl ?_
    refine a_icmp_ge (pc' := 13) 30 dX1_firstGap_10 (by decide) rfl (fun k9001 => ?_) (fun k9001 => ?_)
    · replace hf := (if_pos k9001).symm.trans hf
      cases hf
      refine a_sub [] rfl ?_
      exact hX0 _ rfl
    · replace hf := (if_neg k9001).symm.trans hf
      refine a_aload_n (pc' := 14) 0 dX1_firstGap_13 rfl rfl rfl ?_
      refine a_iload_n (pc' := 15) 1 dX1_firstGap_14 rfl rfl rfl ?_
      refine a_iload_n (pc' := 16) 3 dX1_firstGap_15 rfl rfl rfl ?_
      obtain ⟨x9003, e9002, hf⟩ := Option.bind_eq_some_iff.mp hf
      refine k_X1_95 (pc' := 19) (c_X1_hasSlate l g F hz e9002) ⟨Nat.le_of_ble_eq_true rfl, Nat.le_of_ble_eq_true rfl⟩ hz.1 (Nat.le_of_ble_eq_true rfl) dX1_firstGap_16 rfl ?_
      refine a_if_ne (pc' := 22) 24 dX1_firstGap_19 (by decide) rfl (fun k9004 => ?_) (fun k9004 => ?_)
      · replace hf := (if_neg k9004).symm.trans hf
        refine a_iinc (pc' := 27) (v := v3_8 + (1 : Int32)) (ls' := [(3, .int (v3_8 + (1 : Int32))), (0, .ref i), (1, .int a1), (2, .int x2)]) 3 dX1_firstGap_24 rfl (by rfl) (by decide) rfl rfl ?_
        refine a_goto 8 dX1_firstGap_27 (by decide) ?_
        refine a_sub [1, 2, 3, 0] rfl ?_
        exact ih _ _ hf hX0 hX1
      · replace hf := (if_pos k9004).symm.trans hf
        cases hf
        refine a_sub [3] rfl ?_
        exact hX1 _ rfl
set_option maxHeartbeats 4000000 in
set_option maxRecDepth 100000 in
theorem c_X1_firstGap (l : Launch) (g : a_G) (F : Nat) {h : List va_E} {i : Nat} {z : d_Z} {a1 : Int32} (hz : d_roof h i z) {out : Int32} (hf : f_X1_firstGap F z a1 = some out) : a_CT l g yX1_firstGap cX1_firstGap 4 (some .int) (a_rm 2 43) [.ref i, .int a1] h none none (fun r h' => r = some (.int out) ∧ h' = h) := by
  refine a_enter ⟨by decide, rfl, Nat.le_of_ble_eq_true rfl⟩ (fun p e s m args below meth c hr hin => ?_)
  unfold f_X1_firstGap at hf
  refine a_sub (ls' := [(0, .ref i), (1, .int a1)]) [0, 1] rfl ?_
  refine a_aload_n (pc' := 1) 0 dX1_firstGap_0 rfl rfl rfl ?_
  refine a_iload_n (pc' := 2) 1 dX1_firstGap_1 rfl rfl rfl ?_
  obtain ⟨x2, e1, hf⟩ := Option.bind_eq_some_iff.mp hf
  refine k_X1_79 (pc' := 5) (c_X1_placesOf l g F hz e1) ⟨Nat.le_of_ble_eq_true rfl, Nat.le_of_ble_eq_true rfl⟩ hz.1 (Nat.le_of_ble_eq_true rfl) dX1_firstGap_2 rfl ?_
  refine a_istore_n (pc' := 6) (ls' := [(2, .int x2), (0, .ref i), (1, .int a1)]) dX1_firstGap_5 rfl (by decide) rfl rfl ?_
  refine a_iconst (pc' := 7) (v := (0 : Int32)) dX1_firstGap_6 rfl (by decide) ?_
  refine a_istore_n (pc' := 8) (ls' := [(3, .int ((0 : Int32))), (2, .int x2), (0, .ref i), (1, .int a1)]) dX1_firstGap_7 rfl (by decide) rfl rfl ?_
  obtain ⟨o3, e4, hf⟩ := Option.bind_eq_some_iff.mp hf
  refine a_sub [2, 3, 1, 0] rfl ?_
  refine l_X1_firstGap_L8 F z a1 x2 hz F _ o3 e4 (fun w5 he9 => ?_) (fun w6 he9 => ?_)
  · subst he9
    simp only [Sum.elim_inl, Sum.elim_inr] at hf
    refine a_iconst (pc' := 31) (v := (-1 : Int32)) dX1_firstGap_30 rfl (by decide) ?_
    cases hf
    exact a_iret hr ⟨rfl, rfl⟩ dX1_firstGap_31
  · subst he9
    simp only [Sum.elim_inl, Sum.elim_inr] at hf
    refine a_iload_n (pc' := 23) 0 dX1_firstGap_22 rfl rfl rfl ?_
    cases hf
    exact a_iret hr ⟨rfl, rfl⟩ dX1_firstGap_23
/-! SlateRoof$Roof.hasPlace(II)Z -/
set_option maxRecDepth 100000 in
def f_X1_hasPlace (F : Nat) (z : d_Z) (a1 : Int32) (a2 : Int32) : Option (Int32) := (f_X1_hasCourse F z a1).bind fun x2 => (if x2 = 0 then some ((0 : Int32)) else (if a2 < 0 then some ((0 : Int32)) else (f_X1_placesOf F z a1).bind fun x6 => (if x6 ≤ a2 then some ((0 : Int32)) else some ((1 : Int32)))))
set_option maxHeartbeats 4000000 in
set_option maxRecDepth 100000 in
theorem c_X1_hasPlace (l : Launch) (g : a_G) (F : Nat) {h : List va_E} {i : Nat} {z : d_Z} {a1 : Int32} {a2 : Int32} (hz : d_roof h i z) {out : Int32} (hf : f_X1_hasPlace F z a1 a2 = some out) : a_CT l g yX1_hasPlace cX1_hasPlace 3 (some .boolean) (a_rm 1 21) [.ref i, .int a1, .int a2] h none none (fun r h' => r = some (.int out) ∧ h' = h) := by
  refine a_enter ⟨by decide, rfl, Nat.le_of_ble_eq_true rfl⟩ (fun p e s m args below meth c hr hin => ?_)
  unfold f_X1_hasPlace at hf
  refine a_sub (ls' := [(0, .ref i), (1, .int a1), (2, .int a2)]) [0, 1, 2] rfl ?_
  refine a_aload_n (pc' := 1) 0 dX1_hasPlace_0 rfl rfl rfl ?_
  refine a_iload_n (pc' := 2) 1 dX1_hasPlace_1 rfl rfl rfl ?_
  obtain ⟨x2, e1, hf⟩ := Option.bind_eq_some_iff.mp hf
  refine k_X1_75 (pc' := 5) (c_X1_hasCourse l g F hz e1) ⟨Nat.le_of_ble_eq_true rfl, Nat.le_of_ble_eq_true rfl⟩ hz.1 (Nat.le_of_ble_eq_true rfl) dX1_hasPlace_2 rfl ?_
  refine a_if_eq (pc' := 8) 25 dX1_hasPlace_5 (by decide) rfl (fun k3 => ?_) (fun k3 => ?_)
  · replace hf := (if_pos k3).symm.trans hf
    refine a_iconst (pc' := 26) (v := (0 : Int32)) dX1_hasPlace_25 rfl (by decide) ?_
    cases hf
    exact a_zret hr rfl ⟨rfl, rfl⟩ dX1_hasPlace_26
  · replace hf := (if_neg k3).symm.trans hf
    refine a_iload_n (pc' := 9) 2 dX1_hasPlace_8 rfl rfl rfl ?_
    refine a_if_lt (pc' := 12) 25 dX1_hasPlace_9 (by decide) rfl (fun k4 => ?_) (fun k4 => ?_)
    · replace hf := (if_pos k4).symm.trans hf
      refine a_iconst (pc' := 26) (v := (0 : Int32)) dX1_hasPlace_25 rfl (by decide) ?_
      cases hf
      exact a_zret hr rfl ⟨rfl, rfl⟩ dX1_hasPlace_26
    · replace hf := (if_neg k4).symm.trans hf
      refine a_iload_n (pc' := 13) 2 dX1_hasPlace_12 rfl rfl rfl ?_
      refine a_aload_n (pc' := 14) 0 dX1_hasPlace_13 rfl rfl rfl ?_
      refine a_iload_n (pc' := 15) 1 dX1_hasPlace_14 rfl rfl rfl ?_
      obtain ⟨x6, e5, hf⟩ := Option.bind_eq_some_iff.mp hf
      refine k_X1_79 (pc' := 18) (c_X1_placesOf l g F hz e5) ⟨Nat.le_of_ble_eq_true rfl, Nat.le_of_ble_eq_true rfl⟩ hz.1 (Nat.le_of_ble_eq_true rfl) dX1_hasPlace_15 rfl ?_
      refine a_icmp_ge (pc' := 21) 25 dX1_hasPlace_18 (by decide) rfl (fun k7 => ?_) (fun k7 => ?_)
      · replace hf := (if_pos k7).symm.trans hf
        refine a_iconst (pc' := 26) (v := (0 : Int32)) dX1_hasPlace_25 rfl (by decide) ?_
        cases hf
        exact a_zret hr rfl ⟨rfl, rfl⟩ dX1_hasPlace_26
      · replace hf := (if_neg k7).symm.trans hf
        refine a_iconst (pc' := 22) (v := (1 : Int32)) dX1_hasPlace_21 rfl (by decide) ?_
        refine a_goto 26 dX1_hasPlace_22 (by decide) ?_
        cases hf
        exact a_zret hr rfl ⟨rfl, rfl⟩ dX1_hasPlace_26
/-! SlateRoof$Roof.putSlate(III)V -/
set_option maxRecDepth 100000 in
def f_X1_putSlate (F : Nat) (z : d_Z) (a1 : Int32) (a2 : Int32) (a3 : Int32) : Option (d_Z) := (f_X1_hasPlace F z a1 a2).bind fun x2 => (if x2 = 0 then some (z) else (f_X1_hasSlate F z a1 a2).bind fun x5 => (if x5 = 0 then (f_X3_addAt F 100 (fun k => z (114 + k)) a1 (((1 : Int32)) <<< (a2 &&& 31))).bind fun x8 => f_let (d_put z 114 100 x8) fun z10 => (f_X3_valueAt F 100 (fun k => z10 (14 + k)) a1).bind fun x12 => (f_X3_addAt F 25 (fun k => z10 (214 + k)) x12 ((-1 : Int32))).bind fun x14 => f_let (d_put z10 214 25 x14) fun z16 => f_let (upd z16 7 ((z16 7) - a3)) fun z18 => some (z18) else some (z)))
set_option maxHeartbeats 4000000 in
set_option maxRecDepth 100000 in
theorem c_X1_putSlate (l : Launch) (g : a_G) (F : Nat) {h : List va_E} {i : Nat} {z : d_Z} {a1 : Int32} {a2 : Int32} {a3 : Int32} (hz : d_roof h i z) {out : d_Z} (hf : f_X1_putSlate F z a1 a2 a3 = some out) : a_CT l g yX1_putSlate cX1_putSlate 4 none (a_rm 2 43) [.ref i, .int a1, .int a2, .int a3] h none none (fun r h' => r = none ∧ d_roof h' i out ∧ d_frm i 6 h h') := by
  refine a_enter ⟨by decide, rfl, Nat.le_of_ble_eq_true rfl⟩ (fun p e s m args below meth c hr hin => ?_)
  unfold f_X1_putSlate at hf
  have hfr : d_frm i 6 h h := d_frm.rf
  refine a_sub (ls' := [(0, .ref i), (1, .int a1), (2, .int a2), (3, .int a3)]) [0, 1, 2, 3] rfl ?_
  refine a_aload_n (pc' := 1) 0 dX1_putSlate_0 rfl rfl rfl ?_
  refine a_iload_n (pc' := 2) 1 dX1_putSlate_1 rfl rfl rfl ?_
  refine a_iload_n (pc' := 3) 2 dX1_putSlate_2 rfl rfl rfl ?_
  obtain ⟨x2, e1, hf⟩ := Option.bind_eq_some_iff.mp hf
  refine k_X1_116 (pc' := 6) (c_X1_hasPlace l g F hz e1) ⟨Nat.le_of_ble_eq_true rfl, Nat.le_of_ble_eq_true rfl⟩ hz.1 (Nat.le_of_ble_eq_true rfl) dX1_putSlate_3 rfl ?_
  refine a_if_eq (pc' := 9) 55 dX1_putSlate_6 (by decide) rfl (fun k3 => ?_) (fun k3 => ?_)
  · replace hf := (if_pos k3).symm.trans hf
    cases hf
    exact a_vret hr ⟨rfl, hz, hfr⟩ dX1_putSlate_55
  · replace hf := (if_neg k3).symm.trans hf
    refine a_aload_n (pc' := 10) 0 dX1_putSlate_9 rfl rfl rfl ?_
    refine a_iload_n (pc' := 11) 1 dX1_putSlate_10 rfl rfl rfl ?_
    refine a_iload_n (pc' := 12) 2 dX1_putSlate_11 rfl rfl rfl ?_
    obtain ⟨x5, e4, hf⟩ := Option.bind_eq_some_iff.mp hf
    refine k_X1_95 (pc' := 15) (c_X1_hasSlate l g F hz e4) ⟨Nat.le_of_ble_eq_true rfl, Nat.le_of_ble_eq_true rfl⟩ hz.1 (Nat.le_of_ble_eq_true rfl) dX1_putSlate_12 rfl ?_
    refine a_if_ne (pc' := 18) 55 dX1_putSlate_15 (by decide) rfl (fun k6 => ?_) (fun k6 => ?_)
    · replace hf := (if_neg k6).symm.trans hf
      cases hf
      exact a_vret hr ⟨rfl, hz, hfr⟩ dX1_putSlate_55
    · replace hf := (if_pos k6).symm.trans hf
      refine a_aload_n (pc' := 19) 0 dX1_putSlate_18 rfl rfl rfl ?_
      refine g_X1_22 (pc' := 22) hz.1 rfl dX1_putSlate_19 rfl ?_
      refine a_iload_n (pc' := 23) 1 dX1_putSlate_22 rfl rfl rfl ?_
      refine a_iconst (pc' := 24) (v := (1 : Int32)) dX1_putSlate_23 rfl (by decide) ?_
      refine a_iload_n (pc' := 25) 2 dX1_putSlate_24 rfl rfl rfl ?_
      refine a_ishl (pc' := 26) dX1_putSlate_25 rfl ?_
      obtain ⟨x8, e7, hf⟩ := Option.bind_eq_some_iff.mp hf
      refine k_X1_119 (pc' := 29) (c_X3_addAt l g F hz.2.2.1 e7) ⟨Nat.le_of_ble_eq_true rfl, Nat.le_of_ble_eq_true rfl⟩ (Nat.le_of_ble_eq_true rfl) dX1_putSlate_26 rfl (fun h9 hq => ?_)
      obtain ⟨hz1, hfr1⟩ := hq
      replace hz1 := d_r_a2 hz hz1 hfr1
      replace hfr1 := d_frm.mono (lo := i) (n := 6) hfr1 (by omega)
      obtain ⟨z10, hf, hz⟩ := f_let_x (P := fun w => d_roof h9 i w) hf hz1
      replace hfr := d_frm.tr hfr hfr1 (by omega)
      refine a_aload_n (pc' := 30) 0 dX1_putSlate_29 rfl rfl rfl ?_
      refine g_X1_25 (pc' := 33) hz.1 rfl dX1_putSlate_30 rfl ?_
      refine a_aload_n (pc' := 34) 0 dX1_putSlate_33 rfl rfl rfl ?_
      refine g_X1_18 (pc' := 37) hz.1 rfl dX1_putSlate_34 rfl ?_
      refine a_iload_n (pc' := 38) 1 dX1_putSlate_37 rfl rfl rfl ?_
      obtain ⟨x12, e11, hf⟩ := Option.bind_eq_some_iff.mp hf
      refine k_X1_83 (pc' := 41) (c_X3_valueAt l g F hz.2.1 e11) ⟨Nat.le_of_ble_eq_true rfl, Nat.le_of_ble_eq_true rfl⟩ (Nat.le_of_ble_eq_true rfl) dX1_putSlate_38 rfl ?_
      refine a_iconst (pc' := 42) (v := (-1 : Int32)) dX1_putSlate_41 rfl (by decide) ?_
      obtain ⟨x14, e13, hf⟩ := Option.bind_eq_some_iff.mp hf
      refine k_X1_119 (pc' := 45) (c_X3_addAt l g F hz.2.2.2.1 e13) ⟨Nat.le_of_ble_eq_true rfl, Nat.le_of_ble_eq_true rfl⟩ (Nat.le_of_ble_eq_true rfl) dX1_putSlate_42 rfl (fun h15 hq => ?_)
      obtain ⟨hz1, hfr1⟩ := hq
      replace hz1 := d_r_a3 hz hz1 hfr1
      replace hfr1 := d_frm.mono (lo := i) (n := 6) hfr1 (by omega)
      obtain ⟨z16, hf, hz⟩ := f_let_x (P := fun w => d_roof h15 i w) hf hz1
      replace hfr := d_frm.tr hfr hfr1 (by omega)
      refine a_aload_n (pc' := 46) 0 dX1_putSlate_45 rfl rfl rfl ?_
      refine a_dup (pc' := 47) dX1_putSlate_46 rfl rfl ?_
      refine g_X1_43 (pc' := 50) hz.1 rfl dX1_putSlate_47 rfl ?_
      refine a_iload_n (pc' := 51) 3 dX1_putSlate_50 rfl rfl rfl ?_
      refine a_isub (pc' := 52) dX1_putSlate_51 rfl ?_
      refine pt_X1_43 (pc' := 55) (z := z16) hz dX1_putSlate_52 rfl (fun h17 hz1 hfr1 => ?_)
      obtain ⟨z18, hf, hz⟩ := f_let_x (P := fun w => d_roof h17 i w) hf hz1
      replace hfr := d_frm.tr hfr hfr1 (by omega)
      cases hf
      exact a_vret hr ⟨rfl, hz, hfr⟩ dX1_putSlate_55
/-! SlateRoof.lay(I)I -/
set_option maxRecDepth 100000 in
def f_X3_lay_L74 (F : Nat) (a1 : Int32) (q13 : d_C) : Nat → Int32 → d_C → Option (Int32 × d_C)
  | 0, _, _ => none
  | n + 1, v3_74, q_74 => (if a1 ≤ v3_74 then some (v3_74, q_74) else (f_X1_firstGap F q_74.1 ((q13.1 2) - ((1 : Int32)))).bind fun x75003 => (f_X1_putSlate F q_74.1 ((q13.1 2) - ((1 : Int32))) x75003 ((1 : Int32))).bind fun x75005 => f_let (x75005, q_74.2) fun q75007 => f_X3_lay_L74 F a1 q13 n (v3_74 + (1 : Int32)) q75007)
set_option maxRecDepth 100000 in
def f_X3_lay (F : Nat) (q : d_C) (a1 : Int32) : Option ((Nat × d_C) ⊕ (Int32 × d_C)) := (f_X3_isWithin F a1 ((1 : Int32)) ((60 : Int32))).bind fun x2 => (if x2 = 0 then some (.inl (0, q)) else (f_X1_canBeSlated F q.1).bind fun x5 => (if x5 = 0 then some (.inl (1, q)) else (f_X1_canLay F q.1 a1).bind fun x8 => (if x8 = 0 then some (.inl (1, q)) else (f_X2_keep F q).bind fun x11 => f_let x11 fun q13 => (f_X3_lay_L74 F a1 q13 F ((0 : Int32)) q13).bind fun o14 => (f_X1_slatesIn F o14.2.1 ((q13.1 2) - ((1 : Int32)))).bind fun x18 => some (.inr ((x18, o14.2))))))
set_option maxHeartbeats 4000000 in
set_option maxRecDepth 100000 in
theorem l_X3_lay_L74 {p : Program} {l : Launch} {e : Env} {s : State} {m : MethodId} {args : Array Value} {below : List Frame} {meth : Method} {c : Code} {Q : State → Prop} {g : a_G} (F : Nat) {h : List va_E} (a1 : Int32) (q13 : d_C) : ∀ (n : Nat) (v3_74 : Int32) (q_74 : d_C) (o : Int32 × d_C), f_X3_lay_L74 F a1 q13 n v3_74 q_74 = some o → (∀ e9 : Int32 × d_C, o = e9 → ∀ h1, d_cls h1 e9.2 → d_frm 0 55 h h1 → a_W p l e (a_rm 4 104) s m args below meth c Q RX3 cX3_lay 4 g 0 0 none 102 [(0, .ref 0), (2, .int ((q13.1 2) - ((1 : Int32))))] [] h1) → ∀ h1, d_cls h1 q_74 → d_frm 0 55 h h1 → a_W p l e (a_rm 4 104) s m args below meth c Q RX3 cX3_lay 4 g 0 0 none 74 [(0, .ref 0), (1, .int a1), (2, .int ((q13.1 2) - ((1 : Int32)))), (3, .int v3_74)] [] h1 := by
  intro n
  induction n with
  | zero => intro v3_74 q_74 o hf; exact nomatch (show (none : Option (Int32 × d_C)) = some o from hf)
  | succ n ih =>
    intro v3_74 q_74 o hf hX0 h1 hz hfr
    rw [f_X3_lay_L74] at hf
    refine a_iload_n (pc' := 75) 3 dX3_lay_74 rfl rfl rfl ?_
    refine a_iload_n (pc' := 76) 1 dX3_lay_75 rfl rfl rfl ?_
    refine a_icmp_ge (pc' := 79) 102 dX3_lay_76 (by decide) rfl (fun k75001 => ?_) (fun k75001 => ?_)
    · replace hf := (if_pos k75001).symm.trans hf
      cases hf
      refine a_sub [0, 2] rfl ?_
      exact hX0 _ rfl _ hz hfr
    · replace hf := (if_neg k75001).symm.trans hf
      refine a_aload_n (pc' := 80) 0 dX3_lay_79 rfl rfl rfl ?_
      refine g_X3_10 (pc' := 83) hz.1 rfl dX3_lay_80 rfl ?_
      refine a_iload_n (pc' := 84) 2 dX3_lay_83 rfl rfl rfl ?_
      refine a_aload_n (pc' := 85) 0 dX3_lay_84 rfl rfl rfl ?_
      refine g_X3_10 (pc' := 88) hz.1 rfl dX3_lay_85 rfl ?_
      refine a_iload_n (pc' := 89) 2 dX3_lay_88 rfl rfl rfl ?_
      obtain ⟨x75003, e75002, hf⟩ := Option.bind_eq_some_iff.mp hf
      refine k_X3_164 (pc' := 92) (c_X1_firstGap l g F hz.2.1 e75002) ⟨Nat.le_of_ble_eq_true rfl, Nat.le_of_ble_eq_true rfl⟩ hz.2.1.1 (Nat.le_of_ble_eq_true rfl) dX3_lay_89 rfl ?_
      refine a_iconst (pc' := 93) (v := (1 : Int32)) dX3_lay_92 rfl (by decide) ?_
      obtain ⟨x75005, e75004, hf⟩ := Option.bind_eq_some_iff.mp hf
      refine k_X3_167 (pc' := 96) (c_X1_putSlate l g F hz.2.1 e75004) ⟨Nat.le_of_ble_eq_true rfl, Nat.le_of_ble_eq_true rfl⟩ hz.2.1.1 (Nat.le_of_ble_eq_true rfl) dX3_lay_93 rfl (fun h75006 hq => ?_)
      obtain ⟨hz1, hfr1⟩ := hq
      have hz2 := d_c_now hz hz1 hfr1
      obtain ⟨q75007, hf, hz⟩ := f_let_x (P := fun w => d_cls h75006 w) hf hz2
      replace hfr := d_frm.tr hfr hfr1 (by omega)
      refine a_iinc (pc' := 99) (v := v3_74 + (1 : Int32)) (ls' := [(3, .int (v3_74 + (1 : Int32))), (0, .ref 0), (1, .int a1), (2, .int ((q13.1 2) - ((1 : Int32))))]) 3 dX3_lay_96 rfl (by rfl) (by decide) rfl rfl ?_
      refine a_goto 74 dX3_lay_99 (by decide) ?_
      refine a_sub [1, 2, 3, 0] rfl ?_
      exact ih _ _ _ hf hX0 _ hz hfr
set_option maxHeartbeats 4000000 in
set_option maxRecDepth 100000 in
theorem c_X3_lay (l : Launch) (g : a_G) (F : Nat) {h : List va_E} {q : d_C} {a1 : Int32} (hz : d_cls h q) {out : Int32 × d_C} (hf : f_X3_lay F q a1 = some (.inr out)) : a_CT l g yX3_lay cX3_lay 4 (some .int) (a_rm 4 104) [.ref 0, .int a1] h none none (fun r h' => r = some (.int out.1) ∧ d_cls h' out.2 ∧ d_frm 0 55 h h') := by
  refine a_enter ⟨by decide, rfl, Nat.le_of_ble_eq_true rfl⟩ (fun p e s m args below meth c hr hin => ?_)
  unfold f_X3_lay at hf
  have hfr : d_frm 0 55 h h := d_frm.rf
  refine a_sub (ls' := [(0, .ref 0), (1, .int a1)]) [0, 1] rfl ?_
  refine a_iload_n (pc' := 1) 1 dX3_lay_0 rfl rfl rfl ?_
  refine a_iconst (pc' := 2) (v := (1 : Int32)) dX3_lay_1 rfl (by decide) ?_
  refine a_bipush (pc' := 4) (v := (60 : Int32)) dX3_lay_2 rfl (by decide) ?_
  obtain ⟨x2, e1, hf⟩ := Option.bind_eq_some_iff.mp hf
  refine k_X3_33 (pc' := 7) (c_X3_isWithin l g F e1) ⟨Nat.le_of_ble_eq_true rfl, Nat.le_of_ble_eq_true rfl⟩ (Nat.le_of_ble_eq_true rfl) dX3_lay_4 rfl ?_
  refine a_if_ne (pc' := 10) 20 dX3_lay_7 (by decide) rfl (fun k3 => ?_) (fun k3 => ?_)
  · replace hf := (if_neg k3).symm.trans hf
    refine a_aload_n (pc' := 21) 0 dX3_lay_20 rfl rfl rfl ?_
    refine g_X3_10 (pc' := 24) hz.1 rfl dX3_lay_21 rfl ?_
    obtain ⟨x5, e4, hf⟩ := Option.bind_eq_some_iff.mp hf
    refine k_X3_141 (pc' := 27) (c_X1_canBeSlated l g F hz.2.1 e4) ⟨Nat.le_of_ble_eq_true rfl, Nat.le_of_ble_eq_true rfl⟩ hz.2.1.1 (Nat.le_of_ble_eq_true rfl) dX3_lay_24 rfl ?_
    refine a_if_eq (pc' := 30) 41 dX3_lay_27 (by decide) rfl (fun k6 => ?_) (fun k6 => ?_)
    · replace hf := (if_pos k6).symm.trans hf
      cases hf
    · replace hf := (if_neg k6).symm.trans hf
      refine a_aload_n (pc' := 31) 0 dX3_lay_30 rfl rfl rfl ?_
      refine g_X3_10 (pc' := 34) hz.1 rfl dX3_lay_31 rfl ?_
      refine a_iload_n (pc' := 35) 1 dX3_lay_34 rfl rfl rfl ?_
      obtain ⟨x8, e7, hf⟩ := Option.bind_eq_some_iff.mp hf
      refine k_X3_159 (pc' := 38) (c_X1_canLay l g F hz.2.1 e7) ⟨Nat.le_of_ble_eq_true rfl, Nat.le_of_ble_eq_true rfl⟩ hz.2.1.1 (Nat.le_of_ble_eq_true rfl) dX3_lay_35 rfl ?_
      refine a_if_ne (pc' := 41) 51 dX3_lay_38 (by decide) rfl (fun k9 => ?_) (fun k9 => ?_)
      · replace hf := (if_neg k9).symm.trans hf
        refine a_aload_n (pc' := 52) 0 dX3_lay_51 rfl rfl rfl ?_
        refine g_X3_22 (pc' := 55) hz.1 rfl dX3_lay_52 rfl ?_
        refine a_aload_n (pc' := 56) 0 dX3_lay_55 rfl rfl rfl ?_
        refine g_X3_10 (pc' := 59) hz.1 rfl dX3_lay_56 rfl ?_
        obtain ⟨x11, e10, hf⟩ := Option.bind_eq_some_iff.mp hf
        refine k_X3_44 (pc' := 62) (c_X2_keep l g F hz e10) ⟨Nat.le_of_ble_eq_true rfl, Nat.le_of_ble_eq_true rfl⟩ hz.2.2.2.1.1 (Nat.le_of_ble_eq_true rfl) dX3_lay_59 rfl (fun h12 hq => ?_)
        obtain ⟨hz1, hfr1⟩ := hq
        obtain ⟨q13, hf, hz⟩ := f_let_x (P := fun w => d_cls h12 w) hf hz1
        replace hfr := d_frm.tr hfr hfr1 (by omega)
        refine a_aload_n (pc' := 63) 0 dX3_lay_62 rfl rfl rfl ?_
        refine g_X3_10 (pc' := 66) hz.1 rfl dX3_lay_63 rfl ?_
        refine g_X3_56 (pc' := 69) hz.2.1.1 rfl dX3_lay_66 rfl ?_
        refine a_iconst (pc' := 70) (v := (1 : Int32)) dX3_lay_69 rfl (by decide) ?_
        refine a_isub (pc' := 71) dX3_lay_70 rfl ?_
        refine a_istore_n (pc' := 72) (ls' := [(2, .int ((q13.1 2) - ((1 : Int32)))), (0, .ref 0), (1, .int a1)]) dX3_lay_71 rfl (by decide) rfl rfl ?_
        refine a_iconst (pc' := 73) (v := (0 : Int32)) dX3_lay_72 rfl (by decide) ?_
        refine a_istore_n (pc' := 74) (ls' := [(3, .int ((0 : Int32))), (2, .int ((q13.1 2) - ((1 : Int32)))), (0, .ref 0), (1, .int a1)]) dX3_lay_73 rfl (by decide) rfl rfl ?_
        obtain ⟨o14, e15, hf⟩ := Option.bind_eq_some_iff.mp hf
        refine a_sub [2, 3, 1, 0] rfl ?_
        refine l_X3_lay_L74 F a1 q13  F _ _ o14 e15 (fun e9 he9 h16 hz hfr => ?_) _ hz hfr
        subst he9
        refine a_aload_n (pc' := 103) 0 dX3_lay_102 rfl rfl rfl ?_
        refine g_X3_10 (pc' := 106) hz.1 rfl dX3_lay_103 rfl ?_
        refine a_iload_n (pc' := 107) 1 dX3_lay_106 rfl rfl rfl ?_
        obtain ⟨x18, e17, hf⟩ := Option.bind_eq_some_iff.mp hf
        refine k_X3_171 (pc' := 110) (c_X1_slatesIn l g F hz.2.1 e17) ⟨Nat.le_of_ble_eq_true rfl, Nat.le_of_ble_eq_true rfl⟩ hz.2.1.1 (Nat.le_of_ble_eq_true rfl) dX3_lay_107 rfl ?_
        cases hf
        exact a_iret hr ⟨rfl, hz, hfr⟩ dX3_lay_110
      · replace hf := (if_pos k9).symm.trans hf
        cases hf
  · replace hf := (if_pos k3).symm.trans hf
    cases hf
