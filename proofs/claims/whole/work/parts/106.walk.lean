/-! SlateRoofModel.mend(II)I -/
set_option maxRecDepth 100000 in
def f_X4_mend (F : Nat) (M : d_M) (a1 : Int32) (a2 : Int32) : Option (Int32 × d_M) := f_let (ms_thrown M ((0 : Int32))) fun M2 => (f_X4_isPlace F M2 a1 a2).bind fun x4 => (if x4 = 0 then (f_X4_fails F M2 ((1 : Int32))).bind fun x22 => f_let x22.2 fun M24 => some ((x22.1, M24)) else (f_X4_mayMend F M2 a1 a2).bind fun x7 => (if x7 = 0 then (f_X4_fails F M2 ((2 : Int32))).bind fun x18 => f_let x18.2 fun M20 => some ((x18.1, M20)) else (f_X4_save F M2).bind fun x10 => f_let x10 fun M12 => (f_X4_lays F M12 a1 a2 ((3 : Int32))).bind fun x14 => f_let x14 fun M16 => f_grd ((7 : Int32)) 294 (some (((m_z M16) ((7 : Int32)).toNatClampNeg, M16)))))
set_option maxHeartbeats 4000000 in
set_option maxRecDepth 100000 in
theorem c_X4_mend (l : Launch) (g : a_G) (F : Nat) {h : List va_E} {M : d_M} {a1 : Int32} {a2 : Int32} (hz : d_mod h M) {out : Int32 × d_M} (hf : f_X4_mend F M a1 a2 = some out) : a_CT l g yX4_mend cX4_mend 3 (some .int) (a_rm 2 44) [.ref 55, .int a1, .int a2] h none none (fun r h' => r = some (.int out.1) ∧ d_mod h' out.2 ∧ d_frm 55 6 h h') := by
  refine a_enter ⟨by decide, rfl, Nat.le_of_ble_eq_true rfl⟩ (fun p e s m args below meth c hr hin => ?_)
  unfold f_X4_mend at hf
  have hfr : d_frm 55 6 h h := d_frm.rf
  refine a_sub (ls' := [(0, .ref 55), (1, .int a1), (2, .int a2)]) [0, 1, 2] rfl ?_
  refine a_aload_n (pc' := 1) 0 dX4_mend_0 rfl rfl rfl ?_
  refine a_iconst (pc' := 2) (v := (0 : Int32)) dX4_mend_1 rfl (by decide) ?_
  refine pt_X4_25 (pc' := 5) hz dX4_mend_2 rfl (fun h1 hz1 hfr1 => ?_)
  obtain ⟨M2, hf, hz⟩ := f_let_x (P := fun w => d_mod h1 w) hf hz1
  replace hfr := d_frm.tr hfr hfr1 (by omega)
  refine a_aload_n (pc' := 6) 0 dX4_mend_5 rfl rfl rfl ?_
  refine a_iload_n (pc' := 7) 1 dX4_mend_6 rfl rfl rfl ?_
  refine a_iload_n (pc' := 8) 2 dX4_mend_7 rfl rfl rfl ?_
  obtain ⟨x4, e3, hf⟩ := Option.bind_eq_some_iff.mp hf
  refine k_X4_101 (pc' := 11) (c_X4_isPlace l g F hz e3) ⟨Nat.le_of_ble_eq_true rfl, Nat.le_of_ble_eq_true rfl⟩ hz.1 (Nat.le_of_ble_eq_true rfl) dX4_mend_8 rfl ?_
  refine a_if_ne (pc' := 14) 20 dX4_mend_11 (by decide) rfl (fun k5 => ?_) (fun k5 => ?_)
  · replace hf := (if_neg k5).symm.trans hf
    refine a_aload_n (pc' := 21) 0 dX4_mend_20 rfl rfl rfl ?_
    refine a_iload_n (pc' := 22) 1 dX4_mend_21 rfl rfl rfl ?_
    refine a_iload_n (pc' := 23) 2 dX4_mend_22 rfl rfl rfl ?_
    obtain ⟨x7, e6, hf⟩ := Option.bind_eq_some_iff.mp hf
    refine k_X4_104 (pc' := 26) (c_X4_mayMend l g F hz e6) ⟨Nat.le_of_ble_eq_true rfl, Nat.le_of_ble_eq_true rfl⟩ hz.1 (Nat.le_of_ble_eq_true rfl) dX4_mend_23 rfl ?_
    refine a_if_ne (pc' := 29) 35 dX4_mend_26 (by decide) rfl (fun k8 => ?_) (fun k8 => ?_)
    · replace hf := (if_neg k8).symm.trans hf
      refine a_aload_n (pc' := 36) 0 dX4_mend_35 rfl rfl rfl ?_
      obtain ⟨x10, e9, hf⟩ := Option.bind_eq_some_iff.mp hf
      refine k_X4_63 (pc' := 39) (c_X4_save l g F hz e9) ⟨Nat.le_of_ble_eq_true rfl, Nat.le_of_ble_eq_true rfl⟩ hz.1 (Nat.le_of_ble_eq_true rfl) dX4_mend_36 rfl (fun h11 hq => ?_)
      obtain ⟨hz1, hfr1⟩ := hq
      obtain ⟨M12, hf, hz⟩ := f_let_x (P := fun w => d_mod h11 w) hf hz1
      replace hfr := d_frm.tr hfr hfr1 (by omega)
      refine a_aload_n (pc' := 40) 0 dX4_mend_39 rfl rfl rfl ?_
      refine a_iload_n (pc' := 41) 1 dX4_mend_40 rfl rfl rfl ?_
      refine a_iload_n (pc' := 42) 2 dX4_mend_41 rfl rfl rfl ?_
      refine a_iconst (pc' := 43) (v := (3 : Int32)) dX4_mend_42 rfl (by decide) ?_
      obtain ⟨x14, e13, hf⟩ := Option.bind_eq_some_iff.mp hf
      refine k_X4_97 (pc' := 46) (c_X4_lays l g F hz e13) ⟨Nat.le_of_ble_eq_true rfl, Nat.le_of_ble_eq_true rfl⟩ hz.1 (Nat.le_of_ble_eq_true rfl) dX4_mend_43 rfl (fun h15 hq => ?_)
      obtain ⟨hz1, hfr1⟩ := hq
      obtain ⟨M16, hf, hz⟩ := f_let_x (P := fun w => d_mod h15 w) hf hz1
      replace hfr := d_frm.tr hfr hfr1 (by omega)
      refine a_aload_n (pc' := 47) 0 dX4_mend_46 rfl rfl rfl ?_
      refine g_X4_7 (pc' := 50) hz.1 rfl dX4_mend_47 rfl ?_
      refine a_bipush (pc' := 52) (v := (7 : Int32)) dX4_mend_50 rfl (by decide) ?_
      obtain ⟨hg, hf⟩ := f_grd_x hf
      refine b_iald (pc' := 53) hz.2.1 hg dX4_mend_52 rfl ?_
      cases hf
      exact a_iret hr ⟨rfl, hz, hfr⟩ dX4_mend_53
    · replace hf := (if_pos k8).symm.trans hf
      refine a_aload_n (pc' := 30) 0 dX4_mend_29 rfl rfl rfl ?_
      refine a_iconst (pc' := 31) (v := (2 : Int32)) dX4_mend_30 rfl (by decide) ?_
      obtain ⟨x18, e17, hf⟩ := Option.bind_eq_some_iff.mp hf
      refine k_X4_60 (pc' := 34) (c_X4_fails l g F hz e17) ⟨Nat.le_of_ble_eq_true rfl, Nat.le_of_ble_eq_true rfl⟩ hz.1 (Nat.le_of_ble_eq_true rfl) dX4_mend_31 rfl (fun h19 hq => ?_)
      obtain ⟨hz1, hfr1⟩ := hq
      obtain ⟨M20, hf, hz⟩ := f_let_x (P := fun w => d_mod h19 w) hf hz1
      replace hfr := d_frm.tr hfr hfr1 (by omega)
      cases hf
      exact a_iret hr ⟨rfl, hz, hfr⟩ dX4_mend_34
  · replace hf := (if_pos k5).symm.trans hf
    refine a_aload_n (pc' := 15) 0 dX4_mend_14 rfl rfl rfl ?_
    refine a_iconst (pc' := 16) (v := (1 : Int32)) dX4_mend_15 rfl (by decide) ?_
    obtain ⟨x22, e21, hf⟩ := Option.bind_eq_some_iff.mp hf
    refine k_X4_60 (pc' := 19) (c_X4_fails l g F hz e21) ⟨Nat.le_of_ble_eq_true rfl, Nat.le_of_ble_eq_true rfl⟩ hz.1 (Nat.le_of_ble_eq_true rfl) dX4_mend_16 rfl (fun h23 hq => ?_)
    obtain ⟨hz1, hfr1⟩ := hq
    obtain ⟨M24, hf, hz⟩ := f_let_x (P := fun w => d_mod h23 w) hf hz1
    replace hfr := d_frm.tr hfr hfr1 (by omega)
    cases hf
    exact a_iret hr ⟨rfl, hz, hfr⟩ dX4_mend_19
/-! SlateRoofModel.cover(Z)I -/
set_option maxRecDepth 100000 in
def f_X4_cover (F : Nat) (M : d_M) (a1 : Int32) : Option (Int32 × d_M) := f_let (ms_thrown M ((0 : Int32))) fun M2 => (f_X4_save F M2).bind fun x4 => f_let x4 fun M6 => f_grd ((9 : Int32)) 294 ((if a1 = 0 then f_grd ((9 : Int32)) 294 (f_let (ms_z M6 (upd (m_z M6) ((9 : Int32)).toNatClampNeg ((0 : Int32)))) fun M9 => some (((m_z M6) ((9 : Int32)).toNatClampNeg, M9))) else f_grd ((9 : Int32)) 294 (f_let (ms_z M6 (upd (m_z M6) ((9 : Int32)).toNatClampNeg ((1 : Int32)))) fun M11 => some (((m_z M6) ((9 : Int32)).toNatClampNeg, M11)))))
set_option maxHeartbeats 4000000 in
set_option maxRecDepth 100000 in
theorem c_X4_cover (l : Launch) (g : a_G) (F : Nat) {h : List va_E} {M : d_M} {a1 : Int32} (hz : d_mod h M) {out : Int32 × d_M} (hf : f_X4_cover F M a1 = some out) : a_CT l g yX4_cover cX4_cover 3 (some .int) (a_rm 1 21) [.ref 55, .int a1] h none none (fun r h' => r = some (.int out.1) ∧ d_mod h' out.2 ∧ d_frm 55 6 h h') := by
  refine a_enter ⟨by decide, rfl, Nat.le_of_ble_eq_true rfl⟩ (fun p e s m args below meth c hr hin => ?_)
  unfold f_X4_cover at hf
  have hfr : d_frm 55 6 h h := d_frm.rf
  refine a_sub (ls' := [(0, .ref 55), (1, .int a1)]) [0, 1] rfl ?_
  refine a_aload_n (pc' := 1) 0 dX4_cover_0 rfl rfl rfl ?_
  refine a_iconst (pc' := 2) (v := (0 : Int32)) dX4_cover_1 rfl (by decide) ?_
  refine pt_X4_25 (pc' := 5) hz dX4_cover_2 rfl (fun h1 hz1 hfr1 => ?_)
  obtain ⟨M2, hf, hz⟩ := f_let_x (P := fun w => d_mod h1 w) hf hz1
  replace hfr := d_frm.tr hfr hfr1 (by omega)
  refine a_aload_n (pc' := 6) 0 dX4_cover_5 rfl rfl rfl ?_
  obtain ⟨x4, e3, hf⟩ := Option.bind_eq_some_iff.mp hf
  refine k_X4_63 (pc' := 9) (c_X4_save l g F hz e3) ⟨Nat.le_of_ble_eq_true rfl, Nat.le_of_ble_eq_true rfl⟩ hz.1 (Nat.le_of_ble_eq_true rfl) dX4_cover_6 rfl (fun h5 hq => ?_)
  obtain ⟨hz1, hfr1⟩ := hq
  obtain ⟨M6, hf, hz⟩ := f_let_x (P := fun w => d_mod h5 w) hf hz1
  replace hfr := d_frm.tr hfr hfr1 (by omega)
  refine a_aload_n (pc' := 10) 0 dX4_cover_9 rfl rfl rfl ?_
  refine g_X4_7 (pc' := 13) hz.1 rfl dX4_cover_10 rfl ?_
  refine a_bipush (pc' := 15) (v := (9 : Int32)) dX4_cover_13 rfl (by decide) ?_
  obtain ⟨hg, hf⟩ := f_grd_x hf
  refine b_iald (pc' := 16) hz.2.1 hg dX4_cover_15 rfl ?_
  refine a_istore_n (pc' := 17) (ls' := [(2, .int ((m_z M6) ((9 : Int32)).toNatClampNeg)), (0, .ref 55), (1, .int a1)]) dX4_cover_16 rfl (by decide) rfl rfl ?_
  refine a_aload_n (pc' := 18) 1 dX4_cover_17 rfl rfl rfl ?_
  refine g_X4_7 (pc' := 21) hz.1 rfl dX4_cover_18 rfl ?_
  refine a_bipush (pc' := 23) (v := (9 : Int32)) dX4_cover_21 rfl (by decide) ?_
  refine a_iload_n (pc' := 24) 2 dX4_cover_23 rfl rfl rfl ?_
  refine a_if_eq (pc' := 27) 31 dX4_cover_24 (by decide) rfl (fun k7 => ?_) (fun k7 => ?_)
  · replace hf := (if_pos k7).symm.trans hf
    refine a_iconst (pc' := 32) (v := (0 : Int32)) dX4_cover_31 rfl (by decide) ?_
    obtain ⟨hg, hf⟩ := f_grd_x hf
    refine b_iast (pc' := 33) hz.2.1 hg dX4_cover_32 rfl (fun h8 hz1 hfr1 => ?_)
    obtain ⟨hz1, hfr1⟩ := d_ma_z hz hz1 hfr1
    obtain ⟨M9, hf, hz⟩ := f_let_x (P := fun w => d_mod h8 w) hf hz1
    replace hfr := d_frm.tr hfr hfr1 (by omega)
    refine a_iload_n (pc' := 34) 0 dX4_cover_33 rfl rfl rfl ?_
    cases hf
    exact a_iret hr ⟨rfl, hz, hfr⟩ dX4_cover_34
  · replace hf := (if_neg k7).symm.trans hf
    refine a_iconst (pc' := 28) (v := (1 : Int32)) dX4_cover_27 rfl (by decide) ?_
    refine a_goto 32 dX4_cover_28 (by decide) ?_
    obtain ⟨hg, hf⟩ := f_grd_x hf
    refine b_iast (pc' := 33) hz.2.1 hg dX4_cover_32 rfl (fun h10 hz1 hfr1 => ?_)
    obtain ⟨hz1, hfr1⟩ := d_ma_z hz hz1 hfr1
    obtain ⟨M11, hf, hz⟩ := f_let_x (P := fun w => d_mod h10 w) hf hz1
    replace hfr := d_frm.tr hfr hfr1 (by omega)
    refine a_iload_n (pc' := 34) 0 dX4_cover_33 rfl rfl rfl ?_
    cases hf
    exact a_iret hr ⟨rfl, hz, hfr⟩ dX4_cover_34
/-! SlateRoofModel.fall(II)I -/
set_option maxRecDepth 100000 in
def f_X4_fall_L5 (F : Nat) (a1 : Int32) (a2 : Int32) : Nat → Int32 → Int32 → d_M → Option (Int32 × Int32 × d_M)
  | 0, _, _, _ => none
  | n + 1, v3_5, v4_5, M_5 => (f_X4_placesOf F M_5 a1).bind fun x6002 => (if x6002 ≤ v4_5 then some (v3_5, v4_5, M_5) else (if (v4_5 - v4_5 / ((5 : Int32)) * ((5 : Int32))) = a2 then (f_X4_isThere F M_5 a1 v4_5).bind fun x6006 => (if x6006 = 0 then f_X4_fall_L5 F a1 a2 n v3_5 (v4_5 + (1 : Int32)) M_5 else f_grd (((114 : Int32)) + a1) 294 (f_grd (((114 : Int32)) + a1) 294 (f_let (ms_z M_5 (upd (m_z M_5) (((114 : Int32)) + a1).toNatClampNeg (((m_z M_5) (((114 : Int32)) + a1).toNatClampNeg) &&& ((((1 : Int32)) <<< (v4_5 &&& 31)) ^^^ ((-1 : Int32)))))) fun M6009 => f_grd (((14 : Int32)) + a1) 294 (f_grd (((239 : Int32)) + ((m_z M6009) (((14 : Int32)) + a1).toNatClampNeg)) 294 (f_grd (((239 : Int32)) + ((m_z M6009) (((14 : Int32)) + a1).toNatClampNeg)) 294 (f_let (ms_z M6009 (upd (m_z M6009) (((239 : Int32)) + ((m_z M6009) (((14 : Int32)) + a1).toNatClampNeg)).toNatClampNeg (((m_z M6009) (((239 : Int32)) + ((m_z M6009) (((14 : Int32)) + a1).toNatClampNeg)).toNatClampNeg) + ((1 : Int32))))) fun M6011 => f_X4_fall_L5 F a1 a2 n (v3_5 + (1 : Int32)) (v4_5 + (1 : Int32)) M6011)))))) else f_X4_fall_L5 F a1 a2 n v3_5 (v4_5 + (1 : Int32)) M_5))
set_option maxRecDepth 100000 in
def f_X4_fall (F : Nat) (M : d_M) (a1 : Int32) (a2 : Int32) : Option (Int32 × d_M) := (f_X4_fall_L5 F a1 a2 F ((0 : Int32)) ((0 : Int32)) M).bind fun o1 => some ((o1.1, o1.2.2))
set_option maxHeartbeats 4000000 in
set_option maxRecDepth 100000 in
theorem l_X4_fall_L5 {p : Program} {l : Launch} {e : Env} {s : State} {m : MethodId} {args : Array Value} {below : List Frame} {meth : Method} {c : Code} {Q : State → Prop} {g : a_G} (F : Nat) {h : List va_E} (a1 : Int32) (a2 : Int32) : ∀ (n : Nat) (v3_5 : Int32) (v4_5 : Int32) (M_5 : d_M) (o : Int32 × Int32 × d_M), f_X4_fall_L5 F a1 a2 n v3_5 v4_5 M_5 = some o → (∀ e9 : Int32 × Int32 × d_M, o = e9 → ∀ h1, d_mod h1 e9.2.2 → d_frm 55 6 h h1 → a_W p l e (a_rm 1 22) s m args below meth c Q RX4 cX4_fall 5 g 0 0 none 82 [(3, .int e9.1)] [] h1) → ∀ h1, d_mod h1 M_5 → d_frm 55 6 h h1 → a_W p l e (a_rm 1 22) s m args below meth c Q RX4 cX4_fall 5 g 0 0 none 5 [(0, .ref 55), (1, .int a1), (2, .int a2), (3, .int v3_5), (4, .int v4_5)] [] h1 := by
  intro n
  induction n with
  | zero => intro v3_5 v4_5 M_5 o hf; exact nomatch (show (none : Option (Int32 × Int32 × d_M)) = some o from hf)
  | succ n ih =>
    intro v3_5 v4_5 M_5 o hf hX0 h1 hz hfr
    rw [f_X4_fall_L5] at hf
    refine a_iload (pc' := 7) 4 dX4_fall_5 rfl rfl ?_
    refine a_aload_n (pc' := 8) 0 dX4_fall_7 rfl rfl rfl ?_
    refine a_iload_n (pc' := 9) 1 dX4_fall_8 rfl rfl rfl ?_
    obtain ⟨x6002, e6001, hf⟩ := Option.bind_eq_some_iff.mp hf
    refine k_X4_36 (pc' := 12) (c_X4_placesOf l g F hz e6001) ⟨Nat.le_of_ble_eq_true rfl, Nat.le_of_ble_eq_true rfl⟩ hz.1 (Nat.le_of_ble_eq_true rfl) dX4_fall_9 rfl ?_
    refine a_icmp_ge (pc' := 15) 82 dX4_fall_12 (by decide) rfl (fun k6003 => ?_) (fun k6003 => ?_)
    · replace hf := (if_pos k6003).symm.trans hf
      cases hf
      refine a_sub [3] rfl ?_
      exact hX0 _ rfl _ hz hfr
    · replace hf := (if_neg k6003).symm.trans hf
      refine a_iload (pc' := 17) 4 dX4_fall_15 rfl rfl ?_
      refine a_iconst (pc' := 18) (v := (5 : Int32)) dX4_fall_17 rfl (by decide) ?_
      refine a_irem (pc' := 19) dX4_fall_18 rfl (by decide) ?_
      refine a_iload_n (pc' := 20) 2 dX4_fall_19 rfl rfl rfl ?_
      refine a_icmp_ne (pc' := 23) 76 dX4_fall_20 (by decide) rfl (fun k6004 => ?_) (fun k6004 => ?_)
      · replace hf := (if_neg k6004).symm.trans hf
        refine a_iinc (pc' := 79) (v := v4_5 + (1 : Int32)) (ls' := [(4, .int (v4_5 + (1 : Int32))), (0, .ref 55), (1, .int a1), (2, .int a2), (3, .int v3_5)]) 4 dX4_fall_76 rfl (by rfl) (by decide) rfl rfl ?_
        refine a_goto 5 dX4_fall_79 (by decide) ?_
        refine a_sub [1, 2, 3, 4, 0] rfl ?_
        exact ih _ _ _ _ hf hX0 _ hz hfr
      · replace hf := (if_pos k6004).symm.trans hf
        refine a_aload_n (pc' := 24) 0 dX4_fall_23 rfl rfl rfl ?_
        refine a_iload_n (pc' := 25) 1 dX4_fall_24 rfl rfl rfl ?_
        refine a_iload (pc' := 27) 4 dX4_fall_25 rfl rfl ?_
        obtain ⟨x6006, e6005, hf⟩ := Option.bind_eq_some_iff.mp hf
        refine k_X4_40 (pc' := 30) (c_X4_isThere l g F hz e6005) ⟨Nat.le_of_ble_eq_true rfl, Nat.le_of_ble_eq_true rfl⟩ hz.1 (Nat.le_of_ble_eq_true rfl) dX4_fall_27 rfl ?_
        refine a_if_eq (pc' := 33) 76 dX4_fall_30 (by decide) rfl (fun k6007 => ?_) (fun k6007 => ?_)
        · replace hf := (if_pos k6007).symm.trans hf
          refine a_iinc (pc' := 79) (v := v4_5 + (1 : Int32)) (ls' := [(4, .int (v4_5 + (1 : Int32))), (0, .ref 55), (1, .int a1), (2, .int a2), (3, .int v3_5)]) 4 dX4_fall_76 rfl (by rfl) (by decide) rfl rfl ?_
          refine a_goto 5 dX4_fall_79 (by decide) ?_
          refine a_sub [1, 2, 3, 4, 0] rfl ?_
          exact ih _ _ _ _ hf hX0 _ hz hfr
        · replace hf := (if_neg k6007).symm.trans hf
          refine a_aload_n (pc' := 34) 0 dX4_fall_33 rfl rfl rfl ?_
          refine g_X4_7 (pc' := 37) hz.1 rfl dX4_fall_34 rfl ?_
          refine a_bipush (pc' := 39) (v := (114 : Int32)) dX4_fall_37 rfl (by decide) ?_
          refine a_iload_n (pc' := 40) 1 dX4_fall_39 rfl rfl rfl ?_
          refine a_iadd (pc' := 41) dX4_fall_40 rfl ?_
          refine a_dup2 (pc' := 42) dX4_fall_41 rfl rfl rfl ?_
          obtain ⟨hg, hf⟩ := f_grd_x hf
          refine b_iald (pc' := 43) hz.2.1 hg dX4_fall_42 rfl ?_
          refine a_iconst (pc' := 44) (v := (1 : Int32)) dX4_fall_43 rfl (by decide) ?_
          refine a_iload (pc' := 46) 4 dX4_fall_44 rfl rfl ?_
          refine a_ishl (pc' := 47) dX4_fall_46 rfl ?_
          refine a_iconst (pc' := 48) (v := (-1 : Int32)) dX4_fall_47 rfl (by decide) ?_
          refine a_ixor (pc' := 49) dX4_fall_48 rfl ?_
          refine a_iand (pc' := 50) dX4_fall_49 rfl ?_
          obtain ⟨hg, hf⟩ := f_grd_x hf
          refine b_iast (pc' := 51) hz.2.1 hg dX4_fall_50 rfl (fun h6008 hz1 hfr1 => ?_)
          obtain ⟨hz1, hfr1⟩ := d_ma_z hz hz1 hfr1
          obtain ⟨M6009, hf, hz⟩ := f_let_x (P := fun w => d_mod h6008 w) hf hz1
          replace hfr := d_frm.tr hfr hfr1 (by omega)
          refine a_aload_n (pc' := 52) 0 dX4_fall_51 rfl rfl rfl ?_
          refine g_X4_7 (pc' := 55) hz.1 rfl dX4_fall_52 rfl ?_
          refine a_sipush (pc' := 58) (v := (239 : Int32)) dX4_fall_55 rfl (by decide) ?_
          refine a_aload_n (pc' := 59) 0 dX4_fall_58 rfl rfl rfl ?_
          refine g_X4_7 (pc' := 62) hz.1 rfl dX4_fall_59 rfl ?_
          refine a_bipush (pc' := 64) (v := (14 : Int32)) dX4_fall_62 rfl (by decide) ?_
          refine a_iload_n (pc' := 65) 1 dX4_fall_64 rfl rfl rfl ?_
          refine a_iadd (pc' := 66) dX4_fall_65 rfl ?_
          obtain ⟨hg, hf⟩ := f_grd_x hf
          refine b_iald (pc' := 67) hz.2.1 hg dX4_fall_66 rfl ?_
          refine a_iadd (pc' := 68) dX4_fall_67 rfl ?_
          refine a_dup2 (pc' := 69) dX4_fall_68 rfl rfl rfl ?_
          obtain ⟨hg, hf⟩ := f_grd_x hf
          refine b_iald (pc' := 70) hz.2.1 hg dX4_fall_69 rfl ?_
          refine a_iconst (pc' := 71) (v := (1 : Int32)) dX4_fall_70 rfl (by decide) ?_
          refine a_iadd (pc' := 72) dX4_fall_71 rfl ?_
          obtain ⟨hg, hf⟩ := f_grd_x hf
          refine b_iast (pc' := 73) hz.2.1 hg dX4_fall_72 rfl (fun h6010 hz1 hfr1 => ?_)
          obtain ⟨hz1, hfr1⟩ := d_ma_z hz hz1 hfr1
          obtain ⟨M6011, hf, hz⟩ := f_let_x (P := fun w => d_mod h6010 w) hf hz1
          replace hfr := d_frm.tr hfr hfr1 (by omega)
          refine a_iinc (pc' := 76) (v := v3_5 + (1 : Int32)) (ls' := [(3, .int (v3_5 + (1 : Int32))), (0, .ref 55), (1, .int a1), (2, .int a2), (4, .int v4_5)]) 3 dX4_fall_73 rfl (by rfl) (by decide) rfl rfl ?_
          refine a_iinc (pc' := 79) (v := v4_5 + (1 : Int32)) (ls' := [(4, .int (v4_5 + (1 : Int32))), (3, .int (v3_5 + (1 : Int32))), (0, .ref 55), (1, .int a1), (2, .int a2)]) 4 dX4_fall_76 rfl (by rfl) (by decide) rfl rfl ?_
          refine a_goto 5 dX4_fall_79 (by decide) ?_
          refine a_sub [2, 3, 4, 1, 0] rfl ?_
          exact ih _ _ _ _ hf hX0 _ hz hfr
set_option maxHeartbeats 4000000 in
set_option maxRecDepth 100000 in
theorem c_X4_fall (l : Launch) (g : a_G) (F : Nat) {h : List va_E} {M : d_M} {a1 : Int32} {a2 : Int32} (hz : d_mod h M) {out : Int32 × d_M} (hf : f_X4_fall F M a1 a2 = some out) : a_CT l g yX4_fall cX4_fall 5 (some .int) (a_rm 1 22) [.ref 55, .int a1, .int a2] h none none (fun r h' => r = some (.int out.1) ∧ d_mod h' out.2 ∧ d_frm 55 6 h h') := by
  refine a_enter ⟨by decide, rfl, Nat.le_of_ble_eq_true rfl⟩ (fun p e s m args below meth c hr hin => ?_)
  unfold f_X4_fall at hf
  have hfr : d_frm 55 6 h h := d_frm.rf
  refine a_sub (ls' := [(0, .ref 55), (1, .int a1), (2, .int a2)]) [0, 1, 2] rfl ?_
  refine a_iconst (pc' := 1) (v := (0 : Int32)) dX4_fall_0 rfl (by decide) ?_
  refine a_istore_n (pc' := 2) (ls' := [(3, .int ((0 : Int32))), (0, .ref 55), (1, .int a1), (2, .int a2)]) dX4_fall_1 rfl (by decide) rfl rfl ?_
  refine a_iconst (pc' := 3) (v := (0 : Int32)) dX4_fall_2 rfl (by decide) ?_
  refine a_istore (pc' := 5) (ls' := [(4, .int ((0 : Int32))), (3, .int ((0 : Int32))), (0, .ref 55), (1, .int a1), (2, .int a2)]) dX4_fall_3 (by decide) rfl rfl ?_
  obtain ⟨o1, e2, hf⟩ := Option.bind_eq_some_iff.mp hf
  refine a_sub [2, 3, 4, 1, 0] rfl ?_
  refine l_X4_fall_L5 F a1 a2  F _ _ _ o1 e2 (fun e9 he9 h3 hz hfr => ?_) _ hz hfr
  subst he9
  refine a_iload_n (pc' := 83) 0 dX4_fall_82 rfl rfl rfl ?_
  cases hf
  exact a_iret hr ⟨rfl, hz, hfr⟩ dX4_fall_83
/-! SlateRoofModel.goDay(I)I -/
set_option maxRecDepth 100000 in
def f_X4_goDay (F : Nat) (M : d_M) (a1 : Int32) : Option (Int32 × d_M) := f_grd ((6 : Int32)) 294 (f_grd ((6 : Int32)) 294 (f_let (ms_z M (upd (m_z M) ((6 : Int32)).toNatClampNeg (((m_z M) ((6 : Int32)).toNatClampNeg) + ((1 : Int32))))) fun M2 => f_grd ((9 : Int32)) 294 ((if ((m_z M2) ((9 : Int32)).toNatClampNeg) = 0 then (if a1 = 0 then (if a1 = 0 then f_grd ((8 : Int32)) 294 ((if ((m_z M2) ((8 : Int32)).toNatClampNeg) ≤ 0 then (if a1 = ((2 : Int32)) then f_grd ((2 : Int32)) 294 ((if ((m_z M2) ((2 : Int32)).toNatClampNeg) ≤ 0 then f_grd ((2 : Int32)) 294 ((if ((m_z M2) ((2 : Int32)).toNatClampNeg) ≤ ((1 : Int32)) then f_grd ((4 : Int32)) 294 (f_grd ((7 : Int32)) 294 (f_let (ms_z M2 (upd (m_z M2) ((7 : Int32)).toNatClampNeg ((m_z M2) ((4 : Int32)).toNatClampNeg))) fun M84 => some (((((0 : Int32)) + ((0 : Int32))) + ((0 : Int32)), M84)))) else (f_X4_lastCourse F M2).bind fun x86 => f_grd ((6 : Int32)) 294 ((f_X4_fall F M2 (x86 - ((1 : Int32))) ((((m_z M2) ((6 : Int32)).toNatClampNeg) + ((2 : Int32))) - (((m_z M2) ((6 : Int32)).toNatClampNeg) + ((2 : Int32))) / ((5 : Int32)) * ((5 : Int32)))).bind fun x88 => f_let x88.2 fun M90 => f_grd ((4 : Int32)) 294 (f_grd ((7 : Int32)) 294 (f_let (ms_z M90 (upd (m_z M90) ((7 : Int32)).toNatClampNeg ((m_z M90) ((4 : Int32)).toNatClampNeg))) fun M92 => some (((((0 : Int32)) + ((0 : Int32))) + x88.1, M92))))))) else (f_X4_lastCourse F M2).bind fun x94 => f_grd ((6 : Int32)) 294 ((f_X4_fall F M2 x94 (((m_z M2) ((6 : Int32)).toNatClampNeg) - ((m_z M2) ((6 : Int32)).toNatClampNeg) / ((5 : Int32)) * ((5 : Int32)))).bind fun x96 => f_let x96.2 fun M98 => f_grd ((2 : Int32)) 294 ((if ((m_z M98) ((2 : Int32)).toNatClampNeg) ≤ ((1 : Int32)) then f_grd ((4 : Int32)) 294 (f_grd ((7 : Int32)) 294 (f_let (ms_z M98 (upd (m_z M98) ((7 : Int32)).toNatClampNeg ((m_z M98) ((4 : Int32)).toNatClampNeg))) fun M101 => some (((((0 : Int32)) + x96.1) + ((0 : Int32)), M101)))) else (f_X4_lastCourse F M98).bind fun x103 => f_grd ((6 : Int32)) 294 ((f_X4_fall F M98 (x103 - ((1 : Int32))) ((((m_z M98) ((6 : Int32)).toNatClampNeg) + ((2 : Int32))) - (((m_z M98) ((6 : Int32)).toNatClampNeg) + ((2 : Int32))) / ((5 : Int32)) * ((5 : Int32)))).bind fun x105 => f_let x105.2 fun M107 => f_grd ((4 : Int32)) 294 (f_grd ((7 : Int32)) 294 (f_let (ms_z M107 (upd (m_z M107) ((7 : Int32)).toNatClampNeg ((m_z M107) ((4 : Int32)).toNatClampNeg))) fun M109 => some (((((0 : Int32)) + x96.1) + x105.1, M109)))))))))) else f_grd ((4 : Int32)) 294 (f_grd ((7 : Int32)) 294 (f_let (ms_z M2 (upd (m_z M2) ((7 : Int32)).toNatClampNeg ((m_z M2) ((4 : Int32)).toNatClampNeg))) fun M80 => some (((0 : Int32), M80))))) else f_grd ((8 : Int32)) 294 (f_grd ((8 : Int32)) 294 (f_let (ms_z M2 (upd (m_z M2) ((8 : Int32)).toNatClampNeg (((m_z M2) ((8 : Int32)).toNatClampNeg) - ((1 : Int32))))) fun M111 => (if a1 = ((2 : Int32)) then f_grd ((2 : Int32)) 294 ((if ((m_z M111) ((2 : Int32)).toNatClampNeg) ≤ 0 then f_grd ((2 : Int32)) 294 ((if ((m_z M111) ((2 : Int32)).toNatClampNeg) ≤ ((1 : Int32)) then f_grd ((4 : Int32)) 294 (f_grd ((7 : Int32)) 294 (f_let (ms_z M111 (upd (m_z M111) ((7 : Int32)).toNatClampNeg ((m_z M111) ((4 : Int32)).toNatClampNeg))) fun M118 => some (((((0 : Int32)) + ((0 : Int32))) + ((0 : Int32)), M118)))) else (f_X4_lastCourse F M111).bind fun x120 => f_grd ((6 : Int32)) 294 ((f_X4_fall F M111 (x120 - ((1 : Int32))) ((((m_z M111) ((6 : Int32)).toNatClampNeg) + ((2 : Int32))) - (((m_z M111) ((6 : Int32)).toNatClampNeg) + ((2 : Int32))) / ((5 : Int32)) * ((5 : Int32)))).bind fun x122 => f_let x122.2 fun M124 => f_grd ((4 : Int32)) 294 (f_grd ((7 : Int32)) 294 (f_let (ms_z M124 (upd (m_z M124) ((7 : Int32)).toNatClampNeg ((m_z M124) ((4 : Int32)).toNatClampNeg))) fun M126 => some (((((0 : Int32)) + ((0 : Int32))) + x122.1, M126))))))) else (f_X4_lastCourse F M111).bind fun x128 => f_grd ((6 : Int32)) 294 ((f_X4_fall F M111 x128 (((m_z M111) ((6 : Int32)).toNatClampNeg) - ((m_z M111) ((6 : Int32)).toNatClampNeg) / ((5 : Int32)) * ((5 : Int32)))).bind fun x130 => f_let x130.2 fun M132 => f_grd ((2 : Int32)) 294 ((if ((m_z M132) ((2 : Int32)).toNatClampNeg) ≤ ((1 : Int32)) then f_grd ((4 : Int32)) 294 (f_grd ((7 : Int32)) 294 (f_let (ms_z M132 (upd (m_z M132) ((7 : Int32)).toNatClampNeg ((m_z M132) ((4 : Int32)).toNatClampNeg))) fun M135 => some (((((0 : Int32)) + x130.1) + ((0 : Int32)), M135)))) else (f_X4_lastCourse F M132).bind fun x137 => f_grd ((6 : Int32)) 294 ((f_X4_fall F M132 (x137 - ((1 : Int32))) ((((m_z M132) ((6 : Int32)).toNatClampNeg) + ((2 : Int32))) - (((m_z M132) ((6 : Int32)).toNatClampNeg) + ((2 : Int32))) / ((5 : Int32)) * ((5 : Int32)))).bind fun x139 => f_let x139.2 fun M141 => f_grd ((4 : Int32)) 294 (f_grd ((7 : Int32)) 294 (f_let (ms_z M141 (upd (m_z M141) ((7 : Int32)).toNatClampNeg ((m_z M141) ((4 : Int32)).toNatClampNeg))) fun M143 => some (((((0 : Int32)) + x130.1) + x139.1, M143)))))))))) else f_grd ((4 : Int32)) 294 (f_grd ((7 : Int32)) 294 (f_let (ms_z M111 (upd (m_z M111) ((7 : Int32)).toNatClampNeg ((m_z M111) ((4 : Int32)).toNatClampNeg))) fun M114 => some (((0 : Int32), M114))))))))) else (if a1 = ((2 : Int32)) then f_grd ((2 : Int32)) 294 ((if ((m_z M2) ((2 : Int32)).toNatClampNeg) ≤ 0 then f_grd ((2 : Int32)) 294 ((if ((m_z M2) ((2 : Int32)).toNatClampNeg) ≤ ((1 : Int32)) then f_grd ((4 : Int32)) 294 (f_grd ((7 : Int32)) 294 (f_let (ms_z M2 (upd (m_z M2) ((7 : Int32)).toNatClampNeg ((m_z M2) ((4 : Int32)).toNatClampNeg))) fun M51 => some (((((0 : Int32)) + ((0 : Int32))) + ((0 : Int32)), M51)))) else (f_X4_lastCourse F M2).bind fun x53 => f_grd ((6 : Int32)) 294 ((f_X4_fall F M2 (x53 - ((1 : Int32))) ((((m_z M2) ((6 : Int32)).toNatClampNeg) + ((2 : Int32))) - (((m_z M2) ((6 : Int32)).toNatClampNeg) + ((2 : Int32))) / ((5 : Int32)) * ((5 : Int32)))).bind fun x55 => f_let x55.2 fun M57 => f_grd ((4 : Int32)) 294 (f_grd ((7 : Int32)) 294 (f_let (ms_z M57 (upd (m_z M57) ((7 : Int32)).toNatClampNeg ((m_z M57) ((4 : Int32)).toNatClampNeg))) fun M59 => some (((((0 : Int32)) + ((0 : Int32))) + x55.1, M59))))))) else (f_X4_lastCourse F M2).bind fun x61 => f_grd ((6 : Int32)) 294 ((f_X4_fall F M2 x61 (((m_z M2) ((6 : Int32)).toNatClampNeg) - ((m_z M2) ((6 : Int32)).toNatClampNeg) / ((5 : Int32)) * ((5 : Int32)))).bind fun x63 => f_let x63.2 fun M65 => f_grd ((2 : Int32)) 294 ((if ((m_z M65) ((2 : Int32)).toNatClampNeg) ≤ ((1 : Int32)) then f_grd ((4 : Int32)) 294 (f_grd ((7 : Int32)) 294 (f_let (ms_z M65 (upd (m_z M65) ((7 : Int32)).toNatClampNeg ((m_z M65) ((4 : Int32)).toNatClampNeg))) fun M68 => some (((((0 : Int32)) + x63.1) + ((0 : Int32)), M68)))) else (f_X4_lastCourse F M65).bind fun x70 => f_grd ((6 : Int32)) 294 ((f_X4_fall F M65 (x70 - ((1 : Int32))) ((((m_z M65) ((6 : Int32)).toNatClampNeg) + ((2 : Int32))) - (((m_z M65) ((6 : Int32)).toNatClampNeg) + ((2 : Int32))) / ((5 : Int32)) * ((5 : Int32)))).bind fun x72 => f_let x72.2 fun M74 => f_grd ((4 : Int32)) 294 (f_grd ((7 : Int32)) 294 (f_let (ms_z M74 (upd (m_z M74) ((7 : Int32)).toNatClampNeg ((m_z M74) ((4 : Int32)).toNatClampNeg))) fun M76 => some (((((0 : Int32)) + x63.1) + x72.1, M76)))))))))) else f_grd ((4 : Int32)) 294 (f_grd ((7 : Int32)) 294 (f_let (ms_z M2 (upd (m_z M2) ((7 : Int32)).toNatClampNeg ((m_z M2) ((4 : Int32)).toNatClampNeg))) fun M47 => some (((0 : Int32), M47)))))) else (f_X4_isDone F M2).bind fun x145 => (if x145 = 0 then f_grd ((5 : Int32)) 294 (f_grd ((8 : Int32)) 294 (f_let (ms_z M2 (upd (m_z M2) ((8 : Int32)).toNatClampNeg ((m_z M2) ((5 : Int32)).toNatClampNeg))) fun M248 => (if a1 = ((2 : Int32)) then f_grd ((2 : Int32)) 294 ((if ((m_z M248) ((2 : Int32)).toNatClampNeg) ≤ 0 then f_grd ((2 : Int32)) 294 ((if ((m_z M248) ((2 : Int32)).toNatClampNeg) ≤ ((1 : Int32)) then f_grd ((4 : Int32)) 294 (f_grd ((7 : Int32)) 294 (f_let (ms_z M248 (upd (m_z M248) ((7 : Int32)).toNatClampNeg ((m_z M248) ((4 : Int32)).toNatClampNeg))) fun M255 => some (((((0 : Int32)) + ((0 : Int32))) + ((0 : Int32)), M255)))) else (f_X4_lastCourse F M248).bind fun x257 => f_grd ((6 : Int32)) 294 ((f_X4_fall F M248 (x257 - ((1 : Int32))) ((((m_z M248) ((6 : Int32)).toNatClampNeg) + ((2 : Int32))) - (((m_z M248) ((6 : Int32)).toNatClampNeg) + ((2 : Int32))) / ((5 : Int32)) * ((5 : Int32)))).bind fun x259 => f_let x259.2 fun M261 => f_grd ((4 : Int32)) 294 (f_grd ((7 : Int32)) 294 (f_let (ms_z M261 (upd (m_z M261) ((7 : Int32)).toNatClampNeg ((m_z M261) ((4 : Int32)).toNatClampNeg))) fun M263 => some (((((0 : Int32)) + ((0 : Int32))) + x259.1, M263))))))) else (f_X4_lastCourse F M248).bind fun x265 => f_grd ((6 : Int32)) 294 ((f_X4_fall F M248 x265 (((m_z M248) ((6 : Int32)).toNatClampNeg) - ((m_z M248) ((6 : Int32)).toNatClampNeg) / ((5 : Int32)) * ((5 : Int32)))).bind fun x267 => f_let x267.2 fun M269 => f_grd ((2 : Int32)) 294 ((if ((m_z M269) ((2 : Int32)).toNatClampNeg) ≤ ((1 : Int32)) then f_grd ((4 : Int32)) 294 (f_grd ((7 : Int32)) 294 (f_let (ms_z M269 (upd (m_z M269) ((7 : Int32)).toNatClampNeg ((m_z M269) ((4 : Int32)).toNatClampNeg))) fun M272 => some (((((0 : Int32)) + x267.1) + ((0 : Int32)), M272)))) else (f_X4_lastCourse F M269).bind fun x274 => f_grd ((6 : Int32)) 294 ((f_X4_fall F M269 (x274 - ((1 : Int32))) ((((m_z M269) ((6 : Int32)).toNatClampNeg) + ((2 : Int32))) - (((m_z M269) ((6 : Int32)).toNatClampNeg) + ((2 : Int32))) / ((5 : Int32)) * ((5 : Int32)))).bind fun x276 => f_let x276.2 fun M278 => f_grd ((4 : Int32)) 294 (f_grd ((7 : Int32)) 294 (f_let (ms_z M278 (upd (m_z M278) ((7 : Int32)).toNatClampNeg ((m_z M278) ((4 : Int32)).toNatClampNeg))) fun M280 => some (((((0 : Int32)) + x267.1) + x276.1, M280)))))))))) else f_grd ((4 : Int32)) 294 (f_grd ((7 : Int32)) 294 (f_let (ms_z M248 (upd (m_z M248) ((7 : Int32)).toNatClampNeg ((m_z M248) ((4 : Int32)).toNatClampNeg))) fun M251 => some (((0 : Int32), M251))))))) else (if a1 = 0 then f_grd ((8 : Int32)) 294 ((if ((m_z M2) ((8 : Int32)).toNatClampNeg) ≤ 0 then (if a1 = ((2 : Int32)) then f_grd ((2 : Int32)) 294 ((if ((m_z M2) ((2 : Int32)).toNatClampNeg) ≤ 0 then f_grd ((2 : Int32)) 294 ((if ((m_z M2) ((2 : Int32)).toNatClampNeg) ≤ ((1 : Int32)) then f_grd ((4 : Int32)) 294 (f_grd ((7 : Int32)) 294 (f_let (ms_z M2 (upd (m_z M2) ((7 : Int32)).toNatClampNeg ((m_z M2) ((4 : Int32)).toNatClampNeg))) fun M187 => some (((((0 : Int32)) + ((0 : Int32))) + ((0 : Int32)), M187)))) else (f_X4_lastCourse F M2).bind fun x189 => f_grd ((6 : Int32)) 294 ((f_X4_fall F M2 (x189 - ((1 : Int32))) ((((m_z M2) ((6 : Int32)).toNatClampNeg) + ((2 : Int32))) - (((m_z M2) ((6 : Int32)).toNatClampNeg) + ((2 : Int32))) / ((5 : Int32)) * ((5 : Int32)))).bind fun x191 => f_let x191.2 fun M193 => f_grd ((4 : Int32)) 294 (f_grd ((7 : Int32)) 294 (f_let (ms_z M193 (upd (m_z M193) ((7 : Int32)).toNatClampNeg ((m_z M193) ((4 : Int32)).toNatClampNeg))) fun M195 => some (((((0 : Int32)) + ((0 : Int32))) + x191.1, M195))))))) else (f_X4_lastCourse F M2).bind fun x197 => f_grd ((6 : Int32)) 294 ((f_X4_fall F M2 x197 (((m_z M2) ((6 : Int32)).toNatClampNeg) - ((m_z M2) ((6 : Int32)).toNatClampNeg) / ((5 : Int32)) * ((5 : Int32)))).bind fun x199 => f_let x199.2 fun M201 => f_grd ((2 : Int32)) 294 ((if ((m_z M201) ((2 : Int32)).toNatClampNeg) ≤ ((1 : Int32)) then f_grd ((4 : Int32)) 294 (f_grd ((7 : Int32)) 294 (f_let (ms_z M201 (upd (m_z M201) ((7 : Int32)).toNatClampNeg ((m_z M201) ((4 : Int32)).toNatClampNeg))) fun M204 => some (((((0 : Int32)) + x199.1) + ((0 : Int32)), M204)))) else (f_X4_lastCourse F M201).bind fun x206 => f_grd ((6 : Int32)) 294 ((f_X4_fall F M201 (x206 - ((1 : Int32))) ((((m_z M201) ((6 : Int32)).toNatClampNeg) + ((2 : Int32))) - (((m_z M201) ((6 : Int32)).toNatClampNeg) + ((2 : Int32))) / ((5 : Int32)) * ((5 : Int32)))).bind fun x208 => f_let x208.2 fun M210 => f_grd ((4 : Int32)) 294 (f_grd ((7 : Int32)) 294 (f_let (ms_z M210 (upd (m_z M210) ((7 : Int32)).toNatClampNeg ((m_z M210) ((4 : Int32)).toNatClampNeg))) fun M212 => some (((((0 : Int32)) + x199.1) + x208.1, M212)))))))))) else f_grd ((4 : Int32)) 294 (f_grd ((7 : Int32)) 294 (f_let (ms_z M2 (upd (m_z M2) ((7 : Int32)).toNatClampNeg ((m_z M2) ((4 : Int32)).toNatClampNeg))) fun M183 => some (((0 : Int32), M183))))) else f_grd ((8 : Int32)) 294 (f_grd ((8 : Int32)) 294 (f_let (ms_z M2 (upd (m_z M2) ((8 : Int32)).toNatClampNeg (((m_z M2) ((8 : Int32)).toNatClampNeg) - ((1 : Int32))))) fun M214 => (if a1 = ((2 : Int32)) then f_grd ((2 : Int32)) 294 ((if ((m_z M214) ((2 : Int32)).toNatClampNeg) ≤ 0 then f_grd ((2 : Int32)) 294 ((if ((m_z M214) ((2 : Int32)).toNatClampNeg) ≤ ((1 : Int32)) then f_grd ((4 : Int32)) 294 (f_grd ((7 : Int32)) 294 (f_let (ms_z M214 (upd (m_z M214) ((7 : Int32)).toNatClampNeg ((m_z M214) ((4 : Int32)).toNatClampNeg))) fun M221 => some (((((0 : Int32)) + ((0 : Int32))) + ((0 : Int32)), M221)))) else (f_X4_lastCourse F M214).bind fun x223 => f_grd ((6 : Int32)) 294 ((f_X4_fall F M214 (x223 - ((1 : Int32))) ((((m_z M214) ((6 : Int32)).toNatClampNeg) + ((2 : Int32))) - (((m_z M214) ((6 : Int32)).toNatClampNeg) + ((2 : Int32))) / ((5 : Int32)) * ((5 : Int32)))).bind fun x225 => f_let x225.2 fun M227 => f_grd ((4 : Int32)) 294 (f_grd ((7 : Int32)) 294 (f_let (ms_z M227 (upd (m_z M227) ((7 : Int32)).toNatClampNeg ((m_z M227) ((4 : Int32)).toNatClampNeg))) fun M229 => some (((((0 : Int32)) + ((0 : Int32))) + x225.1, M229))))))) else (f_X4_lastCourse F M214).bind fun x231 => f_grd ((6 : Int32)) 294 ((f_X4_fall F M214 x231 (((m_z M214) ((6 : Int32)).toNatClampNeg) - ((m_z M214) ((6 : Int32)).toNatClampNeg) / ((5 : Int32)) * ((5 : Int32)))).bind fun x233 => f_let x233.2 fun M235 => f_grd ((2 : Int32)) 294 ((if ((m_z M235) ((2 : Int32)).toNatClampNeg) ≤ ((1 : Int32)) then f_grd ((4 : Int32)) 294 (f_grd ((7 : Int32)) 294 (f_let (ms_z M235 (upd (m_z M235) ((7 : Int32)).toNatClampNeg ((m_z M235) ((4 : Int32)).toNatClampNeg))) fun M238 => some (((((0 : Int32)) + x233.1) + ((0 : Int32)), M238)))) else (f_X4_lastCourse F M235).bind fun x240 => f_grd ((6 : Int32)) 294 ((f_X4_fall F M235 (x240 - ((1 : Int32))) ((((m_z M235) ((6 : Int32)).toNatClampNeg) + ((2 : Int32))) - (((m_z M235) ((6 : Int32)).toNatClampNeg) + ((2 : Int32))) / ((5 : Int32)) * ((5 : Int32)))).bind fun x242 => f_let x242.2 fun M244 => f_grd ((4 : Int32)) 294 (f_grd ((7 : Int32)) 294 (f_let (ms_z M244 (upd (m_z M244) ((7 : Int32)).toNatClampNeg ((m_z M244) ((4 : Int32)).toNatClampNeg))) fun M246 => some (((((0 : Int32)) + x233.1) + x242.1, M246)))))))))) else f_grd ((4 : Int32)) 294 (f_grd ((7 : Int32)) 294 (f_let (ms_z M214 (upd (m_z M214) ((7 : Int32)).toNatClampNeg ((m_z M214) ((4 : Int32)).toNatClampNeg))) fun M217 => some (((0 : Int32), M217))))))))) else (if a1 = ((2 : Int32)) then f_grd ((2 : Int32)) 294 ((if ((m_z M2) ((2 : Int32)).toNatClampNeg) ≤ 0 then f_grd ((2 : Int32)) 294 ((if ((m_z M2) ((2 : Int32)).toNatClampNeg) ≤ ((1 : Int32)) then f_grd ((4 : Int32)) 294 (f_grd ((7 : Int32)) 294 (f_let (ms_z M2 (upd (m_z M2) ((7 : Int32)).toNatClampNeg ((m_z M2) ((4 : Int32)).toNatClampNeg))) fun M154 => some (((((0 : Int32)) + ((0 : Int32))) + ((0 : Int32)), M154)))) else (f_X4_lastCourse F M2).bind fun x156 => f_grd ((6 : Int32)) 294 ((f_X4_fall F M2 (x156 - ((1 : Int32))) ((((m_z M2) ((6 : Int32)).toNatClampNeg) + ((2 : Int32))) - (((m_z M2) ((6 : Int32)).toNatClampNeg) + ((2 : Int32))) / ((5 : Int32)) * ((5 : Int32)))).bind fun x158 => f_let x158.2 fun M160 => f_grd ((4 : Int32)) 294 (f_grd ((7 : Int32)) 294 (f_let (ms_z M160 (upd (m_z M160) ((7 : Int32)).toNatClampNeg ((m_z M160) ((4 : Int32)).toNatClampNeg))) fun M162 => some (((((0 : Int32)) + ((0 : Int32))) + x158.1, M162))))))) else (f_X4_lastCourse F M2).bind fun x164 => f_grd ((6 : Int32)) 294 ((f_X4_fall F M2 x164 (((m_z M2) ((6 : Int32)).toNatClampNeg) - ((m_z M2) ((6 : Int32)).toNatClampNeg) / ((5 : Int32)) * ((5 : Int32)))).bind fun x166 => f_let x166.2 fun M168 => f_grd ((2 : Int32)) 294 ((if ((m_z M168) ((2 : Int32)).toNatClampNeg) ≤ ((1 : Int32)) then f_grd ((4 : Int32)) 294 (f_grd ((7 : Int32)) 294 (f_let (ms_z M168 (upd (m_z M168) ((7 : Int32)).toNatClampNeg ((m_z M168) ((4 : Int32)).toNatClampNeg))) fun M171 => some (((((0 : Int32)) + x166.1) + ((0 : Int32)), M171)))) else (f_X4_lastCourse F M168).bind fun x173 => f_grd ((6 : Int32)) 294 ((f_X4_fall F M168 (x173 - ((1 : Int32))) ((((m_z M168) ((6 : Int32)).toNatClampNeg) + ((2 : Int32))) - (((m_z M168) ((6 : Int32)).toNatClampNeg) + ((2 : Int32))) / ((5 : Int32)) * ((5 : Int32)))).bind fun x175 => f_let x175.2 fun M177 => f_grd ((4 : Int32)) 294 (f_grd ((7 : Int32)) 294 (f_let (ms_z M177 (upd (m_z M177) ((7 : Int32)).toNatClampNeg ((m_z M177) ((4 : Int32)).toNatClampNeg))) fun M179 => some (((((0 : Int32)) + x166.1) + x175.1, M179)))))))))) else f_grd ((4 : Int32)) 294 (f_grd ((7 : Int32)) 294 (f_let (ms_z M2 (upd (m_z M2) ((7 : Int32)).toNatClampNeg ((m_z M2) ((4 : Int32)).toNatClampNeg))) fun M150 => some (((0 : Int32), M150)))))))) else (if a1 = 0 then (if a1 = 0 then f_grd ((8 : Int32)) 294 ((if ((m_z M2) ((8 : Int32)).toNatClampNeg) ≤ 0 then (if a1 = ((2 : Int32)) then f_grd ((4 : Int32)) 294 (f_grd ((7 : Int32)) 294 (f_let (ms_z M2 (upd (m_z M2) ((7 : Int32)).toNatClampNeg ((m_z M2) ((4 : Int32)).toNatClampNeg))) fun M16 => some (((0 : Int32), M16)))) else f_grd ((4 : Int32)) 294 (f_grd ((7 : Int32)) 294 (f_let (ms_z M2 (upd (m_z M2) ((7 : Int32)).toNatClampNeg ((m_z M2) ((4 : Int32)).toNatClampNeg))) fun M14 => some (((0 : Int32), M14))))) else f_grd ((8 : Int32)) 294 (f_grd ((8 : Int32)) 294 (f_let (ms_z M2 (upd (m_z M2) ((8 : Int32)).toNatClampNeg (((m_z M2) ((8 : Int32)).toNatClampNeg) - ((1 : Int32))))) fun M18 => (if a1 = ((2 : Int32)) then f_grd ((4 : Int32)) 294 (f_grd ((7 : Int32)) 294 (f_let (ms_z M18 (upd (m_z M18) ((7 : Int32)).toNatClampNeg ((m_z M18) ((4 : Int32)).toNatClampNeg))) fun M23 => some (((0 : Int32), M23)))) else f_grd ((4 : Int32)) 294 (f_grd ((7 : Int32)) 294 (f_let (ms_z M18 (upd (m_z M18) ((7 : Int32)).toNatClampNeg ((m_z M18) ((4 : Int32)).toNatClampNeg))) fun M21 => some (((0 : Int32), M21))))))))) else (if a1 = ((2 : Int32)) then f_grd ((4 : Int32)) 294 (f_grd ((7 : Int32)) 294 (f_let (ms_z M2 (upd (m_z M2) ((7 : Int32)).toNatClampNeg ((m_z M2) ((4 : Int32)).toNatClampNeg))) fun M10 => some (((0 : Int32), M10)))) else f_grd ((4 : Int32)) 294 (f_grd ((7 : Int32)) 294 (f_let (ms_z M2 (upd (m_z M2) ((7 : Int32)).toNatClampNeg ((m_z M2) ((4 : Int32)).toNatClampNeg))) fun M8 => some (((0 : Int32), M8)))))) else (if a1 = 0 then f_grd ((8 : Int32)) 294 ((if ((m_z M2) ((8 : Int32)).toNatClampNeg) ≤ 0 then (if a1 = ((2 : Int32)) then f_grd ((4 : Int32)) 294 (f_grd ((7 : Int32)) 294 (f_let (ms_z M2 (upd (m_z M2) ((7 : Int32)).toNatClampNeg ((m_z M2) ((4 : Int32)).toNatClampNeg))) fun M35 => some (((0 : Int32), M35)))) else f_grd ((4 : Int32)) 294 (f_grd ((7 : Int32)) 294 (f_let (ms_z M2 (upd (m_z M2) ((7 : Int32)).toNatClampNeg ((m_z M2) ((4 : Int32)).toNatClampNeg))) fun M33 => some (((0 : Int32), M33))))) else f_grd ((8 : Int32)) 294 (f_grd ((8 : Int32)) 294 (f_let (ms_z M2 (upd (m_z M2) ((8 : Int32)).toNatClampNeg (((m_z M2) ((8 : Int32)).toNatClampNeg) - ((1 : Int32))))) fun M37 => (if a1 = ((2 : Int32)) then f_grd ((4 : Int32)) 294 (f_grd ((7 : Int32)) 294 (f_let (ms_z M37 (upd (m_z M37) ((7 : Int32)).toNatClampNeg ((m_z M37) ((4 : Int32)).toNatClampNeg))) fun M42 => some (((0 : Int32), M42)))) else f_grd ((4 : Int32)) 294 (f_grd ((7 : Int32)) 294 (f_let (ms_z M37 (upd (m_z M37) ((7 : Int32)).toNatClampNeg ((m_z M37) ((4 : Int32)).toNatClampNeg))) fun M40 => some (((0 : Int32), M40))))))))) else (if a1 = ((2 : Int32)) then f_grd ((4 : Int32)) 294 (f_grd ((7 : Int32)) 294 (f_let (ms_z M2 (upd (m_z M2) ((7 : Int32)).toNatClampNeg ((m_z M2) ((4 : Int32)).toNatClampNeg))) fun M29 => some (((0 : Int32), M29)))) else f_grd ((4 : Int32)) 294 (f_grd ((7 : Int32)) 294 (f_let (ms_z M2 (upd (m_z M2) ((7 : Int32)).toNatClampNeg ((m_z M2) ((4 : Int32)).toNatClampNeg))) fun M27 => some (((0 : Int32), M27)))))))))))
set_option maxHeartbeats 4000000 in
set_option maxRecDepth 100000 in
theorem c_X4_goDay (l : Launch) (g : a_G) (F : Nat) {h : List va_E} {M : d_M} {a1 : Int32} (hz : d_mod h M) {out : Int32 × d_M} (hf : f_X4_goDay F M a1 = some out) : a_CT l g yX4_goDay cX4_goDay 4 (some .int) (a_rm 4 87) [.ref 55, .int a1] h none none (fun r h' => r = some (.int out.1) ∧ d_mod h' out.2 ∧ d_frm 55 6 h h') := by
  refine a_enter ⟨by decide, rfl, Nat.le_of_ble_eq_true rfl⟩ (fun p e s m args below meth c hr hin => ?_)
  unfold f_X4_goDay at hf
  have hfr : d_frm 55 6 h h := d_frm.rf
  refine a_sub (ls' := [(0, .ref 55), (1, .int a1)]) [0, 1] rfl ?_
  refine a_aload_n (pc' := 1) 0 dX4_goDay_0 rfl rfl rfl ?_
  refine g_X4_7 (pc' := 4) hz.1 rfl dX4_goDay_1 rfl ?_
  refine a_bipush (pc' := 6) (v := (6 : Int32)) dX4_goDay_4 rfl (by decide) ?_
  refine a_dup2 (pc' := 7) dX4_goDay_6 rfl rfl rfl ?_
  obtain ⟨hg, hf⟩ := f_grd_x hf
  refine b_iald (pc' := 8) hz.2.1 hg dX4_goDay_7 rfl ?_
  refine a_iconst (pc' := 9) (v := (1 : Int32)) dX4_goDay_8 rfl (by decide) ?_
  refine a_iadd (pc' := 10) dX4_goDay_9 rfl ?_
  obtain ⟨hg, hf⟩ := f_grd_x hf
  refine b_iast (pc' := 11) hz.2.1 hg dX4_goDay_10 rfl (fun h1 hz1 hfr1 => ?_)
  obtain ⟨hz1, hfr1⟩ := d_ma_z hz hz1 hfr1
  obtain ⟨M2, hf, hz⟩ := f_let_x (P := fun w => d_mod h1 w) hf hz1
  replace hfr := d_frm.tr hfr hfr1 (by omega)
  refine a_aload_n (pc' := 12) 0 dX4_goDay_11 rfl rfl rfl ?_
  refine g_X4_7 (pc' := 15) hz.1 rfl dX4_goDay_12 rfl ?_
  refine a_bipush (pc' := 17) (v := (9 : Int32)) dX4_goDay_15 rfl (by decide) ?_
  obtain ⟨hg, hf⟩ := f_grd_x hf
  refine b_iald (pc' := 18) hz.2.1 hg dX4_goDay_17 rfl ?_
  refine a_if_ne (pc' := 21) 25 dX4_goDay_18 (by decide) rfl (fun k3 => ?_) (fun k3 => ?_)
  · replace hf := (if_neg k3).symm.trans hf
    refine a_iconst (pc' := 26) (v := (0 : Int32)) dX4_goDay_25 rfl (by decide) ?_
    refine a_istore_n (pc' := 27) (ls' := [(2, .int ((0 : Int32))), (0, .ref 55), (1, .int a1)]) dX4_goDay_26 rfl (by decide) rfl rfl ?_
    refine a_iload_n (pc' := 28) 2 dX4_goDay_27 rfl rfl rfl ?_
    refine a_if_eq (pc' := 31) 58 dX4_goDay_28 (by decide) rfl (fun k4 => ?_) (fun k4 => ?_)
    · replace hf := (if_pos k4).symm.trans hf
      refine a_iload_n (pc' := 59) 2 dX4_goDay_58 rfl rfl rfl ?_
      refine a_if_ne (pc' := 62) 83 dX4_goDay_59 (by decide) rfl (fun k5 => ?_) (fun k5 => ?_)
      · replace hf := (if_neg k5).symm.trans hf
        refine a_iconst (pc' := 84) (v := (0 : Int32)) dX4_goDay_83 rfl (by decide) ?_
        refine a_istore_n (pc' := 85) (ls' := [(3, .int ((0 : Int32))), (2, .int ((0 : Int32))), (0, .ref 55), (1, .int a1)]) dX4_goDay_84 rfl (by decide) rfl rfl ?_
        refine a_iload_n (pc' := 86) 3 dX4_goDay_85 rfl rfl rfl ?_
        refine a_iconst (pc' := 87) (v := (2 : Int32)) dX4_goDay_86 rfl (by decide) ?_
        refine a_icmp_ne (pc' := 90) 165 dX4_goDay_87 (by decide) rfl (fun k6 => ?_) (fun k6 => ?_)
        · replace hf := (if_neg k6).symm.trans hf
          refine a_aload_n (pc' := 166) 2 dX4_goDay_165 rfl rfl rfl ?_
          refine g_X4_7 (pc' := 169) hz.1 rfl dX4_goDay_166 rfl ?_
          refine a_bipush (pc' := 171) (v := (7 : Int32)) dX4_goDay_169 rfl (by decide) ?_
          refine a_aload_n (pc' := 172) 2 dX4_goDay_171 rfl rfl rfl ?_
          refine g_X4_7 (pc' := 175) hz.1 rfl dX4_goDay_172 rfl ?_
          refine a_iconst (pc' := 176) (v := (4 : Int32)) dX4_goDay_175 rfl (by decide) ?_
          obtain ⟨hg, hf⟩ := f_grd_x hf
          refine b_iald (pc' := 177) hz.2.1 hg dX4_goDay_176 rfl ?_
          obtain ⟨hg, hf⟩ := f_grd_x hf
          refine b_iast (pc' := 178) hz.2.1 hg dX4_goDay_177 rfl (fun h7 hz1 hfr1 => ?_)
          obtain ⟨hz1, hfr1⟩ := d_ma_z hz hz1 hfr1
          obtain ⟨M8, hf, hz⟩ := f_let_x (P := fun w => d_mod h7 w) hf hz1
          replace hfr := d_frm.tr hfr hfr1 (by omega)
          refine a_iload_n (pc' := 179) 0 dX4_goDay_178 rfl rfl rfl ?_
          cases hf
          exact a_iret hr ⟨rfl, hz, hfr⟩ dX4_goDay_179
        · replace hf := (if_pos k6).symm.trans hf
          refine a_iload_n (pc' := 91) 1 dX4_goDay_90 rfl rfl rfl ?_
          refine a_if_eq (pc' := 94) 165 dX4_goDay_91 (by decide) rfl (fun _ => ?_) (fun cc => absurd cc (by decide))
          refine a_aload_n (pc' := 166) 2 dX4_goDay_165 rfl rfl rfl ?_
          refine g_X4_7 (pc' := 169) hz.1 rfl dX4_goDay_166 rfl ?_
          refine a_bipush (pc' := 171) (v := (7 : Int32)) dX4_goDay_169 rfl (by decide) ?_
          refine a_aload_n (pc' := 172) 2 dX4_goDay_171 rfl rfl rfl ?_
          refine g_X4_7 (pc' := 175) hz.1 rfl dX4_goDay_172 rfl ?_
          refine a_iconst (pc' := 176) (v := (4 : Int32)) dX4_goDay_175 rfl (by decide) ?_
          obtain ⟨hg, hf⟩ := f_grd_x hf
          refine b_iald (pc' := 177) hz.2.1 hg dX4_goDay_176 rfl ?_
          obtain ⟨hg, hf⟩ := f_grd_x hf
          refine b_iast (pc' := 178) hz.2.1 hg dX4_goDay_177 rfl (fun h9 hz1 hfr1 => ?_)
          obtain ⟨hz1, hfr1⟩ := d_ma_z hz hz1 hfr1
          obtain ⟨M10, hf, hz⟩ := f_let_x (P := fun w => d_mod h9 w) hf hz1
          replace hfr := d_frm.tr hfr hfr1 (by omega)
          refine a_iload_n (pc' := 179) 0 dX4_goDay_178 rfl rfl rfl ?_
          cases hf
          exact a_iret hr ⟨rfl, hz, hfr⟩ dX4_goDay_179
      · replace hf := (if_pos k5).symm.trans hf
        refine a_aload_n (pc' := 63) 1 dX4_goDay_62 rfl rfl rfl ?_
        refine g_X4_7 (pc' := 66) hz.1 rfl dX4_goDay_63 rfl ?_
        refine a_bipush (pc' := 68) (v := (8 : Int32)) dX4_goDay_66 rfl (by decide) ?_
        obtain ⟨hg, hf⟩ := f_grd_x hf
        refine b_iald (pc' := 69) hz.2.1 hg dX4_goDay_68 rfl ?_
        refine a_if_le (pc' := 72) 83 dX4_goDay_69 (by decide) rfl (fun k11 => ?_) (fun k11 => ?_)
        · replace hf := (if_pos k11).symm.trans hf
          refine a_iconst (pc' := 84) (v := (0 : Int32)) dX4_goDay_83 rfl (by decide) ?_
          refine a_istore_n (pc' := 85) (ls' := [(3, .int ((0 : Int32))), (2, .int ((0 : Int32))), (0, .ref 55), (1, .int a1)]) dX4_goDay_84 rfl (by decide) rfl rfl ?_
          refine a_iload_n (pc' := 86) 3 dX4_goDay_85 rfl rfl rfl ?_
          refine a_iconst (pc' := 87) (v := (2 : Int32)) dX4_goDay_86 rfl (by decide) ?_
          refine a_icmp_ne (pc' := 90) 165 dX4_goDay_87 (by decide) rfl (fun k12 => ?_) (fun k12 => ?_)
          · replace hf := (if_neg k12).symm.trans hf
            refine a_aload_n (pc' := 166) 2 dX4_goDay_165 rfl rfl rfl ?_
            refine g_X4_7 (pc' := 169) hz.1 rfl dX4_goDay_166 rfl ?_
            refine a_bipush (pc' := 171) (v := (7 : Int32)) dX4_goDay_169 rfl (by decide) ?_
            refine a_aload_n (pc' := 172) 2 dX4_goDay_171 rfl rfl rfl ?_
            refine g_X4_7 (pc' := 175) hz.1 rfl dX4_goDay_172 rfl ?_
            refine a_iconst (pc' := 176) (v := (4 : Int32)) dX4_goDay_175 rfl (by decide) ?_
            obtain ⟨hg, hf⟩ := f_grd_x hf
            refine b_iald (pc' := 177) hz.2.1 hg dX4_goDay_176 rfl ?_
            obtain ⟨hg, hf⟩ := f_grd_x hf
            refine b_iast (pc' := 178) hz.2.1 hg dX4_goDay_177 rfl (fun h13 hz1 hfr1 => ?_)
            obtain ⟨hz1, hfr1⟩ := d_ma_z hz hz1 hfr1
            obtain ⟨M14, hf, hz⟩ := f_let_x (P := fun w => d_mod h13 w) hf hz1
            replace hfr := d_frm.tr hfr hfr1 (by omega)
            refine a_iload_n (pc' := 179) 0 dX4_goDay_178 rfl rfl rfl ?_
            cases hf
            exact a_iret hr ⟨rfl, hz, hfr⟩ dX4_goDay_179
          · replace hf := (if_pos k12).symm.trans hf
            refine a_iload_n (pc' := 91) 1 dX4_goDay_90 rfl rfl rfl ?_
            refine a_if_eq (pc' := 94) 165 dX4_goDay_91 (by decide) rfl (fun _ => ?_) (fun cc => absurd cc (by decide))
            refine a_aload_n (pc' := 166) 2 dX4_goDay_165 rfl rfl rfl ?_
            refine g_X4_7 (pc' := 169) hz.1 rfl dX4_goDay_166 rfl ?_
            refine a_bipush (pc' := 171) (v := (7 : Int32)) dX4_goDay_169 rfl (by decide) ?_
            refine a_aload_n (pc' := 172) 2 dX4_goDay_171 rfl rfl rfl ?_
            refine g_X4_7 (pc' := 175) hz.1 rfl dX4_goDay_172 rfl ?_
            refine a_iconst (pc' := 176) (v := (4 : Int32)) dX4_goDay_175 rfl (by decide) ?_
            obtain ⟨hg, hf⟩ := f_grd_x hf
            refine b_iald (pc' := 177) hz.2.1 hg dX4_goDay_176 rfl ?_
            obtain ⟨hg, hf⟩ := f_grd_x hf
            refine b_iast (pc' := 178) hz.2.1 hg dX4_goDay_177 rfl (fun h15 hz1 hfr1 => ?_)
            obtain ⟨hz1, hfr1⟩ := d_ma_z hz hz1 hfr1
            obtain ⟨M16, hf, hz⟩ := f_let_x (P := fun w => d_mod h15 w) hf hz1
            replace hfr := d_frm.tr hfr hfr1 (by omega)
            refine a_iload_n (pc' := 179) 0 dX4_goDay_178 rfl rfl rfl ?_
            cases hf
            exact a_iret hr ⟨rfl, hz, hfr⟩ dX4_goDay_179
        · replace hf := (if_neg k11).symm.trans hf
          refine a_aload_n (pc' := 73) 1 dX4_goDay_72 rfl rfl rfl ?_
          refine g_X4_7 (pc' := 76) hz.1 rfl dX4_goDay_73 rfl ?_
          refine a_bipush (pc' := 78) (v := (8 : Int32)) dX4_goDay_76 rfl (by decide) ?_
          refine a_dup2 (pc' := 79) dX4_goDay_78 rfl rfl rfl ?_
          obtain ⟨hg, hf⟩ := f_grd_x hf
          refine b_iald (pc' := 80) hz.2.1 hg dX4_goDay_79 rfl ?_
          refine a_iconst (pc' := 81) (v := (1 : Int32)) dX4_goDay_80 rfl (by decide) ?_
          refine a_isub (pc' := 82) dX4_goDay_81 rfl ?_
          obtain ⟨hg, hf⟩ := f_grd_x hf
          refine b_iast (pc' := 83) hz.2.1 hg dX4_goDay_82 rfl (fun h17 hz1 hfr1 => ?_)
          obtain ⟨hz1, hfr1⟩ := d_ma_z hz hz1 hfr1
          obtain ⟨M18, hf, hz⟩ := f_let_x (P := fun w => d_mod h17 w) hf hz1
          replace hfr := d_frm.tr hfr hfr1 (by omega)
          refine a_iconst (pc' := 84) (v := (0 : Int32)) dX4_goDay_83 rfl (by decide) ?_
          refine a_istore_n (pc' := 85) (ls' := [(3, .int ((0 : Int32))), (2, .int ((0 : Int32))), (0, .ref 55), (1, .int a1)]) dX4_goDay_84 rfl (by decide) rfl rfl ?_
          refine a_iload_n (pc' := 86) 3 dX4_goDay_85 rfl rfl rfl ?_
          refine a_iconst (pc' := 87) (v := (2 : Int32)) dX4_goDay_86 rfl (by decide) ?_
          refine a_icmp_ne (pc' := 90) 165 dX4_goDay_87 (by decide) rfl (fun k19 => ?_) (fun k19 => ?_)
          · replace hf := (if_neg k19).symm.trans hf
            refine a_aload_n (pc' := 166) 2 dX4_goDay_165 rfl rfl rfl ?_
            refine g_X4_7 (pc' := 169) hz.1 rfl dX4_goDay_166 rfl ?_
            refine a_bipush (pc' := 171) (v := (7 : Int32)) dX4_goDay_169 rfl (by decide) ?_
            refine a_aload_n (pc' := 172) 2 dX4_goDay_171 rfl rfl rfl ?_
            refine g_X4_7 (pc' := 175) hz.1 rfl dX4_goDay_172 rfl ?_
            refine a_iconst (pc' := 176) (v := (4 : Int32)) dX4_goDay_175 rfl (by decide) ?_
            obtain ⟨hg, hf⟩ := f_grd_x hf
            refine b_iald (pc' := 177) hz.2.1 hg dX4_goDay_176 rfl ?_
            obtain ⟨hg, hf⟩ := f_grd_x hf
            refine b_iast (pc' := 178) hz.2.1 hg dX4_goDay_177 rfl (fun h20 hz1 hfr1 => ?_)
            obtain ⟨hz1, hfr1⟩ := d_ma_z hz hz1 hfr1
            obtain ⟨M21, hf, hz⟩ := f_let_x (P := fun w => d_mod h20 w) hf hz1
            replace hfr := d_frm.tr hfr hfr1 (by omega)
            refine a_iload_n (pc' := 179) 0 dX4_goDay_178 rfl rfl rfl ?_
            cases hf
            exact a_iret hr ⟨rfl, hz, hfr⟩ dX4_goDay_179
          · replace hf := (if_pos k19).symm.trans hf
            refine a_iload_n (pc' := 91) 1 dX4_goDay_90 rfl rfl rfl ?_
            refine a_if_eq (pc' := 94) 165 dX4_goDay_91 (by decide) rfl (fun _ => ?_) (fun cc => absurd cc (by decide))
            refine a_aload_n (pc' := 166) 2 dX4_goDay_165 rfl rfl rfl ?_
            refine g_X4_7 (pc' := 169) hz.1 rfl dX4_goDay_166 rfl ?_
            refine a_bipush (pc' := 171) (v := (7 : Int32)) dX4_goDay_169 rfl (by decide) ?_
            refine a_aload_n (pc' := 172) 2 dX4_goDay_171 rfl rfl rfl ?_
            refine g_X4_7 (pc' := 175) hz.1 rfl dX4_goDay_172 rfl ?_
            refine a_iconst (pc' := 176) (v := (4 : Int32)) dX4_goDay_175 rfl (by decide) ?_
            obtain ⟨hg, hf⟩ := f_grd_x hf
            refine b_iald (pc' := 177) hz.2.1 hg dX4_goDay_176 rfl ?_
            obtain ⟨hg, hf⟩ := f_grd_x hf
            refine b_iast (pc' := 178) hz.2.1 hg dX4_goDay_177 rfl (fun h22 hz1 hfr1 => ?_)
            obtain ⟨hz1, hfr1⟩ := d_ma_z hz hz1 hfr1
            obtain ⟨M23, hf, hz⟩ := f_let_x (P := fun w => d_mod h22 w) hf hz1
            replace hfr := d_frm.tr hfr hfr1 (by omega)
            refine a_iload_n (pc' := 179) 0 dX4_goDay_178 rfl rfl rfl ?_
            cases hf
            exact a_iret hr ⟨rfl, hz, hfr⟩ dX4_goDay_179
    · replace hf := (if_neg k4).symm.trans hf
      refine a_iload_n (pc' := 32) 0 dX4_goDay_31 rfl rfl rfl ?_
      refine a_if_eq (pc' := 35) 58 dX4_goDay_32 (by decide) rfl (fun _ => ?_) (fun cc => absurd cc (by decide))
      refine a_iload_n (pc' := 59) 2 dX4_goDay_58 rfl rfl rfl ?_
      refine a_if_ne (pc' := 62) 83 dX4_goDay_59 (by decide) rfl (fun k24 => ?_) (fun k24 => ?_)
      · replace hf := (if_neg k24).symm.trans hf
        refine a_iconst (pc' := 84) (v := (0 : Int32)) dX4_goDay_83 rfl (by decide) ?_
        refine a_istore_n (pc' := 85) (ls' := [(3, .int ((0 : Int32))), (2, .int ((0 : Int32))), (0, .ref 55), (1, .int a1)]) dX4_goDay_84 rfl (by decide) rfl rfl ?_
        refine a_iload_n (pc' := 86) 3 dX4_goDay_85 rfl rfl rfl ?_
        refine a_iconst (pc' := 87) (v := (2 : Int32)) dX4_goDay_86 rfl (by decide) ?_
        refine a_icmp_ne (pc' := 90) 165 dX4_goDay_87 (by decide) rfl (fun k25 => ?_) (fun k25 => ?_)
        · replace hf := (if_neg k25).symm.trans hf
          refine a_aload_n (pc' := 166) 2 dX4_goDay_165 rfl rfl rfl ?_
          refine g_X4_7 (pc' := 169) hz.1 rfl dX4_goDay_166 rfl ?_
          refine a_bipush (pc' := 171) (v := (7 : Int32)) dX4_goDay_169 rfl (by decide) ?_
          refine a_aload_n (pc' := 172) 2 dX4_goDay_171 rfl rfl rfl ?_
          refine g_X4_7 (pc' := 175) hz.1 rfl dX4_goDay_172 rfl ?_
          refine a_iconst (pc' := 176) (v := (4 : Int32)) dX4_goDay_175 rfl (by decide) ?_
          obtain ⟨hg, hf⟩ := f_grd_x hf
          refine b_iald (pc' := 177) hz.2.1 hg dX4_goDay_176 rfl ?_
          obtain ⟨hg, hf⟩ := f_grd_x hf
          refine b_iast (pc' := 178) hz.2.1 hg dX4_goDay_177 rfl (fun h26 hz1 hfr1 => ?_)
          obtain ⟨hz1, hfr1⟩ := d_ma_z hz hz1 hfr1
          obtain ⟨M27, hf, hz⟩ := f_let_x (P := fun w => d_mod h26 w) hf hz1
          replace hfr := d_frm.tr hfr hfr1 (by omega)
          refine a_iload_n (pc' := 179) 0 dX4_goDay_178 rfl rfl rfl ?_
          cases hf
          exact a_iret hr ⟨rfl, hz, hfr⟩ dX4_goDay_179
        · replace hf := (if_pos k25).symm.trans hf
          refine a_iload_n (pc' := 91) 1 dX4_goDay_90 rfl rfl rfl ?_
          refine a_if_eq (pc' := 94) 165 dX4_goDay_91 (by decide) rfl (fun _ => ?_) (fun cc => absurd cc (by decide))
          refine a_aload_n (pc' := 166) 2 dX4_goDay_165 rfl rfl rfl ?_
          refine g_X4_7 (pc' := 169) hz.1 rfl dX4_goDay_166 rfl ?_
          refine a_bipush (pc' := 171) (v := (7 : Int32)) dX4_goDay_169 rfl (by decide) ?_
          refine a_aload_n (pc' := 172) 2 dX4_goDay_171 rfl rfl rfl ?_
          refine g_X4_7 (pc' := 175) hz.1 rfl dX4_goDay_172 rfl ?_
          refine a_iconst (pc' := 176) (v := (4 : Int32)) dX4_goDay_175 rfl (by decide) ?_
          obtain ⟨hg, hf⟩ := f_grd_x hf
          refine b_iald (pc' := 177) hz.2.1 hg dX4_goDay_176 rfl ?_
          obtain ⟨hg, hf⟩ := f_grd_x hf
          refine b_iast (pc' := 178) hz.2.1 hg dX4_goDay_177 rfl (fun h28 hz1 hfr1 => ?_)
          obtain ⟨hz1, hfr1⟩ := d_ma_z hz hz1 hfr1
          obtain ⟨M29, hf, hz⟩ := f_let_x (P := fun w => d_mod h28 w) hf hz1
          replace hfr := d_frm.tr hfr hfr1 (by omega)
          refine a_iload_n (pc' := 179) 0 dX4_goDay_178 rfl rfl rfl ?_
          cases hf
          exact a_iret hr ⟨rfl, hz, hfr⟩ dX4_goDay_179
      · replace hf := (if_pos k24).symm.trans hf
        refine a_aload_n (pc' := 63) 1 dX4_goDay_62 rfl rfl rfl ?_
        refine g_X4_7 (pc' := 66) hz.1 rfl dX4_goDay_63 rfl ?_
        refine a_bipush (pc' := 68) (v := (8 : Int32)) dX4_goDay_66 rfl (by decide) ?_
        obtain ⟨hg, hf⟩ := f_grd_x hf
        refine b_iald (pc' := 69) hz.2.1 hg dX4_goDay_68 rfl ?_
        refine a_if_le (pc' := 72) 83 dX4_goDay_69 (by decide) rfl (fun k30 => ?_) (fun k30 => ?_)
        · replace hf := (if_pos k30).symm.trans hf
          refine a_iconst (pc' := 84) (v := (0 : Int32)) dX4_goDay_83 rfl (by decide) ?_
          refine a_istore_n (pc' := 85) (ls' := [(3, .int ((0 : Int32))), (2, .int ((0 : Int32))), (0, .ref 55), (1, .int a1)]) dX4_goDay_84 rfl (by decide) rfl rfl ?_
          refine a_iload_n (pc' := 86) 3 dX4_goDay_85 rfl rfl rfl ?_
          refine a_iconst (pc' := 87) (v := (2 : Int32)) dX4_goDay_86 rfl (by decide) ?_
          refine a_icmp_ne (pc' := 90) 165 dX4_goDay_87 (by decide) rfl (fun k31 => ?_) (fun k31 => ?_)
          · replace hf := (if_neg k31).symm.trans hf
            refine a_aload_n (pc' := 166) 2 dX4_goDay_165 rfl rfl rfl ?_
            refine g_X4_7 (pc' := 169) hz.1 rfl dX4_goDay_166 rfl ?_
            refine a_bipush (pc' := 171) (v := (7 : Int32)) dX4_goDay_169 rfl (by decide) ?_
            refine a_aload_n (pc' := 172) 2 dX4_goDay_171 rfl rfl rfl ?_
            refine g_X4_7 (pc' := 175) hz.1 rfl dX4_goDay_172 rfl ?_
            refine a_iconst (pc' := 176) (v := (4 : Int32)) dX4_goDay_175 rfl (by decide) ?_
            obtain ⟨hg, hf⟩ := f_grd_x hf
            refine b_iald (pc' := 177) hz.2.1 hg dX4_goDay_176 rfl ?_
            obtain ⟨hg, hf⟩ := f_grd_x hf
            refine b_iast (pc' := 178) hz.2.1 hg dX4_goDay_177 rfl (fun h32 hz1 hfr1 => ?_)
            obtain ⟨hz1, hfr1⟩ := d_ma_z hz hz1 hfr1
            obtain ⟨M33, hf, hz⟩ := f_let_x (P := fun w => d_mod h32 w) hf hz1
            replace hfr := d_frm.tr hfr hfr1 (by omega)
            refine a_iload_n (pc' := 179) 0 dX4_goDay_178 rfl rfl rfl ?_
            cases hf
            exact a_iret hr ⟨rfl, hz, hfr⟩ dX4_goDay_179
          · replace hf := (if_pos k31).symm.trans hf
            refine a_iload_n (pc' := 91) 1 dX4_goDay_90 rfl rfl rfl ?_
            refine a_if_eq (pc' := 94) 165 dX4_goDay_91 (by decide) rfl (fun _ => ?_) (fun cc => absurd cc (by decide))
            refine a_aload_n (pc' := 166) 2 dX4_goDay_165 rfl rfl rfl ?_
            refine g_X4_7 (pc' := 169) hz.1 rfl dX4_goDay_166 rfl ?_
            refine a_bipush (pc' := 171) (v := (7 : Int32)) dX4_goDay_169 rfl (by decide) ?_
            refine a_aload_n (pc' := 172) 2 dX4_goDay_171 rfl rfl rfl ?_
            refine g_X4_7 (pc' := 175) hz.1 rfl dX4_goDay_172 rfl ?_
            refine a_iconst (pc' := 176) (v := (4 : Int32)) dX4_goDay_175 rfl (by decide) ?_
            obtain ⟨hg, hf⟩ := f_grd_x hf
            refine b_iald (pc' := 177) hz.2.1 hg dX4_goDay_176 rfl ?_
            obtain ⟨hg, hf⟩ := f_grd_x hf
            refine b_iast (pc' := 178) hz.2.1 hg dX4_goDay_177 rfl (fun h34 hz1 hfr1 => ?_)
            obtain ⟨hz1, hfr1⟩ := d_ma_z hz hz1 hfr1
            obtain ⟨M35, hf, hz⟩ := f_let_x (P := fun w => d_mod h34 w) hf hz1
            replace hfr := d_frm.tr hfr hfr1 (by omega)
            refine a_iload_n (pc' := 179) 0 dX4_goDay_178 rfl rfl rfl ?_
            cases hf
            exact a_iret hr ⟨rfl, hz, hfr⟩ dX4_goDay_179
        · replace hf := (if_neg k30).symm.trans hf
          refine a_aload_n (pc' := 73) 1 dX4_goDay_72 rfl rfl rfl ?_
          refine g_X4_7 (pc' := 76) hz.1 rfl dX4_goDay_73 rfl ?_
          refine a_bipush (pc' := 78) (v := (8 : Int32)) dX4_goDay_76 rfl (by decide) ?_
          refine a_dup2 (pc' := 79) dX4_goDay_78 rfl rfl rfl ?_
          obtain ⟨hg, hf⟩ := f_grd_x hf
          refine b_iald (pc' := 80) hz.2.1 hg dX4_goDay_79 rfl ?_
          refine a_iconst (pc' := 81) (v := (1 : Int32)) dX4_goDay_80 rfl (by decide) ?_
          refine a_isub (pc' := 82) dX4_goDay_81 rfl ?_
          obtain ⟨hg, hf⟩ := f_grd_x hf
          refine b_iast (pc' := 83) hz.2.1 hg dX4_goDay_82 rfl (fun h36 hz1 hfr1 => ?_)
          obtain ⟨hz1, hfr1⟩ := d_ma_z hz hz1 hfr1
          obtain ⟨M37, hf, hz⟩ := f_let_x (P := fun w => d_mod h36 w) hf hz1
          replace hfr := d_frm.tr hfr hfr1 (by omega)
          refine a_iconst (pc' := 84) (v := (0 : Int32)) dX4_goDay_83 rfl (by decide) ?_
          refine a_istore_n (pc' := 85) (ls' := [(3, .int ((0 : Int32))), (2, .int ((0 : Int32))), (0, .ref 55), (1, .int a1)]) dX4_goDay_84 rfl (by decide) rfl rfl ?_
          refine a_iload_n (pc' := 86) 3 dX4_goDay_85 rfl rfl rfl ?_
          refine a_iconst (pc' := 87) (v := (2 : Int32)) dX4_goDay_86 rfl (by decide) ?_
          refine a_icmp_ne (pc' := 90) 165 dX4_goDay_87 (by decide) rfl (fun k38 => ?_) (fun k38 => ?_)
          · replace hf := (if_neg k38).symm.trans hf
            refine a_aload_n (pc' := 166) 2 dX4_goDay_165 rfl rfl rfl ?_
            refine g_X4_7 (pc' := 169) hz.1 rfl dX4_goDay_166 rfl ?_
            refine a_bipush (pc' := 171) (v := (7 : Int32)) dX4_goDay_169 rfl (by decide) ?_
            refine a_aload_n (pc' := 172) 2 dX4_goDay_171 rfl rfl rfl ?_
            refine g_X4_7 (pc' := 175) hz.1 rfl dX4_goDay_172 rfl ?_
            refine a_iconst (pc' := 176) (v := (4 : Int32)) dX4_goDay_175 rfl (by decide) ?_
            obtain ⟨hg, hf⟩ := f_grd_x hf
            refine b_iald (pc' := 177) hz.2.1 hg dX4_goDay_176 rfl ?_
            obtain ⟨hg, hf⟩ := f_grd_x hf
            refine b_iast (pc' := 178) hz.2.1 hg dX4_goDay_177 rfl (fun h39 hz1 hfr1 => ?_)
            obtain ⟨hz1, hfr1⟩ := d_ma_z hz hz1 hfr1
            obtain ⟨M40, hf, hz⟩ := f_let_x (P := fun w => d_mod h39 w) hf hz1
            replace hfr := d_frm.tr hfr hfr1 (by omega)
            refine a_iload_n (pc' := 179) 0 dX4_goDay_178 rfl rfl rfl ?_
            cases hf
            exact a_iret hr ⟨rfl, hz, hfr⟩ dX4_goDay_179
          · replace hf := (if_pos k38).symm.trans hf
            refine a_iload_n (pc' := 91) 1 dX4_goDay_90 rfl rfl rfl ?_
            refine a_if_eq (pc' := 94) 165 dX4_goDay_91 (by decide) rfl (fun _ => ?_) (fun cc => absurd cc (by decide))
            refine a_aload_n (pc' := 166) 2 dX4_goDay_165 rfl rfl rfl ?_
            refine g_X4_7 (pc' := 169) hz.1 rfl dX4_goDay_166 rfl ?_
            refine a_bipush (pc' := 171) (v := (7 : Int32)) dX4_goDay_169 rfl (by decide) ?_
            refine a_aload_n (pc' := 172) 2 dX4_goDay_171 rfl rfl rfl ?_
            refine g_X4_7 (pc' := 175) hz.1 rfl dX4_goDay_172 rfl ?_
            refine a_iconst (pc' := 176) (v := (4 : Int32)) dX4_goDay_175 rfl (by decide) ?_
            obtain ⟨hg, hf⟩ := f_grd_x hf
            refine b_iald (pc' := 177) hz.2.1 hg dX4_goDay_176 rfl ?_
            obtain ⟨hg, hf⟩ := f_grd_x hf
            refine b_iast (pc' := 178) hz.2.1 hg dX4_goDay_177 rfl (fun h41 hz1 hfr1 => ?_)
            obtain ⟨hz1, hfr1⟩ := d_ma_z hz hz1 hfr1
            obtain ⟨M42, hf, hz⟩ := f_let_x (P := fun w => d_mod h41 w) hf hz1
            replace hfr := d_frm.tr hfr hfr1 (by omega)
            refine a_iload_n (pc' := 179) 0 dX4_goDay_178 rfl rfl rfl ?_
            cases hf
            exact a_iret hr ⟨rfl, hz, hfr⟩ dX4_goDay_179
  · replace hf := (if_pos k3).symm.trans hf
    refine a_iconst (pc' := 22) (v := (1 : Int32)) dX4_goDay_21 rfl (by decide) ?_
    refine a_goto 26 dX4_goDay_22 (by decide) ?_
    refine a_istore_n (pc' := 27) (ls' := [(2, .int ((1 : Int32))), (0, .ref 55), (1, .int a1)]) dX4_goDay_26 rfl (by decide) rfl rfl ?_
    refine a_iload_n (pc' := 28) 2 dX4_goDay_27 rfl rfl rfl ?_
    refine a_if_eq (pc' := 31) 58 dX4_goDay_28 (by decide) rfl (fun k43 => ?_) (fun k43 => ?_)
    · replace hf := (if_pos k43).symm.trans hf
      refine a_iload_n (pc' := 59) 2 dX4_goDay_58 rfl rfl rfl ?_
      refine a_if_ne (pc' := 62) 83 dX4_goDay_59 (by decide) rfl (fun k44 => ?_) (fun k44 => ?_)
      · replace hf := (if_neg k44).symm.trans hf
        refine a_iconst (pc' := 84) (v := (0 : Int32)) dX4_goDay_83 rfl (by decide) ?_
        refine a_istore_n (pc' := 85) (ls' := [(3, .int ((0 : Int32))), (2, .int ((1 : Int32))), (0, .ref 55), (1, .int a1)]) dX4_goDay_84 rfl (by decide) rfl rfl ?_
        refine a_iload_n (pc' := 86) 3 dX4_goDay_85 rfl rfl rfl ?_
        refine a_iconst (pc' := 87) (v := (2 : Int32)) dX4_goDay_86 rfl (by decide) ?_
        refine a_icmp_ne (pc' := 90) 165 dX4_goDay_87 (by decide) rfl (fun k45 => ?_) (fun k45 => ?_)
        · replace hf := (if_neg k45).symm.trans hf
          refine a_aload_n (pc' := 166) 2 dX4_goDay_165 rfl rfl rfl ?_
          refine g_X4_7 (pc' := 169) hz.1 rfl dX4_goDay_166 rfl ?_
          refine a_bipush (pc' := 171) (v := (7 : Int32)) dX4_goDay_169 rfl (by decide) ?_
          refine a_aload_n (pc' := 172) 2 dX4_goDay_171 rfl rfl rfl ?_
          refine g_X4_7 (pc' := 175) hz.1 rfl dX4_goDay_172 rfl ?_
          refine a_iconst (pc' := 176) (v := (4 : Int32)) dX4_goDay_175 rfl (by decide) ?_
          obtain ⟨hg, hf⟩ := f_grd_x hf
          refine b_iald (pc' := 177) hz.2.1 hg dX4_goDay_176 rfl ?_
          obtain ⟨hg, hf⟩ := f_grd_x hf
          refine b_iast (pc' := 178) hz.2.1 hg dX4_goDay_177 rfl (fun h46 hz1 hfr1 => ?_)
          obtain ⟨hz1, hfr1⟩ := d_ma_z hz hz1 hfr1
          obtain ⟨M47, hf, hz⟩ := f_let_x (P := fun w => d_mod h46 w) hf hz1
          replace hfr := d_frm.tr hfr hfr1 (by omega)
          refine a_iload_n (pc' := 179) 0 dX4_goDay_178 rfl rfl rfl ?_
          cases hf
          exact a_iret hr ⟨rfl, hz, hfr⟩ dX4_goDay_179
        · replace hf := (if_pos k45).symm.trans hf
          refine a_iload_n (pc' := 91) 1 dX4_goDay_90 rfl rfl rfl ?_
          refine a_if_eq (pc' := 94) 165 dX4_goDay_91 (by decide) rfl (fun cc => absurd cc (by decide)) (fun _ => ?_)
          refine a_iload_n (pc' := 95) 0 dX4_goDay_94 rfl rfl rfl ?_
          refine a_aload_n (pc' := 96) 2 dX4_goDay_95 rfl rfl rfl ?_
          refine g_X4_7 (pc' := 99) hz.1 rfl dX4_goDay_96 rfl ?_
          refine a_iconst (pc' := 100) (v := (2 : Int32)) dX4_goDay_99 rfl (by decide) ?_
          obtain ⟨hg, hf⟩ := f_grd_x hf
          refine b_iald (pc' := 101) hz.2.1 hg dX4_goDay_100 rfl ?_
          refine a_if_le (pc' := 104) 124 dX4_goDay_101 (by decide) rfl (fun k48 => ?_) (fun k48 => ?_)
          · replace hf := (if_pos k48).symm.trans hf
            refine a_iconst (pc' := 125) (v := (0 : Int32)) dX4_goDay_124 rfl (by decide) ?_
            refine a_iadd (pc' := 126) dX4_goDay_125 rfl ?_
            refine a_istore_n (pc' := 127) (ls' := [(3, .int (((0 : Int32)) + ((0 : Int32)))), (2, .int ((1 : Int32))), (0, .ref 55), (1, .int a1)]) dX4_goDay_126 rfl (by decide) rfl rfl ?_
            refine a_iload_n (pc' := 128) 0 dX4_goDay_127 rfl rfl rfl ?_
            refine a_aload_n (pc' := 129) 2 dX4_goDay_128 rfl rfl rfl ?_
            refine g_X4_7 (pc' := 132) hz.1 rfl dX4_goDay_129 rfl ?_
            refine a_iconst (pc' := 133) (v := (2 : Int32)) dX4_goDay_132 rfl (by decide) ?_
            obtain ⟨hg, hf⟩ := f_grd_x hf
            refine b_iald (pc' := 134) hz.2.1 hg dX4_goDay_133 rfl ?_
            refine a_iconst (pc' := 135) (v := (1 : Int32)) dX4_goDay_134 rfl (by decide) ?_
            refine a_icmp_le (pc' := 138) 162 dX4_goDay_135 (by decide) rfl (fun k49 => ?_) (fun k49 => ?_)
            · replace hf := (if_pos k49).symm.trans hf
              refine a_iconst (pc' := 163) (v := (0 : Int32)) dX4_goDay_162 rfl (by decide) ?_
              refine a_iadd (pc' := 164) dX4_goDay_163 rfl ?_
              refine a_istore_n (pc' := 165) (ls' := [(3, .int ((((0 : Int32)) + ((0 : Int32))) + ((0 : Int32)))), (2, .int ((1 : Int32))), (0, .ref 55), (1, .int a1)]) dX4_goDay_164 rfl (by decide) rfl rfl ?_
              refine a_aload_n (pc' := 166) 2 dX4_goDay_165 rfl rfl rfl ?_
              refine g_X4_7 (pc' := 169) hz.1 rfl dX4_goDay_166 rfl ?_
              refine a_bipush (pc' := 171) (v := (7 : Int32)) dX4_goDay_169 rfl (by decide) ?_
              refine a_aload_n (pc' := 172) 2 dX4_goDay_171 rfl rfl rfl ?_
              refine g_X4_7 (pc' := 175) hz.1 rfl dX4_goDay_172 rfl ?_
              refine a_iconst (pc' := 176) (v := (4 : Int32)) dX4_goDay_175 rfl (by decide) ?_
              obtain ⟨hg, hf⟩ := f_grd_x hf
              refine b_iald (pc' := 177) hz.2.1 hg dX4_goDay_176 rfl ?_
              obtain ⟨hg, hf⟩ := f_grd_x hf
              refine b_iast (pc' := 178) hz.2.1 hg dX4_goDay_177 rfl (fun h50 hz1 hfr1 => ?_)
              obtain ⟨hz1, hfr1⟩ := d_ma_z hz hz1 hfr1
              obtain ⟨M51, hf, hz⟩ := f_let_x (P := fun w => d_mod h50 w) hf hz1
              replace hfr := d_frm.tr hfr hfr1 (by omega)
              refine a_iload_n (pc' := 179) 0 dX4_goDay_178 rfl rfl rfl ?_
              cases hf
              exact a_iret hr ⟨rfl, hz, hfr⟩ dX4_goDay_179
            · replace hf := (if_neg k49).symm.trans hf
              refine a_aload_n (pc' := 139) 2 dX4_goDay_138 rfl rfl rfl ?_
              refine a_aload_n (pc' := 140) 2 dX4_goDay_139 rfl rfl rfl ?_
              obtain ⟨x53, e52, hf⟩ := Option.bind_eq_some_iff.mp hf
              refine k_X4_87 (pc' := 143) (c_X4_lastCourse l g F hz e52) ⟨Nat.le_of_ble_eq_true rfl, Nat.le_of_ble_eq_true rfl⟩ hz.1 (Nat.le_of_ble_eq_true rfl) dX4_goDay_140 rfl ?_
              refine a_iconst (pc' := 144) (v := (1 : Int32)) dX4_goDay_143 rfl (by decide) ?_
              refine a_isub (pc' := 145) dX4_goDay_144 rfl ?_
              refine a_aload_n (pc' := 146) 2 dX4_goDay_145 rfl rfl rfl ?_
              refine g_X4_7 (pc' := 149) hz.1 rfl dX4_goDay_146 rfl ?_
              refine a_bipush (pc' := 151) (v := (6 : Int32)) dX4_goDay_149 rfl (by decide) ?_
              obtain ⟨hg, hf⟩ := f_grd_x hf
              refine b_iald (pc' := 152) hz.2.1 hg dX4_goDay_151 rfl ?_
              refine a_iconst (pc' := 153) (v := (2 : Int32)) dX4_goDay_152 rfl (by decide) ?_
              refine a_iadd (pc' := 154) dX4_goDay_153 rfl ?_
              refine a_iconst (pc' := 155) (v := (5 : Int32)) dX4_goDay_154 rfl (by decide) ?_
              refine a_irem (pc' := 156) dX4_goDay_155 rfl (by decide) ?_
              obtain ⟨x55, e54, hf⟩ := Option.bind_eq_some_iff.mp hf
              refine k_X4_110 (pc' := 159) (c_X4_fall l g F hz e54) ⟨Nat.le_of_ble_eq_true rfl, Nat.le_of_ble_eq_true rfl⟩ hz.1 (Nat.le_of_ble_eq_true rfl) dX4_goDay_156 rfl (fun h56 hq => ?_)
              obtain ⟨hz1, hfr1⟩ := hq
              obtain ⟨M57, hf, hz⟩ := f_let_x (P := fun w => d_mod h56 w) hf hz1
              replace hfr := d_frm.tr hfr hfr1 (by omega)
              refine a_goto 163 dX4_goDay_159 (by decide) ?_
              refine a_iadd (pc' := 164) dX4_goDay_163 rfl ?_
              refine a_istore_n (pc' := 165) (ls' := [(3, .int ((((0 : Int32)) + ((0 : Int32))) + x55.1)), (2, .int ((1 : Int32))), (0, .ref 55), (1, .int a1)]) dX4_goDay_164 rfl (by decide) rfl rfl ?_
              refine a_aload_n (pc' := 166) 2 dX4_goDay_165 rfl rfl rfl ?_
              refine g_X4_7 (pc' := 169) hz.1 rfl dX4_goDay_166 rfl ?_
              refine a_bipush (pc' := 171) (v := (7 : Int32)) dX4_goDay_169 rfl (by decide) ?_
              refine a_aload_n (pc' := 172) 2 dX4_goDay_171 rfl rfl rfl ?_
              refine g_X4_7 (pc' := 175) hz.1 rfl dX4_goDay_172 rfl ?_
              refine a_iconst (pc' := 176) (v := (4 : Int32)) dX4_goDay_175 rfl (by decide) ?_
              obtain ⟨hg, hf⟩ := f_grd_x hf
              refine b_iald (pc' := 177) hz.2.1 hg dX4_goDay_176 rfl ?_
              obtain ⟨hg, hf⟩ := f_grd_x hf
              refine b_iast (pc' := 178) hz.2.1 hg dX4_goDay_177 rfl (fun h58 hz1 hfr1 => ?_)
              obtain ⟨hz1, hfr1⟩ := d_ma_z hz hz1 hfr1
              obtain ⟨M59, hf, hz⟩ := f_let_x (P := fun w => d_mod h58 w) hf hz1
              replace hfr := d_frm.tr hfr hfr1 (by omega)
              refine a_iload_n (pc' := 179) 0 dX4_goDay_178 rfl rfl rfl ?_
              cases hf
              exact a_iret hr ⟨rfl, hz, hfr⟩ dX4_goDay_179
          · replace hf := (if_neg k48).symm.trans hf
            refine a_aload_n (pc' := 105) 2 dX4_goDay_104 rfl rfl rfl ?_
            refine a_aload_n (pc' := 106) 2 dX4_goDay_105 rfl rfl rfl ?_
            obtain ⟨x61, e60, hf⟩ := Option.bind_eq_some_iff.mp hf
            refine k_X4_87 (pc' := 109) (c_X4_lastCourse l g F hz e60) ⟨Nat.le_of_ble_eq_true rfl, Nat.le_of_ble_eq_true rfl⟩ hz.1 (Nat.le_of_ble_eq_true rfl) dX4_goDay_106 rfl ?_
            refine a_aload_n (pc' := 110) 2 dX4_goDay_109 rfl rfl rfl ?_
            refine g_X4_7 (pc' := 113) hz.1 rfl dX4_goDay_110 rfl ?_
            refine a_bipush (pc' := 115) (v := (6 : Int32)) dX4_goDay_113 rfl (by decide) ?_
            obtain ⟨hg, hf⟩ := f_grd_x hf
            refine b_iald (pc' := 116) hz.2.1 hg dX4_goDay_115 rfl ?_
            refine a_iconst (pc' := 117) (v := (5 : Int32)) dX4_goDay_116 rfl (by decide) ?_
            refine a_irem (pc' := 118) dX4_goDay_117 rfl (by decide) ?_
            obtain ⟨x63, e62, hf⟩ := Option.bind_eq_some_iff.mp hf
            refine k_X4_110 (pc' := 121) (c_X4_fall l g F hz e62) ⟨Nat.le_of_ble_eq_true rfl, Nat.le_of_ble_eq_true rfl⟩ hz.1 (Nat.le_of_ble_eq_true rfl) dX4_goDay_118 rfl (fun h64 hq => ?_)
            obtain ⟨hz1, hfr1⟩ := hq
            obtain ⟨M65, hf, hz⟩ := f_let_x (P := fun w => d_mod h64 w) hf hz1
            replace hfr := d_frm.tr hfr hfr1 (by omega)
            refine a_goto 125 dX4_goDay_121 (by decide) ?_
            refine a_iadd (pc' := 126) dX4_goDay_125 rfl ?_
            refine a_istore_n (pc' := 127) (ls' := [(3, .int (((0 : Int32)) + x63.1)), (2, .int ((1 : Int32))), (0, .ref 55), (1, .int a1)]) dX4_goDay_126 rfl (by decide) rfl rfl ?_
            refine a_iload_n (pc' := 128) 0 dX4_goDay_127 rfl rfl rfl ?_
            refine a_aload_n (pc' := 129) 2 dX4_goDay_128 rfl rfl rfl ?_
            refine g_X4_7 (pc' := 132) hz.1 rfl dX4_goDay_129 rfl ?_
            refine a_iconst (pc' := 133) (v := (2 : Int32)) dX4_goDay_132 rfl (by decide) ?_
            obtain ⟨hg, hf⟩ := f_grd_x hf
            refine b_iald (pc' := 134) hz.2.1 hg dX4_goDay_133 rfl ?_
            refine a_iconst (pc' := 135) (v := (1 : Int32)) dX4_goDay_134 rfl (by decide) ?_
            refine a_icmp_le (pc' := 138) 162 dX4_goDay_135 (by decide) rfl (fun k66 => ?_) (fun k66 => ?_)
            · replace hf := (if_pos k66).symm.trans hf
              refine a_iconst (pc' := 163) (v := (0 : Int32)) dX4_goDay_162 rfl (by decide) ?_
              refine a_iadd (pc' := 164) dX4_goDay_163 rfl ?_
              refine a_istore_n (pc' := 165) (ls' := [(3, .int ((((0 : Int32)) + x63.1) + ((0 : Int32)))), (2, .int ((1 : Int32))), (0, .ref 55), (1, .int a1)]) dX4_goDay_164 rfl (by decide) rfl rfl ?_
              refine a_aload_n (pc' := 166) 2 dX4_goDay_165 rfl rfl rfl ?_
              refine g_X4_7 (pc' := 169) hz.1 rfl dX4_goDay_166 rfl ?_
              refine a_bipush (pc' := 171) (v := (7 : Int32)) dX4_goDay_169 rfl (by decide) ?_
              refine a_aload_n (pc' := 172) 2 dX4_goDay_171 rfl rfl rfl ?_
              refine g_X4_7 (pc' := 175) hz.1 rfl dX4_goDay_172 rfl ?_
              refine a_iconst (pc' := 176) (v := (4 : Int32)) dX4_goDay_175 rfl (by decide) ?_
              obtain ⟨hg, hf⟩ := f_grd_x hf
              refine b_iald (pc' := 177) hz.2.1 hg dX4_goDay_176 rfl ?_
              obtain ⟨hg, hf⟩ := f_grd_x hf
              refine b_iast (pc' := 178) hz.2.1 hg dX4_goDay_177 rfl (fun h67 hz1 hfr1 => ?_)
              obtain ⟨hz1, hfr1⟩ := d_ma_z hz hz1 hfr1
              obtain ⟨M68, hf, hz⟩ := f_let_x (P := fun w => d_mod h67 w) hf hz1
              replace hfr := d_frm.tr hfr hfr1 (by omega)
              refine a_iload_n (pc' := 179) 0 dX4_goDay_178 rfl rfl rfl ?_
              cases hf
              exact a_iret hr ⟨rfl, hz, hfr⟩ dX4_goDay_179
            · replace hf := (if_neg k66).symm.trans hf
              refine a_aload_n (pc' := 139) 2 dX4_goDay_138 rfl rfl rfl ?_
              refine a_aload_n (pc' := 140) 2 dX4_goDay_139 rfl rfl rfl ?_
              obtain ⟨x70, e69, hf⟩ := Option.bind_eq_some_iff.mp hf
              refine k_X4_87 (pc' := 143) (c_X4_lastCourse l g F hz e69) ⟨Nat.le_of_ble_eq_true rfl, Nat.le_of_ble_eq_true rfl⟩ hz.1 (Nat.le_of_ble_eq_true rfl) dX4_goDay_140 rfl ?_
              refine a_iconst (pc' := 144) (v := (1 : Int32)) dX4_goDay_143 rfl (by decide) ?_
              refine a_isub (pc' := 145) dX4_goDay_144 rfl ?_
              refine a_aload_n (pc' := 146) 2 dX4_goDay_145 rfl rfl rfl ?_
              refine g_X4_7 (pc' := 149) hz.1 rfl dX4_goDay_146 rfl ?_
              refine a_bipush (pc' := 151) (v := (6 : Int32)) dX4_goDay_149 rfl (by decide) ?_
              obtain ⟨hg, hf⟩ := f_grd_x hf
              refine b_iald (pc' := 152) hz.2.1 hg dX4_goDay_151 rfl ?_
              refine a_iconst (pc' := 153) (v := (2 : Int32)) dX4_goDay_152 rfl (by decide) ?_
              refine a_iadd (pc' := 154) dX4_goDay_153 rfl ?_
              refine a_iconst (pc' := 155) (v := (5 : Int32)) dX4_goDay_154 rfl (by decide) ?_
              refine a_irem (pc' := 156) dX4_goDay_155 rfl (by decide) ?_
              obtain ⟨x72, e71, hf⟩ := Option.bind_eq_some_iff.mp hf
              refine k_X4_110 (pc' := 159) (c_X4_fall l g F hz e71) ⟨Nat.le_of_ble_eq_true rfl, Nat.le_of_ble_eq_true rfl⟩ hz.1 (Nat.le_of_ble_eq_true rfl) dX4_goDay_156 rfl (fun h73 hq => ?_)
              obtain ⟨hz1, hfr1⟩ := hq
              obtain ⟨M74, hf, hz⟩ := f_let_x (P := fun w => d_mod h73 w) hf hz1
              replace hfr := d_frm.tr hfr hfr1 (by omega)
              refine a_goto 163 dX4_goDay_159 (by decide) ?_
              refine a_iadd (pc' := 164) dX4_goDay_163 rfl ?_
              refine a_istore_n (pc' := 165) (ls' := [(3, .int ((((0 : Int32)) + x63.1) + x72.1)), (2, .int ((1 : Int32))), (0, .ref 55), (1, .int a1)]) dX4_goDay_164 rfl (by decide) rfl rfl ?_
              refine a_aload_n (pc' := 166) 2 dX4_goDay_165 rfl rfl rfl ?_
              refine g_X4_7 (pc' := 169) hz.1 rfl dX4_goDay_166 rfl ?_
              refine a_bipush (pc' := 171) (v := (7 : Int32)) dX4_goDay_169 rfl (by decide) ?_
              refine a_aload_n (pc' := 172) 2 dX4_goDay_171 rfl rfl rfl ?_
              refine g_X4_7 (pc' := 175) hz.1 rfl dX4_goDay_172 rfl ?_
              refine a_iconst (pc' := 176) (v := (4 : Int32)) dX4_goDay_175 rfl (by decide) ?_
              obtain ⟨hg, hf⟩ := f_grd_x hf
              refine b_iald (pc' := 177) hz.2.1 hg dX4_goDay_176 rfl ?_
              obtain ⟨hg, hf⟩ := f_grd_x hf
              refine b_iast (pc' := 178) hz.2.1 hg dX4_goDay_177 rfl (fun h75 hz1 hfr1 => ?_)
              obtain ⟨hz1, hfr1⟩ := d_ma_z hz hz1 hfr1
              obtain ⟨M76, hf, hz⟩ := f_let_x (P := fun w => d_mod h75 w) hf hz1
              replace hfr := d_frm.tr hfr hfr1 (by omega)
              refine a_iload_n (pc' := 179) 0 dX4_goDay_178 rfl rfl rfl ?_
              cases hf
              exact a_iret hr ⟨rfl, hz, hfr⟩ dX4_goDay_179
      · replace hf := (if_pos k44).symm.trans hf
        refine a_aload_n (pc' := 63) 1 dX4_goDay_62 rfl rfl rfl ?_
        refine g_X4_7 (pc' := 66) hz.1 rfl dX4_goDay_63 rfl ?_
        refine a_bipush (pc' := 68) (v := (8 : Int32)) dX4_goDay_66 rfl (by decide) ?_
        obtain ⟨hg, hf⟩ := f_grd_x hf
        refine b_iald (pc' := 69) hz.2.1 hg dX4_goDay_68 rfl ?_
        refine a_if_le (pc' := 72) 83 dX4_goDay_69 (by decide) rfl (fun k77 => ?_) (fun k77 => ?_)
        · replace hf := (if_pos k77).symm.trans hf
          refine a_iconst (pc' := 84) (v := (0 : Int32)) dX4_goDay_83 rfl (by decide) ?_
          refine a_istore_n (pc' := 85) (ls' := [(3, .int ((0 : Int32))), (2, .int ((1 : Int32))), (0, .ref 55), (1, .int a1)]) dX4_goDay_84 rfl (by decide) rfl rfl ?_
          refine a_iload_n (pc' := 86) 3 dX4_goDay_85 rfl rfl rfl ?_
          refine a_iconst (pc' := 87) (v := (2 : Int32)) dX4_goDay_86 rfl (by decide) ?_
          refine a_icmp_ne (pc' := 90) 165 dX4_goDay_87 (by decide) rfl (fun k78 => ?_) (fun k78 => ?_)
          · replace hf := (if_neg k78).symm.trans hf
            refine a_aload_n (pc' := 166) 2 dX4_goDay_165 rfl rfl rfl ?_
            refine g_X4_7 (pc' := 169) hz.1 rfl dX4_goDay_166 rfl ?_
            refine a_bipush (pc' := 171) (v := (7 : Int32)) dX4_goDay_169 rfl (by decide) ?_
            refine a_aload_n (pc' := 172) 2 dX4_goDay_171 rfl rfl rfl ?_
            refine g_X4_7 (pc' := 175) hz.1 rfl dX4_goDay_172 rfl ?_
            refine a_iconst (pc' := 176) (v := (4 : Int32)) dX4_goDay_175 rfl (by decide) ?_
            obtain ⟨hg, hf⟩ := f_grd_x hf
            refine b_iald (pc' := 177) hz.2.1 hg dX4_goDay_176 rfl ?_
            obtain ⟨hg, hf⟩ := f_grd_x hf
            refine b_iast (pc' := 178) hz.2.1 hg dX4_goDay_177 rfl (fun h79 hz1 hfr1 => ?_)
            obtain ⟨hz1, hfr1⟩ := d_ma_z hz hz1 hfr1
            obtain ⟨M80, hf, hz⟩ := f_let_x (P := fun w => d_mod h79 w) hf hz1
            replace hfr := d_frm.tr hfr hfr1 (by omega)
            refine a_iload_n (pc' := 179) 0 dX4_goDay_178 rfl rfl rfl ?_
            cases hf
            exact a_iret hr ⟨rfl, hz, hfr⟩ dX4_goDay_179
          · replace hf := (if_pos k78).symm.trans hf
            refine a_iload_n (pc' := 91) 1 dX4_goDay_90 rfl rfl rfl ?_
            refine a_if_eq (pc' := 94) 165 dX4_goDay_91 (by decide) rfl (fun cc => absurd cc (by decide)) (fun _ => ?_)
            refine a_iload_n (pc' := 95) 0 dX4_goDay_94 rfl rfl rfl ?_
            refine a_aload_n (pc' := 96) 2 dX4_goDay_95 rfl rfl rfl ?_
            refine g_X4_7 (pc' := 99) hz.1 rfl dX4_goDay_96 rfl ?_
            refine a_iconst (pc' := 100) (v := (2 : Int32)) dX4_goDay_99 rfl (by decide) ?_
            obtain ⟨hg, hf⟩ := f_grd_x hf
            refine b_iald (pc' := 101) hz.2.1 hg dX4_goDay_100 rfl ?_
            refine a_if_le (pc' := 104) 124 dX4_goDay_101 (by decide) rfl (fun k81 => ?_) (fun k81 => ?_)
            · replace hf := (if_pos k81).symm.trans hf
              refine a_iconst (pc' := 125) (v := (0 : Int32)) dX4_goDay_124 rfl (by decide) ?_
              refine a_iadd (pc' := 126) dX4_goDay_125 rfl ?_
              refine a_istore_n (pc' := 127) (ls' := [(3, .int (((0 : Int32)) + ((0 : Int32)))), (2, .int ((1 : Int32))), (0, .ref 55), (1, .int a1)]) dX4_goDay_126 rfl (by decide) rfl rfl ?_
              refine a_iload_n (pc' := 128) 0 dX4_goDay_127 rfl rfl rfl ?_
              refine a_aload_n (pc' := 129) 2 dX4_goDay_128 rfl rfl rfl ?_
              refine g_X4_7 (pc' := 132) hz.1 rfl dX4_goDay_129 rfl ?_
              refine a_iconst (pc' := 133) (v := (2 : Int32)) dX4_goDay_132 rfl (by decide) ?_
              obtain ⟨hg, hf⟩ := f_grd_x hf
              refine b_iald (pc' := 134) hz.2.1 hg dX4_goDay_133 rfl ?_
              refine a_iconst (pc' := 135) (v := (1 : Int32)) dX4_goDay_134 rfl (by decide) ?_
              refine a_icmp_le (pc' := 138) 162 dX4_goDay_135 (by decide) rfl (fun k82 => ?_) (fun k82 => ?_)
              · replace hf := (if_pos k82).symm.trans hf
                refine a_iconst (pc' := 163) (v := (0 : Int32)) dX4_goDay_162 rfl (by decide) ?_
                refine a_iadd (pc' := 164) dX4_goDay_163 rfl ?_
                refine a_istore_n (pc' := 165) (ls' := [(3, .int ((((0 : Int32)) + ((0 : Int32))) + ((0 : Int32)))), (2, .int ((1 : Int32))), (0, .ref 55), (1, .int a1)]) dX4_goDay_164 rfl (by decide) rfl rfl ?_
                refine a_aload_n (pc' := 166) 2 dX4_goDay_165 rfl rfl rfl ?_
                refine g_X4_7 (pc' := 169) hz.1 rfl dX4_goDay_166 rfl ?_
                refine a_bipush (pc' := 171) (v := (7 : Int32)) dX4_goDay_169 rfl (by decide) ?_
                refine a_aload_n (pc' := 172) 2 dX4_goDay_171 rfl rfl rfl ?_
                refine g_X4_7 (pc' := 175) hz.1 rfl dX4_goDay_172 rfl ?_
                refine a_iconst (pc' := 176) (v := (4 : Int32)) dX4_goDay_175 rfl (by decide) ?_
                obtain ⟨hg, hf⟩ := f_grd_x hf
                refine b_iald (pc' := 177) hz.2.1 hg dX4_goDay_176 rfl ?_
                obtain ⟨hg, hf⟩ := f_grd_x hf
                refine b_iast (pc' := 178) hz.2.1 hg dX4_goDay_177 rfl (fun h83 hz1 hfr1 => ?_)
                obtain ⟨hz1, hfr1⟩ := d_ma_z hz hz1 hfr1
                obtain ⟨M84, hf, hz⟩ := f_let_x (P := fun w => d_mod h83 w) hf hz1
                replace hfr := d_frm.tr hfr hfr1 (by omega)
                refine a_iload_n (pc' := 179) 0 dX4_goDay_178 rfl rfl rfl ?_
                cases hf
                exact a_iret hr ⟨rfl, hz, hfr⟩ dX4_goDay_179
              · replace hf := (if_neg k82).symm.trans hf
                refine a_aload_n (pc' := 139) 2 dX4_goDay_138 rfl rfl rfl ?_
                refine a_aload_n (pc' := 140) 2 dX4_goDay_139 rfl rfl rfl ?_
                obtain ⟨x86, e85, hf⟩ := Option.bind_eq_some_iff.mp hf
                refine k_X4_87 (pc' := 143) (c_X4_lastCourse l g F hz e85) ⟨Nat.le_of_ble_eq_true rfl, Nat.le_of_ble_eq_true rfl⟩ hz.1 (Nat.le_of_ble_eq_true rfl) dX4_goDay_140 rfl ?_
                refine a_iconst (pc' := 144) (v := (1 : Int32)) dX4_goDay_143 rfl (by decide) ?_
                refine a_isub (pc' := 145) dX4_goDay_144 rfl ?_
                refine a_aload_n (pc' := 146) 2 dX4_goDay_145 rfl rfl rfl ?_
                refine g_X4_7 (pc' := 149) hz.1 rfl dX4_goDay_146 rfl ?_
                refine a_bipush (pc' := 151) (v := (6 : Int32)) dX4_goDay_149 rfl (by decide) ?_
                obtain ⟨hg, hf⟩ := f_grd_x hf
                refine b_iald (pc' := 152) hz.2.1 hg dX4_goDay_151 rfl ?_
                refine a_iconst (pc' := 153) (v := (2 : Int32)) dX4_goDay_152 rfl (by decide) ?_
                refine a_iadd (pc' := 154) dX4_goDay_153 rfl ?_
                refine a_iconst (pc' := 155) (v := (5 : Int32)) dX4_goDay_154 rfl (by decide) ?_
                refine a_irem (pc' := 156) dX4_goDay_155 rfl (by decide) ?_
                obtain ⟨x88, e87, hf⟩ := Option.bind_eq_some_iff.mp hf
                refine k_X4_110 (pc' := 159) (c_X4_fall l g F hz e87) ⟨Nat.le_of_ble_eq_true rfl, Nat.le_of_ble_eq_true rfl⟩ hz.1 (Nat.le_of_ble_eq_true rfl) dX4_goDay_156 rfl (fun h89 hq => ?_)
                obtain ⟨hz1, hfr1⟩ := hq
                obtain ⟨M90, hf, hz⟩ := f_let_x (P := fun w => d_mod h89 w) hf hz1
                replace hfr := d_frm.tr hfr hfr1 (by omega)
                refine a_goto 163 dX4_goDay_159 (by decide) ?_
                refine a_iadd (pc' := 164) dX4_goDay_163 rfl ?_
                refine a_istore_n (pc' := 165) (ls' := [(3, .int ((((0 : Int32)) + ((0 : Int32))) + x88.1)), (2, .int ((1 : Int32))), (0, .ref 55), (1, .int a1)]) dX4_goDay_164 rfl (by decide) rfl rfl ?_
                refine a_aload_n (pc' := 166) 2 dX4_goDay_165 rfl rfl rfl ?_
                refine g_X4_7 (pc' := 169) hz.1 rfl dX4_goDay_166 rfl ?_
                refine a_bipush (pc' := 171) (v := (7 : Int32)) dX4_goDay_169 rfl (by decide) ?_
                refine a_aload_n (pc' := 172) 2 dX4_goDay_171 rfl rfl rfl ?_
                refine g_X4_7 (pc' := 175) hz.1 rfl dX4_goDay_172 rfl ?_
                refine a_iconst (pc' := 176) (v := (4 : Int32)) dX4_goDay_175 rfl (by decide) ?_
                obtain ⟨hg, hf⟩ := f_grd_x hf
                refine b_iald (pc' := 177) hz.2.1 hg dX4_goDay_176 rfl ?_
                obtain ⟨hg, hf⟩ := f_grd_x hf
                refine b_iast (pc' := 178) hz.2.1 hg dX4_goDay_177 rfl (fun h91 hz1 hfr1 => ?_)
                obtain ⟨hz1, hfr1⟩ := d_ma_z hz hz1 hfr1
                obtain ⟨M92, hf, hz⟩ := f_let_x (P := fun w => d_mod h91 w) hf hz1
                replace hfr := d_frm.tr hfr hfr1 (by omega)
                refine a_iload_n (pc' := 179) 0 dX4_goDay_178 rfl rfl rfl ?_
                cases hf
                exact a_iret hr ⟨rfl, hz, hfr⟩ dX4_goDay_179
            · replace hf := (if_neg k81).symm.trans hf
              refine a_aload_n (pc' := 105) 2 dX4_goDay_104 rfl rfl rfl ?_
              refine a_aload_n (pc' := 106) 2 dX4_goDay_105 rfl rfl rfl ?_
              obtain ⟨x94, e93, hf⟩ := Option.bind_eq_some_iff.mp hf
              refine k_X4_87 (pc' := 109) (c_X4_lastCourse l g F hz e93) ⟨Nat.le_of_ble_eq_true rfl, Nat.le_of_ble_eq_true rfl⟩ hz.1 (Nat.le_of_ble_eq_true rfl) dX4_goDay_106 rfl ?_
              refine a_aload_n (pc' := 110) 2 dX4_goDay_109 rfl rfl rfl ?_
              refine g_X4_7 (pc' := 113) hz.1 rfl dX4_goDay_110 rfl ?_
              refine a_bipush (pc' := 115) (v := (6 : Int32)) dX4_goDay_113 rfl (by decide) ?_
              obtain ⟨hg, hf⟩ := f_grd_x hf
              refine b_iald (pc' := 116) hz.2.1 hg dX4_goDay_115 rfl ?_
              refine a_iconst (pc' := 117) (v := (5 : Int32)) dX4_goDay_116 rfl (by decide) ?_
              refine a_irem (pc' := 118) dX4_goDay_117 rfl (by decide) ?_
              obtain ⟨x96, e95, hf⟩ := Option.bind_eq_some_iff.mp hf
              refine k_X4_110 (pc' := 121) (c_X4_fall l g F hz e95) ⟨Nat.le_of_ble_eq_true rfl, Nat.le_of_ble_eq_true rfl⟩ hz.1 (Nat.le_of_ble_eq_true rfl) dX4_goDay_118 rfl (fun h97 hq => ?_)
              obtain ⟨hz1, hfr1⟩ := hq
              obtain ⟨M98, hf, hz⟩ := f_let_x (P := fun w => d_mod h97 w) hf hz1
              replace hfr := d_frm.tr hfr hfr1 (by omega)
              refine a_goto 125 dX4_goDay_121 (by decide) ?_
              refine a_iadd (pc' := 126) dX4_goDay_125 rfl ?_
              refine a_istore_n (pc' := 127) (ls' := [(3, .int (((0 : Int32)) + x96.1)), (2, .int ((1 : Int32))), (0, .ref 55), (1, .int a1)]) dX4_goDay_126 rfl (by decide) rfl rfl ?_
              refine a_iload_n (pc' := 128) 0 dX4_goDay_127 rfl rfl rfl ?_
              refine a_aload_n (pc' := 129) 2 dX4_goDay_128 rfl rfl rfl ?_
              refine g_X4_7 (pc' := 132) hz.1 rfl dX4_goDay_129 rfl ?_
              refine a_iconst (pc' := 133) (v := (2 : Int32)) dX4_goDay_132 rfl (by decide) ?_
              obtain ⟨hg, hf⟩ := f_grd_x hf
              refine b_iald (pc' := 134) hz.2.1 hg dX4_goDay_133 rfl ?_
              refine a_iconst (pc' := 135) (v := (1 : Int32)) dX4_goDay_134 rfl (by decide) ?_
              refine a_icmp_le (pc' := 138) 162 dX4_goDay_135 (by decide) rfl (fun k99 => ?_) (fun k99 => ?_)
              · replace hf := (if_pos k99).symm.trans hf
                refine a_iconst (pc' := 163) (v := (0 : Int32)) dX4_goDay_162 rfl (by decide) ?_
                refine a_iadd (pc' := 164) dX4_goDay_163 rfl ?_
                refine a_istore_n (pc' := 165) (ls' := [(3, .int ((((0 : Int32)) + x96.1) + ((0 : Int32)))), (2, .int ((1 : Int32))), (0, .ref 55), (1, .int a1)]) dX4_goDay_164 rfl (by decide) rfl rfl ?_
                refine a_aload_n (pc' := 166) 2 dX4_goDay_165 rfl rfl rfl ?_
                refine g_X4_7 (pc' := 169) hz.1 rfl dX4_goDay_166 rfl ?_
                refine a_bipush (pc' := 171) (v := (7 : Int32)) dX4_goDay_169 rfl (by decide) ?_
                refine a_aload_n (pc' := 172) 2 dX4_goDay_171 rfl rfl rfl ?_
                refine g_X4_7 (pc' := 175) hz.1 rfl dX4_goDay_172 rfl ?_
                refine a_iconst (pc' := 176) (v := (4 : Int32)) dX4_goDay_175 rfl (by decide) ?_
                obtain ⟨hg, hf⟩ := f_grd_x hf
                refine b_iald (pc' := 177) hz.2.1 hg dX4_goDay_176 rfl ?_
                obtain ⟨hg, hf⟩ := f_grd_x hf
                refine b_iast (pc' := 178) hz.2.1 hg dX4_goDay_177 rfl (fun h100 hz1 hfr1 => ?_)
                obtain ⟨hz1, hfr1⟩ := d_ma_z hz hz1 hfr1
                obtain ⟨M101, hf, hz⟩ := f_let_x (P := fun w => d_mod h100 w) hf hz1
                replace hfr := d_frm.tr hfr hfr1 (by omega)
                refine a_iload_n (pc' := 179) 0 dX4_goDay_178 rfl rfl rfl ?_
                cases hf
                exact a_iret hr ⟨rfl, hz, hfr⟩ dX4_goDay_179
              · replace hf := (if_neg k99).symm.trans hf
                refine a_aload_n (pc' := 139) 2 dX4_goDay_138 rfl rfl rfl ?_
                refine a_aload_n (pc' := 140) 2 dX4_goDay_139 rfl rfl rfl ?_
                obtain ⟨x103, e102, hf⟩ := Option.bind_eq_some_iff.mp hf
                refine k_X4_87 (pc' := 143) (c_X4_lastCourse l g F hz e102) ⟨Nat.le_of_ble_eq_true rfl, Nat.le_of_ble_eq_true rfl⟩ hz.1 (Nat.le_of_ble_eq_true rfl) dX4_goDay_140 rfl ?_
                refine a_iconst (pc' := 144) (v := (1 : Int32)) dX4_goDay_143 rfl (by decide) ?_
                refine a_isub (pc' := 145) dX4_goDay_144 rfl ?_
                refine a_aload_n (pc' := 146) 2 dX4_goDay_145 rfl rfl rfl ?_
                refine g_X4_7 (pc' := 149) hz.1 rfl dX4_goDay_146 rfl ?_
                refine a_bipush (pc' := 151) (v := (6 : Int32)) dX4_goDay_149 rfl (by decide) ?_
                obtain ⟨hg, hf⟩ := f_grd_x hf
                refine b_iald (pc' := 152) hz.2.1 hg dX4_goDay_151 rfl ?_
                refine a_iconst (pc' := 153) (v := (2 : Int32)) dX4_goDay_152 rfl (by decide) ?_
                refine a_iadd (pc' := 154) dX4_goDay_153 rfl ?_
                refine a_iconst (pc' := 155) (v := (5 : Int32)) dX4_goDay_154 rfl (by decide) ?_
                refine a_irem (pc' := 156) dX4_goDay_155 rfl (by decide) ?_
                obtain ⟨x105, e104, hf⟩ := Option.bind_eq_some_iff.mp hf
                refine k_X4_110 (pc' := 159) (c_X4_fall l g F hz e104) ⟨Nat.le_of_ble_eq_true rfl, Nat.le_of_ble_eq_true rfl⟩ hz.1 (Nat.le_of_ble_eq_true rfl) dX4_goDay_156 rfl (fun h106 hq => ?_)
                obtain ⟨hz1, hfr1⟩ := hq
                obtain ⟨M107, hf, hz⟩ := f_let_x (P := fun w => d_mod h106 w) hf hz1
                replace hfr := d_frm.tr hfr hfr1 (by omega)
                refine a_goto 163 dX4_goDay_159 (by decide) ?_
                refine a_iadd (pc' := 164) dX4_goDay_163 rfl ?_
                refine a_istore_n (pc' := 165) (ls' := [(3, .int ((((0 : Int32)) + x96.1) + x105.1)), (2, .int ((1 : Int32))), (0, .ref 55), (1, .int a1)]) dX4_goDay_164 rfl (by decide) rfl rfl ?_
                refine a_aload_n (pc' := 166) 2 dX4_goDay_165 rfl rfl rfl ?_
                refine g_X4_7 (pc' := 169) hz.1 rfl dX4_goDay_166 rfl ?_
                refine a_bipush (pc' := 171) (v := (7 : Int32)) dX4_goDay_169 rfl (by decide) ?_
                refine a_aload_n (pc' := 172) 2 dX4_goDay_171 rfl rfl rfl ?_
                refine g_X4_7 (pc' := 175) hz.1 rfl dX4_goDay_172 rfl ?_
                refine a_iconst (pc' := 176) (v := (4 : Int32)) dX4_goDay_175 rfl (by decide) ?_
                obtain ⟨hg, hf⟩ := f_grd_x hf
                refine b_iald (pc' := 177) hz.2.1 hg dX4_goDay_176 rfl ?_
                obtain ⟨hg, hf⟩ := f_grd_x hf
                refine b_iast (pc' := 178) hz.2.1 hg dX4_goDay_177 rfl (fun h108 hz1 hfr1 => ?_)
                obtain ⟨hz1, hfr1⟩ := d_ma_z hz hz1 hfr1
                obtain ⟨M109, hf, hz⟩ := f_let_x (P := fun w => d_mod h108 w) hf hz1
                replace hfr := d_frm.tr hfr hfr1 (by omega)
                refine a_iload_n (pc' := 179) 0 dX4_goDay_178 rfl rfl rfl ?_
                cases hf
                exact a_iret hr ⟨rfl, hz, hfr⟩ dX4_goDay_179
        · replace hf := (if_neg k77).symm.trans hf
          refine a_aload_n (pc' := 73) 1 dX4_goDay_72 rfl rfl rfl ?_
          refine g_X4_7 (pc' := 76) hz.1 rfl dX4_goDay_73 rfl ?_
          refine a_bipush (pc' := 78) (v := (8 : Int32)) dX4_goDay_76 rfl (by decide) ?_
          refine a_dup2 (pc' := 79) dX4_goDay_78 rfl rfl rfl ?_
          obtain ⟨hg, hf⟩ := f_grd_x hf
          refine b_iald (pc' := 80) hz.2.1 hg dX4_goDay_79 rfl ?_
          refine a_iconst (pc' := 81) (v := (1 : Int32)) dX4_goDay_80 rfl (by decide) ?_
          refine a_isub (pc' := 82) dX4_goDay_81 rfl ?_
          obtain ⟨hg, hf⟩ := f_grd_x hf
          refine b_iast (pc' := 83) hz.2.1 hg dX4_goDay_82 rfl (fun h110 hz1 hfr1 => ?_)
          obtain ⟨hz1, hfr1⟩ := d_ma_z hz hz1 hfr1
          obtain ⟨M111, hf, hz⟩ := f_let_x (P := fun w => d_mod h110 w) hf hz1
          replace hfr := d_frm.tr hfr hfr1 (by omega)
          refine a_iconst (pc' := 84) (v := (0 : Int32)) dX4_goDay_83 rfl (by decide) ?_
          refine a_istore_n (pc' := 85) (ls' := [(3, .int ((0 : Int32))), (2, .int ((1 : Int32))), (0, .ref 55), (1, .int a1)]) dX4_goDay_84 rfl (by decide) rfl rfl ?_
          refine a_iload_n (pc' := 86) 3 dX4_goDay_85 rfl rfl rfl ?_
          refine a_iconst (pc' := 87) (v := (2 : Int32)) dX4_goDay_86 rfl (by decide) ?_
          refine a_icmp_ne (pc' := 90) 165 dX4_goDay_87 (by decide) rfl (fun k112 => ?_) (fun k112 => ?_)
          · replace hf := (if_neg k112).symm.trans hf
            refine a_aload_n (pc' := 166) 2 dX4_goDay_165 rfl rfl rfl ?_
            refine g_X4_7 (pc' := 169) hz.1 rfl dX4_goDay_166 rfl ?_
            refine a_bipush (pc' := 171) (v := (7 : Int32)) dX4_goDay_169 rfl (by decide) ?_
            refine a_aload_n (pc' := 172) 2 dX4_goDay_171 rfl rfl rfl ?_
            refine g_X4_7 (pc' := 175) hz.1 rfl dX4_goDay_172 rfl ?_
            refine a_iconst (pc' := 176) (v := (4 : Int32)) dX4_goDay_175 rfl (by decide) ?_
            obtain ⟨hg, hf⟩ := f_grd_x hf
            refine b_iald (pc' := 177) hz.2.1 hg dX4_goDay_176 rfl ?_
            obtain ⟨hg, hf⟩ := f_grd_x hf
            refine b_iast (pc' := 178) hz.2.1 hg dX4_goDay_177 rfl (fun h113 hz1 hfr1 => ?_)
            obtain ⟨hz1, hfr1⟩ := d_ma_z hz hz1 hfr1
            obtain ⟨M114, hf, hz⟩ := f_let_x (P := fun w => d_mod h113 w) hf hz1
            replace hfr := d_frm.tr hfr hfr1 (by omega)
            refine a_iload_n (pc' := 179) 0 dX4_goDay_178 rfl rfl rfl ?_
            cases hf
            exact a_iret hr ⟨rfl, hz, hfr⟩ dX4_goDay_179
          · replace hf := (if_pos k112).symm.trans hf
            refine a_iload_n (pc' := 91) 1 dX4_goDay_90 rfl rfl rfl ?_
            refine a_if_eq (pc' := 94) 165 dX4_goDay_91 (by decide) rfl (fun cc => absurd cc (by decide)) (fun _ => ?_)
            refine a_iload_n (pc' := 95) 0 dX4_goDay_94 rfl rfl rfl ?_
            refine a_aload_n (pc' := 96) 2 dX4_goDay_95 rfl rfl rfl ?_
            refine g_X4_7 (pc' := 99) hz.1 rfl dX4_goDay_96 rfl ?_
            refine a_iconst (pc' := 100) (v := (2 : Int32)) dX4_goDay_99 rfl (by decide) ?_
            obtain ⟨hg, hf⟩ := f_grd_x hf
            refine b_iald (pc' := 101) hz.2.1 hg dX4_goDay_100 rfl ?_
            refine a_if_le (pc' := 104) 124 dX4_goDay_101 (by decide) rfl (fun k115 => ?_) (fun k115 => ?_)
            · replace hf := (if_pos k115).symm.trans hf
              refine a_iconst (pc' := 125) (v := (0 : Int32)) dX4_goDay_124 rfl (by decide) ?_
              refine a_iadd (pc' := 126) dX4_goDay_125 rfl ?_
              refine a_istore_n (pc' := 127) (ls' := [(3, .int (((0 : Int32)) + ((0 : Int32)))), (2, .int ((1 : Int32))), (0, .ref 55), (1, .int a1)]) dX4_goDay_126 rfl (by decide) rfl rfl ?_
              refine a_iload_n (pc' := 128) 0 dX4_goDay_127 rfl rfl rfl ?_
              refine a_aload_n (pc' := 129) 2 dX4_goDay_128 rfl rfl rfl ?_
              refine g_X4_7 (pc' := 132) hz.1 rfl dX4_goDay_129 rfl ?_
              refine a_iconst (pc' := 133) (v := (2 : Int32)) dX4_goDay_132 rfl (by decide) ?_
              obtain ⟨hg, hf⟩ := f_grd_x hf
              refine b_iald (pc' := 134) hz.2.1 hg dX4_goDay_133 rfl ?_
              refine a_iconst (pc' := 135) (v := (1 : Int32)) dX4_goDay_134 rfl (by decide) ?_
              refine a_icmp_le (pc' := 138) 162 dX4_goDay_135 (by decide) rfl (fun k116 => ?_) (fun k116 => ?_)
              · replace hf := (if_pos k116).symm.trans hf
                refine a_iconst (pc' := 163) (v := (0 : Int32)) dX4_goDay_162 rfl (by decide) ?_
                refine a_iadd (pc' := 164) dX4_goDay_163 rfl ?_
                refine a_istore_n (pc' := 165) (ls' := [(3, .int ((((0 : Int32)) + ((0 : Int32))) + ((0 : Int32)))), (2, .int ((1 : Int32))), (0, .ref 55), (1, .int a1)]) dX4_goDay_164 rfl (by decide) rfl rfl ?_
                refine a_aload_n (pc' := 166) 2 dX4_goDay_165 rfl rfl rfl ?_
                refine g_X4_7 (pc' := 169) hz.1 rfl dX4_goDay_166 rfl ?_
                refine a_bipush (pc' := 171) (v := (7 : Int32)) dX4_goDay_169 rfl (by decide) ?_
                refine a_aload_n (pc' := 172) 2 dX4_goDay_171 rfl rfl rfl ?_
                refine g_X4_7 (pc' := 175) hz.1 rfl dX4_goDay_172 rfl ?_
                refine a_iconst (pc' := 176) (v := (4 : Int32)) dX4_goDay_175 rfl (by decide) ?_
                obtain ⟨hg, hf⟩ := f_grd_x hf
                refine b_iald (pc' := 177) hz.2.1 hg dX4_goDay_176 rfl ?_
                obtain ⟨hg, hf⟩ := f_grd_x hf
                refine b_iast (pc' := 178) hz.2.1 hg dX4_goDay_177 rfl (fun h117 hz1 hfr1 => ?_)
                obtain ⟨hz1, hfr1⟩ := d_ma_z hz hz1 hfr1
                obtain ⟨M118, hf, hz⟩ := f_let_x (P := fun w => d_mod h117 w) hf hz1
                replace hfr := d_frm.tr hfr hfr1 (by omega)
                refine a_iload_n (pc' := 179) 0 dX4_goDay_178 rfl rfl rfl ?_
                cases hf
                exact a_iret hr ⟨rfl, hz, hfr⟩ dX4_goDay_179
              · replace hf := (if_neg k116).symm.trans hf
                refine a_aload_n (pc' := 139) 2 dX4_goDay_138 rfl rfl rfl ?_
                refine a_aload_n (pc' := 140) 2 dX4_goDay_139 rfl rfl rfl ?_
                obtain ⟨x120, e119, hf⟩ := Option.bind_eq_some_iff.mp hf
                refine k_X4_87 (pc' := 143) (c_X4_lastCourse l g F hz e119) ⟨Nat.le_of_ble_eq_true rfl, Nat.le_of_ble_eq_true rfl⟩ hz.1 (Nat.le_of_ble_eq_true rfl) dX4_goDay_140 rfl ?_
                refine a_iconst (pc' := 144) (v := (1 : Int32)) dX4_goDay_143 rfl (by decide) ?_
                refine a_isub (pc' := 145) dX4_goDay_144 rfl ?_
                refine a_aload_n (pc' := 146) 2 dX4_goDay_145 rfl rfl rfl ?_
                refine g_X4_7 (pc' := 149) hz.1 rfl dX4_goDay_146 rfl ?_
                refine a_bipush (pc' := 151) (v := (6 : Int32)) dX4_goDay_149 rfl (by decide) ?_
                obtain ⟨hg, hf⟩ := f_grd_x hf
                refine b_iald (pc' := 152) hz.2.1 hg dX4_goDay_151 rfl ?_
                refine a_iconst (pc' := 153) (v := (2 : Int32)) dX4_goDay_152 rfl (by decide) ?_
                refine a_iadd (pc' := 154) dX4_goDay_153 rfl ?_
                refine a_iconst (pc' := 155) (v := (5 : Int32)) dX4_goDay_154 rfl (by decide) ?_
                refine a_irem (pc' := 156) dX4_goDay_155 rfl (by decide) ?_
                obtain ⟨x122, e121, hf⟩ := Option.bind_eq_some_iff.mp hf
                refine k_X4_110 (pc' := 159) (c_X4_fall l g F hz e121) ⟨Nat.le_of_ble_eq_true rfl, Nat.le_of_ble_eq_true rfl⟩ hz.1 (Nat.le_of_ble_eq_true rfl) dX4_goDay_156 rfl (fun h123 hq => ?_)
                obtain ⟨hz1, hfr1⟩ := hq
                obtain ⟨M124, hf, hz⟩ := f_let_x (P := fun w => d_mod h123 w) hf hz1
                replace hfr := d_frm.tr hfr hfr1 (by omega)
                refine a_goto 163 dX4_goDay_159 (by decide) ?_
                refine a_iadd (pc' := 164) dX4_goDay_163 rfl ?_
                refine a_istore_n (pc' := 165) (ls' := [(3, .int ((((0 : Int32)) + ((0 : Int32))) + x122.1)), (2, .int ((1 : Int32))), (0, .ref 55), (1, .int a1)]) dX4_goDay_164 rfl (by decide) rfl rfl ?_
                refine a_aload_n (pc' := 166) 2 dX4_goDay_165 rfl rfl rfl ?_
                refine g_X4_7 (pc' := 169) hz.1 rfl dX4_goDay_166 rfl ?_
                refine a_bipush (pc' := 171) (v := (7 : Int32)) dX4_goDay_169 rfl (by decide) ?_
                refine a_aload_n (pc' := 172) 2 dX4_goDay_171 rfl rfl rfl ?_
                refine g_X4_7 (pc' := 175) hz.1 rfl dX4_goDay_172 rfl ?_
                refine a_iconst (pc' := 176) (v := (4 : Int32)) dX4_goDay_175 rfl (by decide) ?_
                obtain ⟨hg, hf⟩ := f_grd_x hf
                refine b_iald (pc' := 177) hz.2.1 hg dX4_goDay_176 rfl ?_
                obtain ⟨hg, hf⟩ := f_grd_x hf
                refine b_iast (pc' := 178) hz.2.1 hg dX4_goDay_177 rfl (fun h125 hz1 hfr1 => ?_)
                obtain ⟨hz1, hfr1⟩ := d_ma_z hz hz1 hfr1
                obtain ⟨M126, hf, hz⟩ := f_let_x (P := fun w => d_mod h125 w) hf hz1
                replace hfr := d_frm.tr hfr hfr1 (by omega)
                refine a_iload_n (pc' := 179) 0 dX4_goDay_178 rfl rfl rfl ?_
                cases hf
                exact a_iret hr ⟨rfl, hz, hfr⟩ dX4_goDay_179
            · replace hf := (if_neg k115).symm.trans hf
              refine a_aload_n (pc' := 105) 2 dX4_goDay_104 rfl rfl rfl ?_
              refine a_aload_n (pc' := 106) 2 dX4_goDay_105 rfl rfl rfl ?_
              obtain ⟨x128, e127, hf⟩ := Option.bind_eq_some_iff.mp hf
              refine k_X4_87 (pc' := 109) (c_X4_lastCourse l g F hz e127) ⟨Nat.le_of_ble_eq_true rfl, Nat.le_of_ble_eq_true rfl⟩ hz.1 (Nat.le_of_ble_eq_true rfl) dX4_goDay_106 rfl ?_
              refine a_aload_n (pc' := 110) 2 dX4_goDay_109 rfl rfl rfl ?_
              refine g_X4_7 (pc' := 113) hz.1 rfl dX4_goDay_110 rfl ?_
              refine a_bipush (pc' := 115) (v := (6 : Int32)) dX4_goDay_113 rfl (by decide) ?_
              obtain ⟨hg, hf⟩ := f_grd_x hf
              refine b_iald (pc' := 116) hz.2.1 hg dX4_goDay_115 rfl ?_
              refine a_iconst (pc' := 117) (v := (5 : Int32)) dX4_goDay_116 rfl (by decide) ?_
              refine a_irem (pc' := 118) dX4_goDay_117 rfl (by decide) ?_
              obtain ⟨x130, e129, hf⟩ := Option.bind_eq_some_iff.mp hf
              refine k_X4_110 (pc' := 121) (c_X4_fall l g F hz e129) ⟨Nat.le_of_ble_eq_true rfl, Nat.le_of_ble_eq_true rfl⟩ hz.1 (Nat.le_of_ble_eq_true rfl) dX4_goDay_118 rfl (fun h131 hq => ?_)
              obtain ⟨hz1, hfr1⟩ := hq
              obtain ⟨M132, hf, hz⟩ := f_let_x (P := fun w => d_mod h131 w) hf hz1
              replace hfr := d_frm.tr hfr hfr1 (by omega)
              refine a_goto 125 dX4_goDay_121 (by decide) ?_
              refine a_iadd (pc' := 126) dX4_goDay_125 rfl ?_
              refine a_istore_n (pc' := 127) (ls' := [(3, .int (((0 : Int32)) + x130.1)), (2, .int ((1 : Int32))), (0, .ref 55), (1, .int a1)]) dX4_goDay_126 rfl (by decide) rfl rfl ?_
              refine a_iload_n (pc' := 128) 0 dX4_goDay_127 rfl rfl rfl ?_
              refine a_aload_n (pc' := 129) 2 dX4_goDay_128 rfl rfl rfl ?_
              refine g_X4_7 (pc' := 132) hz.1 rfl dX4_goDay_129 rfl ?_
              refine a_iconst (pc' := 133) (v := (2 : Int32)) dX4_goDay_132 rfl (by decide) ?_
              obtain ⟨hg, hf⟩ := f_grd_x hf
              refine b_iald (pc' := 134) hz.2.1 hg dX4_goDay_133 rfl ?_
              refine a_iconst (pc' := 135) (v := (1 : Int32)) dX4_goDay_134 rfl (by decide) ?_
              refine a_icmp_le (pc' := 138) 162 dX4_goDay_135 (by decide) rfl (fun k133 => ?_) (fun k133 => ?_)
              · replace hf := (if_pos k133).symm.trans hf
                refine a_iconst (pc' := 163) (v := (0 : Int32)) dX4_goDay_162 rfl (by decide) ?_
                refine a_iadd (pc' := 164) dX4_goDay_163 rfl ?_
                refine a_istore_n (pc' := 165) (ls' := [(3, .int ((((0 : Int32)) + x130.1) + ((0 : Int32)))), (2, .int ((1 : Int32))), (0, .ref 55), (1, .int a1)]) dX4_goDay_164 rfl (by decide) rfl rfl ?_
                refine a_aload_n (pc' := 166) 2 dX4_goDay_165 rfl rfl rfl ?_
                refine g_X4_7 (pc' := 169) hz.1 rfl dX4_goDay_166 rfl ?_
                refine a_bipush (pc' := 171) (v := (7 : Int32)) dX4_goDay_169 rfl (by decide) ?_
                refine a_aload_n (pc' := 172) 2 dX4_goDay_171 rfl rfl rfl ?_
                refine g_X4_7 (pc' := 175) hz.1 rfl dX4_goDay_172 rfl ?_
                refine a_iconst (pc' := 176) (v := (4 : Int32)) dX4_goDay_175 rfl (by decide) ?_
                obtain ⟨hg, hf⟩ := f_grd_x hf
                refine b_iald (pc' := 177) hz.2.1 hg dX4_goDay_176 rfl ?_
                obtain ⟨hg, hf⟩ := f_grd_x hf
                refine b_iast (pc' := 178) hz.2.1 hg dX4_goDay_177 rfl (fun h134 hz1 hfr1 => ?_)
                obtain ⟨hz1, hfr1⟩ := d_ma_z hz hz1 hfr1
                obtain ⟨M135, hf, hz⟩ := f_let_x (P := fun w => d_mod h134 w) hf hz1
                replace hfr := d_frm.tr hfr hfr1 (by omega)
                refine a_iload_n (pc' := 179) 0 dX4_goDay_178 rfl rfl rfl ?_
                cases hf
                exact a_iret hr ⟨rfl, hz, hfr⟩ dX4_goDay_179
              · replace hf := (if_neg k133).symm.trans hf
                refine a_aload_n (pc' := 139) 2 dX4_goDay_138 rfl rfl rfl ?_
                refine a_aload_n (pc' := 140) 2 dX4_goDay_139 rfl rfl rfl ?_
                obtain ⟨x137, e136, hf⟩ := Option.bind_eq_some_iff.mp hf
                refine k_X4_87 (pc' := 143) (c_X4_lastCourse l g F hz e136) ⟨Nat.le_of_ble_eq_true rfl, Nat.le_of_ble_eq_true rfl⟩ hz.1 (Nat.le_of_ble_eq_true rfl) dX4_goDay_140 rfl ?_
                refine a_iconst (pc' := 144) (v := (1 : Int32)) dX4_goDay_143 rfl (by decide) ?_
                refine a_isub (pc' := 145) dX4_goDay_144 rfl ?_
                refine a_aload_n (pc' := 146) 2 dX4_goDay_145 rfl rfl rfl ?_
                refine g_X4_7 (pc' := 149) hz.1 rfl dX4_goDay_146 rfl ?_
                refine a_bipush (pc' := 151) (v := (6 : Int32)) dX4_goDay_149 rfl (by decide) ?_
                obtain ⟨hg, hf⟩ := f_grd_x hf
                refine b_iald (pc' := 152) hz.2.1 hg dX4_goDay_151 rfl ?_
                refine a_iconst (pc' := 153) (v := (2 : Int32)) dX4_goDay_152 rfl (by decide) ?_
                refine a_iadd (pc' := 154) dX4_goDay_153 rfl ?_
                refine a_iconst (pc' := 155) (v := (5 : Int32)) dX4_goDay_154 rfl (by decide) ?_
                refine a_irem (pc' := 156) dX4_goDay_155 rfl (by decide) ?_
                obtain ⟨x139, e138, hf⟩ := Option.bind_eq_some_iff.mp hf
                refine k_X4_110 (pc' := 159) (c_X4_fall l g F hz e138) ⟨Nat.le_of_ble_eq_true rfl, Nat.le_of_ble_eq_true rfl⟩ hz.1 (Nat.le_of_ble_eq_true rfl) dX4_goDay_156 rfl (fun h140 hq => ?_)
                obtain ⟨hz1, hfr1⟩ := hq
                obtain ⟨M141, hf, hz⟩ := f_let_x (P := fun w => d_mod h140 w) hf hz1
                replace hfr := d_frm.tr hfr hfr1 (by omega)
                refine a_goto 163 dX4_goDay_159 (by decide) ?_
                refine a_iadd (pc' := 164) dX4_goDay_163 rfl ?_
                refine a_istore_n (pc' := 165) (ls' := [(3, .int ((((0 : Int32)) + x130.1) + x139.1)), (2, .int ((1 : Int32))), (0, .ref 55), (1, .int a1)]) dX4_goDay_164 rfl (by decide) rfl rfl ?_
                refine a_aload_n (pc' := 166) 2 dX4_goDay_165 rfl rfl rfl ?_
                refine g_X4_7 (pc' := 169) hz.1 rfl dX4_goDay_166 rfl ?_
                refine a_bipush (pc' := 171) (v := (7 : Int32)) dX4_goDay_169 rfl (by decide) ?_
                refine a_aload_n (pc' := 172) 2 dX4_goDay_171 rfl rfl rfl ?_
                refine g_X4_7 (pc' := 175) hz.1 rfl dX4_goDay_172 rfl ?_
                refine a_iconst (pc' := 176) (v := (4 : Int32)) dX4_goDay_175 rfl (by decide) ?_
                obtain ⟨hg, hf⟩ := f_grd_x hf
                refine b_iald (pc' := 177) hz.2.1 hg dX4_goDay_176 rfl ?_
                obtain ⟨hg, hf⟩ := f_grd_x hf
                refine b_iast (pc' := 178) hz.2.1 hg dX4_goDay_177 rfl (fun h142 hz1 hfr1 => ?_)
                obtain ⟨hz1, hfr1⟩ := d_ma_z hz hz1 hfr1
                obtain ⟨M143, hf, hz⟩ := f_let_x (P := fun w => d_mod h142 w) hf hz1
                replace hfr := d_frm.tr hfr hfr1 (by omega)
                refine a_iload_n (pc' := 179) 0 dX4_goDay_178 rfl rfl rfl ?_
                cases hf
                exact a_iret hr ⟨rfl, hz, hfr⟩ dX4_goDay_179
    · replace hf := (if_neg k43).symm.trans hf
      refine a_iload_n (pc' := 32) 0 dX4_goDay_31 rfl rfl rfl ?_
      refine a_if_eq (pc' := 35) 58 dX4_goDay_32 (by decide) rfl (fun cc => absurd cc (by decide)) (fun _ => ?_)
      refine a_aload_n (pc' := 36) 1 dX4_goDay_35 rfl rfl rfl ?_
      obtain ⟨x145, e144, hf⟩ := Option.bind_eq_some_iff.mp hf
      refine k_X4_107 (pc' := 39) (c_X4_isDone l g F hz e144) ⟨Nat.le_of_ble_eq_true rfl, Nat.le_of_ble_eq_true rfl⟩ hz.1 (Nat.le_of_ble_eq_true rfl) dX4_goDay_36 rfl ?_
      refine a_if_ne (pc' := 42) 58 dX4_goDay_39 (by decide) rfl (fun k146 => ?_) (fun k146 => ?_)
      · replace hf := (if_neg k146).symm.trans hf
        refine a_iload_n (pc' := 59) 2 dX4_goDay_58 rfl rfl rfl ?_
        refine a_if_ne (pc' := 62) 83 dX4_goDay_59 (by decide) rfl (fun k147 => ?_) (fun k147 => ?_)
        · replace hf := (if_neg k147).symm.trans hf
          refine a_iconst (pc' := 84) (v := (0 : Int32)) dX4_goDay_83 rfl (by decide) ?_
          refine a_istore_n (pc' := 85) (ls' := [(3, .int ((0 : Int32))), (2, .int ((1 : Int32))), (0, .ref 55), (1, .int a1)]) dX4_goDay_84 rfl (by decide) rfl rfl ?_
          refine a_iload_n (pc' := 86) 3 dX4_goDay_85 rfl rfl rfl ?_
          refine a_iconst (pc' := 87) (v := (2 : Int32)) dX4_goDay_86 rfl (by decide) ?_
          refine a_icmp_ne (pc' := 90) 165 dX4_goDay_87 (by decide) rfl (fun k148 => ?_) (fun k148 => ?_)
          · replace hf := (if_neg k148).symm.trans hf
            refine a_aload_n (pc' := 166) 2 dX4_goDay_165 rfl rfl rfl ?_
            refine g_X4_7 (pc' := 169) hz.1 rfl dX4_goDay_166 rfl ?_
            refine a_bipush (pc' := 171) (v := (7 : Int32)) dX4_goDay_169 rfl (by decide) ?_
            refine a_aload_n (pc' := 172) 2 dX4_goDay_171 rfl rfl rfl ?_
            refine g_X4_7 (pc' := 175) hz.1 rfl dX4_goDay_172 rfl ?_
            refine a_iconst (pc' := 176) (v := (4 : Int32)) dX4_goDay_175 rfl (by decide) ?_
            obtain ⟨hg, hf⟩ := f_grd_x hf
            refine b_iald (pc' := 177) hz.2.1 hg dX4_goDay_176 rfl ?_
            obtain ⟨hg, hf⟩ := f_grd_x hf
            refine b_iast (pc' := 178) hz.2.1 hg dX4_goDay_177 rfl (fun h149 hz1 hfr1 => ?_)
            obtain ⟨hz1, hfr1⟩ := d_ma_z hz hz1 hfr1
            obtain ⟨M150, hf, hz⟩ := f_let_x (P := fun w => d_mod h149 w) hf hz1
            replace hfr := d_frm.tr hfr hfr1 (by omega)
            refine a_iload_n (pc' := 179) 0 dX4_goDay_178 rfl rfl rfl ?_
            cases hf
            exact a_iret hr ⟨rfl, hz, hfr⟩ dX4_goDay_179
          · replace hf := (if_pos k148).symm.trans hf
            refine a_iload_n (pc' := 91) 1 dX4_goDay_90 rfl rfl rfl ?_
            refine a_if_eq (pc' := 94) 165 dX4_goDay_91 (by decide) rfl (fun cc => absurd cc (by decide)) (fun _ => ?_)
            refine a_iload_n (pc' := 95) 0 dX4_goDay_94 rfl rfl rfl ?_
            refine a_aload_n (pc' := 96) 2 dX4_goDay_95 rfl rfl rfl ?_
            refine g_X4_7 (pc' := 99) hz.1 rfl dX4_goDay_96 rfl ?_
            refine a_iconst (pc' := 100) (v := (2 : Int32)) dX4_goDay_99 rfl (by decide) ?_
            obtain ⟨hg, hf⟩ := f_grd_x hf
            refine b_iald (pc' := 101) hz.2.1 hg dX4_goDay_100 rfl ?_
            refine a_if_le (pc' := 104) 124 dX4_goDay_101 (by decide) rfl (fun k151 => ?_) (fun k151 => ?_)
            · replace hf := (if_pos k151).symm.trans hf
              refine a_iconst (pc' := 125) (v := (0 : Int32)) dX4_goDay_124 rfl (by decide) ?_
              refine a_iadd (pc' := 126) dX4_goDay_125 rfl ?_
              refine a_istore_n (pc' := 127) (ls' := [(3, .int (((0 : Int32)) + ((0 : Int32)))), (2, .int ((1 : Int32))), (0, .ref 55), (1, .int a1)]) dX4_goDay_126 rfl (by decide) rfl rfl ?_
              refine a_iload_n (pc' := 128) 0 dX4_goDay_127 rfl rfl rfl ?_
              refine a_aload_n (pc' := 129) 2 dX4_goDay_128 rfl rfl rfl ?_
              refine g_X4_7 (pc' := 132) hz.1 rfl dX4_goDay_129 rfl ?_
              refine a_iconst (pc' := 133) (v := (2 : Int32)) dX4_goDay_132 rfl (by decide) ?_
              obtain ⟨hg, hf⟩ := f_grd_x hf
              refine b_iald (pc' := 134) hz.2.1 hg dX4_goDay_133 rfl ?_
              refine a_iconst (pc' := 135) (v := (1 : Int32)) dX4_goDay_134 rfl (by decide) ?_
              refine a_icmp_le (pc' := 138) 162 dX4_goDay_135 (by decide) rfl (fun k152 => ?_) (fun k152 => ?_)
              · replace hf := (if_pos k152).symm.trans hf
                refine a_iconst (pc' := 163) (v := (0 : Int32)) dX4_goDay_162 rfl (by decide) ?_
                refine a_iadd (pc' := 164) dX4_goDay_163 rfl ?_
                refine a_istore_n (pc' := 165) (ls' := [(3, .int ((((0 : Int32)) + ((0 : Int32))) + ((0 : Int32)))), (2, .int ((1 : Int32))), (0, .ref 55), (1, .int a1)]) dX4_goDay_164 rfl (by decide) rfl rfl ?_
                refine a_aload_n (pc' := 166) 2 dX4_goDay_165 rfl rfl rfl ?_
                refine g_X4_7 (pc' := 169) hz.1 rfl dX4_goDay_166 rfl ?_
                refine a_bipush (pc' := 171) (v := (7 : Int32)) dX4_goDay_169 rfl (by decide) ?_
                refine a_aload_n (pc' := 172) 2 dX4_goDay_171 rfl rfl rfl ?_
                refine g_X4_7 (pc' := 175) hz.1 rfl dX4_goDay_172 rfl ?_
                refine a_iconst (pc' := 176) (v := (4 : Int32)) dX4_goDay_175 rfl (by decide) ?_
                obtain ⟨hg, hf⟩ := f_grd_x hf
                refine b_iald (pc' := 177) hz.2.1 hg dX4_goDay_176 rfl ?_
                obtain ⟨hg, hf⟩ := f_grd_x hf
                refine b_iast (pc' := 178) hz.2.1 hg dX4_goDay_177 rfl (fun h153 hz1 hfr1 => ?_)
                obtain ⟨hz1, hfr1⟩ := d_ma_z hz hz1 hfr1
                obtain ⟨M154, hf, hz⟩ := f_let_x (P := fun w => d_mod h153 w) hf hz1
                replace hfr := d_frm.tr hfr hfr1 (by omega)
                refine a_iload_n (pc' := 179) 0 dX4_goDay_178 rfl rfl rfl ?_
                cases hf
                exact a_iret hr ⟨rfl, hz, hfr⟩ dX4_goDay_179
              · replace hf := (if_neg k152).symm.trans hf
                refine a_aload_n (pc' := 139) 2 dX4_goDay_138 rfl rfl rfl ?_
                refine a_aload_n (pc' := 140) 2 dX4_goDay_139 rfl rfl rfl ?_
                obtain ⟨x156, e155, hf⟩ := Option.bind_eq_some_iff.mp hf
                refine k_X4_87 (pc' := 143) (c_X4_lastCourse l g F hz e155) ⟨Nat.le_of_ble_eq_true rfl, Nat.le_of_ble_eq_true rfl⟩ hz.1 (Nat.le_of_ble_eq_true rfl) dX4_goDay_140 rfl ?_
                refine a_iconst (pc' := 144) (v := (1 : Int32)) dX4_goDay_143 rfl (by decide) ?_
                refine a_isub (pc' := 145) dX4_goDay_144 rfl ?_
                refine a_aload_n (pc' := 146) 2 dX4_goDay_145 rfl rfl rfl ?_
                refine g_X4_7 (pc' := 149) hz.1 rfl dX4_goDay_146 rfl ?_
                refine a_bipush (pc' := 151) (v := (6 : Int32)) dX4_goDay_149 rfl (by decide) ?_
                obtain ⟨hg, hf⟩ := f_grd_x hf
                refine b_iald (pc' := 152) hz.2.1 hg dX4_goDay_151 rfl ?_
                refine a_iconst (pc' := 153) (v := (2 : Int32)) dX4_goDay_152 rfl (by decide) ?_
                refine a_iadd (pc' := 154) dX4_goDay_153 rfl ?_
                refine a_iconst (pc' := 155) (v := (5 : Int32)) dX4_goDay_154 rfl (by decide) ?_
                refine a_irem (pc' := 156) dX4_goDay_155 rfl (by decide) ?_
                obtain ⟨x158, e157, hf⟩ := Option.bind_eq_some_iff.mp hf
                refine k_X4_110 (pc' := 159) (c_X4_fall l g F hz e157) ⟨Nat.le_of_ble_eq_true rfl, Nat.le_of_ble_eq_true rfl⟩ hz.1 (Nat.le_of_ble_eq_true rfl) dX4_goDay_156 rfl (fun h159 hq => ?_)
                obtain ⟨hz1, hfr1⟩ := hq
                obtain ⟨M160, hf, hz⟩ := f_let_x (P := fun w => d_mod h159 w) hf hz1
                replace hfr := d_frm.tr hfr hfr1 (by omega)
                refine a_goto 163 dX4_goDay_159 (by decide) ?_
                refine a_iadd (pc' := 164) dX4_goDay_163 rfl ?_
                refine a_istore_n (pc' := 165) (ls' := [(3, .int ((((0 : Int32)) + ((0 : Int32))) + x158.1)), (2, .int ((1 : Int32))), (0, .ref 55), (1, .int a1)]) dX4_goDay_164 rfl (by decide) rfl rfl ?_
                refine a_aload_n (pc' := 166) 2 dX4_goDay_165 rfl rfl rfl ?_
                refine g_X4_7 (pc' := 169) hz.1 rfl dX4_goDay_166 rfl ?_
                refine a_bipush (pc' := 171) (v := (7 : Int32)) dX4_goDay_169 rfl (by decide) ?_
                refine a_aload_n (pc' := 172) 2 dX4_goDay_171 rfl rfl rfl ?_
                refine g_X4_7 (pc' := 175) hz.1 rfl dX4_goDay_172 rfl ?_
                refine a_iconst (pc' := 176) (v := (4 : Int32)) dX4_goDay_175 rfl (by decide) ?_
                obtain ⟨hg, hf⟩ := f_grd_x hf
                refine b_iald (pc' := 177) hz.2.1 hg dX4_goDay_176 rfl ?_
                obtain ⟨hg, hf⟩ := f_grd_x hf
                refine b_iast (pc' := 178) hz.2.1 hg dX4_goDay_177 rfl (fun h161 hz1 hfr1 => ?_)
                obtain ⟨hz1, hfr1⟩ := d_ma_z hz hz1 hfr1
                obtain ⟨M162, hf, hz⟩ := f_let_x (P := fun w => d_mod h161 w) hf hz1
                replace hfr := d_frm.tr hfr hfr1 (by omega)
                refine a_iload_n (pc' := 179) 0 dX4_goDay_178 rfl rfl rfl ?_
                cases hf
                exact a_iret hr ⟨rfl, hz, hfr⟩ dX4_goDay_179
            · replace hf := (if_neg k151).symm.trans hf
              refine a_aload_n (pc' := 105) 2 dX4_goDay_104 rfl rfl rfl ?_
              refine a_aload_n (pc' := 106) 2 dX4_goDay_105 rfl rfl rfl ?_
              obtain ⟨x164, e163, hf⟩ := Option.bind_eq_some_iff.mp hf
              refine k_X4_87 (pc' := 109) (c_X4_lastCourse l g F hz e163) ⟨Nat.le_of_ble_eq_true rfl, Nat.le_of_ble_eq_true rfl⟩ hz.1 (Nat.le_of_ble_eq_true rfl) dX4_goDay_106 rfl ?_
              refine a_aload_n (pc' := 110) 2 dX4_goDay_109 rfl rfl rfl ?_
              refine g_X4_7 (pc' := 113) hz.1 rfl dX4_goDay_110 rfl ?_
              refine a_bipush (pc' := 115) (v := (6 : Int32)) dX4_goDay_113 rfl (by decide) ?_
              obtain ⟨hg, hf⟩ := f_grd_x hf
              refine b_iald (pc' := 116) hz.2.1 hg dX4_goDay_115 rfl ?_
              refine a_iconst (pc' := 117) (v := (5 : Int32)) dX4_goDay_116 rfl (by decide) ?_
              refine a_irem (pc' := 118) dX4_goDay_117 rfl (by decide) ?_
              obtain ⟨x166, e165, hf⟩ := Option.bind_eq_some_iff.mp hf
              refine k_X4_110 (pc' := 121) (c_X4_fall l g F hz e165) ⟨Nat.le_of_ble_eq_true rfl, Nat.le_of_ble_eq_true rfl⟩ hz.1 (Nat.le_of_ble_eq_true rfl) dX4_goDay_118 rfl (fun h167 hq => ?_)
              obtain ⟨hz1, hfr1⟩ := hq
              obtain ⟨M168, hf, hz⟩ := f_let_x (P := fun w => d_mod h167 w) hf hz1
              replace hfr := d_frm.tr hfr hfr1 (by omega)
              refine a_goto 125 dX4_goDay_121 (by decide) ?_
              refine a_iadd (pc' := 126) dX4_goDay_125 rfl ?_
              refine a_istore_n (pc' := 127) (ls' := [(3, .int (((0 : Int32)) + x166.1)), (2, .int ((1 : Int32))), (0, .ref 55), (1, .int a1)]) dX4_goDay_126 rfl (by decide) rfl rfl ?_
              refine a_iload_n (pc' := 128) 0 dX4_goDay_127 rfl rfl rfl ?_
              refine a_aload_n (pc' := 129) 2 dX4_goDay_128 rfl rfl rfl ?_
              refine g_X4_7 (pc' := 132) hz.1 rfl dX4_goDay_129 rfl ?_
              refine a_iconst (pc' := 133) (v := (2 : Int32)) dX4_goDay_132 rfl (by decide) ?_
              obtain ⟨hg, hf⟩ := f_grd_x hf
              refine b_iald (pc' := 134) hz.2.1 hg dX4_goDay_133 rfl ?_
              refine a_iconst (pc' := 135) (v := (1 : Int32)) dX4_goDay_134 rfl (by decide) ?_
              refine a_icmp_le (pc' := 138) 162 dX4_goDay_135 (by decide) rfl (fun k169 => ?_) (fun k169 => ?_)
              · replace hf := (if_pos k169).symm.trans hf
                refine a_iconst (pc' := 163) (v := (0 : Int32)) dX4_goDay_162 rfl (by decide) ?_
                refine a_iadd (pc' := 164) dX4_goDay_163 rfl ?_
                refine a_istore_n (pc' := 165) (ls' := [(3, .int ((((0 : Int32)) + x166.1) + ((0 : Int32)))), (2, .int ((1 : Int32))), (0, .ref 55), (1, .int a1)]) dX4_goDay_164 rfl (by decide) rfl rfl ?_
                refine a_aload_n (pc' := 166) 2 dX4_goDay_165 rfl rfl rfl ?_
                refine g_X4_7 (pc' := 169) hz.1 rfl dX4_goDay_166 rfl ?_
                refine a_bipush (pc' := 171) (v := (7 : Int32)) dX4_goDay_169 rfl (by decide) ?_
                refine a_aload_n (pc' := 172) 2 dX4_goDay_171 rfl rfl rfl ?_
                refine g_X4_7 (pc' := 175) hz.1 rfl dX4_goDay_172 rfl ?_
                refine a_iconst (pc' := 176) (v := (4 : Int32)) dX4_goDay_175 rfl (by decide) ?_
                obtain ⟨hg, hf⟩ := f_grd_x hf
                refine b_iald (pc' := 177) hz.2.1 hg dX4_goDay_176 rfl ?_
                obtain ⟨hg, hf⟩ := f_grd_x hf
                refine b_iast (pc' := 178) hz.2.1 hg dX4_goDay_177 rfl (fun h170 hz1 hfr1 => ?_)
                obtain ⟨hz1, hfr1⟩ := d_ma_z hz hz1 hfr1
                obtain ⟨M171, hf, hz⟩ := f_let_x (P := fun w => d_mod h170 w) hf hz1
                replace hfr := d_frm.tr hfr hfr1 (by omega)
                refine a_iload_n (pc' := 179) 0 dX4_goDay_178 rfl rfl rfl ?_
                cases hf
                exact a_iret hr ⟨rfl, hz, hfr⟩ dX4_goDay_179
              · replace hf := (if_neg k169).symm.trans hf
                refine a_aload_n (pc' := 139) 2 dX4_goDay_138 rfl rfl rfl ?_
                refine a_aload_n (pc' := 140) 2 dX4_goDay_139 rfl rfl rfl ?_
                obtain ⟨x173, e172, hf⟩ := Option.bind_eq_some_iff.mp hf
                refine k_X4_87 (pc' := 143) (c_X4_lastCourse l g F hz e172) ⟨Nat.le_of_ble_eq_true rfl, Nat.le_of_ble_eq_true rfl⟩ hz.1 (Nat.le_of_ble_eq_true rfl) dX4_goDay_140 rfl ?_
                refine a_iconst (pc' := 144) (v := (1 : Int32)) dX4_goDay_143 rfl (by decide) ?_
                refine a_isub (pc' := 145) dX4_goDay_144 rfl ?_
                refine a_aload_n (pc' := 146) 2 dX4_goDay_145 rfl rfl rfl ?_
                refine g_X4_7 (pc' := 149) hz.1 rfl dX4_goDay_146 rfl ?_
                refine a_bipush (pc' := 151) (v := (6 : Int32)) dX4_goDay_149 rfl (by decide) ?_
                obtain ⟨hg, hf⟩ := f_grd_x hf
                refine b_iald (pc' := 152) hz.2.1 hg dX4_goDay_151 rfl ?_
                refine a_iconst (pc' := 153) (v := (2 : Int32)) dX4_goDay_152 rfl (by decide) ?_
                refine a_iadd (pc' := 154) dX4_goDay_153 rfl ?_
                refine a_iconst (pc' := 155) (v := (5 : Int32)) dX4_goDay_154 rfl (by decide) ?_
                refine a_irem (pc' := 156) dX4_goDay_155 rfl (by decide) ?_
                obtain ⟨x175, e174, hf⟩ := Option.bind_eq_some_iff.mp hf
                refine k_X4_110 (pc' := 159) (c_X4_fall l g F hz e174) ⟨Nat.le_of_ble_eq_true rfl, Nat.le_of_ble_eq_true rfl⟩ hz.1 (Nat.le_of_ble_eq_true rfl) dX4_goDay_156 rfl (fun h176 hq => ?_)
                obtain ⟨hz1, hfr1⟩ := hq
                obtain ⟨M177, hf, hz⟩ := f_let_x (P := fun w => d_mod h176 w) hf hz1
                replace hfr := d_frm.tr hfr hfr1 (by omega)
                refine a_goto 163 dX4_goDay_159 (by decide) ?_
                refine a_iadd (pc' := 164) dX4_goDay_163 rfl ?_
                refine a_istore_n (pc' := 165) (ls' := [(3, .int ((((0 : Int32)) + x166.1) + x175.1)), (2, .int ((1 : Int32))), (0, .ref 55), (1, .int a1)]) dX4_goDay_164 rfl (by decide) rfl rfl ?_
                refine a_aload_n (pc' := 166) 2 dX4_goDay_165 rfl rfl rfl ?_
                refine g_X4_7 (pc' := 169) hz.1 rfl dX4_goDay_166 rfl ?_
                refine a_bipush (pc' := 171) (v := (7 : Int32)) dX4_goDay_169 rfl (by decide) ?_
                refine a_aload_n (pc' := 172) 2 dX4_goDay_171 rfl rfl rfl ?_
                refine g_X4_7 (pc' := 175) hz.1 rfl dX4_goDay_172 rfl ?_
                refine a_iconst (pc' := 176) (v := (4 : Int32)) dX4_goDay_175 rfl (by decide) ?_
                obtain ⟨hg, hf⟩ := f_grd_x hf
                refine b_iald (pc' := 177) hz.2.1 hg dX4_goDay_176 rfl ?_
                obtain ⟨hg, hf⟩ := f_grd_x hf
                refine b_iast (pc' := 178) hz.2.1 hg dX4_goDay_177 rfl (fun h178 hz1 hfr1 => ?_)
                obtain ⟨hz1, hfr1⟩ := d_ma_z hz hz1 hfr1
                obtain ⟨M179, hf, hz⟩ := f_let_x (P := fun w => d_mod h178 w) hf hz1
                replace hfr := d_frm.tr hfr hfr1 (by omega)
                refine a_iload_n (pc' := 179) 0 dX4_goDay_178 rfl rfl rfl ?_
                cases hf
                exact a_iret hr ⟨rfl, hz, hfr⟩ dX4_goDay_179
        · replace hf := (if_pos k147).symm.trans hf
          refine a_aload_n (pc' := 63) 1 dX4_goDay_62 rfl rfl rfl ?_
          refine g_X4_7 (pc' := 66) hz.1 rfl dX4_goDay_63 rfl ?_
          refine a_bipush (pc' := 68) (v := (8 : Int32)) dX4_goDay_66 rfl (by decide) ?_
          obtain ⟨hg, hf⟩ := f_grd_x hf
          refine b_iald (pc' := 69) hz.2.1 hg dX4_goDay_68 rfl ?_
          refine a_if_le (pc' := 72) 83 dX4_goDay_69 (by decide) rfl (fun k180 => ?_) (fun k180 => ?_)
          · replace hf := (if_pos k180).symm.trans hf
            refine a_iconst (pc' := 84) (v := (0 : Int32)) dX4_goDay_83 rfl (by decide) ?_
            refine a_istore_n (pc' := 85) (ls' := [(3, .int ((0 : Int32))), (2, .int ((1 : Int32))), (0, .ref 55), (1, .int a1)]) dX4_goDay_84 rfl (by decide) rfl rfl ?_
            refine a_iload_n (pc' := 86) 3 dX4_goDay_85 rfl rfl rfl ?_
            refine a_iconst (pc' := 87) (v := (2 : Int32)) dX4_goDay_86 rfl (by decide) ?_
            refine a_icmp_ne (pc' := 90) 165 dX4_goDay_87 (by decide) rfl (fun k181 => ?_) (fun k181 => ?_)
            · replace hf := (if_neg k181).symm.trans hf
              refine a_aload_n (pc' := 166) 2 dX4_goDay_165 rfl rfl rfl ?_
              refine g_X4_7 (pc' := 169) hz.1 rfl dX4_goDay_166 rfl ?_
              refine a_bipush (pc' := 171) (v := (7 : Int32)) dX4_goDay_169 rfl (by decide) ?_
              refine a_aload_n (pc' := 172) 2 dX4_goDay_171 rfl rfl rfl ?_
              refine g_X4_7 (pc' := 175) hz.1 rfl dX4_goDay_172 rfl ?_
              refine a_iconst (pc' := 176) (v := (4 : Int32)) dX4_goDay_175 rfl (by decide) ?_
              obtain ⟨hg, hf⟩ := f_grd_x hf
              refine b_iald (pc' := 177) hz.2.1 hg dX4_goDay_176 rfl ?_
              obtain ⟨hg, hf⟩ := f_grd_x hf
              refine b_iast (pc' := 178) hz.2.1 hg dX4_goDay_177 rfl (fun h182 hz1 hfr1 => ?_)
              obtain ⟨hz1, hfr1⟩ := d_ma_z hz hz1 hfr1
              obtain ⟨M183, hf, hz⟩ := f_let_x (P := fun w => d_mod h182 w) hf hz1
              replace hfr := d_frm.tr hfr hfr1 (by omega)
              refine a_iload_n (pc' := 179) 0 dX4_goDay_178 rfl rfl rfl ?_
              cases hf
              exact a_iret hr ⟨rfl, hz, hfr⟩ dX4_goDay_179
            · replace hf := (if_pos k181).symm.trans hf
              refine a_iload_n (pc' := 91) 1 dX4_goDay_90 rfl rfl rfl ?_
              refine a_if_eq (pc' := 94) 165 dX4_goDay_91 (by decide) rfl (fun cc => absurd cc (by decide)) (fun _ => ?_)
              refine a_iload_n (pc' := 95) 0 dX4_goDay_94 rfl rfl rfl ?_
              refine a_aload_n (pc' := 96) 2 dX4_goDay_95 rfl rfl rfl ?_
              refine g_X4_7 (pc' := 99) hz.1 rfl dX4_goDay_96 rfl ?_
              refine a_iconst (pc' := 100) (v := (2 : Int32)) dX4_goDay_99 rfl (by decide) ?_
              obtain ⟨hg, hf⟩ := f_grd_x hf
              refine b_iald (pc' := 101) hz.2.1 hg dX4_goDay_100 rfl ?_
              refine a_if_le (pc' := 104) 124 dX4_goDay_101 (by decide) rfl (fun k184 => ?_) (fun k184 => ?_)
              · replace hf := (if_pos k184).symm.trans hf
                refine a_iconst (pc' := 125) (v := (0 : Int32)) dX4_goDay_124 rfl (by decide) ?_
                refine a_iadd (pc' := 126) dX4_goDay_125 rfl ?_
                refine a_istore_n (pc' := 127) (ls' := [(3, .int (((0 : Int32)) + ((0 : Int32)))), (2, .int ((1 : Int32))), (0, .ref 55), (1, .int a1)]) dX4_goDay_126 rfl (by decide) rfl rfl ?_
                refine a_iload_n (pc' := 128) 0 dX4_goDay_127 rfl rfl rfl ?_
                refine a_aload_n (pc' := 129) 2 dX4_goDay_128 rfl rfl rfl ?_
                refine g_X4_7 (pc' := 132) hz.1 rfl dX4_goDay_129 rfl ?_
                refine a_iconst (pc' := 133) (v := (2 : Int32)) dX4_goDay_132 rfl (by decide) ?_
                obtain ⟨hg, hf⟩ := f_grd_x hf
                refine b_iald (pc' := 134) hz.2.1 hg dX4_goDay_133 rfl ?_
                refine a_iconst (pc' := 135) (v := (1 : Int32)) dX4_goDay_134 rfl (by decide) ?_
                refine a_icmp_le (pc' := 138) 162 dX4_goDay_135 (by decide) rfl (fun k185 => ?_) (fun k185 => ?_)
                · replace hf := (if_pos k185).symm.trans hf
                  refine a_iconst (pc' := 163) (v := (0 : Int32)) dX4_goDay_162 rfl (by decide) ?_
                  refine a_iadd (pc' := 164) dX4_goDay_163 rfl ?_
                  refine a_istore_n (pc' := 165) (ls' := [(3, .int ((((0 : Int32)) + ((0 : Int32))) + ((0 : Int32)))), (2, .int ((1 : Int32))), (0, .ref 55), (1, .int a1)]) dX4_goDay_164 rfl (by decide) rfl rfl ?_
                  refine a_aload_n (pc' := 166) 2 dX4_goDay_165 rfl rfl rfl ?_
                  refine g_X4_7 (pc' := 169) hz.1 rfl dX4_goDay_166 rfl ?_
                  refine a_bipush (pc' := 171) (v := (7 : Int32)) dX4_goDay_169 rfl (by decide) ?_
                  refine a_aload_n (pc' := 172) 2 dX4_goDay_171 rfl rfl rfl ?_
                  refine g_X4_7 (pc' := 175) hz.1 rfl dX4_goDay_172 rfl ?_
                  refine a_iconst (pc' := 176) (v := (4 : Int32)) dX4_goDay_175 rfl (by decide) ?_
                  obtain ⟨hg, hf⟩ := f_grd_x hf
                  refine b_iald (pc' := 177) hz.2.1 hg dX4_goDay_176 rfl ?_
                  obtain ⟨hg, hf⟩ := f_grd_x hf
                  refine b_iast (pc' := 178) hz.2.1 hg dX4_goDay_177 rfl (fun h186 hz1 hfr1 => ?_)
                  obtain ⟨hz1, hfr1⟩ := d_ma_z hz hz1 hfr1
                  obtain ⟨M187, hf, hz⟩ := f_let_x (P := fun w => d_mod h186 w) hf hz1
                  replace hfr := d_frm.tr hfr hfr1 (by omega)
                  refine a_iload_n (pc' := 179) 0 dX4_goDay_178 rfl rfl rfl ?_
                  cases hf
                  exact a_iret hr ⟨rfl, hz, hfr⟩ dX4_goDay_179
                · replace hf := (if_neg k185).symm.trans hf
                  refine a_aload_n (pc' := 139) 2 dX4_goDay_138 rfl rfl rfl ?_
                  refine a_aload_n (pc' := 140) 2 dX4_goDay_139 rfl rfl rfl ?_
                  obtain ⟨x189, e188, hf⟩ := Option.bind_eq_some_iff.mp hf
                  refine k_X4_87 (pc' := 143) (c_X4_lastCourse l g F hz e188) ⟨Nat.le_of_ble_eq_true rfl, Nat.le_of_ble_eq_true rfl⟩ hz.1 (Nat.le_of_ble_eq_true rfl) dX4_goDay_140 rfl ?_
                  refine a_iconst (pc' := 144) (v := (1 : Int32)) dX4_goDay_143 rfl (by decide) ?_
                  refine a_isub (pc' := 145) dX4_goDay_144 rfl ?_
                  refine a_aload_n (pc' := 146) 2 dX4_goDay_145 rfl rfl rfl ?_
                  refine g_X4_7 (pc' := 149) hz.1 rfl dX4_goDay_146 rfl ?_
                  refine a_bipush (pc' := 151) (v := (6 : Int32)) dX4_goDay_149 rfl (by decide) ?_
                  obtain ⟨hg, hf⟩ := f_grd_x hf
                  refine b_iald (pc' := 152) hz.2.1 hg dX4_goDay_151 rfl ?_
                  refine a_iconst (pc' := 153) (v := (2 : Int32)) dX4_goDay_152 rfl (by decide) ?_
                  refine a_iadd (pc' := 154) dX4_goDay_153 rfl ?_
                  refine a_iconst (pc' := 155) (v := (5 : Int32)) dX4_goDay_154 rfl (by decide) ?_
                  refine a_irem (pc' := 156) dX4_goDay_155 rfl (by decide) ?_
                  obtain ⟨x191, e190, hf⟩ := Option.bind_eq_some_iff.mp hf
                  refine k_X4_110 (pc' := 159) (c_X4_fall l g F hz e190) ⟨Nat.le_of_ble_eq_true rfl, Nat.le_of_ble_eq_true rfl⟩ hz.1 (Nat.le_of_ble_eq_true rfl) dX4_goDay_156 rfl (fun h192 hq => ?_)
                  obtain ⟨hz1, hfr1⟩ := hq
                  obtain ⟨M193, hf, hz⟩ := f_let_x (P := fun w => d_mod h192 w) hf hz1
                  replace hfr := d_frm.tr hfr hfr1 (by omega)
                  refine a_goto 163 dX4_goDay_159 (by decide) ?_
                  refine a_iadd (pc' := 164) dX4_goDay_163 rfl ?_
                  refine a_istore_n (pc' := 165) (ls' := [(3, .int ((((0 : Int32)) + ((0 : Int32))) + x191.1)), (2, .int ((1 : Int32))), (0, .ref 55), (1, .int a1)]) dX4_goDay_164 rfl (by decide) rfl rfl ?_
                  refine a_aload_n (pc' := 166) 2 dX4_goDay_165 rfl rfl rfl ?_
                  refine g_X4_7 (pc' := 169) hz.1 rfl dX4_goDay_166 rfl ?_
                  refine a_bipush (pc' := 171) (v := (7 : Int32)) dX4_goDay_169 rfl (by decide) ?_
                  refine a_aload_n (pc' := 172) 2 dX4_goDay_171 rfl rfl rfl ?_
                  refine g_X4_7 (pc' := 175) hz.1 rfl dX4_goDay_172 rfl ?_
                  refine a_iconst (pc' := 176) (v := (4 : Int32)) dX4_goDay_175 rfl (by decide) ?_
                  obtain ⟨hg, hf⟩ := f_grd_x hf
                  refine b_iald (pc' := 177) hz.2.1 hg dX4_goDay_176 rfl ?_
                  obtain ⟨hg, hf⟩ := f_grd_x hf
                  refine b_iast (pc' := 178) hz.2.1 hg dX4_goDay_177 rfl (fun h194 hz1 hfr1 => ?_)
                  obtain ⟨hz1, hfr1⟩ := d_ma_z hz hz1 hfr1
                  obtain ⟨M195, hf, hz⟩ := f_let_x (P := fun w => d_mod h194 w) hf hz1
                  replace hfr := d_frm.tr hfr hfr1 (by omega)
                  refine a_iload_n (pc' := 179) 0 dX4_goDay_178 rfl rfl rfl ?_
                  cases hf
                  exact a_iret hr ⟨rfl, hz, hfr⟩ dX4_goDay_179
              · replace hf := (if_neg k184).symm.trans hf
                refine a_aload_n (pc' := 105) 2 dX4_goDay_104 rfl rfl rfl ?_
                refine a_aload_n (pc' := 106) 2 dX4_goDay_105 rfl rfl rfl ?_
                obtain ⟨x197, e196, hf⟩ := Option.bind_eq_some_iff.mp hf
                refine k_X4_87 (pc' := 109) (c_X4_lastCourse l g F hz e196) ⟨Nat.le_of_ble_eq_true rfl, Nat.le_of_ble_eq_true rfl⟩ hz.1 (Nat.le_of_ble_eq_true rfl) dX4_goDay_106 rfl ?_
                refine a_aload_n (pc' := 110) 2 dX4_goDay_109 rfl rfl rfl ?_
                refine g_X4_7 (pc' := 113) hz.1 rfl dX4_goDay_110 rfl ?_
                refine a_bipush (pc' := 115) (v := (6 : Int32)) dX4_goDay_113 rfl (by decide) ?_
                obtain ⟨hg, hf⟩ := f_grd_x hf
                refine b_iald (pc' := 116) hz.2.1 hg dX4_goDay_115 rfl ?_
                refine a_iconst (pc' := 117) (v := (5 : Int32)) dX4_goDay_116 rfl (by decide) ?_
                refine a_irem (pc' := 118) dX4_goDay_117 rfl (by decide) ?_
                obtain ⟨x199, e198, hf⟩ := Option.bind_eq_some_iff.mp hf
                refine k_X4_110 (pc' := 121) (c_X4_fall l g F hz e198) ⟨Nat.le_of_ble_eq_true rfl, Nat.le_of_ble_eq_true rfl⟩ hz.1 (Nat.le_of_ble_eq_true rfl) dX4_goDay_118 rfl (fun h200 hq => ?_)
                obtain ⟨hz1, hfr1⟩ := hq
                obtain ⟨M201, hf, hz⟩ := f_let_x (P := fun w => d_mod h200 w) hf hz1
                replace hfr := d_frm.tr hfr hfr1 (by omega)
                refine a_goto 125 dX4_goDay_121 (by decide) ?_
                refine a_iadd (pc' := 126) dX4_goDay_125 rfl ?_
                refine a_istore_n (pc' := 127) (ls' := [(3, .int (((0 : Int32)) + x199.1)), (2, .int ((1 : Int32))), (0, .ref 55), (1, .int a1)]) dX4_goDay_126 rfl (by decide) rfl rfl ?_
                refine a_iload_n (pc' := 128) 0 dX4_goDay_127 rfl rfl rfl ?_
                refine a_aload_n (pc' := 129) 2 dX4_goDay_128 rfl rfl rfl ?_
                refine g_X4_7 (pc' := 132) hz.1 rfl dX4_goDay_129 rfl ?_
                refine a_iconst (pc' := 133) (v := (2 : Int32)) dX4_goDay_132 rfl (by decide) ?_
                obtain ⟨hg, hf⟩ := f_grd_x hf
                refine b_iald (pc' := 134) hz.2.1 hg dX4_goDay_133 rfl ?_
                refine a_iconst (pc' := 135) (v := (1 : Int32)) dX4_goDay_134 rfl (by decide) ?_
                refine a_icmp_le (pc' := 138) 162 dX4_goDay_135 (by decide) rfl (fun k202 => ?_) (fun k202 => ?_)
                · replace hf := (if_pos k202).symm.trans hf
                  refine a_iconst (pc' := 163) (v := (0 : Int32)) dX4_goDay_162 rfl (by decide) ?_
                  refine a_iadd (pc' := 164) dX4_goDay_163 rfl ?_
                  refine a_istore_n (pc' := 165) (ls' := [(3, .int ((((0 : Int32)) + x199.1) + ((0 : Int32)))), (2, .int ((1 : Int32))), (0, .ref 55), (1, .int a1)]) dX4_goDay_164 rfl (by decide) rfl rfl ?_
                  refine a_aload_n (pc' := 166) 2 dX4_goDay_165 rfl rfl rfl ?_
                  refine g_X4_7 (pc' := 169) hz.1 rfl dX4_goDay_166 rfl ?_
                  refine a_bipush (pc' := 171) (v := (7 : Int32)) dX4_goDay_169 rfl (by decide) ?_
                  refine a_aload_n (pc' := 172) 2 dX4_goDay_171 rfl rfl rfl ?_
                  refine g_X4_7 (pc' := 175) hz.1 rfl dX4_goDay_172 rfl ?_
                  refine a_iconst (pc' := 176) (v := (4 : Int32)) dX4_goDay_175 rfl (by decide) ?_
                  obtain ⟨hg, hf⟩ := f_grd_x hf
                  refine b_iald (pc' := 177) hz.2.1 hg dX4_goDay_176 rfl ?_
                  obtain ⟨hg, hf⟩ := f_grd_x hf
                  refine b_iast (pc' := 178) hz.2.1 hg dX4_goDay_177 rfl (fun h203 hz1 hfr1 => ?_)
                  obtain ⟨hz1, hfr1⟩ := d_ma_z hz hz1 hfr1
                  obtain ⟨M204, hf, hz⟩ := f_let_x (P := fun w => d_mod h203 w) hf hz1
                  replace hfr := d_frm.tr hfr hfr1 (by omega)
                  refine a_iload_n (pc' := 179) 0 dX4_goDay_178 rfl rfl rfl ?_
                  cases hf
                  exact a_iret hr ⟨rfl, hz, hfr⟩ dX4_goDay_179
                · replace hf := (if_neg k202).symm.trans hf
                  refine a_aload_n (pc' := 139) 2 dX4_goDay_138 rfl rfl rfl ?_
                  refine a_aload_n (pc' := 140) 2 dX4_goDay_139 rfl rfl rfl ?_
                  obtain ⟨x206, e205, hf⟩ := Option.bind_eq_some_iff.mp hf
                  refine k_X4_87 (pc' := 143) (c_X4_lastCourse l g F hz e205) ⟨Nat.le_of_ble_eq_true rfl, Nat.le_of_ble_eq_true rfl⟩ hz.1 (Nat.le_of_ble_eq_true rfl) dX4_goDay_140 rfl ?_
                  refine a_iconst (pc' := 144) (v := (1 : Int32)) dX4_goDay_143 rfl (by decide) ?_
                  refine a_isub (pc' := 145) dX4_goDay_144 rfl ?_
                  refine a_aload_n (pc' := 146) 2 dX4_goDay_145 rfl rfl rfl ?_
                  refine g_X4_7 (pc' := 149) hz.1 rfl dX4_goDay_146 rfl ?_
                  refine a_bipush (pc' := 151) (v := (6 : Int32)) dX4_goDay_149 rfl (by decide) ?_
                  obtain ⟨hg, hf⟩ := f_grd_x hf
                  refine b_iald (pc' := 152) hz.2.1 hg dX4_goDay_151 rfl ?_
                  refine a_iconst (pc' := 153) (v := (2 : Int32)) dX4_goDay_152 rfl (by decide) ?_
                  refine a_iadd (pc' := 154) dX4_goDay_153 rfl ?_
                  refine a_iconst (pc' := 155) (v := (5 : Int32)) dX4_goDay_154 rfl (by decide) ?_
                  refine a_irem (pc' := 156) dX4_goDay_155 rfl (by decide) ?_
                  obtain ⟨x208, e207, hf⟩ := Option.bind_eq_some_iff.mp hf
                  refine k_X4_110 (pc' := 159) (c_X4_fall l g F hz e207) ⟨Nat.le_of_ble_eq_true rfl, Nat.le_of_ble_eq_true rfl⟩ hz.1 (Nat.le_of_ble_eq_true rfl) dX4_goDay_156 rfl (fun h209 hq => ?_)
                  obtain ⟨hz1, hfr1⟩ := hq
                  obtain ⟨M210, hf, hz⟩ := f_let_x (P := fun w => d_mod h209 w) hf hz1
                  replace hfr := d_frm.tr hfr hfr1 (by omega)
                  refine a_goto 163 dX4_goDay_159 (by decide) ?_
                  refine a_iadd (pc' := 164) dX4_goDay_163 rfl ?_
                  refine a_istore_n (pc' := 165) (ls' := [(3, .int ((((0 : Int32)) + x199.1) + x208.1)), (2, .int ((1 : Int32))), (0, .ref 55), (1, .int a1)]) dX4_goDay_164 rfl (by decide) rfl rfl ?_
                  refine a_aload_n (pc' := 166) 2 dX4_goDay_165 rfl rfl rfl ?_
                  refine g_X4_7 (pc' := 169) hz.1 rfl dX4_goDay_166 rfl ?_
                  refine a_bipush (pc' := 171) (v := (7 : Int32)) dX4_goDay_169 rfl (by decide) ?_
                  refine a_aload_n (pc' := 172) 2 dX4_goDay_171 rfl rfl rfl ?_
                  refine g_X4_7 (pc' := 175) hz.1 rfl dX4_goDay_172 rfl ?_
                  refine a_iconst (pc' := 176) (v := (4 : Int32)) dX4_goDay_175 rfl (by decide) ?_
                  obtain ⟨hg, hf⟩ := f_grd_x hf
                  refine b_iald (pc' := 177) hz.2.1 hg dX4_goDay_176 rfl ?_
                  obtain ⟨hg, hf⟩ := f_grd_x hf
                  refine b_iast (pc' := 178) hz.2.1 hg dX4_goDay_177 rfl (fun h211 hz1 hfr1 => ?_)
                  obtain ⟨hz1, hfr1⟩ := d_ma_z hz hz1 hfr1
                  obtain ⟨M212, hf, hz⟩ := f_let_x (P := fun w => d_mod h211 w) hf hz1
                  replace hfr := d_frm.tr hfr hfr1 (by omega)
                  refine a_iload_n (pc' := 179) 0 dX4_goDay_178 rfl rfl rfl ?_
                  cases hf
                  exact a_iret hr ⟨rfl, hz, hfr⟩ dX4_goDay_179
          · replace hf := (if_neg k180).symm.trans hf
            refine a_aload_n (pc' := 73) 1 dX4_goDay_72 rfl rfl rfl ?_
            refine g_X4_7 (pc' := 76) hz.1 rfl dX4_goDay_73 rfl ?_
            refine a_bipush (pc' := 78) (v := (8 : Int32)) dX4_goDay_76 rfl (by decide) ?_
            refine a_dup2 (pc' := 79) dX4_goDay_78 rfl rfl rfl ?_
            obtain ⟨hg, hf⟩ := f_grd_x hf
            refine b_iald (pc' := 80) hz.2.1 hg dX4_goDay_79 rfl ?_
            refine a_iconst (pc' := 81) (v := (1 : Int32)) dX4_goDay_80 rfl (by decide) ?_
            refine a_isub (pc' := 82) dX4_goDay_81 rfl ?_
            obtain ⟨hg, hf⟩ := f_grd_x hf
            refine b_iast (pc' := 83) hz.2.1 hg dX4_goDay_82 rfl (fun h213 hz1 hfr1 => ?_)
            obtain ⟨hz1, hfr1⟩ := d_ma_z hz hz1 hfr1
            obtain ⟨M214, hf, hz⟩ := f_let_x (P := fun w => d_mod h213 w) hf hz1
            replace hfr := d_frm.tr hfr hfr1 (by omega)
            refine a_iconst (pc' := 84) (v := (0 : Int32)) dX4_goDay_83 rfl (by decide) ?_
            refine a_istore_n (pc' := 85) (ls' := [(3, .int ((0 : Int32))), (2, .int ((1 : Int32))), (0, .ref 55), (1, .int a1)]) dX4_goDay_84 rfl (by decide) rfl rfl ?_
            refine a_iload_n (pc' := 86) 3 dX4_goDay_85 rfl rfl rfl ?_
            refine a_iconst (pc' := 87) (v := (2 : Int32)) dX4_goDay_86 rfl (by decide) ?_
            refine a_icmp_ne (pc' := 90) 165 dX4_goDay_87 (by decide) rfl (fun k215 => ?_) (fun k215 => ?_)
            · replace hf := (if_neg k215).symm.trans hf
              refine a_aload_n (pc' := 166) 2 dX4_goDay_165 rfl rfl rfl ?_
              refine g_X4_7 (pc' := 169) hz.1 rfl dX4_goDay_166 rfl ?_
              refine a_bipush (pc' := 171) (v := (7 : Int32)) dX4_goDay_169 rfl (by decide) ?_
              refine a_aload_n (pc' := 172) 2 dX4_goDay_171 rfl rfl rfl ?_
              refine g_X4_7 (pc' := 175) hz.1 rfl dX4_goDay_172 rfl ?_
              refine a_iconst (pc' := 176) (v := (4 : Int32)) dX4_goDay_175 rfl (by decide) ?_
              obtain ⟨hg, hf⟩ := f_grd_x hf
              refine b_iald (pc' := 177) hz.2.1 hg dX4_goDay_176 rfl ?_
              obtain ⟨hg, hf⟩ := f_grd_x hf
              refine b_iast (pc' := 178) hz.2.1 hg dX4_goDay_177 rfl (fun h216 hz1 hfr1 => ?_)
              obtain ⟨hz1, hfr1⟩ := d_ma_z hz hz1 hfr1
              obtain ⟨M217, hf, hz⟩ := f_let_x (P := fun w => d_mod h216 w) hf hz1
              replace hfr := d_frm.tr hfr hfr1 (by omega)
              refine a_iload_n (pc' := 179) 0 dX4_goDay_178 rfl rfl rfl ?_
              cases hf
              exact a_iret hr ⟨rfl, hz, hfr⟩ dX4_goDay_179
            · replace hf := (if_pos k215).symm.trans hf
              refine a_iload_n (pc' := 91) 1 dX4_goDay_90 rfl rfl rfl ?_
              refine a_if_eq (pc' := 94) 165 dX4_goDay_91 (by decide) rfl (fun cc => absurd cc (by decide)) (fun _ => ?_)
              refine a_iload_n (pc' := 95) 0 dX4_goDay_94 rfl rfl rfl ?_
              refine a_aload_n (pc' := 96) 2 dX4_goDay_95 rfl rfl rfl ?_
              refine g_X4_7 (pc' := 99) hz.1 rfl dX4_goDay_96 rfl ?_
              refine a_iconst (pc' := 100) (v := (2 : Int32)) dX4_goDay_99 rfl (by decide) ?_
              obtain ⟨hg, hf⟩ := f_grd_x hf
              refine b_iald (pc' := 101) hz.2.1 hg dX4_goDay_100 rfl ?_
              refine a_if_le (pc' := 104) 124 dX4_goDay_101 (by decide) rfl (fun k218 => ?_) (fun k218 => ?_)
              · replace hf := (if_pos k218).symm.trans hf
                refine a_iconst (pc' := 125) (v := (0 : Int32)) dX4_goDay_124 rfl (by decide) ?_
                refine a_iadd (pc' := 126) dX4_goDay_125 rfl ?_
                refine a_istore_n (pc' := 127) (ls' := [(3, .int (((0 : Int32)) + ((0 : Int32)))), (2, .int ((1 : Int32))), (0, .ref 55), (1, .int a1)]) dX4_goDay_126 rfl (by decide) rfl rfl ?_
                refine a_iload_n (pc' := 128) 0 dX4_goDay_127 rfl rfl rfl ?_
                refine a_aload_n (pc' := 129) 2 dX4_goDay_128 rfl rfl rfl ?_
                refine g_X4_7 (pc' := 132) hz.1 rfl dX4_goDay_129 rfl ?_
                refine a_iconst (pc' := 133) (v := (2 : Int32)) dX4_goDay_132 rfl (by decide) ?_
                obtain ⟨hg, hf⟩ := f_grd_x hf
                refine b_iald (pc' := 134) hz.2.1 hg dX4_goDay_133 rfl ?_
                refine a_iconst (pc' := 135) (v := (1 : Int32)) dX4_goDay_134 rfl (by decide) ?_
                refine a_icmp_le (pc' := 138) 162 dX4_goDay_135 (by decide) rfl (fun k219 => ?_) (fun k219 => ?_)
                · replace hf := (if_pos k219).symm.trans hf
                  refine a_iconst (pc' := 163) (v := (0 : Int32)) dX4_goDay_162 rfl (by decide) ?_
                  refine a_iadd (pc' := 164) dX4_goDay_163 rfl ?_
                  refine a_istore_n (pc' := 165) (ls' := [(3, .int ((((0 : Int32)) + ((0 : Int32))) + ((0 : Int32)))), (2, .int ((1 : Int32))), (0, .ref 55), (1, .int a1)]) dX4_goDay_164 rfl (by decide) rfl rfl ?_
                  refine a_aload_n (pc' := 166) 2 dX4_goDay_165 rfl rfl rfl ?_
                  refine g_X4_7 (pc' := 169) hz.1 rfl dX4_goDay_166 rfl ?_
                  refine a_bipush (pc' := 171) (v := (7 : Int32)) dX4_goDay_169 rfl (by decide) ?_
                  refine a_aload_n (pc' := 172) 2 dX4_goDay_171 rfl rfl rfl ?_
                  refine g_X4_7 (pc' := 175) hz.1 rfl dX4_goDay_172 rfl ?_
                  refine a_iconst (pc' := 176) (v := (4 : Int32)) dX4_goDay_175 rfl (by decide) ?_
                  obtain ⟨hg, hf⟩ := f_grd_x hf
                  refine b_iald (pc' := 177) hz.2.1 hg dX4_goDay_176 rfl ?_
                  obtain ⟨hg, hf⟩ := f_grd_x hf
                  refine b_iast (pc' := 178) hz.2.1 hg dX4_goDay_177 rfl (fun h220 hz1 hfr1 => ?_)
                  obtain ⟨hz1, hfr1⟩ := d_ma_z hz hz1 hfr1
                  obtain ⟨M221, hf, hz⟩ := f_let_x (P := fun w => d_mod h220 w) hf hz1
                  replace hfr := d_frm.tr hfr hfr1 (by omega)
                  refine a_iload_n (pc' := 179) 0 dX4_goDay_178 rfl rfl rfl ?_
                  cases hf
                  exact a_iret hr ⟨rfl, hz, hfr⟩ dX4_goDay_179
                · replace hf := (if_neg k219).symm.trans hf
                  refine a_aload_n (pc' := 139) 2 dX4_goDay_138 rfl rfl rfl ?_
                  refine a_aload_n (pc' := 140) 2 dX4_goDay_139 rfl rfl rfl ?_
                  obtain ⟨x223, e222, hf⟩ := Option.bind_eq_some_iff.mp hf
                  refine k_X4_87 (pc' := 143) (c_X4_lastCourse l g F hz e222) ⟨Nat.le_of_ble_eq_true rfl, Nat.le_of_ble_eq_true rfl⟩ hz.1 (Nat.le_of_ble_eq_true rfl) dX4_goDay_140 rfl ?_
                  refine a_iconst (pc' := 144) (v := (1 : Int32)) dX4_goDay_143 rfl (by decide) ?_
                  refine a_isub (pc' := 145) dX4_goDay_144 rfl ?_
                  refine a_aload_n (pc' := 146) 2 dX4_goDay_145 rfl rfl rfl ?_
                  refine g_X4_7 (pc' := 149) hz.1 rfl dX4_goDay_146 rfl ?_
                  refine a_bipush (pc' := 151) (v := (6 : Int32)) dX4_goDay_149 rfl (by decide) ?_
                  obtain ⟨hg, hf⟩ := f_grd_x hf
                  refine b_iald (pc' := 152) hz.2.1 hg dX4_goDay_151 rfl ?_
                  refine a_iconst (pc' := 153) (v := (2 : Int32)) dX4_goDay_152 rfl (by decide) ?_
                  refine a_iadd (pc' := 154) dX4_goDay_153 rfl ?_
                  refine a_iconst (pc' := 155) (v := (5 : Int32)) dX4_goDay_154 rfl (by decide) ?_
                  refine a_irem (pc' := 156) dX4_goDay_155 rfl (by decide) ?_
                  obtain ⟨x225, e224, hf⟩ := Option.bind_eq_some_iff.mp hf
                  refine k_X4_110 (pc' := 159) (c_X4_fall l g F hz e224) ⟨Nat.le_of_ble_eq_true rfl, Nat.le_of_ble_eq_true rfl⟩ hz.1 (Nat.le_of_ble_eq_true rfl) dX4_goDay_156 rfl (fun h226 hq => ?_)
                  obtain ⟨hz1, hfr1⟩ := hq
                  obtain ⟨M227, hf, hz⟩ := f_let_x (P := fun w => d_mod h226 w) hf hz1
                  replace hfr := d_frm.tr hfr hfr1 (by omega)
                  refine a_goto 163 dX4_goDay_159 (by decide) ?_
                  refine a_iadd (pc' := 164) dX4_goDay_163 rfl ?_
                  refine a_istore_n (pc' := 165) (ls' := [(3, .int ((((0 : Int32)) + ((0 : Int32))) + x225.1)), (2, .int ((1 : Int32))), (0, .ref 55), (1, .int a1)]) dX4_goDay_164 rfl (by decide) rfl rfl ?_
                  refine a_aload_n (pc' := 166) 2 dX4_goDay_165 rfl rfl rfl ?_
                  refine g_X4_7 (pc' := 169) hz.1 rfl dX4_goDay_166 rfl ?_
                  refine a_bipush (pc' := 171) (v := (7 : Int32)) dX4_goDay_169 rfl (by decide) ?_
                  refine a_aload_n (pc' := 172) 2 dX4_goDay_171 rfl rfl rfl ?_
                  refine g_X4_7 (pc' := 175) hz.1 rfl dX4_goDay_172 rfl ?_
                  refine a_iconst (pc' := 176) (v := (4 : Int32)) dX4_goDay_175 rfl (by decide) ?_
                  obtain ⟨hg, hf⟩ := f_grd_x hf
                  refine b_iald (pc' := 177) hz.2.1 hg dX4_goDay_176 rfl ?_
                  obtain ⟨hg, hf⟩ := f_grd_x hf
                  refine b_iast (pc' := 178) hz.2.1 hg dX4_goDay_177 rfl (fun h228 hz1 hfr1 => ?_)
                  obtain ⟨hz1, hfr1⟩ := d_ma_z hz hz1 hfr1
                  obtain ⟨M229, hf, hz⟩ := f_let_x (P := fun w => d_mod h228 w) hf hz1
                  replace hfr := d_frm.tr hfr hfr1 (by omega)
                  refine a_iload_n (pc' := 179) 0 dX4_goDay_178 rfl rfl rfl ?_
                  cases hf
                  exact a_iret hr ⟨rfl, hz, hfr⟩ dX4_goDay_179
              · replace hf := (if_neg k218).symm.trans hf
                refine a_aload_n (pc' := 105) 2 dX4_goDay_104 rfl rfl rfl ?_
                refine a_aload_n (pc' := 106) 2 dX4_goDay_105 rfl rfl rfl ?_
                obtain ⟨x231, e230, hf⟩ := Option.bind_eq_some_iff.mp hf
                refine k_X4_87 (pc' := 109) (c_X4_lastCourse l g F hz e230) ⟨Nat.le_of_ble_eq_true rfl, Nat.le_of_ble_eq_true rfl⟩ hz.1 (Nat.le_of_ble_eq_true rfl) dX4_goDay_106 rfl ?_
                refine a_aload_n (pc' := 110) 2 dX4_goDay_109 rfl rfl rfl ?_
                refine g_X4_7 (pc' := 113) hz.1 rfl dX4_goDay_110 rfl ?_
                refine a_bipush (pc' := 115) (v := (6 : Int32)) dX4_goDay_113 rfl (by decide) ?_
                obtain ⟨hg, hf⟩ := f_grd_x hf
                refine b_iald (pc' := 116) hz.2.1 hg dX4_goDay_115 rfl ?_
                refine a_iconst (pc' := 117) (v := (5 : Int32)) dX4_goDay_116 rfl (by decide) ?_
                refine a_irem (pc' := 118) dX4_goDay_117 rfl (by decide) ?_
                obtain ⟨x233, e232, hf⟩ := Option.bind_eq_some_iff.mp hf
                refine k_X4_110 (pc' := 121) (c_X4_fall l g F hz e232) ⟨Nat.le_of_ble_eq_true rfl, Nat.le_of_ble_eq_true rfl⟩ hz.1 (Nat.le_of_ble_eq_true rfl) dX4_goDay_118 rfl (fun h234 hq => ?_)
                obtain ⟨hz1, hfr1⟩ := hq
                obtain ⟨M235, hf, hz⟩ := f_let_x (P := fun w => d_mod h234 w) hf hz1
                replace hfr := d_frm.tr hfr hfr1 (by omega)
                refine a_goto 125 dX4_goDay_121 (by decide) ?_
                refine a_iadd (pc' := 126) dX4_goDay_125 rfl ?_
                refine a_istore_n (pc' := 127) (ls' := [(3, .int (((0 : Int32)) + x233.1)), (2, .int ((1 : Int32))), (0, .ref 55), (1, .int a1)]) dX4_goDay_126 rfl (by decide) rfl rfl ?_
                refine a_iload_n (pc' := 128) 0 dX4_goDay_127 rfl rfl rfl ?_
                refine a_aload_n (pc' := 129) 2 dX4_goDay_128 rfl rfl rfl ?_
                refine g_X4_7 (pc' := 132) hz.1 rfl dX4_goDay_129 rfl ?_
                refine a_iconst (pc' := 133) (v := (2 : Int32)) dX4_goDay_132 rfl (by decide) ?_
                obtain ⟨hg, hf⟩ := f_grd_x hf
                refine b_iald (pc' := 134) hz.2.1 hg dX4_goDay_133 rfl ?_
                refine a_iconst (pc' := 135) (v := (1 : Int32)) dX4_goDay_134 rfl (by decide) ?_
                refine a_icmp_le (pc' := 138) 162 dX4_goDay_135 (by decide) rfl (fun k236 => ?_) (fun k236 => ?_)
                · replace hf := (if_pos k236).symm.trans hf
                  refine a_iconst (pc' := 163) (v := (0 : Int32)) dX4_goDay_162 rfl (by decide) ?_
                  refine a_iadd (pc' := 164) dX4_goDay_163 rfl ?_
                  refine a_istore_n (pc' := 165) (ls' := [(3, .int ((((0 : Int32)) + x233.1) + ((0 : Int32)))), (2, .int ((1 : Int32))), (0, .ref 55), (1, .int a1)]) dX4_goDay_164 rfl (by decide) rfl rfl ?_
                  refine a_aload_n (pc' := 166) 2 dX4_goDay_165 rfl rfl rfl ?_
                  refine g_X4_7 (pc' := 169) hz.1 rfl dX4_goDay_166 rfl ?_
                  refine a_bipush (pc' := 171) (v := (7 : Int32)) dX4_goDay_169 rfl (by decide) ?_
                  refine a_aload_n (pc' := 172) 2 dX4_goDay_171 rfl rfl rfl ?_
                  refine g_X4_7 (pc' := 175) hz.1 rfl dX4_goDay_172 rfl ?_
                  refine a_iconst (pc' := 176) (v := (4 : Int32)) dX4_goDay_175 rfl (by decide) ?_
                  obtain ⟨hg, hf⟩ := f_grd_x hf
                  refine b_iald (pc' := 177) hz.2.1 hg dX4_goDay_176 rfl ?_
                  obtain ⟨hg, hf⟩ := f_grd_x hf
                  refine b_iast (pc' := 178) hz.2.1 hg dX4_goDay_177 rfl (fun h237 hz1 hfr1 => ?_)
                  obtain ⟨hz1, hfr1⟩ := d_ma_z hz hz1 hfr1
                  obtain ⟨M238, hf, hz⟩ := f_let_x (P := fun w => d_mod h237 w) hf hz1
                  replace hfr := d_frm.tr hfr hfr1 (by omega)
                  refine a_iload_n (pc' := 179) 0 dX4_goDay_178 rfl rfl rfl ?_
                  cases hf
                  exact a_iret hr ⟨rfl, hz, hfr⟩ dX4_goDay_179
                · replace hf := (if_neg k236).symm.trans hf
                  refine a_aload_n (pc' := 139) 2 dX4_goDay_138 rfl rfl rfl ?_
                  refine a_aload_n (pc' := 140) 2 dX4_goDay_139 rfl rfl rfl ?_
                  obtain ⟨x240, e239, hf⟩ := Option.bind_eq_some_iff.mp hf
                  refine k_X4_87 (pc' := 143) (c_X4_lastCourse l g F hz e239) ⟨Nat.le_of_ble_eq_true rfl, Nat.le_of_ble_eq_true rfl⟩ hz.1 (Nat.le_of_ble_eq_true rfl) dX4_goDay_140 rfl ?_
                  refine a_iconst (pc' := 144) (v := (1 : Int32)) dX4_goDay_143 rfl (by decide) ?_
                  refine a_isub (pc' := 145) dX4_goDay_144 rfl ?_
                  refine a_aload_n (pc' := 146) 2 dX4_goDay_145 rfl rfl rfl ?_
                  refine g_X4_7 (pc' := 149) hz.1 rfl dX4_goDay_146 rfl ?_
                  refine a_bipush (pc' := 151) (v := (6 : Int32)) dX4_goDay_149 rfl (by decide) ?_
                  obtain ⟨hg, hf⟩ := f_grd_x hf
                  refine b_iald (pc' := 152) hz.2.1 hg dX4_goDay_151 rfl ?_
                  refine a_iconst (pc' := 153) (v := (2 : Int32)) dX4_goDay_152 rfl (by decide) ?_
                  refine a_iadd (pc' := 154) dX4_goDay_153 rfl ?_
                  refine a_iconst (pc' := 155) (v := (5 : Int32)) dX4_goDay_154 rfl (by decide) ?_
                  refine a_irem (pc' := 156) dX4_goDay_155 rfl (by decide) ?_
                  obtain ⟨x242, e241, hf⟩ := Option.bind_eq_some_iff.mp hf
                  refine k_X4_110 (pc' := 159) (c_X4_fall l g F hz e241) ⟨Nat.le_of_ble_eq_true rfl, Nat.le_of_ble_eq_true rfl⟩ hz.1 (Nat.le_of_ble_eq_true rfl) dX4_goDay_156 rfl (fun h243 hq => ?_)
                  obtain ⟨hz1, hfr1⟩ := hq
                  obtain ⟨M244, hf, hz⟩ := f_let_x (P := fun w => d_mod h243 w) hf hz1
                  replace hfr := d_frm.tr hfr hfr1 (by omega)
                  refine a_goto 163 dX4_goDay_159 (by decide) ?_
                  refine a_iadd (pc' := 164) dX4_goDay_163 rfl ?_
                  refine a_istore_n (pc' := 165) (ls' := [(3, .int ((((0 : Int32)) + x233.1) + x242.1)), (2, .int ((1 : Int32))), (0, .ref 55), (1, .int a1)]) dX4_goDay_164 rfl (by decide) rfl rfl ?_
                  refine a_aload_n (pc' := 166) 2 dX4_goDay_165 rfl rfl rfl ?_
                  refine g_X4_7 (pc' := 169) hz.1 rfl dX4_goDay_166 rfl ?_
                  refine a_bipush (pc' := 171) (v := (7 : Int32)) dX4_goDay_169 rfl (by decide) ?_
                  refine a_aload_n (pc' := 172) 2 dX4_goDay_171 rfl rfl rfl ?_
                  refine g_X4_7 (pc' := 175) hz.1 rfl dX4_goDay_172 rfl ?_
                  refine a_iconst (pc' := 176) (v := (4 : Int32)) dX4_goDay_175 rfl (by decide) ?_
                  obtain ⟨hg, hf⟩ := f_grd_x hf
                  refine b_iald (pc' := 177) hz.2.1 hg dX4_goDay_176 rfl ?_
                  obtain ⟨hg, hf⟩ := f_grd_x hf
                  refine b_iast (pc' := 178) hz.2.1 hg dX4_goDay_177 rfl (fun h245 hz1 hfr1 => ?_)
                  obtain ⟨hz1, hfr1⟩ := d_ma_z hz hz1 hfr1
                  obtain ⟨M246, hf, hz⟩ := f_let_x (P := fun w => d_mod h245 w) hf hz1
                  replace hfr := d_frm.tr hfr hfr1 (by omega)
                  refine a_iload_n (pc' := 179) 0 dX4_goDay_178 rfl rfl rfl ?_
                  cases hf
                  exact a_iret hr ⟨rfl, hz, hfr⟩ dX4_goDay_179
      · replace hf := (if_pos k146).symm.trans hf
        refine a_aload_n (pc' := 43) 1 dX4_goDay_42 rfl rfl rfl ?_
        refine g_X4_7 (pc' := 46) hz.1 rfl dX4_goDay_43 rfl ?_
        refine a_bipush (pc' := 48) (v := (8 : Int32)) dX4_goDay_46 rfl (by decide) ?_
        refine a_aload_n (pc' := 49) 1 dX4_goDay_48 rfl rfl rfl ?_
        refine g_X4_7 (pc' := 52) hz.1 rfl dX4_goDay_49 rfl ?_
        refine a_iconst (pc' := 53) (v := (5 : Int32)) dX4_goDay_52 rfl (by decide) ?_
        obtain ⟨hg, hf⟩ := f_grd_x hf
        refine b_iald (pc' := 54) hz.2.1 hg dX4_goDay_53 rfl ?_
        obtain ⟨hg, hf⟩ := f_grd_x hf
        refine b_iast (pc' := 55) hz.2.1 hg dX4_goDay_54 rfl (fun h247 hz1 hfr1 => ?_)
        obtain ⟨hz1, hfr1⟩ := d_ma_z hz hz1 hfr1
        obtain ⟨M248, hf, hz⟩ := f_let_x (P := fun w => d_mod h247 w) hf hz1
        replace hfr := d_frm.tr hfr hfr1 (by omega)
        refine a_goto 83 dX4_goDay_55 (by decide) ?_
        refine a_iconst (pc' := 84) (v := (0 : Int32)) dX4_goDay_83 rfl (by decide) ?_
        refine a_istore_n (pc' := 85) (ls' := [(3, .int ((0 : Int32))), (2, .int ((1 : Int32))), (0, .ref 55), (1, .int a1)]) dX4_goDay_84 rfl (by decide) rfl rfl ?_
        refine a_iload_n (pc' := 86) 3 dX4_goDay_85 rfl rfl rfl ?_
        refine a_iconst (pc' := 87) (v := (2 : Int32)) dX4_goDay_86 rfl (by decide) ?_
        refine a_icmp_ne (pc' := 90) 165 dX4_goDay_87 (by decide) rfl (fun k249 => ?_) (fun k249 => ?_)
        · replace hf := (if_neg k249).symm.trans hf
          refine a_aload_n (pc' := 166) 2 dX4_goDay_165 rfl rfl rfl ?_
          refine g_X4_7 (pc' := 169) hz.1 rfl dX4_goDay_166 rfl ?_
          refine a_bipush (pc' := 171) (v := (7 : Int32)) dX4_goDay_169 rfl (by decide) ?_
          refine a_aload_n (pc' := 172) 2 dX4_goDay_171 rfl rfl rfl ?_
          refine g_X4_7 (pc' := 175) hz.1 rfl dX4_goDay_172 rfl ?_
          refine a_iconst (pc' := 176) (v := (4 : Int32)) dX4_goDay_175 rfl (by decide) ?_
          obtain ⟨hg, hf⟩ := f_grd_x hf
          refine b_iald (pc' := 177) hz.2.1 hg dX4_goDay_176 rfl ?_
          obtain ⟨hg, hf⟩ := f_grd_x hf
          refine b_iast (pc' := 178) hz.2.1 hg dX4_goDay_177 rfl (fun h250 hz1 hfr1 => ?_)
          obtain ⟨hz1, hfr1⟩ := d_ma_z hz hz1 hfr1
          obtain ⟨M251, hf, hz⟩ := f_let_x (P := fun w => d_mod h250 w) hf hz1
          replace hfr := d_frm.tr hfr hfr1 (by omega)
          refine a_iload_n (pc' := 179) 0 dX4_goDay_178 rfl rfl rfl ?_
          cases hf
          exact a_iret hr ⟨rfl, hz, hfr⟩ dX4_goDay_179
        · replace hf := (if_pos k249).symm.trans hf
          refine a_iload_n (pc' := 91) 1 dX4_goDay_90 rfl rfl rfl ?_
          refine a_if_eq (pc' := 94) 165 dX4_goDay_91 (by decide) rfl (fun cc => absurd cc (by decide)) (fun _ => ?_)
          refine a_iload_n (pc' := 95) 0 dX4_goDay_94 rfl rfl rfl ?_
          refine a_aload_n (pc' := 96) 2 dX4_goDay_95 rfl rfl rfl ?_
          refine g_X4_7 (pc' := 99) hz.1 rfl dX4_goDay_96 rfl ?_
          refine a_iconst (pc' := 100) (v := (2 : Int32)) dX4_goDay_99 rfl (by decide) ?_
          obtain ⟨hg, hf⟩ := f_grd_x hf
          refine b_iald (pc' := 101) hz.2.1 hg dX4_goDay_100 rfl ?_
          refine a_if_le (pc' := 104) 124 dX4_goDay_101 (by decide) rfl (fun k252 => ?_) (fun k252 => ?_)
          · replace hf := (if_pos k252).symm.trans hf
            refine a_iconst (pc' := 125) (v := (0 : Int32)) dX4_goDay_124 rfl (by decide) ?_
            refine a_iadd (pc' := 126) dX4_goDay_125 rfl ?_
            refine a_istore_n (pc' := 127) (ls' := [(3, .int (((0 : Int32)) + ((0 : Int32)))), (2, .int ((1 : Int32))), (0, .ref 55), (1, .int a1)]) dX4_goDay_126 rfl (by decide) rfl rfl ?_
            refine a_iload_n (pc' := 128) 0 dX4_goDay_127 rfl rfl rfl ?_
            refine a_aload_n (pc' := 129) 2 dX4_goDay_128 rfl rfl rfl ?_
            refine g_X4_7 (pc' := 132) hz.1 rfl dX4_goDay_129 rfl ?_
            refine a_iconst (pc' := 133) (v := (2 : Int32)) dX4_goDay_132 rfl (by decide) ?_
            obtain ⟨hg, hf⟩ := f_grd_x hf
            refine b_iald (pc' := 134) hz.2.1 hg dX4_goDay_133 rfl ?_
            refine a_iconst (pc' := 135) (v := (1 : Int32)) dX4_goDay_134 rfl (by decide) ?_
            refine a_icmp_le (pc' := 138) 162 dX4_goDay_135 (by decide) rfl (fun k253 => ?_) (fun k253 => ?_)
            · replace hf := (if_pos k253).symm.trans hf
              refine a_iconst (pc' := 163) (v := (0 : Int32)) dX4_goDay_162 rfl (by decide) ?_
              refine a_iadd (pc' := 164) dX4_goDay_163 rfl ?_
              refine a_istore_n (pc' := 165) (ls' := [(3, .int ((((0 : Int32)) + ((0 : Int32))) + ((0 : Int32)))), (2, .int ((1 : Int32))), (0, .ref 55), (1, .int a1)]) dX4_goDay_164 rfl (by decide) rfl rfl ?_
              refine a_aload_n (pc' := 166) 2 dX4_goDay_165 rfl rfl rfl ?_
              refine g_X4_7 (pc' := 169) hz.1 rfl dX4_goDay_166 rfl ?_
              refine a_bipush (pc' := 171) (v := (7 : Int32)) dX4_goDay_169 rfl (by decide) ?_
              refine a_aload_n (pc' := 172) 2 dX4_goDay_171 rfl rfl rfl ?_
              refine g_X4_7 (pc' := 175) hz.1 rfl dX4_goDay_172 rfl ?_
              refine a_iconst (pc' := 176) (v := (4 : Int32)) dX4_goDay_175 rfl (by decide) ?_
              obtain ⟨hg, hf⟩ := f_grd_x hf
              refine b_iald (pc' := 177) hz.2.1 hg dX4_goDay_176 rfl ?_
              obtain ⟨hg, hf⟩ := f_grd_x hf
              refine b_iast (pc' := 178) hz.2.1 hg dX4_goDay_177 rfl (fun h254 hz1 hfr1 => ?_)
              obtain ⟨hz1, hfr1⟩ := d_ma_z hz hz1 hfr1
              obtain ⟨M255, hf, hz⟩ := f_let_x (P := fun w => d_mod h254 w) hf hz1
              replace hfr := d_frm.tr hfr hfr1 (by omega)
              refine a_iload_n (pc' := 179) 0 dX4_goDay_178 rfl rfl rfl ?_
              cases hf
              exact a_iret hr ⟨rfl, hz, hfr⟩ dX4_goDay_179
            · replace hf := (if_neg k253).symm.trans hf
              refine a_aload_n (pc' := 139) 2 dX4_goDay_138 rfl rfl rfl ?_
              refine a_aload_n (pc' := 140) 2 dX4_goDay_139 rfl rfl rfl ?_
              obtain ⟨x257, e256, hf⟩ := Option.bind_eq_some_iff.mp hf
              refine k_X4_87 (pc' := 143) (c_X4_lastCourse l g F hz e256) ⟨Nat.le_of_ble_eq_true rfl, Nat.le_of_ble_eq_true rfl⟩ hz.1 (Nat.le_of_ble_eq_true rfl) dX4_goDay_140 rfl ?_
              refine a_iconst (pc' := 144) (v := (1 : Int32)) dX4_goDay_143 rfl (by decide) ?_
              refine a_isub (pc' := 145) dX4_goDay_144 rfl ?_
              refine a_aload_n (pc' := 146) 2 dX4_goDay_145 rfl rfl rfl ?_
              refine g_X4_7 (pc' := 149) hz.1 rfl dX4_goDay_146 rfl ?_
              refine a_bipush (pc' := 151) (v := (6 : Int32)) dX4_goDay_149 rfl (by decide) ?_
              obtain ⟨hg, hf⟩ := f_grd_x hf
              refine b_iald (pc' := 152) hz.2.1 hg dX4_goDay_151 rfl ?_
              refine a_iconst (pc' := 153) (v := (2 : Int32)) dX4_goDay_152 rfl (by decide) ?_
              refine a_iadd (pc' := 154) dX4_goDay_153 rfl ?_
              refine a_iconst (pc' := 155) (v := (5 : Int32)) dX4_goDay_154 rfl (by decide) ?_
              refine a_irem (pc' := 156) dX4_goDay_155 rfl (by decide) ?_
              obtain ⟨x259, e258, hf⟩ := Option.bind_eq_some_iff.mp hf
              refine k_X4_110 (pc' := 159) (c_X4_fall l g F hz e258) ⟨Nat.le_of_ble_eq_true rfl, Nat.le_of_ble_eq_true rfl⟩ hz.1 (Nat.le_of_ble_eq_true rfl) dX4_goDay_156 rfl (fun h260 hq => ?_)
              obtain ⟨hz1, hfr1⟩ := hq
              obtain ⟨M261, hf, hz⟩ := f_let_x (P := fun w => d_mod h260 w) hf hz1
              replace hfr := d_frm.tr hfr hfr1 (by omega)
              refine a_goto 163 dX4_goDay_159 (by decide) ?_
              refine a_iadd (pc' := 164) dX4_goDay_163 rfl ?_
              refine a_istore_n (pc' := 165) (ls' := [(3, .int ((((0 : Int32)) + ((0 : Int32))) + x259.1)), (2, .int ((1 : Int32))), (0, .ref 55), (1, .int a1)]) dX4_goDay_164 rfl (by decide) rfl rfl ?_
              refine a_aload_n (pc' := 166) 2 dX4_goDay_165 rfl rfl rfl ?_
              refine g_X4_7 (pc' := 169) hz.1 rfl dX4_goDay_166 rfl ?_
              refine a_bipush (pc' := 171) (v := (7 : Int32)) dX4_goDay_169 rfl (by decide) ?_
              refine a_aload_n (pc' := 172) 2 dX4_goDay_171 rfl rfl rfl ?_
              refine g_X4_7 (pc' := 175) hz.1 rfl dX4_goDay_172 rfl ?_
              refine a_iconst (pc' := 176) (v := (4 : Int32)) dX4_goDay_175 rfl (by decide) ?_
              obtain ⟨hg, hf⟩ := f_grd_x hf
              refine b_iald (pc' := 177) hz.2.1 hg dX4_goDay_176 rfl ?_
              obtain ⟨hg, hf⟩ := f_grd_x hf
              refine b_iast (pc' := 178) hz.2.1 hg dX4_goDay_177 rfl (fun h262 hz1 hfr1 => ?_)
              obtain ⟨hz1, hfr1⟩ := d_ma_z hz hz1 hfr1
              obtain ⟨M263, hf, hz⟩ := f_let_x (P := fun w => d_mod h262 w) hf hz1
              replace hfr := d_frm.tr hfr hfr1 (by omega)
              refine a_iload_n (pc' := 179) 0 dX4_goDay_178 rfl rfl rfl ?_
              cases hf
              exact a_iret hr ⟨rfl, hz, hfr⟩ dX4_goDay_179
          · replace hf := (if_neg k252).symm.trans hf
            refine a_aload_n (pc' := 105) 2 dX4_goDay_104 rfl rfl rfl ?_
            refine a_aload_n (pc' := 106) 2 dX4_goDay_105 rfl rfl rfl ?_
            obtain ⟨x265, e264, hf⟩ := Option.bind_eq_some_iff.mp hf
            refine k_X4_87 (pc' := 109) (c_X4_lastCourse l g F hz e264) ⟨Nat.le_of_ble_eq_true rfl, Nat.le_of_ble_eq_true rfl⟩ hz.1 (Nat.le_of_ble_eq_true rfl) dX4_goDay_106 rfl ?_
            refine a_aload_n (pc' := 110) 2 dX4_goDay_109 rfl rfl rfl ?_
            refine g_X4_7 (pc' := 113) hz.1 rfl dX4_goDay_110 rfl ?_
            refine a_bipush (pc' := 115) (v := (6 : Int32)) dX4_goDay_113 rfl (by decide) ?_
            obtain ⟨hg, hf⟩ := f_grd_x hf
            refine b_iald (pc' := 116) hz.2.1 hg dX4_goDay_115 rfl ?_
            refine a_iconst (pc' := 117) (v := (5 : Int32)) dX4_goDay_116 rfl (by decide) ?_
            refine a_irem (pc' := 118) dX4_goDay_117 rfl (by decide) ?_
            obtain ⟨x267, e266, hf⟩ := Option.bind_eq_some_iff.mp hf
            refine k_X4_110 (pc' := 121) (c_X4_fall l g F hz e266) ⟨Nat.le_of_ble_eq_true rfl, Nat.le_of_ble_eq_true rfl⟩ hz.1 (Nat.le_of_ble_eq_true rfl) dX4_goDay_118 rfl (fun h268 hq => ?_)
            obtain ⟨hz1, hfr1⟩ := hq
            obtain ⟨M269, hf, hz⟩ := f_let_x (P := fun w => d_mod h268 w) hf hz1
            replace hfr := d_frm.tr hfr hfr1 (by omega)
            refine a_goto 125 dX4_goDay_121 (by decide) ?_
            refine a_iadd (pc' := 126) dX4_goDay_125 rfl ?_
            refine a_istore_n (pc' := 127) (ls' := [(3, .int (((0 : Int32)) + x267.1)), (2, .int ((1 : Int32))), (0, .ref 55), (1, .int a1)]) dX4_goDay_126 rfl (by decide) rfl rfl ?_
            refine a_iload_n (pc' := 128) 0 dX4_goDay_127 rfl rfl rfl ?_
            refine a_aload_n (pc' := 129) 2 dX4_goDay_128 rfl rfl rfl ?_
            refine g_X4_7 (pc' := 132) hz.1 rfl dX4_goDay_129 rfl ?_
            refine a_iconst (pc' := 133) (v := (2 : Int32)) dX4_goDay_132 rfl (by decide) ?_
            obtain ⟨hg, hf⟩ := f_grd_x hf
            refine b_iald (pc' := 134) hz.2.1 hg dX4_goDay_133 rfl ?_
            refine a_iconst (pc' := 135) (v := (1 : Int32)) dX4_goDay_134 rfl (by decide) ?_
            refine a_icmp_le (pc' := 138) 162 dX4_goDay_135 (by decide) rfl (fun k270 => ?_) (fun k270 => ?_)
            · replace hf := (if_pos k270).symm.trans hf
              refine a_iconst (pc' := 163) (v := (0 : Int32)) dX4_goDay_162 rfl (by decide) ?_
              refine a_iadd (pc' := 164) dX4_goDay_163 rfl ?_
              refine a_istore_n (pc' := 165) (ls' := [(3, .int ((((0 : Int32)) + x267.1) + ((0 : Int32)))), (2, .int ((1 : Int32))), (0, .ref 55), (1, .int a1)]) dX4_goDay_164 rfl (by decide) rfl rfl ?_
              refine a_aload_n (pc' := 166) 2 dX4_goDay_165 rfl rfl rfl ?_
              refine g_X4_7 (pc' := 169) hz.1 rfl dX4_goDay_166 rfl ?_
              refine a_bipush (pc' := 171) (v := (7 : Int32)) dX4_goDay_169 rfl (by decide) ?_
              refine a_aload_n (pc' := 172) 2 dX4_goDay_171 rfl rfl rfl ?_
              refine g_X4_7 (pc' := 175) hz.1 rfl dX4_goDay_172 rfl ?_
              refine a_iconst (pc' := 176) (v := (4 : Int32)) dX4_goDay_175 rfl (by decide) ?_
              obtain ⟨hg, hf⟩ := f_grd_x hf
              refine b_iald (pc' := 177) hz.2.1 hg dX4_goDay_176 rfl ?_
              obtain ⟨hg, hf⟩ := f_grd_x hf
              refine b_iast (pc' := 178) hz.2.1 hg dX4_goDay_177 rfl (fun h271 hz1 hfr1 => ?_)
              obtain ⟨hz1, hfr1⟩ := d_ma_z hz hz1 hfr1
              obtain ⟨M272, hf, hz⟩ := f_let_x (P := fun w => d_mod h271 w) hf hz1
              replace hfr := d_frm.tr hfr hfr1 (by omega)
              refine a_iload_n (pc' := 179) 0 dX4_goDay_178 rfl rfl rfl ?_
              cases hf
              exact a_iret hr ⟨rfl, hz, hfr⟩ dX4_goDay_179
            · replace hf := (if_neg k270).symm.trans hf
              refine a_aload_n (pc' := 139) 2 dX4_goDay_138 rfl rfl rfl ?_
              refine a_aload_n (pc' := 140) 2 dX4_goDay_139 rfl rfl rfl ?_
              obtain ⟨x274, e273, hf⟩ := Option.bind_eq_some_iff.mp hf
              refine k_X4_87 (pc' := 143) (c_X4_lastCourse l g F hz e273) ⟨Nat.le_of_ble_eq_true rfl, Nat.le_of_ble_eq_true rfl⟩ hz.1 (Nat.le_of_ble_eq_true rfl) dX4_goDay_140 rfl ?_
              refine a_iconst (pc' := 144) (v := (1 : Int32)) dX4_goDay_143 rfl (by decide) ?_
              refine a_isub (pc' := 145) dX4_goDay_144 rfl ?_
              refine a_aload_n (pc' := 146) 2 dX4_goDay_145 rfl rfl rfl ?_
              refine g_X4_7 (pc' := 149) hz.1 rfl dX4_goDay_146 rfl ?_
              refine a_bipush (pc' := 151) (v := (6 : Int32)) dX4_goDay_149 rfl (by decide) ?_
              obtain ⟨hg, hf⟩ := f_grd_x hf
              refine b_iald (pc' := 152) hz.2.1 hg dX4_goDay_151 rfl ?_
              refine a_iconst (pc' := 153) (v := (2 : Int32)) dX4_goDay_152 rfl (by decide) ?_
              refine a_iadd (pc' := 154) dX4_goDay_153 rfl ?_
              refine a_iconst (pc' := 155) (v := (5 : Int32)) dX4_goDay_154 rfl (by decide) ?_
              refine a_irem (pc' := 156) dX4_goDay_155 rfl (by decide) ?_
              obtain ⟨x276, e275, hf⟩ := Option.bind_eq_some_iff.mp hf
              refine k_X4_110 (pc' := 159) (c_X4_fall l g F hz e275) ⟨Nat.le_of_ble_eq_true rfl, Nat.le_of_ble_eq_true rfl⟩ hz.1 (Nat.le_of_ble_eq_true rfl) dX4_goDay_156 rfl (fun h277 hq => ?_)
              obtain ⟨hz1, hfr1⟩ := hq
              obtain ⟨M278, hf, hz⟩ := f_let_x (P := fun w => d_mod h277 w) hf hz1
              replace hfr := d_frm.tr hfr hfr1 (by omega)
              refine a_goto 163 dX4_goDay_159 (by decide) ?_
              refine a_iadd (pc' := 164) dX4_goDay_163 rfl ?_
              refine a_istore_n (pc' := 165) (ls' := [(3, .int ((((0 : Int32)) + x267.1) + x276.1)), (2, .int ((1 : Int32))), (0, .ref 55), (1, .int a1)]) dX4_goDay_164 rfl (by decide) rfl rfl ?_
              refine a_aload_n (pc' := 166) 2 dX4_goDay_165 rfl rfl rfl ?_
              refine g_X4_7 (pc' := 169) hz.1 rfl dX4_goDay_166 rfl ?_
              refine a_bipush (pc' := 171) (v := (7 : Int32)) dX4_goDay_169 rfl (by decide) ?_
              refine a_aload_n (pc' := 172) 2 dX4_goDay_171 rfl rfl rfl ?_
              refine g_X4_7 (pc' := 175) hz.1 rfl dX4_goDay_172 rfl ?_
              refine a_iconst (pc' := 176) (v := (4 : Int32)) dX4_goDay_175 rfl (by decide) ?_
              obtain ⟨hg, hf⟩ := f_grd_x hf
              refine b_iald (pc' := 177) hz.2.1 hg dX4_goDay_176 rfl ?_
              obtain ⟨hg, hf⟩ := f_grd_x hf
              refine b_iast (pc' := 178) hz.2.1 hg dX4_goDay_177 rfl (fun h279 hz1 hfr1 => ?_)
              obtain ⟨hz1, hfr1⟩ := d_ma_z hz hz1 hfr1
              obtain ⟨M280, hf, hz⟩ := f_let_x (P := fun w => d_mod h279 w) hf hz1
              replace hfr := d_frm.tr hfr hfr1 (by omega)
              refine a_iload_n (pc' := 179) 0 dX4_goDay_178 rfl rfl rfl ?_
              cases hf
              exact a_iret hr ⟨rfl, hz, hfr⟩ dX4_goDay_179
