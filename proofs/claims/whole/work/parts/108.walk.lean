/-! SlateRoofModel.firstError()I -/
set_option maxRecDepth 100000 in
def f_X4_firstError (F : Nat) (M : d_M) : Option (Int32 × d_M) := f_let (ms_thrown M ((0 : Int32))) fun M2 => (f_X4_read F M2).bind fun x4 => f_let x4.2 fun M6 => some ((x4.1, M6))
set_option maxHeartbeats 4000000 in
set_option maxRecDepth 100000 in
theorem c_X4_firstError (l : Launch) (g : a_G) (F : Nat) {h : List va_E} {M : d_M} (hz : d_mod h M) {out : Int32 × d_M} (hf : f_X4_firstError F M = some out) : a_CT l g yX4_firstError cX4_firstError 1 (some .int) (a_rm 2 50) [.ref 55] h none none (fun r h' => r = some (.int out.1) ∧ d_mod h' out.2 ∧ d_frm 55 6 h h') := by
  refine a_enter ⟨by decide, rfl, Nat.le_of_ble_eq_true rfl⟩ (fun p e s m args below meth c hr hin => ?_)
  unfold f_X4_firstError at hf
  have hfr : d_frm 55 6 h h := d_frm.rf
  refine a_sub (ls' := [(0, .ref 55)]) [0] rfl ?_
  refine a_aload_n (pc' := 1) 0 dX4_firstError_0 rfl rfl rfl ?_
  refine a_iconst (pc' := 2) (v := (0 : Int32)) dX4_firstError_1 rfl (by decide) ?_
  refine pt_X4_25 (pc' := 5) hz dX4_firstError_2 rfl (fun h1 hz1 hfr1 => ?_)
  obtain ⟨M2, hf, hz⟩ := f_let_x (P := fun w => d_mod h1 w) hf hz1
  replace hfr := d_frm.tr hfr hfr1 (by omega)
  refine a_aload_n (pc' := 6) 0 dX4_firstError_5 rfl rfl rfl ?_
  obtain ⟨x4, e3, hf⟩ := Option.bind_eq_some_iff.mp hf
  refine k_X4_140 (pc' := 9) (c_X4_read l g F hz e3) ⟨Nat.le_of_ble_eq_true rfl, Nat.le_of_ble_eq_true rfl⟩ hz.1 (Nat.le_of_ble_eq_true rfl) dX4_firstError_6 rfl (fun h5 hq => ?_)
  obtain ⟨hz1, hfr1⟩ := hq
  obtain ⟨M6, hf, hz⟩ := f_let_x (P := fun w => d_mod h5 w) hf hz1
  replace hfr := d_frm.tr hfr hfr1 (by omega)
  cases hf
  exact a_iret hr ⟨rfl, hz, hfr⟩ dX4_firstError_9
/-! SlateRoofModel.work()I -/
set_option maxRecDepth 100000 in
def f_X4_work_L70 (F : Nat)  : Nat → Int32 → Int32 → d_M → Option (Int32 × Int32 × d_M)
  | 0, _, _, _ => none
  | n + 1, v1_70, v2_70, M_70 => (if (m_days M_70) ≤ v2_70 then some (v1_70, v2_70, M_70) else f_grd v2_70 200 ((f_X4_workDay F M_70 ((m_weather M_70) v2_70.toNatClampNeg)).bind fun x71003 => f_let x71003.2 fun M71005 => f_X4_work_L70 F  n (v1_70 + x71003.1) (v2_70 + (1 : Int32)) M71005))
set_option maxRecDepth 100000 in
def f_X4_work (F : Nat) (M : d_M) : Option (Int32 × d_M) := f_let (ms_thrown M ((0 : Int32))) fun M2 => (f_X4_read F M2).bind fun x4 => f_let x4.2 fun M6 => (if (m_isWhole M6) = 0 then (f_X4_fails F M6 ((1 : Int32))).bind fun x28 => f_let x28.2 fun M30 => some ((x28.1, M30)) else (if ((200 : Int32)) < (m_days M6) then (f_X4_fails F M6 ((2 : Int32))).bind fun x10 => f_let x10.2 fun M12 => some ((x10.1, M12)) else f_grd ((6 : Int32)) 294 ((if (((m_z M6) ((6 : Int32)).toNatClampNeg) + (m_days M6)) ≤ ((1000 : Int32)) then (f_X4_save F M6).bind fun x15 => f_let x15 fun M17 => f_let (ms_length M17 ((0 : Int32))) fun M19 => (f_X4_work_L70 F F ((0 : Int32)) ((0 : Int32)) M19).bind fun o20 => some ((o20.1, o20.2.2)) else (f_X4_fails F M6 ((2 : Int32))).bind fun x24 => f_let x24.2 fun M26 => some ((x24.1, M26))))))
set_option maxHeartbeats 4000000 in
set_option maxRecDepth 100000 in
theorem l_X4_work_L70 {p : Program} {l : Launch} {e : Env} {s : State} {m : MethodId} {args : Array Value} {below : List Frame} {meth : Method} {c : Code} {Q : State → Prop} {g : a_G} (F : Nat) {h : List va_E}  : ∀ (n : Nat) (v1_70 : Int32) (v2_70 : Int32) (M_70 : d_M) (o : Int32 × Int32 × d_M), f_X4_work_L70 F  n v1_70 v2_70 M_70 = some o → (∀ e9 : Int32 × Int32 × d_M, o = e9 → ∀ h1, d_mod h1 e9.2.2 → d_frm 55 6 h h1 → a_W p l e (a_rm 6 133) s m args below meth c Q RX4 cX4_work 3 g 0 0 none 97 [(1, .int e9.1)] [] h1) → ∀ h1, d_mod h1 M_70 → d_frm 55 6 h h1 → a_W p l e (a_rm 6 133) s m args below meth c Q RX4 cX4_work 3 g 0 0 none 70 [(0, .ref 55), (1, .int v1_70), (2, .int v2_70)] [] h1 := by
  intro n
  induction n with
  | zero => intro v1_70 v2_70 M_70 o hf; exact nomatch (show (none : Option (Int32 × Int32 × d_M)) = some o from hf)
  | succ n ih =>
    intro v1_70 v2_70 M_70 o hf hX0 h1 hz hfr
    rw [f_X4_work_L70] at hf
    refine a_iload_n (pc' := 71) 2 dX4_work_70 rfl rfl rfl ?_
    refine a_aload_n (pc' := 72) 0 dX4_work_71 rfl rfl rfl ?_
    refine g_X4_129 (pc' := 75) hz.1 rfl dX4_work_72 rfl ?_
    refine a_icmp_ge (pc' := 78) 97 dX4_work_75 (by decide) rfl (fun k71001 => ?_) (fun k71001 => ?_)
    · replace hf := (if_pos k71001).symm.trans hf
      cases hf
      refine a_sub [1] rfl ?_
      exact hX0 _ rfl _ hz hfr
    · replace hf := (if_neg k71001).symm.trans hf
      refine a_iload_n (pc' := 79) 1 dX4_work_78 rfl rfl rfl ?_
      refine a_aload_n (pc' := 80) 0 dX4_work_79 rfl rfl rfl ?_
      refine a_aload_n (pc' := 81) 0 dX4_work_80 rfl rfl rfl ?_
      refine g_X4_22 (pc' := 84) hz.1 rfl dX4_work_81 rfl ?_
      refine a_iload_n (pc' := 85) 2 dX4_work_84 rfl rfl rfl ?_
      obtain ⟨hg, hf⟩ := f_grd_x hf
      refine b_iald (pc' := 86) hz.2.2.2.2.2 hg dX4_work_85 rfl ?_
      obtain ⟨x71003, e71002, hf⟩ := Option.bind_eq_some_iff.mp hf
      refine k_X4_143 (pc' := 89) (c_X4_workDay l g F hz e71002) ⟨Nat.le_of_ble_eq_true rfl, Nat.le_of_ble_eq_true rfl⟩ hz.1 (Nat.le_of_ble_eq_true rfl) dX4_work_86 rfl (fun h71004 hq => ?_)
      obtain ⟨hz1, hfr1⟩ := hq
      obtain ⟨M71005, hf, hz⟩ := f_let_x (P := fun w => d_mod h71004 w) hf hz1
      replace hfr := d_frm.tr hfr hfr1 (by omega)
      refine a_iadd (pc' := 90) dX4_work_89 rfl ?_
      refine a_istore_n (pc' := 91) (ls' := [(1, .int (v1_70 + x71003.1)), (0, .ref 55), (2, .int v2_70)]) dX4_work_90 rfl (by decide) rfl rfl ?_
      refine a_iinc (pc' := 94) (v := v2_70 + (1 : Int32)) (ls' := [(2, .int (v2_70 + (1 : Int32))), (1, .int (v1_70 + x71003.1)), (0, .ref 55)]) 2 dX4_work_91 rfl (by rfl) (by decide) rfl rfl ?_
      refine a_goto 70 dX4_work_94 (by decide) ?_
      refine a_sub [2, 1, 0] rfl ?_
      exact ih _ _ _ _ hf hX0 _ hz hfr
set_option maxHeartbeats 4000000 in
set_option maxRecDepth 100000 in
theorem c_X4_work (l : Launch) (g : a_G) (F : Nat) {h : List va_E} {M : d_M} (hz : d_mod h M) {out : Int32 × d_M} (hf : f_X4_work F M = some out) : a_CT l g yX4_work cX4_work 3 (some .int) (a_rm 6 133) [.ref 55] h none none (fun r h' => r = some (.int out.1) ∧ d_mod h' out.2 ∧ d_frm 55 6 h h') := by
  refine a_enter ⟨by decide, rfl, Nat.le_of_ble_eq_true rfl⟩ (fun p e s m args below meth c hr hin => ?_)
  unfold f_X4_work at hf
  have hfr : d_frm 55 6 h h := d_frm.rf
  refine a_sub (ls' := [(0, .ref 55)]) [0] rfl ?_
  refine a_aload_n (pc' := 1) 0 dX4_work_0 rfl rfl rfl ?_
  refine a_iconst (pc' := 2) (v := (0 : Int32)) dX4_work_1 rfl (by decide) ?_
  refine pt_X4_25 (pc' := 5) hz dX4_work_2 rfl (fun h1 hz1 hfr1 => ?_)
  obtain ⟨M2, hf, hz⟩ := f_let_x (P := fun w => d_mod h1 w) hf hz1
  replace hfr := d_frm.tr hfr hfr1 (by omega)
  refine a_aload_n (pc' := 6) 0 dX4_work_5 rfl rfl rfl ?_
  obtain ⟨x4, e3, hf⟩ := Option.bind_eq_some_iff.mp hf
  refine k_X4_140 (pc' := 9) (c_X4_read l g F hz e3) ⟨Nat.le_of_ble_eq_true rfl, Nat.le_of_ble_eq_true rfl⟩ hz.1 (Nat.le_of_ble_eq_true rfl) dX4_work_6 rfl (fun h5 hq => ?_)
  obtain ⟨hz1, hfr1⟩ := hq
  obtain ⟨M6, hf, hz⟩ := f_let_x (P := fun w => d_mod h5 w) hf hz1
  replace hfr := d_frm.tr hfr hfr1 (by omega)
  refine a_pop (pc' := 10) dX4_work_9 rfl rfl ?_
  refine a_aload_n (pc' := 11) 0 dX4_work_10 rfl rfl rfl ?_
  refine g_X4_132 (pc' := 14) hz.1 rfl dX4_work_11 rfl ?_
  refine a_if_ne (pc' := 17) 23 dX4_work_14 (by decide) rfl (fun k7 => ?_) (fun k7 => ?_)
  · replace hf := (if_neg k7).symm.trans hf
    refine a_aload_n (pc' := 24) 0 dX4_work_23 rfl rfl rfl ?_
    refine g_X4_129 (pc' := 27) hz.1 rfl dX4_work_24 rfl ?_
    refine a_sipush (pc' := 30) (v := (200 : Int32)) dX4_work_27 rfl (by decide) ?_
    refine a_icmp_gt (pc' := 33) 51 dX4_work_30 (by decide) rfl (fun k8 => ?_) (fun k8 => ?_)
    · replace hf := (if_pos k8).symm.trans hf
      refine a_aload_n (pc' := 52) 0 dX4_work_51 rfl rfl rfl ?_
      refine a_iconst (pc' := 53) (v := (2 : Int32)) dX4_work_52 rfl (by decide) ?_
      obtain ⟨x10, e9, hf⟩ := Option.bind_eq_some_iff.mp hf
      refine k_X4_60 (pc' := 56) (c_X4_fails l g F hz e9) ⟨Nat.le_of_ble_eq_true rfl, Nat.le_of_ble_eq_true rfl⟩ hz.1 (Nat.le_of_ble_eq_true rfl) dX4_work_53 rfl (fun h11 hq => ?_)
      obtain ⟨hz1, hfr1⟩ := hq
      obtain ⟨M12, hf, hz⟩ := f_let_x (P := fun w => d_mod h11 w) hf hz1
      replace hfr := d_frm.tr hfr hfr1 (by omega)
      cases hf
      exact a_iret hr ⟨rfl, hz, hfr⟩ dX4_work_56
    · replace hf := (if_neg k8).symm.trans hf
      refine a_aload_n (pc' := 34) 0 dX4_work_33 rfl rfl rfl ?_
      refine g_X4_7 (pc' := 37) hz.1 rfl dX4_work_34 rfl ?_
      refine a_bipush (pc' := 39) (v := (6 : Int32)) dX4_work_37 rfl (by decide) ?_
      obtain ⟨hg, hf⟩ := f_grd_x hf
      refine b_iald (pc' := 40) hz.2.1 hg dX4_work_39 rfl ?_
      refine a_aload_n (pc' := 41) 0 dX4_work_40 rfl rfl rfl ?_
      refine g_X4_129 (pc' := 44) hz.1 rfl dX4_work_41 rfl ?_
      refine a_iadd (pc' := 45) dX4_work_44 rfl ?_
      refine a_sipush (pc' := 48) (v := (1000 : Int32)) dX4_work_45 rfl (by decide) ?_
      refine a_icmp_le (pc' := 51) 57 dX4_work_48 (by decide) rfl (fun k13 => ?_) (fun k13 => ?_)
      · replace hf := (if_pos k13).symm.trans hf
        refine a_aload_n (pc' := 58) 0 dX4_work_57 rfl rfl rfl ?_
        obtain ⟨x15, e14, hf⟩ := Option.bind_eq_some_iff.mp hf
        refine k_X4_63 (pc' := 61) (c_X4_save l g F hz e14) ⟨Nat.le_of_ble_eq_true rfl, Nat.le_of_ble_eq_true rfl⟩ hz.1 (Nat.le_of_ble_eq_true rfl) dX4_work_58 rfl (fun h16 hq => ?_)
        obtain ⟨hz1, hfr1⟩ := hq
        obtain ⟨M17, hf, hz⟩ := f_let_x (P := fun w => d_mod h16 w) hf hz1
        replace hfr := d_frm.tr hfr hfr1 (by omega)
        refine a_aload_n (pc' := 62) 0 dX4_work_61 rfl rfl rfl ?_
        refine a_iconst (pc' := 63) (v := (0 : Int32)) dX4_work_62 rfl (by decide) ?_
        refine pt_X4_126 (pc' := 66) hz dX4_work_63 rfl (fun h18 hz1 hfr1 => ?_)
        obtain ⟨M19, hf, hz⟩ := f_let_x (P := fun w => d_mod h18 w) hf hz1
        replace hfr := d_frm.tr hfr hfr1 (by omega)
        refine a_iconst (pc' := 67) (v := (0 : Int32)) dX4_work_66 rfl (by decide) ?_
        refine a_istore_n (pc' := 68) (ls' := [(1, .int ((0 : Int32))), (0, .ref 55)]) dX4_work_67 rfl (by decide) rfl rfl ?_
        refine a_iconst (pc' := 69) (v := (0 : Int32)) dX4_work_68 rfl (by decide) ?_
        refine a_istore_n (pc' := 70) (ls' := [(2, .int ((0 : Int32))), (1, .int ((0 : Int32))), (0, .ref 55)]) dX4_work_69 rfl (by decide) rfl rfl ?_
        obtain ⟨o20, e21, hf⟩ := Option.bind_eq_some_iff.mp hf
        refine a_sub [2, 1, 0] rfl ?_
        refine l_X4_work_L70 F   F _ _ _ o20 e21 (fun e9 he9 h22 hz hfr => ?_) _ hz hfr
        subst he9
        refine a_iload_n (pc' := 98) 0 dX4_work_97 rfl rfl rfl ?_
        cases hf
        exact a_iret hr ⟨rfl, hz, hfr⟩ dX4_work_98
      · replace hf := (if_neg k13).symm.trans hf
        refine a_aload_n (pc' := 52) 0 dX4_work_51 rfl rfl rfl ?_
        refine a_iconst (pc' := 53) (v := (2 : Int32)) dX4_work_52 rfl (by decide) ?_
        obtain ⟨x24, e23, hf⟩ := Option.bind_eq_some_iff.mp hf
        refine k_X4_60 (pc' := 56) (c_X4_fails l g F hz e23) ⟨Nat.le_of_ble_eq_true rfl, Nat.le_of_ble_eq_true rfl⟩ hz.1 (Nat.le_of_ble_eq_true rfl) dX4_work_53 rfl (fun h25 hq => ?_)
        obtain ⟨hz1, hfr1⟩ := hq
        obtain ⟨M26, hf, hz⟩ := f_let_x (P := fun w => d_mod h25 w) hf hz1
        replace hfr := d_frm.tr hfr hfr1 (by omega)
        cases hf
        exact a_iret hr ⟨rfl, hz, hfr⟩ dX4_work_56
  · replace hf := (if_pos k7).symm.trans hf
    refine a_aload_n (pc' := 18) 0 dX4_work_17 rfl rfl rfl ?_
    refine a_iconst (pc' := 19) (v := (1 : Int32)) dX4_work_18 rfl (by decide) ?_
    obtain ⟨x28, e27, hf⟩ := Option.bind_eq_some_iff.mp hf
    refine k_X4_60 (pc' := 22) (c_X4_fails l g F hz e27) ⟨Nat.le_of_ble_eq_true rfl, Nat.le_of_ble_eq_true rfl⟩ hz.1 (Nat.le_of_ble_eq_true rfl) dX4_work_19 rfl (fun h29 hq => ?_)
    obtain ⟨hz1, hfr1⟩ := hq
    obtain ⟨M30, hf, hz⟩ := f_let_x (P := fun w => d_mod h29 w) hf hz1
    replace hfr := d_frm.tr hfr hfr1 (by omega)
    cases hf
    exact a_iret hr ⟨rfl, hz, hfr⟩ dX4_work_22
/-! SlateRoofModel.undo()I -/
set_option maxRecDepth 100000 in
def f_X4_undo_L30 (F : Nat)  : Nat → Int32 → d_M → Option (Int32 × d_M)
  | 0, _, _ => none
  | n + 1, v1_30, M_30 => (if ((294 : Int32)) ≤ v1_30 then some (v1_30, M_30) else f_grd ((((294 : Int32)) * (m_saved M_30)) + v1_30) 1764 (f_grd v1_30 294 (f_let (ms_z M_30 (upd (m_z M_30) v1_30.toNatClampNeg ((m_rows M_30) ((((294 : Int32)) * (m_saved M_30)) + v1_30).toNatClampNeg))) fun M31003 => f_X4_undo_L30 F  n (v1_30 + (1 : Int32)) M31003)))
set_option maxRecDepth 100000 in
def f_X4_undo (F : Nat) (M : d_M) : Option (Int32 × d_M) := f_let (ms_thrown M ((0 : Int32))) fun M2 => (if (m_saved M2) = 0 then (f_X4_fails F M2 ((1 : Int32))).bind fun x10 => f_let x10.2 fun M12 => some ((x10.1, M12)) else f_let (ms_saved M2 ((m_saved M2) - ((1 : Int32)))) fun M5 => (f_X4_undo_L30 F F ((0 : Int32)) M5).bind fun o6 => some ((m_saved o6.2, o6.2)))
set_option maxHeartbeats 4000000 in
set_option maxRecDepth 100000 in
theorem l_X4_undo_L30 {p : Program} {l : Launch} {e : Env} {s : State} {m : MethodId} {args : Array Value} {below : List Frame} {meth : Method} {c : Code} {Q : State → Prop} {g : a_G} (F : Nat) {h : List va_E}  : ∀ (n : Nat) (v1_30 : Int32) (M_30 : d_M) (o : Int32 × d_M), f_X4_undo_L30 F  n v1_30 M_30 = some o → (∀ e9 : Int32 × d_M, o = e9 → ∀ h1, d_mod h1 e9.2 → d_frm 55 6 h h1 → a_W p l e (a_rm 1 21) s m args below meth c Q RX4 cX4_undo 2 g 0 0 none 64 [(0, .ref 55)] [] h1) → ∀ h1, d_mod h1 M_30 → d_frm 55 6 h h1 → a_W p l e (a_rm 1 21) s m args below meth c Q RX4 cX4_undo 2 g 0 0 none 30 [(0, .ref 55), (1, .int v1_30)] [] h1 := by
  intro n
  induction n with
  | zero => intro v1_30 M_30 o hf; exact nomatch (show (none : Option (Int32 × d_M)) = some o from hf)
  | succ n ih =>
    intro v1_30 M_30 o hf hX0 h1 hz hfr
    rw [f_X4_undo_L30] at hf
    refine a_iload_n (pc' := 31) 1 dX4_undo_30 rfl rfl rfl ?_
    refine a_sipush (pc' := 34) (v := (294 : Int32)) dX4_undo_31 rfl (by decide) ?_
    refine a_icmp_ge (pc' := 37) 64 dX4_undo_34 (by decide) rfl (fun k31001 => ?_) (fun k31001 => ?_)
    · replace hf := (if_pos k31001).symm.trans hf
      cases hf
      refine a_sub [0] rfl ?_
      exact hX0 _ rfl _ hz hfr
    · replace hf := (if_neg k31001).symm.trans hf
      refine a_aload_n (pc' := 38) 0 dX4_undo_37 rfl rfl rfl ?_
      refine g_X4_7 (pc' := 41) hz.1 rfl dX4_undo_38 rfl ?_
      refine a_iload_n (pc' := 42) 1 dX4_undo_41 rfl rfl rfl ?_
      refine a_aload_n (pc' := 43) 0 dX4_undo_42 rfl rfl rfl ?_
      refine g_X4_16 (pc' := 46) hz.1 rfl dX4_undo_43 rfl ?_
      refine a_sipush (pc' := 49) (v := (294 : Int32)) dX4_undo_46 rfl (by decide) ?_
      refine a_aload_n (pc' := 50) 0 dX4_undo_49 rfl rfl rfl ?_
      refine g_X4_33 (pc' := 53) hz.1 rfl dX4_undo_50 rfl ?_
      refine a_imul (pc' := 54) dX4_undo_53 rfl ?_
      refine a_iload_n (pc' := 55) 1 dX4_undo_54 rfl rfl rfl ?_
      refine a_iadd (pc' := 56) dX4_undo_55 rfl ?_
      obtain ⟨hg, hf⟩ := f_grd_x hf
      refine b_iald (pc' := 57) hz.2.2.2.1 hg dX4_undo_56 rfl ?_
      obtain ⟨hg, hf⟩ := f_grd_x hf
      refine b_iast (pc' := 58) hz.2.1 hg dX4_undo_57 rfl (fun h31002 hz1 hfr1 => ?_)
      obtain ⟨hz1, hfr1⟩ := d_ma_z hz hz1 hfr1
      obtain ⟨M31003, hf, hz⟩ := f_let_x (P := fun w => d_mod h31002 w) hf hz1
      replace hfr := d_frm.tr hfr hfr1 (by omega)
      refine a_iinc (pc' := 61) (v := v1_30 + (1 : Int32)) (ls' := [(1, .int (v1_30 + (1 : Int32))), (0, .ref 55)]) 1 dX4_undo_58 rfl (by rfl) (by decide) rfl rfl ?_
      refine a_goto 30 dX4_undo_61 (by decide) ?_
      refine a_sub [1, 0] rfl ?_
      exact ih _ _ _ hf hX0 _ hz hfr
set_option maxHeartbeats 4000000 in
set_option maxRecDepth 100000 in
theorem c_X4_undo (l : Launch) (g : a_G) (F : Nat) {h : List va_E} {M : d_M} (hz : d_mod h M) {out : Int32 × d_M} (hf : f_X4_undo F M = some out) : a_CT l g yX4_undo cX4_undo 2 (some .int) (a_rm 1 21) [.ref 55] h none none (fun r h' => r = some (.int out.1) ∧ d_mod h' out.2 ∧ d_frm 55 6 h h') := by
  refine a_enter ⟨by decide, rfl, Nat.le_of_ble_eq_true rfl⟩ (fun p e s m args below meth c hr hin => ?_)
  unfold f_X4_undo at hf
  have hfr : d_frm 55 6 h h := d_frm.rf
  refine a_sub (ls' := [(0, .ref 55)]) [0] rfl ?_
  refine a_aload_n (pc' := 1) 0 dX4_undo_0 rfl rfl rfl ?_
  refine a_iconst (pc' := 2) (v := (0 : Int32)) dX4_undo_1 rfl (by decide) ?_
  refine pt_X4_25 (pc' := 5) hz dX4_undo_2 rfl (fun h1 hz1 hfr1 => ?_)
  obtain ⟨M2, hf, hz⟩ := f_let_x (P := fun w => d_mod h1 w) hf hz1
  replace hfr := d_frm.tr hfr hfr1 (by omega)
  refine a_aload_n (pc' := 6) 0 dX4_undo_5 rfl rfl rfl ?_
  refine g_X4_33 (pc' := 9) hz.1 rfl dX4_undo_6 rfl ?_
  refine a_if_ne (pc' := 12) 18 dX4_undo_9 (by decide) rfl (fun k3 => ?_) (fun k3 => ?_)
  · replace hf := (if_neg k3).symm.trans hf
    refine a_aload_n (pc' := 19) 0 dX4_undo_18 rfl rfl rfl ?_
    refine a_dup (pc' := 20) dX4_undo_19 rfl rfl ?_
    refine g_X4_33 (pc' := 23) hz.1 rfl dX4_undo_20 rfl ?_
    refine a_iconst (pc' := 24) (v := (1 : Int32)) dX4_undo_23 rfl (by decide) ?_
    refine a_isub (pc' := 25) dX4_undo_24 rfl ?_
    refine pt_X4_33 (pc' := 28) hz dX4_undo_25 rfl (fun h4 hz1 hfr1 => ?_)
    obtain ⟨M5, hf, hz⟩ := f_let_x (P := fun w => d_mod h4 w) hf hz1
    replace hfr := d_frm.tr hfr hfr1 (by omega)
    refine a_iconst (pc' := 29) (v := (0 : Int32)) dX4_undo_28 rfl (by decide) ?_
    refine a_istore_n (pc' := 30) (ls' := [(1, .int ((0 : Int32))), (0, .ref 55)]) dX4_undo_29 rfl (by decide) rfl rfl ?_
    obtain ⟨o6, e7, hf⟩ := Option.bind_eq_some_iff.mp hf
    refine a_sub [1, 0] rfl ?_
    refine l_X4_undo_L30 F   F _ _ o6 e7 (fun e9 he9 h8 hz hfr => ?_) _ hz hfr
    subst he9
    refine a_aload_n (pc' := 65) 0 dX4_undo_64 rfl rfl rfl ?_
    refine g_X4_33 (pc' := 68) hz.1 rfl dX4_undo_65 rfl ?_
    cases hf
    exact a_iret hr ⟨rfl, hz, hfr⟩ dX4_undo_68
  · replace hf := (if_pos k3).symm.trans hf
    refine a_aload_n (pc' := 13) 0 dX4_undo_12 rfl rfl rfl ?_
    refine a_iconst (pc' := 14) (v := (1 : Int32)) dX4_undo_13 rfl (by decide) ?_
    obtain ⟨x10, e9, hf⟩ := Option.bind_eq_some_iff.mp hf
    refine k_X4_60 (pc' := 17) (c_X4_fails l g F hz e9) ⟨Nat.le_of_ble_eq_true rfl, Nat.le_of_ble_eq_true rfl⟩ hz.1 (Nat.le_of_ble_eq_true rfl) dX4_undo_14 rfl (fun h11 hq => ?_)
    obtain ⟨hz1, hfr1⟩ := hq
    obtain ⟨M12, hf, hz⟩ := f_let_x (P := fun w => d_mod h11 w) hf hz1
    replace hfr := d_frm.tr hfr hfr1 (by omega)
    cases hf
    exact a_iret hr ⟨rfl, hz, hfr⟩ dX4_undo_17
/-! SlateRoofModel.courseNow(II)I -/
set_option maxRecDepth 100000 in
def f_X4_courseNow (F : Nat) (M : d_M) (a1 : Int32) (a2 : Int32) : Option (Int32) := (if a2 = (0 : Int32) then f_grd (((14 : Int32)) + a1) 294 (some ((m_z M) (((14 : Int32)) + a1).toNatClampNeg)) else (if a2 = (1 : Int32) then (f_X4_placesOf F M a1).bind fun x4 => some (x4) else (if a2 = (2 : Int32) then (f_X4_liesIn F M a1).bind fun x7 => some (x7) else (if a2 = (3 : Int32) then f_grd (((14 : Int32)) + a1) 294 ((f_X4_gauge F M ((m_z M) (((14 : Int32)) + a1).toNatClampNeg)).bind fun x10 => some (x10)) else (if a2 = (4 : Int32) then (f_X4_topOf F M a1).bind fun x13 => some (x13) else (if a2 = (5 : Int32) then (f_X4_firstGap F M a1).bind fun x16 => some (x16) else ((f_X4_lastGap F M a1).bind fun x18 => some (x18))))))))
set_option maxHeartbeats 4000000 in
set_option maxRecDepth 100000 in
theorem c_X4_courseNow (l : Launch) (g : a_G) (F : Nat) {h : List va_E} {M : d_M} {a1 : Int32} {a2 : Int32} (hz : d_mod h M) {out : Int32} (hf : f_X4_courseNow F M a1 a2 = some out) : a_CT l g yX4_courseNow cX4_courseNow 3 (some .int) (a_rm 2 45) [.ref 55, .int a1, .int a2] h none none (fun r h' => r = some (.int out) ∧ h' = h) := by
  refine a_enter ⟨by decide, rfl, Nat.le_of_ble_eq_true rfl⟩ (fun p e s m args below meth c hr hin => ?_)
  unfold f_X4_courseNow at hf
  refine a_sub (ls' := [(0, .ref 55), (1, .int a1), (2, .int a2)]) [0, 1, 2] rfl ?_
  refine a_iload_n (pc' := 1) 2 dX4_courseNow_0 rfl rfl rfl ?_
  by_cases k1 : a2 = (0 : Int32)
  · replace hf := (if_pos k1).symm.trans hf
    refine b_top k1 ?_
    refine a_tableIn (off := 39) 40 dX4_courseNow_1 (by decide) (by decide) rfl (by decide) ?_
    refine a_aload_n (pc' := 41) 0 dX4_courseNow_40 rfl rfl rfl ?_
    refine g_X4_7 (pc' := 44) hz.1 rfl dX4_courseNow_41 rfl ?_
    refine a_bipush (pc' := 46) (v := (14 : Int32)) dX4_courseNow_44 rfl (by decide) ?_
    refine a_iload_n (pc' := 47) 1 dX4_courseNow_46 rfl rfl rfl ?_
    refine a_iadd (pc' := 48) dX4_courseNow_47 rfl ?_
    obtain ⟨hg, hf⟩ := f_grd_x hf
    refine b_iald (pc' := 49) hz.2.1 hg dX4_courseNow_48 rfl ?_
    cases hf
    exact a_iret hr ⟨rfl, rfl⟩ dX4_courseNow_49
  · replace hf := (if_neg k1).symm.trans hf
    by_cases k2 : a2 = (1 : Int32)
    · replace hf := (if_pos k2).symm.trans hf
      refine b_top k2 ?_
      refine a_tableIn (off := 49) 50 dX4_courseNow_1 (by decide) (by decide) rfl (by decide) ?_
      refine a_aload_n (pc' := 51) 0 dX4_courseNow_50 rfl rfl rfl ?_
      refine a_iload_n (pc' := 52) 1 dX4_courseNow_51 rfl rfl rfl ?_
      obtain ⟨x4, e3, hf⟩ := Option.bind_eq_some_iff.mp hf
      refine k_X4_36 (pc' := 55) (c_X4_placesOf l g F hz e3) ⟨Nat.le_of_ble_eq_true rfl, Nat.le_of_ble_eq_true rfl⟩ hz.1 (Nat.le_of_ble_eq_true rfl) dX4_courseNow_52 rfl ?_
      cases hf
      exact a_iret hr ⟨rfl, rfl⟩ dX4_courseNow_55
    · replace hf := (if_neg k2).symm.trans hf
      by_cases k5 : a2 = (2 : Int32)
      · replace hf := (if_pos k5).symm.trans hf
        refine b_top k5 ?_
        refine a_tableIn (off := 55) 56 dX4_courseNow_1 (by decide) (by decide) rfl (by decide) ?_
        refine a_aload_n (pc' := 57) 0 dX4_courseNow_56 rfl rfl rfl ?_
        refine a_iload_n (pc' := 58) 1 dX4_courseNow_57 rfl rfl rfl ?_
        obtain ⟨x7, e6, hf⟩ := Option.bind_eq_some_iff.mp hf
        refine k_X4_50 (pc' := 61) (c_X4_liesIn l g F hz e6) ⟨Nat.le_of_ble_eq_true rfl, Nat.le_of_ble_eq_true rfl⟩ hz.1 (Nat.le_of_ble_eq_true rfl) dX4_courseNow_58 rfl ?_
        cases hf
        exact a_iret hr ⟨rfl, rfl⟩ dX4_courseNow_61
      · replace hf := (if_neg k5).symm.trans hf
        by_cases k8 : a2 = (3 : Int32)
        · replace hf := (if_pos k8).symm.trans hf
          refine b_top k8 ?_
          refine a_tableIn (off := 61) 62 dX4_courseNow_1 (by decide) (by decide) rfl (by decide) ?_
          refine a_aload_n (pc' := 63) 0 dX4_courseNow_62 rfl rfl rfl ?_
          refine a_aload_n (pc' := 64) 0 dX4_courseNow_63 rfl rfl rfl ?_
          refine g_X4_7 (pc' := 67) hz.1 rfl dX4_courseNow_64 rfl ?_
          refine a_bipush (pc' := 69) (v := (14 : Int32)) dX4_courseNow_67 rfl (by decide) ?_
          refine a_iload_n (pc' := 70) 1 dX4_courseNow_69 rfl rfl rfl ?_
          refine a_iadd (pc' := 71) dX4_courseNow_70 rfl ?_
          obtain ⟨hg, hf⟩ := f_grd_x hf
          refine b_iald (pc' := 72) hz.2.1 hg dX4_courseNow_71 rfl ?_
          obtain ⟨x10, e9, hf⟩ := Option.bind_eq_some_iff.mp hf
          refine k_X4_44 (pc' := 75) (c_X4_gauge l g F hz e9) ⟨Nat.le_of_ble_eq_true rfl, Nat.le_of_ble_eq_true rfl⟩ hz.1 (Nat.le_of_ble_eq_true rfl) dX4_courseNow_72 rfl ?_
          cases hf
          exact a_iret hr ⟨rfl, rfl⟩ dX4_courseNow_75
        · replace hf := (if_neg k8).symm.trans hf
          by_cases k11 : a2 = (4 : Int32)
          · replace hf := (if_pos k11).symm.trans hf
            refine b_top k11 ?_
            refine a_tableIn (off := 75) 76 dX4_courseNow_1 (by decide) (by decide) rfl (by decide) ?_
            refine a_aload_n (pc' := 77) 0 dX4_courseNow_76 rfl rfl rfl ?_
            refine a_iload_n (pc' := 78) 1 dX4_courseNow_77 rfl rfl rfl ?_
            obtain ⟨x13, e12, hf⟩ := Option.bind_eq_some_iff.mp hf
            refine k_X4_47 (pc' := 81) (c_X4_topOf l g F hz e12) ⟨Nat.le_of_ble_eq_true rfl, Nat.le_of_ble_eq_true rfl⟩ hz.1 (Nat.le_of_ble_eq_true rfl) dX4_courseNow_78 rfl ?_
            cases hf
            exact a_iret hr ⟨rfl, rfl⟩ dX4_courseNow_81
          · replace hf := (if_neg k11).symm.trans hf
            by_cases k14 : a2 = (5 : Int32)
            · replace hf := (if_pos k14).symm.trans hf
              refine b_top k14 ?_
              refine a_tableIn (off := 81) 82 dX4_courseNow_1 (by decide) (by decide) rfl (by decide) ?_
              refine a_aload_n (pc' := 83) 0 dX4_courseNow_82 rfl rfl rfl ?_
              refine a_iload_n (pc' := 84) 1 dX4_courseNow_83 rfl rfl rfl ?_
              obtain ⟨x16, e15, hf⟩ := Option.bind_eq_some_iff.mp hf
              refine k_X4_90 (pc' := 87) (c_X4_firstGap l g F hz e15) ⟨Nat.le_of_ble_eq_true rfl, Nat.le_of_ble_eq_true rfl⟩ hz.1 (Nat.le_of_ble_eq_true rfl) dX4_courseNow_84 rfl ?_
              cases hf
              exact a_iret hr ⟨rfl, rfl⟩ dX4_courseNow_87
            · replace hf := (if_neg k14).symm.trans hf
              refine a_tableOut 88 dX4_courseNow_1 (b_tout6_0 k1 k2 k5 k8 k11 k14) (by decide) ?_
              refine a_aload_n (pc' := 89) 0 dX4_courseNow_88 rfl rfl rfl ?_
              refine a_iload_n (pc' := 90) 1 dX4_courseNow_89 rfl rfl rfl ?_
              obtain ⟨x18, e17, hf⟩ := Option.bind_eq_some_iff.mp hf
              refine k_X4_146 (pc' := 93) (c_X4_lastGap l g F hz e17) ⟨Nat.le_of_ble_eq_true rfl, Nat.le_of_ble_eq_true rfl⟩ hz.1 (Nat.le_of_ble_eq_true rfl) dX4_courseNow_90 rfl ?_
              cases hf
              exact a_iret hr ⟨rfl, rfl⟩ dX4_courseNow_93
/-! SlateRoofModel.courseOf(II)I -/
set_option maxRecDepth 100000 in
def f_X4_courseOf (F : Nat) (M : d_M) (a1 : Int32) (a2 : Int32) : Option (Int32 × d_M) := f_let (ms_thrown M ((0 : Int32))) fun M2 => (f_X4_lastCourse F M2).bind fun x4 => (f_X4_within F a1 ((0 : Int32)) x4).bind fun x6 => (if x6 = 0 then (f_X4_fails F M2 ((1 : Int32))).bind fun x18 => f_let x18.2 fun M20 => some ((x18.1, M20)) else (f_X4_within F a2 ((0 : Int32)) ((6 : Int32))).bind fun x9 => (if x9 = 0 then (f_X4_fails F M2 ((2 : Int32))).bind fun x12 => f_let x12.2 fun M14 => some ((x12.1, M14)) else (f_X4_courseNow F M2 a1 a2).bind fun x16 => some ((x16, M2))))
set_option maxHeartbeats 4000000 in
set_option maxRecDepth 100000 in
theorem c_X4_courseOf (l : Launch) (g : a_G) (F : Nat) {h : List va_E} {M : d_M} {a1 : Int32} {a2 : Int32} (hz : d_mod h M) {out : Int32 × d_M} (hf : f_X4_courseOf F M a1 a2 = some out) : a_CT l g yX4_courseOf cX4_courseOf 3 (some .int) (a_rm 3 67) [.ref 55, .int a1, .int a2] h none none (fun r h' => r = some (.int out.1) ∧ d_mod h' out.2 ∧ d_frm 55 6 h h') := by
  refine a_enter ⟨by decide, rfl, Nat.le_of_ble_eq_true rfl⟩ (fun p e s m args below meth c hr hin => ?_)
  unfold f_X4_courseOf at hf
  have hfr : d_frm 55 6 h h := d_frm.rf
  refine a_sub (ls' := [(0, .ref 55), (1, .int a1), (2, .int a2)]) [0, 1, 2] rfl ?_
  refine a_aload_n (pc' := 1) 0 dX4_courseOf_0 rfl rfl rfl ?_
  refine a_iconst (pc' := 2) (v := (0 : Int32)) dX4_courseOf_1 rfl (by decide) ?_
  refine pt_X4_25 (pc' := 5) hz dX4_courseOf_2 rfl (fun h1 hz1 hfr1 => ?_)
  obtain ⟨M2, hf, hz⟩ := f_let_x (P := fun w => d_mod h1 w) hf hz1
  replace hfr := d_frm.tr hfr hfr1 (by omega)
  refine a_iload_n (pc' := 6) 1 dX4_courseOf_5 rfl rfl rfl ?_
  refine a_iconst (pc' := 7) (v := (0 : Int32)) dX4_courseOf_6 rfl (by decide) ?_
  refine a_aload_n (pc' := 8) 0 dX4_courseOf_7 rfl rfl rfl ?_
  obtain ⟨x4, e3, hf⟩ := Option.bind_eq_some_iff.mp hf
  refine k_X4_87 (pc' := 11) (c_X4_lastCourse l g F hz e3) ⟨Nat.le_of_ble_eq_true rfl, Nat.le_of_ble_eq_true rfl⟩ hz.1 (Nat.le_of_ble_eq_true rfl) dX4_courseOf_8 rfl ?_
  obtain ⟨x6, e5, hf⟩ := Option.bind_eq_some_iff.mp hf
  refine k_X4_29 (pc' := 14) (c_X4_within l g F e5) ⟨Nat.le_of_ble_eq_true rfl, Nat.le_of_ble_eq_true rfl⟩ (Nat.le_of_ble_eq_true rfl) dX4_courseOf_11 rfl ?_
  refine a_if_ne (pc' := 17) 23 dX4_courseOf_14 (by decide) rfl (fun k7 => ?_) (fun k7 => ?_)
  · replace hf := (if_neg k7).symm.trans hf
    refine a_iload_n (pc' := 24) 2 dX4_courseOf_23 rfl rfl rfl ?_
    refine a_iconst (pc' := 25) (v := (0 : Int32)) dX4_courseOf_24 rfl (by decide) ?_
    refine a_bipush (pc' := 27) (v := (6 : Int32)) dX4_courseOf_25 rfl (by decide) ?_
    obtain ⟨x9, e8, hf⟩ := Option.bind_eq_some_iff.mp hf
    refine k_X4_29 (pc' := 30) (c_X4_within l g F e8) ⟨Nat.le_of_ble_eq_true rfl, Nat.le_of_ble_eq_true rfl⟩ (Nat.le_of_ble_eq_true rfl) dX4_courseOf_27 rfl ?_
    refine a_if_eq (pc' := 33) 42 dX4_courseOf_30 (by decide) rfl (fun k10 => ?_) (fun k10 => ?_)
    · replace hf := (if_pos k10).symm.trans hf
      refine a_aload_n (pc' := 43) 0 dX4_courseOf_42 rfl rfl rfl ?_
      refine a_iconst (pc' := 44) (v := (2 : Int32)) dX4_courseOf_43 rfl (by decide) ?_
      obtain ⟨x12, e11, hf⟩ := Option.bind_eq_some_iff.mp hf
      refine k_X4_60 (pc' := 47) (c_X4_fails l g F hz e11) ⟨Nat.le_of_ble_eq_true rfl, Nat.le_of_ble_eq_true rfl⟩ hz.1 (Nat.le_of_ble_eq_true rfl) dX4_courseOf_44 rfl (fun h13 hq => ?_)
      obtain ⟨hz1, hfr1⟩ := hq
      obtain ⟨M14, hf, hz⟩ := f_let_x (P := fun w => d_mod h13 w) hf hz1
      replace hfr := d_frm.tr hfr hfr1 (by omega)
      cases hf
      exact a_iret hr ⟨rfl, hz, hfr⟩ dX4_courseOf_47
    · replace hf := (if_neg k10).symm.trans hf
      refine a_aload_n (pc' := 34) 0 dX4_courseOf_33 rfl rfl rfl ?_
      refine a_iload_n (pc' := 35) 1 dX4_courseOf_34 rfl rfl rfl ?_
      refine a_iload_n (pc' := 36) 2 dX4_courseOf_35 rfl rfl rfl ?_
      obtain ⟨x16, e15, hf⟩ := Option.bind_eq_some_iff.mp hf
      refine k_X4_149 (pc' := 39) (c_X4_courseNow l g F hz e15) ⟨Nat.le_of_ble_eq_true rfl, Nat.le_of_ble_eq_true rfl⟩ hz.1 (Nat.le_of_ble_eq_true rfl) dX4_courseOf_36 rfl ?_
      refine a_goto 47 dX4_courseOf_39 (by decide) ?_
      cases hf
      exact a_iret hr ⟨rfl, hz, hfr⟩ dX4_courseOf_47
  · replace hf := (if_pos k7).symm.trans hf
    refine a_aload_n (pc' := 18) 0 dX4_courseOf_17 rfl rfl rfl ?_
    refine a_iconst (pc' := 19) (v := (1 : Int32)) dX4_courseOf_18 rfl (by decide) ?_
    obtain ⟨x18, e17, hf⟩ := Option.bind_eq_some_iff.mp hf
    refine k_X4_60 (pc' := 22) (c_X4_fails l g F hz e17) ⟨Nat.le_of_ble_eq_true rfl, Nat.le_of_ble_eq_true rfl⟩ hz.1 (Nat.le_of_ble_eq_true rfl) dX4_courseOf_19 rfl (fun h19 hq => ?_)
    obtain ⟨hz1, hfr1⟩ := hq
    obtain ⟨M20, hf, hz⟩ := f_let_x (P := fun w => d_mod h19 w) hf hz1
    replace hfr := d_frm.tr hfr hfr1 (by omega)
    cases hf
    exact a_iret hr ⟨rfl, hz, hfr⟩ dX4_courseOf_22
/-! SlateRoofModel.lies(II)Z -/
set_option maxRecDepth 100000 in
def f_X4_lies (F : Nat) (M : d_M) (a1 : Int32) (a2 : Int32) : Option (Int32 × d_M) := f_let (ms_thrown M ((0 : Int32))) fun M2 => (f_X4_isPlace F M2 a1 a2).bind fun x4 => (if x4 = 0 then (f_X4_fails F M2 ((1 : Int32))).bind fun x9 => f_let x9.2 fun M11 => (if x9.1 = ((1 : Int32)) then some (((1 : Int32), M11)) else some (((0 : Int32), M11))) else (f_X4_isThere F M2 a1 a2).bind fun x7 => f_if (x7 = 0 ∨ x7 = 1) (some ((x7, M2))))
set_option maxHeartbeats 4000000 in
set_option maxRecDepth 100000 in
theorem c_X4_lies (l : Launch) (g : a_G) (F : Nat) {h : List va_E} {M : d_M} {a1 : Int32} {a2 : Int32} (hz : d_mod h M) {out : Int32 × d_M} (hf : f_X4_lies F M a1 a2 = some out) : a_CT l g yX4_lies cX4_lies 3 (some .boolean) (a_rm 2 44) [.ref 55, .int a1, .int a2] h none none (fun r h' => r = some (.int out.1) ∧ d_mod h' out.2 ∧ d_frm 55 6 h h') := by
  refine a_enter ⟨by decide, rfl, Nat.le_of_ble_eq_true rfl⟩ (fun p e s m args below meth c hr hin => ?_)
  unfold f_X4_lies at hf
  have hfr : d_frm 55 6 h h := d_frm.rf
  refine a_sub (ls' := [(0, .ref 55), (1, .int a1), (2, .int a2)]) [0, 1, 2] rfl ?_
  refine a_aload_n (pc' := 1) 0 dX4_lies_0 rfl rfl rfl ?_
  refine a_iconst (pc' := 2) (v := (0 : Int32)) dX4_lies_1 rfl (by decide) ?_
  refine pt_X4_25 (pc' := 5) hz dX4_lies_2 rfl (fun h1 hz1 hfr1 => ?_)
  obtain ⟨M2, hf, hz⟩ := f_let_x (P := fun w => d_mod h1 w) hf hz1
  replace hfr := d_frm.tr hfr hfr1 (by omega)
  refine a_aload_n (pc' := 6) 0 dX4_lies_5 rfl rfl rfl ?_
  refine a_iload_n (pc' := 7) 1 dX4_lies_6 rfl rfl rfl ?_
  refine a_iload_n (pc' := 8) 2 dX4_lies_7 rfl rfl rfl ?_
  obtain ⟨x4, e3, hf⟩ := Option.bind_eq_some_iff.mp hf
  refine k_X4_101 (pc' := 11) (c_X4_isPlace l g F hz e3) ⟨Nat.le_of_ble_eq_true rfl, Nat.le_of_ble_eq_true rfl⟩ hz.1 (Nat.le_of_ble_eq_true rfl) dX4_lies_8 rfl ?_
  refine a_if_ne (pc' := 14) 29 dX4_lies_11 (by decide) rfl (fun k5 => ?_) (fun k5 => ?_)
  · replace hf := (if_neg k5).symm.trans hf
    refine a_aload_n (pc' := 30) 0 dX4_lies_29 rfl rfl rfl ?_
    refine a_iload_n (pc' := 31) 1 dX4_lies_30 rfl rfl rfl ?_
    refine a_iload_n (pc' := 32) 2 dX4_lies_31 rfl rfl rfl ?_
    obtain ⟨x7, e6, hf⟩ := Option.bind_eq_some_iff.mp hf
    refine k_X4_40 (pc' := 35) (c_X4_isThere l g F hz e6) ⟨Nat.le_of_ble_eq_true rfl, Nat.le_of_ble_eq_true rfl⟩ hz.1 (Nat.le_of_ble_eq_true rfl) dX4_lies_32 rfl ?_
    obtain ⟨hg, hf⟩ := f_if_x hf
    cases hf
    exact a_zret hr (b_bool hg) ⟨rfl, hz, hfr⟩ dX4_lies_35
  · replace hf := (if_pos k5).symm.trans hf
    refine a_aload_n (pc' := 15) 0 dX4_lies_14 rfl rfl rfl ?_
    refine a_iconst (pc' := 16) (v := (1 : Int32)) dX4_lies_15 rfl (by decide) ?_
    obtain ⟨x9, e8, hf⟩ := Option.bind_eq_some_iff.mp hf
    refine k_X4_60 (pc' := 19) (c_X4_fails l g F hz e8) ⟨Nat.le_of_ble_eq_true rfl, Nat.le_of_ble_eq_true rfl⟩ hz.1 (Nat.le_of_ble_eq_true rfl) dX4_lies_16 rfl (fun h10 hq => ?_)
    obtain ⟨hz1, hfr1⟩ := hq
    obtain ⟨M11, hf, hz⟩ := f_let_x (P := fun w => d_mod h10 w) hf hz1
    replace hfr := d_frm.tr hfr hfr1 (by omega)
    refine a_iconst (pc' := 20) (v := (1 : Int32)) dX4_lies_19 rfl (by decide) ?_
    refine a_icmp_ne (pc' := 23) 27 dX4_lies_20 (by decide) rfl (fun k12 => ?_) (fun k12 => ?_)
    · replace hf := (if_neg k12).symm.trans hf
      refine a_iconst (pc' := 28) (v := (0 : Int32)) dX4_lies_27 rfl (by decide) ?_
      cases hf
      exact a_zret hr rfl ⟨rfl, hz, hfr⟩ dX4_lies_28
    · replace hf := (if_pos k12).symm.trans hf
      refine a_iconst (pc' := 24) (v := (1 : Int32)) dX4_lies_23 rfl (by decide) ?_
      refine a_goto 28 dX4_lies_24 (by decide) ?_
      cases hf
      exact a_zret hr rfl ⟨rfl, hz, hfr⟩ dX4_lies_28
/-! SlateRoofModel.roofBy(I)I -/
set_option maxRecDepth 100000 in
def f_X4_roofBy_L4 (F : Nat) (M : d_M) (a1 : Int32) : Nat → Int32 → Int32 → Option (Int32 × Int32)
  | 0, _, _ => none
  | n + 1, v2_4, v3_4 => f_grd ((2 : Int32)) 294 ((if ((m_z M) ((2 : Int32)).toNatClampNeg) ≤ v3_4 then some (v2_4, v3_4) else f_grd (((14 : Int32)) + v3_4) 294 ((if ((m_z M) (((14 : Int32)) + v3_4).toNatClampNeg) = a1 then (f_X4_liesIn F M v3_4).bind fun x5004 => f_X4_roofBy_L4 F M a1 n (v2_4 + x5004) (v3_4 + (1 : Int32)) else f_X4_roofBy_L4 F M a1 n (v2_4 + ((0 : Int32))) (v3_4 + (1 : Int32))))))
set_option maxRecDepth 100000 in
def f_X4_roofBy (F : Nat) (M : d_M) (a1 : Int32) : Option (Int32) := (f_X4_roofBy_L4 F M a1 F ((0 : Int32)) ((0 : Int32))).bind fun o1 => some (o1.1)
set_option maxHeartbeats 4000000 in
set_option maxRecDepth 100000 in
theorem l_X4_roofBy_L4 {p : Program} {l : Launch} {e : Env} {s : State} {m : MethodId} {args : Array Value} {below : List Frame} {meth : Method} {c : Code} {Q : State → Prop} {g : a_G} (F : Nat) {h : List va_E} (M : d_M) (a1 : Int32) (hz : d_mod h M) : ∀ (n : Nat) (v2_4 : Int32) (v3_4 : Int32) (o : Int32 × Int32), f_X4_roofBy_L4 F M a1 n v2_4 v3_4 = some o → (∀ e9 : Int32 × Int32, o = e9 → a_W p l e (a_rm 2 45) s m args below meth c Q RX4 cX4_roofBy 4 g 0 0 none 45 [(2, .int e9.1)] [] h) → a_W p l e (a_rm 2 45) s m args below meth c Q RX4 cX4_roofBy 4 g 0 0 none 4 [(0, .ref 55), (1, .int a1), (2, .int v2_4), (3, .int v3_4)] [] h := by
  intro n
  induction n with
  | zero => intro v2_4 v3_4 o hf; exact nomatch (show (none : Option (Int32 × Int32)) = some o from hf)
  | succ n ih =>
    intro v2_4 v3_4 o hf hX0
    rw [f_X4_roofBy_L4] at hf
    refine a_iload_n (pc' := 5) 3 dX4_roofBy_4 rfl rfl rfl ?_
    refine a_aload_n (pc' := 6) 0 dX4_roofBy_5 rfl rfl rfl ?_
    refine g_X4_7 (pc' := 9) hz.1 rfl dX4_roofBy_6 rfl ?_
    refine a_iconst (pc' := 10) (v := (2 : Int32)) dX4_roofBy_9 rfl (by decide) ?_
    obtain ⟨hg, hf⟩ := f_grd_x hf
    refine b_iald (pc' := 11) hz.2.1 hg dX4_roofBy_10 rfl ?_
    refine a_icmp_ge (pc' := 14) 45 dX4_roofBy_11 (by decide) rfl (fun k5001 => ?_) (fun k5001 => ?_)
    · replace hf := (if_pos k5001).symm.trans hf
      cases hf
      refine a_sub [2] rfl ?_
      exact hX0 _ rfl
    · replace hf := (if_neg k5001).symm.trans hf
      refine a_iload_n (pc' := 15) 2 dX4_roofBy_14 rfl rfl rfl ?_
      refine a_aload_n (pc' := 16) 0 dX4_roofBy_15 rfl rfl rfl ?_
      refine g_X4_7 (pc' := 19) hz.1 rfl dX4_roofBy_16 rfl ?_
      refine a_bipush (pc' := 21) (v := (14 : Int32)) dX4_roofBy_19 rfl (by decide) ?_
      refine a_iload_n (pc' := 22) 3 dX4_roofBy_21 rfl rfl rfl ?_
      refine a_iadd (pc' := 23) dX4_roofBy_22 rfl ?_
      obtain ⟨hg, hf⟩ := f_grd_x hf
      refine b_iald (pc' := 24) hz.2.1 hg dX4_roofBy_23 rfl ?_
      refine a_iload_n (pc' := 25) 1 dX4_roofBy_24 rfl rfl rfl ?_
      refine a_icmp_ne (pc' := 28) 36 dX4_roofBy_25 (by decide) rfl (fun k5002 => ?_) (fun k5002 => ?_)
      · replace hf := (if_neg k5002).symm.trans hf
        refine a_iconst (pc' := 37) (v := (0 : Int32)) dX4_roofBy_36 rfl (by decide) ?_
        refine a_iadd (pc' := 38) dX4_roofBy_37 rfl ?_
        refine a_istore_n (pc' := 39) (ls' := [(2, .int (v2_4 + ((0 : Int32)))), (0, .ref 55), (1, .int a1), (3, .int v3_4)]) dX4_roofBy_38 rfl (by decide) rfl rfl ?_
        refine a_iinc (pc' := 42) (v := v3_4 + (1 : Int32)) (ls' := [(3, .int (v3_4 + (1 : Int32))), (2, .int (v2_4 + ((0 : Int32)))), (0, .ref 55), (1, .int a1)]) 3 dX4_roofBy_39 rfl (by rfl) (by decide) rfl rfl ?_
        refine a_goto 4 dX4_roofBy_42 (by decide) ?_
        refine a_sub [2, 3, 1, 0] rfl ?_
        exact ih _ _ _ hf hX0
      · replace hf := (if_pos k5002).symm.trans hf
        refine a_aload_n (pc' := 29) 0 dX4_roofBy_28 rfl rfl rfl ?_
        refine a_iload_n (pc' := 30) 3 dX4_roofBy_29 rfl rfl rfl ?_
        obtain ⟨x5004, e5003, hf⟩ := Option.bind_eq_some_iff.mp hf
        refine k_X4_50 (pc' := 33) (c_X4_liesIn l g F hz e5003) ⟨Nat.le_of_ble_eq_true rfl, Nat.le_of_ble_eq_true rfl⟩ hz.1 (Nat.le_of_ble_eq_true rfl) dX4_roofBy_30 rfl ?_
        refine a_goto 37 dX4_roofBy_33 (by decide) ?_
        refine a_iadd (pc' := 38) dX4_roofBy_37 rfl ?_
        refine a_istore_n (pc' := 39) (ls' := [(2, .int (v2_4 + x5004)), (0, .ref 55), (1, .int a1), (3, .int v3_4)]) dX4_roofBy_38 rfl (by decide) rfl rfl ?_
        refine a_iinc (pc' := 42) (v := v3_4 + (1 : Int32)) (ls' := [(3, .int (v3_4 + (1 : Int32))), (2, .int (v2_4 + x5004)), (0, .ref 55), (1, .int a1)]) 3 dX4_roofBy_39 rfl (by rfl) (by decide) rfl rfl ?_
        refine a_goto 4 dX4_roofBy_42 (by decide) ?_
        refine a_sub [2, 3, 1, 0] rfl ?_
        exact ih _ _ _ hf hX0
set_option maxHeartbeats 4000000 in
set_option maxRecDepth 100000 in
theorem c_X4_roofBy (l : Launch) (g : a_G) (F : Nat) {h : List va_E} {M : d_M} {a1 : Int32} (hz : d_mod h M) {out : Int32} (hf : f_X4_roofBy F M a1 = some out) : a_CT l g yX4_roofBy cX4_roofBy 4 (some .int) (a_rm 2 45) [.ref 55, .int a1] h none none (fun r h' => r = some (.int out) ∧ h' = h) := by
  refine a_enter ⟨by decide, rfl, Nat.le_of_ble_eq_true rfl⟩ (fun p e s m args below meth c hr hin => ?_)
  unfold f_X4_roofBy at hf
  refine a_sub (ls' := [(0, .ref 55), (1, .int a1)]) [0, 1] rfl ?_
  refine a_iconst (pc' := 1) (v := (0 : Int32)) dX4_roofBy_0 rfl (by decide) ?_
  refine a_istore_n (pc' := 2) (ls' := [(2, .int ((0 : Int32))), (0, .ref 55), (1, .int a1)]) dX4_roofBy_1 rfl (by decide) rfl rfl ?_
  refine a_iconst (pc' := 3) (v := (0 : Int32)) dX4_roofBy_2 rfl (by decide) ?_
  refine a_istore_n (pc' := 4) (ls' := [(3, .int ((0 : Int32))), (2, .int ((0 : Int32))), (0, .ref 55), (1, .int a1)]) dX4_roofBy_3 rfl (by decide) rfl rfl ?_
  obtain ⟨o1, e2, hf⟩ := Option.bind_eq_some_iff.mp hf
  refine a_sub [2, 3, 1, 0] rfl ?_
  refine l_X4_roofBy_L4 F M a1 hz F _ _ o1 e2 (fun e9 he9 => ?_)
  subst he9
  refine a_iload_n (pc' := 46) 0 dX4_roofBy_45 rfl rfl rfl ?_
  cases hf
  exact a_iret hr ⟨rfl, rfl⟩ dX4_roofBy_46
/-! SlateRoofModel.slatesNow(II)I -/
set_option maxRecDepth 100000 in
def f_X4_slatesNow (F : Nat) (M : d_M) (a1 : Int32) (a2 : Int32) : Option (Int32) := (if a2 = (0 : Int32) then f_grd (((214 : Int32)) + a1) 294 (some ((m_z M) (((214 : Int32)) + a1).toNatClampNeg)) else (if a2 = (1 : Int32) then f_grd (((239 : Int32)) + a1) 294 (some ((m_z M) (((239 : Int32)) + a1).toNatClampNeg)) else (if a2 = (2 : Int32) then (f_X4_roofBy F M a1).bind fun x5 => some (x5) else (if a2 = (3 : Int32) then f_grd (((264 : Int32)) + a1) 294 (some ((m_z M) (((264 : Int32)) + a1).toNatClampNeg)) else ((f_X4_price F a1).bind fun x8 => some (x8))))))
set_option maxHeartbeats 4000000 in
set_option maxRecDepth 100000 in
theorem c_X4_slatesNow (l : Launch) (g : a_G) (F : Nat) {h : List va_E} {M : d_M} {a1 : Int32} {a2 : Int32} (hz : d_mod h M) {out : Int32} (hf : f_X4_slatesNow F M a1 a2 = some out) : a_CT l g yX4_slatesNow cX4_slatesNow 3 (some .int) (a_rm 3 68) [.ref 55, .int a1, .int a2] h none none (fun r h' => r = some (.int out) ∧ h' = h) := by
  refine a_enter ⟨by decide, rfl, Nat.le_of_ble_eq_true rfl⟩ (fun p e s m args below meth c hr hin => ?_)
  unfold f_X4_slatesNow at hf
  refine a_sub (ls' := [(0, .ref 55), (1, .int a1), (2, .int a2)]) [0, 1, 2] rfl ?_
  refine a_iload_n (pc' := 1) 2 dX4_slatesNow_0 rfl rfl rfl ?_
  by_cases k1 : a2 = (0 : Int32)
  · replace hf := (if_pos k1).symm.trans hf
    refine b_top k1 ?_
    refine a_tableIn (off := 31) 32 dX4_slatesNow_1 (by decide) (by decide) rfl (by decide) ?_
    refine a_aload_n (pc' := 33) 0 dX4_slatesNow_32 rfl rfl rfl ?_
    refine g_X4_7 (pc' := 36) hz.1 rfl dX4_slatesNow_33 rfl ?_
    refine a_sipush (pc' := 39) (v := (214 : Int32)) dX4_slatesNow_36 rfl (by decide) ?_
    refine a_iload_n (pc' := 40) 1 dX4_slatesNow_39 rfl rfl rfl ?_
    refine a_iadd (pc' := 41) dX4_slatesNow_40 rfl ?_
    obtain ⟨hg, hf⟩ := f_grd_x hf
    refine b_iald (pc' := 42) hz.2.1 hg dX4_slatesNow_41 rfl ?_
    cases hf
    exact a_iret hr ⟨rfl, rfl⟩ dX4_slatesNow_42
  · replace hf := (if_neg k1).symm.trans hf
    by_cases k2 : a2 = (1 : Int32)
    · replace hf := (if_pos k2).symm.trans hf
      refine b_top k2 ?_
      refine a_tableIn (off := 42) 43 dX4_slatesNow_1 (by decide) (by decide) rfl (by decide) ?_
      refine a_aload_n (pc' := 44) 0 dX4_slatesNow_43 rfl rfl rfl ?_
      refine g_X4_7 (pc' := 47) hz.1 rfl dX4_slatesNow_44 rfl ?_
      refine a_sipush (pc' := 50) (v := (239 : Int32)) dX4_slatesNow_47 rfl (by decide) ?_
      refine a_iload_n (pc' := 51) 1 dX4_slatesNow_50 rfl rfl rfl ?_
      refine a_iadd (pc' := 52) dX4_slatesNow_51 rfl ?_
      obtain ⟨hg, hf⟩ := f_grd_x hf
      refine b_iald (pc' := 53) hz.2.1 hg dX4_slatesNow_52 rfl ?_
      cases hf
      exact a_iret hr ⟨rfl, rfl⟩ dX4_slatesNow_53
    · replace hf := (if_neg k2).symm.trans hf
      by_cases k3 : a2 = (2 : Int32)
      · replace hf := (if_pos k3).symm.trans hf
        refine b_top k3 ?_
        refine a_tableIn (off := 53) 54 dX4_slatesNow_1 (by decide) (by decide) rfl (by decide) ?_
        refine a_aload_n (pc' := 55) 0 dX4_slatesNow_54 rfl rfl rfl ?_
        refine a_iload_n (pc' := 56) 1 dX4_slatesNow_55 rfl rfl rfl ?_
        obtain ⟨x5, e4, hf⟩ := Option.bind_eq_some_iff.mp hf
        refine k_X4_152 (pc' := 59) (c_X4_roofBy l g F hz e4) ⟨Nat.le_of_ble_eq_true rfl, Nat.le_of_ble_eq_true rfl⟩ hz.1 (Nat.le_of_ble_eq_true rfl) dX4_slatesNow_56 rfl ?_
        cases hf
        exact a_iret hr ⟨rfl, rfl⟩ dX4_slatesNow_59
      · replace hf := (if_neg k3).symm.trans hf
        by_cases k6 : a2 = (3 : Int32)
        · replace hf := (if_pos k6).symm.trans hf
          refine b_top k6 ?_
          refine a_tableIn (off := 59) 60 dX4_slatesNow_1 (by decide) (by decide) rfl (by decide) ?_
          refine a_aload_n (pc' := 61) 0 dX4_slatesNow_60 rfl rfl rfl ?_
          refine g_X4_7 (pc' := 64) hz.1 rfl dX4_slatesNow_61 rfl ?_
          refine a_sipush (pc' := 67) (v := (264 : Int32)) dX4_slatesNow_64 rfl (by decide) ?_
          refine a_iload_n (pc' := 68) 1 dX4_slatesNow_67 rfl rfl rfl ?_
          refine a_iadd (pc' := 69) dX4_slatesNow_68 rfl ?_
          obtain ⟨hg, hf⟩ := f_grd_x hf
          refine b_iald (pc' := 70) hz.2.1 hg dX4_slatesNow_69 rfl ?_
          cases hf
          exact a_iret hr ⟨rfl, rfl⟩ dX4_slatesNow_70
        · replace hf := (if_neg k6).symm.trans hf
          refine a_tableOut 71 dX4_slatesNow_1 (b_tout4_0 k1 k2 k3 k6) (by decide) ?_
          refine a_iload_n (pc' := 72) 1 dX4_slatesNow_71 rfl rfl rfl ?_
          obtain ⟨x8, e7, hf⟩ := Option.bind_eq_some_iff.mp hf
          refine k_X4_77 (pc' := 75) (c_X4_price l g F e7) ⟨Nat.le_of_ble_eq_true rfl, Nat.le_of_ble_eq_true rfl⟩ (Nat.le_of_ble_eq_true rfl) dX4_slatesNow_72 rfl ?_
          cases hf
          exact a_iret hr ⟨rfl, rfl⟩ dX4_slatesNow_75
/-! SlateRoofModel.slates(II)I -/
set_option maxRecDepth 100000 in
def f_X4_slates (F : Nat) (M : d_M) (a1 : Int32) (a2 : Int32) : Option (Int32 × d_M) := f_let (ms_thrown M ((0 : Int32))) fun M2 => (f_X4_isLength F a1).bind fun x4 => (if x4 = 0 then (f_X4_fails F M2 ((1 : Int32))).bind fun x7 => f_let x7.2 fun M9 => some ((x7.1, M9)) else (f_X4_within F a2 ((0 : Int32)) ((4 : Int32))).bind fun x11 => (if x11 = 0 then (f_X4_fails F M2 ((1 : Int32))).bind fun x14 => f_let x14.2 fun M16 => some ((x14.1, M16)) else (f_X4_slatesNow F M2 a1 a2).bind fun x18 => some ((x18, M2))))
set_option maxHeartbeats 4000000 in
set_option maxRecDepth 100000 in
theorem c_X4_slates (l : Launch) (g : a_G) (F : Nat) {h : List va_E} {M : d_M} {a1 : Int32} {a2 : Int32} (hz : d_mod h M) {out : Int32 × d_M} (hf : f_X4_slates F M a1 a2 = some out) : a_CT l g yX4_slates cX4_slates 3 (some .int) (a_rm 4 90) [.ref 55, .int a1, .int a2] h none none (fun r h' => r = some (.int out.1) ∧ d_mod h' out.2 ∧ d_frm 55 6 h h') := by
  refine a_enter ⟨by decide, rfl, Nat.le_of_ble_eq_true rfl⟩ (fun p e s m args below meth c hr hin => ?_)
  unfold f_X4_slates at hf
  have hfr : d_frm 55 6 h h := d_frm.rf
  refine a_sub (ls' := [(0, .ref 55), (1, .int a1), (2, .int a2)]) [0, 1, 2] rfl ?_
  refine a_aload_n (pc' := 1) 0 dX4_slates_0 rfl rfl rfl ?_
  refine a_iconst (pc' := 2) (v := (0 : Int32)) dX4_slates_1 rfl (by decide) ?_
  refine pt_X4_25 (pc' := 5) hz dX4_slates_2 rfl (fun h1 hz1 hfr1 => ?_)
  obtain ⟨M2, hf, hz⟩ := f_let_x (P := fun w => d_mod h1 w) hf hz1
  replace hfr := d_frm.tr hfr hfr1 (by omega)
  refine a_iload_n (pc' := 6) 1 dX4_slates_5 rfl rfl rfl ?_
  obtain ⟨x4, e3, hf⟩ := Option.bind_eq_some_iff.mp hf
  refine k_X4_69 (pc' := 9) (c_X4_isLength l g F e3) ⟨Nat.le_of_ble_eq_true rfl, Nat.le_of_ble_eq_true rfl⟩ (Nat.le_of_ble_eq_true rfl) dX4_slates_6 rfl ?_
  refine a_if_eq (pc' := 12) 30 dX4_slates_9 (by decide) rfl (fun k5 => ?_) (fun k5 => ?_)
  · replace hf := (if_pos k5).symm.trans hf
    refine a_aload_n (pc' := 31) 0 dX4_slates_30 rfl rfl rfl ?_
    refine a_iconst (pc' := 32) (v := (1 : Int32)) dX4_slates_31 rfl (by decide) ?_
    obtain ⟨x7, e6, hf⟩ := Option.bind_eq_some_iff.mp hf
    refine k_X4_60 (pc' := 35) (c_X4_fails l g F hz e6) ⟨Nat.le_of_ble_eq_true rfl, Nat.le_of_ble_eq_true rfl⟩ hz.1 (Nat.le_of_ble_eq_true rfl) dX4_slates_32 rfl (fun h8 hq => ?_)
    obtain ⟨hz1, hfr1⟩ := hq
    obtain ⟨M9, hf, hz⟩ := f_let_x (P := fun w => d_mod h8 w) hf hz1
    replace hfr := d_frm.tr hfr hfr1 (by omega)
    cases hf
    exact a_iret hr ⟨rfl, hz, hfr⟩ dX4_slates_35
  · replace hf := (if_neg k5).symm.trans hf
    refine a_iload_n (pc' := 13) 2 dX4_slates_12 rfl rfl rfl ?_
    refine a_iconst (pc' := 14) (v := (0 : Int32)) dX4_slates_13 rfl (by decide) ?_
    refine a_iconst (pc' := 15) (v := (4 : Int32)) dX4_slates_14 rfl (by decide) ?_
    obtain ⟨x11, e10, hf⟩ := Option.bind_eq_some_iff.mp hf
    refine k_X4_29 (pc' := 18) (c_X4_within l g F e10) ⟨Nat.le_of_ble_eq_true rfl, Nat.le_of_ble_eq_true rfl⟩ (Nat.le_of_ble_eq_true rfl) dX4_slates_15 rfl ?_
    refine a_if_eq (pc' := 21) 30 dX4_slates_18 (by decide) rfl (fun k12 => ?_) (fun k12 => ?_)
    · replace hf := (if_pos k12).symm.trans hf
      refine a_aload_n (pc' := 31) 0 dX4_slates_30 rfl rfl rfl ?_
      refine a_iconst (pc' := 32) (v := (1 : Int32)) dX4_slates_31 rfl (by decide) ?_
      obtain ⟨x14, e13, hf⟩ := Option.bind_eq_some_iff.mp hf
      refine k_X4_60 (pc' := 35) (c_X4_fails l g F hz e13) ⟨Nat.le_of_ble_eq_true rfl, Nat.le_of_ble_eq_true rfl⟩ hz.1 (Nat.le_of_ble_eq_true rfl) dX4_slates_32 rfl (fun h15 hq => ?_)
      obtain ⟨hz1, hfr1⟩ := hq
      obtain ⟨M16, hf, hz⟩ := f_let_x (P := fun w => d_mod h15 w) hf hz1
      replace hfr := d_frm.tr hfr hfr1 (by omega)
      cases hf
      exact a_iret hr ⟨rfl, hz, hfr⟩ dX4_slates_35
    · replace hf := (if_neg k12).symm.trans hf
      refine a_aload_n (pc' := 22) 0 dX4_slates_21 rfl rfl rfl ?_
      refine a_iload_n (pc' := 23) 1 dX4_slates_22 rfl rfl rfl ?_
      refine a_iload_n (pc' := 24) 2 dX4_slates_23 rfl rfl rfl ?_
      obtain ⟨x18, e17, hf⟩ := Option.bind_eq_some_iff.mp hf
      refine k_X4_155 (pc' := 27) (c_X4_slatesNow l g F hz e17) ⟨Nat.le_of_ble_eq_true rfl, Nat.le_of_ble_eq_true rfl⟩ hz.1 (Nat.le_of_ble_eq_true rfl) dX4_slates_24 rfl ?_
      refine a_goto 35 dX4_slates_27 (by decide) ?_
      cases hf
      exact a_iret hr ⟨rfl, hz, hfr⟩ dX4_slates_35
/-! SlateRoofModel.counted(I)I -/
set_option maxRecDepth 100000 in
def f_X4_counted (F : Nat) (M : d_M) (a1 : Int32) : Option (Int32) := (if a1 = (0 : Int32) then f_grd ((0 : Int32)) 294 (some ((m_z M) ((0 : Int32)).toNatClampNeg)) else (if a1 = (1 : Int32) then f_grd ((1 : Int32)) 294 (some ((m_z M) ((1 : Int32)).toNatClampNeg)) else (if a1 = (2 : Int32) then f_grd ((2 : Int32)) 294 (some ((m_z M) ((2 : Int32)).toNatClampNeg)) else (if a1 = (3 : Int32) then (f_X4_top F M).bind fun x6 => some (x6) else (if a1 = (4 : Int32) then (f_X4_onRoof F M).bind fun x9 => some (x9) else (if a1 = (5 : Int32) then (f_X4_gaps F M).bind fun x12 => some (x12) else (if a1 = (6 : Int32) then (f_X4_isDone F M).bind fun x15 => (if x15 = 0 then some ((0 : Int32)) else some ((1 : Int32))) else (if a1 = (7 : Int32) then f_grd ((6 : Int32)) 294 (some ((m_z M) ((6 : Int32)).toNatClampNeg)) else (if a1 = (8 : Int32) then f_grd ((7 : Int32)) 294 (some ((m_z M) ((7 : Int32)).toNatClampNeg)) else (if a1 = (9 : Int32) then f_grd ((8 : Int32)) 294 (some ((m_z M) ((8 : Int32)).toNatClampNeg)) else (if a1 = (10 : Int32) then f_grd ((9 : Int32)) 294 (some ((m_z M) ((9 : Int32)).toNatClampNeg)) else (if a1 = (11 : Int32) then (f_X4_sum F M ((264 : Int32))).bind fun x23 => some (x23) else (if a1 = (12 : Int32) then (f_X4_sum F M ((214 : Int32))).bind fun x26 => some (x26) else (if a1 = (13 : Int32) then (f_X4_sum F M ((239 : Int32))).bind fun x29 => some (x29) else (if a1 = (14 : Int32) then f_grd ((10 : Int32)) 294 (some ((m_z M) ((10 : Int32)).toNatClampNeg)) else (if a1 = (15 : Int32) then f_grd ((11 : Int32)) 294 (some ((m_z M) ((11 : Int32)).toNatClampNeg)) else (if a1 = (16 : Int32) then f_grd ((12 : Int32)) 294 (some ((m_z M) ((12 : Int32)).toNatClampNeg)) else (if a1 = (17 : Int32) then f_grd ((13 : Int32)) 294 (some ((m_z M) ((13 : Int32)).toNatClampNeg)) else (some (m_saved M))))))))))))))))))))
set_option maxHeartbeats 4000000 in
set_option maxRecDepth 100000 in
theorem c_X4_counted (l : Launch) (g : a_G) (F : Nat) {h : List va_E} {M : d_M} {a1 : Int32} (hz : d_mod h M) {out : Int32} (hf : f_X4_counted F M a1 = some out) : a_CT l g yX4_counted cX4_counted 2 (some .int) (a_rm 4 87) [.ref 55, .int a1] h none none (fun r h' => r = some (.int out) ∧ h' = h) := by
  refine a_enter ⟨by decide, rfl, Nat.le_of_ble_eq_true rfl⟩ (fun p e s m args below meth c hr hin => ?_)
  unfold f_X4_counted at hf
  refine a_sub (ls' := [(0, .ref 55), (1, .int a1)]) [0, 1] rfl ?_
  refine a_iload_n (pc' := 1) 1 dX4_counted_0 rfl rfl rfl ?_
  by_cases k1 : a1 = (0 : Int32)
  · replace hf := (if_pos k1).symm.trans hf
    refine b_top k1 ?_
    refine a_tableIn (off := 87) 88 dX4_counted_1 (by decide) (by decide) rfl (by decide) ?_
    refine a_aload_n (pc' := 89) 0 dX4_counted_88 rfl rfl rfl ?_
    refine g_X4_7 (pc' := 92) hz.1 rfl dX4_counted_89 rfl ?_
    refine a_iconst (pc' := 93) (v := (0 : Int32)) dX4_counted_92 rfl (by decide) ?_
    obtain ⟨hg, hf⟩ := f_grd_x hf
    refine b_iald (pc' := 94) hz.2.1 hg dX4_counted_93 rfl ?_
    cases hf
    exact a_iret hr ⟨rfl, rfl⟩ dX4_counted_94
  · replace hf := (if_neg k1).symm.trans hf
    by_cases k2 : a1 = (1 : Int32)
    · replace hf := (if_pos k2).symm.trans hf
      refine b_top k2 ?_
      refine a_tableIn (off := 94) 95 dX4_counted_1 (by decide) (by decide) rfl (by decide) ?_
      refine a_aload_n (pc' := 96) 0 dX4_counted_95 rfl rfl rfl ?_
      refine g_X4_7 (pc' := 99) hz.1 rfl dX4_counted_96 rfl ?_
      refine a_iconst (pc' := 100) (v := (1 : Int32)) dX4_counted_99 rfl (by decide) ?_
      obtain ⟨hg, hf⟩ := f_grd_x hf
      refine b_iald (pc' := 101) hz.2.1 hg dX4_counted_100 rfl ?_
      cases hf
      exact a_iret hr ⟨rfl, rfl⟩ dX4_counted_101
    · replace hf := (if_neg k2).symm.trans hf
      by_cases k3 : a1 = (2 : Int32)
      · replace hf := (if_pos k3).symm.trans hf
        refine b_top k3 ?_
        refine a_tableIn (off := 101) 102 dX4_counted_1 (by decide) (by decide) rfl (by decide) ?_
        refine a_aload_n (pc' := 103) 0 dX4_counted_102 rfl rfl rfl ?_
        refine g_X4_7 (pc' := 106) hz.1 rfl dX4_counted_103 rfl ?_
        refine a_iconst (pc' := 107) (v := (2 : Int32)) dX4_counted_106 rfl (by decide) ?_
        obtain ⟨hg, hf⟩ := f_grd_x hf
        refine b_iald (pc' := 108) hz.2.1 hg dX4_counted_107 rfl ?_
        cases hf
        exact a_iret hr ⟨rfl, rfl⟩ dX4_counted_108
      · replace hf := (if_neg k3).symm.trans hf
        by_cases k4 : a1 = (3 : Int32)
        · replace hf := (if_pos k4).symm.trans hf
          refine b_top k4 ?_
          refine a_tableIn (off := 108) 109 dX4_counted_1 (by decide) (by decide) rfl (by decide) ?_
          refine a_aload_n (pc' := 110) 0 dX4_counted_109 rfl rfl rfl ?_
          obtain ⟨x6, e5, hf⟩ := Option.bind_eq_some_iff.mp hf
          refine k_X4_53 (pc' := 113) (c_X4_top l g F hz e5) ⟨Nat.le_of_ble_eq_true rfl, Nat.le_of_ble_eq_true rfl⟩ hz.1 (Nat.le_of_ble_eq_true rfl) dX4_counted_110 rfl ?_
          cases hf
          exact a_iret hr ⟨rfl, rfl⟩ dX4_counted_113
        · replace hf := (if_neg k4).symm.trans hf
          by_cases k7 : a1 = (4 : Int32)
          · replace hf := (if_pos k7).symm.trans hf
            refine b_top k7 ?_
            refine a_tableIn (off := 113) 114 dX4_counted_1 (by decide) (by decide) rfl (by decide) ?_
            refine a_aload_n (pc' := 115) 0 dX4_counted_114 rfl rfl rfl ?_
            obtain ⟨x9, e8, hf⟩ := Option.bind_eq_some_iff.mp hf
            refine k_X4_66 (pc' := 118) (c_X4_onRoof l g F hz e8) ⟨Nat.le_of_ble_eq_true rfl, Nat.le_of_ble_eq_true rfl⟩ hz.1 (Nat.le_of_ble_eq_true rfl) dX4_counted_115 rfl ?_
            cases hf
            exact a_iret hr ⟨rfl, rfl⟩ dX4_counted_118
          · replace hf := (if_neg k7).symm.trans hf
            by_cases k10 : a1 = (5 : Int32)
            · replace hf := (if_pos k10).symm.trans hf
              refine b_top k10 ?_
              refine a_tableIn (off := 118) 119 dX4_counted_1 (by decide) (by decide) rfl (by decide) ?_
              refine a_aload_n (pc' := 120) 0 dX4_counted_119 rfl rfl rfl ?_
              obtain ⟨x12, e11, hf⟩ := Option.bind_eq_some_iff.mp hf
              refine k_X4_57 (pc' := 123) (c_X4_gaps l g F hz e11) ⟨Nat.le_of_ble_eq_true rfl, Nat.le_of_ble_eq_true rfl⟩ hz.1 (Nat.le_of_ble_eq_true rfl) dX4_counted_120 rfl ?_
              cases hf
              exact a_iret hr ⟨rfl, rfl⟩ dX4_counted_123
            · replace hf := (if_neg k10).symm.trans hf
              by_cases k13 : a1 = (6 : Int32)
              · replace hf := (if_pos k13).symm.trans hf
                refine b_top k13 ?_
                refine a_tableIn (off := 123) 124 dX4_counted_1 (by decide) (by decide) rfl (by decide) ?_
                refine a_aload_n (pc' := 125) 0 dX4_counted_124 rfl rfl rfl ?_
                obtain ⟨x15, e14, hf⟩ := Option.bind_eq_some_iff.mp hf
                refine k_X4_107 (pc' := 128) (c_X4_isDone l g F hz e14) ⟨Nat.le_of_ble_eq_true rfl, Nat.le_of_ble_eq_true rfl⟩ hz.1 (Nat.le_of_ble_eq_true rfl) dX4_counted_125 rfl ?_
                refine a_if_eq (pc' := 131) 135 dX4_counted_128 (by decide) rfl (fun k16 => ?_) (fun k16 => ?_)
                · replace hf := (if_pos k16).symm.trans hf
                  refine a_iconst (pc' := 136) (v := (0 : Int32)) dX4_counted_135 rfl (by decide) ?_
                  cases hf
                  exact a_iret hr ⟨rfl, rfl⟩ dX4_counted_136
                · replace hf := (if_neg k16).symm.trans hf
                  refine a_iconst (pc' := 132) (v := (1 : Int32)) dX4_counted_131 rfl (by decide) ?_
                  refine a_goto 136 dX4_counted_132 (by decide) ?_
                  cases hf
                  exact a_iret hr ⟨rfl, rfl⟩ dX4_counted_136
              · replace hf := (if_neg k13).symm.trans hf
                by_cases k17 : a1 = (7 : Int32)
                · replace hf := (if_pos k17).symm.trans hf
                  refine b_top k17 ?_
                  refine a_tableIn (off := 136) 137 dX4_counted_1 (by decide) (by decide) rfl (by decide) ?_
                  refine a_aload_n (pc' := 138) 0 dX4_counted_137 rfl rfl rfl ?_
                  refine g_X4_7 (pc' := 141) hz.1 rfl dX4_counted_138 rfl ?_
                  refine a_bipush (pc' := 143) (v := (6 : Int32)) dX4_counted_141 rfl (by decide) ?_
                  obtain ⟨hg, hf⟩ := f_grd_x hf
                  refine b_iald (pc' := 144) hz.2.1 hg dX4_counted_143 rfl ?_
                  cases hf
                  exact a_iret hr ⟨rfl, rfl⟩ dX4_counted_144
                · replace hf := (if_neg k17).symm.trans hf
                  by_cases k18 : a1 = (8 : Int32)
                  · replace hf := (if_pos k18).symm.trans hf
                    refine b_top k18 ?_
                    refine a_tableIn (off := 144) 145 dX4_counted_1 (by decide) (by decide) rfl (by decide) ?_
                    refine a_aload_n (pc' := 146) 0 dX4_counted_145 rfl rfl rfl ?_
                    refine g_X4_7 (pc' := 149) hz.1 rfl dX4_counted_146 rfl ?_
                    refine a_bipush (pc' := 151) (v := (7 : Int32)) dX4_counted_149 rfl (by decide) ?_
                    obtain ⟨hg, hf⟩ := f_grd_x hf
                    refine b_iald (pc' := 152) hz.2.1 hg dX4_counted_151 rfl ?_
                    cases hf
                    exact a_iret hr ⟨rfl, rfl⟩ dX4_counted_152
                  · replace hf := (if_neg k18).symm.trans hf
                    by_cases k19 : a1 = (9 : Int32)
                    · replace hf := (if_pos k19).symm.trans hf
                      refine b_top k19 ?_
                      refine a_tableIn (off := 152) 153 dX4_counted_1 (by decide) (by decide) rfl (by decide) ?_
                      refine a_aload_n (pc' := 154) 0 dX4_counted_153 rfl rfl rfl ?_
                      refine g_X4_7 (pc' := 157) hz.1 rfl dX4_counted_154 rfl ?_
                      refine a_bipush (pc' := 159) (v := (8 : Int32)) dX4_counted_157 rfl (by decide) ?_
                      obtain ⟨hg, hf⟩ := f_grd_x hf
                      refine b_iald (pc' := 160) hz.2.1 hg dX4_counted_159 rfl ?_
                      cases hf
                      exact a_iret hr ⟨rfl, rfl⟩ dX4_counted_160
                    · replace hf := (if_neg k19).symm.trans hf
                      by_cases k20 : a1 = (10 : Int32)
                      · replace hf := (if_pos k20).symm.trans hf
                        refine b_top k20 ?_
                        refine a_tableIn (off := 160) 161 dX4_counted_1 (by decide) (by decide) rfl (by decide) ?_
                        refine a_aload_n (pc' := 162) 0 dX4_counted_161 rfl rfl rfl ?_
                        refine g_X4_7 (pc' := 165) hz.1 rfl dX4_counted_162 rfl ?_
                        refine a_bipush (pc' := 167) (v := (9 : Int32)) dX4_counted_165 rfl (by decide) ?_
                        obtain ⟨hg, hf⟩ := f_grd_x hf
                        refine b_iald (pc' := 168) hz.2.1 hg dX4_counted_167 rfl ?_
                        cases hf
                        exact a_iret hr ⟨rfl, rfl⟩ dX4_counted_168
                      · replace hf := (if_neg k20).symm.trans hf
                        by_cases k21 : a1 = (11 : Int32)
                        · replace hf := (if_pos k21).symm.trans hf
                          refine b_top k21 ?_
                          refine a_tableIn (off := 168) 169 dX4_counted_1 (by decide) (by decide) rfl (by decide) ?_
                          refine a_aload_n (pc' := 170) 0 dX4_counted_169 rfl rfl rfl ?_
                          refine a_sipush (pc' := 173) (v := (264 : Int32)) dX4_counted_170 rfl (by decide) ?_
                          obtain ⟨x23, e22, hf⟩ := Option.bind_eq_some_iff.mp hf
                          refine k_X4_73 (pc' := 176) (c_X4_sum l g F hz e22) ⟨Nat.le_of_ble_eq_true rfl, Nat.le_of_ble_eq_true rfl⟩ hz.1 (Nat.le_of_ble_eq_true rfl) dX4_counted_173 rfl ?_
                          cases hf
                          exact a_iret hr ⟨rfl, rfl⟩ dX4_counted_176
                        · replace hf := (if_neg k21).symm.trans hf
                          by_cases k24 : a1 = (12 : Int32)
                          · replace hf := (if_pos k24).symm.trans hf
                            refine b_top k24 ?_
                            refine a_tableIn (off := 176) 177 dX4_counted_1 (by decide) (by decide) rfl (by decide) ?_
                            refine a_aload_n (pc' := 178) 0 dX4_counted_177 rfl rfl rfl ?_
                            refine a_sipush (pc' := 181) (v := (214 : Int32)) dX4_counted_178 rfl (by decide) ?_
                            obtain ⟨x26, e25, hf⟩ := Option.bind_eq_some_iff.mp hf
                            refine k_X4_73 (pc' := 184) (c_X4_sum l g F hz e25) ⟨Nat.le_of_ble_eq_true rfl, Nat.le_of_ble_eq_true rfl⟩ hz.1 (Nat.le_of_ble_eq_true rfl) dX4_counted_181 rfl ?_
                            cases hf
                            exact a_iret hr ⟨rfl, rfl⟩ dX4_counted_184
                          · replace hf := (if_neg k24).symm.trans hf
                            by_cases k27 : a1 = (13 : Int32)
                            · replace hf := (if_pos k27).symm.trans hf
                              refine b_top k27 ?_
                              refine a_tableIn (off := 184) 185 dX4_counted_1 (by decide) (by decide) rfl (by decide) ?_
                              refine a_aload_n (pc' := 186) 0 dX4_counted_185 rfl rfl rfl ?_
                              refine a_sipush (pc' := 189) (v := (239 : Int32)) dX4_counted_186 rfl (by decide) ?_
                              obtain ⟨x29, e28, hf⟩ := Option.bind_eq_some_iff.mp hf
                              refine k_X4_73 (pc' := 192) (c_X4_sum l g F hz e28) ⟨Nat.le_of_ble_eq_true rfl, Nat.le_of_ble_eq_true rfl⟩ hz.1 (Nat.le_of_ble_eq_true rfl) dX4_counted_189 rfl ?_
                              cases hf
                              exact a_iret hr ⟨rfl, rfl⟩ dX4_counted_192
                            · replace hf := (if_neg k27).symm.trans hf
                              by_cases k30 : a1 = (14 : Int32)
                              · replace hf := (if_pos k30).symm.trans hf
                                refine b_top k30 ?_
                                refine a_tableIn (off := 192) 193 dX4_counted_1 (by decide) (by decide) rfl (by decide) ?_
                                refine a_aload_n (pc' := 194) 0 dX4_counted_193 rfl rfl rfl ?_
                                refine g_X4_7 (pc' := 197) hz.1 rfl dX4_counted_194 rfl ?_
                                refine a_bipush (pc' := 199) (v := (10 : Int32)) dX4_counted_197 rfl (by decide) ?_
                                obtain ⟨hg, hf⟩ := f_grd_x hf
                                refine b_iald (pc' := 200) hz.2.1 hg dX4_counted_199 rfl ?_
                                cases hf
                                exact a_iret hr ⟨rfl, rfl⟩ dX4_counted_200
                              · replace hf := (if_neg k30).symm.trans hf
                                by_cases k31 : a1 = (15 : Int32)
                                · replace hf := (if_pos k31).symm.trans hf
                                  refine b_top k31 ?_
                                  refine a_tableIn (off := 200) 201 dX4_counted_1 (by decide) (by decide) rfl (by decide) ?_
                                  refine a_aload_n (pc' := 202) 0 dX4_counted_201 rfl rfl rfl ?_
                                  refine g_X4_7 (pc' := 205) hz.1 rfl dX4_counted_202 rfl ?_
                                  refine a_bipush (pc' := 207) (v := (11 : Int32)) dX4_counted_205 rfl (by decide) ?_
                                  obtain ⟨hg, hf⟩ := f_grd_x hf
                                  refine b_iald (pc' := 208) hz.2.1 hg dX4_counted_207 rfl ?_
                                  cases hf
                                  exact a_iret hr ⟨rfl, rfl⟩ dX4_counted_208
                                · replace hf := (if_neg k31).symm.trans hf
                                  by_cases k32 : a1 = (16 : Int32)
                                  · replace hf := (if_pos k32).symm.trans hf
                                    refine b_top k32 ?_
                                    refine a_tableIn (off := 208) 209 dX4_counted_1 (by decide) (by decide) rfl (by decide) ?_
                                    refine a_aload_n (pc' := 210) 0 dX4_counted_209 rfl rfl rfl ?_
                                    refine g_X4_7 (pc' := 213) hz.1 rfl dX4_counted_210 rfl ?_
                                    refine a_bipush (pc' := 215) (v := (12 : Int32)) dX4_counted_213 rfl (by decide) ?_
                                    obtain ⟨hg, hf⟩ := f_grd_x hf
                                    refine b_iald (pc' := 216) hz.2.1 hg dX4_counted_215 rfl ?_
                                    cases hf
                                    exact a_iret hr ⟨rfl, rfl⟩ dX4_counted_216
                                  · replace hf := (if_neg k32).symm.trans hf
                                    by_cases k33 : a1 = (17 : Int32)
                                    · replace hf := (if_pos k33).symm.trans hf
                                      refine b_top k33 ?_
                                      refine a_tableIn (off := 216) 217 dX4_counted_1 (by decide) (by decide) rfl (by decide) ?_
                                      refine a_aload_n (pc' := 218) 0 dX4_counted_217 rfl rfl rfl ?_
                                      refine g_X4_7 (pc' := 221) hz.1 rfl dX4_counted_218 rfl ?_
                                      refine a_bipush (pc' := 223) (v := (13 : Int32)) dX4_counted_221 rfl (by decide) ?_
                                      obtain ⟨hg, hf⟩ := f_grd_x hf
                                      refine b_iald (pc' := 224) hz.2.1 hg dX4_counted_223 rfl ?_
                                      cases hf
                                      exact a_iret hr ⟨rfl, rfl⟩ dX4_counted_224
                                    · replace hf := (if_neg k33).symm.trans hf
                                      refine a_tableOut 225 dX4_counted_1 (b_tout18_0 k1 k2 k3 k4 k7 k10 k13 k17 k18 k19 k20 k21 k24 k27 k30 k31 k32 k33) (by decide) ?_
                                      refine a_aload_n (pc' := 226) 0 dX4_counted_225 rfl rfl rfl ?_
                                      refine g_X4_33 (pc' := 229) hz.1 rfl dX4_counted_226 rfl ?_
                                      cases hf
                                      exact a_iret hr ⟨rfl, rfl⟩ dX4_counted_229
/-! SlateRoofModel.count(I)I -/
set_option maxRecDepth 100000 in
def f_X4_count (F : Nat) (M : d_M) (a1 : Int32) : Option (Int32 × d_M) := f_let (ms_thrown M ((0 : Int32))) fun M2 => (f_X4_within F a1 ((0 : Int32)) ((18 : Int32))).bind fun x4 => (if x4 = 0 then (f_X4_fails F M2 ((1 : Int32))).bind fun x7 => f_let x7.2 fun M9 => some ((x7.1, M9)) else (f_X4_counted F M2 a1).bind fun x11 => some ((x11, M2)))
set_option maxHeartbeats 4000000 in
set_option maxRecDepth 100000 in
theorem c_X4_count (l : Launch) (g : a_G) (F : Nat) {h : List va_E} {M : d_M} {a1 : Int32} (hz : d_mod h M) {out : Int32 × d_M} (hf : f_X4_count F M a1 = some out) : a_CT l g yX4_count cX4_count 2 (some .int) (a_rm 5 108) [.ref 55, .int a1] h none none (fun r h' => r = some (.int out.1) ∧ d_mod h' out.2 ∧ d_frm 55 6 h h') := by
  refine a_enter ⟨by decide, rfl, Nat.le_of_ble_eq_true rfl⟩ (fun p e s m args below meth c hr hin => ?_)
  unfold f_X4_count at hf
  have hfr : d_frm 55 6 h h := d_frm.rf
  refine a_sub (ls' := [(0, .ref 55), (1, .int a1)]) [0, 1] rfl ?_
  refine a_aload_n (pc' := 1) 0 dX4_count_0 rfl rfl rfl ?_
  refine a_iconst (pc' := 2) (v := (0 : Int32)) dX4_count_1 rfl (by decide) ?_
  refine pt_X4_25 (pc' := 5) hz dX4_count_2 rfl (fun h1 hz1 hfr1 => ?_)
  obtain ⟨M2, hf, hz⟩ := f_let_x (P := fun w => d_mod h1 w) hf hz1
  replace hfr := d_frm.tr hfr hfr1 (by omega)
  refine a_iload_n (pc' := 6) 1 dX4_count_5 rfl rfl rfl ?_
  refine a_iconst (pc' := 7) (v := (0 : Int32)) dX4_count_6 rfl (by decide) ?_
  refine a_bipush (pc' := 9) (v := (18 : Int32)) dX4_count_7 rfl (by decide) ?_
  obtain ⟨x4, e3, hf⟩ := Option.bind_eq_some_iff.mp hf
  refine k_X4_29 (pc' := 12) (c_X4_within l g F e3) ⟨Nat.le_of_ble_eq_true rfl, Nat.le_of_ble_eq_true rfl⟩ (Nat.le_of_ble_eq_true rfl) dX4_count_9 rfl ?_
  refine a_if_eq (pc' := 15) 23 dX4_count_12 (by decide) rfl (fun k5 => ?_) (fun k5 => ?_)
  · replace hf := (if_pos k5).symm.trans hf
    refine a_aload_n (pc' := 24) 0 dX4_count_23 rfl rfl rfl ?_
    refine a_iconst (pc' := 25) (v := (1 : Int32)) dX4_count_24 rfl (by decide) ?_
    obtain ⟨x7, e6, hf⟩ := Option.bind_eq_some_iff.mp hf
    refine k_X4_60 (pc' := 28) (c_X4_fails l g F hz e6) ⟨Nat.le_of_ble_eq_true rfl, Nat.le_of_ble_eq_true rfl⟩ hz.1 (Nat.le_of_ble_eq_true rfl) dX4_count_25 rfl (fun h8 hq => ?_)
    obtain ⟨hz1, hfr1⟩ := hq
    obtain ⟨M9, hf, hz⟩ := f_let_x (P := fun w => d_mod h8 w) hf hz1
    replace hfr := d_frm.tr hfr hfr1 (by omega)
    cases hf
    exact a_iret hr ⟨rfl, hz, hfr⟩ dX4_count_28
  · replace hf := (if_neg k5).symm.trans hf
    refine a_aload_n (pc' := 16) 0 dX4_count_15 rfl rfl rfl ?_
    refine a_iload_n (pc' := 17) 1 dX4_count_16 rfl rfl rfl ?_
    obtain ⟨x11, e10, hf⟩ := Option.bind_eq_some_iff.mp hf
    refine k_X4_158 (pc' := 20) (c_X4_counted l g F hz e10) ⟨Nat.le_of_ble_eq_true rfl, Nat.le_of_ble_eq_true rfl⟩ hz.1 (Nat.le_of_ble_eq_true rfl) dX4_count_17 rfl ?_
    refine a_goto 28 dX4_count_20 (by decide) ?_
    cases hf
    exact a_iret hr ⟨rfl, hz, hfr⟩ dX4_count_28
/-! SlateRoofModel.setting(I)I -/
set_option maxRecDepth 100000 in
def f_X4_setting (F : Nat) (M : d_M) (a1 : Int32) : Option (Int32 × d_M) := f_let (ms_thrown M ((0 : Int32))) fun M2 => (f_X4_within F a1 ((0 : Int32)) ((2 : Int32))).bind fun x4 => (if x4 = 0 then (f_X4_fails F M2 ((1 : Int32))).bind fun x7 => f_let x7.2 fun M9 => some ((x7.1, M9)) else f_grd (((3 : Int32)) + a1) 294 (some (((m_z M2) (((3 : Int32)) + a1).toNatClampNeg, M2))))
set_option maxHeartbeats 4000000 in
set_option maxRecDepth 100000 in
theorem c_X4_setting (l : Launch) (g : a_G) (F : Nat) {h : List va_E} {M : d_M} {a1 : Int32} (hz : d_mod h M) {out : Int32 × d_M} (hf : f_X4_setting F M a1 = some out) : a_CT l g yX4_setting cX4_setting 2 (some .int) (a_rm 1 22) [.ref 55, .int a1] h none none (fun r h' => r = some (.int out.1) ∧ d_mod h' out.2 ∧ d_frm 55 6 h h') := by
  refine a_enter ⟨by decide, rfl, Nat.le_of_ble_eq_true rfl⟩ (fun p e s m args below meth c hr hin => ?_)
  unfold f_X4_setting at hf
  have hfr : d_frm 55 6 h h := d_frm.rf
  refine a_sub (ls' := [(0, .ref 55), (1, .int a1)]) [0, 1] rfl ?_
  refine a_aload_n (pc' := 1) 0 dX4_setting_0 rfl rfl rfl ?_
  refine a_iconst (pc' := 2) (v := (0 : Int32)) dX4_setting_1 rfl (by decide) ?_
  refine pt_X4_25 (pc' := 5) hz dX4_setting_2 rfl (fun h1 hz1 hfr1 => ?_)
  obtain ⟨M2, hf, hz⟩ := f_let_x (P := fun w => d_mod h1 w) hf hz1
  replace hfr := d_frm.tr hfr hfr1 (by omega)
  refine a_iload_n (pc' := 6) 1 dX4_setting_5 rfl rfl rfl ?_
  refine a_iconst (pc' := 7) (v := (0 : Int32)) dX4_setting_6 rfl (by decide) ?_
  refine a_iconst (pc' := 8) (v := (2 : Int32)) dX4_setting_7 rfl (by decide) ?_
  obtain ⟨x4, e3, hf⟩ := Option.bind_eq_some_iff.mp hf
  refine k_X4_29 (pc' := 11) (c_X4_within l g F e3) ⟨Nat.le_of_ble_eq_true rfl, Nat.le_of_ble_eq_true rfl⟩ (Nat.le_of_ble_eq_true rfl) dX4_setting_8 rfl ?_
  refine a_if_eq (pc' := 14) 25 dX4_setting_11 (by decide) rfl (fun k5 => ?_) (fun k5 => ?_)
  · replace hf := (if_pos k5).symm.trans hf
    refine a_aload_n (pc' := 26) 0 dX4_setting_25 rfl rfl rfl ?_
    refine a_iconst (pc' := 27) (v := (1 : Int32)) dX4_setting_26 rfl (by decide) ?_
    obtain ⟨x7, e6, hf⟩ := Option.bind_eq_some_iff.mp hf
    refine k_X4_60 (pc' := 30) (c_X4_fails l g F hz e6) ⟨Nat.le_of_ble_eq_true rfl, Nat.le_of_ble_eq_true rfl⟩ hz.1 (Nat.le_of_ble_eq_true rfl) dX4_setting_27 rfl (fun h8 hq => ?_)
    obtain ⟨hz1, hfr1⟩ := hq
    obtain ⟨M9, hf, hz⟩ := f_let_x (P := fun w => d_mod h8 w) hf hz1
    replace hfr := d_frm.tr hfr hfr1 (by omega)
    cases hf
    exact a_iret hr ⟨rfl, hz, hfr⟩ dX4_setting_30
  · replace hf := (if_neg k5).symm.trans hf
    refine a_aload_n (pc' := 15) 0 dX4_setting_14 rfl rfl rfl ?_
    refine g_X4_7 (pc' := 18) hz.1 rfl dX4_setting_15 rfl ?_
    refine a_iconst (pc' := 19) (v := (3 : Int32)) dX4_setting_18 rfl (by decide) ?_
    refine a_iload_n (pc' := 20) 1 dX4_setting_19 rfl rfl rfl ?_
    refine a_iadd (pc' := 21) dX4_setting_20 rfl ?_
    obtain ⟨hg, hf⟩ := f_grd_x hf
    refine b_iald (pc' := 22) hz.2.1 hg dX4_setting_21 rfl ?_
    refine a_goto 30 dX4_setting_22 (by decide) ?_
    cases hf
    exact a_iret hr ⟨rfl, hz, hfr⟩ dX4_setting_30
/-! SlateRoofModel.toTopNow(II)I -/
set_option maxRecDepth 100000 in
def f_X4_toTopNow_L21 (F : Nat) (M : d_M) (a1 : Int32) : Nat → Int32 → Int32 → Int32 → Option (Int32 × Int32 × Int32)
  | 0, _, _, _ => none
  | n + 1, v3_21, v4_21, v5_21 => f_grd ((0 : Int32)) 294 ((if ((m_z M) ((0 : Int32)).toNatClampNeg) ≤ v3_21 then some (v3_21, v4_21, v5_21) else (f_X4_gauge F M a1).bind fun x22003 => f_grd ((2 : Int32)) 294 ((f_X4_placesOf F M (((m_z M) ((2 : Int32)).toNatClampNeg) + v4_21)).bind fun x22005 => f_X4_toTopNow_L21 F M a1 n (v3_21 + x22003) (v4_21 + (1 : Int32)) (v5_21 + x22005))))
set_option maxRecDepth 100000 in
def f_X4_toTopNow (F : Nat) (M : d_M) (a1 : Int32) (a2 : Int32) : Option (Int32) := (f_X4_longest F M).bind fun x2 => (if a1 ≤ x2 then (f_X4_top F M).bind fun x5 => (f_X4_toTopNow_L21 F M a1 F x5 ((0 : Int32)) ((0 : Int32))).bind fun o6 => (if a2 = 0 then some (o6.2.1) else some (o6.2.2)) else some ((-1 : Int32)))
set_option maxHeartbeats 4000000 in
set_option maxRecDepth 100000 in
theorem l_X4_toTopNow_L21 {p : Program} {l : Launch} {e : Env} {s : State} {m : MethodId} {args : Array Value} {below : List Frame} {meth : Method} {c : Code} {Q : State → Prop} {g : a_G} (F : Nat) {h : List va_E} (M : d_M) (a1 : Int32) (a2 : Int32) (hz : d_mod h M) : ∀ (n : Nat) (v3_21 : Int32) (v4_21 : Int32) (v5_21 : Int32) (o : Int32 × Int32 × Int32), f_X4_toTopNow_L21 F M a1 n v3_21 v4_21 v5_21 = some o → (∀ e9 : Int32 × Int32 × Int32, o = e9 → a_W p l e (a_rm 3 64) s m args below meth c Q RX4 cX4_toTopNow 6 g 0 0 none 63 [(2, .int a2), (4, .int e9.2.1), (5, .int e9.2.2)] [] h) → a_W p l e (a_rm 3 64) s m args below meth c Q RX4 cX4_toTopNow 6 g 0 0 none 21 [(0, .ref 55), (1, .int a1), (2, .int a2), (3, .int v3_21), (4, .int v4_21), (5, .int v5_21)] [] h := by
  intro n
  induction n with
  | zero => intro v3_21 v4_21 v5_21 o hf; exact nomatch (show (none : Option (Int32 × Int32 × Int32)) = some o from hf)
  | succ n ih =>
    intro v3_21 v4_21 v5_21 o hf hX0
    rw [f_X4_toTopNow_L21] at hf
    refine a_iload_n (pc' := 22) 3 dX4_toTopNow_21 rfl rfl rfl ?_
    refine a_aload_n (pc' := 23) 0 dX4_toTopNow_22 rfl rfl rfl ?_
    refine g_X4_7 (pc' := 26) hz.1 rfl dX4_toTopNow_23 rfl ?_
    refine a_iconst (pc' := 27) (v := (0 : Int32)) dX4_toTopNow_26 rfl (by decide) ?_
    obtain ⟨hg, hf⟩ := f_grd_x hf
    refine b_iald (pc' := 28) hz.2.1 hg dX4_toTopNow_27 rfl ?_
    refine a_icmp_ge (pc' := 31) 63 dX4_toTopNow_28 (by decide) rfl (fun k22001 => ?_) (fun k22001 => ?_)
    · replace hf := (if_pos k22001).symm.trans hf
      cases hf
      refine a_sub [2, 4, 5] rfl ?_
      exact hX0 _ rfl
    · replace hf := (if_neg k22001).symm.trans hf
      refine a_iload_n (pc' := 32) 3 dX4_toTopNow_31 rfl rfl rfl ?_
      refine a_aload_n (pc' := 33) 0 dX4_toTopNow_32 rfl rfl rfl ?_
      refine a_iload_n (pc' := 34) 1 dX4_toTopNow_33 rfl rfl rfl ?_
      obtain ⟨x22003, e22002, hf⟩ := Option.bind_eq_some_iff.mp hf
      refine k_X4_44 (pc' := 37) (c_X4_gauge l g F hz e22002) ⟨Nat.le_of_ble_eq_true rfl, Nat.le_of_ble_eq_true rfl⟩ hz.1 (Nat.le_of_ble_eq_true rfl) dX4_toTopNow_34 rfl ?_
      refine a_iadd (pc' := 38) dX4_toTopNow_37 rfl ?_
      refine a_istore_n (pc' := 39) (ls' := [(3, .int (v3_21 + x22003)), (0, .ref 55), (1, .int a1), (2, .int a2), (4, .int v4_21), (5, .int v5_21)]) dX4_toTopNow_38 rfl (by decide) rfl rfl ?_
      refine a_iload (pc' := 41) 5 dX4_toTopNow_39 rfl rfl ?_
      refine a_aload_n (pc' := 42) 1 dX4_toTopNow_41 rfl rfl rfl ?_
      refine a_aload_n (pc' := 43) 1 dX4_toTopNow_42 rfl rfl rfl ?_
      refine g_X4_7 (pc' := 46) hz.1 rfl dX4_toTopNow_43 rfl ?_
      refine a_iconst (pc' := 47) (v := (2 : Int32)) dX4_toTopNow_46 rfl (by decide) ?_
      obtain ⟨hg, hf⟩ := f_grd_x hf
      refine b_iald (pc' := 48) hz.2.1 hg dX4_toTopNow_47 rfl ?_
      refine a_iload (pc' := 50) 4 dX4_toTopNow_48 rfl rfl ?_
      refine a_iadd (pc' := 51) dX4_toTopNow_50 rfl ?_
      obtain ⟨x22005, e22004, hf⟩ := Option.bind_eq_some_iff.mp hf
      refine k_X4_36 (pc' := 54) (c_X4_placesOf l g F hz e22004) ⟨Nat.le_of_ble_eq_true rfl, Nat.le_of_ble_eq_true rfl⟩ hz.1 (Nat.le_of_ble_eq_true rfl) dX4_toTopNow_51 rfl ?_
      refine a_iadd (pc' := 55) dX4_toTopNow_54 rfl ?_
      refine a_istore (pc' := 57) (ls' := [(5, .int (v5_21 + x22005)), (3, .int (v3_21 + x22003)), (0, .ref 55), (1, .int a1), (2, .int a2), (4, .int v4_21)]) dX4_toTopNow_55 (by decide) rfl rfl ?_
      refine a_iinc (pc' := 60) (v := v4_21 + (1 : Int32)) (ls' := [(4, .int (v4_21 + (1 : Int32))), (5, .int (v5_21 + x22005)), (3, .int (v3_21 + x22003)), (0, .ref 55), (1, .int a1), (2, .int a2)]) 5 dX4_toTopNow_57 rfl (by rfl) (by decide) rfl rfl ?_
      refine a_goto 21 dX4_toTopNow_60 (by decide) ?_
      refine a_sub [3, 4, 5, 2, 0, 1] rfl ?_
      exact ih _ _ _ _ hf hX0
set_option maxHeartbeats 4000000 in
set_option maxRecDepth 100000 in
theorem c_X4_toTopNow (l : Launch) (g : a_G) (F : Nat) {h : List va_E} {M : d_M} {a1 : Int32} {a2 : Int32} (hz : d_mod h M) {out : Int32} (hf : f_X4_toTopNow F M a1 a2 = some out) : a_CT l g yX4_toTopNow cX4_toTopNow 6 (some .int) (a_rm 3 64) [.ref 55, .int a1, .int a2] h none none (fun r h' => r = some (.int out) ∧ h' = h) := by
  refine a_enter ⟨by decide, rfl, Nat.le_of_ble_eq_true rfl⟩ (fun p e s m args below meth c hr hin => ?_)
  unfold f_X4_toTopNow at hf
  refine a_sub (ls' := [(0, .ref 55), (1, .int a1), (2, .int a2)]) [0, 1, 2] rfl ?_
  refine a_iload_n (pc' := 1) 1 dX4_toTopNow_0 rfl rfl rfl ?_
  refine a_aload_n (pc' := 2) 0 dX4_toTopNow_1 rfl rfl rfl ?_
  obtain ⟨x2, e1, hf⟩ := Option.bind_eq_some_iff.mp hf
  refine k_X4_84 (pc' := 5) (c_X4_longest l g F hz e1) ⟨Nat.le_of_ble_eq_true rfl, Nat.le_of_ble_eq_true rfl⟩ hz.1 (Nat.le_of_ble_eq_true rfl) dX4_toTopNow_2 rfl ?_
  refine a_icmp_le (pc' := 8) 10 dX4_toTopNow_5 (by decide) rfl (fun k3 => ?_) (fun k3 => ?_)
  · replace hf := (if_pos k3).symm.trans hf
    refine a_aload_n (pc' := 11) 0 dX4_toTopNow_10 rfl rfl rfl ?_
    obtain ⟨x5, e4, hf⟩ := Option.bind_eq_some_iff.mp hf
    refine k_X4_53 (pc' := 14) (c_X4_top l g F hz e4) ⟨Nat.le_of_ble_eq_true rfl, Nat.le_of_ble_eq_true rfl⟩ hz.1 (Nat.le_of_ble_eq_true rfl) dX4_toTopNow_11 rfl ?_
    refine a_istore_n (pc' := 15) (ls' := [(3, .int x5), (0, .ref 55), (1, .int a1), (2, .int a2)]) dX4_toTopNow_14 rfl (by decide) rfl rfl ?_
    refine a_iconst (pc' := 16) (v := (0 : Int32)) dX4_toTopNow_15 rfl (by decide) ?_
    refine a_istore (pc' := 18) (ls' := [(4, .int ((0 : Int32))), (3, .int x5), (0, .ref 55), (1, .int a1), (2, .int a2)]) dX4_toTopNow_16 (by decide) rfl rfl ?_
    refine a_iconst (pc' := 19) (v := (0 : Int32)) dX4_toTopNow_18 rfl (by decide) ?_
    refine a_istore (pc' := 21) (ls' := [(5, .int ((0 : Int32))), (4, .int ((0 : Int32))), (3, .int x5), (0, .ref 55), (1, .int a1), (2, .int a2)]) dX4_toTopNow_19 (by decide) rfl rfl ?_
    obtain ⟨o6, e7, hf⟩ := Option.bind_eq_some_iff.mp hf
    refine a_sub [3, 4, 5, 2, 1, 0] rfl ?_
    refine l_X4_toTopNow_L21 F M a1 a2 hz F _ _ _ o6 e7 (fun e9 he9 => ?_)
    subst he9
    refine a_iload_n (pc' := 64) 0 dX4_toTopNow_63 rfl rfl rfl ?_
    refine a_if_ne (pc' := 67) 72 dX4_toTopNow_64 (by decide) rfl (fun k8 => ?_) (fun k8 => ?_)
    · replace hf := (if_neg k8).symm.trans hf
      refine a_iload (pc' := 74) 2 dX4_toTopNow_72 rfl rfl ?_
      cases hf
      exact a_iret hr ⟨rfl, rfl⟩ dX4_toTopNow_74
    · replace hf := (if_pos k8).symm.trans hf
      refine a_iload (pc' := 69) 1 dX4_toTopNow_67 rfl rfl ?_
      refine a_goto 74 dX4_toTopNow_69 (by decide) ?_
      cases hf
      exact a_iret hr ⟨rfl, rfl⟩ dX4_toTopNow_74
  · replace hf := (if_neg k3).symm.trans hf
    refine a_iconst (pc' := 9) (v := (-1 : Int32)) dX4_toTopNow_8 rfl (by decide) ?_
    cases hf
    exact a_iret hr ⟨rfl, rfl⟩ dX4_toTopNow_9
/-! SlateRoofModel.toTop(II)I -/
set_option maxRecDepth 100000 in
def f_X4_toTop (F : Nat) (M : d_M) (a1 : Int32) (a2 : Int32) : Option (Int32 × d_M) := f_let (ms_thrown M ((0 : Int32))) fun M2 => (f_X4_isLength F a1).bind fun x4 => (if x4 = 0 then (f_X4_fails F M2 ((1 : Int32))).bind fun x7 => f_let x7.2 fun M9 => some ((x7.1, M9)) else (f_X4_within F a2 ((0 : Int32)) ((1 : Int32))).bind fun x11 => (if x11 = 0 then (f_X4_fails F M2 ((1 : Int32))).bind fun x14 => f_let x14.2 fun M16 => some ((x14.1, M16)) else (f_X4_toTopNow F M2 a1 a2).bind fun x18 => some ((x18, M2))))
set_option maxHeartbeats 4000000 in
set_option maxRecDepth 100000 in
theorem c_X4_toTop (l : Launch) (g : a_G) (F : Nat) {h : List va_E} {M : d_M} {a1 : Int32} {a2 : Int32} (hz : d_mod h M) {out : Int32 × d_M} (hf : f_X4_toTop F M a1 a2 = some out) : a_CT l g yX4_toTop cX4_toTop 3 (some .int) (a_rm 4 89) [.ref 55, .int a1, .int a2] h none none (fun r h' => r = some (.int out.1) ∧ d_mod h' out.2 ∧ d_frm 55 6 h h') := by
  refine a_enter ⟨by decide, rfl, Nat.le_of_ble_eq_true rfl⟩ (fun p e s m args below meth c hr hin => ?_)
  unfold f_X4_toTop at hf
  have hfr : d_frm 55 6 h h := d_frm.rf
  refine a_sub (ls' := [(0, .ref 55), (1, .int a1), (2, .int a2)]) [0, 1, 2] rfl ?_
  refine a_aload_n (pc' := 1) 0 dX4_toTop_0 rfl rfl rfl ?_
  refine a_iconst (pc' := 2) (v := (0 : Int32)) dX4_toTop_1 rfl (by decide) ?_
  refine pt_X4_25 (pc' := 5) hz dX4_toTop_2 rfl (fun h1 hz1 hfr1 => ?_)
  obtain ⟨M2, hf, hz⟩ := f_let_x (P := fun w => d_mod h1 w) hf hz1
  replace hfr := d_frm.tr hfr hfr1 (by omega)
  refine a_iload_n (pc' := 6) 1 dX4_toTop_5 rfl rfl rfl ?_
  obtain ⟨x4, e3, hf⟩ := Option.bind_eq_some_iff.mp hf
  refine k_X4_69 (pc' := 9) (c_X4_isLength l g F e3) ⟨Nat.le_of_ble_eq_true rfl, Nat.le_of_ble_eq_true rfl⟩ (Nat.le_of_ble_eq_true rfl) dX4_toTop_6 rfl ?_
  refine a_if_eq (pc' := 12) 30 dX4_toTop_9 (by decide) rfl (fun k5 => ?_) (fun k5 => ?_)
  · replace hf := (if_pos k5).symm.trans hf
    refine a_aload_n (pc' := 31) 0 dX4_toTop_30 rfl rfl rfl ?_
    refine a_iconst (pc' := 32) (v := (1 : Int32)) dX4_toTop_31 rfl (by decide) ?_
    obtain ⟨x7, e6, hf⟩ := Option.bind_eq_some_iff.mp hf
    refine k_X4_60 (pc' := 35) (c_X4_fails l g F hz e6) ⟨Nat.le_of_ble_eq_true rfl, Nat.le_of_ble_eq_true rfl⟩ hz.1 (Nat.le_of_ble_eq_true rfl) dX4_toTop_32 rfl (fun h8 hq => ?_)
    obtain ⟨hz1, hfr1⟩ := hq
    obtain ⟨M9, hf, hz⟩ := f_let_x (P := fun w => d_mod h8 w) hf hz1
    replace hfr := d_frm.tr hfr hfr1 (by omega)
    cases hf
    exact a_iret hr ⟨rfl, hz, hfr⟩ dX4_toTop_35
  · replace hf := (if_neg k5).symm.trans hf
    refine a_iload_n (pc' := 13) 2 dX4_toTop_12 rfl rfl rfl ?_
    refine a_iconst (pc' := 14) (v := (0 : Int32)) dX4_toTop_13 rfl (by decide) ?_
    refine a_iconst (pc' := 15) (v := (1 : Int32)) dX4_toTop_14 rfl (by decide) ?_
    obtain ⟨x11, e10, hf⟩ := Option.bind_eq_some_iff.mp hf
    refine k_X4_29 (pc' := 18) (c_X4_within l g F e10) ⟨Nat.le_of_ble_eq_true rfl, Nat.le_of_ble_eq_true rfl⟩ (Nat.le_of_ble_eq_true rfl) dX4_toTop_15 rfl ?_
    refine a_if_eq (pc' := 21) 30 dX4_toTop_18 (by decide) rfl (fun k12 => ?_) (fun k12 => ?_)
    · replace hf := (if_pos k12).symm.trans hf
      refine a_aload_n (pc' := 31) 0 dX4_toTop_30 rfl rfl rfl ?_
      refine a_iconst (pc' := 32) (v := (1 : Int32)) dX4_toTop_31 rfl (by decide) ?_
      obtain ⟨x14, e13, hf⟩ := Option.bind_eq_some_iff.mp hf
      refine k_X4_60 (pc' := 35) (c_X4_fails l g F hz e13) ⟨Nat.le_of_ble_eq_true rfl, Nat.le_of_ble_eq_true rfl⟩ hz.1 (Nat.le_of_ble_eq_true rfl) dX4_toTop_32 rfl (fun h15 hq => ?_)
      obtain ⟨hz1, hfr1⟩ := hq
      obtain ⟨M16, hf, hz⟩ := f_let_x (P := fun w => d_mod h15 w) hf hz1
      replace hfr := d_frm.tr hfr hfr1 (by omega)
      cases hf
      exact a_iret hr ⟨rfl, hz, hfr⟩ dX4_toTop_35
    · replace hf := (if_neg k12).symm.trans hf
      refine a_aload_n (pc' := 22) 0 dX4_toTop_21 rfl rfl rfl ?_
      refine a_iload_n (pc' := 23) 1 dX4_toTop_22 rfl rfl rfl ?_
      refine a_iload_n (pc' := 24) 2 dX4_toTop_23 rfl rfl rfl ?_
      obtain ⟨x18, e17, hf⟩ := Option.bind_eq_some_iff.mp hf
      refine k_X4_161 (pc' := 27) (c_X4_toTopNow l g F hz e17) ⟨Nat.le_of_ble_eq_true rfl, Nat.le_of_ble_eq_true rfl⟩ hz.1 (Nat.le_of_ble_eq_true rfl) dX4_toTop_24 rfl ?_
      refine a_goto 35 dX4_toTop_27 (by decide) ?_
      cases hf
      exact a_iret hr ⟨rfl, hz, hfr⟩ dX4_toTop_35
/-! SlateRoofModel.reachNow(I)I -/
set_option maxRecDepth 100000 in
def f_X4_reachNow_L16 (F : Nat)  : Nat → Int32 → Int32 → d_M → Option (Int32 × Int32 × d_M)
  | 0, _, _, _ => none
  | n + 1, v2_16, v3_16, M_16 => (f_X4_top F M_16).bind fun x17002 => f_grd ((0 : Int32)) 294 ((if ((m_z M_16) ((0 : Int32)).toNatClampNeg) ≤ x17002 then some (v2_16, v3_16, M_16) else f_grd ((2 : Int32)) 294 ((if ((100 : Int32)) ≤ ((m_z M_16) ((2 : Int32)).toNatClampNeg) then some (v2_16, v3_16, M_16) else (if v3_16 = ((-1 : Int32)) then some (v2_16, v3_16, M_16) else f_grd (((214 : Int32)) + v3_16) 294 (f_grd ((2 : Int32)) 294 ((f_X4_placesOf F M_16 ((m_z M_16) ((2 : Int32)).toNatClampNeg)).bind fun x17007 => f_grd (((214 : Int32)) + v3_16) 294 (f_let (ms_z M_16 (upd (m_z M_16) (((214 : Int32)) + v3_16).toNatClampNeg (((m_z M_16) (((214 : Int32)) + v3_16).toNatClampNeg) - x17007))) fun M17009 => (f_X4_begins F M17009 v3_16).bind fun x17011 => f_let x17011 fun M17013 => f_let (ms_reachLast M17013 v3_16) fun M17015 => (f_X4_nextLength F M17015).bind fun x17017 => f_X4_reachNow_L16 F  n (v2_16 + (1 : Int32)) x17017 M17015))))))))
set_option maxRecDepth 100000 in
def f_X4_reachNow (F : Nat) (M : d_M) (a1 : Int32) : Option (Int32 × d_M) := (f_X4_keep F M).bind fun x2 => f_let x2 fun M4 => f_let (ms_reachLast M4 ((-1 : Int32))) fun M6 => (f_X4_nextLength F M6).bind fun x8 => (f_X4_reachNow_L16 F F ((0 : Int32)) x8 M6).bind fun o9 => (f_X4_top F o9.2.2).bind fun x13 => f_let (ms_reachTop o9.2.2 x13) fun M15 => (f_X4_sum F M15 ((214 : Int32))).bind fun x17 => f_let (ms_reachLeft M15 x17) fun M19 => (f_X4_bring F M19).bind fun x21 => f_let x21 fun M23 => (if a1 = 0 then some ((o9.1, M23)) else (if a1 = ((1 : Int32)) then some ((m_reachTop M23, M23)) else (if a1 = ((2 : Int32)) then some ((m_reachLeft M23, M23)) else some ((m_reachLast M23, M23)))))
set_option maxHeartbeats 4000000 in
set_option maxRecDepth 100000 in
theorem l_X4_reachNow_L16 {p : Program} {l : Launch} {e : Env} {s : State} {m : MethodId} {args : Array Value} {below : List Frame} {meth : Method} {c : Code} {Q : State → Prop} {g : a_G} (F : Nat) {h : List va_E} (a1 : Int32) : ∀ (n : Nat) (v2_16 : Int32) (v3_16 : Int32) (M_16 : d_M) (o : Int32 × Int32 × d_M), f_X4_reachNow_L16 F  n v2_16 v3_16 M_16 = some o → (∀ e9 : Int32 × Int32 × d_M, o = e9 → ∀ h1, d_mod h1 e9.2.2 → d_frm 55 6 h h1 → a_W p l e (a_rm 3 64) s m args below meth c Q RX4 cX4_reachNow 4 g 0 0 none 89 [(0, .ref 55), (1, .int a1), (2, .int e9.1)] [] h1) → ∀ h1, d_mod h1 M_16 → d_frm 55 6 h h1 → a_W p l e (a_rm 3 64) s m args below meth c Q RX4 cX4_reachNow 4 g 0 0 none 16 [(0, .ref 55), (1, .int a1), (2, .int v2_16), (3, .int v3_16)] [] h1 := by
  intro n
  induction n with
  | zero => intro v2_16 v3_16 M_16 o hf; exact nomatch (show (none : Option (Int32 × Int32 × d_M)) = some o from hf)
  | succ n ih =>
    intro v2_16 v3_16 M_16 o hf hX0 h1 hz hfr
    rw [f_X4_reachNow_L16] at hf
    refine a_aload_n (pc' := 17) 0 dX4_reachNow_16 rfl rfl rfl ?_
    obtain ⟨x17002, e17001, hf⟩ := Option.bind_eq_some_iff.mp hf
    refine k_X4_53 (pc' := 20) (c_X4_top l g F hz e17001) ⟨Nat.le_of_ble_eq_true rfl, Nat.le_of_ble_eq_true rfl⟩ hz.1 (Nat.le_of_ble_eq_true rfl) dX4_reachNow_17 rfl ?_
    refine a_aload_n (pc' := 21) 0 dX4_reachNow_20 rfl rfl rfl ?_
    refine g_X4_7 (pc' := 24) hz.1 rfl dX4_reachNow_21 rfl ?_
    refine a_iconst (pc' := 25) (v := (0 : Int32)) dX4_reachNow_24 rfl (by decide) ?_
    obtain ⟨hg, hf⟩ := f_grd_x hf
    refine b_iald (pc' := 26) hz.2.1 hg dX4_reachNow_25 rfl ?_
    refine a_icmp_ge (pc' := 29) 89 dX4_reachNow_26 (by decide) rfl (fun k17003 => ?_) (fun k17003 => ?_)
    · replace hf := (if_pos k17003).symm.trans hf
      cases hf
      refine a_sub [0, 1, 2] rfl ?_
      exact hX0 _ rfl _ hz hfr
    · replace hf := (if_neg k17003).symm.trans hf
      refine a_aload_n (pc' := 30) 0 dX4_reachNow_29 rfl rfl rfl ?_
      refine g_X4_7 (pc' := 33) hz.1 rfl dX4_reachNow_30 rfl ?_
      refine a_iconst (pc' := 34) (v := (2 : Int32)) dX4_reachNow_33 rfl (by decide) ?_
      obtain ⟨hg, hf⟩ := f_grd_x hf
      refine b_iald (pc' := 35) hz.2.1 hg dX4_reachNow_34 rfl ?_
      refine a_bipush (pc' := 37) (v := (100 : Int32)) dX4_reachNow_35 rfl (by decide) ?_
      refine a_icmp_ge (pc' := 40) 89 dX4_reachNow_37 (by decide) rfl (fun k17004 => ?_) (fun k17004 => ?_)
      · replace hf := (if_pos k17004).symm.trans hf
        cases hf
        refine a_sub [0, 1, 2] rfl ?_
        exact hX0 _ rfl _ hz hfr
      · replace hf := (if_neg k17004).symm.trans hf
        refine a_iload_n (pc' := 41) 3 dX4_reachNow_40 rfl rfl rfl ?_
        refine a_iconst (pc' := 42) (v := (-1 : Int32)) dX4_reachNow_41 rfl (by decide) ?_
        refine a_icmp_eq (pc' := 45) 89 dX4_reachNow_42 (by decide) rfl (fun k17005 => ?_) (fun k17005 => ?_)
        · replace hf := (if_pos k17005).symm.trans hf
          cases hf
          refine a_sub [0, 1, 2] rfl ?_
          exact hX0 _ rfl _ hz hfr
        · replace hf := (if_neg k17005).symm.trans hf
          refine a_aload_n (pc' := 46) 0 dX4_reachNow_45 rfl rfl rfl ?_
          refine g_X4_7 (pc' := 49) hz.1 rfl dX4_reachNow_46 rfl ?_
          refine a_sipush (pc' := 52) (v := (214 : Int32)) dX4_reachNow_49 rfl (by decide) ?_
          refine a_iload_n (pc' := 53) 3 dX4_reachNow_52 rfl rfl rfl ?_
          refine a_iadd (pc' := 54) dX4_reachNow_53 rfl ?_
          refine a_dup2 (pc' := 55) dX4_reachNow_54 rfl rfl rfl ?_
          obtain ⟨hg, hf⟩ := f_grd_x hf
          refine b_iald (pc' := 56) hz.2.1 hg dX4_reachNow_55 rfl ?_
          refine a_aload_n (pc' := 57) 0 dX4_reachNow_56 rfl rfl rfl ?_
          refine a_aload_n (pc' := 58) 0 dX4_reachNow_57 rfl rfl rfl ?_
          refine g_X4_7 (pc' := 61) hz.1 rfl dX4_reachNow_58 rfl ?_
          refine a_iconst (pc' := 62) (v := (2 : Int32)) dX4_reachNow_61 rfl (by decide) ?_
          obtain ⟨hg, hf⟩ := f_grd_x hf
          refine b_iald (pc' := 63) hz.2.1 hg dX4_reachNow_62 rfl ?_
          obtain ⟨x17007, e17006, hf⟩ := Option.bind_eq_some_iff.mp hf
          refine k_X4_36 (pc' := 66) (c_X4_placesOf l g F hz e17006) ⟨Nat.le_of_ble_eq_true rfl, Nat.le_of_ble_eq_true rfl⟩ hz.1 (Nat.le_of_ble_eq_true rfl) dX4_reachNow_63 rfl ?_
          refine a_isub (pc' := 67) dX4_reachNow_66 rfl ?_
          obtain ⟨hg, hf⟩ := f_grd_x hf
          refine b_iast (pc' := 68) hz.2.1 hg dX4_reachNow_67 rfl (fun h17008 hz1 hfr1 => ?_)
          obtain ⟨hz1, hfr1⟩ := d_ma_z hz hz1 hfr1
          obtain ⟨M17009, hf, hz⟩ := f_let_x (P := fun w => d_mod h17008 w) hf hz1
          replace hfr := d_frm.tr hfr hfr1 (by omega)
          refine a_aload_n (pc' := 69) 0 dX4_reachNow_68 rfl rfl rfl ?_
          refine a_iload_n (pc' := 70) 3 dX4_reachNow_69 rfl rfl rfl ?_
          obtain ⟨x17011, e17010, hf⟩ := Option.bind_eq_some_iff.mp hf
          refine k_X4_93 (pc' := 73) (c_X4_begins l g F hz e17010) ⟨Nat.le_of_ble_eq_true rfl, Nat.le_of_ble_eq_true rfl⟩ hz.1 (Nat.le_of_ble_eq_true rfl) dX4_reachNow_70 rfl (fun h17012 hq => ?_)
          obtain ⟨hz1, hfr1⟩ := hq
          obtain ⟨M17013, hf, hz⟩ := f_let_x (P := fun w => d_mod h17012 w) hf hz1
          replace hfr := d_frm.tr hfr hfr1 (by omega)
          refine a_iinc (pc' := 76) (v := v2_16 + (1 : Int32)) (ls' := [(2, .int (v2_16 + (1 : Int32))), (0, .ref 55), (1, .int a1), (3, .int v3_16)]) 2 dX4_reachNow_73 rfl (by rfl) (by decide) rfl rfl ?_
          refine a_aload_n (pc' := 77) 1 dX4_reachNow_76 rfl rfl rfl ?_
          refine a_iload_n (pc' := 78) 3 dX4_reachNow_77 rfl rfl rfl ?_
          refine pt_X4_167 (pc' := 81) hz dX4_reachNow_78 rfl (fun h17014 hz1 hfr1 => ?_)
          obtain ⟨M17015, hf, hz⟩ := f_let_x (P := fun w => d_mod h17014 w) hf hz1
          replace hfr := d_frm.tr hfr hfr1 (by omega)
          refine a_aload_n (pc' := 82) 1 dX4_reachNow_81 rfl rfl rfl ?_
          obtain ⟨x17017, e17016, hf⟩ := Option.bind_eq_some_iff.mp hf
          refine k_X4_120 (pc' := 85) (c_X4_nextLength l g F hz e17016) ⟨Nat.le_of_ble_eq_true rfl, Nat.le_of_ble_eq_true rfl⟩ hz.1 (Nat.le_of_ble_eq_true rfl) dX4_reachNow_82 rfl ?_
          refine a_istore_n (pc' := 86) (ls' := [(3, .int x17017), (2, .int (v2_16 + (1 : Int32))), (0, .ref 55), (1, .int a1)]) dX4_reachNow_85 rfl (by decide) rfl rfl ?_
          refine a_goto 16 dX4_reachNow_86 (by decide) ?_
          refine a_sub [2, 3, 1, 0] rfl ?_
          exact ih _ _ _ _ hf hX0 _ hz hfr
set_option maxHeartbeats 4000000 in
set_option maxRecDepth 100000 in
theorem c_X4_reachNow (l : Launch) (g : a_G) (F : Nat) {h : List va_E} {M : d_M} {a1 : Int32} (hz : d_mod h M) {out : Int32 × d_M} (hf : f_X4_reachNow F M a1 = some out) : a_CT l g yX4_reachNow cX4_reachNow 4 (some .int) (a_rm 3 64) [.ref 55, .int a1] h none none (fun r h' => r = some (.int out.1) ∧ d_mod h' out.2 ∧ d_frm 55 6 h h') := by
  refine a_enter ⟨by decide, rfl, Nat.le_of_ble_eq_true rfl⟩ (fun p e s m args below meth c hr hin => ?_)
  unfold f_X4_reachNow at hf
  have hfr : d_frm 55 6 h h := d_frm.rf
  refine a_sub (ls' := [(0, .ref 55), (1, .int a1)]) [0, 1] rfl ?_
  refine a_aload_n (pc' := 1) 0 dX4_reachNow_0 rfl rfl rfl ?_
  obtain ⟨x2, e1, hf⟩ := Option.bind_eq_some_iff.mp hf
  refine k_X4_164 (pc' := 4) (c_X4_keep l g F hz e1) ⟨Nat.le_of_ble_eq_true rfl, Nat.le_of_ble_eq_true rfl⟩ hz.1 (Nat.le_of_ble_eq_true rfl) dX4_reachNow_1 rfl (fun h3 hq => ?_)
  obtain ⟨hz1, hfr1⟩ := hq
  obtain ⟨M4, hf, hz⟩ := f_let_x (P := fun w => d_mod h3 w) hf hz1
  replace hfr := d_frm.tr hfr hfr1 (by omega)
  refine a_iconst (pc' := 5) (v := (0 : Int32)) dX4_reachNow_4 rfl (by decide) ?_
  refine a_istore_n (pc' := 6) (ls' := [(2, .int ((0 : Int32))), (0, .ref 55), (1, .int a1)]) dX4_reachNow_5 rfl (by decide) rfl rfl ?_
  refine a_aload_n (pc' := 7) 1 dX4_reachNow_6 rfl rfl rfl ?_
  refine a_iconst (pc' := 8) (v := (-1 : Int32)) dX4_reachNow_7 rfl (by decide) ?_
  refine pt_X4_167 (pc' := 11) hz dX4_reachNow_8 rfl (fun h5 hz1 hfr1 => ?_)
  obtain ⟨M6, hf, hz⟩ := f_let_x (P := fun w => d_mod h5 w) hf hz1
  replace hfr := d_frm.tr hfr hfr1 (by omega)
  refine a_aload_n (pc' := 12) 1 dX4_reachNow_11 rfl rfl rfl ?_
  obtain ⟨x8, e7, hf⟩ := Option.bind_eq_some_iff.mp hf
  refine k_X4_120 (pc' := 15) (c_X4_nextLength l g F hz e7) ⟨Nat.le_of_ble_eq_true rfl, Nat.le_of_ble_eq_true rfl⟩ hz.1 (Nat.le_of_ble_eq_true rfl) dX4_reachNow_12 rfl ?_
  refine a_istore_n (pc' := 16) (ls' := [(3, .int x8), (2, .int ((0 : Int32))), (0, .ref 55), (1, .int a1)]) dX4_reachNow_15 rfl (by decide) rfl rfl ?_
  obtain ⟨o9, e10, hf⟩ := Option.bind_eq_some_iff.mp hf
  refine a_sub [2, 3, 1, 0] rfl ?_
  refine l_X4_reachNow_L16 F a1  F _ _ _ o9 e10 (fun e9 he9 h11 hz hfr => ?_) _ hz hfr
  subst he9
  refine a_aload_n (pc' := 90) 0 dX4_reachNow_89 rfl rfl rfl ?_
  refine a_aload_n (pc' := 91) 0 dX4_reachNow_90 rfl rfl rfl ?_
  obtain ⟨x13, e12, hf⟩ := Option.bind_eq_some_iff.mp hf
  refine k_X4_53 (pc' := 94) (c_X4_top l g F hz e12) ⟨Nat.le_of_ble_eq_true rfl, Nat.le_of_ble_eq_true rfl⟩ hz.1 (Nat.le_of_ble_eq_true rfl) dX4_reachNow_91 rfl ?_
  refine pt_X4_170 (pc' := 97) hz dX4_reachNow_94 rfl (fun h14 hz1 hfr1 => ?_)
  obtain ⟨M15, hf, hz⟩ := f_let_x (P := fun w => d_mod h14 w) hf hz1
  replace hfr := d_frm.tr hfr hfr1 (by omega)
  refine a_aload_n (pc' := 98) 0 dX4_reachNow_97 rfl rfl rfl ?_
  refine a_aload_n (pc' := 99) 0 dX4_reachNow_98 rfl rfl rfl ?_
  refine a_sipush (pc' := 102) (v := (214 : Int32)) dX4_reachNow_99 rfl (by decide) ?_
  obtain ⟨x17, e16, hf⟩ := Option.bind_eq_some_iff.mp hf
  refine k_X4_73 (pc' := 105) (c_X4_sum l g F hz e16) ⟨Nat.le_of_ble_eq_true rfl, Nat.le_of_ble_eq_true rfl⟩ hz.1 (Nat.le_of_ble_eq_true rfl) dX4_reachNow_102 rfl ?_
  refine pt_X4_173 (pc' := 108) hz dX4_reachNow_105 rfl (fun h18 hz1 hfr1 => ?_)
  obtain ⟨M19, hf, hz⟩ := f_let_x (P := fun w => d_mod h18 w) hf hz1
  replace hfr := d_frm.tr hfr hfr1 (by omega)
  refine a_aload_n (pc' := 109) 0 dX4_reachNow_108 rfl rfl rfl ?_
  obtain ⟨x21, e20, hf⟩ := Option.bind_eq_some_iff.mp hf
  refine k_X4_176 (pc' := 112) (c_X4_bring l g F hz e20) ⟨Nat.le_of_ble_eq_true rfl, Nat.le_of_ble_eq_true rfl⟩ hz.1 (Nat.le_of_ble_eq_true rfl) dX4_reachNow_109 rfl (fun h22 hq => ?_)
  obtain ⟨hz1, hfr1⟩ := hq
  obtain ⟨M23, hf, hz⟩ := f_let_x (P := fun w => d_mod h22 w) hf hz1
  replace hfr := d_frm.tr hfr hfr1 (by omega)
  refine a_iload_n (pc' := 113) 1 dX4_reachNow_112 rfl rfl rfl ?_
  refine a_if_ne (pc' := 116) 120 dX4_reachNow_113 (by decide) rfl (fun k24 => ?_) (fun k24 => ?_)
  · replace hf := (if_neg k24).symm.trans hf
    refine a_iload_n (pc' := 121) 1 dX4_reachNow_120 rfl rfl rfl ?_
    refine a_iconst (pc' := 122) (v := (1 : Int32)) dX4_reachNow_121 rfl (by decide) ?_
    refine a_icmp_ne (pc' := 125) 132 dX4_reachNow_122 (by decide) rfl (fun k25 => ?_) (fun k25 => ?_)
    · replace hf := (if_neg k25).symm.trans hf
      refine a_iload_n (pc' := 133) 1 dX4_reachNow_132 rfl rfl rfl ?_
      refine a_iconst (pc' := 134) (v := (2 : Int32)) dX4_reachNow_133 rfl (by decide) ?_
      refine a_icmp_ne (pc' := 137) 144 dX4_reachNow_134 (by decide) rfl (fun k26 => ?_) (fun k26 => ?_)
      · replace hf := (if_neg k26).symm.trans hf
        refine a_aload_n (pc' := 145) 0 dX4_reachNow_144 rfl rfl rfl ?_
        refine g_X4_167 (pc' := 148) hz.1 rfl dX4_reachNow_145 rfl ?_
        cases hf
        exact a_iret hr ⟨rfl, hz, hfr⟩ dX4_reachNow_148
      · replace hf := (if_pos k26).symm.trans hf
        refine a_aload_n (pc' := 138) 0 dX4_reachNow_137 rfl rfl rfl ?_
        refine g_X4_173 (pc' := 141) hz.1 rfl dX4_reachNow_138 rfl ?_
        refine a_goto 148 dX4_reachNow_141 (by decide) ?_
        cases hf
        exact a_iret hr ⟨rfl, hz, hfr⟩ dX4_reachNow_148
    · replace hf := (if_pos k25).symm.trans hf
      refine a_aload_n (pc' := 126) 0 dX4_reachNow_125 rfl rfl rfl ?_
      refine g_X4_170 (pc' := 129) hz.1 rfl dX4_reachNow_126 rfl ?_
      refine a_goto 148 dX4_reachNow_129 (by decide) ?_
      cases hf
      exact a_iret hr ⟨rfl, hz, hfr⟩ dX4_reachNow_148
  · replace hf := (if_pos k24).symm.trans hf
    refine a_iload_n (pc' := 117) 2 dX4_reachNow_116 rfl rfl rfl ?_
    refine a_goto 148 dX4_reachNow_117 (by decide) ?_
    cases hf
    exact a_iret hr ⟨rfl, hz, hfr⟩ dX4_reachNow_148
/-! SlateRoofModel.reach(I)I -/
set_option maxRecDepth 100000 in
def f_X4_reach (F : Nat) (M : d_M) (a1 : Int32) : Option (Int32 × d_M) := f_let (ms_thrown M ((0 : Int32))) fun M2 => (f_X4_within F a1 ((0 : Int32)) ((3 : Int32))).bind fun x4 => (if x4 = 0 then (f_X4_fails F M2 ((1 : Int32))).bind fun x7 => f_let x7.2 fun M9 => some ((x7.1, M9)) else (f_X4_reachNow F M2 a1).bind fun x11 => f_let x11.2 fun M13 => some ((x11.1, M13)))
set_option maxHeartbeats 4000000 in
set_option maxRecDepth 100000 in
theorem c_X4_reach (l : Launch) (g : a_G) (F : Nat) {h : List va_E} {M : d_M} {a1 : Int32} (hz : d_mod h M) {out : Int32 × d_M} (hf : f_X4_reach F M a1 = some out) : a_CT l g yX4_reach cX4_reach 2 (some .int) (a_rm 4 87) [.ref 55, .int a1] h none none (fun r h' => r = some (.int out.1) ∧ d_mod h' out.2 ∧ d_frm 55 6 h h') := by
  refine a_enter ⟨by decide, rfl, Nat.le_of_ble_eq_true rfl⟩ (fun p e s m args below meth c hr hin => ?_)
  unfold f_X4_reach at hf
  have hfr : d_frm 55 6 h h := d_frm.rf
  refine a_sub (ls' := [(0, .ref 55), (1, .int a1)]) [0, 1] rfl ?_
  refine a_aload_n (pc' := 1) 0 dX4_reach_0 rfl rfl rfl ?_
  refine a_iconst (pc' := 2) (v := (0 : Int32)) dX4_reach_1 rfl (by decide) ?_
  refine pt_X4_25 (pc' := 5) hz dX4_reach_2 rfl (fun h1 hz1 hfr1 => ?_)
  obtain ⟨M2, hf, hz⟩ := f_let_x (P := fun w => d_mod h1 w) hf hz1
  replace hfr := d_frm.tr hfr hfr1 (by omega)
  refine a_iload_n (pc' := 6) 1 dX4_reach_5 rfl rfl rfl ?_
  refine a_iconst (pc' := 7) (v := (0 : Int32)) dX4_reach_6 rfl (by decide) ?_
  refine a_iconst (pc' := 8) (v := (3 : Int32)) dX4_reach_7 rfl (by decide) ?_
  obtain ⟨x4, e3, hf⟩ := Option.bind_eq_some_iff.mp hf
  refine k_X4_29 (pc' := 11) (c_X4_within l g F e3) ⟨Nat.le_of_ble_eq_true rfl, Nat.le_of_ble_eq_true rfl⟩ (Nat.le_of_ble_eq_true rfl) dX4_reach_8 rfl ?_
  refine a_if_eq (pc' := 14) 22 dX4_reach_11 (by decide) rfl (fun k5 => ?_) (fun k5 => ?_)
  · replace hf := (if_pos k5).symm.trans hf
    refine a_aload_n (pc' := 23) 0 dX4_reach_22 rfl rfl rfl ?_
    refine a_iconst (pc' := 24) (v := (1 : Int32)) dX4_reach_23 rfl (by decide) ?_
    obtain ⟨x7, e6, hf⟩ := Option.bind_eq_some_iff.mp hf
    refine k_X4_60 (pc' := 27) (c_X4_fails l g F hz e6) ⟨Nat.le_of_ble_eq_true rfl, Nat.le_of_ble_eq_true rfl⟩ hz.1 (Nat.le_of_ble_eq_true rfl) dX4_reach_24 rfl (fun h8 hq => ?_)
    obtain ⟨hz1, hfr1⟩ := hq
    obtain ⟨M9, hf, hz⟩ := f_let_x (P := fun w => d_mod h8 w) hf hz1
    replace hfr := d_frm.tr hfr hfr1 (by omega)
    cases hf
    exact a_iret hr ⟨rfl, hz, hfr⟩ dX4_reach_27
  · replace hf := (if_neg k5).symm.trans hf
    refine a_aload_n (pc' := 15) 0 dX4_reach_14 rfl rfl rfl ?_
    refine a_iload_n (pc' := 16) 1 dX4_reach_15 rfl rfl rfl ?_
    obtain ⟨x11, e10, hf⟩ := Option.bind_eq_some_iff.mp hf
    refine k_X4_179 (pc' := 19) (c_X4_reachNow l g F hz e10) ⟨Nat.le_of_ble_eq_true rfl, Nat.le_of_ble_eq_true rfl⟩ hz.1 (Nat.le_of_ble_eq_true rfl) dX4_reach_16 rfl (fun h12 hq => ?_)
    obtain ⟨hz1, hfr1⟩ := hq
    obtain ⟨M13, hf, hz⟩ := f_let_x (P := fun w => d_mod h12 w) hf hz1
    replace hfr := d_frm.tr hfr hfr1 (by omega)
    refine a_goto 27 dX4_reach_19 (by decide) ?_
    cases hf
    exact a_iret hr ⟨rfl, hz, hfr⟩ dX4_reach_27
/-! SlateRoofModel.dryNow()I -/
set_option maxRecDepth 100000 in
def f_X4_dryNow_L14 (F : Nat)  : Nat → Int32 → d_M → Option (Int32 × d_M)
  | 0, _, _ => none
  | n + 1, v1_14, M_14 => (if ((200 : Int32)) < v1_14 then some (v1_14, M_14) else (f_X4_isDone F M_14).bind fun x15003 => (if x15003 = 0 then (f_X4_workDay F M_14 ((0 : Int32))).bind fun x15006 => f_let x15006.2 fun M15008 => f_X4_dryNow_L14 F  n (v1_14 + (1 : Int32)) M15008 else some (v1_14, M_14)))
set_option maxRecDepth 100000 in
def f_X4_dryNow (F : Nat) (M : d_M) : Option (Int32 × d_M) := (f_X4_keep F M).bind fun x2 => f_let x2 fun M4 => f_grd ((9 : Int32)) 294 (f_let (ms_z M4 (upd (m_z M4) ((9 : Int32)).toNatClampNeg ((0 : Int32)))) fun M6 => (f_X4_dryNow_L14 F F ((0 : Int32)) M6).bind fun o7 => (f_X4_bring F o7.2).bind fun x11 => f_let x11 fun M13 => (if o7.1 ≤ ((200 : Int32)) then some ((o7.1, M13)) else some (((-1 : Int32), M13))))
set_option maxHeartbeats 4000000 in
set_option maxRecDepth 100000 in
theorem l_X4_dryNow_L14 {p : Program} {l : Launch} {e : Env} {s : State} {m : MethodId} {args : Array Value} {below : List Frame} {meth : Method} {c : Code} {Q : State → Prop} {g : a_G} (F : Nat) {h : List va_E}  : ∀ (n : Nat) (v1_14 : Int32) (M_14 : d_M) (o : Int32 × d_M), f_X4_dryNow_L14 F  n v1_14 M_14 = some o → (∀ e9 : Int32 × d_M, o = e9 → ∀ h1, d_mod h1 e9.2 → d_frm 55 6 h h1 → a_W p l e (a_rm 6 133) s m args below meth c Q RX4 cX4_dryNow 2 g 0 0 none 40 [(0, .ref 55), (1, .int e9.1)] [] h1) → ∀ h1, d_mod h1 M_14 → d_frm 55 6 h h1 → a_W p l e (a_rm 6 133) s m args below meth c Q RX4 cX4_dryNow 2 g 0 0 none 14 [(0, .ref 55), (1, .int v1_14)] [] h1 := by
  intro n
  induction n with
  | zero => intro v1_14 M_14 o hf; exact nomatch (show (none : Option (Int32 × d_M)) = some o from hf)
  | succ n ih =>
    intro v1_14 M_14 o hf hX0 h1 hz hfr
    rw [f_X4_dryNow_L14] at hf
    refine a_iload_n (pc' := 15) 1 dX4_dryNow_14 rfl rfl rfl ?_
    refine a_sipush (pc' := 18) (v := (200 : Int32)) dX4_dryNow_15 rfl (by decide) ?_
    refine a_icmp_gt (pc' := 21) 40 dX4_dryNow_18 (by decide) rfl (fun k15001 => ?_) (fun k15001 => ?_)
    · replace hf := (if_pos k15001).symm.trans hf
      cases hf
      exact hX0 _ rfl _ hz hfr
    · replace hf := (if_neg k15001).symm.trans hf
      refine a_aload_n (pc' := 22) 0 dX4_dryNow_21 rfl rfl rfl ?_
      obtain ⟨x15003, e15002, hf⟩ := Option.bind_eq_some_iff.mp hf
      refine k_X4_107 (pc' := 25) (c_X4_isDone l g F hz e15002) ⟨Nat.le_of_ble_eq_true rfl, Nat.le_of_ble_eq_true rfl⟩ hz.1 (Nat.le_of_ble_eq_true rfl) dX4_dryNow_22 rfl ?_
      refine a_if_ne (pc' := 28) 40 dX4_dryNow_25 (by decide) rfl (fun k15004 => ?_) (fun k15004 => ?_)
      · replace hf := (if_neg k15004).symm.trans hf
        cases hf
        exact hX0 _ rfl _ hz hfr
      · replace hf := (if_pos k15004).symm.trans hf
        refine a_aload_n (pc' := 29) 0 dX4_dryNow_28 rfl rfl rfl ?_
        refine a_iconst (pc' := 30) (v := (0 : Int32)) dX4_dryNow_29 rfl (by decide) ?_
        obtain ⟨x15006, e15005, hf⟩ := Option.bind_eq_some_iff.mp hf
        refine k_X4_143 (pc' := 33) (c_X4_workDay l g F hz e15005) ⟨Nat.le_of_ble_eq_true rfl, Nat.le_of_ble_eq_true rfl⟩ hz.1 (Nat.le_of_ble_eq_true rfl) dX4_dryNow_30 rfl (fun h15007 hq => ?_)
        obtain ⟨hz1, hfr1⟩ := hq
        obtain ⟨M15008, hf, hz⟩ := f_let_x (P := fun w => d_mod h15007 w) hf hz1
        replace hfr := d_frm.tr hfr hfr1 (by omega)
        refine a_pop (pc' := 34) dX4_dryNow_33 rfl rfl ?_
        refine a_iinc (pc' := 37) (v := v1_14 + (1 : Int32)) (ls' := [(1, .int (v1_14 + (1 : Int32))), (0, .ref 55)]) 1 dX4_dryNow_34 rfl (by rfl) (by decide) rfl rfl ?_
        refine a_goto 14 dX4_dryNow_37 (by decide) ?_
        refine a_sub [1, 0] rfl ?_
        exact ih _ _ _ hf hX0 _ hz hfr
set_option maxHeartbeats 4000000 in
set_option maxRecDepth 100000 in
theorem c_X4_dryNow (l : Launch) (g : a_G) (F : Nat) {h : List va_E} {M : d_M} (hz : d_mod h M) {out : Int32 × d_M} (hf : f_X4_dryNow F M = some out) : a_CT l g yX4_dryNow cX4_dryNow 2 (some .int) (a_rm 6 133) [.ref 55] h none none (fun r h' => r = some (.int out.1) ∧ d_mod h' out.2 ∧ d_frm 55 6 h h') := by
  refine a_enter ⟨by decide, rfl, Nat.le_of_ble_eq_true rfl⟩ (fun p e s m args below meth c hr hin => ?_)
  unfold f_X4_dryNow at hf
  have hfr : d_frm 55 6 h h := d_frm.rf
  refine a_sub (ls' := [(0, .ref 55)]) [0] rfl ?_
  refine a_aload_n (pc' := 1) 0 dX4_dryNow_0 rfl rfl rfl ?_
  obtain ⟨x2, e1, hf⟩ := Option.bind_eq_some_iff.mp hf
  refine k_X4_164 (pc' := 4) (c_X4_keep l g F hz e1) ⟨Nat.le_of_ble_eq_true rfl, Nat.le_of_ble_eq_true rfl⟩ hz.1 (Nat.le_of_ble_eq_true rfl) dX4_dryNow_1 rfl (fun h3 hq => ?_)
  obtain ⟨hz1, hfr1⟩ := hq
  obtain ⟨M4, hf, hz⟩ := f_let_x (P := fun w => d_mod h3 w) hf hz1
  replace hfr := d_frm.tr hfr hfr1 (by omega)
  refine a_aload_n (pc' := 5) 0 dX4_dryNow_4 rfl rfl rfl ?_
  refine g_X4_7 (pc' := 8) hz.1 rfl dX4_dryNow_5 rfl ?_
  refine a_bipush (pc' := 10) (v := (9 : Int32)) dX4_dryNow_8 rfl (by decide) ?_
  refine a_iconst (pc' := 11) (v := (0 : Int32)) dX4_dryNow_10 rfl (by decide) ?_
  obtain ⟨hg, hf⟩ := f_grd_x hf
  refine b_iast (pc' := 12) hz.2.1 hg dX4_dryNow_11 rfl (fun h5 hz1 hfr1 => ?_)
  obtain ⟨hz1, hfr1⟩ := d_ma_z hz hz1 hfr1
  obtain ⟨M6, hf, hz⟩ := f_let_x (P := fun w => d_mod h5 w) hf hz1
  replace hfr := d_frm.tr hfr hfr1 (by omega)
  refine a_iconst (pc' := 13) (v := (0 : Int32)) dX4_dryNow_12 rfl (by decide) ?_
  refine a_istore_n (pc' := 14) (ls' := [(1, .int ((0 : Int32))), (0, .ref 55)]) dX4_dryNow_13 rfl (by decide) rfl rfl ?_
  obtain ⟨o7, e8, hf⟩ := Option.bind_eq_some_iff.mp hf
  refine a_sub [1, 0] rfl ?_
  refine l_X4_dryNow_L14 F   F _ _ o7 e8 (fun e9 he9 h9 hz hfr => ?_) _ hz hfr
  subst he9
  refine a_aload_n (pc' := 41) 0 dX4_dryNow_40 rfl rfl rfl ?_
  obtain ⟨x11, e10, hf⟩ := Option.bind_eq_some_iff.mp hf
  refine k_X4_176 (pc' := 44) (c_X4_bring l g F hz e10) ⟨Nat.le_of_ble_eq_true rfl, Nat.le_of_ble_eq_true rfl⟩ hz.1 (Nat.le_of_ble_eq_true rfl) dX4_dryNow_41 rfl (fun h12 hq => ?_)
  obtain ⟨hz1, hfr1⟩ := hq
  obtain ⟨M13, hf, hz⟩ := f_let_x (P := fun w => d_mod h12 w) hf hz1
  replace hfr := d_frm.tr hfr hfr1 (by omega)
  refine a_iload_n (pc' := 45) 1 dX4_dryNow_44 rfl rfl rfl ?_
  refine a_sipush (pc' := 48) (v := (200 : Int32)) dX4_dryNow_45 rfl (by decide) ?_
  refine a_icmp_le (pc' := 51) 55 dX4_dryNow_48 (by decide) rfl (fun k14 => ?_) (fun k14 => ?_)
  · replace hf := (if_pos k14).symm.trans hf
    refine a_iload_n (pc' := 56) 1 dX4_dryNow_55 rfl rfl rfl ?_
    cases hf
    exact a_iret hr ⟨rfl, hz, hfr⟩ dX4_dryNow_56
  · replace hf := (if_neg k14).symm.trans hf
    refine a_iconst (pc' := 52) (v := (-1 : Int32)) dX4_dryNow_51 rfl (by decide) ?_
    refine a_goto 56 dX4_dryNow_52 (by decide) ?_
    cases hf
    exact a_iret hr ⟨rfl, hz, hfr⟩ dX4_dryNow_56
/-! SlateRoofModel.dryDays()I -/
set_option maxRecDepth 100000 in
def f_X4_dryDays (F : Nat) (M : d_M) : Option (Int32 × d_M) := f_let (ms_thrown M ((0 : Int32))) fun M2 => (f_X4_dryNow F M2).bind fun x4 => f_let x4.2 fun M6 => some ((x4.1, M6))
set_option maxHeartbeats 4000000 in
set_option maxRecDepth 100000 in
theorem c_X4_dryDays (l : Launch) (g : a_G) (F : Nat) {h : List va_E} {M : d_M} (hz : d_mod h M) {out : Int32 × d_M} (hf : f_X4_dryDays F M = some out) : a_CT l g yX4_dryDays cX4_dryDays 1 (some .int) (a_rm 7 154) [.ref 55] h none none (fun r h' => r = some (.int out.1) ∧ d_mod h' out.2 ∧ d_frm 55 6 h h') := by
  refine a_enter ⟨by decide, rfl, Nat.le_of_ble_eq_true rfl⟩ (fun p e s m args below meth c hr hin => ?_)
  unfold f_X4_dryDays at hf
  have hfr : d_frm 55 6 h h := d_frm.rf
  refine a_sub (ls' := [(0, .ref 55)]) [0] rfl ?_
  refine a_aload_n (pc' := 1) 0 dX4_dryDays_0 rfl rfl rfl ?_
  refine a_iconst (pc' := 2) (v := (0 : Int32)) dX4_dryDays_1 rfl (by decide) ?_
  refine pt_X4_25 (pc' := 5) hz dX4_dryDays_2 rfl (fun h1 hz1 hfr1 => ?_)
  obtain ⟨M2, hf, hz⟩ := f_let_x (P := fun w => d_mod h1 w) hf hz1
  replace hfr := d_frm.tr hfr hfr1 (by omega)
  refine a_aload_n (pc' := 6) 0 dX4_dryDays_5 rfl rfl rfl ?_
  obtain ⟨x4, e3, hf⟩ := Option.bind_eq_some_iff.mp hf
  refine k_X4_182 (pc' := 9) (c_X4_dryNow l g F hz e3) ⟨Nat.le_of_ble_eq_true rfl, Nat.le_of_ble_eq_true rfl⟩ hz.1 (Nat.le_of_ble_eq_true rfl) dX4_dryDays_6 rfl (fun h5 hq => ?_)
  obtain ⟨hz1, hfr1⟩ := hq
  obtain ⟨M6, hf, hz⟩ := f_let_x (P := fun w => d_mod h5 w) hf hz1
  replace hfr := d_frm.tr hfr hfr1 (by omega)
  cases hf
  exact a_iret hr ⟨rfl, hz, hfr⟩ dX4_dryDays_9
/-! SlateRoofModel.bestNow()I -/
set_option maxRecDepth 100000 in
def f_X4_bestNow_L22 (F : Nat) (M : d_M) : Nat → Int32 → Int32 → Int32 → Option (Int32 × Int32 × Int32)
  | 0, _, _, _ => none
  | n + 1, v1_22, v2_22, v3_22 => (f_X4_longest F M).bind fun x23002 => (if x23002 < v3_22 then some (v1_22, v2_22, v3_22) else (f_X4_toTopNow F M v3_22 ((1 : Int32))).bind fun x23005 => (f_X4_price F v3_22).bind fun x23007 => (if v1_22 = ((-1 : Int32)) then f_X4_bestNow_L22 F M n v3_22 (x23005 * x23007) (v3_22 + (1 : Int32)) else (if v2_22 < (x23005 * x23007) then f_X4_bestNow_L22 F M n v1_22 v2_22 (v3_22 + (1 : Int32)) else f_X4_bestNow_L22 F M n v3_22 (x23005 * x23007) (v3_22 + (1 : Int32)))))
set_option maxRecDepth 100000 in
def f_X4_bestNow (F : Nat) (M : d_M) : Option (Int32) := (f_X4_top F M).bind fun x2 => f_grd ((0 : Int32)) 294 ((if x2 < ((m_z M) ((0 : Int32)).toNatClampNeg) then (f_X4_bestNow_L22 F M F ((-1 : Int32)) ((0 : Int32)) ((8 : Int32))).bind fun o4 => some (o4.1) else some ((-1 : Int32))))
set_option maxHeartbeats 4000000 in
set_option maxRecDepth 100000 in
theorem l_X4_bestNow_L22 {p : Program} {l : Launch} {e : Env} {s : State} {m : MethodId} {args : Array Value} {below : List Frame} {meth : Method} {c : Code} {Q : State → Prop} {g : a_G} (F : Nat) {h : List va_E} (M : d_M) (hz : d_mod h M) : ∀ (n : Nat) (v1_22 : Int32) (v2_22 : Int32) (v3_22 : Int32) (o : Int32 × Int32 × Int32), f_X4_bestNow_L22 F M n v1_22 v2_22 v3_22 = some o → (∀ e9 : Int32 × Int32 × Int32, o = e9 → a_W p l e (a_rm 4 89) s m args below meth c Q RX4 cX4_bestNow 5 g 0 0 none 65 [(1, .int e9.1)] [] h) → a_W p l e (a_rm 4 89) s m args below meth c Q RX4 cX4_bestNow 5 g 0 0 none 22 [(0, .ref 55), (1, .int v1_22), (2, .int v2_22), (3, .int v3_22)] [] h := by
  intro n
  induction n with
  | zero => intro v1_22 v2_22 v3_22 o hf; exact nomatch (show (none : Option (Int32 × Int32 × Int32)) = some o from hf)
  | succ n ih =>
    intro v1_22 v2_22 v3_22 o hf hX0
    rw [f_X4_bestNow_L22] at hf
    refine a_iload_n (pc' := 23) 3 dX4_bestNow_22 rfl rfl rfl ?_
    refine a_aload_n (pc' := 24) 0 dX4_bestNow_23 rfl rfl rfl ?_
    obtain ⟨x23002, e23001, hf⟩ := Option.bind_eq_some_iff.mp hf
    refine k_X4_84 (pc' := 27) (c_X4_longest l g F hz e23001) ⟨Nat.le_of_ble_eq_true rfl, Nat.le_of_ble_eq_true rfl⟩ hz.1 (Nat.le_of_ble_eq_true rfl) dX4_bestNow_24 rfl ?_
    refine a_icmp_gt (pc' := 30) 65 dX4_bestNow_27 (by decide) rfl (fun k23003 => ?_) (fun k23003 => ?_)
    · replace hf := (if_pos k23003).symm.trans hf
      cases hf
      refine a_sub [1] rfl ?_
      exact hX0 _ rfl
    · replace hf := (if_neg k23003).symm.trans hf
      refine a_aload_n (pc' := 31) 0 dX4_bestNow_30 rfl rfl rfl ?_
      refine a_iload_n (pc' := 32) 3 dX4_bestNow_31 rfl rfl rfl ?_
      refine a_iconst (pc' := 33) (v := (1 : Int32)) dX4_bestNow_32 rfl (by decide) ?_
      obtain ⟨x23005, e23004, hf⟩ := Option.bind_eq_some_iff.mp hf
      refine k_X4_161 (pc' := 36) (c_X4_toTopNow l g F hz e23004) ⟨Nat.le_of_ble_eq_true rfl, Nat.le_of_ble_eq_true rfl⟩ hz.1 (Nat.le_of_ble_eq_true rfl) dX4_bestNow_33 rfl ?_
      refine a_iload_n (pc' := 37) 3 dX4_bestNow_36 rfl rfl rfl ?_
      obtain ⟨x23007, e23006, hf⟩ := Option.bind_eq_some_iff.mp hf
      refine k_X4_77 (pc' := 40) (c_X4_price l g F e23006) ⟨Nat.le_of_ble_eq_true rfl, Nat.le_of_ble_eq_true rfl⟩ (Nat.le_of_ble_eq_true rfl) dX4_bestNow_37 rfl ?_
      refine a_imul (pc' := 41) dX4_bestNow_40 rfl ?_
      refine a_istore (pc' := 43) (ls' := [(4, .int (x23005 * x23007)), (0, .ref 55), (1, .int v1_22), (2, .int v2_22), (3, .int v3_22)]) dX4_bestNow_41 (by decide) rfl rfl ?_
      refine a_iload_n (pc' := 44) 2 dX4_bestNow_43 rfl rfl rfl ?_
      refine a_iconst (pc' := 45) (v := (-1 : Int32)) dX4_bestNow_44 rfl (by decide) ?_
      refine a_icmp_eq (pc' := 48) 54 dX4_bestNow_45 (by decide) rfl (fun k23008 => ?_) (fun k23008 => ?_)
      · replace hf := (if_pos k23008).symm.trans hf
        refine a_iload_n (pc' := 55) 4 dX4_bestNow_54 rfl rfl rfl ?_
        refine a_istore_n (pc' := 56) (ls' := [(1, .int v3_22), (4, .int (x23005 * x23007)), (0, .ref 55), (2, .int v2_22), (3, .int v3_22)]) dX4_bestNow_55 rfl (by decide) rfl rfl ?_
        refine a_iload (pc' := 58) 1 dX4_bestNow_56 rfl rfl ?_
        refine a_istore_n (pc' := 59) (ls' := [(2, .int (x23005 * x23007)), (1, .int v3_22), (4, .int (x23005 * x23007)), (0, .ref 55), (3, .int v3_22)]) dX4_bestNow_58 rfl (by decide) rfl rfl ?_
        refine a_iinc (pc' := 62) (v := v3_22 + (1 : Int32)) (ls' := [(3, .int (v3_22 + (1 : Int32))), (2, .int (x23005 * x23007)), (1, .int v3_22), (4, .int (x23005 * x23007)), (0, .ref 55)]) 4 dX4_bestNow_59 rfl (by rfl) (by decide) rfl rfl ?_
        refine a_goto 22 dX4_bestNow_62 (by decide) ?_
        refine a_sub [4, 2, 1, 0] rfl ?_
        exact ih _ _ _ _ hf hX0
      · replace hf := (if_neg k23008).symm.trans hf
        refine a_iload (pc' := 50) 0 dX4_bestNow_48 rfl rfl ?_
        refine a_iload_n (pc' := 51) 3 dX4_bestNow_50 rfl rfl rfl ?_
        refine a_icmp_gt (pc' := 54) 59 dX4_bestNow_51 (by decide) rfl (fun k23009 => ?_) (fun k23009 => ?_)
        · replace hf := (if_pos k23009).symm.trans hf
          refine a_iinc (pc' := 62) (v := v3_22 + (1 : Int32)) (ls' := [(3, .int (v3_22 + (1 : Int32))), (4, .int (x23005 * x23007)), (0, .ref 55), (1, .int v1_22), (2, .int v2_22)]) 4 dX4_bestNow_59 rfl (by rfl) (by decide) rfl rfl ?_
          refine a_goto 22 dX4_bestNow_62 (by decide) ?_
          refine a_sub [2, 3, 4, 0] rfl ?_
          exact ih _ _ _ _ hf hX0
        · replace hf := (if_neg k23009).symm.trans hf
          refine a_iload_n (pc' := 55) 4 dX4_bestNow_54 rfl rfl rfl ?_
          refine a_istore_n (pc' := 56) (ls' := [(1, .int v3_22), (4, .int (x23005 * x23007)), (0, .ref 55), (2, .int v2_22), (3, .int v3_22)]) dX4_bestNow_55 rfl (by decide) rfl rfl ?_
          refine a_iload (pc' := 58) 1 dX4_bestNow_56 rfl rfl ?_
          refine a_istore_n (pc' := 59) (ls' := [(2, .int (x23005 * x23007)), (1, .int v3_22), (4, .int (x23005 * x23007)), (0, .ref 55), (3, .int v3_22)]) dX4_bestNow_58 rfl (by decide) rfl rfl ?_
          refine a_iinc (pc' := 62) (v := v3_22 + (1 : Int32)) (ls' := [(3, .int (v3_22 + (1 : Int32))), (2, .int (x23005 * x23007)), (1, .int v3_22), (4, .int (x23005 * x23007)), (0, .ref 55)]) 4 dX4_bestNow_59 rfl (by rfl) (by decide) rfl rfl ?_
          refine a_goto 22 dX4_bestNow_62 (by decide) ?_
          refine a_sub [4, 2, 1, 0] rfl ?_
          exact ih _ _ _ _ hf hX0
set_option maxHeartbeats 4000000 in
set_option maxRecDepth 100000 in
theorem c_X4_bestNow (l : Launch) (g : a_G) (F : Nat) {h : List va_E} {M : d_M} (hz : d_mod h M) {out : Int32} (hf : f_X4_bestNow F M = some out) : a_CT l g yX4_bestNow cX4_bestNow 5 (some .int) (a_rm 4 89) [.ref 55] h none none (fun r h' => r = some (.int out) ∧ h' = h) := by
  refine a_enter ⟨by decide, rfl, Nat.le_of_ble_eq_true rfl⟩ (fun p e s m args below meth c hr hin => ?_)
  unfold f_X4_bestNow at hf
  refine a_sub (ls' := [(0, .ref 55)]) [0] rfl ?_
  refine a_iconst (pc' := 1) (v := (-1 : Int32)) dX4_bestNow_0 rfl (by decide) ?_
  refine a_istore_n (pc' := 2) (ls' := [(1, .int ((-1 : Int32))), (0, .ref 55)]) dX4_bestNow_1 rfl (by decide) rfl rfl ?_
  refine a_iconst (pc' := 3) (v := (0 : Int32)) dX4_bestNow_2 rfl (by decide) ?_
  refine a_istore_n (pc' := 4) (ls' := [(2, .int ((0 : Int32))), (1, .int ((-1 : Int32))), (0, .ref 55)]) dX4_bestNow_3 rfl (by decide) rfl rfl ?_
  refine a_aload_n (pc' := 5) 2 dX4_bestNow_4 rfl rfl rfl ?_
  obtain ⟨x2, e1, hf⟩ := Option.bind_eq_some_iff.mp hf
  refine k_X4_53 (pc' := 8) (c_X4_top l g F hz e1) ⟨Nat.le_of_ble_eq_true rfl, Nat.le_of_ble_eq_true rfl⟩ hz.1 (Nat.le_of_ble_eq_true rfl) dX4_bestNow_5 rfl ?_
  refine a_aload_n (pc' := 9) 2 dX4_bestNow_8 rfl rfl rfl ?_
  refine g_X4_7 (pc' := 12) hz.1 rfl dX4_bestNow_9 rfl ?_
  refine a_iconst (pc' := 13) (v := (0 : Int32)) dX4_bestNow_12 rfl (by decide) ?_
  obtain ⟨hg, hf⟩ := f_grd_x hf
  refine b_iald (pc' := 14) hz.2.1 hg dX4_bestNow_13 rfl ?_
  refine a_icmp_lt (pc' := 17) 19 dX4_bestNow_14 (by decide) rfl (fun k3 => ?_) (fun k3 => ?_)
  · replace hf := (if_pos k3).symm.trans hf
    refine a_bipush (pc' := 21) (v := (8 : Int32)) dX4_bestNow_19 rfl (by decide) ?_
    refine a_istore_n (pc' := 22) (ls' := [(3, .int ((8 : Int32))), (2, .int ((0 : Int32))), (1, .int ((-1 : Int32))), (0, .ref 55)]) dX4_bestNow_21 rfl (by decide) rfl rfl ?_
    obtain ⟨o4, e5, hf⟩ := Option.bind_eq_some_iff.mp hf
    refine a_sub [3, 2, 1, 0] rfl ?_
    refine l_X4_bestNow_L22 F M hz F _ _ _ o4 e5 (fun e9 he9 => ?_)
    subst he9
    refine a_iload_n (pc' := 66) 0 dX4_bestNow_65 rfl rfl rfl ?_
    cases hf
    exact a_iret hr ⟨rfl, rfl⟩ dX4_bestNow_66
  · replace hf := (if_neg k3).symm.trans hf
    refine a_iconst (pc' := 18) (v := (-1 : Int32)) dX4_bestNow_17 rfl (by decide) ?_
    cases hf
    exact a_iret hr ⟨rfl, rfl⟩ dX4_bestNow_18
/-! SlateRoofModel.bestLength()I -/
set_option maxRecDepth 100000 in
def f_X4_bestLength (F : Nat) (M : d_M) : Option (Int32 × d_M) := f_let (ms_thrown M ((0 : Int32))) fun M2 => (f_X4_bestNow F M2).bind fun x4 => some ((x4, M2))
set_option maxHeartbeats 4000000 in
set_option maxRecDepth 100000 in
theorem c_X4_bestLength (l : Launch) (g : a_G) (F : Nat) {h : List va_E} {M : d_M} (hz : d_mod h M) {out : Int32 × d_M} (hf : f_X4_bestLength F M = some out) : a_CT l g yX4_bestLength cX4_bestLength 1 (some .int) (a_rm 5 113) [.ref 55] h none none (fun r h' => r = some (.int out.1) ∧ d_mod h' out.2 ∧ d_frm 55 6 h h') := by
  refine a_enter ⟨by decide, rfl, Nat.le_of_ble_eq_true rfl⟩ (fun p e s m args below meth c hr hin => ?_)
  unfold f_X4_bestLength at hf
  have hfr : d_frm 55 6 h h := d_frm.rf
  refine a_sub (ls' := [(0, .ref 55)]) [0] rfl ?_
  refine a_aload_n (pc' := 1) 0 dX4_bestLength_0 rfl rfl rfl ?_
  refine a_iconst (pc' := 2) (v := (0 : Int32)) dX4_bestLength_1 rfl (by decide) ?_
  refine pt_X4_25 (pc' := 5) hz dX4_bestLength_2 rfl (fun h1 hz1 hfr1 => ?_)
  obtain ⟨M2, hf, hz⟩ := f_let_x (P := fun w => d_mod h1 w) hf hz1
  replace hfr := d_frm.tr hfr hfr1 (by omega)
  refine a_aload_n (pc' := 6) 0 dX4_bestLength_5 rfl rfl rfl ?_
  obtain ⟨x4, e3, hf⟩ := Option.bind_eq_some_iff.mp hf
  refine k_X4_185 (pc' := 9) (c_X4_bestNow l g F hz e3) ⟨Nat.le_of_ble_eq_true rfl, Nat.le_of_ble_eq_true rfl⟩ hz.1 (Nat.le_of_ble_eq_true rfl) dX4_bestLength_6 rfl ?_
  cases hf
  exact a_iret hr ⟨rfl, hz, hfr⟩ dX4_bestLength_9
/-! SlateRoofModel.meanNow()D -/
set_option maxRecDepth 100000 in
def f_X4_meanNow (F : Nat) (M : d_M) : Option (UInt64) := (f_X4_onRoof F M).bind fun x2 => f_grd ((12 : Int32)) 294 ((if (x2 + ((m_z M) ((12 : Int32)).toNatClampNeg)) = 0 then some (FP.dconst0) else f_grd ((13 : Int32)) 294 (f_if (isNaN64 (FP.ddiv (FP.i2d ((m_z M) ((13 : Int32)).toNatClampNeg)) (FP.i2d (x2 + ((m_z M) ((12 : Int32)).toNatClampNeg)))) = false) (some (FP.ddiv (FP.i2d ((m_z M) ((13 : Int32)).toNatClampNeg)) (FP.i2d (x2 + ((m_z M) ((12 : Int32)).toNatClampNeg))))))))
set_option maxHeartbeats 4000000 in
set_option maxRecDepth 100000 in
theorem c_X4_meanNow (l : Launch) (g : a_G) (F : Nat) {h : List va_E} {M : d_M} (hz : d_mod h M) {out : UInt64} (hf : f_X4_meanNow F M = some out) : a_CT l g yX4_meanNow cX4_meanNow 2 (some .double) (a_rm 3 67) [.ref 55] h none none (fun r h' => r = some (.double out) ∧ h' = h) := by
  refine a_enter ⟨by decide, rfl, Nat.le_of_ble_eq_true rfl⟩ (fun p e s m args below meth c hr hin => ?_)
  unfold f_X4_meanNow at hf
  refine a_sub (ls' := [(0, .ref 55)]) [0] rfl ?_
  refine a_aload_n (pc' := 1) 0 dX4_meanNow_0 rfl rfl rfl ?_
  obtain ⟨x2, e1, hf⟩ := Option.bind_eq_some_iff.mp hf
  refine k_X4_66 (pc' := 4) (c_X4_onRoof l g F hz e1) ⟨Nat.le_of_ble_eq_true rfl, Nat.le_of_ble_eq_true rfl⟩ hz.1 (Nat.le_of_ble_eq_true rfl) dX4_meanNow_1 rfl ?_
  refine a_aload_n (pc' := 5) 0 dX4_meanNow_4 rfl rfl rfl ?_
  refine g_X4_7 (pc' := 8) hz.1 rfl dX4_meanNow_5 rfl ?_
  refine a_bipush (pc' := 10) (v := (12 : Int32)) dX4_meanNow_8 rfl (by decide) ?_
  obtain ⟨hg, hf⟩ := f_grd_x hf
  refine b_iald (pc' := 11) hz.2.1 hg dX4_meanNow_10 rfl ?_
  refine a_iadd (pc' := 12) dX4_meanNow_11 rfl ?_
  refine a_istore_n (pc' := 13) (ls' := [(1, .int (x2 + ((m_z M) ((12 : Int32)).toNatClampNeg))), (0, .ref 55)]) dX4_meanNow_12 rfl (by decide) rfl rfl ?_
  refine a_iload_n (pc' := 14) 0 dX4_meanNow_13 rfl rfl rfl ?_
  refine a_if_ne (pc' := 17) 21 dX4_meanNow_14 (by decide) rfl (fun k3 => ?_) (fun k3 => ?_)
  · replace hf := (if_neg k3).symm.trans hf
    refine a_aload_n (pc' := 22) 1 dX4_meanNow_21 rfl rfl rfl ?_
    refine g_X4_7 (pc' := 25) hz.1 rfl dX4_meanNow_22 rfl ?_
    refine a_bipush (pc' := 27) (v := (13 : Int32)) dX4_meanNow_25 rfl (by decide) ?_
    obtain ⟨hg, hf⟩ := f_grd_x hf
    refine b_iald (pc' := 28) hz.2.1 hg dX4_meanNow_27 rfl ?_
    refine a_i2d (pc' := 29) dX4_meanNow_28 rfl ?_
    refine a_iload_n (pc' := 30) 0 dX4_meanNow_29 rfl rfl rfl ?_
    refine a_i2d (pc' := 31) dX4_meanNow_30 rfl ?_
    obtain ⟨hg, hf⟩ := f_if_x hf
    refine a_ddiv (pc' := 32) dX4_meanNow_31 rfl (f_nn hg) ?_
    cases hf
    exact a_dret hr ⟨rfl, rfl⟩ dX4_meanNow_32
  · replace hf := (if_pos k3).symm.trans hf
    refine a_dconst0 (pc' := 18) dX4_meanNow_17 rfl ?_
    refine a_goto 32 dX4_meanNow_18 (by decide) ?_
    cases hf
    exact a_dret hr ⟨rfl, rfl⟩ dX4_meanNow_32
/-! SlateRoofModel.meanPrice()D -/
set_option maxRecDepth 100000 in
def f_X4_meanPrice (F : Nat) (M : d_M) : Option (UInt64 × d_M) := f_let (ms_thrown M ((0 : Int32))) fun M2 => (f_X4_meanNow F M2).bind fun x4 => some ((x4, M2))
set_option maxHeartbeats 4000000 in
set_option maxRecDepth 100000 in
theorem c_X4_meanPrice (l : Launch) (g : a_G) (F : Nat) {h : List va_E} {M : d_M} (hz : d_mod h M) {out : UInt64 × d_M} (hf : f_X4_meanPrice F M = some out) : a_CT l g yX4_meanPrice cX4_meanPrice 1 (some .double) (a_rm 4 88) [.ref 55] h none none (fun r h' => r = some (.double out.1) ∧ d_mod h' out.2 ∧ d_frm 55 6 h h') := by
  refine a_enter ⟨by decide, rfl, Nat.le_of_ble_eq_true rfl⟩ (fun p e s m args below meth c hr hin => ?_)
  unfold f_X4_meanPrice at hf
  have hfr : d_frm 55 6 h h := d_frm.rf
  refine a_sub (ls' := [(0, .ref 55)]) [0] rfl ?_
  refine a_aload_n (pc' := 1) 0 dX4_meanPrice_0 rfl rfl rfl ?_
  refine a_iconst (pc' := 2) (v := (0 : Int32)) dX4_meanPrice_1 rfl (by decide) ?_
  refine pt_X4_25 (pc' := 5) hz dX4_meanPrice_2 rfl (fun h1 hz1 hfr1 => ?_)
  obtain ⟨M2, hf, hz⟩ := f_let_x (P := fun w => d_mod h1 w) hf hz1
  replace hfr := d_frm.tr hfr hfr1 (by omega)
  refine a_aload_n (pc' := 6) 0 dX4_meanPrice_5 rfl rfl rfl ?_
  obtain ⟨x4, e3, hf⟩ := Option.bind_eq_some_iff.mp hf
  refine k_X4_188 (pc' := 9) (c_X4_meanNow l g F hz e3) ⟨Nat.le_of_ble_eq_true rfl, Nat.le_of_ble_eq_true rfl⟩ hz.1 (Nat.le_of_ble_eq_true rfl) dX4_meanPrice_6 rfl ?_
  cases hf
  exact a_dret hr ⟨rfl, hz, hfr⟩ dX4_meanPrice_9
/-! SlateRoofModel.mix(J)V -/
set_option maxRecDepth 100000 in
def f_X4_mix (F : Nat) (M : d_M) (a1 : Int64) : Option (d_M) := f_let (ms_h M ((((31 : Int64)) * (m_h M)) + a1)) fun M2 => some (M2)
set_option maxHeartbeats 4000000 in
set_option maxRecDepth 100000 in
theorem c_X4_mix (l : Launch) (g : a_G) (F : Nat) {h : List va_E} {M : d_M} {a1 : Int64} (hz : d_mod h M) {out : d_M} (hf : f_X4_mix F M a1 = some out) : a_CT l g yX4_mix cX4_mix 3 none (a_rm 0 0) [.ref 55, .long a1] h none none (fun r h' => r = none ∧ d_mod h' out ∧ d_frm 55 6 h h') := by
  refine a_enter ⟨by decide, rfl, Nat.le_of_ble_eq_true rfl⟩ (fun p e s m args below meth c hr hin => ?_)
  unfold f_X4_mix at hf
  have hfr : d_frm 55 6 h h := d_frm.rf
  refine a_sub (ls' := [(0, .ref 55), (1, .long a1)]) [0, 1] rfl ?_
  refine a_aload_n (pc' := 1) 0 dX4_mix_0 rfl rfl rfl ?_
  refine a_ldc2 (pc' := 4) (v := (31 : Int64)) (a_in5 94 rfl rfl) dX4_mix_1 rfl ?_
  refine a_aload_n (pc' := 5) 0 dX4_mix_4 rfl rfl rfl ?_
  refine g_X4_194 (pc' := 8) hz.1 rfl dX4_mix_5 rfl ?_
  refine a_lmul (pc' := 9) dX4_mix_8 rfl ?_
  refine a_lload_n (pc' := 10) 1 dX4_mix_9 rfl rfl rfl ?_
  refine a_ladd (pc' := 11) dX4_mix_10 rfl ?_
  refine pt_X4_194 (pc' := 14) hz dX4_mix_11 rfl (fun h1 hz1 hfr1 => ?_)
  obtain ⟨M2, hf, hz⟩ := f_let_x (P := fun w => d_mod h1 w) hf hz1
  replace hfr := d_frm.tr hfr hfr1 (by omega)
  cases hf
  exact a_vret hr ⟨rfl, hz, hfr⟩ dX4_mix_14
/-! java/lang/Double.isNaN(D)Z -/
set_option maxRecDepth 100000 in
def f_Jxe99ae_isNaN (F : Nat) (a1 : UInt64) : Option (Int32) := (if (Op.cmpValue (FP.dcmp a1 a1) .l) = 0 then some ((0 : Int32)) else some ((1 : Int32)))
set_option maxHeartbeats 4000000 in
set_option maxRecDepth 100000 in
theorem c_Jxe99ae_isNaN (l : Launch) (g : a_G) (F : Nat) {h : List va_E} {a1 : UInt64} {out : Int32} (hf : f_Jxe99ae_isNaN F a1 = some out) : a_CT l g yJxe99ae_isNaN_b9ae7 cJxe99ae_isNaN_b9ae7 2 (some .boolean) (a_rm 0 0) [.double a1] h none none (fun r h' => r = some (.int out) ∧ h' = h) := by
  refine a_enter ⟨by decide, rfl, Nat.le_of_ble_eq_true rfl⟩ (fun p e s m args below meth c hr hin => ?_)
  unfold f_Jxe99ae_isNaN at hf
  refine a_sub (ls' := [(0, .double a1)]) [0] rfl ?_
  refine a_dload_n (pc' := 1) 0 dJxe99ae_isNaN_b9ae7_0 rfl rfl rfl ?_
  refine a_dload_n (pc' := 2) 0 dJxe99ae_isNaN_b9ae7_1 rfl rfl rfl ?_
  refine a_dcmp (pc' := 3) dJxe99ae_isNaN_b9ae7_2 rfl ?_
  refine a_if_eq (pc' := 6) 10 dJxe99ae_isNaN_b9ae7_3 (by decide) rfl (fun k1 => ?_) (fun k1 => ?_)
  · replace hf := (if_pos k1).symm.trans hf
    refine a_iconst (pc' := 11) (v := (0 : Int32)) dJxe99ae_isNaN_b9ae7_10 rfl (by decide) ?_
    cases hf
    exact a_zret hr rfl ⟨rfl, rfl⟩ dJxe99ae_isNaN_b9ae7_11
  · replace hf := (if_neg k1).symm.trans hf
    refine a_iconst (pc' := 7) (v := (1 : Int32)) dJxe99ae_isNaN_b9ae7_6 rfl (by decide) ?_
    refine a_goto 11 dJxe99ae_isNaN_b9ae7_7 (by decide) ?_
    cases hf
    exact a_zret hr rfl ⟨rfl, rfl⟩ dJxe99ae_isNaN_b9ae7_11
/-! java/lang/Double.doubleToLongBits(D)J -/
set_option maxRecDepth 100000 in
def f_Jxe99ae_doubleToLongBits (F : Nat) (a1 : UInt64) : Option (Int64) := (f_Jxe99ae_isNaN F a1).bind fun x2 => (if x2 = 0 then some (a1.toInt64) else some ((9221120237041090560 : Int64)))
set_option maxHeartbeats 4000000 in
set_option maxRecDepth 100000 in
theorem c_Jxe99ae_doubleToLongBits (l : Launch) (g : a_G) (F : Nat) {h : List va_E} {a1 : UInt64} {out : Int64} (hf : f_Jxe99ae_doubleToLongBits F a1 = some out) : a_CT l g yJxe99ae_doubleToLongBits_ccdee cJxe99ae_doubleToLongBits_ccdee 2 (some .long) (a_rm 1 23) [.double a1] h none none (fun r h' => r = some (.long out) ∧ h' = h) := by
  refine a_enter ⟨by decide, rfl, Nat.le_of_ble_eq_true rfl⟩ (fun p e s m args below meth c hr hin => ?_)
  unfold f_Jxe99ae_doubleToLongBits at hf
  refine a_sub (ls' := [(0, .double a1)]) [0] rfl ?_
  refine a_dload_n (pc' := 1) 0 dJxe99ae_doubleToLongBits_ccdee_0 rfl rfl rfl ?_
  obtain ⟨x2, e1, hf⟩ := Option.bind_eq_some_iff.mp hf
  refine k_Jxe99ae_122 (pc' := 4) (c_Jxe99ae_isNaN l g F e1) ⟨Nat.le_of_ble_eq_true rfl, Nat.le_of_ble_eq_true rfl⟩ (Nat.le_of_ble_eq_true rfl) dJxe99ae_doubleToLongBits_ccdee_1 rfl ?_
  refine a_if_ne (pc' := 7) 12 dJxe99ae_doubleToLongBits_ccdee_4 (by decide) rfl (fun k3 => ?_) (fun k3 => ?_)
  · replace hf := (if_neg k3).symm.trans hf
    refine a_ldc2 (pc' := 15) (v := (9221120237041090560 : Int64)) (a_in5 104 rfl rfl) dJxe99ae_doubleToLongBits_ccdee_12 rfl ?_
    cases hf
    exact a_lret hr ⟨rfl, rfl⟩ dJxe99ae_doubleToLongBits_ccdee_15
  · replace hf := (if_pos k3).symm.trans hf
    refine a_dload_n (pc' := 8) 0 dJxe99ae_doubleToLongBits_ccdee_7 rfl rfl rfl ?_
    refine b_rawbits (pc' := 11) dJxe99ae_doubleToLongBits_ccdee_8 rfl ?_
    cases hf
    exact a_lret hr ⟨rfl, rfl⟩ dJxe99ae_doubleToLongBits_ccdee_11
/-! SlateRoofModel.digest()J -/
set_option maxRecDepth 100000 in
def f_X4_digest_L14 (F : Nat)  : Nat → Int32 → d_M → Option (Int32 × d_M)
  | 0, _, _ => none
  | n + 1, v1_14, M_14 => (if ((19 : Int32)) ≤ v1_14 then some (v1_14, M_14) else (f_X4_counted F M_14 v1_14).bind fun x15003 => (f_X4_mix F M_14 x15003.toInt64).bind fun x15005 => f_let x15005 fun M15007 => f_X4_digest_L14 F  n (v1_14 + (1 : Int32)) M15007)
set_option maxRecDepth 100000 in
def f_X4_digest_L38 (F : Nat)  : Nat → Int32 → d_M → Option (Int32 × d_M)
  | 0, _, _ => none
  | n + 1, v1_38, M_38 => (if ((3 : Int32)) ≤ v1_38 then some (v1_38, M_38) else f_grd (((3 : Int32)) + v1_38) 294 ((f_X4_mix F M_38 (((m_z M_38) (((3 : Int32)) + v1_38).toNatClampNeg).toInt64)).bind fun x39003 => f_let x39003 fun M39005 => f_X4_digest_L38 F  n (v1_38 + (1 : Int32)) M39005))
set_option maxRecDepth 100000 in
def f_X4_digest_L73 (F : Nat) (v1_65 : Int32) : Nat → Int32 → d_M → Option (Int32 × d_M)
  | 0, _, _ => none
  | n + 1, v2_73, M_73 => (if ((4 : Int32)) ≤ v2_73 then some (v2_73, M_73) else (f_X4_slatesNow F M_73 v1_65 v2_73).bind fun x74003 => (f_X4_mix F M_73 x74003.toInt64).bind fun x74005 => f_let x74005 fun M74007 => f_X4_digest_L73 F v1_65 n (v2_73 + (1 : Int32)) M74007)
set_option maxRecDepth 100000 in
def f_X4_digest_L65 (F : Nat)  : Nat → Int32 → d_M → Option (Int32 × d_M)
  | 0, _, _ => none
  | n + 1, v1_65, M_65 => (if ((24 : Int32)) < v1_65 then some (v1_65, M_65) else (f_X4_digest_L73 F v1_65 F ((0 : Int32)) M_65).bind fun o66002 => (f_X4_toTopNow F o66002.2 v1_65 ((0 : Int32))).bind fun x66006 => (f_X4_mix F o66002.2 x66006.toInt64).bind fun x66008 => f_let x66008 fun M66010 => (f_X4_toTopNow F M66010 v1_65 ((1 : Int32))).bind fun x66012 => (f_X4_mix F M66010 x66012.toInt64).bind fun x66014 => f_let x66014 fun M66016 => f_X4_digest_L65 F  n (v1_65 + (1 : Int32)) M66016)
set_option maxRecDepth 100000 in
def f_X4_digest_L137 (F : Nat) (v1_125 : Int32) : Nat → Int32 → d_M → Option (Int32 × d_M)
  | 0, _, _ => none
  | n + 1, v2_137, M_137 => (if ((7 : Int32)) ≤ v2_137 then some (v2_137, M_137) else (f_X4_courseNow F M_137 v1_125 v2_137).bind fun x138003 => (f_X4_mix F M_137 x138003.toInt64).bind fun x138005 => f_let x138005 fun M138007 => f_X4_digest_L137 F v1_125 n (v2_137 + (1 : Int32)) M138007)
set_option maxRecDepth 100000 in
def f_X4_digest_L162 (F : Nat) (v1_125 : Int32) : Nat → Int32 → d_M → Option (Int32 × d_M)
  | 0, _, _ => none
  | n + 1, v2_162, M_162 => (f_X4_placesOf F M_162 v1_125).bind fun x163002 => (if x163002 ≤ v2_162 then some (v2_162, M_162) else (f_X4_isThere F M_162 v1_125 v2_162).bind fun x163005 => (if x163005 = 0 then (f_X4_mix F M_162 ((0 : Int64))).bind fun x163008 => f_let x163008 fun M163010 => f_X4_digest_L162 F v1_125 n (v2_162 + (1 : Int32)) M163010 else (f_X4_mix F M_162 ((1 : Int64))).bind fun x163012 => f_let x163012 fun M163014 => f_X4_digest_L162 F v1_125 n (v2_162 + (1 : Int32)) M163014))
set_option maxRecDepth 100000 in
def f_X4_digest_L125 (F : Nat)  : Nat → Int32 → d_M → Option (Int32 × d_M)
  | 0, _, _ => none
  | n + 1, v1_125, M_125 => f_grd ((2 : Int32)) 294 ((if ((m_z M_125) ((2 : Int32)).toNatClampNeg) ≤ v1_125 then some (v1_125, M_125) else (f_X4_digest_L137 F v1_125 F ((0 : Int32)) M_125).bind fun o126002 => (f_X4_digest_L162 F v1_125 F ((0 : Int32)) o126002.2).bind fun o126005 => f_X4_digest_L125 F  n (v1_125 + (1 : Int32)) o126005.2))
set_option maxRecDepth 100000 in
def f_X4_digest_L203 (F : Nat)  : Nat → Int32 → d_M → Option (Int32 × d_M)
  | 0, _, _ => none
  | n + 1, v1_203, M_203 => (if ((4 : Int32)) ≤ v1_203 then some (v1_203, M_203) else (f_X4_reachNow F M_203 v1_203).bind fun x204003 => f_let x204003.2 fun M204005 => (f_X4_mix F M204005 x204003.1.toInt64).bind fun x204007 => f_let x204007 fun M204009 => f_X4_digest_L203 F  n (v1_203 + (1 : Int32)) M204009)
set_option maxRecDepth 100000 in
def f_X4_digest_L264 (F : Nat)  : Nat → Int32 → d_M → Option (Int32 × d_M)
  | 0, _, _ => none
  | n + 1, v1_264, M_264 => (if (m_length M_264) ≤ v1_264 then some (v1_264, M_264) else f_grd v1_264 60 ((f_X4_mix F M_264 (((m_text M_264) v1_264.toNatClampNeg).toInt64)).bind fun x265003 => f_let x265003 fun M265005 => f_X4_digest_L264 F  n (v1_264 + (1 : Int32)) M265005))
set_option maxRecDepth 100000 in
def f_X4_digest (F : Nat) (M : d_M) : Option (Int64 × d_M) := f_let (ms_thrown M ((0 : Int32))) fun M2 => f_let (ms_h M2 ((2273 : Int64))) fun M4 => (f_X4_digest_L14 F F ((0 : Int32)) M4).bind fun o5 => (f_X4_digest_L38 F F ((0 : Int32)) o5.2).bind fun o8 => (f_X4_digest_L65 F F ((8 : Int32)) o8.2).bind fun o11 => (f_X4_digest_L125 F F ((0 : Int32)) o11.2).bind fun o14 => (f_X4_digest_L203 F F ((0 : Int32)) o14.2).bind fun o17 => (f_X4_dryNow F o17.2).bind fun x21 => f_let x21.2 fun M23 => (f_X4_mix F M23 x21.1.toInt64).bind fun x25 => f_let x25 fun M27 => (f_X4_bestNow F M27).bind fun x29 => (f_X4_mix F M27 x29.toInt64).bind fun x31 => f_let x31 fun M33 => (f_X4_meanNow F M33).bind fun x35 => (f_Jxe99ae_doubleToLongBits F x35).bind fun x37 => (f_X4_mix F M33 x37).bind fun x39 => f_let x39 fun M41 => (f_X4_mix F M41 ((m_length M41).toInt64)).bind fun x43 => f_let x43 fun M45 => (f_X4_digest_L264 F F ((0 : Int32)) M45).bind fun o46 => some ((m_h o46.2, o46.2))
set_option maxHeartbeats 4000000 in
set_option maxRecDepth 100000 in
theorem l_X4_digest_L14 {p : Program} {l : Launch} {e : Env} {s : State} {m : MethodId} {args : Array Value} {below : List Frame} {meth : Method} {c : Code} {Q : State → Prop} {g : a_G} (F : Nat) {h : List va_E}  : ∀ (n : Nat) (v1_14 : Int32) (M_14 : d_M) (o : Int32 × d_M), f_X4_digest_L14 F  n v1_14 M_14 = some o → (∀ e9 : Int32 × d_M, o = e9 → ∀ h1, d_mod h1 e9.2 → d_frm 55 6 h h1 → a_W p l e (a_rm 7 154) s m args below meth c Q RX4 cX4_digest 3 g 0 0 none 36 [(0, .ref 55)] [] h1) → ∀ h1, d_mod h1 M_14 → d_frm 55 6 h h1 → a_W p l e (a_rm 7 154) s m args below meth c Q RX4 cX4_digest 3 g 0 0 none 14 [(0, .ref 55), (1, .int v1_14)] [] h1 := by
  intro n
  induction n with
  | zero => intro v1_14 M_14 o hf; exact nomatch (show (none : Option (Int32 × d_M)) = some o from hf)
  | succ n ih =>
    intro v1_14 M_14 o hf hX0 h1 hz hfr
    rw [f_X4_digest_L14] at hf
    refine a_iload_n (pc' := 15) 1 dX4_digest_14 rfl rfl rfl ?_
    refine a_bipush (pc' := 17) (v := (19 : Int32)) dX4_digest_15 rfl (by decide) ?_
    refine a_icmp_ge (pc' := 20) 36 dX4_digest_17 (by decide) rfl (fun k15001 => ?_) (fun k15001 => ?_)
    · replace hf := (if_pos k15001).symm.trans hf
      cases hf
      refine a_sub [0] rfl ?_
      exact hX0 _ rfl _ hz hfr
    · replace hf := (if_neg k15001).symm.trans hf
      refine a_aload_n (pc' := 21) 0 dX4_digest_20 rfl rfl rfl ?_
      refine a_aload_n (pc' := 22) 0 dX4_digest_21 rfl rfl rfl ?_
      refine a_iload_n (pc' := 23) 1 dX4_digest_22 rfl rfl rfl ?_
      obtain ⟨x15003, e15002, hf⟩ := Option.bind_eq_some_iff.mp hf
      refine k_X4_158 (pc' := 26) (c_X4_counted l g F hz e15002) ⟨Nat.le_of_ble_eq_true rfl, Nat.le_of_ble_eq_true rfl⟩ hz.1 (Nat.le_of_ble_eq_true rfl) dX4_digest_23 rfl ?_
      refine a_i2l (pc' := 27) dX4_digest_26 rfl ?_
      obtain ⟨x15005, e15004, hf⟩ := Option.bind_eq_some_iff.mp hf
      refine k_X4_200 (pc' := 30) (c_X4_mix l g F hz e15004) ⟨Nat.le_of_ble_eq_true rfl, Nat.le_of_ble_eq_true rfl⟩ hz.1 (Nat.le_of_ble_eq_true rfl) dX4_digest_27 rfl (fun h15006 hq => ?_)
      obtain ⟨hz1, hfr1⟩ := hq
      obtain ⟨M15007, hf, hz⟩ := f_let_x (P := fun w => d_mod h15006 w) hf hz1
      replace hfr := d_frm.tr hfr hfr1 (by omega)
      refine a_iinc (pc' := 33) (v := v1_14 + (1 : Int32)) (ls' := [(1, .int (v1_14 + (1 : Int32))), (0, .ref 55)]) 1 dX4_digest_30 rfl (by rfl) (by decide) rfl rfl ?_
      refine a_goto 14 dX4_digest_33 (by decide) ?_
      refine a_sub [1, 0] rfl ?_
      exact ih _ _ _ hf hX0 _ hz hfr
set_option maxHeartbeats 4000000 in
set_option maxRecDepth 100000 in
theorem l_X4_digest_L38 {p : Program} {l : Launch} {e : Env} {s : State} {m : MethodId} {args : Array Value} {below : List Frame} {meth : Method} {c : Code} {Q : State → Prop} {g : a_G} (F : Nat) {h : List va_E}  : ∀ (n : Nat) (v1_38 : Int32) (M_38 : d_M) (o : Int32 × d_M), f_X4_digest_L38 F  n v1_38 M_38 = some o → (∀ e9 : Int32 × d_M, o = e9 → ∀ h1, d_mod h1 e9.2 → d_frm 55 6 h h1 → a_W p l e (a_rm 7 154) s m args below meth c Q RX4 cX4_digest 3 g 0 0 none 62 [(0, .ref 55)] [] h1) → ∀ h1, d_mod h1 M_38 → d_frm 55 6 h h1 → a_W p l e (a_rm 7 154) s m args below meth c Q RX4 cX4_digest 3 g 0 0 none 38 [(0, .ref 55), (1, .int v1_38)] [] h1 := by
  intro n
  induction n with
  | zero => intro v1_38 M_38 o hf; exact nomatch (show (none : Option (Int32 × d_M)) = some o from hf)
  | succ n ih =>
    intro v1_38 M_38 o hf hX0 h1 hz hfr
    rw [f_X4_digest_L38] at hf
    refine a_iload_n (pc' := 39) 1 dX4_digest_38 rfl rfl rfl ?_
    refine a_iconst (pc' := 40) (v := (3 : Int32)) dX4_digest_39 rfl (by decide) ?_
    refine a_icmp_ge (pc' := 43) 62 dX4_digest_40 (by decide) rfl (fun k39001 => ?_) (fun k39001 => ?_)
    · replace hf := (if_pos k39001).symm.trans hf
      cases hf
      refine a_sub [0] rfl ?_
      exact hX0 _ rfl _ hz hfr
    · replace hf := (if_neg k39001).symm.trans hf
      refine a_aload_n (pc' := 44) 0 dX4_digest_43 rfl rfl rfl ?_
      refine a_aload_n (pc' := 45) 0 dX4_digest_44 rfl rfl rfl ?_
      refine g_X4_7 (pc' := 48) hz.1 rfl dX4_digest_45 rfl ?_
      refine a_iconst (pc' := 49) (v := (3 : Int32)) dX4_digest_48 rfl (by decide) ?_
      refine a_iload_n (pc' := 50) 1 dX4_digest_49 rfl rfl rfl ?_
      refine a_iadd (pc' := 51) dX4_digest_50 rfl ?_
      obtain ⟨hg, hf⟩ := f_grd_x hf
      refine b_iald (pc' := 52) hz.2.1 hg dX4_digest_51 rfl ?_
      refine a_i2l (pc' := 53) dX4_digest_52 rfl ?_
      obtain ⟨x39003, e39002, hf⟩ := Option.bind_eq_some_iff.mp hf
      refine k_X4_200 (pc' := 56) (c_X4_mix l g F hz e39002) ⟨Nat.le_of_ble_eq_true rfl, Nat.le_of_ble_eq_true rfl⟩ hz.1 (Nat.le_of_ble_eq_true rfl) dX4_digest_53 rfl (fun h39004 hq => ?_)
      obtain ⟨hz1, hfr1⟩ := hq
      obtain ⟨M39005, hf, hz⟩ := f_let_x (P := fun w => d_mod h39004 w) hf hz1
      replace hfr := d_frm.tr hfr hfr1 (by omega)
      refine a_iinc (pc' := 59) (v := v1_38 + (1 : Int32)) (ls' := [(1, .int (v1_38 + (1 : Int32))), (0, .ref 55)]) 1 dX4_digest_56 rfl (by rfl) (by decide) rfl rfl ?_
      refine a_goto 38 dX4_digest_59 (by decide) ?_
      refine a_sub [1, 0] rfl ?_
      exact ih _ _ _ hf hX0 _ hz hfr
set_option maxHeartbeats 4000000 in
set_option maxRecDepth 100000 in
theorem l_X4_digest_L73 {p : Program} {l : Launch} {e : Env} {s : State} {m : MethodId} {args : Array Value} {below : List Frame} {meth : Method} {c : Code} {Q : State → Prop} {g : a_G} (F : Nat) {h : List va_E} (v1_65 : Int32) : ∀ (n : Nat) (v2_73 : Int32) (M_73 : d_M) (o : Int32 × d_M), f_X4_digest_L73 F v1_65 n v2_73 M_73 = some o → (∀ e9 : Int32 × d_M, o = e9 → ∀ h1, d_mod h1 e9.2 → d_frm 55 6 h h1 → a_W p l e (a_rm 7 154) s m args below meth c Q RX4 cX4_digest 3 g 0 0 none 95 [(0, .ref 55), (1, .int v1_65)] [] h1) → ∀ h1, d_mod h1 M_73 → d_frm 55 6 h h1 → a_W p l e (a_rm 7 154) s m args below meth c Q RX4 cX4_digest 3 g 0 0 none 73 [(0, .ref 55), (1, .int v1_65), (2, .int v2_73)] [] h1 := by
  intro n
  induction n with
  | zero => intro v2_73 M_73 o hf; exact nomatch (show (none : Option (Int32 × d_M)) = some o from hf)
  | succ n ih =>
    intro v2_73 M_73 o hf hX0 h1 hz hfr
    rw [f_X4_digest_L73] at hf
    refine a_iload_n (pc' := 74) 2 dX4_digest_73 rfl rfl rfl ?_
    refine a_iconst (pc' := 75) (v := (4 : Int32)) dX4_digest_74 rfl (by decide) ?_
    refine a_icmp_ge (pc' := 78) 95 dX4_digest_75 (by decide) rfl (fun k74001 => ?_) (fun k74001 => ?_)
    · replace hf := (if_pos k74001).symm.trans hf
      cases hf
      refine a_sub [0, 1] rfl ?_
      exact hX0 _ rfl _ hz hfr
    · replace hf := (if_neg k74001).symm.trans hf
      refine a_aload_n (pc' := 79) 0 dX4_digest_78 rfl rfl rfl ?_
      refine a_aload_n (pc' := 80) 0 dX4_digest_79 rfl rfl rfl ?_
      refine a_iload_n (pc' := 81) 1 dX4_digest_80 rfl rfl rfl ?_
      refine a_iload_n (pc' := 82) 2 dX4_digest_81 rfl rfl rfl ?_
      obtain ⟨x74003, e74002, hf⟩ := Option.bind_eq_some_iff.mp hf
      refine k_X4_155 (pc' := 85) (c_X4_slatesNow l g F hz e74002) ⟨Nat.le_of_ble_eq_true rfl, Nat.le_of_ble_eq_true rfl⟩ hz.1 (Nat.le_of_ble_eq_true rfl) dX4_digest_82 rfl ?_
      refine a_i2l (pc' := 86) dX4_digest_85 rfl ?_
      obtain ⟨x74005, e74004, hf⟩ := Option.bind_eq_some_iff.mp hf
      refine k_X4_200 (pc' := 89) (c_X4_mix l g F hz e74004) ⟨Nat.le_of_ble_eq_true rfl, Nat.le_of_ble_eq_true rfl⟩ hz.1 (Nat.le_of_ble_eq_true rfl) dX4_digest_86 rfl (fun h74006 hq => ?_)
      obtain ⟨hz1, hfr1⟩ := hq
      obtain ⟨M74007, hf, hz⟩ := f_let_x (P := fun w => d_mod h74006 w) hf hz1
      replace hfr := d_frm.tr hfr hfr1 (by omega)
      refine a_iinc (pc' := 92) (v := v2_73 + (1 : Int32)) (ls' := [(2, .int (v2_73 + (1 : Int32))), (0, .ref 55), (1, .int v1_65)]) 2 dX4_digest_89 rfl (by rfl) (by decide) rfl rfl ?_
      refine a_goto 73 dX4_digest_92 (by decide) ?_
      refine a_sub [1, 2, 0] rfl ?_
      exact ih _ _ _ hf hX0 _ hz hfr
set_option maxHeartbeats 4000000 in
set_option maxRecDepth 100000 in
theorem l_X4_digest_L65 {p : Program} {l : Launch} {e : Env} {s : State} {m : MethodId} {args : Array Value} {below : List Frame} {meth : Method} {c : Code} {Q : State → Prop} {g : a_G} (F : Nat) {h : List va_E}  : ∀ (n : Nat) (v1_65 : Int32) (M_65 : d_M) (o : Int32 × d_M), f_X4_digest_L65 F  n v1_65 M_65 = some o → (∀ e9 : Int32 × d_M, o = e9 → ∀ h1, d_mod h1 e9.2 → d_frm 55 6 h h1 → a_W p l e (a_rm 7 154) s m args below meth c Q RX4 cX4_digest 3 g 0 0 none 123 [(0, .ref 55)] [] h1) → ∀ h1, d_mod h1 M_65 → d_frm 55 6 h h1 → a_W p l e (a_rm 7 154) s m args below meth c Q RX4 cX4_digest 3 g 0 0 none 65 [(0, .ref 55), (1, .int v1_65)] [] h1 := by
  intro n
  induction n with
  | zero => intro v1_65 M_65 o hf; exact nomatch (show (none : Option (Int32 × d_M)) = some o from hf)
  | succ n ih =>
    intro v1_65 M_65 o hf hX0 h1 hz hfr
    rw [f_X4_digest_L65] at hf
    refine a_iload_n (pc' := 66) 1 dX4_digest_65 rfl rfl rfl ?_
    refine a_bipush (pc' := 68) (v := (24 : Int32)) dX4_digest_66 rfl (by decide) ?_
    refine a_icmp_gt (pc' := 71) 123 dX4_digest_68 (by decide) rfl (fun k66001 => ?_) (fun k66001 => ?_)
    · replace hf := (if_pos k66001).symm.trans hf
      cases hf
      refine a_sub [0] rfl ?_
      exact hX0 _ rfl _ hz hfr
    · replace hf := (if_neg k66001).symm.trans hf
      refine a_iconst (pc' := 72) (v := (0 : Int32)) dX4_digest_71 rfl (by decide) ?_
      refine a_istore_n (pc' := 73) (ls' := [(2, .int ((0 : Int32))), (0, .ref 55), (1, .int v1_65)]) dX4_digest_72 rfl (by decide) rfl rfl ?_
      obtain ⟨o66002, e66003, hf⟩ := Option.bind_eq_some_iff.mp hf
      refine a_sub [1, 2, 0] rfl ?_
      refine l_X4_digest_L73 F v1_65  F _ _ o66002 e66003 (fun e9 he9 h66004 hz hfr => ?_) _ hz hfr
      subst he9
      refine a_aload_n (pc' := 96) 0 dX4_digest_95 rfl rfl rfl ?_
      refine a_aload_n (pc' := 97) 0 dX4_digest_96 rfl rfl rfl ?_
      refine a_iload_n (pc' := 98) 1 dX4_digest_97 rfl rfl rfl ?_
      refine a_iconst (pc' := 99) (v := (0 : Int32)) dX4_digest_98 rfl (by decide) ?_
      obtain ⟨x66006, e66005, hf⟩ := Option.bind_eq_some_iff.mp hf
      refine k_X4_161 (pc' := 102) (c_X4_toTopNow l g F hz e66005) ⟨Nat.le_of_ble_eq_true rfl, Nat.le_of_ble_eq_true rfl⟩ hz.1 (Nat.le_of_ble_eq_true rfl) dX4_digest_99 rfl ?_
      refine a_i2l (pc' := 103) dX4_digest_102 rfl ?_
      obtain ⟨x66008, e66007, hf⟩ := Option.bind_eq_some_iff.mp hf
      refine k_X4_200 (pc' := 106) (c_X4_mix l g F hz e66007) ⟨Nat.le_of_ble_eq_true rfl, Nat.le_of_ble_eq_true rfl⟩ hz.1 (Nat.le_of_ble_eq_true rfl) dX4_digest_103 rfl (fun h66009 hq => ?_)
      obtain ⟨hz1, hfr1⟩ := hq
      obtain ⟨M66010, hf, hz⟩ := f_let_x (P := fun w => d_mod h66009 w) hf hz1
      replace hfr := d_frm.tr hfr hfr1 (by omega)
      refine a_aload_n (pc' := 107) 0 dX4_digest_106 rfl rfl rfl ?_
      refine a_aload_n (pc' := 108) 0 dX4_digest_107 rfl rfl rfl ?_
      refine a_iload_n (pc' := 109) 1 dX4_digest_108 rfl rfl rfl ?_
      refine a_iconst (pc' := 110) (v := (1 : Int32)) dX4_digest_109 rfl (by decide) ?_
      obtain ⟨x66012, e66011, hf⟩ := Option.bind_eq_some_iff.mp hf
      refine k_X4_161 (pc' := 113) (c_X4_toTopNow l g F hz e66011) ⟨Nat.le_of_ble_eq_true rfl, Nat.le_of_ble_eq_true rfl⟩ hz.1 (Nat.le_of_ble_eq_true rfl) dX4_digest_110 rfl ?_
      refine a_i2l (pc' := 114) dX4_digest_113 rfl ?_
      obtain ⟨x66014, e66013, hf⟩ := Option.bind_eq_some_iff.mp hf
      refine k_X4_200 (pc' := 117) (c_X4_mix l g F hz e66013) ⟨Nat.le_of_ble_eq_true rfl, Nat.le_of_ble_eq_true rfl⟩ hz.1 (Nat.le_of_ble_eq_true rfl) dX4_digest_114 rfl (fun h66015 hq => ?_)
      obtain ⟨hz1, hfr1⟩ := hq
      obtain ⟨M66016, hf, hz⟩ := f_let_x (P := fun w => d_mod h66015 w) hf hz1
      replace hfr := d_frm.tr hfr hfr1 (by omega)
      refine a_iinc (pc' := 120) (v := v1_65 + (1 : Int32)) (ls' := [(1, .int (v1_65 + (1 : Int32))), (0, .ref 55)]) 1 dX4_digest_117 rfl (by rfl) (by decide) rfl rfl ?_
      refine a_goto 65 dX4_digest_120 (by decide) ?_
      refine a_sub [1, 0] rfl ?_
      exact ih _ _ _ hf hX0 _ hz hfr
set_option maxHeartbeats 4000000 in
set_option maxRecDepth 100000 in
theorem l_X4_digest_L137 {p : Program} {l : Launch} {e : Env} {s : State} {m : MethodId} {args : Array Value} {below : List Frame} {meth : Method} {c : Code} {Q : State → Prop} {g : a_G} (F : Nat) {h : List va_E} (v1_125 : Int32) : ∀ (n : Nat) (v2_137 : Int32) (M_137 : d_M) (o : Int32 × d_M), f_X4_digest_L137 F v1_125 n v2_137 M_137 = some o → (∀ e9 : Int32 × d_M, o = e9 → ∀ h1, d_mod h1 e9.2 → d_frm 55 6 h h1 → a_W p l e (a_rm 7 154) s m args below meth c Q RX4 cX4_digest 3 g 0 0 none 160 [(0, .ref 55), (1, .int v1_125)] [] h1) → ∀ h1, d_mod h1 M_137 → d_frm 55 6 h h1 → a_W p l e (a_rm 7 154) s m args below meth c Q RX4 cX4_digest 3 g 0 0 none 137 [(0, .ref 55), (1, .int v1_125), (2, .int v2_137)] [] h1 := by
  intro n
  induction n with
  | zero => intro v2_137 M_137 o hf; exact nomatch (show (none : Option (Int32 × d_M)) = some o from hf)
  | succ n ih =>
    intro v2_137 M_137 o hf hX0 h1 hz hfr
    rw [f_X4_digest_L137] at hf
    refine a_iload_n (pc' := 138) 2 dX4_digest_137 rfl rfl rfl ?_
    refine a_bipush (pc' := 140) (v := (7 : Int32)) dX4_digest_138 rfl (by decide) ?_
    refine a_icmp_ge (pc' := 143) 160 dX4_digest_140 (by decide) rfl (fun k138001 => ?_) (fun k138001 => ?_)
    · replace hf := (if_pos k138001).symm.trans hf
      cases hf
      refine a_sub [0, 1] rfl ?_
      exact hX0 _ rfl _ hz hfr
    · replace hf := (if_neg k138001).symm.trans hf
      refine a_aload_n (pc' := 144) 0 dX4_digest_143 rfl rfl rfl ?_
      refine a_aload_n (pc' := 145) 0 dX4_digest_144 rfl rfl rfl ?_
      refine a_iload_n (pc' := 146) 1 dX4_digest_145 rfl rfl rfl ?_
      refine a_iload_n (pc' := 147) 2 dX4_digest_146 rfl rfl rfl ?_
      obtain ⟨x138003, e138002, hf⟩ := Option.bind_eq_some_iff.mp hf
      refine k_X4_149 (pc' := 150) (c_X4_courseNow l g F hz e138002) ⟨Nat.le_of_ble_eq_true rfl, Nat.le_of_ble_eq_true rfl⟩ hz.1 (Nat.le_of_ble_eq_true rfl) dX4_digest_147 rfl ?_
      refine a_i2l (pc' := 151) dX4_digest_150 rfl ?_
      obtain ⟨x138005, e138004, hf⟩ := Option.bind_eq_some_iff.mp hf
      refine k_X4_200 (pc' := 154) (c_X4_mix l g F hz e138004) ⟨Nat.le_of_ble_eq_true rfl, Nat.le_of_ble_eq_true rfl⟩ hz.1 (Nat.le_of_ble_eq_true rfl) dX4_digest_151 rfl (fun h138006 hq => ?_)
      obtain ⟨hz1, hfr1⟩ := hq
      obtain ⟨M138007, hf, hz⟩ := f_let_x (P := fun w => d_mod h138006 w) hf hz1
      replace hfr := d_frm.tr hfr hfr1 (by omega)
      refine a_iinc (pc' := 157) (v := v2_137 + (1 : Int32)) (ls' := [(2, .int (v2_137 + (1 : Int32))), (0, .ref 55), (1, .int v1_125)]) 2 dX4_digest_154 rfl (by rfl) (by decide) rfl rfl ?_
      refine a_goto 137 dX4_digest_157 (by decide) ?_
      refine a_sub [1, 2, 0] rfl ?_
      exact ih _ _ _ hf hX0 _ hz hfr
set_option maxHeartbeats 4000000 in
set_option maxRecDepth 100000 in
theorem l_X4_digest_L162 {p : Program} {l : Launch} {e : Env} {s : State} {m : MethodId} {args : Array Value} {below : List Frame} {meth : Method} {c : Code} {Q : State → Prop} {g : a_G} (F : Nat) {h : List va_E} (v1_125 : Int32) : ∀ (n : Nat) (v2_162 : Int32) (M_162 : d_M) (o : Int32 × d_M), f_X4_digest_L162 F v1_125 n v2_162 M_162 = some o → (∀ e9 : Int32 × d_M, o = e9 → ∀ h1, d_mod h1 e9.2 → d_frm 55 6 h h1 → a_W p l e (a_rm 7 154) s m args below meth c Q RX4 cX4_digest 3 g 0 0 none 195 [(0, .ref 55), (1, .int v1_125)] [] h1) → ∀ h1, d_mod h1 M_162 → d_frm 55 6 h h1 → a_W p l e (a_rm 7 154) s m args below meth c Q RX4 cX4_digest 3 g 0 0 none 162 [(0, .ref 55), (1, .int v1_125), (2, .int v2_162)] [] h1 := by
  intro n
  induction n with
  | zero => intro v2_162 M_162 o hf; exact nomatch (show (none : Option (Int32 × d_M)) = some o from hf)
  | succ n ih =>
    intro v2_162 M_162 o hf hX0 h1 hz hfr
    rw [f_X4_digest_L162] at hf
    refine a_iload_n (pc' := 163) 2 dX4_digest_162 rfl rfl rfl ?_
    refine a_aload_n (pc' := 164) 0 dX4_digest_163 rfl rfl rfl ?_
    refine a_iload_n (pc' := 165) 1 dX4_digest_164 rfl rfl rfl ?_
    obtain ⟨x163002, e163001, hf⟩ := Option.bind_eq_some_iff.mp hf
    refine k_X4_36 (pc' := 168) (c_X4_placesOf l g F hz e163001) ⟨Nat.le_of_ble_eq_true rfl, Nat.le_of_ble_eq_true rfl⟩ hz.1 (Nat.le_of_ble_eq_true rfl) dX4_digest_165 rfl ?_
    refine a_icmp_ge (pc' := 171) 195 dX4_digest_168 (by decide) rfl (fun k163003 => ?_) (fun k163003 => ?_)
    · replace hf := (if_pos k163003).symm.trans hf
      cases hf
      refine a_sub [0, 1] rfl ?_
      exact hX0 _ rfl _ hz hfr
    · replace hf := (if_neg k163003).symm.trans hf
      refine a_aload_n (pc' := 172) 0 dX4_digest_171 rfl rfl rfl ?_
      refine a_aload_n (pc' := 173) 0 dX4_digest_172 rfl rfl rfl ?_
      refine a_iload_n (pc' := 174) 1 dX4_digest_173 rfl rfl rfl ?_
      refine a_iload_n (pc' := 175) 2 dX4_digest_174 rfl rfl rfl ?_
      obtain ⟨x163005, e163004, hf⟩ := Option.bind_eq_some_iff.mp hf
      refine k_X4_40 (pc' := 178) (c_X4_isThere l g F hz e163004) ⟨Nat.le_of_ble_eq_true rfl, Nat.le_of_ble_eq_true rfl⟩ hz.1 (Nat.le_of_ble_eq_true rfl) dX4_digest_175 rfl ?_
      refine a_if_eq (pc' := 181) 185 dX4_digest_178 (by decide) rfl (fun k163006 => ?_) (fun k163006 => ?_)
      · replace hf := (if_pos k163006).symm.trans hf
        refine a_lconst (pc' := 186) (v := (0 : Int64)) dX4_digest_185 rfl (by decide) ?_
        obtain ⟨x163008, e163007, hf⟩ := Option.bind_eq_some_iff.mp hf
        refine k_X4_200 (pc' := 189) (c_X4_mix l g F hz e163007) ⟨Nat.le_of_ble_eq_true rfl, Nat.le_of_ble_eq_true rfl⟩ hz.1 (Nat.le_of_ble_eq_true rfl) dX4_digest_186 rfl (fun h163009 hq => ?_)
        obtain ⟨hz1, hfr1⟩ := hq
        obtain ⟨M163010, hf, hz⟩ := f_let_x (P := fun w => d_mod h163009 w) hf hz1
        replace hfr := d_frm.tr hfr hfr1 (by omega)
        refine a_iinc (pc' := 192) (v := v2_162 + (1 : Int32)) (ls' := [(2, .int (v2_162 + (1 : Int32))), (0, .ref 55), (1, .int v1_125)]) 2 dX4_digest_189 rfl (by rfl) (by decide) rfl rfl ?_
        refine a_goto 162 dX4_digest_192 (by decide) ?_
        refine a_sub [1, 2, 0] rfl ?_
        exact ih _ _ _ hf hX0 _ hz hfr
      · replace hf := (if_neg k163006).symm.trans hf
        refine a_lconst (pc' := 182) (v := (1 : Int64)) dX4_digest_181 rfl (by decide) ?_
        refine a_goto 186 dX4_digest_182 (by decide) ?_
        obtain ⟨x163012, e163011, hf⟩ := Option.bind_eq_some_iff.mp hf
        refine k_X4_200 (pc' := 189) (c_X4_mix l g F hz e163011) ⟨Nat.le_of_ble_eq_true rfl, Nat.le_of_ble_eq_true rfl⟩ hz.1 (Nat.le_of_ble_eq_true rfl) dX4_digest_186 rfl (fun h163013 hq => ?_)
        obtain ⟨hz1, hfr1⟩ := hq
        obtain ⟨M163014, hf, hz⟩ := f_let_x (P := fun w => d_mod h163013 w) hf hz1
        replace hfr := d_frm.tr hfr hfr1 (by omega)
        refine a_iinc (pc' := 192) (v := v2_162 + (1 : Int32)) (ls' := [(2, .int (v2_162 + (1 : Int32))), (0, .ref 55), (1, .int v1_125)]) 2 dX4_digest_189 rfl (by rfl) (by decide) rfl rfl ?_
        refine a_goto 162 dX4_digest_192 (by decide) ?_
        refine a_sub [1, 2, 0] rfl ?_
        exact ih _ _ _ hf hX0 _ hz hfr
set_option maxHeartbeats 4000000 in
set_option maxRecDepth 100000 in
theorem l_X4_digest_L125 {p : Program} {l : Launch} {e : Env} {s : State} {m : MethodId} {args : Array Value} {below : List Frame} {meth : Method} {c : Code} {Q : State → Prop} {g : a_G} (F : Nat) {h : List va_E}  : ∀ (n : Nat) (v1_125 : Int32) (M_125 : d_M) (o : Int32 × d_M), f_X4_digest_L125 F  n v1_125 M_125 = some o → (∀ e9 : Int32 × d_M, o = e9 → ∀ h1, d_mod h1 e9.2 → d_frm 55 6 h h1 → a_W p l e (a_rm 7 154) s m args below meth c Q RX4 cX4_digest 3 g 0 0 none 201 [(0, .ref 55)] [] h1) → ∀ h1, d_mod h1 M_125 → d_frm 55 6 h h1 → a_W p l e (a_rm 7 154) s m args below meth c Q RX4 cX4_digest 3 g 0 0 none 125 [(0, .ref 55), (1, .int v1_125)] [] h1 := by
  intro n
  induction n with
  | zero => intro v1_125 M_125 o hf; exact nomatch (show (none : Option (Int32 × d_M)) = some o from hf)
  | succ n ih =>
    intro v1_125 M_125 o hf hX0 h1 hz hfr
    rw [f_X4_digest_L125] at hf
    refine a_iload_n (pc' := 126) 1 dX4_digest_125 rfl rfl rfl ?_
    refine a_aload_n (pc' := 127) 0 dX4_digest_126 rfl rfl rfl ?_
    refine g_X4_7 (pc' := 130) hz.1 rfl dX4_digest_127 rfl ?_
    refine a_iconst (pc' := 131) (v := (2 : Int32)) dX4_digest_130 rfl (by decide) ?_
    obtain ⟨hg, hf⟩ := f_grd_x hf
    refine b_iald (pc' := 132) hz.2.1 hg dX4_digest_131 rfl ?_
    refine a_icmp_ge (pc' := 135) 201 dX4_digest_132 (by decide) rfl (fun k126001 => ?_) (fun k126001 => ?_)
    · replace hf := (if_pos k126001).symm.trans hf
      cases hf
      refine a_sub [0] rfl ?_
      exact hX0 _ rfl _ hz hfr
    · replace hf := (if_neg k126001).symm.trans hf
      refine a_iconst (pc' := 136) (v := (0 : Int32)) dX4_digest_135 rfl (by decide) ?_
      refine a_istore_n (pc' := 137) (ls' := [(2, .int ((0 : Int32))), (0, .ref 55), (1, .int v1_125)]) dX4_digest_136 rfl (by decide) rfl rfl ?_
      obtain ⟨o126002, e126003, hf⟩ := Option.bind_eq_some_iff.mp hf
      refine a_sub [1, 2, 0] rfl ?_
      refine l_X4_digest_L137 F v1_125  F _ _ o126002 e126003 (fun e9 he9 h126004 hz hfr => ?_) _ hz hfr
      subst he9
      refine a_iconst (pc' := 161) (v := (0 : Int32)) dX4_digest_160 rfl (by decide) ?_
      refine a_istore_n (pc' := 162) (ls' := [(2, .int ((0 : Int32))), (0, .ref 55), (1, .int v1_125)]) dX4_digest_161 rfl (by decide) rfl rfl ?_
      obtain ⟨o126005, e126006, hf⟩ := Option.bind_eq_some_iff.mp hf
      refine a_sub [1, 2, 0] rfl ?_
      refine l_X4_digest_L162 F v1_125  F _ _ o126005 e126006 (fun e9 he9 h126007 hz hfr => ?_) _ hz hfr
      subst he9
      refine a_iinc (pc' := 198) (v := v1_125 + (1 : Int32)) (ls' := [(1, .int (v1_125 + (1 : Int32))), (0, .ref 55)]) 1 dX4_digest_195 rfl (by rfl) (by decide) rfl rfl ?_
      refine a_goto 125 dX4_digest_198 (by decide) ?_
      refine a_sub [1, 0] rfl ?_
      exact ih _ _ _ hf hX0 _ hz hfr
set_option maxHeartbeats 4000000 in
set_option maxRecDepth 100000 in
theorem l_X4_digest_L203 {p : Program} {l : Launch} {e : Env} {s : State} {m : MethodId} {args : Array Value} {below : List Frame} {meth : Method} {c : Code} {Q : State → Prop} {g : a_G} (F : Nat) {h : List va_E}  : ∀ (n : Nat) (v1_203 : Int32) (M_203 : d_M) (o : Int32 × d_M), f_X4_digest_L203 F  n v1_203 M_203 = some o → (∀ e9 : Int32 × d_M, o = e9 → ∀ h1, d_mod h1 e9.2 → d_frm 55 6 h h1 → a_W p l e (a_rm 7 154) s m args below meth c Q RX4 cX4_digest 3 g 0 0 none 224 [(0, .ref 55)] [] h1) → ∀ h1, d_mod h1 M_203 → d_frm 55 6 h h1 → a_W p l e (a_rm 7 154) s m args below meth c Q RX4 cX4_digest 3 g 0 0 none 203 [(0, .ref 55), (1, .int v1_203)] [] h1 := by
  intro n
  induction n with
  | zero => intro v1_203 M_203 o hf; exact nomatch (show (none : Option (Int32 × d_M)) = some o from hf)
  | succ n ih =>
    intro v1_203 M_203 o hf hX0 h1 hz hfr
    rw [f_X4_digest_L203] at hf
    refine a_iload_n (pc' := 204) 1 dX4_digest_203 rfl rfl rfl ?_
    refine a_iconst (pc' := 205) (v := (4 : Int32)) dX4_digest_204 rfl (by decide) ?_
    refine a_icmp_ge (pc' := 208) 224 dX4_digest_205 (by decide) rfl (fun k204001 => ?_) (fun k204001 => ?_)
    · replace hf := (if_pos k204001).symm.trans hf
      cases hf
      refine a_sub [0] rfl ?_
      exact hX0 _ rfl _ hz hfr
    · replace hf := (if_neg k204001).symm.trans hf
      refine a_aload_n (pc' := 209) 0 dX4_digest_208 rfl rfl rfl ?_
      refine a_aload_n (pc' := 210) 0 dX4_digest_209 rfl rfl rfl ?_
      refine a_iload_n (pc' := 211) 1 dX4_digest_210 rfl rfl rfl ?_
      obtain ⟨x204003, e204002, hf⟩ := Option.bind_eq_some_iff.mp hf
      refine k_X4_179 (pc' := 214) (c_X4_reachNow l g F hz e204002) ⟨Nat.le_of_ble_eq_true rfl, Nat.le_of_ble_eq_true rfl⟩ hz.1 (Nat.le_of_ble_eq_true rfl) dX4_digest_211 rfl (fun h204004 hq => ?_)
      obtain ⟨hz1, hfr1⟩ := hq
      obtain ⟨M204005, hf, hz⟩ := f_let_x (P := fun w => d_mod h204004 w) hf hz1
      replace hfr := d_frm.tr hfr hfr1 (by omega)
      refine a_i2l (pc' := 215) dX4_digest_214 rfl ?_
      obtain ⟨x204007, e204006, hf⟩ := Option.bind_eq_some_iff.mp hf
      refine k_X4_200 (pc' := 218) (c_X4_mix l g F hz e204006) ⟨Nat.le_of_ble_eq_true rfl, Nat.le_of_ble_eq_true rfl⟩ hz.1 (Nat.le_of_ble_eq_true rfl) dX4_digest_215 rfl (fun h204008 hq => ?_)
      obtain ⟨hz1, hfr1⟩ := hq
      obtain ⟨M204009, hf, hz⟩ := f_let_x (P := fun w => d_mod h204008 w) hf hz1
      replace hfr := d_frm.tr hfr hfr1 (by omega)
      refine a_iinc (pc' := 221) (v := v1_203 + (1 : Int32)) (ls' := [(1, .int (v1_203 + (1 : Int32))), (0, .ref 55)]) 1 dX4_digest_218 rfl (by rfl) (by decide) rfl rfl ?_
      refine a_goto 203 dX4_digest_221 (by decide) ?_
      refine a_sub [1, 0] rfl ?_
      exact ih _ _ _ hf hX0 _ hz hfr
set_option maxHeartbeats 4000000 in
set_option maxRecDepth 100000 in
theorem l_X4_digest_L264 {p : Program} {l : Launch} {e : Env} {s : State} {m : MethodId} {args : Array Value} {below : List Frame} {meth : Method} {c : Code} {Q : State → Prop} {g : a_G} (F : Nat) {h : List va_E}  : ∀ (n : Nat) (v1_264 : Int32) (M_264 : d_M) (o : Int32 × d_M), f_X4_digest_L264 F  n v1_264 M_264 = some o → (∀ e9 : Int32 × d_M, o = e9 → ∀ h1, d_mod h1 e9.2 → d_frm 55 6 h h1 → a_W p l e (a_rm 7 154) s m args below meth c Q RX4 cX4_digest 3 g 0 0 none 289 [(0, .ref 55)] [] h1) → ∀ h1, d_mod h1 M_264 → d_frm 55 6 h h1 → a_W p l e (a_rm 7 154) s m args below meth c Q RX4 cX4_digest 3 g 0 0 none 264 [(0, .ref 55), (1, .int v1_264)] [] h1 := by
  intro n
  induction n with
  | zero => intro v1_264 M_264 o hf; exact nomatch (show (none : Option (Int32 × d_M)) = some o from hf)
  | succ n ih =>
    intro v1_264 M_264 o hf hX0 h1 hz hfr
    rw [f_X4_digest_L264] at hf
    refine a_iload_n (pc' := 265) 1 dX4_digest_264 rfl rfl rfl ?_
    refine a_aload_n (pc' := 266) 0 dX4_digest_265 rfl rfl rfl ?_
    refine g_X4_126 (pc' := 269) hz.1 rfl dX4_digest_266 rfl ?_
    refine a_icmp_ge (pc' := 272) 289 dX4_digest_269 (by decide) rfl (fun k265001 => ?_) (fun k265001 => ?_)
    · replace hf := (if_pos k265001).symm.trans hf
      cases hf
      refine a_sub [0] rfl ?_
      exact hX0 _ rfl _ hz hfr
    · replace hf := (if_neg k265001).symm.trans hf
      refine a_aload_n (pc' := 273) 0 dX4_digest_272 rfl rfl rfl ?_
      refine a_aload_n (pc' := 274) 0 dX4_digest_273 rfl rfl rfl ?_
      refine g_X4_19 (pc' := 277) hz.1 rfl dX4_digest_274 rfl ?_
      refine a_iload_n (pc' := 278) 1 dX4_digest_277 rfl rfl rfl ?_
      obtain ⟨hg, hf⟩ := f_grd_x hf
      refine b_iald (pc' := 279) hz.2.2.2.2.1 hg dX4_digest_278 rfl ?_
      refine a_i2l (pc' := 280) dX4_digest_279 rfl ?_
      obtain ⟨x265003, e265002, hf⟩ := Option.bind_eq_some_iff.mp hf
      refine k_X4_200 (pc' := 283) (c_X4_mix l g F hz e265002) ⟨Nat.le_of_ble_eq_true rfl, Nat.le_of_ble_eq_true rfl⟩ hz.1 (Nat.le_of_ble_eq_true rfl) dX4_digest_280 rfl (fun h265004 hq => ?_)
      obtain ⟨hz1, hfr1⟩ := hq
      obtain ⟨M265005, hf, hz⟩ := f_let_x (P := fun w => d_mod h265004 w) hf hz1
      replace hfr := d_frm.tr hfr hfr1 (by omega)
      refine a_iinc (pc' := 286) (v := v1_264 + (1 : Int32)) (ls' := [(1, .int (v1_264 + (1 : Int32))), (0, .ref 55)]) 1 dX4_digest_283 rfl (by rfl) (by decide) rfl rfl ?_
      refine a_goto 264 dX4_digest_286 (by decide) ?_
      refine a_sub [1, 0] rfl ?_
      exact ih _ _ _ hf hX0 _ hz hfr
set_option maxHeartbeats 4000000 in
set_option maxRecDepth 100000 in
theorem c_X4_digest (l : Launch) (g : a_G) (F : Nat) {h : List va_E} {M : d_M} (hz : d_mod h M) {out : Int64 × d_M} (hf : f_X4_digest F M = some out) : a_CT l g yX4_digest cX4_digest 3 (some .long) (a_rm 7 154) [.ref 55] h none none (fun r h' => r = some (.long out.1) ∧ d_mod h' out.2 ∧ d_frm 55 6 h h') := by
  refine a_enter ⟨by decide, rfl, Nat.le_of_ble_eq_true rfl⟩ (fun p e s m args below meth c hr hin => ?_)
  unfold f_X4_digest at hf
  have hfr : d_frm 55 6 h h := d_frm.rf
  refine a_sub (ls' := [(0, .ref 55)]) [0] rfl ?_
  refine a_aload_n (pc' := 1) 0 dX4_digest_0 rfl rfl rfl ?_
  refine a_iconst (pc' := 2) (v := (0 : Int32)) dX4_digest_1 rfl (by decide) ?_
  refine pt_X4_25 (pc' := 5) hz dX4_digest_2 rfl (fun h1 hz1 hfr1 => ?_)
  obtain ⟨M2, hf, hz⟩ := f_let_x (P := fun w => d_mod h1 w) hf hz1
  replace hfr := d_frm.tr hfr hfr1 (by omega)
  refine a_aload_n (pc' := 6) 0 dX4_digest_5 rfl rfl rfl ?_
  refine a_ldc2 (pc' := 9) (v := (2273 : Int64)) (a_in5 89 rfl rfl) dX4_digest_6 rfl ?_
  refine pt_X4_194 (pc' := 12) hz dX4_digest_9 rfl (fun h3 hz1 hfr1 => ?_)
  obtain ⟨M4, hf, hz⟩ := f_let_x (P := fun w => d_mod h3 w) hf hz1
  replace hfr := d_frm.tr hfr hfr1 (by omega)
  refine a_iconst (pc' := 13) (v := (0 : Int32)) dX4_digest_12 rfl (by decide) ?_
  refine a_istore_n (pc' := 14) (ls' := [(1, .int ((0 : Int32))), (0, .ref 55)]) dX4_digest_13 rfl (by decide) rfl rfl ?_
  obtain ⟨o5, e6, hf⟩ := Option.bind_eq_some_iff.mp hf
  refine a_sub [1, 0] rfl ?_
  refine l_X4_digest_L14 F   F _ _ o5 e6 (fun e9 he9 h7 hz hfr => ?_) _ hz hfr
  subst he9
  refine a_iconst (pc' := 37) (v := (0 : Int32)) dX4_digest_36 rfl (by decide) ?_
  refine a_istore_n (pc' := 38) (ls' := [(1, .int ((0 : Int32))), (0, .ref 55)]) dX4_digest_37 rfl (by decide) rfl rfl ?_
  obtain ⟨o8, e9, hf⟩ := Option.bind_eq_some_iff.mp hf
  refine a_sub [1, 0] rfl ?_
  refine l_X4_digest_L38 F   F _ _ o8 e9 (fun e9 he9 h10 hz hfr => ?_) _ hz hfr
  subst he9
  refine a_bipush (pc' := 64) (v := (8 : Int32)) dX4_digest_62 rfl (by decide) ?_
  refine a_istore_n (pc' := 65) (ls' := [(1, .int ((8 : Int32))), (0, .ref 55)]) dX4_digest_64 rfl (by decide) rfl rfl ?_
  obtain ⟨o11, e12, hf⟩ := Option.bind_eq_some_iff.mp hf
  refine a_sub [1, 0] rfl ?_
  refine l_X4_digest_L65 F   F _ _ o11 e12 (fun e9 he9 h13 hz hfr => ?_) _ hz hfr
  subst he9
  refine a_iconst (pc' := 124) (v := (0 : Int32)) dX4_digest_123 rfl (by decide) ?_
  refine a_istore_n (pc' := 125) (ls' := [(1, .int ((0 : Int32))), (0, .ref 55)]) dX4_digest_124 rfl (by decide) rfl rfl ?_
  obtain ⟨o14, e15, hf⟩ := Option.bind_eq_some_iff.mp hf
  refine a_sub [1, 0] rfl ?_
  refine l_X4_digest_L125 F   F _ _ o14 e15 (fun e9 he9 h16 hz hfr => ?_) _ hz hfr
  subst he9
  refine a_iconst (pc' := 202) (v := (0 : Int32)) dX4_digest_201 rfl (by decide) ?_
  refine a_istore_n (pc' := 203) (ls' := [(1, .int ((0 : Int32))), (0, .ref 55)]) dX4_digest_202 rfl (by decide) rfl rfl ?_
  obtain ⟨o17, e18, hf⟩ := Option.bind_eq_some_iff.mp hf
  refine a_sub [1, 0] rfl ?_
  refine l_X4_digest_L203 F   F _ _ o17 e18 (fun e9 he9 h19 hz hfr => ?_) _ hz hfr
  subst he9
  refine a_aload_n (pc' := 225) 0 dX4_digest_224 rfl rfl rfl ?_
  refine a_aload_n (pc' := 226) 0 dX4_digest_225 rfl rfl rfl ?_
  obtain ⟨x21, e20, hf⟩ := Option.bind_eq_some_iff.mp hf
  refine k_X4_182 (pc' := 229) (c_X4_dryNow l g F hz e20) ⟨Nat.le_of_ble_eq_true rfl, Nat.le_of_ble_eq_true rfl⟩ hz.1 (Nat.le_of_ble_eq_true rfl) dX4_digest_226 rfl (fun h22 hq => ?_)
  obtain ⟨hz1, hfr1⟩ := hq
  obtain ⟨M23, hf, hz⟩ := f_let_x (P := fun w => d_mod h22 w) hf hz1
  replace hfr := d_frm.tr hfr hfr1 (by omega)
  refine a_i2l (pc' := 230) dX4_digest_229 rfl ?_
  obtain ⟨x25, e24, hf⟩ := Option.bind_eq_some_iff.mp hf
  refine k_X4_200 (pc' := 233) (c_X4_mix l g F hz e24) ⟨Nat.le_of_ble_eq_true rfl, Nat.le_of_ble_eq_true rfl⟩ hz.1 (Nat.le_of_ble_eq_true rfl) dX4_digest_230 rfl (fun h26 hq => ?_)
  obtain ⟨hz1, hfr1⟩ := hq
  obtain ⟨M27, hf, hz⟩ := f_let_x (P := fun w => d_mod h26 w) hf hz1
  replace hfr := d_frm.tr hfr hfr1 (by omega)
  refine a_aload_n (pc' := 234) 0 dX4_digest_233 rfl rfl rfl ?_
  refine a_aload_n (pc' := 235) 0 dX4_digest_234 rfl rfl rfl ?_
  obtain ⟨x29, e28, hf⟩ := Option.bind_eq_some_iff.mp hf
  refine k_X4_185 (pc' := 238) (c_X4_bestNow l g F hz e28) ⟨Nat.le_of_ble_eq_true rfl, Nat.le_of_ble_eq_true rfl⟩ hz.1 (Nat.le_of_ble_eq_true rfl) dX4_digest_235 rfl ?_
  refine a_i2l (pc' := 239) dX4_digest_238 rfl ?_
  obtain ⟨x31, e30, hf⟩ := Option.bind_eq_some_iff.mp hf
  refine k_X4_200 (pc' := 242) (c_X4_mix l g F hz e30) ⟨Nat.le_of_ble_eq_true rfl, Nat.le_of_ble_eq_true rfl⟩ hz.1 (Nat.le_of_ble_eq_true rfl) dX4_digest_239 rfl (fun h32 hq => ?_)
  obtain ⟨hz1, hfr1⟩ := hq
  obtain ⟨M33, hf, hz⟩ := f_let_x (P := fun w => d_mod h32 w) hf hz1
  replace hfr := d_frm.tr hfr hfr1 (by omega)
  refine a_aload_n (pc' := 243) 0 dX4_digest_242 rfl rfl rfl ?_
  refine a_aload_n (pc' := 244) 0 dX4_digest_243 rfl rfl rfl ?_
  obtain ⟨x35, e34, hf⟩ := Option.bind_eq_some_iff.mp hf
  refine k_X4_188 (pc' := 247) (c_X4_meanNow l g F hz e34) ⟨Nat.le_of_ble_eq_true rfl, Nat.le_of_ble_eq_true rfl⟩ hz.1 (Nat.le_of_ble_eq_true rfl) dX4_digest_244 rfl ?_
  obtain ⟨x37, e36, hf⟩ := Option.bind_eq_some_iff.mp hf
  refine k_X4_204 (pc' := 250) (c_Jxe99ae_doubleToLongBits l g F e36) ⟨Nat.le_of_ble_eq_true rfl, Nat.le_of_ble_eq_true rfl⟩ (Nat.le_of_ble_eq_true rfl) dX4_digest_247 rfl ?_
  obtain ⟨x39, e38, hf⟩ := Option.bind_eq_some_iff.mp hf
  refine k_X4_200 (pc' := 253) (c_X4_mix l g F hz e38) ⟨Nat.le_of_ble_eq_true rfl, Nat.le_of_ble_eq_true rfl⟩ hz.1 (Nat.le_of_ble_eq_true rfl) dX4_digest_250 rfl (fun h40 hq => ?_)
  obtain ⟨hz1, hfr1⟩ := hq
  obtain ⟨M41, hf, hz⟩ := f_let_x (P := fun w => d_mod h40 w) hf hz1
  replace hfr := d_frm.tr hfr hfr1 (by omega)
  refine a_aload_n (pc' := 254) 0 dX4_digest_253 rfl rfl rfl ?_
  refine a_aload_n (pc' := 255) 0 dX4_digest_254 rfl rfl rfl ?_
  refine g_X4_126 (pc' := 258) hz.1 rfl dX4_digest_255 rfl ?_
  refine a_i2l (pc' := 259) dX4_digest_258 rfl ?_
  obtain ⟨x43, e42, hf⟩ := Option.bind_eq_some_iff.mp hf
  refine k_X4_200 (pc' := 262) (c_X4_mix l g F hz e42) ⟨Nat.le_of_ble_eq_true rfl, Nat.le_of_ble_eq_true rfl⟩ hz.1 (Nat.le_of_ble_eq_true rfl) dX4_digest_259 rfl (fun h44 hq => ?_)
  obtain ⟨hz1, hfr1⟩ := hq
  obtain ⟨M45, hf, hz⟩ := f_let_x (P := fun w => d_mod h44 w) hf hz1
  replace hfr := d_frm.tr hfr hfr1 (by omega)
  refine a_iconst (pc' := 263) (v := (0 : Int32)) dX4_digest_262 rfl (by decide) ?_
  refine a_istore_n (pc' := 264) (ls' := [(1, .int ((0 : Int32))), (0, .ref 55)]) dX4_digest_263 rfl (by decide) rfl rfl ?_
  obtain ⟨o46, e47, hf⟩ := Option.bind_eq_some_iff.mp hf
  refine a_sub [1, 0] rfl ?_
  refine l_X4_digest_L264 F   F _ _ o46 e47 (fun e9 he9 h48 hz hfr => ?_) _ hz hfr
  subst he9
  refine a_aload_n (pc' := 290) 0 dX4_digest_289 rfl rfl rfl ?_
  refine g_X4_194 (pc' := 293) hz.1 rfl dX4_digest_290 rfl ?_
  cases hf
  exact a_lret hr ⟨rfl, hz, hfr⟩ dX4_digest_293
