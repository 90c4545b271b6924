/-! SlateRoofModel.pass(I)I -/
set_option maxRecDepth 100000 in
def f_X4_pass (F : Nat) (M : d_M) (a1 : Int32) : Option (Int32 × d_M) := f_let (ms_thrown M ((0 : Int32))) fun M2 => (f_X4_within F a1 ((0 : Int32)) ((2 : Int32))).bind fun x4 => (if x4 = 0 then (f_X4_fails F M2 ((1 : Int32))).bind fun x20 => f_let x20.2 fun M22 => some ((x20.1, M22)) else f_grd ((6 : Int32)) 294 ((if ((m_z M2) ((6 : Int32)).toNatClampNeg) < ((1000 : Int32)) then (f_X4_save F M2).bind fun x8 => f_let x8 fun M10 => (f_X4_goDay F M10 a1).bind fun x12 => f_let x12.2 fun M14 => some ((x12.1, M14)) else (f_X4_fails F M2 ((2 : Int32))).bind fun x16 => f_let x16.2 fun M18 => some ((x16.1, M18)))))
set_option maxHeartbeats 4000000 in
set_option maxRecDepth 100000 in
theorem c_X4_pass (l : Launch) (g : a_G) (F : Nat) {h : List va_E} {M : d_M} {a1 : Int32} (hz : d_mod h M) {out : Int32 × d_M} (hf : f_X4_pass F M a1 = some out) : a_CT l g yX4_pass cX4_pass 2 (some .int) (a_rm 5 110) [.ref 55, .int a1] h none none (fun r h' => r = some (.int out.1) ∧ d_mod h' out.2 ∧ d_frm 55 6 h h') := by
  refine a_enter ⟨by decide, rfl, Nat.le_of_ble_eq_true rfl⟩ (fun p e s m args below meth c hr hin => ?_)
  unfold f_X4_pass at hf
  have hfr : d_frm 55 6 h h := d_frm.rf
  refine a_sub (ls' := [(0, .ref 55), (1, .int a1)]) [0, 1] rfl ?_
  refine a_aload_n (pc' := 1) 0 dX4_pass_0 rfl rfl rfl ?_
  refine a_iconst (pc' := 2) (v := (0 : Int32)) dX4_pass_1 rfl (by decide) ?_
  refine pt_X4_25 (pc' := 5) hz dX4_pass_2 rfl (fun h1 hz1 hfr1 => ?_)
  obtain ⟨M2, hf, hz⟩ := f_let_x (P := fun w => d_mod h1 w) hf hz1
  replace hfr := d_frm.tr hfr hfr1 (by omega)
  refine a_iload_n (pc' := 6) 1 dX4_pass_5 rfl rfl rfl ?_
  refine a_iconst (pc' := 7) (v := (0 : Int32)) dX4_pass_6 rfl (by decide) ?_
  refine a_iconst (pc' := 8) (v := (2 : Int32)) dX4_pass_7 rfl (by decide) ?_
  obtain ⟨x4, e3, hf⟩ := Option.bind_eq_some_iff.mp hf
  refine k_X4_29 (pc' := 11) (c_X4_within l g F e3) ⟨Nat.le_of_ble_eq_true rfl, Nat.le_of_ble_eq_true rfl⟩ (Nat.le_of_ble_eq_true rfl) dX4_pass_8 rfl ?_
  refine a_if_ne (pc' := 14) 20 dX4_pass_11 (by decide) rfl (fun k5 => ?_) (fun k5 => ?_)
  · replace hf := (if_neg k5).symm.trans hf
    refine a_aload_n (pc' := 21) 0 dX4_pass_20 rfl rfl rfl ?_
    refine g_X4_7 (pc' := 24) hz.1 rfl dX4_pass_21 rfl ?_
    refine a_bipush (pc' := 26) (v := (6 : Int32)) dX4_pass_24 rfl (by decide) ?_
    obtain ⟨hg, hf⟩ := f_grd_x hf
    refine b_iald (pc' := 27) hz.2.1 hg dX4_pass_26 rfl ?_
    refine a_sipush (pc' := 30) (v := (1000 : Int32)) dX4_pass_27 rfl (by decide) ?_
    refine a_icmp_lt (pc' := 33) 39 dX4_pass_30 (by decide) rfl (fun k6 => ?_) (fun k6 => ?_)
    · replace hf := (if_pos k6).symm.trans hf
      refine a_aload_n (pc' := 40) 0 dX4_pass_39 rfl rfl rfl ?_
      obtain ⟨x8, e7, hf⟩ := Option.bind_eq_some_iff.mp hf
      refine k_X4_63 (pc' := 43) (c_X4_save l g F hz e7) ⟨Nat.le_of_ble_eq_true rfl, Nat.le_of_ble_eq_true rfl⟩ hz.1 (Nat.le_of_ble_eq_true rfl) dX4_pass_40 rfl (fun h9 hq => ?_)
      obtain ⟨hz1, hfr1⟩ := hq
      obtain ⟨M10, hf, hz⟩ := f_let_x (P := fun w => d_mod h9 w) hf hz1
      replace hfr := d_frm.tr hfr hfr1 (by omega)
      refine a_aload_n (pc' := 44) 0 dX4_pass_43 rfl rfl rfl ?_
      refine a_iload_n (pc' := 45) 1 dX4_pass_44 rfl rfl rfl ?_
      obtain ⟨x12, e11, hf⟩ := Option.bind_eq_some_iff.mp hf
      refine k_X4_114 (pc' := 48) (c_X4_goDay l g F hz e11) ⟨Nat.le_of_ble_eq_true rfl, Nat.le_of_ble_eq_true rfl⟩ hz.1 (Nat.le_of_ble_eq_true rfl) dX4_pass_45 rfl (fun h13 hq => ?_)
      obtain ⟨hz1, hfr1⟩ := hq
      obtain ⟨M14, hf, hz⟩ := f_let_x (P := fun w => d_mod h13 w) hf hz1
      replace hfr := d_frm.tr hfr hfr1 (by omega)
      cases hf
      exact a_iret hr ⟨rfl, hz, hfr⟩ dX4_pass_48
    · replace hf := (if_neg k6).symm.trans hf
      refine a_aload_n (pc' := 34) 0 dX4_pass_33 rfl rfl rfl ?_
      refine a_iconst (pc' := 35) (v := (2 : Int32)) dX4_pass_34 rfl (by decide) ?_
      obtain ⟨x16, e15, hf⟩ := Option.bind_eq_some_iff.mp hf
      refine k_X4_60 (pc' := 38) (c_X4_fails l g F hz e15) ⟨Nat.le_of_ble_eq_true rfl, Nat.le_of_ble_eq_true rfl⟩ hz.1 (Nat.le_of_ble_eq_true rfl) dX4_pass_35 rfl (fun h17 hq => ?_)
      obtain ⟨hz1, hfr1⟩ := hq
      obtain ⟨M18, hf, hz⟩ := f_let_x (P := fun w => d_mod h17 w) hf hz1
      replace hfr := d_frm.tr hfr hfr1 (by omega)
      cases hf
      exact a_iret hr ⟨rfl, hz, hfr⟩ dX4_pass_38
  · replace hf := (if_pos k5).symm.trans hf
    refine a_aload_n (pc' := 15) 0 dX4_pass_14 rfl rfl rfl ?_
    refine a_iconst (pc' := 16) (v := (1 : Int32)) dX4_pass_15 rfl (by decide) ?_
    obtain ⟨x20, e19, hf⟩ := Option.bind_eq_some_iff.mp hf
    refine k_X4_60 (pc' := 19) (c_X4_fails l g F hz e19) ⟨Nat.le_of_ble_eq_true rfl, Nat.le_of_ble_eq_true rfl⟩ hz.1 (Nat.le_of_ble_eq_true rfl) dX4_pass_16 rfl (fun h21 hq => ?_)
    obtain ⟨hz1, hfr1⟩ := hq
    obtain ⟨M22, hf, hz⟩ := f_let_x (P := fun w => d_mod h21 w) hf hz1
    replace hfr := d_frm.tr hfr hfr1 (by omega)
    cases hf
    exact a_iret hr ⟨rfl, hz, hfr⟩ dX4_pass_19
/-! SlateRoofModel.openCourse()I -/
set_option maxRecDepth 100000 in
def f_X4_openCourse_L2 (F : Nat) (M : d_M) : Nat → Int32 → Option ((Int32) ⊕ (Int32))
  | 0, _ => none
  | n + 1, v1_2 => (f_X4_lastCourse F M).bind fun x3002 => (if x3002 ≤ v1_2 then some (.inl (v1_2)) else (f_X4_firstGap F M v1_2).bind fun x3005 => (if x3005 = ((-1 : Int32)) then f_X4_openCourse_L2 F M n (v1_2 + (1 : Int32)) else some (.inr ((v1_2)))))
set_option maxRecDepth 100000 in
def f_X4_openCourse (F : Nat) (M : d_M) : Option (Int32) := (f_X4_openCourse_L2 F M F ((0 : Int32))).bind (fun w9 => Sum.elim (fun w3 => some ((-1 : Int32))) (fun w4 => some (w4)) w9)
set_option maxHeartbeats 4000000 in
set_option maxRecDepth 100000 in
theorem l_X4_openCourse_L2 {p : Program} {l : Launch} {e : Env} {s : State} {m : MethodId} {args : Array Value} {below : List Frame} {meth : Method} {c : Code} {Q : State → Prop} {g : a_G} (F : Nat) {h : List va_E} (M : d_M) (hz : d_mod h M) : ∀ (n : Nat) (v1_2 : Int32) (o : (Int32) ⊕ (Int32)), f_X4_openCourse_L2 F M n v1_2 = some o → (∀ e9 : Int32, o = .inl e9 → a_W p l e (a_rm 2 44) s m args below meth c Q RX4 cX4_openCourse 2 g 0 0 none 27 [] [] h) → (∀ e9 : Int32, o = .inr (e9) → a_W p l e (a_rm 2 44) s m args below meth c Q RX4 cX4_openCourse 2 g 0 0 none 19 [(1, .int e9)] [] h) → a_W p l e (a_rm 2 44) s m args below meth c Q RX4 cX4_openCourse 2 g 0 0 none 2 [(0, .ref 55), (1, .int v1_2)] [] h := by
  intro n
  induction n with
  | zero => intro v1_2 o hf; exact nomatch (show (none : Option ((Int32) ⊕ (Int32))) = some o from hf)
  | succ n ih =>
    intro v1_2 o hf hX0 hX1
    rw [f_X4_openCourse_L2] at hf
    refine a_iload_n (pc' := 3) 1 dX4_openCourse_2 rfl rfl rfl ?_
    refine a_aload_n (pc' := 4) 0 dX4_openCourse_3 rfl rfl rfl ?_
    obtain ⟨x3002, e3001, hf⟩ := Option.bind_eq_some_iff.mp hf
    refine k_X4_87 (pc' := 7) (c_X4_lastCourse l g F hz e3001) ⟨Nat.le_of_ble_eq_true rfl, Nat.le_of_ble_eq_true rfl⟩ hz.1 (Nat.le_of_ble_eq_true rfl) dX4_openCourse_4 rfl ?_
    refine a_icmp_ge (pc' := 10) 27 dX4_openCourse_7 (by decide) rfl (fun k3003 => ?_) (fun k3003 => ?_)
    · replace hf := (if_pos k3003).symm.trans hf
      cases hf
      refine a_sub [] rfl ?_
      exact hX0 _ rfl
    · replace hf := (if_neg k3003).symm.trans hf
      refine a_aload_n (pc' := 11) 0 dX4_openCourse_10 rfl rfl rfl ?_
      refine a_iload_n (pc' := 12) 1 dX4_openCourse_11 rfl rfl rfl ?_
      obtain ⟨x3005, e3004, hf⟩ := Option.bind_eq_some_iff.mp hf
      refine k_X4_90 (pc' := 15) (c_X4_firstGap l g F hz e3004) ⟨Nat.le_of_ble_eq_true rfl, Nat.le_of_ble_eq_true rfl⟩ hz.1 (Nat.le_of_ble_eq_true rfl) dX4_openCourse_12 rfl ?_
      refine a_iconst (pc' := 16) (v := (-1 : Int32)) dX4_openCourse_15 rfl (by decide) ?_
      refine a_icmp_eq (pc' := 19) 21 dX4_openCourse_16 (by decide) rfl (fun k3006 => ?_) (fun k3006 => ?_)
      · replace hf := (if_pos k3006).symm.trans hf
        refine a_iinc (pc' := 24) (v := v1_2 + (1 : Int32)) (ls' := [(1, .int (v1_2 + (1 : Int32))), (0, .ref 55)]) 1 dX4_openCourse_21 rfl (by rfl) (by decide) rfl rfl ?_
        refine a_goto 2 dX4_openCourse_24 (by decide) ?_
        refine a_sub [1, 0] rfl ?_
        exact ih _ _ hf hX0 hX1
      · replace hf := (if_neg k3006).symm.trans hf
        cases hf
        refine a_sub [1] rfl ?_
        exact hX1 _ rfl
set_option maxHeartbeats 4000000 in
set_option maxRecDepth 100000 in
theorem c_X4_openCourse (l : Launch) (g : a_G) (F : Nat) {h : List va_E} {M : d_M} (hz : d_mod h M) {out : Int32} (hf : f_X4_openCourse F M = some out) : a_CT l g yX4_openCourse cX4_openCourse 2 (some .int) (a_rm 2 44) [.ref 55] h none none (fun r h' => r = some (.int out) ∧ h' = h) := by
  refine a_enter ⟨by decide, rfl, Nat.le_of_ble_eq_true rfl⟩ (fun p e s m args below meth c hr hin => ?_)
  unfold f_X4_openCourse at hf
  refine a_sub (ls' := [(0, .ref 55)]) [0] rfl ?_
  refine a_iconst (pc' := 1) (v := (0 : Int32)) dX4_openCourse_0 rfl (by decide) ?_
  refine a_istore_n (pc' := 2) (ls' := [(1, .int ((0 : Int32))), (0, .ref 55)]) dX4_openCourse_1 rfl (by decide) rfl rfl ?_
  obtain ⟨o1, e2, hf⟩ := Option.bind_eq_some_iff.mp hf
  refine a_sub [1, 0] rfl ?_
  refine l_X4_openCourse_L2 F M hz F _ o1 e2 (fun w3 he9 => ?_) (fun w4 he9 => ?_)
  · subst he9
    simp only [Sum.elim_inl, Sum.elim_inr] at hf
    refine a_iconst (pc' := 28) (v := (-1 : Int32)) dX4_openCourse_27 rfl (by decide) ?_
    cases hf
    exact a_iret hr ⟨rfl, rfl⟩ dX4_openCourse_28
  · subst he9
    simp only [Sum.elim_inl, Sum.elim_inr] at hf
    refine a_iload_n (pc' := 20) 0 dX4_openCourse_19 rfl rfl rfl ?_
    cases hf
    exact a_iret hr ⟨rfl, rfl⟩ dX4_openCourse_20
/-! SlateRoofModel.nextLength()I -/
set_option maxRecDepth 100000 in
def f_X4_nextLength_L5 (F : Nat) (M : d_M) : Nat → Int32 → Int32 → Option (Int32 × Int32)
  | 0, _, _ => none
  | n + 1, v1_5, v2_5 => (f_X4_longest F M).bind fun x6002 => (if x6002 < v2_5 then some (v1_5, v2_5) else f_grd (((214 : Int32)) + v2_5) 294 (f_grd ((2 : Int32)) 294 ((f_X4_placesOf F M ((m_z M) ((2 : Int32)).toNatClampNeg)).bind fun x6005 => (if ((m_z M) (((214 : Int32)) + v2_5).toNatClampNeg) < x6005 then f_X4_nextLength_L5 F M n v1_5 (v2_5 + (1 : Int32)) else f_X4_nextLength_L5 F M n v2_5 (v2_5 + (1 : Int32))))))
set_option maxRecDepth 100000 in
def f_X4_nextLength (F : Nat) (M : d_M) : Option (Int32) := (f_X4_nextLength_L5 F M F ((-1 : Int32)) ((8 : Int32))).bind fun o1 => some (o1.1)
set_option maxHeartbeats 4000000 in
set_option maxRecDepth 100000 in
theorem l_X4_nextLength_L5 {p : Program} {l : Launch} {e : Env} {s : State} {m : MethodId} {args : Array Value} {below : List Frame} {meth : Method} {c : Code} {Q : State → Prop} {g : a_G} (F : Nat) {h : List va_E} (M : d_M) (hz : d_mod h M) : ∀ (n : Nat) (v1_5 : Int32) (v2_5 : Int32) (o : Int32 × Int32), f_X4_nextLength_L5 F M n v1_5 v2_5 = some o → (∀ e9 : Int32 × Int32, o = e9 → a_W p l e (a_rm 1 21) s m args below meth c Q RX4 cX4_nextLength 3 g 0 0 none 48 [(1, .int e9.1)] [] h) → a_W p l e (a_rm 1 21) s m args below meth c Q RX4 cX4_nextLength 3 g 0 0 none 5 [(0, .ref 55), (1, .int v1_5), (2, .int v2_5)] [] h := by
  intro n
  induction n with
  | zero => intro v1_5 v2_5 o hf; exact nomatch (show (none : Option (Int32 × Int32)) = some o from hf)
  | succ n ih =>
    intro v1_5 v2_5 o hf hX0
    rw [f_X4_nextLength_L5] at hf
    refine a_iload_n (pc' := 6) 2 dX4_nextLength_5 rfl rfl rfl ?_
    refine a_aload_n (pc' := 7) 0 dX4_nextLength_6 rfl rfl rfl ?_
    obtain ⟨x6002, e6001, hf⟩ := Option.bind_eq_some_iff.mp hf
    refine k_X4_84 (pc' := 10) (c_X4_longest l g F hz e6001) ⟨Nat.le_of_ble_eq_true rfl, Nat.le_of_ble_eq_true rfl⟩ hz.1 (Nat.le_of_ble_eq_true rfl) dX4_nextLength_7 rfl ?_
    refine a_icmp_gt (pc' := 13) 48 dX4_nextLength_10 (by decide) rfl (fun k6003 => ?_) (fun k6003 => ?_)
    · replace hf := (if_pos k6003).symm.trans hf
      cases hf
      refine a_sub [1] rfl ?_
      exact hX0 _ rfl
    · replace hf := (if_neg k6003).symm.trans hf
      refine a_aload_n (pc' := 14) 0 dX4_nextLength_13 rfl rfl rfl ?_
      refine g_X4_7 (pc' := 17) hz.1 rfl dX4_nextLength_14 rfl ?_
      refine a_sipush (pc' := 20) (v := (214 : Int32)) dX4_nextLength_17 rfl (by decide) ?_
      refine a_iload_n (pc' := 21) 2 dX4_nextLength_20 rfl rfl rfl ?_
      refine a_iadd (pc' := 22) dX4_nextLength_21 rfl ?_
      obtain ⟨hg, hf⟩ := f_grd_x hf
      refine b_iald (pc' := 23) hz.2.1 hg dX4_nextLength_22 rfl ?_
      refine a_aload_n (pc' := 24) 0 dX4_nextLength_23 rfl rfl rfl ?_
      refine a_aload_n (pc' := 25) 0 dX4_nextLength_24 rfl rfl rfl ?_
      refine g_X4_7 (pc' := 28) hz.1 rfl dX4_nextLength_25 rfl ?_
      refine a_iconst (pc' := 29) (v := (2 : Int32)) dX4_nextLength_28 rfl (by decide) ?_
      obtain ⟨hg, hf⟩ := f_grd_x hf
      refine b_iald (pc' := 30) hz.2.1 hg dX4_nextLength_29 rfl ?_
      obtain ⟨x6005, e6004, hf⟩ := Option.bind_eq_some_iff.mp hf
      refine k_X4_36 (pc' := 33) (c_X4_placesOf l g F hz e6004) ⟨Nat.le_of_ble_eq_true rfl, Nat.le_of_ble_eq_true rfl⟩ hz.1 (Nat.le_of_ble_eq_true rfl) dX4_nextLength_30 rfl ?_
      refine a_icmp_lt (pc' := 36) 40 dX4_nextLength_33 (by decide) rfl (fun k6006 => ?_) (fun k6006 => ?_)
      · replace hf := (if_pos k6006).symm.trans hf
        refine a_iload_n (pc' := 41) 1 dX4_nextLength_40 rfl rfl rfl ?_
        refine a_istore_n (pc' := 42) (ls' := [(1, .int v1_5), (0, .ref 55), (2, .int v2_5)]) dX4_nextLength_41 rfl (by decide) rfl rfl ?_
        refine a_iinc (pc' := 45) (v := v2_5 + (1 : Int32)) (ls' := [(2, .int (v2_5 + (1 : Int32))), (1, .int v1_5), (0, .ref 55)]) 2 dX4_nextLength_42 rfl (by rfl) (by decide) rfl rfl ?_
        refine a_goto 5 dX4_nextLength_45 (by decide) ?_
        refine a_sub [2, 1, 0] rfl ?_
        exact ih _ _ _ hf hX0
      · replace hf := (if_neg k6006).symm.trans hf
        refine a_iload_n (pc' := 37) 2 dX4_nextLength_36 rfl rfl rfl ?_
        refine a_goto 41 dX4_nextLength_37 (by decide) ?_
        refine a_istore_n (pc' := 42) (ls' := [(1, .int v2_5), (0, .ref 55), (2, .int v2_5)]) dX4_nextLength_41 rfl (by decide) rfl rfl ?_
        refine a_iinc (pc' := 45) (v := v2_5 + (1 : Int32)) (ls' := [(2, .int (v2_5 + (1 : Int32))), (1, .int v2_5), (0, .ref 55)]) 2 dX4_nextLength_42 rfl (by rfl) (by decide) rfl rfl ?_
        refine a_goto 5 dX4_nextLength_45 (by decide) ?_
        refine a_sub [2, 1, 0] rfl ?_
        exact ih _ _ _ hf hX0
set_option maxHeartbeats 4000000 in
set_option maxRecDepth 100000 in
theorem c_X4_nextLength (l : Launch) (g : a_G) (F : Nat) {h : List va_E} {M : d_M} (hz : d_mod h M) {out : Int32} (hf : f_X4_nextLength F M = some out) : a_CT l g yX4_nextLength cX4_nextLength 3 (some .int) (a_rm 1 21) [.ref 55] h none none (fun r h' => r = some (.int out) ∧ h' = h) := by
  refine a_enter ⟨by decide, rfl, Nat.le_of_ble_eq_true rfl⟩ (fun p e s m args below meth c hr hin => ?_)
  unfold f_X4_nextLength at hf
  refine a_sub (ls' := [(0, .ref 55)]) [0] rfl ?_
  refine a_iconst (pc' := 1) (v := (-1 : Int32)) dX4_nextLength_0 rfl (by decide) ?_
  refine a_istore_n (pc' := 2) (ls' := [(1, .int ((-1 : Int32))), (0, .ref 55)]) dX4_nextLength_1 rfl (by decide) rfl rfl ?_
  refine a_bipush (pc' := 4) (v := (8 : Int32)) dX4_nextLength_2 rfl (by decide) ?_
  refine a_istore_n (pc' := 5) (ls' := [(2, .int ((8 : Int32))), (1, .int ((-1 : Int32))), (0, .ref 55)]) dX4_nextLength_4 rfl (by decide) rfl rfl ?_
  obtain ⟨o1, e2, hf⟩ := Option.bind_eq_some_iff.mp hf
  refine a_sub [2, 1, 0] rfl ?_
  refine l_X4_nextLength_L5 F M hz F _ _ o1 e2 (fun e9 he9 => ?_)
  subst he9
  refine a_iload_n (pc' := 49) 0 dX4_nextLength_48 rfl rfl rfl ?_
  cases hf
  exact a_iret hr ⟨rfl, rfl⟩ dX4_nextLength_49
/-! SlateRoofModel.step()I -/
set_option maxRecDepth 100000 in
def f_X4_step (F : Nat) (M : d_M) : Option (Int32 × d_M) := (f_X4_openCourse F M).bind fun x2 => (if x2 = ((-1 : Int32)) then (f_X4_lastCourse F M).bind fun x5 => (if 0 ≤ x5 then (f_X4_firstGap F M x5).bind fun x8 => (if x8 = ((-1 : Int32)) then (f_X4_top F M).bind fun x11 => f_grd ((0 : Int32)) 294 ((if ((m_z M) ((0 : Int32)).toNatClampNeg) ≤ x11 then some (((-1 : Int32), M)) else f_grd ((2 : Int32)) 294 ((if ((m_z M) ((2 : Int32)).toNatClampNeg) = ((100 : Int32)) then some (((-1 : Int32), M)) else (f_X4_nextLength F M).bind fun x15 => (if x15 = ((-1 : Int32)) then some (((-1 : Int32), M)) else (f_X4_nextLength F M).bind fun x18 => (f_X4_begins F M x18).bind fun x20 => f_let x20 fun M22 => some (((0 : Int32), M22))))))) else f_grd (((14 : Int32)) + x5) 294 (f_grd (((214 : Int32)) + ((m_z M) (((14 : Int32)) + x5).toNatClampNeg)) 294 ((if ((m_z M) (((214 : Int32)) + ((m_z M) (((14 : Int32)) + x5).toNatClampNeg)).toNatClampNeg) = 0 then some (((-1 : Int32), M)) else f_grd ((7 : Int32)) 294 ((if ((m_z M) ((7 : Int32)).toNatClampNeg) = 0 then some (((-1 : Int32), M)) else (f_X4_lays F M x5 x8 ((1 : Int32))).bind fun x26 => f_let x26 fun M28 => some (((1 : Int32), M28)))))))) else (f_X4_top F M).bind fun x30 => f_grd ((0 : Int32)) 294 ((if ((m_z M) ((0 : Int32)).toNatClampNeg) ≤ x30 then some (((-1 : Int32), M)) else f_grd ((2 : Int32)) 294 ((if ((m_z M) ((2 : Int32)).toNatClampNeg) = ((100 : Int32)) then some (((-1 : Int32), M)) else (f_X4_nextLength F M).bind fun x34 => (if x34 = ((-1 : Int32)) then some (((-1 : Int32), M)) else (f_X4_nextLength F M).bind fun x37 => (f_X4_begins F M x37).bind fun x39 => f_let x39 fun M41 => some (((0 : Int32), M41)))))))) else (f_X4_firstGap F M x2).bind fun x43 => (f_X4_mayMend F M x2 x43).bind fun x45 => (if x45 = 0 then (f_X4_lastCourse F M).bind fun x48 => (if 0 ≤ x48 then (f_X4_firstGap F M x48).bind fun x51 => (if x51 = ((-1 : Int32)) then (f_X4_top F M).bind fun x54 => f_grd ((0 : Int32)) 294 ((if ((m_z M) ((0 : Int32)).toNatClampNeg) ≤ x54 then some (((-1 : Int32), M)) else f_grd ((2 : Int32)) 294 ((if ((m_z M) ((2 : Int32)).toNatClampNeg) = ((100 : Int32)) then some (((-1 : Int32), M)) else (f_X4_nextLength F M).bind fun x58 => (if x58 = ((-1 : Int32)) then some (((-1 : Int32), M)) else (f_X4_nextLength F M).bind fun x61 => (f_X4_begins F M x61).bind fun x63 => f_let x63 fun M65 => some (((0 : Int32), M65))))))) else f_grd (((14 : Int32)) + x48) 294 (f_grd (((214 : Int32)) + ((m_z M) (((14 : Int32)) + x48).toNatClampNeg)) 294 ((if ((m_z M) (((214 : Int32)) + ((m_z M) (((14 : Int32)) + x48).toNatClampNeg)).toNatClampNeg) = 0 then some (((-1 : Int32), M)) else f_grd ((7 : Int32)) 294 ((if ((m_z M) ((7 : Int32)).toNatClampNeg) = 0 then some (((-1 : Int32), M)) else (f_X4_lays F M x48 x51 ((1 : Int32))).bind fun x69 => f_let x69 fun M71 => some (((1 : Int32), M71)))))))) else (f_X4_top F M).bind fun x73 => f_grd ((0 : Int32)) 294 ((if ((m_z M) ((0 : Int32)).toNatClampNeg) ≤ x73 then some (((-1 : Int32), M)) else f_grd ((2 : Int32)) 294 ((if ((m_z M) ((2 : Int32)).toNatClampNeg) = ((100 : Int32)) then some (((-1 : Int32), M)) else (f_X4_nextLength F M).bind fun x77 => (if x77 = ((-1 : Int32)) then some (((-1 : Int32), M)) else (f_X4_nextLength F M).bind fun x80 => (f_X4_begins F M x80).bind fun x82 => f_let x82 fun M84 => some (((0 : Int32), M84)))))))) else (f_X4_firstGap F M x2).bind fun x86 => (f_X4_lays F M x2 x86 ((3 : Int32))).bind fun x88 => f_let x88 fun M90 => some (((1 : Int32), M90))))
set_option maxHeartbeats 4000000 in
set_option maxRecDepth 100000 in
theorem c_X4_step (l : Launch) (g : a_G) (F : Nat) {h : List va_E} {M : d_M} (hz : d_mod h M) {out : Int32 × d_M} (hf : f_X4_step F M = some out) : a_CT l g yX4_step cX4_step 4 (some .int) (a_rm 3 65) [.ref 55] h none none (fun r h' => r = some (.int out.1) ∧ d_mod h' out.2 ∧ d_frm 55 6 h h') := by
  refine a_enter ⟨by decide, rfl, Nat.le_of_ble_eq_true rfl⟩ (fun p e s m args below meth c hr hin => ?_)
  unfold f_X4_step at hf
  have hfr : d_frm 55 6 h h := d_frm.rf
  refine a_sub (ls' := [(0, .ref 55)]) [0] rfl ?_
  refine a_aload_n (pc' := 1) 0 dX4_step_0 rfl rfl rfl ?_
  obtain ⟨x2, e1, hf⟩ := Option.bind_eq_some_iff.mp hf
  refine k_X4_117 (pc' := 4) (c_X4_openCourse l g F hz e1) ⟨Nat.le_of_ble_eq_true rfl, Nat.le_of_ble_eq_true rfl⟩ hz.1 (Nat.le_of_ble_eq_true rfl) dX4_step_1 rfl ?_
  refine a_istore_n (pc' := 5) (ls' := [(1, .int x2), (0, .ref 55)]) dX4_step_4 rfl (by decide) rfl rfl ?_
  refine a_iload_n (pc' := 6) 0 dX4_step_5 rfl rfl rfl ?_
  refine a_iconst (pc' := 7) (v := (-1 : Int32)) dX4_step_6 rfl (by decide) ?_
  refine a_icmp_eq (pc' := 10) 36 dX4_step_7 (by decide) rfl (fun k3 => ?_) (fun k3 => ?_)
  · replace hf := (if_pos k3).symm.trans hf
    refine a_aload_n (pc' := 37) 1 dX4_step_36 rfl rfl rfl ?_
    obtain ⟨x5, e4, hf⟩ := Option.bind_eq_some_iff.mp hf
    refine k_X4_87 (pc' := 40) (c_X4_lastCourse l g F hz e4) ⟨Nat.le_of_ble_eq_true rfl, Nat.le_of_ble_eq_true rfl⟩ hz.1 (Nat.le_of_ble_eq_true rfl) dX4_step_37 rfl ?_
    refine a_istore_n (pc' := 41) (ls' := [(2, .int x5), (1, .int x2), (0, .ref 55)]) dX4_step_40 rfl (by decide) rfl rfl ?_
    refine a_iload_n (pc' := 42) 0 dX4_step_41 rfl rfl rfl ?_
    refine a_if_ge (pc' := 45) 49 dX4_step_42 (by decide) rfl (fun k6 => ?_) (fun k6 => ?_)
    · replace hf := (if_pos k6).symm.trans hf
      refine a_aload_n (pc' := 50) 2 dX4_step_49 rfl rfl rfl ?_
      refine a_iload_n (pc' := 51) 0 dX4_step_50 rfl rfl rfl ?_
      obtain ⟨x8, e7, hf⟩ := Option.bind_eq_some_iff.mp hf
      refine k_X4_90 (pc' := 54) (c_X4_firstGap l g F hz e7) ⟨Nat.le_of_ble_eq_true rfl, Nat.le_of_ble_eq_true rfl⟩ hz.1 (Nat.le_of_ble_eq_true rfl) dX4_step_51 rfl ?_
      refine a_istore_n (pc' := 55) (ls' := [(3, .int x8), (2, .int x5), (1, .int x2), (0, .ref 55)]) dX4_step_54 rfl (by decide) rfl rfl ?_
      refine a_iload_n (pc' := 56) 0 dX4_step_55 rfl rfl rfl ?_
      refine a_iconst (pc' := 57) (v := (-1 : Int32)) dX4_step_56 rfl (by decide) ?_
      refine a_icmp_eq (pc' := 60) 102 dX4_step_57 (by decide) rfl (fun k9 => ?_) (fun k9 => ?_)
      · replace hf := (if_pos k9).symm.trans hf
        refine a_aload_n (pc' := 103) 3 dX4_step_102 rfl rfl rfl ?_
        obtain ⟨x11, e10, hf⟩ := Option.bind_eq_some_iff.mp hf
        refine k_X4_53 (pc' := 106) (c_X4_top l g F hz e10) ⟨Nat.le_of_ble_eq_true rfl, Nat.le_of_ble_eq_true rfl⟩ hz.1 (Nat.le_of_ble_eq_true rfl) dX4_step_103 rfl ?_
        refine a_aload_n (pc' := 107) 3 dX4_step_106 rfl rfl rfl ?_
        refine g_X4_7 (pc' := 110) hz.1 rfl dX4_step_107 rfl ?_
        refine a_iconst (pc' := 111) (v := (0 : Int32)) dX4_step_110 rfl (by decide) ?_
        obtain ⟨hg, hf⟩ := f_grd_x hf
        refine b_iald (pc' := 112) hz.2.1 hg dX4_step_111 rfl ?_
        refine a_icmp_ge (pc' := 115) 134 dX4_step_112 (by decide) rfl (fun k12 => ?_) (fun k12 => ?_)
        · replace hf := (if_pos k12).symm.trans hf
          refine a_iconst (pc' := 135) (v := (-1 : Int32)) dX4_step_134 rfl (by decide) ?_
          cases hf
          exact a_iret hr ⟨rfl, hz, hfr⟩ dX4_step_135
        · replace hf := (if_neg k12).symm.trans hf
          refine a_aload_n (pc' := 116) 3 dX4_step_115 rfl rfl rfl ?_
          refine g_X4_7 (pc' := 119) hz.1 rfl dX4_step_116 rfl ?_
          refine a_iconst (pc' := 120) (v := (2 : Int32)) dX4_step_119 rfl (by decide) ?_
          obtain ⟨hg, hf⟩ := f_grd_x hf
          refine b_iald (pc' := 121) hz.2.1 hg dX4_step_120 rfl ?_
          refine a_bipush (pc' := 123) (v := (100 : Int32)) dX4_step_121 rfl (by decide) ?_
          refine a_icmp_eq (pc' := 126) 134 dX4_step_123 (by decide) rfl (fun k13 => ?_) (fun k13 => ?_)
          · replace hf := (if_pos k13).symm.trans hf
            refine a_iconst (pc' := 135) (v := (-1 : Int32)) dX4_step_134 rfl (by decide) ?_
            cases hf
            exact a_iret hr ⟨rfl, hz, hfr⟩ dX4_step_135
          · replace hf := (if_neg k13).symm.trans hf
            refine a_aload_n (pc' := 127) 3 dX4_step_126 rfl rfl rfl ?_
            obtain ⟨x15, e14, hf⟩ := Option.bind_eq_some_iff.mp hf
            refine k_X4_120 (pc' := 130) (c_X4_nextLength l g F hz e14) ⟨Nat.le_of_ble_eq_true rfl, Nat.le_of_ble_eq_true rfl⟩ hz.1 (Nat.le_of_ble_eq_true rfl) dX4_step_127 rfl ?_
            refine a_iconst (pc' := 131) (v := (-1 : Int32)) dX4_step_130 rfl (by decide) ?_
            refine a_icmp_ne (pc' := 134) 136 dX4_step_131 (by decide) rfl (fun k16 => ?_) (fun k16 => ?_)
            · replace hf := (if_neg k16).symm.trans hf
              refine a_aload_n (pc' := 137) 3 dX4_step_136 rfl rfl rfl ?_
              refine a_aload_n (pc' := 138) 3 dX4_step_137 rfl rfl rfl ?_
              obtain ⟨x18, e17, hf⟩ := Option.bind_eq_some_iff.mp hf
              refine k_X4_120 (pc' := 141) (c_X4_nextLength l g F hz e17) ⟨Nat.le_of_ble_eq_true rfl, Nat.le_of_ble_eq_true rfl⟩ hz.1 (Nat.le_of_ble_eq_true rfl) dX4_step_138 rfl ?_
              obtain ⟨x20, e19, hf⟩ := Option.bind_eq_some_iff.mp hf
              refine k_X4_93 (pc' := 144) (c_X4_begins l g F hz e19) ⟨Nat.le_of_ble_eq_true rfl, Nat.le_of_ble_eq_true rfl⟩ hz.1 (Nat.le_of_ble_eq_true rfl) dX4_step_141 rfl (fun h21 hq => ?_)
              obtain ⟨hz1, hfr1⟩ := hq
              obtain ⟨M22, hf, hz⟩ := f_let_x (P := fun w => d_mod h21 w) hf hz1
              replace hfr := d_frm.tr hfr hfr1 (by omega)
              refine a_iconst (pc' := 145) (v := (0 : Int32)) dX4_step_144 rfl (by decide) ?_
              cases hf
              exact a_iret hr ⟨rfl, hz, hfr⟩ dX4_step_145
            · replace hf := (if_pos k16).symm.trans hf
              refine a_iconst (pc' := 135) (v := (-1 : Int32)) dX4_step_134 rfl (by decide) ?_
              cases hf
              exact a_iret hr ⟨rfl, hz, hfr⟩ dX4_step_135
      · replace hf := (if_neg k9).symm.trans hf
        refine a_aload_n (pc' := 61) 3 dX4_step_60 rfl rfl rfl ?_
        refine g_X4_7 (pc' := 64) hz.1 rfl dX4_step_61 rfl ?_
        refine a_sipush (pc' := 67) (v := (214 : Int32)) dX4_step_64 rfl (by decide) ?_
        refine a_aload_n (pc' := 68) 3 dX4_step_67 rfl rfl rfl ?_
        refine g_X4_7 (pc' := 71) hz.1 rfl dX4_step_68 rfl ?_
        refine a_bipush (pc' := 73) (v := (14 : Int32)) dX4_step_71 rfl (by decide) ?_
        refine a_iload_n (pc' := 74) 1 dX4_step_73 rfl rfl rfl ?_
        refine a_iadd (pc' := 75) dX4_step_74 rfl ?_
        obtain ⟨hg, hf⟩ := f_grd_x hf
        refine b_iald (pc' := 76) hz.2.1 hg dX4_step_75 rfl ?_
        refine a_iadd (pc' := 77) dX4_step_76 rfl ?_
        obtain ⟨hg, hf⟩ := f_grd_x hf
        refine b_iald (pc' := 78) hz.2.1 hg dX4_step_77 rfl ?_
        refine a_if_eq (pc' := 81) 91 dX4_step_78 (by decide) rfl (fun k23 => ?_) (fun k23 => ?_)
        · replace hf := (if_pos k23).symm.trans hf
          refine a_iconst (pc' := 92) (v := (-1 : Int32)) dX4_step_91 rfl (by decide) ?_
          cases hf
          exact a_iret hr ⟨rfl, hz, hfr⟩ dX4_step_92
        · replace hf := (if_neg k23).symm.trans hf
          refine a_aload_n (pc' := 82) 3 dX4_step_81 rfl rfl rfl ?_
          refine g_X4_7 (pc' := 85) hz.1 rfl dX4_step_82 rfl ?_
          refine a_bipush (pc' := 87) (v := (7 : Int32)) dX4_step_85 rfl (by decide) ?_
          obtain ⟨hg, hf⟩ := f_grd_x hf
          refine b_iald (pc' := 88) hz.2.1 hg dX4_step_87 rfl ?_
          refine a_if_ne (pc' := 91) 93 dX4_step_88 (by decide) rfl (fun k24 => ?_) (fun k24 => ?_)
          · replace hf := (if_neg k24).symm.trans hf
            refine a_aload_n (pc' := 94) 3 dX4_step_93 rfl rfl rfl ?_
            refine a_iload_n (pc' := 95) 1 dX4_step_94 rfl rfl rfl ?_
            refine a_iload_n (pc' := 96) 0 dX4_step_95 rfl rfl rfl ?_
            refine a_iconst (pc' := 97) (v := (1 : Int32)) dX4_step_96 rfl (by decide) ?_
            obtain ⟨x26, e25, hf⟩ := Option.bind_eq_some_iff.mp hf
            refine k_X4_97 (pc' := 100) (c_X4_lays l g F hz e25) ⟨Nat.le_of_ble_eq_true rfl, Nat.le_of_ble_eq_true rfl⟩ hz.1 (Nat.le_of_ble_eq_true rfl) dX4_step_97 rfl (fun h27 hq => ?_)
            obtain ⟨hz1, hfr1⟩ := hq
            obtain ⟨M28, hf, hz⟩ := f_let_x (P := fun w => d_mod h27 w) hf hz1
            replace hfr := d_frm.tr hfr hfr1 (by omega)
            refine a_iconst (pc' := 101) (v := (1 : Int32)) dX4_step_100 rfl (by decide) ?_
            cases hf
            exact a_iret hr ⟨rfl, hz, hfr⟩ dX4_step_101
          · replace hf := (if_pos k24).symm.trans hf
            refine a_iconst (pc' := 92) (v := (-1 : Int32)) dX4_step_91 rfl (by decide) ?_
            cases hf
            exact a_iret hr ⟨rfl, hz, hfr⟩ dX4_step_92
    · replace hf := (if_neg k6).symm.trans hf
      refine a_iconst (pc' := 46) (v := (-1 : Int32)) dX4_step_45 rfl (by decide) ?_
      refine a_goto 54 dX4_step_46 (by decide) ?_
      refine a_istore_n (pc' := 55) (ls' := [(3, .int ((-1 : Int32))), (2, .int x5), (1, .int x2), (0, .ref 55)]) dX4_step_54 rfl (by decide) rfl rfl ?_
      refine a_iload_n (pc' := 56) 0 dX4_step_55 rfl rfl rfl ?_
      refine a_iconst (pc' := 57) (v := (-1 : Int32)) dX4_step_56 rfl (by decide) ?_
      refine a_icmp_eq (pc' := 60) 102 dX4_step_57 (by decide) rfl (fun _ => ?_) (fun cc => absurd cc (by decide))
      refine a_aload_n (pc' := 103) 3 dX4_step_102 rfl rfl rfl ?_
      obtain ⟨x30, e29, hf⟩ := Option.bind_eq_some_iff.mp hf
      refine k_X4_53 (pc' := 106) (c_X4_top l g F hz e29) ⟨Nat.le_of_ble_eq_true rfl, Nat.le_of_ble_eq_true rfl⟩ hz.1 (Nat.le_of_ble_eq_true rfl) dX4_step_103 rfl ?_
      refine a_aload_n (pc' := 107) 3 dX4_step_106 rfl rfl rfl ?_
      refine g_X4_7 (pc' := 110) hz.1 rfl dX4_step_107 rfl ?_
      refine a_iconst (pc' := 111) (v := (0 : Int32)) dX4_step_110 rfl (by decide) ?_
      obtain ⟨hg, hf⟩ := f_grd_x hf
      refine b_iald (pc' := 112) hz.2.1 hg dX4_step_111 rfl ?_
      refine a_icmp_ge (pc' := 115) 134 dX4_step_112 (by decide) rfl (fun k31 => ?_) (fun k31 => ?_)
      · replace hf := (if_pos k31).symm.trans hf
        refine a_iconst (pc' := 135) (v := (-1 : Int32)) dX4_step_134 rfl (by decide) ?_
        cases hf
        exact a_iret hr ⟨rfl, hz, hfr⟩ dX4_step_135
      · replace hf := (if_neg k31).symm.trans hf
        refine a_aload_n (pc' := 116) 3 dX4_step_115 rfl rfl rfl ?_
        refine g_X4_7 (pc' := 119) hz.1 rfl dX4_step_116 rfl ?_
        refine a_iconst (pc' := 120) (v := (2 : Int32)) dX4_step_119 rfl (by decide) ?_
        obtain ⟨hg, hf⟩ := f_grd_x hf
        refine b_iald (pc' := 121) hz.2.1 hg dX4_step_120 rfl ?_
        refine a_bipush (pc' := 123) (v := (100 : Int32)) dX4_step_121 rfl (by decide) ?_
        refine a_icmp_eq (pc' := 126) 134 dX4_step_123 (by decide) rfl (fun k32 => ?_) (fun k32 => ?_)
        · replace hf := (if_pos k32).symm.trans hf
          refine a_iconst (pc' := 135) (v := (-1 : Int32)) dX4_step_134 rfl (by decide) ?_
          cases hf
          exact a_iret hr ⟨rfl, hz, hfr⟩ dX4_step_135
        · replace hf := (if_neg k32).symm.trans hf
          refine a_aload_n (pc' := 127) 3 dX4_step_126 rfl rfl rfl ?_
          obtain ⟨x34, e33, hf⟩ := Option.bind_eq_some_iff.mp hf
          refine k_X4_120 (pc' := 130) (c_X4_nextLength l g F hz e33) ⟨Nat.le_of_ble_eq_true rfl, Nat.le_of_ble_eq_true rfl⟩ hz.1 (Nat.le_of_ble_eq_true rfl) dX4_step_127 rfl ?_
          refine a_iconst (pc' := 131) (v := (-1 : Int32)) dX4_step_130 rfl (by decide) ?_
          refine a_icmp_ne (pc' := 134) 136 dX4_step_131 (by decide) rfl (fun k35 => ?_) (fun k35 => ?_)
          · replace hf := (if_neg k35).symm.trans hf
            refine a_aload_n (pc' := 137) 3 dX4_step_136 rfl rfl rfl ?_
            refine a_aload_n (pc' := 138) 3 dX4_step_137 rfl rfl rfl ?_
            obtain ⟨x37, e36, hf⟩ := Option.bind_eq_some_iff.mp hf
            refine k_X4_120 (pc' := 141) (c_X4_nextLength l g F hz e36) ⟨Nat.le_of_ble_eq_true rfl, Nat.le_of_ble_eq_true rfl⟩ hz.1 (Nat.le_of_ble_eq_true rfl) dX4_step_138 rfl ?_
            obtain ⟨x39, e38, hf⟩ := Option.bind_eq_some_iff.mp hf
            refine k_X4_93 (pc' := 144) (c_X4_begins l g F hz e38) ⟨Nat.le_of_ble_eq_true rfl, Nat.le_of_ble_eq_true rfl⟩ hz.1 (Nat.le_of_ble_eq_true rfl) dX4_step_141 rfl (fun h40 hq => ?_)
            obtain ⟨hz1, hfr1⟩ := hq
            obtain ⟨M41, hf, hz⟩ := f_let_x (P := fun w => d_mod h40 w) hf hz1
            replace hfr := d_frm.tr hfr hfr1 (by omega)
            refine a_iconst (pc' := 145) (v := (0 : Int32)) dX4_step_144 rfl (by decide) ?_
            cases hf
            exact a_iret hr ⟨rfl, hz, hfr⟩ dX4_step_145
          · replace hf := (if_pos k35).symm.trans hf
            refine a_iconst (pc' := 135) (v := (-1 : Int32)) dX4_step_134 rfl (by decide) ?_
            cases hf
            exact a_iret hr ⟨rfl, hz, hfr⟩ dX4_step_135
  · replace hf := (if_neg k3).symm.trans hf
    refine a_aload_n (pc' := 11) 1 dX4_step_10 rfl rfl rfl ?_
    refine a_iload_n (pc' := 12) 0 dX4_step_11 rfl rfl rfl ?_
    refine a_aload_n (pc' := 13) 1 dX4_step_12 rfl rfl rfl ?_
    refine a_iload_n (pc' := 14) 0 dX4_step_13 rfl rfl rfl ?_
    obtain ⟨x43, e42, hf⟩ := Option.bind_eq_some_iff.mp hf
    refine k_X4_90 (pc' := 17) (c_X4_firstGap l g F hz e42) ⟨Nat.le_of_ble_eq_true rfl, Nat.le_of_ble_eq_true rfl⟩ hz.1 (Nat.le_of_ble_eq_true rfl) dX4_step_14 rfl ?_
    obtain ⟨x45, e44, hf⟩ := Option.bind_eq_some_iff.mp hf
    refine k_X4_104 (pc' := 20) (c_X4_mayMend l g F hz e44) ⟨Nat.le_of_ble_eq_true rfl, Nat.le_of_ble_eq_true rfl⟩ hz.1 (Nat.le_of_ble_eq_true rfl) dX4_step_17 rfl ?_
    refine a_if_eq (pc' := 23) 36 dX4_step_20 (by decide) rfl (fun k46 => ?_) (fun k46 => ?_)
    · replace hf := (if_pos k46).symm.trans hf
      refine a_aload_n (pc' := 37) 1 dX4_step_36 rfl rfl rfl ?_
      obtain ⟨x48, e47, hf⟩ := Option.bind_eq_some_iff.mp hf
      refine k_X4_87 (pc' := 40) (c_X4_lastCourse l g F hz e47) ⟨Nat.le_of_ble_eq_true rfl, Nat.le_of_ble_eq_true rfl⟩ hz.1 (Nat.le_of_ble_eq_true rfl) dX4_step_37 rfl ?_
      refine a_istore_n (pc' := 41) (ls' := [(2, .int x48), (1, .int x2), (0, .ref 55)]) dX4_step_40 rfl (by decide) rfl rfl ?_
      refine a_iload_n (pc' := 42) 0 dX4_step_41 rfl rfl rfl ?_
      refine a_if_ge (pc' := 45) 49 dX4_step_42 (by decide) rfl (fun k49 => ?_) (fun k49 => ?_)
      · replace hf := (if_pos k49).symm.trans hf
        refine a_aload_n (pc' := 50) 2 dX4_step_49 rfl rfl rfl ?_
        refine a_iload_n (pc' := 51) 0 dX4_step_50 rfl rfl rfl ?_
        obtain ⟨x51, e50, hf⟩ := Option.bind_eq_some_iff.mp hf
        refine k_X4_90 (pc' := 54) (c_X4_firstGap l g F hz e50) ⟨Nat.le_of_ble_eq_true rfl, Nat.le_of_ble_eq_true rfl⟩ hz.1 (Nat.le_of_ble_eq_true rfl) dX4_step_51 rfl ?_
        refine a_istore_n (pc' := 55) (ls' := [(3, .int x51), (2, .int x48), (1, .int x2), (0, .ref 55)]) dX4_step_54 rfl (by decide) rfl rfl ?_
        refine a_iload_n (pc' := 56) 0 dX4_step_55 rfl rfl rfl ?_
        refine a_iconst (pc' := 57) (v := (-1 : Int32)) dX4_step_56 rfl (by decide) ?_
        refine a_icmp_eq (pc' := 60) 102 dX4_step_57 (by decide) rfl (fun k52 => ?_) (fun k52 => ?_)
        · replace hf := (if_pos k52).symm.trans hf
          refine a_aload_n (pc' := 103) 3 dX4_step_102 rfl rfl rfl ?_
          obtain ⟨x54, e53, hf⟩ := Option.bind_eq_some_iff.mp hf
          refine k_X4_53 (pc' := 106) (c_X4_top l g F hz e53) ⟨Nat.le_of_ble_eq_true rfl, Nat.le_of_ble_eq_true rfl⟩ hz.1 (Nat.le_of_ble_eq_true rfl) dX4_step_103 rfl ?_
          refine a_aload_n (pc' := 107) 3 dX4_step_106 rfl rfl rfl ?_
          refine g_X4_7 (pc' := 110) hz.1 rfl dX4_step_107 rfl ?_
          refine a_iconst (pc' := 111) (v := (0 : Int32)) dX4_step_110 rfl (by decide) ?_
          obtain ⟨hg, hf⟩ := f_grd_x hf
          refine b_iald (pc' := 112) hz.2.1 hg dX4_step_111 rfl ?_
          refine a_icmp_ge (pc' := 115) 134 dX4_step_112 (by decide) rfl (fun k55 => ?_) (fun k55 => ?_)
          · replace hf := (if_pos k55).symm.trans hf
            refine a_iconst (pc' := 135) (v := (-1 : Int32)) dX4_step_134 rfl (by decide) ?_
            cases hf
            exact a_iret hr ⟨rfl, hz, hfr⟩ dX4_step_135
          · replace hf := (if_neg k55).symm.trans hf
            refine a_aload_n (pc' := 116) 3 dX4_step_115 rfl rfl rfl ?_
            refine g_X4_7 (pc' := 119) hz.1 rfl dX4_step_116 rfl ?_
            refine a_iconst (pc' := 120) (v := (2 : Int32)) dX4_step_119 rfl (by decide) ?_
            obtain ⟨hg, hf⟩ := f_grd_x hf
            refine b_iald (pc' := 121) hz.2.1 hg dX4_step_120 rfl ?_
            refine a_bipush (pc' := 123) (v := (100 : Int32)) dX4_step_121 rfl (by decide) ?_
            refine a_icmp_eq (pc' := 126) 134 dX4_step_123 (by decide) rfl (fun k56 => ?_) (fun k56 => ?_)
            · replace hf := (if_pos k56).symm.trans hf
              refine a_iconst (pc' := 135) (v := (-1 : Int32)) dX4_step_134 rfl (by decide) ?_
              cases hf
              exact a_iret hr ⟨rfl, hz, hfr⟩ dX4_step_135
            · replace hf := (if_neg k56).symm.trans hf
              refine a_aload_n (pc' := 127) 3 dX4_step_126 rfl rfl rfl ?_
              obtain ⟨x58, e57, hf⟩ := Option.bind_eq_some_iff.mp hf
              refine k_X4_120 (pc' := 130) (c_X4_nextLength l g F hz e57) ⟨Nat.le_of_ble_eq_true rfl, Nat.le_of_ble_eq_true rfl⟩ hz.1 (Nat.le_of_ble_eq_true rfl) dX4_step_127 rfl ?_
              refine a_iconst (pc' := 131) (v := (-1 : Int32)) dX4_step_130 rfl (by decide) ?_
              refine a_icmp_ne (pc' := 134) 136 dX4_step_131 (by decide) rfl (fun k59 => ?_) (fun k59 => ?_)
              · replace hf := (if_neg k59).symm.trans hf
                refine a_aload_n (pc' := 137) 3 dX4_step_136 rfl rfl rfl ?_
                refine a_aload_n (pc' := 138) 3 dX4_step_137 rfl rfl rfl ?_
                obtain ⟨x61, e60, hf⟩ := Option.bind_eq_some_iff.mp hf
                refine k_X4_120 (pc' := 141) (c_X4_nextLength l g F hz e60) ⟨Nat.le_of_ble_eq_true rfl, Nat.le_of_ble_eq_true rfl⟩ hz.1 (Nat.le_of_ble_eq_true rfl) dX4_step_138 rfl ?_
                obtain ⟨x63, e62, hf⟩ := Option.bind_eq_some_iff.mp hf
                refine k_X4_93 (pc' := 144) (c_X4_begins l g F hz e62) ⟨Nat.le_of_ble_eq_true rfl, Nat.le_of_ble_eq_true rfl⟩ hz.1 (Nat.le_of_ble_eq_true rfl) dX4_step_141 rfl (fun h64 hq => ?_)
                obtain ⟨hz1, hfr1⟩ := hq
                obtain ⟨M65, hf, hz⟩ := f_let_x (P := fun w => d_mod h64 w) hf hz1
                replace hfr := d_frm.tr hfr hfr1 (by omega)
                refine a_iconst (pc' := 145) (v := (0 : Int32)) dX4_step_144 rfl (by decide) ?_
                cases hf
                exact a_iret hr ⟨rfl, hz, hfr⟩ dX4_step_145
              · replace hf := (if_pos k59).symm.trans hf
                refine a_iconst (pc' := 135) (v := (-1 : Int32)) dX4_step_134 rfl (by decide) ?_
                cases hf
                exact a_iret hr ⟨rfl, hz, hfr⟩ dX4_step_135
        · replace hf := (if_neg k52).symm.trans hf
          refine a_aload_n (pc' := 61) 3 dX4_step_60 rfl rfl rfl ?_
          refine g_X4_7 (pc' := 64) hz.1 rfl dX4_step_61 rfl ?_
          refine a_sipush (pc' := 67) (v := (214 : Int32)) dX4_step_64 rfl (by decide) ?_
          refine a_aload_n (pc' := 68) 3 dX4_step_67 rfl rfl rfl ?_
          refine g_X4_7 (pc' := 71) hz.1 rfl dX4_step_68 rfl ?_
          refine a_bipush (pc' := 73) (v := (14 : Int32)) dX4_step_71 rfl (by decide) ?_
          refine a_iload_n (pc' := 74) 1 dX4_step_73 rfl rfl rfl ?_
          refine a_iadd (pc' := 75) dX4_step_74 rfl ?_
          obtain ⟨hg, hf⟩ := f_grd_x hf
          refine b_iald (pc' := 76) hz.2.1 hg dX4_step_75 rfl ?_
          refine a_iadd (pc' := 77) dX4_step_76 rfl ?_
          obtain ⟨hg, hf⟩ := f_grd_x hf
          refine b_iald (pc' := 78) hz.2.1 hg dX4_step_77 rfl ?_
          refine a_if_eq (pc' := 81) 91 dX4_step_78 (by decide) rfl (fun k66 => ?_) (fun k66 => ?_)
          · replace hf := (if_pos k66).symm.trans hf
            refine a_iconst (pc' := 92) (v := (-1 : Int32)) dX4_step_91 rfl (by decide) ?_
            cases hf
            exact a_iret hr ⟨rfl, hz, hfr⟩ dX4_step_92
          · replace hf := (if_neg k66).symm.trans hf
            refine a_aload_n (pc' := 82) 3 dX4_step_81 rfl rfl rfl ?_
            refine g_X4_7 (pc' := 85) hz.1 rfl dX4_step_82 rfl ?_
            refine a_bipush (pc' := 87) (v := (7 : Int32)) dX4_step_85 rfl (by decide) ?_
            obtain ⟨hg, hf⟩ := f_grd_x hf
            refine b_iald (pc' := 88) hz.2.1 hg dX4_step_87 rfl ?_
            refine a_if_ne (pc' := 91) 93 dX4_step_88 (by decide) rfl (fun k67 => ?_) (fun k67 => ?_)
            · replace hf := (if_neg k67).symm.trans hf
              refine a_aload_n (pc' := 94) 3 dX4_step_93 rfl rfl rfl ?_
              refine a_iload_n (pc' := 95) 1 dX4_step_94 rfl rfl rfl ?_
              refine a_iload_n (pc' := 96) 0 dX4_step_95 rfl rfl rfl ?_
              refine a_iconst (pc' := 97) (v := (1 : Int32)) dX4_step_96 rfl (by decide) ?_
              obtain ⟨x69, e68, hf⟩ := Option.bind_eq_some_iff.mp hf
              refine k_X4_97 (pc' := 100) (c_X4_lays l g F hz e68) ⟨Nat.le_of_ble_eq_true rfl, Nat.le_of_ble_eq_true rfl⟩ hz.1 (Nat.le_of_ble_eq_true rfl) dX4_step_97 rfl (fun h70 hq => ?_)
              obtain ⟨hz1, hfr1⟩ := hq
              obtain ⟨M71, hf, hz⟩ := f_let_x (P := fun w => d_mod h70 w) hf hz1
              replace hfr := d_frm.tr hfr hfr1 (by omega)
              refine a_iconst (pc' := 101) (v := (1 : Int32)) dX4_step_100 rfl (by decide) ?_
              cases hf
              exact a_iret hr ⟨rfl, hz, hfr⟩ dX4_step_101
            · replace hf := (if_pos k67).symm.trans hf
              refine a_iconst (pc' := 92) (v := (-1 : Int32)) dX4_step_91 rfl (by decide) ?_
              cases hf
              exact a_iret hr ⟨rfl, hz, hfr⟩ dX4_step_92
      · replace hf := (if_neg k49).symm.trans hf
        refine a_iconst (pc' := 46) (v := (-1 : Int32)) dX4_step_45 rfl (by decide) ?_
        refine a_goto 54 dX4_step_46 (by decide) ?_
        refine a_istore_n (pc' := 55) (ls' := [(3, .int ((-1 : Int32))), (2, .int x48), (1, .int x2), (0, .ref 55)]) dX4_step_54 rfl (by decide) rfl rfl ?_
        refine a_iload_n (pc' := 56) 0 dX4_step_55 rfl rfl rfl ?_
        refine a_iconst (pc' := 57) (v := (-1 : Int32)) dX4_step_56 rfl (by decide) ?_
        refine a_icmp_eq (pc' := 60) 102 dX4_step_57 (by decide) rfl (fun _ => ?_) (fun cc => absurd cc (by decide))
        refine a_aload_n (pc' := 103) 3 dX4_step_102 rfl rfl rfl ?_
        obtain ⟨x73, e72, hf⟩ := Option.bind_eq_some_iff.mp hf
        refine k_X4_53 (pc' := 106) (c_X4_top l g F hz e72) ⟨Nat.le_of_ble_eq_true rfl, Nat.le_of_ble_eq_true rfl⟩ hz.1 (Nat.le_of_ble_eq_true rfl) dX4_step_103 rfl ?_
        refine a_aload_n (pc' := 107) 3 dX4_step_106 rfl rfl rfl ?_
        refine g_X4_7 (pc' := 110) hz.1 rfl dX4_step_107 rfl ?_
        refine a_iconst (pc' := 111) (v := (0 : Int32)) dX4_step_110 rfl (by decide) ?_
        obtain ⟨hg, hf⟩ := f_grd_x hf
        refine b_iald (pc' := 112) hz.2.1 hg dX4_step_111 rfl ?_
        refine a_icmp_ge (pc' := 115) 134 dX4_step_112 (by decide) rfl (fun k74 => ?_) (fun k74 => ?_)
        · replace hf := (if_pos k74).symm.trans hf
          refine a_iconst (pc' := 135) (v := (-1 : Int32)) dX4_step_134 rfl (by decide) ?_
          cases hf
          exact a_iret hr ⟨rfl, hz, hfr⟩ dX4_step_135
        · replace hf := (if_neg k74).symm.trans hf
          refine a_aload_n (pc' := 116) 3 dX4_step_115 rfl rfl rfl ?_
          refine g_X4_7 (pc' := 119) hz.1 rfl dX4_step_116 rfl ?_
          refine a_iconst (pc' := 120) (v := (2 : Int32)) dX4_step_119 rfl (by decide) ?_
          obtain ⟨hg, hf⟩ := f_grd_x hf
          refine b_iald (pc' := 121) hz.2.1 hg dX4_step_120 rfl ?_
          refine a_bipush (pc' := 123) (v := (100 : Int32)) dX4_step_121 rfl (by decide) ?_
          refine a_icmp_eq (pc' := 126) 134 dX4_step_123 (by decide) rfl (fun k75 => ?_) (fun k75 => ?_)
          · replace hf := (if_pos k75).symm.trans hf
            refine a_iconst (pc' := 135) (v := (-1 : Int32)) dX4_step_134 rfl (by decide) ?_
            cases hf
            exact a_iret hr ⟨rfl, hz, hfr⟩ dX4_step_135
          · replace hf := (if_neg k75).symm.trans hf
            refine a_aload_n (pc' := 127) 3 dX4_step_126 rfl rfl rfl ?_
            obtain ⟨x77, e76, hf⟩ := Option.bind_eq_some_iff.mp hf
            refine k_X4_120 (pc' := 130) (c_X4_nextLength l g F hz e76) ⟨Nat.le_of_ble_eq_true rfl, Nat.le_of_ble_eq_true rfl⟩ hz.1 (Nat.le_of_ble_eq_true rfl) dX4_step_127 rfl ?_
            refine a_iconst (pc' := 131) (v := (-1 : Int32)) dX4_step_130 rfl (by decide) ?_
            refine a_icmp_ne (pc' := 134) 136 dX4_step_131 (by decide) rfl (fun k78 => ?_) (fun k78 => ?_)
            · replace hf := (if_neg k78).symm.trans hf
              refine a_aload_n (pc' := 137) 3 dX4_step_136 rfl rfl rfl ?_
              refine a_aload_n (pc' := 138) 3 dX4_step_137 rfl rfl rfl ?_
              obtain ⟨x80, e79, hf⟩ := Option.bind_eq_some_iff.mp hf
              refine k_X4_120 (pc' := 141) (c_X4_nextLength l g F hz e79) ⟨Nat.le_of_ble_eq_true rfl, Nat.le_of_ble_eq_true rfl⟩ hz.1 (Nat.le_of_ble_eq_true rfl) dX4_step_138 rfl ?_
              obtain ⟨x82, e81, hf⟩ := Option.bind_eq_some_iff.mp hf
              refine k_X4_93 (pc' := 144) (c_X4_begins l g F hz e81) ⟨Nat.le_of_ble_eq_true rfl, Nat.le_of_ble_eq_true rfl⟩ hz.1 (Nat.le_of_ble_eq_true rfl) dX4_step_141 rfl (fun h83 hq => ?_)
              obtain ⟨hz1, hfr1⟩ := hq
              obtain ⟨M84, hf, hz⟩ := f_let_x (P := fun w => d_mod h83 w) hf hz1
              replace hfr := d_frm.tr hfr hfr1 (by omega)
              refine a_iconst (pc' := 145) (v := (0 : Int32)) dX4_step_144 rfl (by decide) ?_
              cases hf
              exact a_iret hr ⟨rfl, hz, hfr⟩ dX4_step_145
            · replace hf := (if_pos k78).symm.trans hf
              refine a_iconst (pc' := 135) (v := (-1 : Int32)) dX4_step_134 rfl (by decide) ?_
              cases hf
              exact a_iret hr ⟨rfl, hz, hfr⟩ dX4_step_135
    · replace hf := (if_neg k46).symm.trans hf
      refine a_aload_n (pc' := 24) 1 dX4_step_23 rfl rfl rfl ?_
      refine a_iload_n (pc' := 25) 0 dX4_step_24 rfl rfl rfl ?_
      refine a_aload_n (pc' := 26) 1 dX4_step_25 rfl rfl rfl ?_
      refine a_iload_n (pc' := 27) 0 dX4_step_26 rfl rfl rfl ?_
      obtain ⟨x86, e85, hf⟩ := Option.bind_eq_some_iff.mp hf
      refine k_X4_90 (pc' := 30) (c_X4_firstGap l g F hz e85) ⟨Nat.le_of_ble_eq_true rfl, Nat.le_of_ble_eq_true rfl⟩ hz.1 (Nat.le_of_ble_eq_true rfl) dX4_step_27 rfl ?_
      refine a_iconst (pc' := 31) (v := (3 : Int32)) dX4_step_30 rfl (by decide) ?_
      obtain ⟨x88, e87, hf⟩ := Option.bind_eq_some_iff.mp hf
      refine k_X4_97 (pc' := 34) (c_X4_lays l g F hz e87) ⟨Nat.le_of_ble_eq_true rfl, Nat.le_of_ble_eq_true rfl⟩ hz.1 (Nat.le_of_ble_eq_true rfl) dX4_step_31 rfl (fun h89 hq => ?_)
      obtain ⟨hz1, hfr1⟩ := hq
      obtain ⟨M90, hf, hz⟩ := f_let_x (P := fun w => d_mod h89 w) hf hz1
      replace hfr := d_frm.tr hfr hfr1 (by omega)
      refine a_iconst (pc' := 35) (v := (1 : Int32)) dX4_step_34 rfl (by decide) ?_
      cases hf
      exact a_iret hr ⟨rfl, hz, hfr⟩ dX4_step_35
/-! SlateRoofModel.workDay(I)I -/
set_option maxRecDepth 100000 in
def f_X4_workDay_L24 (F : Nat)  : Nat → Int32 → Int32 → d_M → Option (Int32 × Int32 × d_M)
  | 0, _, _, _ => none
  | n + 1, v2_24, v3_24, M_24 => (if v3_24 = ((-1 : Int32)) then some (v2_24, v3_24, M_24) else (f_X4_step F M_24).bind fun x25003 => f_let x25003.2 fun M25005 => f_X4_workDay_L24 F  n (v2_24 + v3_24) x25003.1 M25005)
set_option maxRecDepth 100000 in
def f_X4_workDay (F : Nat) (M : d_M) (a1 : Int32) : Option (Int32 × d_M) := (f_X4_goDay F M a1).bind fun x2 => f_let x2.2 fun M4 => (f_X4_isDry F M4).bind fun x6 => (if x6 = 0 then (f_X4_workDay_L24 F F ((0 : Int32)) ((-1 : Int32)) M4).bind fun o8 => some ((o8.1, o8.2.2)) else (f_X4_step F M4).bind fun x12 => f_let x12.2 fun M14 => (f_X4_workDay_L24 F F ((0 : Int32)) x12.1 M14).bind fun o15 => some ((o15.1, o15.2.2)))
set_option maxHeartbeats 4000000 in
set_option maxRecDepth 100000 in
theorem l_X4_workDay_L24 {p : Program} {l : Launch} {e : Env} {s : State} {m : MethodId} {args : Array Value} {below : List Frame} {meth : Method} {c : Code} {Q : State → Prop} {g : a_G} (F : Nat) {h : List va_E}  : ∀ (n : Nat) (v2_24 : Int32) (v3_24 : Int32) (M_24 : d_M) (o : Int32 × Int32 × d_M), f_X4_workDay_L24 F  n v2_24 v3_24 M_24 = some o → (∀ e9 : Int32 × Int32 × d_M, o = e9 → ∀ h1, d_mod h1 e9.2.2 → d_frm 55 6 h h1 → a_W p l e (a_rm 5 110) s m args below meth c Q RX4 cX4_workDay 4 g 0 0 none 41 [(2, .int e9.1)] [] h1) → ∀ h1, d_mod h1 M_24 → d_frm 55 6 h h1 → a_W p l e (a_rm 5 110) s m args below meth c Q RX4 cX4_workDay 4 g 0 0 none 24 [(0, .ref 55), (2, .int v2_24), (3, .int v3_24)] [] h1 := by
  intro n
  induction n with
  | zero => intro v2_24 v3_24 M_24 o hf; exact nomatch (show (none : Option (Int32 × Int32 × d_M)) = some o from hf)
  | succ n ih =>
    intro v2_24 v3_24 M_24 o hf hX0 h1 hz hfr
    rw [f_X4_workDay_L24] at hf
    refine a_iload_n (pc' := 25) 2 dX4_workDay_24 rfl rfl rfl ?_
    refine a_iconst (pc' := 26) (v := (-1 : Int32)) dX4_workDay_25 rfl (by decide) ?_
    refine a_icmp_eq (pc' := 29) 41 dX4_workDay_26 (by decide) rfl (fun k25001 => ?_) (fun k25001 => ?_)
    · replace hf := (if_pos k25001).symm.trans hf
      cases hf
      refine a_sub [1] rfl ?_
      exact hX0 _ rfl _ hz hfr
    · replace hf := (if_neg k25001).symm.trans hf
      refine a_iload_n (pc' := 30) 1 dX4_workDay_29 rfl rfl rfl ?_
      refine a_iload_n (pc' := 31) 2 dX4_workDay_30 rfl rfl rfl ?_
      refine a_iadd (pc' := 32) dX4_workDay_31 rfl ?_
      refine a_istore_n (pc' := 33) (ls' := [(2, .int (v2_24 + v3_24)), (0, .ref 55), (3, .int v3_24)]) dX4_workDay_32 rfl (by decide) rfl rfl ?_
      refine a_aload_n (pc' := 34) 1 dX4_workDay_33 rfl rfl rfl ?_
      obtain ⟨x25003, e25002, hf⟩ := Option.bind_eq_some_iff.mp hf
      refine k_X4_123 (pc' := 37) (c_X4_step l g F hz e25002) ⟨Nat.le_of_ble_eq_true rfl, Nat.le_of_ble_eq_true rfl⟩ hz.1 (Nat.le_of_ble_eq_true rfl) dX4_workDay_34 rfl (fun h25004 hq => ?_)
      obtain ⟨hz1, hfr1⟩ := hq
      obtain ⟨M25005, hf, hz⟩ := f_let_x (P := fun w => d_mod h25004 w) hf hz1
      replace hfr := d_frm.tr hfr hfr1 (by omega)
      refine a_istore_n (pc' := 38) (ls' := [(3, .int x25003.1), (2, .int (v2_24 + v3_24)), (0, .ref 55)]) dX4_workDay_37 rfl (by decide) rfl rfl ?_
      refine a_goto 24 dX4_workDay_38 (by decide) ?_
      refine a_sub [2, 1, 0] rfl ?_
      exact ih _ _ _ _ hf hX0 _ hz hfr
set_option maxHeartbeats 4000000 in
set_option maxRecDepth 100000 in
theorem c_X4_workDay (l : Launch) (g : a_G) (F : Nat) {h : List va_E} {M : d_M} {a1 : Int32} (hz : d_mod h M) {out : Int32 × d_M} (hf : f_X4_workDay F M a1 = some out) : a_CT l g yX4_workDay cX4_workDay 4 (some .int) (a_rm 5 110) [.ref 55, .int a1] h none none (fun r h' => r = some (.int out.1) ∧ d_mod h' out.2 ∧ d_frm 55 6 h h') := by
  refine a_enter ⟨by decide, rfl, Nat.le_of_ble_eq_true rfl⟩ (fun p e s m args below meth c hr hin => ?_)
  unfold f_X4_workDay at hf
  have hfr : d_frm 55 6 h h := d_frm.rf
  refine a_sub (ls' := [(0, .ref 55), (1, .int a1)]) [0, 1] rfl ?_
  refine a_aload_n (pc' := 1) 0 dX4_workDay_0 rfl rfl rfl ?_
  refine a_iload_n (pc' := 2) 1 dX4_workDay_1 rfl rfl rfl ?_
  obtain ⟨x2, e1, hf⟩ := Option.bind_eq_some_iff.mp hf
  refine k_X4_114 (pc' := 5) (c_X4_goDay l g F hz e1) ⟨Nat.le_of_ble_eq_true rfl, Nat.le_of_ble_eq_true rfl⟩ hz.1 (Nat.le_of_ble_eq_true rfl) dX4_workDay_2 rfl (fun h3 hq => ?_)
  obtain ⟨hz1, hfr1⟩ := hq
  obtain ⟨M4, hf, hz⟩ := f_let_x (P := fun w => d_mod h3 w) hf hz1
  replace hfr := d_frm.tr hfr hfr1 (by omega)
  refine a_pop (pc' := 6) dX4_workDay_5 rfl rfl ?_
  refine a_iconst (pc' := 7) (v := (0 : Int32)) dX4_workDay_6 rfl (by decide) ?_
  refine a_istore_n (pc' := 8) (ls' := [(2, .int ((0 : Int32))), (0, .ref 55), (1, .int a1)]) dX4_workDay_7 rfl (by decide) rfl rfl ?_
  refine a_aload_n (pc' := 9) 1 dX4_workDay_8 rfl rfl rfl ?_
  obtain ⟨x6, e5, hf⟩ := Option.bind_eq_some_iff.mp hf
  refine k_X4_80 (pc' := 12) (c_X4_isDry l g F hz e5) ⟨Nat.le_of_ble_eq_true rfl, Nat.le_of_ble_eq_true rfl⟩ hz.1 (Nat.le_of_ble_eq_true rfl) dX4_workDay_9 rfl ?_
  refine a_if_eq (pc' := 15) 22 dX4_workDay_12 (by decide) rfl (fun k7 => ?_) (fun k7 => ?_)
  · replace hf := (if_pos k7).symm.trans hf
    refine a_iconst (pc' := 23) (v := (-1 : Int32)) dX4_workDay_22 rfl (by decide) ?_
    refine a_istore_n (pc' := 24) (ls' := [(3, .int ((-1 : Int32))), (2, .int ((0 : Int32))), (0, .ref 55), (1, .int a1)]) dX4_workDay_23 rfl (by decide) rfl rfl ?_
    obtain ⟨o8, e9, hf⟩ := Option.bind_eq_some_iff.mp hf
    refine a_sub [2, 1, 0] rfl ?_
    refine l_X4_workDay_L24 F   F _ _ _ o8 e9 (fun e9 he9 h10 hz hfr => ?_) _ hz hfr
    subst he9
    refine a_iload_n (pc' := 42) 0 dX4_workDay_41 rfl rfl rfl ?_
    cases hf
    exact a_iret hr ⟨rfl, hz, hfr⟩ dX4_workDay_42
  · replace hf := (if_neg k7).symm.trans hf
    refine a_aload_n (pc' := 16) 1 dX4_workDay_15 rfl rfl rfl ?_
    obtain ⟨x12, e11, hf⟩ := Option.bind_eq_some_iff.mp hf
    refine k_X4_123 (pc' := 19) (c_X4_step l g F hz e11) ⟨Nat.le_of_ble_eq_true rfl, Nat.le_of_ble_eq_true rfl⟩ hz.1 (Nat.le_of_ble_eq_true rfl) dX4_workDay_16 rfl (fun h13 hq => ?_)
    obtain ⟨hz1, hfr1⟩ := hq
    obtain ⟨M14, hf, hz⟩ := f_let_x (P := fun w => d_mod h13 w) hf hz1
    replace hfr := d_frm.tr hfr hfr1 (by omega)
    refine a_goto 23 dX4_workDay_19 (by decide) ?_
    refine a_istore_n (pc' := 24) (ls' := [(3, .int x12.1), (2, .int ((0 : Int32))), (0, .ref 55), (1, .int a1)]) dX4_workDay_23 rfl (by decide) rfl rfl ?_
    obtain ⟨o15, e16, hf⟩ := Option.bind_eq_some_iff.mp hf
    refine a_sub [2, 1, 0] rfl ?_
    refine l_X4_workDay_L24 F   F _ _ _ o15 e16 (fun e9 he9 h17 hz hfr => ?_) _ hz hfr
    subst he9
    refine a_iload_n (pc' := 42) 0 dX4_workDay_41 rfl rfl rfl ?_
    cases hf
    exact a_iret hr ⟨rfl, hz, hfr⟩ dX4_workDay_42
/-! SlateRoofModel.append(I)I -/
set_option maxRecDepth 100000 in
def f_X4_append (F : Nat) (M : d_M) (a1 : Int32) : Option (Int32 × d_M) := f_let (ms_thrown M ((0 : Int32))) fun M2 => (f_X4_within F a1 ((33 : Int32)) ((126 : Int32))).bind fun x4 => (if x4 = 0 then (f_X4_fails F M2 ((1 : Int32))).bind fun x16 => f_let x16.2 fun M18 => some ((x16.1, M18)) else (if (m_length M2) = ((60 : Int32)) then (f_X4_fails F M2 ((2 : Int32))).bind fun x12 => f_let x12.2 fun M14 => some ((x12.1, M14)) else f_grd (m_length M2) 60 (f_let (ms_text M2 (upd (m_text M2) (m_length M2).toNatClampNeg a1)) fun M8 => f_let (ms_length M8 ((m_length M8) + ((1 : Int32)))) fun M10 => some ((m_length M10, M10)))))
set_option maxHeartbeats 4000000 in
set_option maxRecDepth 100000 in
theorem c_X4_append (l : Launch) (g : a_G) (F : Nat) {h : List va_E} {M : d_M} {a1 : Int32} (hz : d_mod h M) {out : Int32 × d_M} (hf : f_X4_append F M a1 = some out) : a_CT l g yX4_append cX4_append 2 (some .int) (a_rm 1 22) [.ref 55, .int a1] h none none (fun r h' => r = some (.int out.1) ∧ d_mod h' out.2 ∧ d_frm 55 6 h h') := by
  refine a_enter ⟨by decide, rfl, Nat.le_of_ble_eq_true rfl⟩ (fun p e s m args below meth c hr hin => ?_)
  unfold f_X4_append at hf
  have hfr : d_frm 55 6 h h := d_frm.rf
  refine a_sub (ls' := [(0, .ref 55), (1, .int a1)]) [0, 1] rfl ?_
  refine a_aload_n (pc' := 1) 0 dX4_append_0 rfl rfl rfl ?_
  refine a_iconst (pc' := 2) (v := (0 : Int32)) dX4_append_1 rfl (by decide) ?_
  refine pt_X4_25 (pc' := 5) hz dX4_append_2 rfl (fun h1 hz1 hfr1 => ?_)
  obtain ⟨M2, hf, hz⟩ := f_let_x (P := fun w => d_mod h1 w) hf hz1
  replace hfr := d_frm.tr hfr hfr1 (by omega)
  refine a_iload_n (pc' := 6) 1 dX4_append_5 rfl rfl rfl ?_
  refine a_bipush (pc' := 8) (v := (33 : Int32)) dX4_append_6 rfl (by decide) ?_
  refine a_bipush (pc' := 10) (v := (126 : Int32)) dX4_append_8 rfl (by decide) ?_
  obtain ⟨x4, e3, hf⟩ := Option.bind_eq_some_iff.mp hf
  refine k_X4_29 (pc' := 13) (c_X4_within l g F e3) ⟨Nat.le_of_ble_eq_true rfl, Nat.le_of_ble_eq_true rfl⟩ (Nat.le_of_ble_eq_true rfl) dX4_append_10 rfl ?_
  refine a_if_ne (pc' := 16) 22 dX4_append_13 (by decide) rfl (fun k5 => ?_) (fun k5 => ?_)
  · replace hf := (if_neg k5).symm.trans hf
    refine a_aload_n (pc' := 23) 0 dX4_append_22 rfl rfl rfl ?_
    refine g_X4_126 (pc' := 26) hz.1 rfl dX4_append_23 rfl ?_
    refine a_bipush (pc' := 28) (v := (60 : Int32)) dX4_append_26 rfl (by decide) ?_
    refine a_icmp_ne (pc' := 31) 37 dX4_append_28 (by decide) rfl (fun k6 => ?_) (fun k6 => ?_)
    · replace hf := (if_neg k6).symm.trans hf
      refine a_aload_n (pc' := 38) 0 dX4_append_37 rfl rfl rfl ?_
      refine g_X4_19 (pc' := 41) hz.1 rfl dX4_append_38 rfl ?_
      refine a_aload_n (pc' := 42) 0 dX4_append_41 rfl rfl rfl ?_
      refine g_X4_126 (pc' := 45) hz.1 rfl dX4_append_42 rfl ?_
      refine a_iload_n (pc' := 46) 1 dX4_append_45 rfl rfl rfl ?_
      obtain ⟨hg, hf⟩ := f_grd_x hf
      refine b_iast (pc' := 47) hz.2.2.2.2.1 hg dX4_append_46 rfl (fun h7 hz1 hfr1 => ?_)
      obtain ⟨hz1, hfr1⟩ := d_ma_text hz hz1 hfr1
      obtain ⟨M8, hf, hz⟩ := f_let_x (P := fun w => d_mod h7 w) hf hz1
      replace hfr := d_frm.tr hfr hfr1 (by omega)
      refine a_aload_n (pc' := 48) 0 dX4_append_47 rfl rfl rfl ?_
      refine a_dup (pc' := 49) dX4_append_48 rfl rfl ?_
      refine g_X4_126 (pc' := 52) hz.1 rfl dX4_append_49 rfl ?_
      refine a_iconst (pc' := 53) (v := (1 : Int32)) dX4_append_52 rfl (by decide) ?_
      refine a_iadd (pc' := 54) dX4_append_53 rfl ?_
      refine pt_X4_126 (pc' := 57) hz dX4_append_54 rfl (fun h9 hz1 hfr1 => ?_)
      obtain ⟨M10, hf, hz⟩ := f_let_x (P := fun w => d_mod h9 w) hf hz1
      replace hfr := d_frm.tr hfr hfr1 (by omega)
      refine a_aload_n (pc' := 58) 0 dX4_append_57 rfl rfl rfl ?_
      refine g_X4_126 (pc' := 61) hz.1 rfl dX4_append_58 rfl ?_
      cases hf
      exact a_iret hr ⟨rfl, hz, hfr⟩ dX4_append_61
    · replace hf := (if_pos k6).symm.trans hf
      refine a_aload_n (pc' := 32) 0 dX4_append_31 rfl rfl rfl ?_
      refine a_iconst (pc' := 33) (v := (2 : Int32)) dX4_append_32 rfl (by decide) ?_
      obtain ⟨x12, e11, hf⟩ := Option.bind_eq_some_iff.mp hf
      refine k_X4_60 (pc' := 36) (c_X4_fails l g F hz e11) ⟨Nat.le_of_ble_eq_true rfl, Nat.le_of_ble_eq_true rfl⟩ hz.1 (Nat.le_of_ble_eq_true rfl) dX4_append_33 rfl (fun h13 hq => ?_)
      obtain ⟨hz1, hfr1⟩ := hq
      obtain ⟨M14, hf, hz⟩ := f_let_x (P := fun w => d_mod h13 w) hf hz1
      replace hfr := d_frm.tr hfr hfr1 (by omega)
      cases hf
      exact a_iret hr ⟨rfl, hz, hfr⟩ dX4_append_36
  · replace hf := (if_pos k5).symm.trans hf
    refine a_aload_n (pc' := 17) 0 dX4_append_16 rfl rfl rfl ?_
    refine a_iconst (pc' := 18) (v := (1 : Int32)) dX4_append_17 rfl (by decide) ?_
    obtain ⟨x16, e15, hf⟩ := Option.bind_eq_some_iff.mp hf
    refine k_X4_60 (pc' := 21) (c_X4_fails l g F hz e15) ⟨Nat.le_of_ble_eq_true rfl, Nat.le_of_ble_eq_true rfl⟩ hz.1 (Nat.le_of_ble_eq_true rfl) dX4_append_18 rfl (fun h17 hq => ?_)
    obtain ⟨hz1, hfr1⟩ := hq
    obtain ⟨M18, hf, hz⟩ := f_let_x (P := fun w => d_mod h17 w) hf hz1
    replace hfr := d_frm.tr hfr hfr1 (by omega)
    cases hf
    exact a_iret hr ⟨rfl, hz, hfr⟩ dX4_append_21
/-! SlateRoofModel.clearBuffer()I -/
set_option maxRecDepth 100000 in
def f_X4_clearBuffer (F : Nat) (M : d_M) : Option (Int32 × d_M) := f_let (ms_thrown M ((0 : Int32))) fun M2 => f_let (ms_length M2 ((0 : Int32))) fun M4 => some ((m_length M2, M4))
set_option maxHeartbeats 4000000 in
set_option maxRecDepth 100000 in
theorem c_X4_clearBuffer (l : Launch) (g : a_G) (F : Nat) {h : List va_E} {M : d_M} (hz : d_mod h M) {out : Int32 × d_M} (hf : f_X4_clearBuffer F M = some out) : a_CT l g yX4_clearBuffer cX4_clearBuffer 2 (some .int) (a_rm 0 0) [.ref 55] h none none (fun r h' => r = some (.int out.1) ∧ d_mod h' out.2 ∧ d_frm 55 6 h h') := by
  refine a_enter ⟨by decide, rfl, Nat.le_of_ble_eq_true rfl⟩ (fun p e s m args below meth c hr hin => ?_)
  unfold f_X4_clearBuffer at hf
  have hfr : d_frm 55 6 h h := d_frm.rf
  refine a_sub (ls' := [(0, .ref 55)]) [0] rfl ?_
  refine a_aload_n (pc' := 1) 0 dX4_clearBuffer_0 rfl rfl rfl ?_
  refine a_iconst (pc' := 2) (v := (0 : Int32)) dX4_clearBuffer_1 rfl (by decide) ?_
  refine pt_X4_25 (pc' := 5) hz dX4_clearBuffer_2 rfl (fun h1 hz1 hfr1 => ?_)
  obtain ⟨M2, hf, hz⟩ := f_let_x (P := fun w => d_mod h1 w) hf hz1
  replace hfr := d_frm.tr hfr hfr1 (by omega)
  refine a_aload_n (pc' := 6) 0 dX4_clearBuffer_5 rfl rfl rfl ?_
  refine g_X4_126 (pc' := 9) hz.1 rfl dX4_clearBuffer_6 rfl ?_
  refine a_istore_n (pc' := 10) (ls' := [(1, .int (m_length M2)), (0, .ref 55)]) dX4_clearBuffer_9 rfl (by decide) rfl rfl ?_
  refine a_aload_n (pc' := 11) 1 dX4_clearBuffer_10 rfl rfl rfl ?_
  refine a_iconst (pc' := 12) (v := (0 : Int32)) dX4_clearBuffer_11 rfl (by decide) ?_
  refine pt_X4_126 (pc' := 15) hz dX4_clearBuffer_12 rfl (fun h3 hz1 hfr1 => ?_)
  obtain ⟨M4, hf, hz⟩ := f_let_x (P := fun w => d_mod h3 w) hf hz1
  replace hfr := d_frm.tr hfr hfr1 (by omega)
  refine a_iload_n (pc' := 16) 0 dX4_clearBuffer_15 rfl rfl rfl ?_
  cases hf
  exact a_iret hr ⟨rfl, hz, hfr⟩ dX4_clearBuffer_16
/-! SlateRoofModel.comes(II)V -/
set_option maxRecDepth 100000 in
def f_X4_comes_L2 (F : Nat) (a1 : Int32) (a2 : Int32) : Nat → Int32 → d_M → Option (Int32 × d_M)
  | 0, _, _ => none
  | n + 1, v3_2, M_2 => (if a2 ≤ v3_2 then some (v3_2, M_2) else (if ((200 : Int32)) ≤ (m_days M_2) then f_let (ms_days M_2 ((m_days M_2) + ((1 : Int32)))) fun M3004 => f_X4_comes_L2 F a1 a2 n (v3_2 + (1 : Int32)) M3004 else f_grd (m_days M_2) 200 (f_let (ms_weather M_2 (upd (m_weather M_2) (m_days M_2).toNatClampNeg a1)) fun M3006 => f_let (ms_days M3006 ((m_days M3006) + ((1 : Int32)))) fun M3008 => f_X4_comes_L2 F a1 a2 n (v3_2 + (1 : Int32)) M3008)))
set_option maxRecDepth 100000 in
def f_X4_comes (F : Nat) (M : d_M) (a1 : Int32) (a2 : Int32) : Option (d_M) := (f_X4_comes_L2 F a1 a2 F ((0 : Int32)) M).bind fun o1 => some (o1.2)
set_option maxHeartbeats 4000000 in
set_option maxRecDepth 100000 in
theorem l_X4_comes_L2 {p : Program} {l : Launch} {e : Env} {s : State} {m : MethodId} {args : Array Value} {below : List Frame} {meth : Method} {c : Code} {Q : State → Prop} {g : a_G} (F : Nat) {h : List va_E} (a1 : Int32) (a2 : Int32) : ∀ (n : Nat) (v3_2 : Int32) (M_2 : d_M) (o : Int32 × d_M), f_X4_comes_L2 F a1 a2 n v3_2 M_2 = some o → (∀ e9 : Int32 × d_M, o = e9 → ∀ h1, d_mod h1 e9.2 → d_frm 55 6 h h1 → a_W p l e (a_rm 0 0) s m args below meth c Q RX4 cX4_comes 4 g 0 0 none 43 [] [] h1) → ∀ h1, d_mod h1 M_2 → d_frm 55 6 h h1 → a_W p l e (a_rm 0 0) s m args below meth c Q RX4 cX4_comes 4 g 0 0 none 2 [(0, .ref 55), (1, .int a1), (2, .int a2), (3, .int v3_2)] [] h1 := by
  intro n
  induction n with
  | zero => intro v3_2 M_2 o hf; exact nomatch (show (none : Option (Int32 × d_M)) = some o from hf)
  | succ n ih =>
    intro v3_2 M_2 o hf hX0 h1 hz hfr
    rw [f_X4_comes_L2] at hf
    refine a_iload_n (pc' := 3) 3 dX4_comes_2 rfl rfl rfl ?_
    refine a_iload_n (pc' := 4) 2 dX4_comes_3 rfl rfl rfl ?_
    refine a_icmp_ge (pc' := 7) 43 dX4_comes_4 (by decide) rfl (fun k3001 => ?_) (fun k3001 => ?_)
    · replace hf := (if_pos k3001).symm.trans hf
      cases hf
      refine a_sub [] rfl ?_
      exact hX0 _ rfl _ hz hfr
    · replace hf := (if_neg k3001).symm.trans hf
      refine a_aload_n (pc' := 8) 0 dX4_comes_7 rfl rfl rfl ?_
      refine g_X4_129 (pc' := 11) hz.1 rfl dX4_comes_8 rfl ?_
      refine a_sipush (pc' := 14) (v := (200 : Int32)) dX4_comes_11 rfl (by decide) ?_
      refine a_icmp_ge (pc' := 17) 27 dX4_comes_14 (by decide) rfl (fun k3002 => ?_) (fun k3002 => ?_)
      · replace hf := (if_pos k3002).symm.trans hf
        refine a_aload_n (pc' := 28) 0 dX4_comes_27 rfl rfl rfl ?_
        refine a_dup (pc' := 29) dX4_comes_28 rfl rfl ?_
        refine g_X4_129 (pc' := 32) hz.1 rfl dX4_comes_29 rfl ?_
        refine a_iconst (pc' := 33) (v := (1 : Int32)) dX4_comes_32 rfl (by decide) ?_
        refine a_iadd (pc' := 34) dX4_comes_33 rfl ?_
        refine pt_X4_129 (pc' := 37) hz dX4_comes_34 rfl (fun h3003 hz1 hfr1 => ?_)
        obtain ⟨M3004, hf, hz⟩ := f_let_x (P := fun w => d_mod h3003 w) hf hz1
        replace hfr := d_frm.tr hfr hfr1 (by omega)
        refine a_iinc (pc' := 40) (v := v3_2 + (1 : Int32)) (ls' := [(3, .int (v3_2 + (1 : Int32))), (0, .ref 55), (1, .int a1), (2, .int a2)]) 3 dX4_comes_37 rfl (by rfl) (by decide) rfl rfl ?_
        refine a_goto 2 dX4_comes_40 (by decide) ?_
        refine a_sub [1, 2, 3, 0] rfl ?_
        exact ih _ _ _ hf hX0 _ hz hfr
      · replace hf := (if_neg k3002).symm.trans hf
        refine a_aload_n (pc' := 18) 0 dX4_comes_17 rfl rfl rfl ?_
        refine g_X4_22 (pc' := 21) hz.1 rfl dX4_comes_18 rfl ?_
        refine a_aload_n (pc' := 22) 0 dX4_comes_21 rfl rfl rfl ?_
        refine g_X4_129 (pc' := 25) hz.1 rfl dX4_comes_22 rfl ?_
        refine a_iload_n (pc' := 26) 1 dX4_comes_25 rfl rfl rfl ?_
        obtain ⟨hg, hf⟩ := f_grd_x hf
        refine b_iast (pc' := 27) hz.2.2.2.2.2 hg dX4_comes_26 rfl (fun h3005 hz1 hfr1 => ?_)
        obtain ⟨hz1, hfr1⟩ := d_ma_weather hz hz1 hfr1
        obtain ⟨M3006, hf, hz⟩ := f_let_x (P := fun w => d_mod h3005 w) hf hz1
        replace hfr := d_frm.tr hfr hfr1 (by omega)
        refine a_aload_n (pc' := 28) 0 dX4_comes_27 rfl rfl rfl ?_
        refine a_dup (pc' := 29) dX4_comes_28 rfl rfl ?_
        refine g_X4_129 (pc' := 32) hz.1 rfl dX4_comes_29 rfl ?_
        refine a_iconst (pc' := 33) (v := (1 : Int32)) dX4_comes_32 rfl (by decide) ?_
        refine a_iadd (pc' := 34) dX4_comes_33 rfl ?_
        refine pt_X4_129 (pc' := 37) hz dX4_comes_34 rfl (fun h3007 hz1 hfr1 => ?_)
        obtain ⟨M3008, hf, hz⟩ := f_let_x (P := fun w => d_mod h3007 w) hf hz1
        replace hfr := d_frm.tr hfr hfr1 (by omega)
        refine a_iinc (pc' := 40) (v := v3_2 + (1 : Int32)) (ls' := [(3, .int (v3_2 + (1 : Int32))), (0, .ref 55), (1, .int a1), (2, .int a2)]) 3 dX4_comes_37 rfl (by rfl) (by decide) rfl rfl ?_
        refine a_goto 2 dX4_comes_40 (by decide) ?_
        refine a_sub [1, 2, 3, 0] rfl ?_
        exact ih _ _ _ hf hX0 _ hz hfr
set_option maxHeartbeats 4000000 in
set_option maxRecDepth 100000 in
theorem c_X4_comes (l : Launch) (g : a_G) (F : Nat) {h : List va_E} {M : d_M} {a1 : Int32} {a2 : Int32} (hz : d_mod h M) {out : d_M} (hf : f_X4_comes F M a1 a2 = some out) : a_CT l g yX4_comes cX4_comes 4 none (a_rm 0 0) [.ref 55, .int a1, .int a2] h none none (fun r h' => r = none ∧ d_mod h' out ∧ d_frm 55 6 h h') := by
  refine a_enter ⟨by decide, rfl, Nat.le_of_ble_eq_true rfl⟩ (fun p e s m args below meth c hr hin => ?_)
  unfold f_X4_comes at hf
  have hfr : d_frm 55 6 h h := d_frm.rf
  refine a_sub (ls' := [(0, .ref 55), (1, .int a1), (2, .int a2)]) [0, 1, 2] rfl ?_
  refine a_iconst (pc' := 1) (v := (0 : Int32)) dX4_comes_0 rfl (by decide) ?_
  refine a_istore_n (pc' := 2) (ls' := [(3, .int ((0 : Int32))), (0, .ref 55), (1, .int a1), (2, .int a2)]) dX4_comes_1 rfl (by decide) rfl rfl ?_
  obtain ⟨o1, e2, hf⟩ := Option.bind_eq_some_iff.mp hf
  refine a_sub [1, 2, 3, 0] rfl ?_
  refine l_X4_comes_L2 F a1 a2  F _ _ o1 e2 (fun e9 he9 h3 hz hfr => ?_) _ hz hfr
  subst he9
  cases hf
  exact a_vret hr ⟨rfl, hz, hfr⟩ dX4_comes_43
/-! SlateRoofModel.read()I -/
set_option maxRecDepth 100000 in
def f_X4_read_L19 (F : Nat)  : Nat → Int32 → Int32 → Int32 → Int32 → d_M → Option ((Int32 × Int32 × Int32 × Int32 × d_M) ⊕ (Int32 × Int32 × Int32 × Int32 × d_M))
  | 0, _, _, _, _, _ => none
  | n + 1, v1_19, v2_19, v3_19, v4_19, M_19 => (if (m_length M_19) ≤ v4_19 then some (.inl (v1_19, v2_19, v3_19, v4_19, M_19)) else f_grd v4_19 60 ((f_X4_within F ((m_text M_19) v4_19.toNatClampNeg) ((48 : Int32)) ((57 : Int32))).bind fun x20003 => (if ((m_text M_19) v4_19.toNatClampNeg) = ((100 : Int32)) then (if v1_19 = ((2 : Int32)) then (if x20003 = 0 then (if x20003 = 0 then some (.inr ((v1_19, v2_19, v3_19, v4_19, M_19))) else (if v1_19 = ((2 : Int32)) then f_X4_read_L19 F  n ((4 : Int32)) v2_19 (((((10 : Int32)) * v3_19) + ((m_text M_19) v4_19.toNatClampNeg)) - ((48 : Int32))) (v4_19 + (1 : Int32)) M_19 else (if v1_19 = ((3 : Int32)) then f_X4_read_L19 F  n ((4 : Int32)) v2_19 (((((10 : Int32)) * v3_19) + ((m_text M_19) v4_19.toNatClampNeg)) - ((48 : Int32))) (v4_19 + (1 : Int32)) M_19 else some (.inr ((v1_19, v2_19, v3_19, v4_19, M_19)))))) else (if v1_19 = ((1 : Int32)) then (if ((m_text M_19) v4_19.toNatClampNeg) = ((48 : Int32)) then (if x20003 = 0 then some (.inr ((v1_19, v2_19, v3_19, v4_19, M_19))) else (if v1_19 = ((2 : Int32)) then f_X4_read_L19 F  n ((4 : Int32)) v2_19 (((((10 : Int32)) * v3_19) + ((m_text M_19) v4_19.toNatClampNeg)) - ((48 : Int32))) (v4_19 + (1 : Int32)) M_19 else (if v1_19 = ((3 : Int32)) then f_X4_read_L19 F  n ((4 : Int32)) v2_19 (((((10 : Int32)) * v3_19) + ((m_text M_19) v4_19.toNatClampNeg)) - ((48 : Int32))) (v4_19 + (1 : Int32)) M_19 else some (.inr ((v1_19, v2_19, v3_19, v4_19, M_19)))))) else (if ((m_text M_19) v4_19.toNatClampNeg) = ((49 : Int32)) then f_X4_read_L19 F  n ((2 : Int32)) v2_19 (((m_text M_19) v4_19.toNatClampNeg) - ((48 : Int32))) (v4_19 + (1 : Int32)) M_19 else f_X4_read_L19 F  n ((3 : Int32)) v2_19 (((m_text M_19) v4_19.toNatClampNeg) - ((48 : Int32))) (v4_19 + (1 : Int32)) M_19)) else (if x20003 = 0 then some (.inr ((v1_19, v2_19, v3_19, v4_19, M_19))) else (if v1_19 = ((2 : Int32)) then f_X4_read_L19 F  n ((4 : Int32)) v2_19 (((((10 : Int32)) * v3_19) + ((m_text M_19) v4_19.toNatClampNeg)) - ((48 : Int32))) (v4_19 + (1 : Int32)) M_19 else (if v1_19 = ((3 : Int32)) then f_X4_read_L19 F  n ((4 : Int32)) v2_19 (((((10 : Int32)) * v3_19) + ((m_text M_19) v4_19.toNatClampNeg)) - ((48 : Int32))) (v4_19 + (1 : Int32)) M_19 else some (.inr ((v1_19, v2_19, v3_19, v4_19, M_19)))))))) else (if v1_19 ≤ 0 then (if ((m_text M_19) v4_19.toNatClampNeg) = ((100 : Int32)) then f_X4_read_L19 F  n ((1 : Int32)) ((0 : Int32)) ((1 : Int32)) (v4_19 + (1 : Int32)) M_19 else (if ((m_text M_19) v4_19.toNatClampNeg) = ((114 : Int32)) then f_X4_read_L19 F  n ((1 : Int32)) ((1 : Int32)) ((1 : Int32)) (v4_19 + (1 : Int32)) M_19 else f_X4_read_L19 F  n ((1 : Int32)) ((2 : Int32)) ((1 : Int32)) (v4_19 + (1 : Int32)) M_19)) else (f_X4_comes F M_19 v2_19 v3_19).bind fun x20023 => f_let x20023 fun M20025 => (if ((m_text M_19) v4_19.toNatClampNeg) = ((100 : Int32)) then f_X4_read_L19 F  n ((1 : Int32)) ((0 : Int32)) ((1 : Int32)) (v4_19 + (1 : Int32)) M20025 else (if ((m_text M_19) v4_19.toNatClampNeg) = ((114 : Int32)) then f_X4_read_L19 F  n ((1 : Int32)) ((1 : Int32)) ((1 : Int32)) (v4_19 + (1 : Int32)) M20025 else f_X4_read_L19 F  n ((1 : Int32)) ((2 : Int32)) ((1 : Int32)) (v4_19 + (1 : Int32)) M20025)))) else (if ((m_text M_19) v4_19.toNatClampNeg) = ((114 : Int32)) then (if v1_19 = ((2 : Int32)) then (if x20003 = 0 then (if x20003 = 0 then some (.inr ((v1_19, v2_19, v3_19, v4_19, M_19))) else (if v1_19 = ((2 : Int32)) then f_X4_read_L19 F  n ((4 : Int32)) v2_19 (((((10 : Int32)) * v3_19) + ((m_text M_19) v4_19.toNatClampNeg)) - ((48 : Int32))) (v4_19 + (1 : Int32)) M_19 else (if v1_19 = ((3 : Int32)) then f_X4_read_L19 F  n ((4 : Int32)) v2_19 (((((10 : Int32)) * v3_19) + ((m_text M_19) v4_19.toNatClampNeg)) - ((48 : Int32))) (v4_19 + (1 : Int32)) M_19 else some (.inr ((v1_19, v2_19, v3_19, v4_19, M_19)))))) else (if v1_19 = ((1 : Int32)) then (if ((m_text M_19) v4_19.toNatClampNeg) = ((48 : Int32)) then (if x20003 = 0 then some (.inr ((v1_19, v2_19, v3_19, v4_19, M_19))) else (if v1_19 = ((2 : Int32)) then f_X4_read_L19 F  n ((4 : Int32)) v2_19 (((((10 : Int32)) * v3_19) + ((m_text M_19) v4_19.toNatClampNeg)) - ((48 : Int32))) (v4_19 + (1 : Int32)) M_19 else (if v1_19 = ((3 : Int32)) then f_X4_read_L19 F  n ((4 : Int32)) v2_19 (((((10 : Int32)) * v3_19) + ((m_text M_19) v4_19.toNatClampNeg)) - ((48 : Int32))) (v4_19 + (1 : Int32)) M_19 else some (.inr ((v1_19, v2_19, v3_19, v4_19, M_19)))))) else (if ((m_text M_19) v4_19.toNatClampNeg) = ((49 : Int32)) then f_X4_read_L19 F  n ((2 : Int32)) v2_19 (((m_text M_19) v4_19.toNatClampNeg) - ((48 : Int32))) (v4_19 + (1 : Int32)) M_19 else f_X4_read_L19 F  n ((3 : Int32)) v2_19 (((m_text M_19) v4_19.toNatClampNeg) - ((48 : Int32))) (v4_19 + (1 : Int32)) M_19)) else (if x20003 = 0 then some (.inr ((v1_19, v2_19, v3_19, v4_19, M_19))) else (if v1_19 = ((2 : Int32)) then f_X4_read_L19 F  n ((4 : Int32)) v2_19 (((((10 : Int32)) * v3_19) + ((m_text M_19) v4_19.toNatClampNeg)) - ((48 : Int32))) (v4_19 + (1 : Int32)) M_19 else (if v1_19 = ((3 : Int32)) then f_X4_read_L19 F  n ((4 : Int32)) v2_19 (((((10 : Int32)) * v3_19) + ((m_text M_19) v4_19.toNatClampNeg)) - ((48 : Int32))) (v4_19 + (1 : Int32)) M_19 else some (.inr ((v1_19, v2_19, v3_19, v4_19, M_19)))))))) else (if v1_19 ≤ 0 then (if ((m_text M_19) v4_19.toNatClampNeg) = ((100 : Int32)) then f_X4_read_L19 F  n ((1 : Int32)) ((0 : Int32)) ((1 : Int32)) (v4_19 + (1 : Int32)) M_19 else (if ((m_text M_19) v4_19.toNatClampNeg) = ((114 : Int32)) then f_X4_read_L19 F  n ((1 : Int32)) ((1 : Int32)) ((1 : Int32)) (v4_19 + (1 : Int32)) M_19 else f_X4_read_L19 F  n ((1 : Int32)) ((2 : Int32)) ((1 : Int32)) (v4_19 + (1 : Int32)) M_19)) else (f_X4_comes F M_19 v2_19 v3_19).bind fun x20047 => f_let x20047 fun M20049 => (if ((m_text M_19) v4_19.toNatClampNeg) = ((100 : Int32)) then f_X4_read_L19 F  n ((1 : Int32)) ((0 : Int32)) ((1 : Int32)) (v4_19 + (1 : Int32)) M20049 else (if ((m_text M_19) v4_19.toNatClampNeg) = ((114 : Int32)) then f_X4_read_L19 F  n ((1 : Int32)) ((1 : Int32)) ((1 : Int32)) (v4_19 + (1 : Int32)) M20049 else f_X4_read_L19 F  n ((1 : Int32)) ((2 : Int32)) ((1 : Int32)) (v4_19 + (1 : Int32)) M20049)))) else (if ((m_text M_19) v4_19.toNatClampNeg) = ((115 : Int32)) then (if v1_19 = ((2 : Int32)) then (if x20003 = 0 then (if x20003 = 0 then some (.inr ((v1_19, v2_19, v3_19, v4_19, M_19))) else (if v1_19 = ((2 : Int32)) then f_X4_read_L19 F  n ((4 : Int32)) v2_19 (((((10 : Int32)) * v3_19) + ((m_text M_19) v4_19.toNatClampNeg)) - ((48 : Int32))) (v4_19 + (1 : Int32)) M_19 else (if v1_19 = ((3 : Int32)) then f_X4_read_L19 F  n ((4 : Int32)) v2_19 (((((10 : Int32)) * v3_19) + ((m_text M_19) v4_19.toNatClampNeg)) - ((48 : Int32))) (v4_19 + (1 : Int32)) M_19 else some (.inr ((v1_19, v2_19, v3_19, v4_19, M_19)))))) else (if v1_19 = ((1 : Int32)) then (if ((m_text M_19) v4_19.toNatClampNeg) = ((48 : Int32)) then (if x20003 = 0 then some (.inr ((v1_19, v2_19, v3_19, v4_19, M_19))) else (if v1_19 = ((2 : Int32)) then f_X4_read_L19 F  n ((4 : Int32)) v2_19 (((((10 : Int32)) * v3_19) + ((m_text M_19) v4_19.toNatClampNeg)) - ((48 : Int32))) (v4_19 + (1 : Int32)) M_19 else (if v1_19 = ((3 : Int32)) then f_X4_read_L19 F  n ((4 : Int32)) v2_19 (((((10 : Int32)) * v3_19) + ((m_text M_19) v4_19.toNatClampNeg)) - ((48 : Int32))) (v4_19 + (1 : Int32)) M_19 else some (.inr ((v1_19, v2_19, v3_19, v4_19, M_19)))))) else (if ((m_text M_19) v4_19.toNatClampNeg) = ((49 : Int32)) then f_X4_read_L19 F  n ((2 : Int32)) v2_19 (((m_text M_19) v4_19.toNatClampNeg) - ((48 : Int32))) (v4_19 + (1 : Int32)) M_19 else f_X4_read_L19 F  n ((3 : Int32)) v2_19 (((m_text M_19) v4_19.toNatClampNeg) - ((48 : Int32))) (v4_19 + (1 : Int32)) M_19)) else (if x20003 = 0 then some (.inr ((v1_19, v2_19, v3_19, v4_19, M_19))) else (if v1_19 = ((2 : Int32)) then f_X4_read_L19 F  n ((4 : Int32)) v2_19 (((((10 : Int32)) * v3_19) + ((m_text M_19) v4_19.toNatClampNeg)) - ((48 : Int32))) (v4_19 + (1 : Int32)) M_19 else (if v1_19 = ((3 : Int32)) then f_X4_read_L19 F  n ((4 : Int32)) v2_19 (((((10 : Int32)) * v3_19) + ((m_text M_19) v4_19.toNatClampNeg)) - ((48 : Int32))) (v4_19 + (1 : Int32)) M_19 else some (.inr ((v1_19, v2_19, v3_19, v4_19, M_19)))))))) else (if v1_19 ≤ 0 then (if ((m_text M_19) v4_19.toNatClampNeg) = ((100 : Int32)) then f_X4_read_L19 F  n ((1 : Int32)) ((0 : Int32)) ((1 : Int32)) (v4_19 + (1 : Int32)) M_19 else (if ((m_text M_19) v4_19.toNatClampNeg) = ((114 : Int32)) then f_X4_read_L19 F  n ((1 : Int32)) ((1 : Int32)) ((1 : Int32)) (v4_19 + (1 : Int32)) M_19 else f_X4_read_L19 F  n ((1 : Int32)) ((2 : Int32)) ((1 : Int32)) (v4_19 + (1 : Int32)) M_19)) else (f_X4_comes F M_19 v2_19 v3_19).bind fun x20084 => f_let x20084 fun M20086 => (if ((m_text M_19) v4_19.toNatClampNeg) = ((100 : Int32)) then f_X4_read_L19 F  n ((1 : Int32)) ((0 : Int32)) ((1 : Int32)) (v4_19 + (1 : Int32)) M20086 else (if ((m_text M_19) v4_19.toNatClampNeg) = ((114 : Int32)) then f_X4_read_L19 F  n ((1 : Int32)) ((1 : Int32)) ((1 : Int32)) (v4_19 + (1 : Int32)) M20086 else f_X4_read_L19 F  n ((1 : Int32)) ((2 : Int32)) ((1 : Int32)) (v4_19 + (1 : Int32)) M20086)))) else (if x20003 = 0 then (if x20003 = 0 then some (.inr ((v1_19, v2_19, v3_19, v4_19, M_19))) else (if v1_19 = ((2 : Int32)) then f_X4_read_L19 F  n ((4 : Int32)) v2_19 (((((10 : Int32)) * v3_19) + ((m_text M_19) v4_19.toNatClampNeg)) - ((48 : Int32))) (v4_19 + (1 : Int32)) M_19 else (if v1_19 = ((3 : Int32)) then f_X4_read_L19 F  n ((4 : Int32)) v2_19 (((((10 : Int32)) * v3_19) + ((m_text M_19) v4_19.toNatClampNeg)) - ((48 : Int32))) (v4_19 + (1 : Int32)) M_19 else some (.inr ((v1_19, v2_19, v3_19, v4_19, M_19)))))) else (if v1_19 = ((1 : Int32)) then (if ((m_text M_19) v4_19.toNatClampNeg) = ((48 : Int32)) then (if x20003 = 0 then some (.inr ((v1_19, v2_19, v3_19, v4_19, M_19))) else (if v1_19 = ((2 : Int32)) then f_X4_read_L19 F  n ((4 : Int32)) v2_19 (((((10 : Int32)) * v3_19) + ((m_text M_19) v4_19.toNatClampNeg)) - ((48 : Int32))) (v4_19 + (1 : Int32)) M_19 else (if v1_19 = ((3 : Int32)) then f_X4_read_L19 F  n ((4 : Int32)) v2_19 (((((10 : Int32)) * v3_19) + ((m_text M_19) v4_19.toNatClampNeg)) - ((48 : Int32))) (v4_19 + (1 : Int32)) M_19 else some (.inr ((v1_19, v2_19, v3_19, v4_19, M_19)))))) else (if ((m_text M_19) v4_19.toNatClampNeg) = ((49 : Int32)) then f_X4_read_L19 F  n ((2 : Int32)) v2_19 (((m_text M_19) v4_19.toNatClampNeg) - ((48 : Int32))) (v4_19 + (1 : Int32)) M_19 else f_X4_read_L19 F  n ((3 : Int32)) v2_19 (((m_text M_19) v4_19.toNatClampNeg) - ((48 : Int32))) (v4_19 + (1 : Int32)) M_19)) else (if x20003 = 0 then some (.inr ((v1_19, v2_19, v3_19, v4_19, M_19))) else (if v1_19 = ((2 : Int32)) then f_X4_read_L19 F  n ((4 : Int32)) v2_19 (((((10 : Int32)) * v3_19) + ((m_text M_19) v4_19.toNatClampNeg)) - ((48 : Int32))) (v4_19 + (1 : Int32)) M_19 else (if v1_19 = ((3 : Int32)) then f_X4_read_L19 F  n ((4 : Int32)) v2_19 (((((10 : Int32)) * v3_19) + ((m_text M_19) v4_19.toNatClampNeg)) - ((48 : Int32))) (v4_19 + (1 : Int32)) M_19 else some (.inr ((v1_19, v2_19, v3_19, v4_19, M_19)))))))))))))
set_option maxRecDepth 100000 in
def f_X4_read (F : Nat) (M : d_M) : Option (Int32 × d_M) := f_let (ms_days M ((0 : Int32))) fun M2 => f_let (ms_isWhole M2 ((0 : Int32))) fun M4 => (f_X4_read_L19 F F ((0 : Int32)) ((0 : Int32)) ((0 : Int32)) ((0 : Int32)) M4).bind (fun w9 => Sum.elim (fun w7 => (if w7.1 = 0 then f_let (ms_isWhole w7.2.2.2.2 ((0 : Int32))) fun M11 => (if (m_isWhole M11) = 0 then some ((m_length M11, M11)) else (f_X4_comes F M11 w7.2.1 w7.2.2.1).bind fun x14 => f_let x14 fun M16 => some ((m_length M16, M16))) else (if w7.1 = ((2 : Int32)) then f_let (ms_isWhole w7.2.2.2.2 ((0 : Int32))) fun M19 => (if (m_isWhole M19) = 0 then some ((m_length M19, M19)) else (f_X4_comes F M19 w7.2.1 w7.2.2.1).bind fun x22 => f_let x22 fun M24 => some ((m_length M24, M24))) else f_let (ms_isWhole w7.2.2.2.2 ((1 : Int32))) fun M26 => (if (m_isWhole M26) = 0 then some ((m_length M26, M26)) else (f_X4_comes F M26 w7.2.1 w7.2.2.1).bind fun x29 => f_let x29 fun M31 => some ((m_length M31, M31)))))) (fun w32 => some ((w32.2.2.2.1, w32.2.2.2.2))) w9)
set_option maxHeartbeats 4000000 in
set_option maxRecDepth 100000 in
theorem l_X4_read_L19 {p : Program} {l : Launch} {e : Env} {s : State} {m : MethodId} {args : Array Value} {below : List Frame} {meth : Method} {c : Code} {Q : State → Prop} {g : a_G} (F : Nat) {h : List va_E}  : ∀ (n : Nat) (v1_19 : Int32) (v2_19 : Int32) (v3_19 : Int32) (v4_19 : Int32) (M_19 : d_M) (o : (Int32 × Int32 × Int32 × Int32 × d_M) ⊕ (Int32 × Int32 × Int32 × Int32 × d_M)), f_X4_read_L19 F  n v1_19 v2_19 v3_19 v4_19 M_19 = some o → (∀ e9 : Int32 × Int32 × Int32 × Int32 × d_M, o = .inl e9 → ∀ h1, d_mod h1 e9.2.2.2.2 → d_frm 55 6 h h1 → a_W p l e (a_rm 1 23) s m args below meth c Q RX4 cX4_read 8 g 0 0 none 206 [(0, .ref 55), (1, .int e9.1), (2, .int e9.2.1), (3, .int e9.2.2.1)] [] h1) → (∀ e9 : Int32 × Int32 × Int32 × Int32 × d_M, o = .inr (e9) → ∀ h1, d_mod h1 e9.2.2.2.2 → d_frm 55 6 h h1 → a_W p l e (a_rm 1 23) s m args below meth c Q RX4 cX4_read 8 g 0 0 none 197 [(4, .int e9.2.2.2.1)] [] h1) → ∀ h1, d_mod h1 M_19 → d_frm 55 6 h h1 → a_W p l e (a_rm 1 23) s m args below meth c Q RX4 cX4_read 8 g 0 0 none 19 [(0, .ref 55), (1, .int v1_19), (2, .int v2_19), (3, .int v3_19), (4, .int v4_19)] [] h1 := by
  intro n
  induction n with
  | zero => intro v1_19 v2_19 v3_19 v4_19 M_19 o hf; exact nomatch (show (none : Option ((Int32 × Int32 × Int32 × Int32 × d_M) ⊕ (Int32 × Int32 × Int32 × Int32 × d_M))) = some o from hf)
  | succ n ih =>
    intro v1_19 v2_19 v3_19 v4_19 M_19 o hf hX0 hX1 h1 hz hfr
    rw [f_X4_read_L19] at hf
    refine a_iload (pc' := 21) 4 dX4_read_19 rfl rfl ?_
    refine a_aload_n (pc' := 22) 0 dX4_read_21 rfl rfl rfl ?_
    refine g_X4_126 (pc' := 25) hz.1 rfl dX4_read_22 rfl ?_
    refine a_icmp_ge (pc' := 28) 206 dX4_read_25 (by decide) rfl (fun k20001 => ?_) (fun k20001 => ?_)
    · replace hf := (if_pos k20001).symm.trans hf
      cases hf
      refine a_sub [0, 1, 2, 3] rfl ?_
      exact hX0 _ rfl _ hz hfr
    · replace hf := (if_neg k20001).symm.trans hf
      refine a_aload_n (pc' := 29) 0 dX4_read_28 rfl rfl rfl ?_
      refine g_X4_19 (pc' := 32) hz.1 rfl dX4_read_29 rfl ?_
      refine a_iload (pc' := 34) 4 dX4_read_32 rfl rfl ?_
      obtain ⟨hg, hf⟩ := f_grd_x hf
      refine b_iald (pc' := 35) hz.2.2.2.2.1 hg dX4_read_34 rfl ?_
      refine a_istore (pc' := 37) (ls' := [(5, .int ((m_text M_19) v4_19.toNatClampNeg)), (0, .ref 55), (1, .int v1_19), (2, .int v2_19), (3, .int v3_19), (4, .int v4_19)]) dX4_read_35 (by decide) rfl rfl ?_
      refine a_iload (pc' := 39) 0 dX4_read_37 rfl rfl ?_
      refine a_bipush (pc' := 41) (v := (48 : Int32)) dX4_read_39 rfl (by decide) ?_
      refine a_bipush (pc' := 43) (v := (57 : Int32)) dX4_read_41 rfl (by decide) ?_
      obtain ⟨x20003, e20002, hf⟩ := Option.bind_eq_some_iff.mp hf
      refine k_X4_29 (pc' := 46) (c_X4_within l g F e20002) ⟨Nat.le_of_ble_eq_true rfl, Nat.le_of_ble_eq_true rfl⟩ (Nat.le_of_ble_eq_true rfl) dX4_read_43 rfl ?_
      refine a_istore (pc' := 48) (ls' := [(6, .int x20003), (5, .int ((m_text M_19) v4_19.toNatClampNeg)), (0, .ref 55), (1, .int v1_19), (2, .int v2_19), (3, .int v3_19), (4, .int v4_19)]) dX4_read_46 (by decide) rfl rfl ?_
      refine a_iload (pc' := 50) 1 dX4_read_48 rfl rfl ?_
      refine a_bipush (pc' := 52) (v := (100 : Int32)) dX4_read_50 rfl (by decide) ?_
      refine a_icmp_eq (pc' := 55) 69 dX4_read_52 (by decide) rfl (fun k20004 => ?_) (fun k20004 => ?_)
      · replace hf := (if_pos k20004).symm.trans hf
        refine a_iconst (pc' := 70) (v := (1 : Int32)) dX4_read_69 rfl (by decide) ?_
        refine a_goto 74 dX4_read_70 (by decide) ?_
        refine a_istore (pc' := 76) (ls' := [(7, .int ((1 : Int32))), (6, .int x20003), (5, .int ((m_text M_19) v4_19.toNatClampNeg)), (0, .ref 55), (1, .int v1_19), (2, .int v2_19), (3, .int v3_19), (4, .int v4_19)]) dX4_read_74 (by decide) rfl rfl ?_
        refine a_iload (pc' := 78) 0 dX4_read_76 rfl rfl ?_
        refine a_if_eq (pc' := 81) 127 dX4_read_78 (by decide) rfl (fun cc => absurd cc (by decide)) (fun _ => ?_)
        refine a_iload_n (pc' := 82) 4 dX4_read_81 rfl rfl rfl ?_
        refine a_iconst (pc' := 83) (v := (2 : Int32)) dX4_read_82 rfl (by decide) ?_
        refine a_icmp_eq (pc' := 86) 127 dX4_read_83 (by decide) rfl (fun k20005 => ?_) (fun k20005 => ?_)
        · replace hf := (if_pos k20005).symm.trans hf
          refine a_iload (pc' := 129) 1 dX4_read_127 rfl rfl ?_
          refine a_if_eq (pc' := 132) 166 dX4_read_129 (by decide) rfl (fun k20006 => ?_) (fun k20006 => ?_)
          · replace hf := (if_pos k20006).symm.trans hf
            refine a_iload (pc' := 168) 1 dX4_read_166 rfl rfl ?_
            refine a_if_eq (pc' := 171) 197 dX4_read_168 (by decide) rfl (fun k20007 => ?_) (fun k20007 => ?_)
            · replace hf := (if_pos k20007).symm.trans hf
              cases hf
              refine a_sub [7] rfl ?_
              exact hX1 _ rfl _ hz hfr
            · replace hf := (if_neg k20007).symm.trans hf
              refine a_iload_n (pc' := 172) 4 dX4_read_171 rfl rfl rfl ?_
              refine a_iconst (pc' := 173) (v := (2 : Int32)) dX4_read_172 rfl (by decide) ?_
              refine a_icmp_eq (pc' := 176) 181 dX4_read_173 (by decide) rfl (fun k20008 => ?_) (fun k20008 => ?_)
              · replace hf := (if_pos k20008).symm.trans hf
                refine a_bipush (pc' := 183) (v := (10 : Int32)) dX4_read_181 rfl (by decide) ?_
                refine a_iload_n (pc' := 184) 6 dX4_read_183 rfl rfl rfl ?_
                refine a_imul (pc' := 185) dX4_read_184 rfl ?_
                refine a_iload (pc' := 187) 2 dX4_read_185 rfl rfl ?_
                refine a_iadd (pc' := 188) dX4_read_187 rfl ?_
                refine a_bipush (pc' := 190) (v := (48 : Int32)) dX4_read_188 rfl (by decide) ?_
                refine a_isub (pc' := 191) dX4_read_190 rfl ?_
                refine a_istore_n (pc' := 192) (ls' := [(3, .int (((((10 : Int32)) * v3_19) + ((m_text M_19) v4_19.toNatClampNeg)) - ((48 : Int32)))), (7, .int ((1 : Int32))), (6, .int x20003), (5, .int ((m_text M_19) v4_19.toNatClampNeg)), (0, .ref 55), (1, .int v1_19), (2, .int v2_19), (4, .int v4_19)]) dX4_read_191 rfl (by decide) rfl rfl ?_
                refine a_iconst (pc' := 193) (v := (4 : Int32)) dX4_read_192 rfl (by decide) ?_
                refine a_istore_n (pc' := 194) (ls' := [(1, .int ((4 : Int32))), (3, .int (((((10 : Int32)) * v3_19) + ((m_text M_19) v4_19.toNatClampNeg)) - ((48 : Int32)))), (7, .int ((1 : Int32))), (6, .int x20003), (5, .int ((m_text M_19) v4_19.toNatClampNeg)), (0, .ref 55), (2, .int v2_19), (4, .int v4_19)]) dX4_read_193 rfl (by decide) rfl rfl ?_
                refine a_goto 200 dX4_read_194 (by decide) ?_
                refine a_iinc (pc' := 203) (v := v4_19 + (1 : Int32)) (ls' := [(4, .int (v4_19 + (1 : Int32))), (1, .int ((4 : Int32))), (3, .int (((((10 : Int32)) * v3_19) + ((m_text M_19) v4_19.toNatClampNeg)) - ((48 : Int32)))), (7, .int ((1 : Int32))), (6, .int x20003), (5, .int ((m_text M_19) v4_19.toNatClampNeg)), (0, .ref 55), (2, .int v2_19)]) 7 dX4_read_200 rfl (by rfl) (by decide) rfl rfl ?_
                refine a_goto 19 dX4_read_203 (by decide) ?_
                refine a_sub [6, 1, 7, 2, 0] rfl ?_
                exact ih _ _ _ _ _ _ hf hX0 hX1 _ hz hfr
              · replace hf := (if_neg k20008).symm.trans hf
                refine a_iload_n (pc' := 177) 4 dX4_read_176 rfl rfl rfl ?_
                refine a_iconst (pc' := 178) (v := (3 : Int32)) dX4_read_177 rfl (by decide) ?_
                refine a_icmp_ne (pc' := 181) 197 dX4_read_178 (by decide) rfl (fun k20009 => ?_) (fun k20009 => ?_)
                · replace hf := (if_neg k20009).symm.trans hf
                  cases hf
                  refine a_sub [7] rfl ?_
                  exact hX1 _ rfl _ hz hfr
                · replace hf := (if_pos k20009).symm.trans hf
                  refine a_bipush (pc' := 183) (v := (10 : Int32)) dX4_read_181 rfl (by decide) ?_
                  refine a_iload_n (pc' := 184) 6 dX4_read_183 rfl rfl rfl ?_
                  refine a_imul (pc' := 185) dX4_read_184 rfl ?_
                  refine a_iload (pc' := 187) 2 dX4_read_185 rfl rfl ?_
                  refine a_iadd (pc' := 188) dX4_read_187 rfl ?_
                  refine a_bipush (pc' := 190) (v := (48 : Int32)) dX4_read_188 rfl (by decide) ?_
                  refine a_isub (pc' := 191) dX4_read_190 rfl ?_
                  refine a_istore_n (pc' := 192) (ls' := [(3, .int (((((10 : Int32)) * v3_19) + ((m_text M_19) v4_19.toNatClampNeg)) - ((48 : Int32)))), (7, .int ((1 : Int32))), (6, .int x20003), (5, .int ((m_text M_19) v4_19.toNatClampNeg)), (0, .ref 55), (1, .int v1_19), (2, .int v2_19), (4, .int v4_19)]) dX4_read_191 rfl (by decide) rfl rfl ?_
                  refine a_iconst (pc' := 193) (v := (4 : Int32)) dX4_read_192 rfl (by decide) ?_
                  refine a_istore_n (pc' := 194) (ls' := [(1, .int ((4 : Int32))), (3, .int (((((10 : Int32)) * v3_19) + ((m_text M_19) v4_19.toNatClampNeg)) - ((48 : Int32)))), (7, .int ((1 : Int32))), (6, .int x20003), (5, .int ((m_text M_19) v4_19.toNatClampNeg)), (0, .ref 55), (2, .int v2_19), (4, .int v4_19)]) dX4_read_193 rfl (by decide) rfl rfl ?_
                  refine a_goto 200 dX4_read_194 (by decide) ?_
                  refine a_iinc (pc' := 203) (v := v4_19 + (1 : Int32)) (ls' := [(4, .int (v4_19 + (1 : Int32))), (1, .int ((4 : Int32))), (3, .int (((((10 : Int32)) * v3_19) + ((m_text M_19) v4_19.toNatClampNeg)) - ((48 : Int32)))), (7, .int ((1 : Int32))), (6, .int x20003), (5, .int ((m_text M_19) v4_19.toNatClampNeg)), (0, .ref 55), (2, .int v2_19)]) 7 dX4_read_200 rfl (by rfl) (by decide) rfl rfl ?_
                  refine a_goto 19 dX4_read_203 (by decide) ?_
                  refine a_sub [6, 1, 7, 2, 0] rfl ?_
                  exact ih _ _ _ _ _ _ hf hX0 hX1 _ hz hfr
          · replace hf := (if_neg k20006).symm.trans hf
            refine a_iload_n (pc' := 133) 4 dX4_read_132 rfl rfl rfl ?_
            refine a_iconst (pc' := 134) (v := (1 : Int32)) dX4_read_133 rfl (by decide) ?_
            refine a_icmp_ne (pc' := 137) 166 dX4_read_134 (by decide) rfl (fun k20010 => ?_) (fun k20010 => ?_)
            · replace hf := (if_neg k20010).symm.trans hf
              refine a_iload (pc' := 168) 1 dX4_read_166 rfl rfl ?_
              refine a_if_eq (pc' := 171) 197 dX4_read_168 (by decide) rfl (fun k20011 => ?_) (fun k20011 => ?_)
              · replace hf := (if_pos k20011).symm.trans hf
                cases hf
                refine a_sub [7] rfl ?_
                exact hX1 _ rfl _ hz hfr
              · replace hf := (if_neg k20011).symm.trans hf
                refine a_iload_n (pc' := 172) 4 dX4_read_171 rfl rfl rfl ?_
                refine a_iconst (pc' := 173) (v := (2 : Int32)) dX4_read_172 rfl (by decide) ?_
                refine a_icmp_eq (pc' := 176) 181 dX4_read_173 (by decide) rfl (fun k20012 => ?_) (fun k20012 => ?_)
                · replace hf := (if_pos k20012).symm.trans hf
                  refine a_bipush (pc' := 183) (v := (10 : Int32)) dX4_read_181 rfl (by decide) ?_
                  refine a_iload_n (pc' := 184) 6 dX4_read_183 rfl rfl rfl ?_
                  refine a_imul (pc' := 185) dX4_read_184 rfl ?_
                  refine a_iload (pc' := 187) 2 dX4_read_185 rfl rfl ?_
                  refine a_iadd (pc' := 188) dX4_read_187 rfl ?_
                  refine a_bipush (pc' := 190) (v := (48 : Int32)) dX4_read_188 rfl (by decide) ?_
                  refine a_isub (pc' := 191) dX4_read_190 rfl ?_
                  refine a_istore_n (pc' := 192) (ls' := [(3, .int (((((10 : Int32)) * v3_19) + ((m_text M_19) v4_19.toNatClampNeg)) - ((48 : Int32)))), (7, .int ((1 : Int32))), (6, .int x20003), (5, .int ((m_text M_19) v4_19.toNatClampNeg)), (0, .ref 55), (1, .int v1_19), (2, .int v2_19), (4, .int v4_19)]) dX4_read_191 rfl (by decide) rfl rfl ?_
                  refine a_iconst (pc' := 193) (v := (4 : Int32)) dX4_read_192 rfl (by decide) ?_
                  refine a_istore_n (pc' := 194) (ls' := [(1, .int ((4 : Int32))), (3, .int (((((10 : Int32)) * v3_19) + ((m_text M_19) v4_19.toNatClampNeg)) - ((48 : Int32)))), (7, .int ((1 : Int32))), (6, .int x20003), (5, .int ((m_text M_19) v4_19.toNatClampNeg)), (0, .ref 55), (2, .int v2_19), (4, .int v4_19)]) dX4_read_193 rfl (by decide) rfl rfl ?_
                  refine a_goto 200 dX4_read_194 (by decide) ?_
                  refine a_iinc (pc' := 203) (v := v4_19 + (1 : Int32)) (ls' := [(4, .int (v4_19 + (1 : Int32))), (1, .int ((4 : Int32))), (3, .int (((((10 : Int32)) * v3_19) + ((m_text M_19) v4_19.toNatClampNeg)) - ((48 : Int32)))), (7, .int ((1 : Int32))), (6, .int x20003), (5, .int ((m_text M_19) v4_19.toNatClampNeg)), (0, .ref 55), (2, .int v2_19)]) 7 dX4_read_200 rfl (by rfl) (by decide) rfl rfl ?_
                  refine a_goto 19 dX4_read_203 (by decide) ?_
                  refine a_sub [6, 1, 7, 2, 0] rfl ?_
                  exact ih _ _ _ _ _ _ hf hX0 hX1 _ hz hfr
                · replace hf := (if_neg k20012).symm.trans hf
                  refine a_iload_n (pc' := 177) 4 dX4_read_176 rfl rfl rfl ?_
                  refine a_iconst (pc' := 178) (v := (3 : Int32)) dX4_read_177 rfl (by decide) ?_
                  refine a_icmp_ne (pc' := 181) 197 dX4_read_178 (by decide) rfl (fun k20013 => ?_) (fun k20013 => ?_)
                  · replace hf := (if_neg k20013).symm.trans hf
                    cases hf
                    refine a_sub [7] rfl ?_
                    exact hX1 _ rfl _ hz hfr
                  · replace hf := (if_pos k20013).symm.trans hf
                    refine a_bipush (pc' := 183) (v := (10 : Int32)) dX4_read_181 rfl (by decide) ?_
                    refine a_iload_n (pc' := 184) 6 dX4_read_183 rfl rfl rfl ?_
                    refine a_imul (pc' := 185) dX4_read_184 rfl ?_
                    refine a_iload (pc' := 187) 2 dX4_read_185 rfl rfl ?_
                    refine a_iadd (pc' := 188) dX4_read_187 rfl ?_
                    refine a_bipush (pc' := 190) (v := (48 : Int32)) dX4_read_188 rfl (by decide) ?_
                    refine a_isub (pc' := 191) dX4_read_190 rfl ?_
                    refine a_istore_n (pc' := 192) (ls' := [(3, .int (((((10 : Int32)) * v3_19) + ((m_text M_19) v4_19.toNatClampNeg)) - ((48 : Int32)))), (7, .int ((1 : Int32))), (6, .int x20003), (5, .int ((m_text M_19) v4_19.toNatClampNeg)), (0, .ref 55), (1, .int v1_19), (2, .int v2_19), (4, .int v4_19)]) dX4_read_191 rfl (by decide) rfl rfl ?_
                    refine a_iconst (pc' := 193) (v := (4 : Int32)) dX4_read_192 rfl (by decide) ?_
                    refine a_istore_n (pc' := 194) (ls' := [(1, .int ((4 : Int32))), (3, .int (((((10 : Int32)) * v3_19) + ((m_text M_19) v4_19.toNatClampNeg)) - ((48 : Int32)))), (7, .int ((1 : Int32))), (6, .int x20003), (5, .int ((m_text M_19) v4_19.toNatClampNeg)), (0, .ref 55), (2, .int v2_19), (4, .int v4_19)]) dX4_read_193 rfl (by decide) rfl rfl ?_
                    refine a_goto 200 dX4_read_194 (by decide) ?_
                    refine a_iinc (pc' := 203) (v := v4_19 + (1 : Int32)) (ls' := [(4, .int (v4_19 + (1 : Int32))), (1, .int ((4 : Int32))), (3, .int (((((10 : Int32)) * v3_19) + ((m_text M_19) v4_19.toNatClampNeg)) - ((48 : Int32)))), (7, .int ((1 : Int32))), (6, .int x20003), (5, .int ((m_text M_19) v4_19.toNatClampNeg)), (0, .ref 55), (2, .int v2_19)]) 7 dX4_read_200 rfl (by rfl) (by decide) rfl rfl ?_
                    refine a_goto 19 dX4_read_203 (by decide) ?_
                    refine a_sub [6, 1, 7, 2, 0] rfl ?_
                    exact ih _ _ _ _ _ _ hf hX0 hX1 _ hz hfr
            · replace hf := (if_pos k20010).symm.trans hf
              refine a_iload (pc' := 139) 2 dX4_read_137 rfl rfl ?_
              refine a_bipush (pc' := 141) (v := (48 : Int32)) dX4_read_139 rfl (by decide) ?_
              refine a_icmp_eq (pc' := 144) 166 dX4_read_141 (by decide) rfl (fun k20014 => ?_) (fun k20014 => ?_)
              · replace hf := (if_pos k20014).symm.trans hf
                refine a_iload (pc' := 168) 1 dX4_read_166 rfl rfl ?_
                refine a_if_eq (pc' := 171) 197 dX4_read_168 (by decide) rfl (fun k20015 => ?_) (fun k20015 => ?_)
                · replace hf := (if_pos k20015).symm.trans hf
                  cases hf
                  refine a_sub [7] rfl ?_
                  exact hX1 _ rfl _ hz hfr
                · replace hf := (if_neg k20015).symm.trans hf
                  refine a_iload_n (pc' := 172) 4 dX4_read_171 rfl rfl rfl ?_
                  refine a_iconst (pc' := 173) (v := (2 : Int32)) dX4_read_172 rfl (by decide) ?_
                  refine a_icmp_eq (pc' := 176) 181 dX4_read_173 (by decide) rfl (fun k20016 => ?_) (fun k20016 => ?_)
                  · replace hf := (if_pos k20016).symm.trans hf
                    refine a_bipush (pc' := 183) (v := (10 : Int32)) dX4_read_181 rfl (by decide) ?_
                    refine a_iload_n (pc' := 184) 6 dX4_read_183 rfl rfl rfl ?_
                    refine a_imul (pc' := 185) dX4_read_184 rfl ?_
                    refine a_iload (pc' := 187) 2 dX4_read_185 rfl rfl ?_
                    refine a_iadd (pc' := 188) dX4_read_187 rfl ?_
                    refine a_bipush (pc' := 190) (v := (48 : Int32)) dX4_read_188 rfl (by decide) ?_
                    refine a_isub (pc' := 191) dX4_read_190 rfl ?_
                    refine a_istore_n (pc' := 192) (ls' := [(3, .int (((((10 : Int32)) * v3_19) + ((m_text M_19) v4_19.toNatClampNeg)) - ((48 : Int32)))), (7, .int ((1 : Int32))), (6, .int x20003), (5, .int ((m_text M_19) v4_19.toNatClampNeg)), (0, .ref 55), (1, .int v1_19), (2, .int v2_19), (4, .int v4_19)]) dX4_read_191 rfl (by decide) rfl rfl ?_
                    refine a_iconst (pc' := 193) (v := (4 : Int32)) dX4_read_192 rfl (by decide) ?_
                    refine a_istore_n (pc' := 194) (ls' := [(1, .int ((4 : Int32))), (3, .int (((((10 : Int32)) * v3_19) + ((m_text M_19) v4_19.toNatClampNeg)) - ((48 : Int32)))), (7, .int ((1 : Int32))), (6, .int x20003), (5, .int ((m_text M_19) v4_19.toNatClampNeg)), (0, .ref 55), (2, .int v2_19), (4, .int v4_19)]) dX4_read_193 rfl (by decide) rfl rfl ?_
                    refine a_goto 200 dX4_read_194 (by decide) ?_
                    refine a_iinc (pc' := 203) (v := v4_19 + (1 : Int32)) (ls' := [(4, .int (v4_19 + (1 : Int32))), (1, .int ((4 : Int32))), (3, .int (((((10 : Int32)) * v3_19) + ((m_text M_19) v4_19.toNatClampNeg)) - ((48 : Int32)))), (7, .int ((1 : Int32))), (6, .int x20003), (5, .int ((m_text M_19) v4_19.toNatClampNeg)), (0, .ref 55), (2, .int v2_19)]) 7 dX4_read_200 rfl (by rfl) (by decide) rfl rfl ?_
                    refine a_goto 19 dX4_read_203 (by decide) ?_
                    refine a_sub [6, 1, 7, 2, 0] rfl ?_
                    exact ih _ _ _ _ _ _ hf hX0 hX1 _ hz hfr
                  · replace hf := (if_neg k20016).symm.trans hf
                    refine a_iload_n (pc' := 177) 4 dX4_read_176 rfl rfl rfl ?_
                    refine a_iconst (pc' := 178) (v := (3 : Int32)) dX4_read_177 rfl (by decide) ?_
                    refine a_icmp_ne (pc' := 181) 197 dX4_read_178 (by decide) rfl (fun k20017 => ?_) (fun k20017 => ?_)
                    · replace hf := (if_neg k20017).symm.trans hf
                      cases hf
                      refine a_sub [7] rfl ?_
                      exact hX1 _ rfl _ hz hfr
                    · replace hf := (if_pos k20017).symm.trans hf
                      refine a_bipush (pc' := 183) (v := (10 : Int32)) dX4_read_181 rfl (by decide) ?_
                      refine a_iload_n (pc' := 184) 6 dX4_read_183 rfl rfl rfl ?_
                      refine a_imul (pc' := 185) dX4_read_184 rfl ?_
                      refine a_iload (pc' := 187) 2 dX4_read_185 rfl rfl ?_
                      refine a_iadd (pc' := 188) dX4_read_187 rfl ?_
                      refine a_bipush (pc' := 190) (v := (48 : Int32)) dX4_read_188 rfl (by decide) ?_
                      refine a_isub (pc' := 191) dX4_read_190 rfl ?_
                      refine a_istore_n (pc' := 192) (ls' := [(3, .int (((((10 : Int32)) * v3_19) + ((m_text M_19) v4_19.toNatClampNeg)) - ((48 : Int32)))), (7, .int ((1 : Int32))), (6, .int x20003), (5, .int ((m_text M_19) v4_19.toNatClampNeg)), (0, .ref 55), (1, .int v1_19), (2, .int v2_19), (4, .int v4_19)]) dX4_read_191 rfl (by decide) rfl rfl ?_
                      refine a_iconst (pc' := 193) (v := (4 : Int32)) dX4_read_192 rfl (by decide) ?_
                      refine a_istore_n (pc' := 194) (ls' := [(1, .int ((4 : Int32))), (3, .int (((((10 : Int32)) * v3_19) + ((m_text M_19) v4_19.toNatClampNeg)) - ((48 : Int32)))), (7, .int ((1 : Int32))), (6, .int x20003), (5, .int ((m_text M_19) v4_19.toNatClampNeg)), (0, .ref 55), (2, .int v2_19), (4, .int v4_19)]) dX4_read_193 rfl (by decide) rfl rfl ?_
                      refine a_goto 200 dX4_read_194 (by decide) ?_
                      refine a_iinc (pc' := 203) (v := v4_19 + (1 : Int32)) (ls' := [(4, .int (v4_19 + (1 : Int32))), (1, .int ((4 : Int32))), (3, .int (((((10 : Int32)) * v3_19) + ((m_text M_19) v4_19.toNatClampNeg)) - ((48 : Int32)))), (7, .int ((1 : Int32))), (6, .int x20003), (5, .int ((m_text M_19) v4_19.toNatClampNeg)), (0, .ref 55), (2, .int v2_19)]) 7 dX4_read_200 rfl (by rfl) (by decide) rfl rfl ?_
                      refine a_goto 19 dX4_read_203 (by decide) ?_
                      refine a_sub [6, 1, 7, 2, 0] rfl ?_
                      exact ih _ _ _ _ _ _ hf hX0 hX1 _ hz hfr
              · replace hf := (if_neg k20014).symm.trans hf
                refine a_iload (pc' := 146) 2 dX4_read_144 rfl rfl ?_
                refine a_bipush (pc' := 148) (v := (48 : Int32)) dX4_read_146 rfl (by decide) ?_
                refine a_isub (pc' := 149) dX4_read_148 rfl ?_
                refine a_istore_n (pc' := 150) (ls' := [(3, .int (((m_text M_19) v4_19.toNatClampNeg) - ((48 : Int32)))), (7, .int ((1 : Int32))), (6, .int x20003), (5, .int ((m_text M_19) v4_19.toNatClampNeg)), (0, .ref 55), (1, .int v1_19), (2, .int v2_19), (4, .int v4_19)]) dX4_read_149 rfl (by decide) rfl rfl ?_
                refine a_iload (pc' := 152) 3 dX4_read_150 rfl rfl ?_
                refine a_bipush (pc' := 154) (v := (49 : Int32)) dX4_read_152 rfl (by decide) ?_
                refine a_icmp_ne (pc' := 157) 161 dX4_read_154 (by decide) rfl (fun k20018 => ?_) (fun k20018 => ?_)
                · replace hf := (if_neg k20018).symm.trans hf
                  refine a_iconst (pc' := 162) (v := (3 : Int32)) dX4_read_161 rfl (by decide) ?_
                  refine a_istore_n (pc' := 163) (ls' := [(1, .int ((3 : Int32))), (3, .int (((m_text M_19) v4_19.toNatClampNeg) - ((48 : Int32)))), (7, .int ((1 : Int32))), (6, .int x20003), (5, .int ((m_text M_19) v4_19.toNatClampNeg)), (0, .ref 55), (2, .int v2_19), (4, .int v4_19)]) dX4_read_162 rfl (by decide) rfl rfl ?_
                  refine a_goto 200 dX4_read_163 (by decide) ?_
                  refine a_iinc (pc' := 203) (v := v4_19 + (1 : Int32)) (ls' := [(4, .int (v4_19 + (1 : Int32))), (1, .int ((3 : Int32))), (3, .int (((m_text M_19) v4_19.toNatClampNeg) - ((48 : Int32)))), (7, .int ((1 : Int32))), (6, .int x20003), (5, .int ((m_text M_19) v4_19.toNatClampNeg)), (0, .ref 55), (2, .int v2_19)]) 7 dX4_read_200 rfl (by rfl) (by decide) rfl rfl ?_
                  refine a_goto 19 dX4_read_203 (by decide) ?_
                  refine a_sub [6, 1, 7, 2, 0] rfl ?_
                  exact ih _ _ _ _ _ _ hf hX0 hX1 _ hz hfr
                · replace hf := (if_pos k20018).symm.trans hf
                  refine a_iconst (pc' := 158) (v := (2 : Int32)) dX4_read_157 rfl (by decide) ?_
                  refine a_goto 162 dX4_read_158 (by decide) ?_
                  refine a_istore_n (pc' := 163) (ls' := [(1, .int ((2 : Int32))), (3, .int (((m_text M_19) v4_19.toNatClampNeg) - ((48 : Int32)))), (7, .int ((1 : Int32))), (6, .int x20003), (5, .int ((m_text M_19) v4_19.toNatClampNeg)), (0, .ref 55), (2, .int v2_19), (4, .int v4_19)]) dX4_read_162 rfl (by decide) rfl rfl ?_
                  refine a_goto 200 dX4_read_163 (by decide) ?_
                  refine a_iinc (pc' := 203) (v := v4_19 + (1 : Int32)) (ls' := [(4, .int (v4_19 + (1 : Int32))), (1, .int ((2 : Int32))), (3, .int (((m_text M_19) v4_19.toNatClampNeg) - ((48 : Int32)))), (7, .int ((1 : Int32))), (6, .int x20003), (5, .int ((m_text M_19) v4_19.toNatClampNeg)), (0, .ref 55), (2, .int v2_19)]) 7 dX4_read_200 rfl (by rfl) (by decide) rfl rfl ?_
                  refine a_goto 19 dX4_read_203 (by decide) ?_
                  refine a_sub [6, 1, 7, 2, 0] rfl ?_
                  exact ih _ _ _ _ _ _ hf hX0 hX1 _ hz hfr
        · replace hf := (if_neg k20005).symm.trans hf
          refine a_iload_n (pc' := 87) 4 dX4_read_86 rfl rfl rfl ?_
          refine a_if_le (pc' := 90) 96 dX4_read_87 (by decide) rfl (fun k20019 => ?_) (fun k20019 => ?_)
          · replace hf := (if_pos k20019).symm.trans hf
            refine a_iload (pc' := 98) 2 dX4_read_96 rfl rfl ?_
            refine a_bipush (pc' := 100) (v := (100 : Int32)) dX4_read_98 rfl (by decide) ?_
            refine a_icmp_ne (pc' := 103) 107 dX4_read_100 (by decide) rfl (fun k20020 => ?_) (fun k20020 => ?_)
            · replace hf := (if_neg k20020).symm.trans hf
              refine a_iload (pc' := 109) 2 dX4_read_107 rfl rfl ?_
              refine a_bipush (pc' := 111) (v := (114 : Int32)) dX4_read_109 rfl (by decide) ?_
              refine a_icmp_ne (pc' := 114) 118 dX4_read_111 (by decide) rfl (fun k20021 => ?_) (fun k20021 => ?_)
              · replace hf := (if_neg k20021).symm.trans hf
                refine a_iconst (pc' := 119) (v := (2 : Int32)) dX4_read_118 rfl (by decide) ?_
                refine a_istore_n (pc' := 120) (ls' := [(2, .int ((2 : Int32))), (7, .int ((1 : Int32))), (6, .int x20003), (5, .int ((m_text M_19) v4_19.toNatClampNeg)), (0, .ref 55), (1, .int v1_19), (3, .int v3_19), (4, .int v4_19)]) dX4_read_119 rfl (by decide) rfl rfl ?_
                refine a_iconst (pc' := 121) (v := (1 : Int32)) dX4_read_120 rfl (by decide) ?_
                refine a_istore_n (pc' := 122) (ls' := [(3, .int ((1 : Int32))), (2, .int ((2 : Int32))), (7, .int ((1 : Int32))), (6, .int x20003), (5, .int ((m_text M_19) v4_19.toNatClampNeg)), (0, .ref 55), (1, .int v1_19), (4, .int v4_19)]) dX4_read_121 rfl (by decide) rfl rfl ?_
                refine a_iconst (pc' := 123) (v := (1 : Int32)) dX4_read_122 rfl (by decide) ?_
                refine a_istore_n (pc' := 124) (ls' := [(1, .int ((1 : Int32))), (3, .int ((1 : Int32))), (2, .int ((2 : Int32))), (7, .int ((1 : Int32))), (6, .int x20003), (5, .int ((m_text M_19) v4_19.toNatClampNeg)), (0, .ref 55), (4, .int v4_19)]) dX4_read_123 rfl (by decide) rfl rfl ?_
                refine a_goto 200 dX4_read_124 (by decide) ?_
                refine a_iinc (pc' := 203) (v := v4_19 + (1 : Int32)) (ls' := [(4, .int (v4_19 + (1 : Int32))), (1, .int ((1 : Int32))), (3, .int ((1 : Int32))), (2, .int ((2 : Int32))), (7, .int ((1 : Int32))), (6, .int x20003), (5, .int ((m_text M_19) v4_19.toNatClampNeg)), (0, .ref 55)]) 7 dX4_read_200 rfl (by rfl) (by decide) rfl rfl ?_
                refine a_goto 19 dX4_read_203 (by decide) ?_
                refine a_sub [7, 1, 3, 2, 0] rfl ?_
                exact ih _ _ _ _ _ _ hf hX0 hX1 _ hz hfr
              · replace hf := (if_pos k20021).symm.trans hf
                refine a_iconst (pc' := 115) (v := (1 : Int32)) dX4_read_114 rfl (by decide) ?_
                refine a_goto 119 dX4_read_115 (by decide) ?_
                refine a_istore_n (pc' := 120) (ls' := [(2, .int ((1 : Int32))), (7, .int ((1 : Int32))), (6, .int x20003), (5, .int ((m_text M_19) v4_19.toNatClampNeg)), (0, .ref 55), (1, .int v1_19), (3, .int v3_19), (4, .int v4_19)]) dX4_read_119 rfl (by decide) rfl rfl ?_
                refine a_iconst (pc' := 121) (v := (1 : Int32)) dX4_read_120 rfl (by decide) ?_
                refine a_istore_n (pc' := 122) (ls' := [(3, .int ((1 : Int32))), (2, .int ((1 : Int32))), (7, .int ((1 : Int32))), (6, .int x20003), (5, .int ((m_text M_19) v4_19.toNatClampNeg)), (0, .ref 55), (1, .int v1_19), (4, .int v4_19)]) dX4_read_121 rfl (by decide) rfl rfl ?_
                refine a_iconst (pc' := 123) (v := (1 : Int32)) dX4_read_122 rfl (by decide) ?_
                refine a_istore_n (pc' := 124) (ls' := [(1, .int ((1 : Int32))), (3, .int ((1 : Int32))), (2, .int ((1 : Int32))), (7, .int ((1 : Int32))), (6, .int x20003), (5, .int ((m_text M_19) v4_19.toNatClampNeg)), (0, .ref 55), (4, .int v4_19)]) dX4_read_123 rfl (by decide) rfl rfl ?_
                refine a_goto 200 dX4_read_124 (by decide) ?_
                refine a_iinc (pc' := 203) (v := v4_19 + (1 : Int32)) (ls' := [(4, .int (v4_19 + (1 : Int32))), (1, .int ((1 : Int32))), (3, .int ((1 : Int32))), (2, .int ((1 : Int32))), (7, .int ((1 : Int32))), (6, .int x20003), (5, .int ((m_text M_19) v4_19.toNatClampNeg)), (0, .ref 55)]) 7 dX4_read_200 rfl (by rfl) (by decide) rfl rfl ?_
                refine a_goto 19 dX4_read_203 (by decide) ?_
                refine a_sub [7, 1, 3, 2, 0] rfl ?_
                exact ih _ _ _ _ _ _ hf hX0 hX1 _ hz hfr
            · replace hf := (if_pos k20020).symm.trans hf
              refine a_iconst (pc' := 104) (v := (0 : Int32)) dX4_read_103 rfl (by decide) ?_
              refine a_goto 119 dX4_read_104 (by decide) ?_
              refine a_istore_n (pc' := 120) (ls' := [(2, .int ((0 : Int32))), (7, .int ((1 : Int32))), (6, .int x20003), (5, .int ((m_text M_19) v4_19.toNatClampNeg)), (0, .ref 55), (1, .int v1_19), (3, .int v3_19), (4, .int v4_19)]) dX4_read_119 rfl (by decide) rfl rfl ?_
              refine a_iconst (pc' := 121) (v := (1 : Int32)) dX4_read_120 rfl (by decide) ?_
              refine a_istore_n (pc' := 122) (ls' := [(3, .int ((1 : Int32))), (2, .int ((0 : Int32))), (7, .int ((1 : Int32))), (6, .int x20003), (5, .int ((m_text M_19) v4_19.toNatClampNeg)), (0, .ref 55), (1, .int v1_19), (4, .int v4_19)]) dX4_read_121 rfl (by decide) rfl rfl ?_
              refine a_iconst (pc' := 123) (v := (1 : Int32)) dX4_read_122 rfl (by decide) ?_
              refine a_istore_n (pc' := 124) (ls' := [(1, .int ((1 : Int32))), (3, .int ((1 : Int32))), (2, .int ((0 : Int32))), (7, .int ((1 : Int32))), (6, .int x20003), (5, .int ((m_text M_19) v4_19.toNatClampNeg)), (0, .ref 55), (4, .int v4_19)]) dX4_read_123 rfl (by decide) rfl rfl ?_
              refine a_goto 200 dX4_read_124 (by decide) ?_
              refine a_iinc (pc' := 203) (v := v4_19 + (1 : Int32)) (ls' := [(4, .int (v4_19 + (1 : Int32))), (1, .int ((1 : Int32))), (3, .int ((1 : Int32))), (2, .int ((0 : Int32))), (7, .int ((1 : Int32))), (6, .int x20003), (5, .int ((m_text M_19) v4_19.toNatClampNeg)), (0, .ref 55)]) 7 dX4_read_200 rfl (by rfl) (by decide) rfl rfl ?_
              refine a_goto 19 dX4_read_203 (by decide) ?_
              refine a_sub [7, 1, 3, 2, 0] rfl ?_
              exact ih _ _ _ _ _ _ hf hX0 hX1 _ hz hfr
          · replace hf := (if_neg k20019).symm.trans hf
            refine a_aload_n (pc' := 91) 3 dX4_read_90 rfl rfl rfl ?_
            refine a_iload_n (pc' := 92) 5 dX4_read_91 rfl rfl rfl ?_
            refine a_iload_n (pc' := 93) 6 dX4_read_92 rfl rfl rfl ?_
            obtain ⟨x20023, e20022, hf⟩ := Option.bind_eq_some_iff.mp hf
            refine k_X4_136 (pc' := 96) (c_X4_comes l g F hz e20022) ⟨Nat.le_of_ble_eq_true rfl, Nat.le_of_ble_eq_true rfl⟩ hz.1 (Nat.le_of_ble_eq_true rfl) dX4_read_93 rfl (fun h20024 hq => ?_)
            obtain ⟨hz1, hfr1⟩ := hq
            obtain ⟨M20025, hf, hz⟩ := f_let_x (P := fun w => d_mod h20024 w) hf hz1
            replace hfr := d_frm.tr hfr hfr1 (by omega)
            refine a_iload (pc' := 98) 2 dX4_read_96 rfl rfl ?_
            refine a_bipush (pc' := 100) (v := (100 : Int32)) dX4_read_98 rfl (by decide) ?_
            refine a_icmp_ne (pc' := 103) 107 dX4_read_100 (by decide) rfl (fun k20026 => ?_) (fun k20026 => ?_)
            · replace hf := (if_neg k20026).symm.trans hf
              refine a_iload (pc' := 109) 2 dX4_read_107 rfl rfl ?_
              refine a_bipush (pc' := 111) (v := (114 : Int32)) dX4_read_109 rfl (by decide) ?_
              refine a_icmp_ne (pc' := 114) 118 dX4_read_111 (by decide) rfl (fun k20027 => ?_) (fun k20027 => ?_)
              · replace hf := (if_neg k20027).symm.trans hf
                refine a_iconst (pc' := 119) (v := (2 : Int32)) dX4_read_118 rfl (by decide) ?_
                refine a_istore_n (pc' := 120) (ls' := [(2, .int ((2 : Int32))), (7, .int ((1 : Int32))), (6, .int x20003), (5, .int ((m_text M_19) v4_19.toNatClampNeg)), (0, .ref 55), (1, .int v1_19), (3, .int v3_19), (4, .int v4_19)]) dX4_read_119 rfl (by decide) rfl rfl ?_
                refine a_iconst (pc' := 121) (v := (1 : Int32)) dX4_read_120 rfl (by decide) ?_
                refine a_istore_n (pc' := 122) (ls' := [(3, .int ((1 : Int32))), (2, .int ((2 : Int32))), (7, .int ((1 : Int32))), (6, .int x20003), (5, .int ((m_text M_19) v4_19.toNatClampNeg)), (0, .ref 55), (1, .int v1_19), (4, .int v4_19)]) dX4_read_121 rfl (by decide) rfl rfl ?_
                refine a_iconst (pc' := 123) (v := (1 : Int32)) dX4_read_122 rfl (by decide) ?_
                refine a_istore_n (pc' := 124) (ls' := [(1, .int ((1 : Int32))), (3, .int ((1 : Int32))), (2, .int ((2 : Int32))), (7, .int ((1 : Int32))), (6, .int x20003), (5, .int ((m_text M_19) v4_19.toNatClampNeg)), (0, .ref 55), (4, .int v4_19)]) dX4_read_123 rfl (by decide) rfl rfl ?_
                refine a_goto 200 dX4_read_124 (by decide) ?_
                refine a_iinc (pc' := 203) (v := v4_19 + (1 : Int32)) (ls' := [(4, .int (v4_19 + (1 : Int32))), (1, .int ((1 : Int32))), (3, .int ((1 : Int32))), (2, .int ((2 : Int32))), (7, .int ((1 : Int32))), (6, .int x20003), (5, .int ((m_text M_19) v4_19.toNatClampNeg)), (0, .ref 55)]) 7 dX4_read_200 rfl (by rfl) (by decide) rfl rfl ?_
                refine a_goto 19 dX4_read_203 (by decide) ?_
                refine a_sub [7, 1, 3, 2, 0] rfl ?_
                exact ih _ _ _ _ _ _ hf hX0 hX1 _ hz hfr
              · replace hf := (if_pos k20027).symm.trans hf
                refine a_iconst (pc' := 115) (v := (1 : Int32)) dX4_read_114 rfl (by decide) ?_
                refine a_goto 119 dX4_read_115 (by decide) ?_
                refine a_istore_n (pc' := 120) (ls' := [(2, .int ((1 : Int32))), (7, .int ((1 : Int32))), (6, .int x20003), (5, .int ((m_text M_19) v4_19.toNatClampNeg)), (0, .ref 55), (1, .int v1_19), (3, .int v3_19), (4, .int v4_19)]) dX4_read_119 rfl (by decide) rfl rfl ?_
                refine a_iconst (pc' := 121) (v := (1 : Int32)) dX4_read_120 rfl (by decide) ?_
                refine a_istore_n (pc' := 122) (ls' := [(3, .int ((1 : Int32))), (2, .int ((1 : Int32))), (7, .int ((1 : Int32))), (6, .int x20003), (5, .int ((m_text M_19) v4_19.toNatClampNeg)), (0, .ref 55), (1, .int v1_19), (4, .int v4_19)]) dX4_read_121 rfl (by decide) rfl rfl ?_
                refine a_iconst (pc' := 123) (v := (1 : Int32)) dX4_read_122 rfl (by decide) ?_
                refine a_istore_n (pc' := 124) (ls' := [(1, .int ((1 : Int32))), (3, .int ((1 : Int32))), (2, .int ((1 : Int32))), (7, .int ((1 : Int32))), (6, .int x20003), (5, .int ((m_text M_19) v4_19.toNatClampNeg)), (0, .ref 55), (4, .int v4_19)]) dX4_read_123 rfl (by decide) rfl rfl ?_
                refine a_goto 200 dX4_read_124 (by decide) ?_
                refine a_iinc (pc' := 203) (v := v4_19 + (1 : Int32)) (ls' := [(4, .int (v4_19 + (1 : Int32))), (1, .int ((1 : Int32))), (3, .int ((1 : Int32))), (2, .int ((1 : Int32))), (7, .int ((1 : Int32))), (6, .int x20003), (5, .int ((m_text M_19) v4_19.toNatClampNeg)), (0, .ref 55)]) 7 dX4_read_200 rfl (by rfl) (by decide) rfl rfl ?_
                refine a_goto 19 dX4_read_203 (by decide) ?_
                refine a_sub [7, 1, 3, 2, 0] rfl ?_
                exact ih _ _ _ _ _ _ hf hX0 hX1 _ hz hfr
            · replace hf := (if_pos k20026).symm.trans hf
              refine a_iconst (pc' := 104) (v := (0 : Int32)) dX4_read_103 rfl (by decide) ?_
              refine a_goto 119 dX4_read_104 (by decide) ?_
              refine a_istore_n (pc' := 120) (ls' := [(2, .int ((0 : Int32))), (7, .int ((1 : Int32))), (6, .int x20003), (5, .int ((m_text M_19) v4_19.toNatClampNeg)), (0, .ref 55), (1, .int v1_19), (3, .int v3_19), (4, .int v4_19)]) dX4_read_119 rfl (by decide) rfl rfl ?_
              refine a_iconst (pc' := 121) (v := (1 : Int32)) dX4_read_120 rfl (by decide) ?_
              refine a_istore_n (pc' := 122) (ls' := [(3, .int ((1 : Int32))), (2, .int ((0 : Int32))), (7, .int ((1 : Int32))), (6, .int x20003), (5, .int ((m_text M_19) v4_19.toNatClampNeg)), (0, .ref 55), (1, .int v1_19), (4, .int v4_19)]) dX4_read_121 rfl (by decide) rfl rfl ?_
              refine a_iconst (pc' := 123) (v := (1 : Int32)) dX4_read_122 rfl (by decide) ?_
              refine a_istore_n (pc' := 124) (ls' := [(1, .int ((1 : Int32))), (3, .int ((1 : Int32))), (2, .int ((0 : Int32))), (7, .int ((1 : Int32))), (6, .int x20003), (5, .int ((m_text M_19) v4_19.toNatClampNeg)), (0, .ref 55), (4, .int v4_19)]) dX4_read_123 rfl (by decide) rfl rfl ?_
              refine a_goto 200 dX4_read_124 (by decide) ?_
              refine a_iinc (pc' := 203) (v := v4_19 + (1 : Int32)) (ls' := [(4, .int (v4_19 + (1 : Int32))), (1, .int ((1 : Int32))), (3, .int ((1 : Int32))), (2, .int ((0 : Int32))), (7, .int ((1 : Int32))), (6, .int x20003), (5, .int ((m_text M_19) v4_19.toNatClampNeg)), (0, .ref 55)]) 7 dX4_read_200 rfl (by rfl) (by decide) rfl rfl ?_
              refine a_goto 19 dX4_read_203 (by decide) ?_
              refine a_sub [7, 1, 3, 2, 0] rfl ?_
              exact ih _ _ _ _ _ _ hf hX0 hX1 _ hz hfr
      · replace hf := (if_neg k20004).symm.trans hf
        refine a_iload (pc' := 57) 1 dX4_read_55 rfl rfl ?_
        refine a_bipush (pc' := 59) (v := (114 : Int32)) dX4_read_57 rfl (by decide) ?_
        refine a_icmp_eq (pc' := 62) 69 dX4_read_59 (by decide) rfl (fun k20028 => ?_) (fun k20028 => ?_)
        · replace hf := (if_pos k20028).symm.trans hf
          refine a_iconst (pc' := 70) (v := (1 : Int32)) dX4_read_69 rfl (by decide) ?_
          refine a_goto 74 dX4_read_70 (by decide) ?_
          refine a_istore (pc' := 76) (ls' := [(7, .int ((1 : Int32))), (6, .int x20003), (5, .int ((m_text M_19) v4_19.toNatClampNeg)), (0, .ref 55), (1, .int v1_19), (2, .int v2_19), (3, .int v3_19), (4, .int v4_19)]) dX4_read_74 (by decide) rfl rfl ?_
          refine a_iload (pc' := 78) 0 dX4_read_76 rfl rfl ?_
          refine a_if_eq (pc' := 81) 127 dX4_read_78 (by decide) rfl (fun cc => absurd cc (by decide)) (fun _ => ?_)
          refine a_iload_n (pc' := 82) 4 dX4_read_81 rfl rfl rfl ?_
          refine a_iconst (pc' := 83) (v := (2 : Int32)) dX4_read_82 rfl (by decide) ?_
          refine a_icmp_eq (pc' := 86) 127 dX4_read_83 (by decide) rfl (fun k20029 => ?_) (fun k20029 => ?_)
          · replace hf := (if_pos k20029).symm.trans hf
            refine a_iload (pc' := 129) 1 dX4_read_127 rfl rfl ?_
            refine a_if_eq (pc' := 132) 166 dX4_read_129 (by decide) rfl (fun k20030 => ?_) (fun k20030 => ?_)
            · replace hf := (if_pos k20030).symm.trans hf
              refine a_iload (pc' := 168) 1 dX4_read_166 rfl rfl ?_
              refine a_if_eq (pc' := 171) 197 dX4_read_168 (by decide) rfl (fun k20031 => ?_) (fun k20031 => ?_)
              · replace hf := (if_pos k20031).symm.trans hf
                cases hf
                refine a_sub [7] rfl ?_
                exact hX1 _ rfl _ hz hfr
              · replace hf := (if_neg k20031).symm.trans hf
                refine a_iload_n (pc' := 172) 4 dX4_read_171 rfl rfl rfl ?_
                refine a_iconst (pc' := 173) (v := (2 : Int32)) dX4_read_172 rfl (by decide) ?_
                refine a_icmp_eq (pc' := 176) 181 dX4_read_173 (by decide) rfl (fun k20032 => ?_) (fun k20032 => ?_)
                · replace hf := (if_pos k20032).symm.trans hf
                  refine a_bipush (pc' := 183) (v := (10 : Int32)) dX4_read_181 rfl (by decide) ?_
                  refine a_iload_n (pc' := 184) 6 dX4_read_183 rfl rfl rfl ?_
                  refine a_imul (pc' := 185) dX4_read_184 rfl ?_
                  refine a_iload (pc' := 187) 2 dX4_read_185 rfl rfl ?_
                  refine a_iadd (pc' := 188) dX4_read_187 rfl ?_
                  refine a_bipush (pc' := 190) (v := (48 : Int32)) dX4_read_188 rfl (by decide) ?_
                  refine a_isub (pc' := 191) dX4_read_190 rfl ?_
                  refine a_istore_n (pc' := 192) (ls' := [(3, .int (((((10 : Int32)) * v3_19) + ((m_text M_19) v4_19.toNatClampNeg)) - ((48 : Int32)))), (7, .int ((1 : Int32))), (6, .int x20003), (5, .int ((m_text M_19) v4_19.toNatClampNeg)), (0, .ref 55), (1, .int v1_19), (2, .int v2_19), (4, .int v4_19)]) dX4_read_191 rfl (by decide) rfl rfl ?_
                  refine a_iconst (pc' := 193) (v := (4 : Int32)) dX4_read_192 rfl (by decide) ?_
                  refine a_istore_n (pc' := 194) (ls' := [(1, .int ((4 : Int32))), (3, .int (((((10 : Int32)) * v3_19) + ((m_text M_19) v4_19.toNatClampNeg)) - ((48 : Int32)))), (7, .int ((1 : Int32))), (6, .int x20003), (5, .int ((m_text M_19) v4_19.toNatClampNeg)), (0, .ref 55), (2, .int v2_19), (4, .int v4_19)]) dX4_read_193 rfl (by decide) rfl rfl ?_
                  refine a_goto 200 dX4_read_194 (by decide) ?_
                  refine a_iinc (pc' := 203) (v := v4_19 + (1 : Int32)) (ls' := [(4, .int (v4_19 + (1 : Int32))), (1, .int ((4 : Int32))), (3, .int (((((10 : Int32)) * v3_19) + ((m_text M_19) v4_19.toNatClampNeg)) - ((48 : Int32)))), (7, .int ((1 : Int32))), (6, .int x20003), (5, .int ((m_text M_19) v4_19.toNatClampNeg)), (0, .ref 55), (2, .int v2_19)]) 7 dX4_read_200 rfl (by rfl) (by decide) rfl rfl ?_
                  refine a_goto 19 dX4_read_203 (by decide) ?_
                  refine a_sub [6, 1, 7, 2, 0] rfl ?_
                  exact ih _ _ _ _ _ _ hf hX0 hX1 _ hz hfr
                · replace hf := (if_neg k20032).symm.trans hf
                  refine a_iload_n (pc' := 177) 4 dX4_read_176 rfl rfl rfl ?_
                  refine a_iconst (pc' := 178) (v := (3 : Int32)) dX4_read_177 rfl (by decide) ?_
                  refine a_icmp_ne (pc' := 181) 197 dX4_read_178 (by decide) rfl (fun k20033 => ?_) (fun k20033 => ?_)
                  · replace hf := (if_neg k20033).symm.trans hf
                    cases hf
                    refine a_sub [7] rfl ?_
                    exact hX1 _ rfl _ hz hfr
                  · replace hf := (if_pos k20033).symm.trans hf
                    refine a_bipush (pc' := 183) (v := (10 : Int32)) dX4_read_181 rfl (by decide) ?_
                    refine a_iload_n (pc' := 184) 6 dX4_read_183 rfl rfl rfl ?_
                    refine a_imul (pc' := 185) dX4_read_184 rfl ?_
                    refine a_iload (pc' := 187) 2 dX4_read_185 rfl rfl ?_
                    refine a_iadd (pc' := 188) dX4_read_187 rfl ?_
                    refine a_bipush (pc' := 190) (v := (48 : Int32)) dX4_read_188 rfl (by decide) ?_
                    refine a_isub (pc' := 191) dX4_read_190 rfl ?_
                    refine a_istore_n (pc' := 192) (ls' := [(3, .int (((((10 : Int32)) * v3_19) + ((m_text M_19) v4_19.toNatClampNeg)) - ((48 : Int32)))), (7, .int ((1 : Int32))), (6, .int x20003), (5, .int ((m_text M_19) v4_19.toNatClampNeg)), (0, .ref 55), (1, .int v1_19), (2, .int v2_19), (4, .int v4_19)]) dX4_read_191 rfl (by decide) rfl rfl ?_
                    refine a_iconst (pc' := 193) (v := (4 : Int32)) dX4_read_192 rfl (by decide) ?_
                    refine a_istore_n (pc' := 194) (ls' := [(1, .int ((4 : Int32))), (3, .int (((((10 : Int32)) * v3_19) + ((m_text M_19) v4_19.toNatClampNeg)) - ((48 : Int32)))), (7, .int ((1 : Int32))), (6, .int x20003), (5, .int ((m_text M_19) v4_19.toNatClampNeg)), (0, .ref 55), (2, .int v2_19), (4, .int v4_19)]) dX4_read_193 rfl (by decide) rfl rfl ?_
                    refine a_goto 200 dX4_read_194 (by decide) ?_
                    refine a_iinc (pc' := 203) (v := v4_19 + (1 : Int32)) (ls' := [(4, .int (v4_19 + (1 : Int32))), (1, .int ((4 : Int32))), (3, .int (((((10 : Int32)) * v3_19) + ((m_text M_19) v4_19.toNatClampNeg)) - ((48 : Int32)))), (7, .int ((1 : Int32))), (6, .int x20003), (5, .int ((m_text M_19) v4_19.toNatClampNeg)), (0, .ref 55), (2, .int v2_19)]) 7 dX4_read_200 rfl (by rfl) (by decide) rfl rfl ?_
                    refine a_goto 19 dX4_read_203 (by decide) ?_
                    refine a_sub [6, 1, 7, 2, 0] rfl ?_
                    exact ih _ _ _ _ _ _ hf hX0 hX1 _ hz hfr
            · replace hf := (if_neg k20030).symm.trans hf
              refine a_iload_n (pc' := 133) 4 dX4_read_132 rfl rfl rfl ?_
              refine a_iconst (pc' := 134) (v := (1 : Int32)) dX4_read_133 rfl (by decide) ?_
              refine a_icmp_ne (pc' := 137) 166 dX4_read_134 (by decide) rfl (fun k20034 => ?_) (fun k20034 => ?_)
              · replace hf := (if_neg k20034).symm.trans hf
                refine a_iload (pc' := 168) 1 dX4_read_166 rfl rfl ?_
                refine a_if_eq (pc' := 171) 197 dX4_read_168 (by decide) rfl (fun k20035 => ?_) (fun k20035 => ?_)
                · replace hf := (if_pos k20035).symm.trans hf
                  cases hf
                  refine a_sub [7] rfl ?_
                  exact hX1 _ rfl _ hz hfr
                · replace hf := (if_neg k20035).symm.trans hf
                  refine a_iload_n (pc' := 172) 4 dX4_read_171 rfl rfl rfl ?_
                  refine a_iconst (pc' := 173) (v := (2 : Int32)) dX4_read_172 rfl (by decide) ?_
                  refine a_icmp_eq (pc' := 176) 181 dX4_read_173 (by decide) rfl (fun k20036 => ?_) (fun k20036 => ?_)
                  · replace hf := (if_pos k20036).symm.trans hf
                    refine a_bipush (pc' := 183) (v := (10 : Int32)) dX4_read_181 rfl (by decide) ?_
                    refine a_iload_n (pc' := 184) 6 dX4_read_183 rfl rfl rfl ?_
                    refine a_imul (pc' := 185) dX4_read_184 rfl ?_
                    refine a_iload (pc' := 187) 2 dX4_read_185 rfl rfl ?_
                    refine a_iadd (pc' := 188) dX4_read_187 rfl ?_
                    refine a_bipush (pc' := 190) (v := (48 : Int32)) dX4_read_188 rfl (by decide) ?_
                    refine a_isub (pc' := 191) dX4_read_190 rfl ?_
                    refine a_istore_n (pc' := 192) (ls' := [(3, .int (((((10 : Int32)) * v3_19) + ((m_text M_19) v4_19.toNatClampNeg)) - ((48 : Int32)))), (7, .int ((1 : Int32))), (6, .int x20003), (5, .int ((m_text M_19) v4_19.toNatClampNeg)), (0, .ref 55), (1, .int v1_19), (2, .int v2_19), (4, .int v4_19)]) dX4_read_191 rfl (by decide) rfl rfl ?_
                    refine a_iconst (pc' := 193) (v := (4 : Int32)) dX4_read_192 rfl (by decide) ?_
                    refine a_istore_n (pc' := 194) (ls' := [(1, .int ((4 : Int32))), (3, .int (((((10 : Int32)) * v3_19) + ((m_text M_19) v4_19.toNatClampNeg)) - ((48 : Int32)))), (7, .int ((1 : Int32))), (6, .int x20003), (5, .int ((m_text M_19) v4_19.toNatClampNeg)), (0, .ref 55), (2, .int v2_19), (4, .int v4_19)]) dX4_read_193 rfl (by decide) rfl rfl ?_
                    refine a_goto 200 dX4_read_194 (by decide) ?_
                    refine a_iinc (pc' := 203) (v := v4_19 + (1 : Int32)) (ls' := [(4, .int (v4_19 + (1 : Int32))), (1, .int ((4 : Int32))), (3, .int (((((10 : Int32)) * v3_19) + ((m_text M_19) v4_19.toNatClampNeg)) - ((48 : Int32)))), (7, .int ((1 : Int32))), (6, .int x20003), (5, .int ((m_text M_19) v4_19.toNatClampNeg)), (0, .ref 55), (2, .int v2_19)]) 7 dX4_read_200 rfl (by rfl) (by decide) rfl rfl ?_
                    refine a_goto 19 dX4_read_203 (by decide) ?_
                    refine a_sub [6, 1, 7, 2, 0] rfl ?_
                    exact ih _ _ _ _ _ _ hf hX0 hX1 _ hz hfr
                  · replace hf := (if_neg k20036).symm.trans hf
                    refine a_iload_n (pc' := 177) 4 dX4_read_176 rfl rfl rfl ?_
                    refine a_iconst (pc' := 178) (v := (3 : Int32)) dX4_read_177 rfl (by decide) ?_
                    refine a_icmp_ne (pc' := 181) 197 dX4_read_178 (by decide) rfl (fun k20037 => ?_) (fun k20037 => ?_)
                    · replace hf := (if_neg k20037).symm.trans hf
                      cases hf
                      refine a_sub [7] rfl ?_
                      exact hX1 _ rfl _ hz hfr
                    · replace hf := (if_pos k20037).symm.trans hf
                      refine a_bipush (pc' := 183) (v := (10 : Int32)) dX4_read_181 rfl (by decide) ?_
                      refine a_iload_n (pc' := 184) 6 dX4_read_183 rfl rfl rfl ?_
                      refine a_imul (pc' := 185) dX4_read_184 rfl ?_
                      refine a_iload (pc' := 187) 2 dX4_read_185 rfl rfl ?_
                      refine a_iadd (pc' := 188) dX4_read_187 rfl ?_
                      refine a_bipush (pc' := 190) (v := (48 : Int32)) dX4_read_188 rfl (by decide) ?_
                      refine a_isub (pc' := 191) dX4_read_190 rfl ?_
                      refine a_istore_n (pc' := 192) (ls' := [(3, .int (((((10 : Int32)) * v3_19) + ((m_text M_19) v4_19.toNatClampNeg)) - ((48 : Int32)))), (7, .int ((1 : Int32))), (6, .int x20003), (5, .int ((m_text M_19) v4_19.toNatClampNeg)), (0, .ref 55), (1, .int v1_19), (2, .int v2_19), (4, .int v4_19)]) dX4_read_191 rfl (by decide) rfl rfl ?_
                      refine a_iconst (pc' := 193) (v := (4 : Int32)) dX4_read_192 rfl (by decide) ?_
                      refine a_istore_n (pc' := 194) (ls' := [(1, .int ((4 : Int32))), (3, .int (((((10 : Int32)) * v3_19) + ((m_text M_19) v4_19.toNatClampNeg)) - ((48 : Int32)))), (7, .int ((1 : Int32))), (6, .int x20003), (5, .int ((m_text M_19) v4_19.toNatClampNeg)), (0, .ref 55), (2, .int v2_19), (4, .int v4_19)]) dX4_read_193 rfl (by decide) rfl rfl ?_
                      refine a_goto 200 dX4_read_194 (by decide) ?_
                      refine a_iinc (pc' := 203) (v := v4_19 + (1 : Int32)) (ls' := [(4, .int (v4_19 + (1 : Int32))), (1, .int ((4 : Int32))), (3, .int (((((10 : Int32)) * v3_19) + ((m_text M_19) v4_19.toNatClampNeg)) - ((48 : Int32)))), (7, .int ((1 : Int32))), (6, .int x20003), (5, .int ((m_text M_19) v4_19.toNatClampNeg)), (0, .ref 55), (2, .int v2_19)]) 7 dX4_read_200 rfl (by rfl) (by decide) rfl rfl ?_
                      refine a_goto 19 dX4_read_203 (by decide) ?_
                      refine a_sub [6, 1, 7, 2, 0] rfl ?_
                      exact ih _ _ _ _ _ _ hf hX0 hX1 _ hz hfr
              · replace hf := (if_pos k20034).symm.trans hf
                refine a_iload (pc' := 139) 2 dX4_read_137 rfl rfl ?_
                refine a_bipush (pc' := 141) (v := (48 : Int32)) dX4_read_139 rfl (by decide) ?_
                refine a_icmp_eq (pc' := 144) 166 dX4_read_141 (by decide) rfl (fun k20038 => ?_) (fun k20038 => ?_)
                · replace hf := (if_pos k20038).symm.trans hf
                  refine a_iload (pc' := 168) 1 dX4_read_166 rfl rfl ?_
                  refine a_if_eq (pc' := 171) 197 dX4_read_168 (by decide) rfl (fun k20039 => ?_) (fun k20039 => ?_)
                  · replace hf := (if_pos k20039).symm.trans hf
                    cases hf
                    refine a_sub [7] rfl ?_
                    exact hX1 _ rfl _ hz hfr
                  · replace hf := (if_neg k20039).symm.trans hf
                    refine a_iload_n (pc' := 172) 4 dX4_read_171 rfl rfl rfl ?_
                    refine a_iconst (pc' := 173) (v := (2 : Int32)) dX4_read_172 rfl (by decide) ?_
                    refine a_icmp_eq (pc' := 176) 181 dX4_read_173 (by decide) rfl (fun k20040 => ?_) (fun k20040 => ?_)
                    · replace hf := (if_pos k20040).symm.trans hf
                      refine a_bipush (pc' := 183) (v := (10 : Int32)) dX4_read_181 rfl (by decide) ?_
                      refine a_iload_n (pc' := 184) 6 dX4_read_183 rfl rfl rfl ?_
                      refine a_imul (pc' := 185) dX4_read_184 rfl ?_
                      refine a_iload (pc' := 187) 2 dX4_read_185 rfl rfl ?_
                      refine a_iadd (pc' := 188) dX4_read_187 rfl ?_
                      refine a_bipush (pc' := 190) (v := (48 : Int32)) dX4_read_188 rfl (by decide) ?_
                      refine a_isub (pc' := 191) dX4_read_190 rfl ?_
                      refine a_istore_n (pc' := 192) (ls' := [(3, .int (((((10 : Int32)) * v3_19) + ((m_text M_19) v4_19.toNatClampNeg)) - ((48 : Int32)))), (7, .int ((1 : Int32))), (6, .int x20003), (5, .int ((m_text M_19) v4_19.toNatClampNeg)), (0, .ref 55), (1, .int v1_19), (2, .int v2_19), (4, .int v4_19)]) dX4_read_191 rfl (by decide) rfl rfl ?_
                      refine a_iconst (pc' := 193) (v := (4 : Int32)) dX4_read_192 rfl (by decide) ?_
                      refine a_istore_n (pc' := 194) (ls' := [(1, .int ((4 : Int32))), (3, .int (((((10 : Int32)) * v3_19) + ((m_text M_19) v4_19.toNatClampNeg)) - ((48 : Int32)))), (7, .int ((1 : Int32))), (6, .int x20003), (5, .int ((m_text M_19) v4_19.toNatClampNeg)), (0, .ref 55), (2, .int v2_19), (4, .int v4_19)]) dX4_read_193 rfl (by decide) rfl rfl ?_
                      refine a_goto 200 dX4_read_194 (by decide) ?_
                      refine a_iinc (pc' := 203) (v := v4_19 + (1 : Int32)) (ls' := [(4, .int (v4_19 + (1 : Int32))), (1, .int ((4 : Int32))), (3, .int (((((10 : Int32)) * v3_19) + ((m_text M_19) v4_19.toNatClampNeg)) - ((48 : Int32)))), (7, .int ((1 : Int32))), (6, .int x20003), (5, .int ((m_text M_19) v4_19.toNatClampNeg)), (0, .ref 55), (2, .int v2_19)]) 7 dX4_read_200 rfl (by rfl) (by decide) rfl rfl ?_
                      refine a_goto 19 dX4_read_203 (by decide) ?_
                      refine a_sub [6, 1, 7, 2, 0] rfl ?_
                      exact ih _ _ _ _ _ _ hf hX0 hX1 _ hz hfr
                    · replace hf := (if_neg k20040).symm.trans hf
                      refine a_iload_n (pc' := 177) 4 dX4_read_176 rfl rfl rfl ?_
                      refine a_iconst (pc' := 178) (v := (3 : Int32)) dX4_read_177 rfl (by decide) ?_
                      refine a_icmp_ne (pc' := 181) 197 dX4_read_178 (by decide) rfl (fun k20041 => ?_) (fun k20041 => ?_)
                      · replace hf := (if_neg k20041).symm.trans hf
                        cases hf
                        refine a_sub [7] rfl ?_
                        exact hX1 _ rfl _ hz hfr
                      · replace hf := (if_pos k20041).symm.trans hf
                        refine a_bipush (pc' := 183) (v := (10 : Int32)) dX4_read_181 rfl (by decide) ?_
                        refine a_iload_n (pc' := 184) 6 dX4_read_183 rfl rfl rfl ?_
                        refine a_imul (pc' := 185) dX4_read_184 rfl ?_
                        refine a_iload (pc' := 187) 2 dX4_read_185 rfl rfl ?_
                        refine a_iadd (pc' := 188) dX4_read_187 rfl ?_
                        refine a_bipush (pc' := 190) (v := (48 : Int32)) dX4_read_188 rfl (by decide) ?_
                        refine a_isub (pc' := 191) dX4_read_190 rfl ?_
                        refine a_istore_n (pc' := 192) (ls' := [(3, .int (((((10 : Int32)) * v3_19) + ((m_text M_19) v4_19.toNatClampNeg)) - ((48 : Int32)))), (7, .int ((1 : Int32))), (6, .int x20003), (5, .int ((m_text M_19) v4_19.toNatClampNeg)), (0, .ref 55), (1, .int v1_19), (2, .int v2_19), (4, .int v4_19)]) dX4_read_191 rfl (by decide) rfl rfl ?_
                        refine a_iconst (pc' := 193) (v := (4 : Int32)) dX4_read_192 rfl (by decide) ?_
                        refine a_istore_n (pc' := 194) (ls' := [(1, .int ((4 : Int32))), (3, .int (((((10 : Int32)) * v3_19) + ((m_text M_19) v4_19.toNatClampNeg)) - ((48 : Int32)))), (7, .int ((1 : Int32))), (6, .int x20003), (5, .int ((m_text M_19) v4_19.toNatClampNeg)), (0, .ref 55), (2, .int v2_19), (4, .int v4_19)]) dX4_read_193 rfl (by decide) rfl rfl ?_
                        refine a_goto 200 dX4_read_194 (by decide) ?_
                        refine a_iinc (pc' := 203) (v := v4_19 + (1 : Int32)) (ls' := [(4, .int (v4_19 + (1 : Int32))), (1, .int ((4 : Int32))), (3, .int (((((10 : Int32)) * v3_19) + ((m_text M_19) v4_19.toNatClampNeg)) - ((48 : Int32)))), (7, .int ((1 : Int32))), (6, .int x20003), (5, .int ((m_text M_19) v4_19.toNatClampNeg)), (0, .ref 55), (2, .int v2_19)]) 7 dX4_read_200 rfl (by rfl) (by decide) rfl rfl ?_
                        refine a_goto 19 dX4_read_203 (by decide) ?_
                        refine a_sub [6, 1, 7, 2, 0] rfl ?_
                        exact ih _ _ _ _ _ _ hf hX0 hX1 _ hz hfr
                · replace hf := (if_neg k20038).symm.trans hf
                  refine a_iload (pc' := 146) 2 dX4_read_144 rfl rfl ?_
                  refine a_bipush (pc' := 148) (v := (48 : Int32)) dX4_read_146 rfl (by decide) ?_
                  refine a_isub (pc' := 149) dX4_read_148 rfl ?_
                  refine a_istore_n (pc' := 150) (ls' := [(3, .int (((m_text M_19) v4_19.toNatClampNeg) - ((48 : Int32)))), (7, .int ((1 : Int32))), (6, .int x20003), (5, .int ((m_text M_19) v4_19.toNatClampNeg)), (0, .ref 55), (1, .int v1_19), (2, .int v2_19), (4, .int v4_19)]) dX4_read_149 rfl (by decide) rfl rfl ?_
                  refine a_iload (pc' := 152) 3 dX4_read_150 rfl rfl ?_
                  refine a_bipush (pc' := 154) (v := (49 : Int32)) dX4_read_152 rfl (by decide) ?_
                  refine a_icmp_ne (pc' := 157) 161 dX4_read_154 (by decide) rfl (fun k20042 => ?_) (fun k20042 => ?_)
                  · replace hf := (if_neg k20042).symm.trans hf
                    refine a_iconst (pc' := 162) (v := (3 : Int32)) dX4_read_161 rfl (by decide) ?_
                    refine a_istore_n (pc' := 163) (ls' := [(1, .int ((3 : Int32))), (3, .int (((m_text M_19) v4_19.toNatClampNeg) - ((48 : Int32)))), (7, .int ((1 : Int32))), (6, .int x20003), (5, .int ((m_text M_19) v4_19.toNatClampNeg)), (0, .ref 55), (2, .int v2_19), (4, .int v4_19)]) dX4_read_162 rfl (by decide) rfl rfl ?_
                    refine a_goto 200 dX4_read_163 (by decide) ?_
                    refine a_iinc (pc' := 203) (v := v4_19 + (1 : Int32)) (ls' := [(4, .int (v4_19 + (1 : Int32))), (1, .int ((3 : Int32))), (3, .int (((m_text M_19) v4_19.toNatClampNeg) - ((48 : Int32)))), (7, .int ((1 : Int32))), (6, .int x20003), (5, .int ((m_text M_19) v4_19.toNatClampNeg)), (0, .ref 55), (2, .int v2_19)]) 7 dX4_read_200 rfl (by rfl) (by decide) rfl rfl ?_
                    refine a_goto 19 dX4_read_203 (by decide) ?_
                    refine a_sub [6, 1, 7, 2, 0] rfl ?_
                    exact ih _ _ _ _ _ _ hf hX0 hX1 _ hz hfr
                  · replace hf := (if_pos k20042).symm.trans hf
                    refine a_iconst (pc' := 158) (v := (2 : Int32)) dX4_read_157 rfl (by decide) ?_
                    refine a_goto 162 dX4_read_158 (by decide) ?_
                    refine a_istore_n (pc' := 163) (ls' := [(1, .int ((2 : Int32))), (3, .int (((m_text M_19) v4_19.toNatClampNeg) - ((48 : Int32)))), (7, .int ((1 : Int32))), (6, .int x20003), (5, .int ((m_text M_19) v4_19.toNatClampNeg)), (0, .ref 55), (2, .int v2_19), (4, .int v4_19)]) dX4_read_162 rfl (by decide) rfl rfl ?_
                    refine a_goto 200 dX4_read_163 (by decide) ?_
                    refine a_iinc (pc' := 203) (v := v4_19 + (1 : Int32)) (ls' := [(4, .int (v4_19 + (1 : Int32))), (1, .int ((2 : Int32))), (3, .int (((m_text M_19) v4_19.toNatClampNeg) - ((48 : Int32)))), (7, .int ((1 : Int32))), (6, .int x20003), (5, .int ((m_text M_19) v4_19.toNatClampNeg)), (0, .ref 55), (2, .int v2_19)]) 7 dX4_read_200 rfl (by rfl) (by decide) rfl rfl ?_
                    refine a_goto 19 dX4_read_203 (by decide) ?_
                    refine a_sub [6, 1, 7, 2, 0] rfl ?_
                    exact ih _ _ _ _ _ _ hf hX0 hX1 _ hz hfr
          · replace hf := (if_neg k20029).symm.trans hf
            refine a_iload_n (pc' := 87) 4 dX4_read_86 rfl rfl rfl ?_
            refine a_if_le (pc' := 90) 96 dX4_read_87 (by decide) rfl (fun k20043 => ?_) (fun k20043 => ?_)
            · replace hf := (if_pos k20043).symm.trans hf
              refine a_iload (pc' := 98) 2 dX4_read_96 rfl rfl ?_
              refine a_bipush (pc' := 100) (v := (100 : Int32)) dX4_read_98 rfl (by decide) ?_
              refine a_icmp_ne (pc' := 103) 107 dX4_read_100 (by decide) rfl (fun k20044 => ?_) (fun k20044 => ?_)
              · replace hf := (if_neg k20044).symm.trans hf
                refine a_iload (pc' := 109) 2 dX4_read_107 rfl rfl ?_
                refine a_bipush (pc' := 111) (v := (114 : Int32)) dX4_read_109 rfl (by decide) ?_
                refine a_icmp_ne (pc' := 114) 118 dX4_read_111 (by decide) rfl (fun k20045 => ?_) (fun k20045 => ?_)
                · replace hf := (if_neg k20045).symm.trans hf
                  refine a_iconst (pc' := 119) (v := (2 : Int32)) dX4_read_118 rfl (by decide) ?_
                  refine a_istore_n (pc' := 120) (ls' := [(2, .int ((2 : Int32))), (7, .int ((1 : Int32))), (6, .int x20003), (5, .int ((m_text M_19) v4_19.toNatClampNeg)), (0, .ref 55), (1, .int v1_19), (3, .int v3_19), (4, .int v4_19)]) dX4_read_119 rfl (by decide) rfl rfl ?_
                  refine a_iconst (pc' := 121) (v := (1 : Int32)) dX4_read_120 rfl (by decide) ?_
                  refine a_istore_n (pc' := 122) (ls' := [(3, .int ((1 : Int32))), (2, .int ((2 : Int32))), (7, .int ((1 : Int32))), (6, .int x20003), (5, .int ((m_text M_19) v4_19.toNatClampNeg)), (0, .ref 55), (1, .int v1_19), (4, .int v4_19)]) dX4_read_121 rfl (by decide) rfl rfl ?_
                  refine a_iconst (pc' := 123) (v := (1 : Int32)) dX4_read_122 rfl (by decide) ?_
                  refine a_istore_n (pc' := 124) (ls' := [(1, .int ((1 : Int32))), (3, .int ((1 : Int32))), (2, .int ((2 : Int32))), (7, .int ((1 : Int32))), (6, .int x20003), (5, .int ((m_text M_19) v4_19.toNatClampNeg)), (0, .ref 55), (4, .int v4_19)]) dX4_read_123 rfl (by decide) rfl rfl ?_
                  refine a_goto 200 dX4_read_124 (by decide) ?_
                  refine a_iinc (pc' := 203) (v := v4_19 + (1 : Int32)) (ls' := [(4, .int (v4_19 + (1 : Int32))), (1, .int ((1 : Int32))), (3, .int ((1 : Int32))), (2, .int ((2 : Int32))), (7, .int ((1 : Int32))), (6, .int x20003), (5, .int ((m_text M_19) v4_19.toNatClampNeg)), (0, .ref 55)]) 7 dX4_read_200 rfl (by rfl) (by decide) rfl rfl ?_
                  refine a_goto 19 dX4_read_203 (by decide) ?_
                  refine a_sub [7, 1, 3, 2, 0] rfl ?_
                  exact ih _ _ _ _ _ _ hf hX0 hX1 _ hz hfr
                · replace hf := (if_pos k20045).symm.trans hf
                  refine a_iconst (pc' := 115) (v := (1 : Int32)) dX4_read_114 rfl (by decide) ?_
                  refine a_goto 119 dX4_read_115 (by decide) ?_
                  refine a_istore_n (pc' := 120) (ls' := [(2, .int ((1 : Int32))), (7, .int ((1 : Int32))), (6, .int x20003), (5, .int ((m_text M_19) v4_19.toNatClampNeg)), (0, .ref 55), (1, .int v1_19), (3, .int v3_19), (4, .int v4_19)]) dX4_read_119 rfl (by decide) rfl rfl ?_
                  refine a_iconst (pc' := 121) (v := (1 : Int32)) dX4_read_120 rfl (by decide) ?_
                  refine a_istore_n (pc' := 122) (ls' := [(3, .int ((1 : Int32))), (2, .int ((1 : Int32))), (7, .int ((1 : Int32))), (6, .int x20003), (5, .int ((m_text M_19) v4_19.toNatClampNeg)), (0, .ref 55), (1, .int v1_19), (4, .int v4_19)]) dX4_read_121 rfl (by decide) rfl rfl ?_
                  refine a_iconst (pc' := 123) (v := (1 : Int32)) dX4_read_122 rfl (by decide) ?_
                  refine a_istore_n (pc' := 124) (ls' := [(1, .int ((1 : Int32))), (3, .int ((1 : Int32))), (2, .int ((1 : Int32))), (7, .int ((1 : Int32))), (6, .int x20003), (5, .int ((m_text M_19) v4_19.toNatClampNeg)), (0, .ref 55), (4, .int v4_19)]) dX4_read_123 rfl (by decide) rfl rfl ?_
                  refine a_goto 200 dX4_read_124 (by decide) ?_
                  refine a_iinc (pc' := 203) (v := v4_19 + (1 : Int32)) (ls' := [(4, .int (v4_19 + (1 : Int32))), (1, .int ((1 : Int32))), (3, .int ((1 : Int32))), (2, .int ((1 : Int32))), (7, .int ((1 : Int32))), (6, .int x20003), (5, .int ((m_text M_19) v4_19.toNatClampNeg)), (0, .ref 55)]) 7 dX4_read_200 rfl (by rfl) (by decide) rfl rfl ?_
                  refine a_goto 19 dX4_read_203 (by decide) ?_
                  refine a_sub [7, 1, 3, 2, 0] rfl ?_
                  exact ih _ _ _ _ _ _ hf hX0 hX1 _ hz hfr
              · replace hf := (if_pos k20044).symm.trans hf
                refine a_iconst (pc' := 104) (v := (0 : Int32)) dX4_read_103 rfl (by decide) ?_
                refine a_goto 119 dX4_read_104 (by decide) ?_
                refine a_istore_n (pc' := 120) (ls' := [(2, .int ((0 : Int32))), (7, .int ((1 : Int32))), (6, .int x20003), (5, .int ((m_text M_19) v4_19.toNatClampNeg)), (0, .ref 55), (1, .int v1_19), (3, .int v3_19), (4, .int v4_19)]) dX4_read_119 rfl (by decide) rfl rfl ?_
                refine a_iconst (pc' := 121) (v := (1 : Int32)) dX4_read_120 rfl (by decide) ?_
                refine a_istore_n (pc' := 122) (ls' := [(3, .int ((1 : Int32))), (2, .int ((0 : Int32))), (7, .int ((1 : Int32))), (6, .int x20003), (5, .int ((m_text M_19) v4_19.toNatClampNeg)), (0, .ref 55), (1, .int v1_19), (4, .int v4_19)]) dX4_read_121 rfl (by decide) rfl rfl ?_
                refine a_iconst (pc' := 123) (v := (1 : Int32)) dX4_read_122 rfl (by decide) ?_
                refine a_istore_n (pc' := 124) (ls' := [(1, .int ((1 : Int32))), (3, .int ((1 : Int32))), (2, .int ((0 : Int32))), (7, .int ((1 : Int32))), (6, .int x20003), (5, .int ((m_text M_19) v4_19.toNatClampNeg)), (0, .ref 55), (4, .int v4_19)]) dX4_read_123 rfl (by decide) rfl rfl ?_
                refine a_goto 200 dX4_read_124 (by decide) ?_
                refine a_iinc (pc' := 203) (v := v4_19 + (1 : Int32)) (ls' := [(4, .int (v4_19 + (1 : Int32))), (1, .int ((1 : Int32))), (3, .int ((1 : Int32))), (2, .int ((0 : Int32))), (7, .int ((1 : Int32))), (6, .int x20003), (5, .int ((m_text M_19) v4_19.toNatClampNeg)), (0, .ref 55)]) 7 dX4_read_200 rfl (by rfl) (by decide) rfl rfl ?_
                refine a_goto 19 dX4_read_203 (by decide) ?_
                refine a_sub [7, 1, 3, 2, 0] rfl ?_
                exact ih _ _ _ _ _ _ hf hX0 hX1 _ hz hfr
            · replace hf := (if_neg k20043).symm.trans hf
              refine a_aload_n (pc' := 91) 3 dX4_read_90 rfl rfl rfl ?_
              refine a_iload_n (pc' := 92) 5 dX4_read_91 rfl rfl rfl ?_
              refine a_iload_n (pc' := 93) 6 dX4_read_92 rfl rfl rfl ?_
              obtain ⟨x20047, e20046, hf⟩ := Option.bind_eq_some_iff.mp hf
              refine k_X4_136 (pc' := 96) (c_X4_comes l g F hz e20046) ⟨Nat.le_of_ble_eq_true rfl, Nat.le_of_ble_eq_true rfl⟩ hz.1 (Nat.le_of_ble_eq_true rfl) dX4_read_93 rfl (fun h20048 hq => ?_)
              obtain ⟨hz1, hfr1⟩ := hq
              obtain ⟨M20049, hf, hz⟩ := f_let_x (P := fun w => d_mod h20048 w) hf hz1
              replace hfr := d_frm.tr hfr hfr1 (by omega)
              refine a_iload (pc' := 98) 2 dX4_read_96 rfl rfl ?_
              refine a_bipush (pc' := 100) (v := (100 : Int32)) dX4_read_98 rfl (by decide) ?_
              refine a_icmp_ne (pc' := 103) 107 dX4_read_100 (by decide) rfl (fun k20050 => ?_) (fun k20050 => ?_)
              · replace hf := (if_neg k20050).symm.trans hf
                refine a_iload (pc' := 109) 2 dX4_read_107 rfl rfl ?_
                refine a_bipush (pc' := 111) (v := (114 : Int32)) dX4_read_109 rfl (by decide) ?_
                refine a_icmp_ne (pc' := 114) 118 dX4_read_111 (by decide) rfl (fun k20051 => ?_) (fun k20051 => ?_)
                · replace hf := (if_neg k20051).symm.trans hf
                  refine a_iconst (pc' := 119) (v := (2 : Int32)) dX4_read_118 rfl (by decide) ?_
                  refine a_istore_n (pc' := 120) (ls' := [(2, .int ((2 : Int32))), (7, .int ((1 : Int32))), (6, .int x20003), (5, .int ((m_text M_19) v4_19.toNatClampNeg)), (0, .ref 55), (1, .int v1_19), (3, .int v3_19), (4, .int v4_19)]) dX4_read_119 rfl (by decide) rfl rfl ?_
                  refine a_iconst (pc' := 121) (v := (1 : Int32)) dX4_read_120 rfl (by decide) ?_
                  refine a_istore_n (pc' := 122) (ls' := [(3, .int ((1 : Int32))), (2, .int ((2 : Int32))), (7, .int ((1 : Int32))), (6, .int x20003), (5, .int ((m_text M_19) v4_19.toNatClampNeg)), (0, .ref 55), (1, .int v1_19), (4, .int v4_19)]) dX4_read_121 rfl (by decide) rfl rfl ?_
                  refine a_iconst (pc' := 123) (v := (1 : Int32)) dX4_read_122 rfl (by decide) ?_
                  refine a_istore_n (pc' := 124) (ls' := [(1, .int ((1 : Int32))), (3, .int ((1 : Int32))), (2, .int ((2 : Int32))), (7, .int ((1 : Int32))), (6, .int x20003), (5, .int ((m_text M_19) v4_19.toNatClampNeg)), (0, .ref 55), (4, .int v4_19)]) dX4_read_123 rfl (by decide) rfl rfl ?_
                  refine a_goto 200 dX4_read_124 (by decide) ?_
                  refine a_iinc (pc' := 203) (v := v4_19 + (1 : Int32)) (ls' := [(4, .int (v4_19 + (1 : Int32))), (1, .int ((1 : Int32))), (3, .int ((1 : Int32))), (2, .int ((2 : Int32))), (7, .int ((1 : Int32))), (6, .int x20003), (5, .int ((m_text M_19) v4_19.toNatClampNeg)), (0, .ref 55)]) 7 dX4_read_200 rfl (by rfl) (by decide) rfl rfl ?_
                  refine a_goto 19 dX4_read_203 (by decide) ?_
                  refine a_sub [7, 1, 3, 2, 0] rfl ?_
                  exact ih _ _ _ _ _ _ hf hX0 hX1 _ hz hfr
                · replace hf := (if_pos k20051).symm.trans hf
                  refine a_iconst (pc' := 115) (v := (1 : Int32)) dX4_read_114 rfl (by decide) ?_
                  refine a_goto 119 dX4_read_115 (by decide) ?_
                  refine a_istore_n (pc' := 120) (ls' := [(2, .int ((1 : Int32))), (7, .int ((1 : Int32))), (6, .int x20003), (5, .int ((m_text M_19) v4_19.toNatClampNeg)), (0, .ref 55), (1, .int v1_19), (3, .int v3_19), (4, .int v4_19)]) dX4_read_119 rfl (by decide) rfl rfl ?_
                  refine a_iconst (pc' := 121) (v := (1 : Int32)) dX4_read_120 rfl (by decide) ?_
                  refine a_istore_n (pc' := 122) (ls' := [(3, .int ((1 : Int32))), (2, .int ((1 : Int32))), (7, .int ((1 : Int32))), (6, .int x20003), (5, .int ((m_text M_19) v4_19.toNatClampNeg)), (0, .ref 55), (1, .int v1_19), (4, .int v4_19)]) dX4_read_121 rfl (by decide) rfl rfl ?_
                  refine a_iconst (pc' := 123) (v := (1 : Int32)) dX4_read_122 rfl (by decide) ?_
                  refine a_istore_n (pc' := 124) (ls' := [(1, .int ((1 : Int32))), (3, .int ((1 : Int32))), (2, .int ((1 : Int32))), (7, .int ((1 : Int32))), (6, .int x20003), (5, .int ((m_text M_19) v4_19.toNatClampNeg)), (0, .ref 55), (4, .int v4_19)]) dX4_read_123 rfl (by decide) rfl rfl ?_
                  refine a_goto 200 dX4_read_124 (by decide) ?_
                  refine a_iinc (pc' := 203) (v := v4_19 + (1 : Int32)) (ls' := [(4, .int (v4_19 + (1 : Int32))), (1, .int ((1 : Int32))), (3, .int ((1 : Int32))), (2, .int ((1 : Int32))), (7, .int ((1 : Int32))), (6, .int x20003), (5, .int ((m_text M_19) v4_19.toNatClampNeg)), (0, .ref 55)]) 7 dX4_read_200 rfl (by rfl) (by decide) rfl rfl ?_
                  refine a_goto 19 dX4_read_203 (by decide) ?_
                  refine a_sub [7, 1, 3, 2, 0] rfl ?_
                  exact ih _ _ _ _ _ _ hf hX0 hX1 _ hz hfr
              · replace hf := (if_pos k20050).symm.trans hf
                refine a_iconst (pc' := 104) (v := (0 : Int32)) dX4_read_103 rfl (by decide) ?_
                refine a_goto 119 dX4_read_104 (by decide) ?_
                refine a_istore_n (pc' := 120) (ls' := [(2, .int ((0 : Int32))), (7, .int ((1 : Int32))), (6, .int x20003), (5, .int ((m_text M_19) v4_19.toNatClampNeg)), (0, .ref 55), (1, .int v1_19), (3, .int v3_19), (4, .int v4_19)]) dX4_read_119 rfl (by decide) rfl rfl ?_
                refine a_iconst (pc' := 121) (v := (1 : Int32)) dX4_read_120 rfl (by decide) ?_
                refine a_istore_n (pc' := 122) (ls' := [(3, .int ((1 : Int32))), (2, .int ((0 : Int32))), (7, .int ((1 : Int32))), (6, .int x20003), (5, .int ((m_text M_19) v4_19.toNatClampNeg)), (0, .ref 55), (1, .int v1_19), (4, .int v4_19)]) dX4_read_121 rfl (by decide) rfl rfl ?_
                refine a_iconst (pc' := 123) (v := (1 : Int32)) dX4_read_122 rfl (by decide) ?_
                refine a_istore_n (pc' := 124) (ls' := [(1, .int ((1 : Int32))), (3, .int ((1 : Int32))), (2, .int ((0 : Int32))), (7, .int ((1 : Int32))), (6, .int x20003), (5, .int ((m_text M_19) v4_19.toNatClampNeg)), (0, .ref 55), (4, .int v4_19)]) dX4_read_123 rfl (by decide) rfl rfl ?_
                refine a_goto 200 dX4_read_124 (by decide) ?_
                refine a_iinc (pc' := 203) (v := v4_19 + (1 : Int32)) (ls' := [(4, .int (v4_19 + (1 : Int32))), (1, .int ((1 : Int32))), (3, .int ((1 : Int32))), (2, .int ((0 : Int32))), (7, .int ((1 : Int32))), (6, .int x20003), (5, .int ((m_text M_19) v4_19.toNatClampNeg)), (0, .ref 55)]) 7 dX4_read_200 rfl (by rfl) (by decide) rfl rfl ?_
                refine a_goto 19 dX4_read_203 (by decide) ?_
                refine a_sub [7, 1, 3, 2, 0] rfl ?_
                exact ih _ _ _ _ _ _ hf hX0 hX1 _ hz hfr
        · replace hf := (if_neg k20028).symm.trans hf
          refine a_iload (pc' := 64) 1 dX4_read_62 rfl rfl ?_
          refine a_bipush (pc' := 66) (v := (115 : Int32)) dX4_read_64 rfl (by decide) ?_
          refine a_icmp_ne (pc' := 69) 73 dX4_read_66 (by decide) rfl (fun k20052 => ?_) (fun k20052 => ?_)
          · replace hf := (if_neg k20052).symm.trans hf
            refine a_iconst (pc' := 74) (v := (0 : Int32)) dX4_read_73 rfl (by decide) ?_
            refine a_istore (pc' := 76) (ls' := [(7, .int ((0 : Int32))), (6, .int x20003), (5, .int ((m_text M_19) v4_19.toNatClampNeg)), (0, .ref 55), (1, .int v1_19), (2, .int v2_19), (3, .int v3_19), (4, .int v4_19)]) dX4_read_74 (by decide) rfl rfl ?_
            refine a_iload (pc' := 78) 0 dX4_read_76 rfl rfl ?_
            refine a_if_eq (pc' := 81) 127 dX4_read_78 (by decide) rfl (fun _ => ?_) (fun cc => absurd cc (by decide))
            refine a_iload (pc' := 129) 1 dX4_read_127 rfl rfl ?_
            refine a_if_eq (pc' := 132) 166 dX4_read_129 (by decide) rfl (fun k20053 => ?_) (fun k20053 => ?_)
            · replace hf := (if_pos k20053).symm.trans hf
              refine a_iload (pc' := 168) 1 dX4_read_166 rfl rfl ?_
              refine a_if_eq (pc' := 171) 197 dX4_read_168 (by decide) rfl (fun k20054 => ?_) (fun k20054 => ?_)
              · replace hf := (if_pos k20054).symm.trans hf
                cases hf
                refine a_sub [7] rfl ?_
                exact hX1 _ rfl _ hz hfr
              · replace hf := (if_neg k20054).symm.trans hf
                refine a_iload_n (pc' := 172) 4 dX4_read_171 rfl rfl rfl ?_
                refine a_iconst (pc' := 173) (v := (2 : Int32)) dX4_read_172 rfl (by decide) ?_
                refine a_icmp_eq (pc' := 176) 181 dX4_read_173 (by decide) rfl (fun k20055 => ?_) (fun k20055 => ?_)
                · replace hf := (if_pos k20055).symm.trans hf
                  refine a_bipush (pc' := 183) (v := (10 : Int32)) dX4_read_181 rfl (by decide) ?_
                  refine a_iload_n (pc' := 184) 6 dX4_read_183 rfl rfl rfl ?_
                  refine a_imul (pc' := 185) dX4_read_184 rfl ?_
                  refine a_iload (pc' := 187) 2 dX4_read_185 rfl rfl ?_
                  refine a_iadd (pc' := 188) dX4_read_187 rfl ?_
                  refine a_bipush (pc' := 190) (v := (48 : Int32)) dX4_read_188 rfl (by decide) ?_
                  refine a_isub (pc' := 191) dX4_read_190 rfl ?_
                  refine a_istore_n (pc' := 192) (ls' := [(3, .int (((((10 : Int32)) * v3_19) + ((m_text M_19) v4_19.toNatClampNeg)) - ((48 : Int32)))), (7, .int ((0 : Int32))), (6, .int x20003), (5, .int ((m_text M_19) v4_19.toNatClampNeg)), (0, .ref 55), (1, .int v1_19), (2, .int v2_19), (4, .int v4_19)]) dX4_read_191 rfl (by decide) rfl rfl ?_
                  refine a_iconst (pc' := 193) (v := (4 : Int32)) dX4_read_192 rfl (by decide) ?_
                  refine a_istore_n (pc' := 194) (ls' := [(1, .int ((4 : Int32))), (3, .int (((((10 : Int32)) * v3_19) + ((m_text M_19) v4_19.toNatClampNeg)) - ((48 : Int32)))), (7, .int ((0 : Int32))), (6, .int x20003), (5, .int ((m_text M_19) v4_19.toNatClampNeg)), (0, .ref 55), (2, .int v2_19), (4, .int v4_19)]) dX4_read_193 rfl (by decide) rfl rfl ?_
                  refine a_goto 200 dX4_read_194 (by decide) ?_
                  refine a_iinc (pc' := 203) (v := v4_19 + (1 : Int32)) (ls' := [(4, .int (v4_19 + (1 : Int32))), (1, .int ((4 : Int32))), (3, .int (((((10 : Int32)) * v3_19) + ((m_text M_19) v4_19.toNatClampNeg)) - ((48 : Int32)))), (7, .int ((0 : Int32))), (6, .int x20003), (5, .int ((m_text M_19) v4_19.toNatClampNeg)), (0, .ref 55), (2, .int v2_19)]) 7 dX4_read_200 rfl (by rfl) (by decide) rfl rfl ?_
                  refine a_goto 19 dX4_read_203 (by decide) ?_
                  refine a_sub [6, 1, 7, 2, 0] rfl ?_
                  exact ih _ _ _ _ _ _ hf hX0 hX1 _ hz hfr
                · replace hf := (if_neg k20055).symm.trans hf
                  refine a_iload_n (pc' := 177) 4 dX4_read_176 rfl rfl rfl ?_
                  refine a_iconst (pc' := 178) (v := (3 : Int32)) dX4_read_177 rfl (by decide) ?_
                  refine a_icmp_ne (pc' := 181) 197 dX4_read_178 (by decide) rfl (fun k20056 => ?_) (fun k20056 => ?_)
                  · replace hf := (if_neg k20056).symm.trans hf
                    cases hf
                    refine a_sub [7] rfl ?_
                    exact hX1 _ rfl _ hz hfr
                  · replace hf := (if_pos k20056).symm.trans hf
                    refine a_bipush (pc' := 183) (v := (10 : Int32)) dX4_read_181 rfl (by decide) ?_
                    refine a_iload_n (pc' := 184) 6 dX4_read_183 rfl rfl rfl ?_
                    refine a_imul (pc' := 185) dX4_read_184 rfl ?_
                    refine a_iload (pc' := 187) 2 dX4_read_185 rfl rfl ?_
                    refine a_iadd (pc' := 188) dX4_read_187 rfl ?_
                    refine a_bipush (pc' := 190) (v := (48 : Int32)) dX4_read_188 rfl (by decide) ?_
                    refine a_isub (pc' := 191) dX4_read_190 rfl ?_
                    refine a_istore_n (pc' := 192) (ls' := [(3, .int (((((10 : Int32)) * v3_19) + ((m_text M_19) v4_19.toNatClampNeg)) - ((48 : Int32)))), (7, .int ((0 : Int32))), (6, .int x20003), (5, .int ((m_text M_19) v4_19.toNatClampNeg)), (0, .ref 55), (1, .int v1_19), (2, .int v2_19), (4, .int v4_19)]) dX4_read_191 rfl (by decide) rfl rfl ?_
                    refine a_iconst (pc' := 193) (v := (4 : Int32)) dX4_read_192 rfl (by decide) ?_
                    refine a_istore_n (pc' := 194) (ls' := [(1, .int ((4 : Int32))), (3, .int (((((10 : Int32)) * v3_19) + ((m_text M_19) v4_19.toNatClampNeg)) - ((48 : Int32)))), (7, .int ((0 : Int32))), (6, .int x20003), (5, .int ((m_text M_19) v4_19.toNatClampNeg)), (0, .ref 55), (2, .int v2_19), (4, .int v4_19)]) dX4_read_193 rfl (by decide) rfl rfl ?_
                    refine a_goto 200 dX4_read_194 (by decide) ?_
                    refine a_iinc (pc' := 203) (v := v4_19 + (1 : Int32)) (ls' := [(4, .int (v4_19 + (1 : Int32))), (1, .int ((4 : Int32))), (3, .int (((((10 : Int32)) * v3_19) + ((m_text M_19) v4_19.toNatClampNeg)) - ((48 : Int32)))), (7, .int ((0 : Int32))), (6, .int x20003), (5, .int ((m_text M_19) v4_19.toNatClampNeg)), (0, .ref 55), (2, .int v2_19)]) 7 dX4_read_200 rfl (by rfl) (by decide) rfl rfl ?_
                    refine a_goto 19 dX4_read_203 (by decide) ?_
                    refine a_sub [6, 1, 7, 2, 0] rfl ?_
                    exact ih _ _ _ _ _ _ hf hX0 hX1 _ hz hfr
            · replace hf := (if_neg k20053).symm.trans hf
              refine a_iload_n (pc' := 133) 4 dX4_read_132 rfl rfl rfl ?_
              refine a_iconst (pc' := 134) (v := (1 : Int32)) dX4_read_133 rfl (by decide) ?_
              refine a_icmp_ne (pc' := 137) 166 dX4_read_134 (by decide) rfl (fun k20057 => ?_) (fun k20057 => ?_)
              · replace hf := (if_neg k20057).symm.trans hf
                refine a_iload (pc' := 168) 1 dX4_read_166 rfl rfl ?_
                refine a_if_eq (pc' := 171) 197 dX4_read_168 (by decide) rfl (fun k20058 => ?_) (fun k20058 => ?_)
                · replace hf := (if_pos k20058).symm.trans hf
                  cases hf
                  refine a_sub [7] rfl ?_
                  exact hX1 _ rfl _ hz hfr
                · replace hf := (if_neg k20058).symm.trans hf
                  refine a_iload_n (pc' := 172) 4 dX4_read_171 rfl rfl rfl ?_
                  refine a_iconst (pc' := 173) (v := (2 : Int32)) dX4_read_172 rfl (by decide) ?_
                  refine a_icmp_eq (pc' := 176) 181 dX4_read_173 (by decide) rfl (fun k20059 => ?_) (fun k20059 => ?_)
                  · replace hf := (if_pos k20059).symm.trans hf
                    refine a_bipush (pc' := 183) (v := (10 : Int32)) dX4_read_181 rfl (by decide) ?_
                    refine a_iload_n (pc' := 184) 6 dX4_read_183 rfl rfl rfl ?_
                    refine a_imul (pc' := 185) dX4_read_184 rfl ?_
                    refine a_iload (pc' := 187) 2 dX4_read_185 rfl rfl ?_
                    refine a_iadd (pc' := 188) dX4_read_187 rfl ?_
                    refine a_bipush (pc' := 190) (v := (48 : Int32)) dX4_read_188 rfl (by decide) ?_
                    refine a_isub (pc' := 191) dX4_read_190 rfl ?_
                    refine a_istore_n (pc' := 192) (ls' := [(3, .int (((((10 : Int32)) * v3_19) + ((m_text M_19) v4_19.toNatClampNeg)) - ((48 : Int32)))), (7, .int ((0 : Int32))), (6, .int x20003), (5, .int ((m_text M_19) v4_19.toNatClampNeg)), (0, .ref 55), (1, .int v1_19), (2, .int v2_19), (4, .int v4_19)]) dX4_read_191 rfl (by decide) rfl rfl ?_
                    refine a_iconst (pc' := 193) (v := (4 : Int32)) dX4_read_192 rfl (by decide) ?_
                    refine a_istore_n (pc' := 194) (ls' := [(1, .int ((4 : Int32))), (3, .int (((((10 : Int32)) * v3_19) + ((m_text M_19) v4_19.toNatClampNeg)) - ((48 : Int32)))), (7, .int ((0 : Int32))), (6, .int x20003), (5, .int ((m_text M_19) v4_19.toNatClampNeg)), (0, .ref 55), (2, .int v2_19), (4, .int v4_19)]) dX4_read_193 rfl (by decide) rfl rfl ?_
                    refine a_goto 200 dX4_read_194 (by decide) ?_
                    refine a_iinc (pc' := 203) (v := v4_19 + (1 : Int32)) (ls' := [(4, .int (v4_19 + (1 : Int32))), (1, .int ((4 : Int32))), (3, .int (((((10 : Int32)) * v3_19) + ((m_text M_19) v4_19.toNatClampNeg)) - ((48 : Int32)))), (7, .int ((0 : Int32))), (6, .int x20003), (5, .int ((m_text M_19) v4_19.toNatClampNeg)), (0, .ref 55), (2, .int v2_19)]) 7 dX4_read_200 rfl (by rfl) (by decide) rfl rfl ?_
                    refine a_goto 19 dX4_read_203 (by decide) ?_
                    refine a_sub [6, 1, 7, 2, 0] rfl ?_
                    exact ih _ _ _ _ _ _ hf hX0 hX1 _ hz hfr
                  · replace hf := (if_neg k20059).symm.trans hf
                    refine a_iload_n (pc' := 177) 4 dX4_read_176 rfl rfl rfl ?_
                    refine a_iconst (pc' := 178) (v := (3 : Int32)) dX4_read_177 rfl (by decide) ?_
                    refine a_icmp_ne (pc' := 181) 197 dX4_read_178 (by decide) rfl (fun k20060 => ?_) (fun k20060 => ?_)
                    · replace hf := (if_neg k20060).symm.trans hf
                      cases hf
                      refine a_sub [7] rfl ?_
                      exact hX1 _ rfl _ hz hfr
                    · replace hf := (if_pos k20060).symm.trans hf
                      refine a_bipush (pc' := 183) (v := (10 : Int32)) dX4_read_181 rfl (by decide) ?_
                      refine a_iload_n (pc' := 184) 6 dX4_read_183 rfl rfl rfl ?_
                      refine a_imul (pc' := 185) dX4_read_184 rfl ?_
                      refine a_iload (pc' := 187) 2 dX4_read_185 rfl rfl ?_
                      refine a_iadd (pc' := 188) dX4_read_187 rfl ?_
                      refine a_bipush (pc' := 190) (v := (48 : Int32)) dX4_read_188 rfl (by decide) ?_
                      refine a_isub (pc' := 191) dX4_read_190 rfl ?_
                      refine a_istore_n (pc' := 192) (ls' := [(3, .int (((((10 : Int32)) * v3_19) + ((m_text M_19) v4_19.toNatClampNeg)) - ((48 : Int32)))), (7, .int ((0 : Int32))), (6, .int x20003), (5, .int ((m_text M_19) v4_19.toNatClampNeg)), (0, .ref 55), (1, .int v1_19), (2, .int v2_19), (4, .int v4_19)]) dX4_read_191 rfl (by decide) rfl rfl ?_
                      refine a_iconst (pc' := 193) (v := (4 : Int32)) dX4_read_192 rfl (by decide) ?_
                      refine a_istore_n (pc' := 194) (ls' := [(1, .int ((4 : Int32))), (3, .int (((((10 : Int32)) * v3_19) + ((m_text M_19) v4_19.toNatClampNeg)) - ((48 : Int32)))), (7, .int ((0 : Int32))), (6, .int x20003), (5, .int ((m_text M_19) v4_19.toNatClampNeg)), (0, .ref 55), (2, .int v2_19), (4, .int v4_19)]) dX4_read_193 rfl (by decide) rfl rfl ?_
                      refine a_goto 200 dX4_read_194 (by decide) ?_
                      refine a_iinc (pc' := 203) (v := v4_19 + (1 : Int32)) (ls' := [(4, .int (v4_19 + (1 : Int32))), (1, .int ((4 : Int32))), (3, .int (((((10 : Int32)) * v3_19) + ((m_text M_19) v4_19.toNatClampNeg)) - ((48 : Int32)))), (7, .int ((0 : Int32))), (6, .int x20003), (5, .int ((m_text M_19) v4_19.toNatClampNeg)), (0, .ref 55), (2, .int v2_19)]) 7 dX4_read_200 rfl (by rfl) (by decide) rfl rfl ?_
                      refine a_goto 19 dX4_read_203 (by decide) ?_
                      refine a_sub [6, 1, 7, 2, 0] rfl ?_
                      exact ih _ _ _ _ _ _ hf hX0 hX1 _ hz hfr
              · replace hf := (if_pos k20057).symm.trans hf
                refine a_iload (pc' := 139) 2 dX4_read_137 rfl rfl ?_
                refine a_bipush (pc' := 141) (v := (48 : Int32)) dX4_read_139 rfl (by decide) ?_
                refine a_icmp_eq (pc' := 144) 166 dX4_read_141 (by decide) rfl (fun k20061 => ?_) (fun k20061 => ?_)
                · replace hf := (if_pos k20061).symm.trans hf
                  refine a_iload (pc' := 168) 1 dX4_read_166 rfl rfl ?_
                  refine a_if_eq (pc' := 171) 197 dX4_read_168 (by decide) rfl (fun k20062 => ?_) (fun k20062 => ?_)
                  · replace hf := (if_pos k20062).symm.trans hf
                    cases hf
                    refine a_sub [7] rfl ?_
                    exact hX1 _ rfl _ hz hfr
                  · replace hf := (if_neg k20062).symm.trans hf
                    refine a_iload_n (pc' := 172) 4 dX4_read_171 rfl rfl rfl ?_
                    refine a_iconst (pc' := 173) (v := (2 : Int32)) dX4_read_172 rfl (by decide) ?_
                    refine a_icmp_eq (pc' := 176) 181 dX4_read_173 (by decide) rfl (fun k20063 => ?_) (fun k20063 => ?_)
                    · replace hf := (if_pos k20063).symm.trans hf
                      refine a_bipush (pc' := 183) (v := (10 : Int32)) dX4_read_181 rfl (by decide) ?_
                      refine a_iload_n (pc' := 184) 6 dX4_read_183 rfl rfl rfl ?_
                      refine a_imul (pc' := 185) dX4_read_184 rfl ?_
                      refine a_iload (pc' := 187) 2 dX4_read_185 rfl rfl ?_
                      refine a_iadd (pc' := 188) dX4_read_187 rfl ?_
                      refine a_bipush (pc' := 190) (v := (48 : Int32)) dX4_read_188 rfl (by decide) ?_
                      refine a_isub (pc' := 191) dX4_read_190 rfl ?_
                      refine a_istore_n (pc' := 192) (ls' := [(3, .int (((((10 : Int32)) * v3_19) + ((m_text M_19) v4_19.toNatClampNeg)) - ((48 : Int32)))), (7, .int ((0 : Int32))), (6, .int x20003), (5, .int ((m_text M_19) v4_19.toNatClampNeg)), (0, .ref 55), (1, .int v1_19), (2, .int v2_19), (4, .int v4_19)]) dX4_read_191 rfl (by decide) rfl rfl ?_
                      refine a_iconst (pc' := 193) (v := (4 : Int32)) dX4_read_192 rfl (by decide) ?_
                      refine a_istore_n (pc' := 194) (ls' := [(1, .int ((4 : Int32))), (3, .int (((((10 : Int32)) * v3_19) + ((m_text M_19) v4_19.toNatClampNeg)) - ((48 : Int32)))), (7, .int ((0 : Int32))), (6, .int x20003), (5, .int ((m_text M_19) v4_19.toNatClampNeg)), (0, .ref 55), (2, .int v2_19), (4, .int v4_19)]) dX4_read_193 rfl (by decide) rfl rfl ?_
                      refine a_goto 200 dX4_read_194 (by decide) ?_
                      refine a_iinc (pc' := 203) (v := v4_19 + (1 : Int32)) (ls' := [(4, .int (v4_19 + (1 : Int32))), (1, .int ((4 : Int32))), (3, .int (((((10 : Int32)) * v3_19) + ((m_text M_19) v4_19.toNatClampNeg)) - ((48 : Int32)))), (7, .int ((0 : Int32))), (6, .int x20003), (5, .int ((m_text M_19) v4_19.toNatClampNeg)), (0, .ref 55), (2, .int v2_19)]) 7 dX4_read_200 rfl (by rfl) (by decide) rfl rfl ?_
                      refine a_goto 19 dX4_read_203 (by decide) ?_
                      refine a_sub [6, 1, 7, 2, 0] rfl ?_
                      exact ih _ _ _ _ _ _ hf hX0 hX1 _ hz hfr
                    · replace hf := (if_neg k20063).symm.trans hf
                      refine a_iload_n (pc' := 177) 4 dX4_read_176 rfl rfl rfl ?_
                      refine a_iconst (pc' := 178) (v := (3 : Int32)) dX4_read_177 rfl (by decide) ?_
                      refine a_icmp_ne (pc' := 181) 197 dX4_read_178 (by decide) rfl (fun k20064 => ?_) (fun k20064 => ?_)
                      · replace hf := (if_neg k20064).symm.trans hf
                        cases hf
                        refine a_sub [7] rfl ?_
                        exact hX1 _ rfl _ hz hfr
                      · replace hf := (if_pos k20064).symm.trans hf
                        refine a_bipush (pc' := 183) (v := (10 : Int32)) dX4_read_181 rfl (by decide) ?_
                        refine a_iload_n (pc' := 184) 6 dX4_read_183 rfl rfl rfl ?_
                        refine a_imul (pc' := 185) dX4_read_184 rfl ?_
                        refine a_iload (pc' := 187) 2 dX4_read_185 rfl rfl ?_
                        refine a_iadd (pc' := 188) dX4_read_187 rfl ?_
                        refine a_bipush (pc' := 190) (v := (48 : Int32)) dX4_read_188 rfl (by decide) ?_
                        refine a_isub (pc' := 191) dX4_read_190 rfl ?_
                        refine a_istore_n (pc' := 192) (ls' := [(3, .int (((((10 : Int32)) * v3_19) + ((m_text M_19) v4_19.toNatClampNeg)) - ((48 : Int32)))), (7, .int ((0 : Int32))), (6, .int x20003), (5, .int ((m_text M_19) v4_19.toNatClampNeg)), (0, .ref 55), (1, .int v1_19), (2, .int v2_19), (4, .int v4_19)]) dX4_read_191 rfl (by decide) rfl rfl ?_
                        refine a_iconst (pc' := 193) (v := (4 : Int32)) dX4_read_192 rfl (by decide) ?_
                        refine a_istore_n (pc' := 194) (ls' := [(1, .int ((4 : Int32))), (3, .int (((((10 : Int32)) * v3_19) + ((m_text M_19) v4_19.toNatClampNeg)) - ((48 : Int32)))), (7, .int ((0 : Int32))), (6, .int x20003), (5, .int ((m_text M_19) v4_19.toNatClampNeg)), (0, .ref 55), (2, .int v2_19), (4, .int v4_19)]) dX4_read_193 rfl (by decide) rfl rfl ?_
                        refine a_goto 200 dX4_read_194 (by decide) ?_
                        refine a_iinc (pc' := 203) (v := v4_19 + (1 : Int32)) (ls' := [(4, .int (v4_19 + (1 : Int32))), (1, .int ((4 : Int32))), (3, .int (((((10 : Int32)) * v3_19) + ((m_text M_19) v4_19.toNatClampNeg)) - ((48 : Int32)))), (7, .int ((0 : Int32))), (6, .int x20003), (5, .int ((m_text M_19) v4_19.toNatClampNeg)), (0, .ref 55), (2, .int v2_19)]) 7 dX4_read_200 rfl (by rfl) (by decide) rfl rfl ?_
                        refine a_goto 19 dX4_read_203 (by decide) ?_
                        refine a_sub [6, 1, 7, 2, 0] rfl ?_
                        exact ih _ _ _ _ _ _ hf hX0 hX1 _ hz hfr
                · replace hf := (if_neg k20061).symm.trans hf
                  refine a_iload (pc' := 146) 2 dX4_read_144 rfl rfl ?_
                  refine a_bipush (pc' := 148) (v := (48 : Int32)) dX4_read_146 rfl (by decide) ?_
                  refine a_isub (pc' := 149) dX4_read_148 rfl ?_
                  refine a_istore_n (pc' := 150) (ls' := [(3, .int (((m_text M_19) v4_19.toNatClampNeg) - ((48 : Int32)))), (7, .int ((0 : Int32))), (6, .int x20003), (5, .int ((m_text M_19) v4_19.toNatClampNeg)), (0, .ref 55), (1, .int v1_19), (2, .int v2_19), (4, .int v4_19)]) dX4_read_149 rfl (by decide) rfl rfl ?_
                  refine a_iload (pc' := 152) 3 dX4_read_150 rfl rfl ?_
                  refine a_bipush (pc' := 154) (v := (49 : Int32)) dX4_read_152 rfl (by decide) ?_
                  refine a_icmp_ne (pc' := 157) 161 dX4_read_154 (by decide) rfl (fun k20065 => ?_) (fun k20065 => ?_)
                  · replace hf := (if_neg k20065).symm.trans hf
                    refine a_iconst (pc' := 162) (v := (3 : Int32)) dX4_read_161 rfl (by decide) ?_
                    refine a_istore_n (pc' := 163) (ls' := [(1, .int ((3 : Int32))), (3, .int (((m_text M_19) v4_19.toNatClampNeg) - ((48 : Int32)))), (7, .int ((0 : Int32))), (6, .int x20003), (5, .int ((m_text M_19) v4_19.toNatClampNeg)), (0, .ref 55), (2, .int v2_19), (4, .int v4_19)]) dX4_read_162 rfl (by decide) rfl rfl ?_
                    refine a_goto 200 dX4_read_163 (by decide) ?_
                    refine a_iinc (pc' := 203) (v := v4_19 + (1 : Int32)) (ls' := [(4, .int (v4_19 + (1 : Int32))), (1, .int ((3 : Int32))), (3, .int (((m_text M_19) v4_19.toNatClampNeg) - ((48 : Int32)))), (7, .int ((0 : Int32))), (6, .int x20003), (5, .int ((m_text M_19) v4_19.toNatClampNeg)), (0, .ref 55), (2, .int v2_19)]) 7 dX4_read_200 rfl (by rfl) (by decide) rfl rfl ?_
                    refine a_goto 19 dX4_read_203 (by decide) ?_
                    refine a_sub [6, 1, 7, 2, 0] rfl ?_
                    exact ih _ _ _ _ _ _ hf hX0 hX1 _ hz hfr
                  · replace hf := (if_pos k20065).symm.trans hf
                    refine a_iconst (pc' := 158) (v := (2 : Int32)) dX4_read_157 rfl (by decide) ?_
                    refine a_goto 162 dX4_read_158 (by decide) ?_
                    refine a_istore_n (pc' := 163) (ls' := [(1, .int ((2 : Int32))), (3, .int (((m_text M_19) v4_19.toNatClampNeg) - ((48 : Int32)))), (7, .int ((0 : Int32))), (6, .int x20003), (5, .int ((m_text M_19) v4_19.toNatClampNeg)), (0, .ref 55), (2, .int v2_19), (4, .int v4_19)]) dX4_read_162 rfl (by decide) rfl rfl ?_
                    refine a_goto 200 dX4_read_163 (by decide) ?_
                    refine a_iinc (pc' := 203) (v := v4_19 + (1 : Int32)) (ls' := [(4, .int (v4_19 + (1 : Int32))), (1, .int ((2 : Int32))), (3, .int (((m_text M_19) v4_19.toNatClampNeg) - ((48 : Int32)))), (7, .int ((0 : Int32))), (6, .int x20003), (5, .int ((m_text M_19) v4_19.toNatClampNeg)), (0, .ref 55), (2, .int v2_19)]) 7 dX4_read_200 rfl (by rfl) (by decide) rfl rfl ?_
                    refine a_goto 19 dX4_read_203 (by decide) ?_
                    refine a_sub [6, 1, 7, 2, 0] rfl ?_
                    exact ih _ _ _ _ _ _ hf hX0 hX1 _ hz hfr
          · replace hf := (if_pos k20052).symm.trans hf
            refine a_iconst (pc' := 70) (v := (1 : Int32)) dX4_read_69 rfl (by decide) ?_
            refine a_goto 74 dX4_read_70 (by decide) ?_
            refine a_istore (pc' := 76) (ls' := [(7, .int ((1 : Int32))), (6, .int x20003), (5, .int ((m_text M_19) v4_19.toNatClampNeg)), (0, .ref 55), (1, .int v1_19), (2, .int v2_19), (3, .int v3_19), (4, .int v4_19)]) dX4_read_74 (by decide) rfl rfl ?_
            refine a_iload (pc' := 78) 0 dX4_read_76 rfl rfl ?_
            refine a_if_eq (pc' := 81) 127 dX4_read_78 (by decide) rfl (fun cc => absurd cc (by decide)) (fun _ => ?_)
            refine a_iload_n (pc' := 82) 4 dX4_read_81 rfl rfl rfl ?_
            refine a_iconst (pc' := 83) (v := (2 : Int32)) dX4_read_82 rfl (by decide) ?_
            refine a_icmp_eq (pc' := 86) 127 dX4_read_83 (by decide) rfl (fun k20066 => ?_) (fun k20066 => ?_)
            · replace hf := (if_pos k20066).symm.trans hf
              refine a_iload (pc' := 129) 1 dX4_read_127 rfl rfl ?_
              refine a_if_eq (pc' := 132) 166 dX4_read_129 (by decide) rfl (fun k20067 => ?_) (fun k20067 => ?_)
              · replace hf := (if_pos k20067).symm.trans hf
                refine a_iload (pc' := 168) 1 dX4_read_166 rfl rfl ?_
                refine a_if_eq (pc' := 171) 197 dX4_read_168 (by decide) rfl (fun k20068 => ?_) (fun k20068 => ?_)
                · replace hf := (if_pos k20068).symm.trans hf
                  cases hf
                  refine a_sub [7] rfl ?_
                  exact hX1 _ rfl _ hz hfr
                · replace hf := (if_neg k20068).symm.trans hf
                  refine a_iload_n (pc' := 172) 4 dX4_read_171 rfl rfl rfl ?_
                  refine a_iconst (pc' := 173) (v := (2 : Int32)) dX4_read_172 rfl (by decide) ?_
                  refine a_icmp_eq (pc' := 176) 181 dX4_read_173 (by decide) rfl (fun k20069 => ?_) (fun k20069 => ?_)
                  · replace hf := (if_pos k20069).symm.trans hf
                    refine a_bipush (pc' := 183) (v := (10 : Int32)) dX4_read_181 rfl (by decide) ?_
                    refine a_iload_n (pc' := 184) 6 dX4_read_183 rfl rfl rfl ?_
                    refine a_imul (pc' := 185) dX4_read_184 rfl ?_
                    refine a_iload (pc' := 187) 2 dX4_read_185 rfl rfl ?_
                    refine a_iadd (pc' := 188) dX4_read_187 rfl ?_
                    refine a_bipush (pc' := 190) (v := (48 : Int32)) dX4_read_188 rfl (by decide) ?_
                    refine a_isub (pc' := 191) dX4_read_190 rfl ?_
                    refine a_istore_n (pc' := 192) (ls' := [(3, .int (((((10 : Int32)) * v3_19) + ((m_text M_19) v4_19.toNatClampNeg)) - ((48 : Int32)))), (7, .int ((1 : Int32))), (6, .int x20003), (5, .int ((m_text M_19) v4_19.toNatClampNeg)), (0, .ref 55), (1, .int v1_19), (2, .int v2_19), (4, .int v4_19)]) dX4_read_191 rfl (by decide) rfl rfl ?_
                    refine a_iconst (pc' := 193) (v := (4 : Int32)) dX4_read_192 rfl (by decide) ?_
                    refine a_istore_n (pc' := 194) (ls' := [(1, .int ((4 : Int32))), (3, .int (((((10 : Int32)) * v3_19) + ((m_text M_19) v4_19.toNatClampNeg)) - ((48 : Int32)))), (7, .int ((1 : Int32))), (6, .int x20003), (5, .int ((m_text M_19) v4_19.toNatClampNeg)), (0, .ref 55), (2, .int v2_19), (4, .int v4_19)]) dX4_read_193 rfl (by decide) rfl rfl ?_
                    refine a_goto 200 dX4_read_194 (by decide) ?_
                    refine a_iinc (pc' := 203) (v := v4_19 + (1 : Int32)) (ls' := [(4, .int (v4_19 + (1 : Int32))), (1, .int ((4 : Int32))), (3, .int (((((10 : Int32)) * v3_19) + ((m_text M_19) v4_19.toNatClampNeg)) - ((48 : Int32)))), (7, .int ((1 : Int32))), (6, .int x20003), (5, .int ((m_text M_19) v4_19.toNatClampNeg)), (0, .ref 55), (2, .int v2_19)]) 7 dX4_read_200 rfl (by rfl) (by decide) rfl rfl ?_
                    refine a_goto 19 dX4_read_203 (by decide) ?_
                    refine a_sub [6, 1, 7, 2, 0] rfl ?_
                    exact ih _ _ _ _ _ _ hf hX0 hX1 _ hz hfr
                  · replace hf := (if_neg k20069).symm.trans hf
                    refine a_iload_n (pc' := 177) 4 dX4_read_176 rfl rfl rfl ?_
                    refine a_iconst (pc' := 178) (v := (3 : Int32)) dX4_read_177 rfl (by decide) ?_
                    refine a_icmp_ne (pc' := 181) 197 dX4_read_178 (by decide) rfl (fun k20070 => ?_) (fun k20070 => ?_)
                    · replace hf := (if_neg k20070).symm.trans hf
                      cases hf
                      refine a_sub [7] rfl ?_
                      exact hX1 _ rfl _ hz hfr
                    · replace hf := (if_pos k20070).symm.trans hf
                      refine a_bipush (pc' := 183) (v := (10 : Int32)) dX4_read_181 rfl (by decide) ?_
                      refine a_iload_n (pc' := 184) 6 dX4_read_183 rfl rfl rfl ?_
                      refine a_imul (pc' := 185) dX4_read_184 rfl ?_
                      refine a_iload (pc' := 187) 2 dX4_read_185 rfl rfl ?_
                      refine a_iadd (pc' := 188) dX4_read_187 rfl ?_
                      refine a_bipush (pc' := 190) (v := (48 : Int32)) dX4_read_188 rfl (by decide) ?_
                      refine a_isub (pc' := 191) dX4_read_190 rfl ?_
                      refine a_istore_n (pc' := 192) (ls' := [(3, .int (((((10 : Int32)) * v3_19) + ((m_text M_19) v4_19.toNatClampNeg)) - ((48 : Int32)))), (7, .int ((1 : Int32))), (6, .int x20003), (5, .int ((m_text M_19) v4_19.toNatClampNeg)), (0, .ref 55), (1, .int v1_19), (2, .int v2_19), (4, .int v4_19)]) dX4_read_191 rfl (by decide) rfl rfl ?_
                      refine a_iconst (pc' := 193) (v := (4 : Int32)) dX4_read_192 rfl (by decide) ?_
                      refine a_istore_n (pc' := 194) (ls' := [(1, .int ((4 : Int32))), (3, .int (((((10 : Int32)) * v3_19) + ((m_text M_19) v4_19.toNatClampNeg)) - ((48 : Int32)))), (7, .int ((1 : Int32))), (6, .int x20003), (5, .int ((m_text M_19) v4_19.toNatClampNeg)), (0, .ref 55), (2, .int v2_19), (4, .int v4_19)]) dX4_read_193 rfl (by decide) rfl rfl ?_
                      refine a_goto 200 dX4_read_194 (by decide) ?_
                      refine a_iinc (pc' := 203) (v := v4_19 + (1 : Int32)) (ls' := [(4, .int (v4_19 + (1 : Int32))), (1, .int ((4 : Int32))), (3, .int (((((10 : Int32)) * v3_19) + ((m_text M_19) v4_19.toNatClampNeg)) - ((48 : Int32)))), (7, .int ((1 : Int32))), (6, .int x20003), (5, .int ((m_text M_19) v4_19.toNatClampNeg)), (0, .ref 55), (2, .int v2_19)]) 7 dX4_read_200 rfl (by rfl) (by decide) rfl rfl ?_
                      refine a_goto 19 dX4_read_203 (by decide) ?_
                      refine a_sub [6, 1, 7, 2, 0] rfl ?_
                      exact ih _ _ _ _ _ _ hf hX0 hX1 _ hz hfr
              · replace hf := (if_neg k20067).symm.trans hf
                refine a_iload_n (pc' := 133) 4 dX4_read_132 rfl rfl rfl ?_
                refine a_iconst (pc' := 134) (v := (1 : Int32)) dX4_read_133 rfl (by decide) ?_
                refine a_icmp_ne (pc' := 137) 166 dX4_read_134 (by decide) rfl (fun k20071 => ?_) (fun k20071 => ?_)
                · replace hf := (if_neg k20071).symm.trans hf
                  refine a_iload (pc' := 168) 1 dX4_read_166 rfl rfl ?_
                  refine a_if_eq (pc' := 171) 197 dX4_read_168 (by decide) rfl (fun k20072 => ?_) (fun k20072 => ?_)
                  · replace hf := (if_pos k20072).symm.trans hf
                    cases hf
                    refine a_sub [7] rfl ?_
                    exact hX1 _ rfl _ hz hfr
                  · replace hf := (if_neg k20072).symm.trans hf
                    refine a_iload_n (pc' := 172) 4 dX4_read_171 rfl rfl rfl ?_
                    refine a_iconst (pc' := 173) (v := (2 : Int32)) dX4_read_172 rfl (by decide) ?_
                    refine a_icmp_eq (pc' := 176) 181 dX4_read_173 (by decide) rfl (fun k20073 => ?_) (fun k20073 => ?_)
                    · replace hf := (if_pos k20073).symm.trans hf
                      refine a_bipush (pc' := 183) (v := (10 : Int32)) dX4_read_181 rfl (by decide) ?_
                      refine a_iload_n (pc' := 184) 6 dX4_read_183 rfl rfl rfl ?_
                      refine a_imul (pc' := 185) dX4_read_184 rfl ?_
                      refine a_iload (pc' := 187) 2 dX4_read_185 rfl rfl ?_
                      refine a_iadd (pc' := 188) dX4_read_187 rfl ?_
                      refine a_bipush (pc' := 190) (v := (48 : Int32)) dX4_read_188 rfl (by decide) ?_
                      refine a_isub (pc' := 191) dX4_read_190 rfl ?_
                      refine a_istore_n (pc' := 192) (ls' := [(3, .int (((((10 : Int32)) * v3_19) + ((m_text M_19) v4_19.toNatClampNeg)) - ((48 : Int32)))), (7, .int ((1 : Int32))), (6, .int x20003), (5, .int ((m_text M_19) v4_19.toNatClampNeg)), (0, .ref 55), (1, .int v1_19), (2, .int v2_19), (4, .int v4_19)]) dX4_read_191 rfl (by decide) rfl rfl ?_
                      refine a_iconst (pc' := 193) (v := (4 : Int32)) dX4_read_192 rfl (by decide) ?_
                      refine a_istore_n (pc' := 194) (ls' := [(1, .int ((4 : Int32))), (3, .int (((((10 : Int32)) * v3_19) + ((m_text M_19) v4_19.toNatClampNeg)) - ((48 : Int32)))), (7, .int ((1 : Int32))), (6, .int x20003), (5, .int ((m_text M_19) v4_19.toNatClampNeg)), (0, .ref 55), (2, .int v2_19), (4, .int v4_19)]) dX4_read_193 rfl (by decide) rfl rfl ?_
                      refine a_goto 200 dX4_read_194 (by decide) ?_
                      refine a_iinc (pc' := 203) (v := v4_19 + (1 : Int32)) (ls' := [(4, .int (v4_19 + (1 : Int32))), (1, .int ((4 : Int32))), (3, .int (((((10 : Int32)) * v3_19) + ((m_text M_19) v4_19.toNatClampNeg)) - ((48 : Int32)))), (7, .int ((1 : Int32))), (6, .int x20003), (5, .int ((m_text M_19) v4_19.toNatClampNeg)), (0, .ref 55), (2, .int v2_19)]) 7 dX4_read_200 rfl (by rfl) (by decide) rfl rfl ?_
                      refine a_goto 19 dX4_read_203 (by decide) ?_
                      refine a_sub [6, 1, 7, 2, 0] rfl ?_
                      exact ih _ _ _ _ _ _ hf hX0 hX1 _ hz hfr
                    · replace hf := (if_neg k20073).symm.trans hf
                      refine a_iload_n (pc' := 177) 4 dX4_read_176 rfl rfl rfl ?_
                      refine a_iconst (pc' := 178) (v := (3 : Int32)) dX4_read_177 rfl (by decide) ?_
                      refine a_icmp_ne (pc' := 181) 197 dX4_read_178 (by decide) rfl (fun k20074 => ?_) (fun k20074 => ?_)
                      · replace hf := (if_neg k20074).symm.trans hf
                        cases hf
                        refine a_sub [7] rfl ?_
                        exact hX1 _ rfl _ hz hfr
                      · replace hf := (if_pos k20074).symm.trans hf
                        refine a_bipush (pc' := 183) (v := (10 : Int32)) dX4_read_181 rfl (by decide) ?_
                        refine a_iload_n (pc' := 184) 6 dX4_read_183 rfl rfl rfl ?_
                        refine a_imul (pc' := 185) dX4_read_184 rfl ?_
                        refine a_iload (pc' := 187) 2 dX4_read_185 rfl rfl ?_
                        refine a_iadd (pc' := 188) dX4_read_187 rfl ?_
                        refine a_bipush (pc' := 190) (v := (48 : Int32)) dX4_read_188 rfl (by decide) ?_
                        refine a_isub (pc' := 191) dX4_read_190 rfl ?_
                        refine a_istore_n (pc' := 192) (ls' := [(3, .int (((((10 : Int32)) * v3_19) + ((m_text M_19) v4_19.toNatClampNeg)) - ((48 : Int32)))), (7, .int ((1 : Int32))), (6, .int x20003), (5, .int ((m_text M_19) v4_19.toNatClampNeg)), (0, .ref 55), (1, .int v1_19), (2, .int v2_19), (4, .int v4_19)]) dX4_read_191 rfl (by decide) rfl rfl ?_
                        refine a_iconst (pc' := 193) (v := (4 : Int32)) dX4_read_192 rfl (by decide) ?_
                        refine a_istore_n (pc' := 194) (ls' := [(1, .int ((4 : Int32))), (3, .int (((((10 : Int32)) * v3_19) + ((m_text M_19) v4_19.toNatClampNeg)) - ((48 : Int32)))), (7, .int ((1 : Int32))), (6, .int x20003), (5, .int ((m_text M_19) v4_19.toNatClampNeg)), (0, .ref 55), (2, .int v2_19), (4, .int v4_19)]) dX4_read_193 rfl (by decide) rfl rfl ?_
                        refine a_goto 200 dX4_read_194 (by decide) ?_
                        refine a_iinc (pc' := 203) (v := v4_19 + (1 : Int32)) (ls' := [(4, .int (v4_19 + (1 : Int32))), (1, .int ((4 : Int32))), (3, .int (((((10 : Int32)) * v3_19) + ((m_text M_19) v4_19.toNatClampNeg)) - ((48 : Int32)))), (7, .int ((1 : Int32))), (6, .int x20003), (5, .int ((m_text M_19) v4_19.toNatClampNeg)), (0, .ref 55), (2, .int v2_19)]) 7 dX4_read_200 rfl (by rfl) (by decide) rfl rfl ?_
                        refine a_goto 19 dX4_read_203 (by decide) ?_
                        refine a_sub [6, 1, 7, 2, 0] rfl ?_
                        exact ih _ _ _ _ _ _ hf hX0 hX1 _ hz hfr
                · replace hf := (if_pos k20071).symm.trans hf
                  refine a_iload (pc' := 139) 2 dX4_read_137 rfl rfl ?_
                  refine a_bipush (pc' := 141) (v := (48 : Int32)) dX4_read_139 rfl (by decide) ?_
                  refine a_icmp_eq (pc' := 144) 166 dX4_read_141 (by decide) rfl (fun k20075 => ?_) (fun k20075 => ?_)
                  · replace hf := (if_pos k20075).symm.trans hf
                    refine a_iload (pc' := 168) 1 dX4_read_166 rfl rfl ?_
                    refine a_if_eq (pc' := 171) 197 dX4_read_168 (by decide) rfl (fun k20076 => ?_) (fun k20076 => ?_)
                    · replace hf := (if_pos k20076).symm.trans hf
                      cases hf
                      refine a_sub [7] rfl ?_
                      exact hX1 _ rfl _ hz hfr
                    · replace hf := (if_neg k20076).symm.trans hf
                      refine a_iload_n (pc' := 172) 4 dX4_read_171 rfl rfl rfl ?_
                      refine a_iconst (pc' := 173) (v := (2 : Int32)) dX4_read_172 rfl (by decide) ?_
                      refine a_icmp_eq (pc' := 176) 181 dX4_read_173 (by decide) rfl (fun k20077 => ?_) (fun k20077 => ?_)
                      · replace hf := (if_pos k20077).symm.trans hf
                        refine a_bipush (pc' := 183) (v := (10 : Int32)) dX4_read_181 rfl (by decide) ?_
                        refine a_iload_n (pc' := 184) 6 dX4_read_183 rfl rfl rfl ?_
                        refine a_imul (pc' := 185) dX4_read_184 rfl ?_
                        refine a_iload (pc' := 187) 2 dX4_read_185 rfl rfl ?_
                        refine a_iadd (pc' := 188) dX4_read_187 rfl ?_
                        refine a_bipush (pc' := 190) (v := (48 : Int32)) dX4_read_188 rfl (by decide) ?_
                        refine a_isub (pc' := 191) dX4_read_190 rfl ?_
                        refine a_istore_n (pc' := 192) (ls' := [(3, .int (((((10 : Int32)) * v3_19) + ((m_text M_19) v4_19.toNatClampNeg)) - ((48 : Int32)))), (7, .int ((1 : Int32))), (6, .int x20003), (5, .int ((m_text M_19) v4_19.toNatClampNeg)), (0, .ref 55), (1, .int v1_19), (2, .int v2_19), (4, .int v4_19)]) dX4_read_191 rfl (by decide) rfl rfl ?_
                        refine a_iconst (pc' := 193) (v := (4 : Int32)) dX4_read_192 rfl (by decide) ?_
                        refine a_istore_n (pc' := 194) (ls' := [(1, .int ((4 : Int32))), (3, .int (((((10 : Int32)) * v3_19) + ((m_text M_19) v4_19.toNatClampNeg)) - ((48 : Int32)))), (7, .int ((1 : Int32))), (6, .int x20003), (5, .int ((m_text M_19) v4_19.toNatClampNeg)), (0, .ref 55), (2, .int v2_19), (4, .int v4_19)]) dX4_read_193 rfl (by decide) rfl rfl ?_
                        refine a_goto 200 dX4_read_194 (by decide) ?_
                        refine a_iinc (pc' := 203) (v := v4_19 + (1 : Int32)) (ls' := [(4, .int (v4_19 + (1 : Int32))), (1, .int ((4 : Int32))), (3, .int (((((10 : Int32)) * v3_19) + ((m_text M_19) v4_19.toNatClampNeg)) - ((48 : Int32)))), (7, .int ((1 : Int32))), (6, .int x20003), (5, .int ((m_text M_19) v4_19.toNatClampNeg)), (0, .ref 55), (2, .int v2_19)]) 7 dX4_read_200 rfl (by rfl) (by decide) rfl rfl ?_
                        refine a_goto 19 dX4_read_203 (by decide) ?_
                        refine a_sub [6, 1, 7, 2, 0] rfl ?_
                        exact ih _ _ _ _ _ _ hf hX0 hX1 _ hz hfr
                      · replace hf := (if_neg k20077).symm.trans hf
                        refine a_iload_n (pc' := 177) 4 dX4_read_176 rfl rfl rfl ?_
                        refine a_iconst (pc' := 178) (v := (3 : Int32)) dX4_read_177 rfl (by decide) ?_
                        refine a_icmp_ne (pc' := 181) 197 dX4_read_178 (by decide) rfl (fun k20078 => ?_) (fun k20078 => ?_)
                        · replace hf := (if_neg k20078).symm.trans hf
                          cases hf
                          refine a_sub [7] rfl ?_
                          exact hX1 _ rfl _ hz hfr
                        · replace hf := (if_pos k20078).symm.trans hf
                          refine a_bipush (pc' := 183) (v := (10 : Int32)) dX4_read_181 rfl (by decide) ?_
                          refine a_iload_n (pc' := 184) 6 dX4_read_183 rfl rfl rfl ?_
                          refine a_imul (pc' := 185) dX4_read_184 rfl ?_
                          refine a_iload (pc' := 187) 2 dX4_read_185 rfl rfl ?_
                          refine a_iadd (pc' := 188) dX4_read_187 rfl ?_
                          refine a_bipush (pc' := 190) (v := (48 : Int32)) dX4_read_188 rfl (by decide) ?_
                          refine a_isub (pc' := 191) dX4_read_190 rfl ?_
                          refine a_istore_n (pc' := 192) (ls' := [(3, .int (((((10 : Int32)) * v3_19) + ((m_text M_19) v4_19.toNatClampNeg)) - ((48 : Int32)))), (7, .int ((1 : Int32))), (6, .int x20003), (5, .int ((m_text M_19) v4_19.toNatClampNeg)), (0, .ref 55), (1, .int v1_19), (2, .int v2_19), (4, .int v4_19)]) dX4_read_191 rfl (by decide) rfl rfl ?_
                          refine a_iconst (pc' := 193) (v := (4 : Int32)) dX4_read_192 rfl (by decide) ?_
                          refine a_istore_n (pc' := 194) (ls' := [(1, .int ((4 : Int32))), (3, .int (((((10 : Int32)) * v3_19) + ((m_text M_19) v4_19.toNatClampNeg)) - ((48 : Int32)))), (7, .int ((1 : Int32))), (6, .int x20003), (5, .int ((m_text M_19) v4_19.toNatClampNeg)), (0, .ref 55), (2, .int v2_19), (4, .int v4_19)]) dX4_read_193 rfl (by decide) rfl rfl ?_
                          refine a_goto 200 dX4_read_194 (by decide) ?_
                          refine a_iinc (pc' := 203) (v := v4_19 + (1 : Int32)) (ls' := [(4, .int (v4_19 + (1 : Int32))), (1, .int ((4 : Int32))), (3, .int (((((10 : Int32)) * v3_19) + ((m_text M_19) v4_19.toNatClampNeg)) - ((48 : Int32)))), (7, .int ((1 : Int32))), (6, .int x20003), (5, .int ((m_text M_19) v4_19.toNatClampNeg)), (0, .ref 55), (2, .int v2_19)]) 7 dX4_read_200 rfl (by rfl) (by decide) rfl rfl ?_
                          refine a_goto 19 dX4_read_203 (by decide) ?_
                          refine a_sub [6, 1, 7, 2, 0] rfl ?_
                          exact ih _ _ _ _ _ _ hf hX0 hX1 _ hz hfr
                  · replace hf := (if_neg k20075).symm.trans hf
                    refine a_iload (pc' := 146) 2 dX4_read_144 rfl rfl ?_
                    refine a_bipush (pc' := 148) (v := (48 : Int32)) dX4_read_146 rfl (by decide) ?_
                    refine a_isub (pc' := 149) dX4_read_148 rfl ?_
                    refine a_istore_n (pc' := 150) (ls' := [(3, .int (((m_text M_19) v4_19.toNatClampNeg) - ((48 : Int32)))), (7, .int ((1 : Int32))), (6, .int x20003), (5, .int ((m_text M_19) v4_19.toNatClampNeg)), (0, .ref 55), (1, .int v1_19), (2, .int v2_19), (4, .int v4_19)]) dX4_read_149 rfl (by decide) rfl rfl ?_
                    refine a_iload (pc' := 152) 3 dX4_read_150 rfl rfl ?_
                    refine a_bipush (pc' := 154) (v := (49 : Int32)) dX4_read_152 rfl (by decide) ?_
                    refine a_icmp_ne (pc' := 157) 161 dX4_read_154 (by decide) rfl (fun k20079 => ?_) (fun k20079 => ?_)
                    · replace hf := (if_neg k20079).symm.trans hf
                      refine a_iconst (pc' := 162) (v := (3 : Int32)) dX4_read_161 rfl (by decide) ?_
                      refine a_istore_n (pc' := 163) (ls' := [(1, .int ((3 : Int32))), (3, .int (((m_text M_19) v4_19.toNatClampNeg) - ((48 : Int32)))), (7, .int ((1 : Int32))), (6, .int x20003), (5, .int ((m_text M_19) v4_19.toNatClampNeg)), (0, .ref 55), (2, .int v2_19), (4, .int v4_19)]) dX4_read_162 rfl (by decide) rfl rfl ?_
                      refine a_goto 200 dX4_read_163 (by decide) ?_
                      refine a_iinc (pc' := 203) (v := v4_19 + (1 : Int32)) (ls' := [(4, .int (v4_19 + (1 : Int32))), (1, .int ((3 : Int32))), (3, .int (((m_text M_19) v4_19.toNatClampNeg) - ((48 : Int32)))), (7, .int ((1 : Int32))), (6, .int x20003), (5, .int ((m_text M_19) v4_19.toNatClampNeg)), (0, .ref 55), (2, .int v2_19)]) 7 dX4_read_200 rfl (by rfl) (by decide) rfl rfl ?_
                      refine a_goto 19 dX4_read_203 (by decide) ?_
                      refine a_sub [6, 1, 7, 2, 0] rfl ?_
                      exact ih _ _ _ _ _ _ hf hX0 hX1 _ hz hfr
                    · replace hf := (if_pos k20079).symm.trans hf
                      refine a_iconst (pc' := 158) (v := (2 : Int32)) dX4_read_157 rfl (by decide) ?_
                      refine a_goto 162 dX4_read_158 (by decide) ?_
                      refine a_istore_n (pc' := 163) (ls' := [(1, .int ((2 : Int32))), (3, .int (((m_text M_19) v4_19.toNatClampNeg) - ((48 : Int32)))), (7, .int ((1 : Int32))), (6, .int x20003), (5, .int ((m_text M_19) v4_19.toNatClampNeg)), (0, .ref 55), (2, .int v2_19), (4, .int v4_19)]) dX4_read_162 rfl (by decide) rfl rfl ?_
                      refine a_goto 200 dX4_read_163 (by decide) ?_
                      refine a_iinc (pc' := 203) (v := v4_19 + (1 : Int32)) (ls' := [(4, .int (v4_19 + (1 : Int32))), (1, .int ((2 : Int32))), (3, .int (((m_text M_19) v4_19.toNatClampNeg) - ((48 : Int32)))), (7, .int ((1 : Int32))), (6, .int x20003), (5, .int ((m_text M_19) v4_19.toNatClampNeg)), (0, .ref 55), (2, .int v2_19)]) 7 dX4_read_200 rfl (by rfl) (by decide) rfl rfl ?_
                      refine a_goto 19 dX4_read_203 (by decide) ?_
                      refine a_sub [6, 1, 7, 2, 0] rfl ?_
                      exact ih _ _ _ _ _ _ hf hX0 hX1 _ hz hfr
            · replace hf := (if_neg k20066).symm.trans hf
              refine a_iload_n (pc' := 87) 4 dX4_read_86 rfl rfl rfl ?_
              refine a_if_le (pc' := 90) 96 dX4_read_87 (by decide) rfl (fun k20080 => ?_) (fun k20080 => ?_)
              · replace hf := (if_pos k20080).symm.trans hf
                refine a_iload (pc' := 98) 2 dX4_read_96 rfl rfl ?_
                refine a_bipush (pc' := 100) (v := (100 : Int32)) dX4_read_98 rfl (by decide) ?_
                refine a_icmp_ne (pc' := 103) 107 dX4_read_100 (by decide) rfl (fun k20081 => ?_) (fun k20081 => ?_)
                · replace hf := (if_neg k20081).symm.trans hf
                  refine a_iload (pc' := 109) 2 dX4_read_107 rfl rfl ?_
                  refine a_bipush (pc' := 111) (v := (114 : Int32)) dX4_read_109 rfl (by decide) ?_
                  refine a_icmp_ne (pc' := 114) 118 dX4_read_111 (by decide) rfl (fun k20082 => ?_) (fun k20082 => ?_)
                  · replace hf := (if_neg k20082).symm.trans hf
                    refine a_iconst (pc' := 119) (v := (2 : Int32)) dX4_read_118 rfl (by decide) ?_
                    refine a_istore_n (pc' := 120) (ls' := [(2, .int ((2 : Int32))), (7, .int ((1 : Int32))), (6, .int x20003), (5, .int ((m_text M_19) v4_19.toNatClampNeg)), (0, .ref 55), (1, .int v1_19), (3, .int v3_19), (4, .int v4_19)]) dX4_read_119 rfl (by decide) rfl rfl ?_
                    refine a_iconst (pc' := 121) (v := (1 : Int32)) dX4_read_120 rfl (by decide) ?_
                    refine a_istore_n (pc' := 122) (ls' := [(3, .int ((1 : Int32))), (2, .int ((2 : Int32))), (7, .int ((1 : Int32))), (6, .int x20003), (5, .int ((m_text M_19) v4_19.toNatClampNeg)), (0, .ref 55), (1, .int v1_19), (4, .int v4_19)]) dX4_read_121 rfl (by decide) rfl rfl ?_
                    refine a_iconst (pc' := 123) (v := (1 : Int32)) dX4_read_122 rfl (by decide) ?_
                    refine a_istore_n (pc' := 124) (ls' := [(1, .int ((1 : Int32))), (3, .int ((1 : Int32))), (2, .int ((2 : Int32))), (7, .int ((1 : Int32))), (6, .int x20003), (5, .int ((m_text M_19) v4_19.toNatClampNeg)), (0, .ref 55), (4, .int v4_19)]) dX4_read_123 rfl (by decide) rfl rfl ?_
                    refine a_goto 200 dX4_read_124 (by decide) ?_
                    refine a_iinc (pc' := 203) (v := v4_19 + (1 : Int32)) (ls' := [(4, .int (v4_19 + (1 : Int32))), (1, .int ((1 : Int32))), (3, .int ((1 : Int32))), (2, .int ((2 : Int32))), (7, .int ((1 : Int32))), (6, .int x20003), (5, .int ((m_text M_19) v4_19.toNatClampNeg)), (0, .ref 55)]) 7 dX4_read_200 rfl (by rfl) (by decide) rfl rfl ?_
                    refine a_goto 19 dX4_read_203 (by decide) ?_
                    refine a_sub [7, 1, 3, 2, 0] rfl ?_
                    exact ih _ _ _ _ _ _ hf hX0 hX1 _ hz hfr
                  · replace hf := (if_pos k20082).symm.trans hf
                    refine a_iconst (pc' := 115) (v := (1 : Int32)) dX4_read_114 rfl (by decide) ?_
                    refine a_goto 119 dX4_read_115 (by decide) ?_
                    refine a_istore_n (pc' := 120) (ls' := [(2, .int ((1 : Int32))), (7, .int ((1 : Int32))), (6, .int x20003), (5, .int ((m_text M_19) v4_19.toNatClampNeg)), (0, .ref 55), (1, .int v1_19), (3, .int v3_19), (4, .int v4_19)]) dX4_read_119 rfl (by decide) rfl rfl ?_
                    refine a_iconst (pc' := 121) (v := (1 : Int32)) dX4_read_120 rfl (by decide) ?_
                    refine a_istore_n (pc' := 122) (ls' := [(3, .int ((1 : Int32))), (2, .int ((1 : Int32))), (7, .int ((1 : Int32))), (6, .int x20003), (5, .int ((m_text M_19) v4_19.toNatClampNeg)), (0, .ref 55), (1, .int v1_19), (4, .int v4_19)]) dX4_read_121 rfl (by decide) rfl rfl ?_
                    refine a_iconst (pc' := 123) (v := (1 : Int32)) dX4_read_122 rfl (by decide) ?_
                    refine a_istore_n (pc' := 124) (ls' := [(1, .int ((1 : Int32))), (3, .int ((1 : Int32))), (2, .int ((1 : Int32))), (7, .int ((1 : Int32))), (6, .int x20003), (5, .int ((m_text M_19) v4_19.toNatClampNeg)), (0, .ref 55), (4, .int v4_19)]) dX4_read_123 rfl (by decide) rfl rfl ?_
                    refine a_goto 200 dX4_read_124 (by decide) ?_
                    refine a_iinc (pc' := 203) (v := v4_19 + (1 : Int32)) (ls' := [(4, .int (v4_19 + (1 : Int32))), (1, .int ((1 : Int32))), (3, .int ((1 : Int32))), (2, .int ((1 : Int32))), (7, .int ((1 : Int32))), (6, .int x20003), (5, .int ((m_text M_19) v4_19.toNatClampNeg)), (0, .ref 55)]) 7 dX4_read_200 rfl (by rfl) (by decide) rfl rfl ?_
                    refine a_goto 19 dX4_read_203 (by decide) ?_
                    refine a_sub [7, 1, 3, 2, 0] rfl ?_
                    exact ih _ _ _ _ _ _ hf hX0 hX1 _ hz hfr
                · replace hf := (if_pos k20081).symm.trans hf
                  refine a_iconst (pc' := 104) (v := (0 : Int32)) dX4_read_103 rfl (by decide) ?_
                  refine a_goto 119 dX4_read_104 (by decide) ?_
                  refine a_istore_n (pc' := 120) (ls' := [(2, .int ((0 : Int32))), (7, .int ((1 : Int32))), (6, .int x20003), (5, .int ((m_text M_19) v4_19.toNatClampNeg)), (0, .ref 55), (1, .int v1_19), (3, .int v3_19), (4, .int v4_19)]) dX4_read_119 rfl (by decide) rfl rfl ?_
                  refine a_iconst (pc' := 121) (v := (1 : Int32)) dX4_read_120 rfl (by decide) ?_
                  refine a_istore_n (pc' := 122) (ls' := [(3, .int ((1 : Int32))), (2, .int ((0 : Int32))), (7, .int ((1 : Int32))), (6, .int x20003), (5, .int ((m_text M_19) v4_19.toNatClampNeg)), (0, .ref 55), (1, .int v1_19), (4, .int v4_19)]) dX4_read_121 rfl (by decide) rfl rfl ?_
                  refine a_iconst (pc' := 123) (v := (1 : Int32)) dX4_read_122 rfl (by decide) ?_
                  refine a_istore_n (pc' := 124) (ls' := [(1, .int ((1 : Int32))), (3, .int ((1 : Int32))), (2, .int ((0 : Int32))), (7, .int ((1 : Int32))), (6, .int x20003), (5, .int ((m_text M_19) v4_19.toNatClampNeg)), (0, .ref 55), (4, .int v4_19)]) dX4_read_123 rfl (by decide) rfl rfl ?_
                  refine a_goto 200 dX4_read_124 (by decide) ?_
                  refine a_iinc (pc' := 203) (v := v4_19 + (1 : Int32)) (ls' := [(4, .int (v4_19 + (1 : Int32))), (1, .int ((1 : Int32))), (3, .int ((1 : Int32))), (2, .int ((0 : Int32))), (7, .int ((1 : Int32))), (6, .int x20003), (5, .int ((m_text M_19) v4_19.toNatClampNeg)), (0, .ref 55)]) 7 dX4_read_200 rfl (by rfl) (by decide) rfl rfl ?_
                  refine a_goto 19 dX4_read_203 (by decide) ?_
                  refine a_sub [7, 1, 3, 2, 0] rfl ?_
                  exact ih _ _ _ _ _ _ hf hX0 hX1 _ hz hfr
              · replace hf := (if_neg k20080).symm.trans hf
                refine a_aload_n (pc' := 91) 3 dX4_read_90 rfl rfl rfl ?_
                refine a_iload_n (pc' := 92) 5 dX4_read_91 rfl rfl rfl ?_
                refine a_iload_n (pc' := 93) 6 dX4_read_92 rfl rfl rfl ?_
                obtain ⟨x20084, e20083, hf⟩ := Option.bind_eq_some_iff.mp hf
                refine k_X4_136 (pc' := 96) (c_X4_comes l g F hz e20083) ⟨Nat.le_of_ble_eq_true rfl, Nat.le_of_ble_eq_true rfl⟩ hz.1 (Nat.le_of_ble_eq_true rfl) dX4_read_93 rfl (fun h20085 hq => ?_)
                obtain ⟨hz1, hfr1⟩ := hq
                obtain ⟨M20086, hf, hz⟩ := f_let_x (P := fun w => d_mod h20085 w) hf hz1
                replace hfr := d_frm.tr hfr hfr1 (by omega)
                refine a_iload (pc' := 98) 2 dX4_read_96 rfl rfl ?_
                refine a_bipush (pc' := 100) (v := (100 : Int32)) dX4_read_98 rfl (by decide) ?_
                refine a_icmp_ne (pc' := 103) 107 dX4_read_100 (by decide) rfl (fun k20087 => ?_) (fun k20087 => ?_)
                · replace hf := (if_neg k20087).symm.trans hf
                  refine a_iload (pc' := 109) 2 dX4_read_107 rfl rfl ?_
                  refine a_bipush (pc' := 111) (v := (114 : Int32)) dX4_read_109 rfl (by decide) ?_
                  refine a_icmp_ne (pc' := 114) 118 dX4_read_111 (by decide) rfl (fun k20088 => ?_) (fun k20088 => ?_)
                  · replace hf := (if_neg k20088).symm.trans hf
                    refine a_iconst (pc' := 119) (v := (2 : Int32)) dX4_read_118 rfl (by decide) ?_
                    refine a_istore_n (pc' := 120) (ls' := [(2, .int ((2 : Int32))), (7, .int ((1 : Int32))), (6, .int x20003), (5, .int ((m_text M_19) v4_19.toNatClampNeg)), (0, .ref 55), (1, .int v1_19), (3, .int v3_19), (4, .int v4_19)]) dX4_read_119 rfl (by decide) rfl rfl ?_
                    refine a_iconst (pc' := 121) (v := (1 : Int32)) dX4_read_120 rfl (by decide) ?_
                    refine a_istore_n (pc' := 122) (ls' := [(3, .int ((1 : Int32))), (2, .int ((2 : Int32))), (7, .int ((1 : Int32))), (6, .int x20003), (5, .int ((m_text M_19) v4_19.toNatClampNeg)), (0, .ref 55), (1, .int v1_19), (4, .int v4_19)]) dX4_read_121 rfl (by decide) rfl rfl ?_
                    refine a_iconst (pc' := 123) (v := (1 : Int32)) dX4_read_122 rfl (by decide) ?_
                    refine a_istore_n (pc' := 124) (ls' := [(1, .int ((1 : Int32))), (3, .int ((1 : Int32))), (2, .int ((2 : Int32))), (7, .int ((1 : Int32))), (6, .int x20003), (5, .int ((m_text M_19) v4_19.toNatClampNeg)), (0, .ref 55), (4, .int v4_19)]) dX4_read_123 rfl (by decide) rfl rfl ?_
                    refine a_goto 200 dX4_read_124 (by decide) ?_
                    refine a_iinc (pc' := 203) (v := v4_19 + (1 : Int32)) (ls' := [(4, .int (v4_19 + (1 : Int32))), (1, .int ((1 : Int32))), (3, .int ((1 : Int32))), (2, .int ((2 : Int32))), (7, .int ((1 : Int32))), (6, .int x20003), (5, .int ((m_text M_19) v4_19.toNatClampNeg)), (0, .ref 55)]) 7 dX4_read_200 rfl (by rfl) (by decide) rfl rfl ?_
                    refine a_goto 19 dX4_read_203 (by decide) ?_
                    refine a_sub [7, 1, 3, 2, 0] rfl ?_
                    exact ih _ _ _ _ _ _ hf hX0 hX1 _ hz hfr
                  · replace hf := (if_pos k20088).symm.trans hf
                    refine a_iconst (pc' := 115) (v := (1 : Int32)) dX4_read_114 rfl (by decide) ?_
                    refine a_goto 119 dX4_read_115 (by decide) ?_
                    refine a_istore_n (pc' := 120) (ls' := [(2, .int ((1 : Int32))), (7, .int ((1 : Int32))), (6, .int x20003), (5, .int ((m_text M_19) v4_19.toNatClampNeg)), (0, .ref 55), (1, .int v1_19), (3, .int v3_19), (4, .int v4_19)]) dX4_read_119 rfl (by decide) rfl rfl ?_
                    refine a_iconst (pc' := 121) (v := (1 : Int32)) dX4_read_120 rfl (by decide) ?_
                    refine a_istore_n (pc' := 122) (ls' := [(3, .int ((1 : Int32))), (2, .int ((1 : Int32))), (7, .int ((1 : Int32))), (6, .int x20003), (5, .int ((m_text M_19) v4_19.toNatClampNeg)), (0, .ref 55), (1, .int v1_19), (4, .int v4_19)]) dX4_read_121 rfl (by decide) rfl rfl ?_
                    refine a_iconst (pc' := 123) (v := (1 : Int32)) dX4_read_122 rfl (by decide) ?_
                    refine a_istore_n (pc' := 124) (ls' := [(1, .int ((1 : Int32))), (3, .int ((1 : Int32))), (2, .int ((1 : Int32))), (7, .int ((1 : Int32))), (6, .int x20003), (5, .int ((m_text M_19) v4_19.toNatClampNeg)), (0, .ref 55), (4, .int v4_19)]) dX4_read_123 rfl (by decide) rfl rfl ?_
                    refine a_goto 200 dX4_read_124 (by decide) ?_
                    refine a_iinc (pc' := 203) (v := v4_19 + (1 : Int32)) (ls' := [(4, .int (v4_19 + (1 : Int32))), (1, .int ((1 : Int32))), (3, .int ((1 : Int32))), (2, .int ((1 : Int32))), (7, .int ((1 : Int32))), (6, .int x20003), (5, .int ((m_text M_19) v4_19.toNatClampNeg)), (0, .ref 55)]) 7 dX4_read_200 rfl (by rfl) (by decide) rfl rfl ?_
                    refine a_goto 19 dX4_read_203 (by decide) ?_
                    refine a_sub [7, 1, 3, 2, 0] rfl ?_
                    exact ih _ _ _ _ _ _ hf hX0 hX1 _ hz hfr
                · replace hf := (if_pos k20087).symm.trans hf
                  refine a_iconst (pc' := 104) (v := (0 : Int32)) dX4_read_103 rfl (by decide) ?_
                  refine a_goto 119 dX4_read_104 (by decide) ?_
                  refine a_istore_n (pc' := 120) (ls' := [(2, .int ((0 : Int32))), (7, .int ((1 : Int32))), (6, .int x20003), (5, .int ((m_text M_19) v4_19.toNatClampNeg)), (0, .ref 55), (1, .int v1_19), (3, .int v3_19), (4, .int v4_19)]) dX4_read_119 rfl (by decide) rfl rfl ?_
                  refine a_iconst (pc' := 121) (v := (1 : Int32)) dX4_read_120 rfl (by decide) ?_
                  refine a_istore_n (pc' := 122) (ls' := [(3, .int ((1 : Int32))), (2, .int ((0 : Int32))), (7, .int ((1 : Int32))), (6, .int x20003), (5, .int ((m_text M_19) v4_19.toNatClampNeg)), (0, .ref 55), (1, .int v1_19), (4, .int v4_19)]) dX4_read_121 rfl (by decide) rfl rfl ?_
                  refine a_iconst (pc' := 123) (v := (1 : Int32)) dX4_read_122 rfl (by decide) ?_
                  refine a_istore_n (pc' := 124) (ls' := [(1, .int ((1 : Int32))), (3, .int ((1 : Int32))), (2, .int ((0 : Int32))), (7, .int ((1 : Int32))), (6, .int x20003), (5, .int ((m_text M_19) v4_19.toNatClampNeg)), (0, .ref 55), (4, .int v4_19)]) dX4_read_123 rfl (by decide) rfl rfl ?_
                  refine a_goto 200 dX4_read_124 (by decide) ?_
                  refine a_iinc (pc' := 203) (v := v4_19 + (1 : Int32)) (ls' := [(4, .int (v4_19 + (1 : Int32))), (1, .int ((1 : Int32))), (3, .int ((1 : Int32))), (2, .int ((0 : Int32))), (7, .int ((1 : Int32))), (6, .int x20003), (5, .int ((m_text M_19) v4_19.toNatClampNeg)), (0, .ref 55)]) 7 dX4_read_200 rfl (by rfl) (by decide) rfl rfl ?_
                  refine a_goto 19 dX4_read_203 (by decide) ?_
                  refine a_sub [7, 1, 3, 2, 0] rfl ?_
                  exact ih _ _ _ _ _ _ hf hX0 hX1 _ hz hfr
set_option maxHeartbeats 4000000 in
set_option maxRecDepth 100000 in
theorem c_X4_read (l : Launch) (g : a_G) (F : Nat) {h : List va_E} {M : d_M} (hz : d_mod h M) {out : Int32 × d_M} (hf : f_X4_read F M = some out) : a_CT l g yX4_read cX4_read 8 (some .int) (a_rm 1 23) [.ref 55] h none none (fun r h' => r = some (.int out.1) ∧ d_mod h' out.2 ∧ d_frm 55 6 h h') := by
  refine a_enter ⟨by decide, rfl, Nat.le_of_ble_eq_true rfl⟩ (fun p e s m args below meth c hr hin => ?_)
  unfold f_X4_read at hf
  have hfr : d_frm 55 6 h h := d_frm.rf
  refine a_sub (ls' := [(0, .ref 55)]) [0] rfl ?_
  refine a_aload_n (pc' := 1) 0 dX4_read_0 rfl rfl rfl ?_
  refine a_iconst (pc' := 2) (v := (0 : Int32)) dX4_read_1 rfl (by decide) ?_
  refine pt_X4_129 (pc' := 5) hz dX4_read_2 rfl (fun h1 hz1 hfr1 => ?_)
  obtain ⟨M2, hf, hz⟩ := f_let_x (P := fun w => d_mod h1 w) hf hz1
  replace hfr := d_frm.tr hfr hfr1 (by omega)
  refine a_aload_n (pc' := 6) 0 dX4_read_5 rfl rfl rfl ?_
  refine a_iconst (pc' := 7) (v := (0 : Int32)) dX4_read_6 rfl (by decide) ?_
  refine pt_X4_132 (pc' := 10) hz (by decide) dX4_read_7 rfl (fun h3 hz1 hfr1 => ?_)
  obtain ⟨M4, hf, hz⟩ := f_let_x (P := fun w => d_mod h3 w) hf hz1
  replace hfr := d_frm.tr hfr hfr1 (by omega)
  refine a_iconst (pc' := 11) (v := (0 : Int32)) dX4_read_10 rfl (by decide) ?_
  refine a_istore_n (pc' := 12) (ls' := [(1, .int ((0 : Int32))), (0, .ref 55)]) dX4_read_11 rfl (by decide) rfl rfl ?_
  refine a_iconst (pc' := 13) (v := (0 : Int32)) dX4_read_12 rfl (by decide) ?_
  refine a_istore_n (pc' := 14) (ls' := [(2, .int ((0 : Int32))), (1, .int ((0 : Int32))), (0, .ref 55)]) dX4_read_13 rfl (by decide) rfl rfl ?_
  refine a_iconst (pc' := 15) (v := (0 : Int32)) dX4_read_14 rfl (by decide) ?_
  refine a_istore_n (pc' := 16) (ls' := [(3, .int ((0 : Int32))), (2, .int ((0 : Int32))), (1, .int ((0 : Int32))), (0, .ref 55)]) dX4_read_15 rfl (by decide) rfl rfl ?_
  refine a_iconst (pc' := 17) (v := (0 : Int32)) dX4_read_16 rfl (by decide) ?_
  refine a_istore (pc' := 19) (ls' := [(4, .int ((0 : Int32))), (3, .int ((0 : Int32))), (2, .int ((0 : Int32))), (1, .int ((0 : Int32))), (0, .ref 55)]) dX4_read_17 (by decide) rfl rfl ?_
  obtain ⟨o5, e6, hf⟩ := Option.bind_eq_some_iff.mp hf
  refine a_sub [4, 3, 2, 1, 0] rfl ?_
  refine l_X4_read_L19 F   F _ _ _ _ _ o5 e6 (fun w7 he9 h8 hz hfr => ?_) (fun w32 he9 h33 hz hfr => ?_) _ hz hfr
  · subst he9
    simp only [Sum.elim_inl, Sum.elim_inr] at hf
    refine a_aload_n (pc' := 207) 0 dX4_read_206 rfl rfl rfl ?_
    refine a_iload_n (pc' := 208) 1 dX4_read_207 rfl rfl rfl ?_
    refine a_if_eq (pc' := 211) 220 dX4_read_208 (by decide) rfl (fun k9 => ?_) (fun k9 => ?_)
    · replace hf := (if_pos k9).symm.trans hf
      refine a_iconst (pc' := 221) (v := (0 : Int32)) dX4_read_220 rfl (by decide) ?_
      refine pt_X4_132 (pc' := 224) hz (by decide) dX4_read_221 rfl (fun h10 hz1 hfr1 => ?_)
      obtain ⟨M11, hf, hz⟩ := f_let_x (P := fun w => d_mod h10 w) hf hz1
      replace hfr := d_frm.tr hfr hfr1 (by omega)
      refine a_aload_n (pc' := 225) 0 dX4_read_224 rfl rfl rfl ?_
      refine g_X4_132 (pc' := 228) hz.1 rfl dX4_read_225 rfl ?_
      refine a_if_eq (pc' := 231) 237 dX4_read_228 (by decide) rfl (fun k12 => ?_) (fun k12 => ?_)
      · replace hf := (if_pos k12).symm.trans hf
        refine a_aload_n (pc' := 238) 0 dX4_read_237 rfl rfl rfl ?_
        refine g_X4_126 (pc' := 241) hz.1 rfl dX4_read_238 rfl ?_
        cases hf
        exact a_iret hr ⟨rfl, hz, hfr⟩ dX4_read_241
      · replace hf := (if_neg k12).symm.trans hf
        refine a_aload_n (pc' := 232) 0 dX4_read_231 rfl rfl rfl ?_
        refine a_iload_n (pc' := 233) 2 dX4_read_232 rfl rfl rfl ?_
        refine a_iload_n (pc' := 234) 3 dX4_read_233 rfl rfl rfl ?_
        obtain ⟨x14, e13, hf⟩ := Option.bind_eq_some_iff.mp hf
        refine k_X4_136 (pc' := 237) (c_X4_comes l g F hz e13) ⟨Nat.le_of_ble_eq_true rfl, Nat.le_of_ble_eq_true rfl⟩ hz.1 (Nat.le_of_ble_eq_true rfl) dX4_read_234 rfl (fun h15 hq => ?_)
        obtain ⟨hz1, hfr1⟩ := hq
        obtain ⟨M16, hf, hz⟩ := f_let_x (P := fun w => d_mod h15 w) hf hz1
        replace hfr := d_frm.tr hfr hfr1 (by omega)
        refine a_aload_n (pc' := 238) 0 dX4_read_237 rfl rfl rfl ?_
        refine g_X4_126 (pc' := 241) hz.1 rfl dX4_read_238 rfl ?_
        cases hf
        exact a_iret hr ⟨rfl, hz, hfr⟩ dX4_read_241
    · replace hf := (if_neg k9).symm.trans hf
      refine a_iload_n (pc' := 212) 1 dX4_read_211 rfl rfl rfl ?_
      refine a_iconst (pc' := 213) (v := (2 : Int32)) dX4_read_212 rfl (by decide) ?_
      refine a_icmp_eq (pc' := 216) 220 dX4_read_213 (by decide) rfl (fun k17 => ?_) (fun k17 => ?_)
      · replace hf := (if_pos k17).symm.trans hf
        refine a_iconst (pc' := 221) (v := (0 : Int32)) dX4_read_220 rfl (by decide) ?_
        refine pt_X4_132 (pc' := 224) hz (by decide) dX4_read_221 rfl (fun h18 hz1 hfr1 => ?_)
        obtain ⟨M19, hf, hz⟩ := f_let_x (P := fun w => d_mod h18 w) hf hz1
        replace hfr := d_frm.tr hfr hfr1 (by omega)
        refine a_aload_n (pc' := 225) 0 dX4_read_224 rfl rfl rfl ?_
        refine g_X4_132 (pc' := 228) hz.1 rfl dX4_read_225 rfl ?_
        refine a_if_eq (pc' := 231) 237 dX4_read_228 (by decide) rfl (fun k20 => ?_) (fun k20 => ?_)
        · replace hf := (if_pos k20).symm.trans hf
          refine a_aload_n (pc' := 238) 0 dX4_read_237 rfl rfl rfl ?_
          refine g_X4_126 (pc' := 241) hz.1 rfl dX4_read_238 rfl ?_
          cases hf
          exact a_iret hr ⟨rfl, hz, hfr⟩ dX4_read_241
        · replace hf := (if_neg k20).symm.trans hf
          refine a_aload_n (pc' := 232) 0 dX4_read_231 rfl rfl rfl ?_
          refine a_iload_n (pc' := 233) 2 dX4_read_232 rfl rfl rfl ?_
          refine a_iload_n (pc' := 234) 3 dX4_read_233 rfl rfl rfl ?_
          obtain ⟨x22, e21, hf⟩ := Option.bind_eq_some_iff.mp hf
          refine k_X4_136 (pc' := 237) (c_X4_comes l g F hz e21) ⟨Nat.le_of_ble_eq_true rfl, Nat.le_of_ble_eq_true rfl⟩ hz.1 (Nat.le_of_ble_eq_true rfl) dX4_read_234 rfl (fun h23 hq => ?_)
          obtain ⟨hz1, hfr1⟩ := hq
          obtain ⟨M24, hf, hz⟩ := f_let_x (P := fun w => d_mod h23 w) hf hz1
          replace hfr := d_frm.tr hfr hfr1 (by omega)
          refine a_aload_n (pc' := 238) 0 dX4_read_237 rfl rfl rfl ?_
          refine g_X4_126 (pc' := 241) hz.1 rfl dX4_read_238 rfl ?_
          cases hf
          exact a_iret hr ⟨rfl, hz, hfr⟩ dX4_read_241
      · replace hf := (if_neg k17).symm.trans hf
        refine a_iconst (pc' := 217) (v := (1 : Int32)) dX4_read_216 rfl (by decide) ?_
        refine a_goto 221 dX4_read_217 (by decide) ?_
        refine pt_X4_132 (pc' := 224) hz (by decide) dX4_read_221 rfl (fun h25 hz1 hfr1 => ?_)
        obtain ⟨M26, hf, hz⟩ := f_let_x (P := fun w => d_mod h25 w) hf hz1
        replace hfr := d_frm.tr hfr hfr1 (by omega)
        refine a_aload_n (pc' := 225) 0 dX4_read_224 rfl rfl rfl ?_
        refine g_X4_132 (pc' := 228) hz.1 rfl dX4_read_225 rfl ?_
        refine a_if_eq (pc' := 231) 237 dX4_read_228 (by decide) rfl (fun k27 => ?_) (fun k27 => ?_)
        · replace hf := (if_pos k27).symm.trans hf
          refine a_aload_n (pc' := 238) 0 dX4_read_237 rfl rfl rfl ?_
          refine g_X4_126 (pc' := 241) hz.1 rfl dX4_read_238 rfl ?_
          cases hf
          exact a_iret hr ⟨rfl, hz, hfr⟩ dX4_read_241
        · replace hf := (if_neg k27).symm.trans hf
          refine a_aload_n (pc' := 232) 0 dX4_read_231 rfl rfl rfl ?_
          refine a_iload_n (pc' := 233) 2 dX4_read_232 rfl rfl rfl ?_
          refine a_iload_n (pc' := 234) 3 dX4_read_233 rfl rfl rfl ?_
          obtain ⟨x29, e28, hf⟩ := Option.bind_eq_some_iff.mp hf
          refine k_X4_136 (pc' := 237) (c_X4_comes l g F hz e28) ⟨Nat.le_of_ble_eq_true rfl, Nat.le_of_ble_eq_true rfl⟩ hz.1 (Nat.le_of_ble_eq_true rfl) dX4_read_234 rfl (fun h30 hq => ?_)
          obtain ⟨hz1, hfr1⟩ := hq
          obtain ⟨M31, hf, hz⟩ := f_let_x (P := fun w => d_mod h30 w) hf hz1
          replace hfr := d_frm.tr hfr hfr1 (by omega)
          refine a_aload_n (pc' := 238) 0 dX4_read_237 rfl rfl rfl ?_
          refine g_X4_126 (pc' := 241) hz.1 rfl dX4_read_238 rfl ?_
          cases hf
          exact a_iret hr ⟨rfl, hz, hfr⟩ dX4_read_241
  · subst he9
    simp only [Sum.elim_inl, Sum.elim_inr] at hf
    refine a_iload (pc' := 199) 0 dX4_read_197 rfl rfl ?_
    cases hf
    exact a_iret hr ⟨rfl, hz, hfr⟩ dX4_read_199
