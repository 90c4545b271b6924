/-! SlateRoofModel.gauge(I)I -/
set_option maxRecDepth 100000 in
def f_X4_gauge (F : Nat) (M : d_M) (a1 : Int32) : Option (Int32) := f_grd ((3 : Int32)) 294 (some ((a1 - ((m_z M) ((3 : Int32)).toNatClampNeg)) / ((2 : Int32))))
set_option maxHeartbeats 4000000 in
set_option maxRecDepth 100000 in
theorem c_X4_gauge (l : Launch) (g : a_G) (F : Nat) {h : List va_E} {M : d_M} {a1 : Int32} (hz : d_mod h M) {out : Int32} (hf : f_X4_gauge F M a1 = some out) : a_CT l g yX4_gauge cX4_gauge 2 (some .int) (a_rm 0 0) [.ref 55, .int a1] h none none (fun r h' => r = some (.int out) ∧ h' = h) := by
  refine a_enter ⟨by decide, rfl, Nat.le_of_ble_eq_true rfl⟩ (fun p e s m args below meth c hr hin => ?_)
  unfold f_X4_gauge at hf
  refine a_sub (ls' := [(0, .ref 55), (1, .int a1)]) [0, 1] rfl ?_
  refine a_iload_n (pc' := 1) 1 dX4_gauge_0 rfl rfl rfl ?_
  refine a_aload_n (pc' := 2) 0 dX4_gauge_1 rfl rfl rfl ?_
  refine g_X4_7 (pc' := 5) hz.1 rfl dX4_gauge_2 rfl ?_
  refine a_iconst (pc' := 6) (v := (3 : Int32)) dX4_gauge_5 rfl (by decide) ?_
  obtain ⟨hg, hf⟩ := f_grd_x hf
  refine b_iald (pc' := 7) hz.2.1 hg dX4_gauge_6 rfl ?_
  refine a_isub (pc' := 8) dX4_gauge_7 rfl ?_
  refine a_iconst (pc' := 9) (v := (2 : Int32)) dX4_gauge_8 rfl (by decide) ?_
  refine a_idiv (pc' := 10) dX4_gauge_9 rfl (by decide) ?_
  cases hf
  exact a_iret hr ⟨rfl, rfl⟩ dX4_gauge_10
/-! SlateRoofModel.topOf(I)I -/
set_option maxRecDepth 100000 in
def f_X4_topOf_L4 (F : Nat) (M : d_M) (a1 : Int32) : Nat → Int32 → Int32 → Option (Int32 × Int32)
  | 0, _, _ => none
  | n + 1, v2_4, v3_4 => (if a1 < v3_4 then some (v2_4, v3_4) else f_grd (((14 : Int32)) + v3_4) 294 ((f_X4_gauge F M ((m_z M) (((14 : Int32)) + v3_4).toNatClampNeg)).bind fun x5003 => f_X4_topOf_L4 F M a1 n (v2_4 + x5003) (v3_4 + (1 : Int32))))
set_option maxRecDepth 100000 in
def f_X4_topOf (F : Nat) (M : d_M) (a1 : Int32) : Option (Int32) := (f_X4_topOf_L4 F M a1 F ((0 : Int32)) ((0 : Int32))).bind fun o1 => some (o1.1)
set_option maxHeartbeats 4000000 in
set_option maxRecDepth 100000 in
theorem l_X4_topOf_L4 {p : Program} {l : Launch} {e : Env} {s : State} {m : MethodId} {args : Array Value} {below : List Frame} {meth : Method} {c : Code} {Q : State → Prop} {g : a_G} (F : Nat) {h : List va_E} (M : d_M) (a1 : Int32) (hz : d_mod h M) : ∀ (n : Nat) (v2_4 : Int32) (v3_4 : Int32) (o : Int32 × Int32), f_X4_topOf_L4 F M a1 n v2_4 v3_4 = some o → (∀ e9 : Int32 × Int32, o = e9 → a_W p l e (a_rm 1 21) s m args below meth c Q RX4 cX4_topOf 4 g 0 0 none 31 [(2, .int e9.1)] [] h) → a_W p l e (a_rm 1 21) s m args below meth c Q RX4 cX4_topOf 4 g 0 0 none 4 [(0, .ref 55), (1, .int a1), (2, .int v2_4), (3, .int v3_4)] [] h := by
  intro n
  induction n with
  | zero => intro v2_4 v3_4 o hf; exact nomatch (show (none : Option (Int32 × Int32)) = some o from hf)
  | succ n ih =>
    intro v2_4 v3_4 o hf hX0
    rw [f_X4_topOf_L4] at hf
    refine a_iload_n (pc' := 5) 3 dX4_topOf_4 rfl rfl rfl ?_
    refine a_iload_n (pc' := 6) 1 dX4_topOf_5 rfl rfl rfl ?_
    refine a_icmp_gt (pc' := 9) 31 dX4_topOf_6 (by decide) rfl (fun k5001 => ?_) (fun k5001 => ?_)
    · replace hf := (if_pos k5001).symm.trans hf
      cases hf
      refine a_sub [2] rfl ?_
      exact hX0 _ rfl
    · replace hf := (if_neg k5001).symm.trans hf
      refine a_iload_n (pc' := 10) 2 dX4_topOf_9 rfl rfl rfl ?_
      refine a_aload_n (pc' := 11) 0 dX4_topOf_10 rfl rfl rfl ?_
      refine a_aload_n (pc' := 12) 0 dX4_topOf_11 rfl rfl rfl ?_
      refine g_X4_7 (pc' := 15) hz.1 rfl dX4_topOf_12 rfl ?_
      refine a_bipush (pc' := 17) (v := (14 : Int32)) dX4_topOf_15 rfl (by decide) ?_
      refine a_iload_n (pc' := 18) 3 dX4_topOf_17 rfl rfl rfl ?_
      refine a_iadd (pc' := 19) dX4_topOf_18 rfl ?_
      obtain ⟨hg, hf⟩ := f_grd_x hf
      refine b_iald (pc' := 20) hz.2.1 hg dX4_topOf_19 rfl ?_
      obtain ⟨x5003, e5002, hf⟩ := Option.bind_eq_some_iff.mp hf
      refine k_X4_44 (pc' := 23) (c_X4_gauge l g F hz e5002) ⟨Nat.le_of_ble_eq_true rfl, Nat.le_of_ble_eq_true rfl⟩ hz.1 (Nat.le_of_ble_eq_true rfl) dX4_topOf_20 rfl ?_
      refine a_iadd (pc' := 24) dX4_topOf_23 rfl ?_
      refine a_istore_n (pc' := 25) (ls' := [(2, .int (v2_4 + x5003)), (0, .ref 55), (1, .int a1), (3, .int v3_4)]) dX4_topOf_24 rfl (by decide) rfl rfl ?_
      refine a_iinc (pc' := 28) (v := v3_4 + (1 : Int32)) (ls' := [(3, .int (v3_4 + (1 : Int32))), (2, .int (v2_4 + x5003)), (0, .ref 55), (1, .int a1)]) 3 dX4_topOf_25 rfl (by rfl) (by decide) rfl rfl ?_
      refine a_goto 4 dX4_topOf_28 (by decide) ?_
      refine a_sub [2, 3, 1, 0] rfl ?_
      exact ih _ _ _ hf hX0
set_option maxHeartbeats 4000000 in
set_option maxRecDepth 100000 in
theorem c_X4_topOf (l : Launch) (g : a_G) (F : Nat) {h : List va_E} {M : d_M} {a1 : Int32} (hz : d_mod h M) {out : Int32} (hf : f_X4_topOf F M a1 = some out) : a_CT l g yX4_topOf cX4_topOf 4 (some .int) (a_rm 1 21) [.ref 55, .int a1] h none none (fun r h' => r = some (.int out) ∧ h' = h) := by
  refine a_enter ⟨by decide, rfl, Nat.le_of_ble_eq_true rfl⟩ (fun p e s m args below meth c hr hin => ?_)
  unfold f_X4_topOf at hf
  refine a_sub (ls' := [(0, .ref 55), (1, .int a1)]) [0, 1] rfl ?_
  refine a_iconst (pc' := 1) (v := (0 : Int32)) dX4_topOf_0 rfl (by decide) ?_
  refine a_istore_n (pc' := 2) (ls' := [(2, .int ((0 : Int32))), (0, .ref 55), (1, .int a1)]) dX4_topOf_1 rfl (by decide) rfl rfl ?_
  refine a_iconst (pc' := 3) (v := (0 : Int32)) dX4_topOf_2 rfl (by decide) ?_
  refine a_istore_n (pc' := 4) (ls' := [(3, .int ((0 : Int32))), (2, .int ((0 : Int32))), (0, .ref 55), (1, .int a1)]) dX4_topOf_3 rfl (by decide) rfl rfl ?_
  obtain ⟨o1, e2, hf⟩ := Option.bind_eq_some_iff.mp hf
  refine a_sub [2, 3, 1, 0] rfl ?_
  refine l_X4_topOf_L4 F M a1 hz F _ _ o1 e2 (fun e9 he9 => ?_)
  subst he9
  refine a_iload_n (pc' := 32) 0 dX4_topOf_31 rfl rfl rfl ?_
  cases hf
  exact a_iret hr ⟨rfl, rfl⟩ dX4_topOf_32
/-! SlateRoofModel.top()I -/
set_option maxRecDepth 100000 in
def f_X4_top (F : Nat) (M : d_M) : Option (Int32) := f_grd ((2 : Int32)) 294 ((f_X4_topOf F M (((m_z M) ((2 : Int32)).toNatClampNeg) - ((1 : Int32)))).bind fun x2 => some (x2))
set_option maxHeartbeats 4000000 in
set_option maxRecDepth 100000 in
theorem c_X4_top (l : Launch) (g : a_G) (F : Nat) {h : List va_E} {M : d_M} (hz : d_mod h M) {out : Int32} (hf : f_X4_top F M = some out) : a_CT l g yX4_top cX4_top 1 (some .int) (a_rm 2 44) [.ref 55] h none none (fun r h' => r = some (.int out) ∧ h' = h) := by
  refine a_enter ⟨by decide, rfl, Nat.le_of_ble_eq_true rfl⟩ (fun p e s m args below meth c hr hin => ?_)
  unfold f_X4_top at hf
  refine a_sub (ls' := [(0, .ref 55)]) [0] rfl ?_
  refine a_aload_n (pc' := 1) 0 dX4_top_0 rfl rfl rfl ?_
  refine a_aload_n (pc' := 2) 0 dX4_top_1 rfl rfl rfl ?_
  refine g_X4_7 (pc' := 5) hz.1 rfl dX4_top_2 rfl ?_
  refine a_iconst (pc' := 6) (v := (2 : Int32)) dX4_top_5 rfl (by decide) ?_
  obtain ⟨hg, hf⟩ := f_grd_x hf
  refine b_iald (pc' := 7) hz.2.1 hg dX4_top_6 rfl ?_
  refine a_iconst (pc' := 8) (v := (1 : Int32)) dX4_top_7 rfl (by decide) ?_
  refine a_isub (pc' := 9) dX4_top_8 rfl ?_
  obtain ⟨x2, e1, hf⟩ := Option.bind_eq_some_iff.mp hf
  refine k_X4_47 (pc' := 12) (c_X4_topOf l g F hz e1) ⟨Nat.le_of_ble_eq_true rfl, Nat.le_of_ble_eq_true rfl⟩ hz.1 (Nat.le_of_ble_eq_true rfl) dX4_top_9 rfl ?_
  cases hf
  exact a_iret hr ⟨rfl, rfl⟩ dX4_top_12
/-! SlateRoofModel.onRoof()I -/
set_option maxRecDepth 100000 in
def f_X4_onRoof_L4 (F : Nat) (M : d_M) : Nat → Int32 → Int32 → Option (Int32 × Int32)
  | 0, _, _ => none
  | n + 1, v1_4, v2_4 => f_grd ((2 : Int32)) 294 ((if ((m_z M) ((2 : Int32)).toNatClampNeg) ≤ v2_4 then some (v1_4, v2_4) else (f_X4_liesIn F M v2_4).bind fun x5003 => f_X4_onRoof_L4 F M n (v1_4 + x5003) (v2_4 + (1 : Int32))))
set_option maxRecDepth 100000 in
def f_X4_onRoof (F : Nat) (M : d_M) : Option (Int32) := (f_X4_onRoof_L4 F M F ((0 : Int32)) ((0 : Int32))).bind fun o1 => some (o1.1)
set_option maxHeartbeats 4000000 in
set_option maxRecDepth 100000 in
theorem l_X4_onRoof_L4 {p : Program} {l : Launch} {e : Env} {s : State} {m : MethodId} {args : Array Value} {below : List Frame} {meth : Method} {c : Code} {Q : State → Prop} {g : a_G} (F : Nat) {h : List va_E} (M : d_M) (hz : d_mod h M) : ∀ (n : Nat) (v1_4 : Int32) (v2_4 : Int32) (o : Int32 × Int32), f_X4_onRoof_L4 F M n v1_4 v2_4 = some o → (∀ e9 : Int32 × Int32, o = e9 → a_W p l e (a_rm 2 45) s m args below meth c Q RX4 cX4_onRoof 3 g 0 0 none 28 [(1, .int e9.1)] [] h) → a_W p l e (a_rm 2 45) s m args below meth c Q RX4 cX4_onRoof 3 g 0 0 none 4 [(0, .ref 55), (1, .int v1_4), (2, .int v2_4)] [] h := by
  intro n
  induction n with
  | zero => intro v1_4 v2_4 o hf; exact nomatch (show (none : Option (Int32 × Int32)) = some o from hf)
  | succ n ih =>
    intro v1_4 v2_4 o hf hX0
    rw [f_X4_onRoof_L4] at hf
    refine a_iload_n (pc' := 5) 2 dX4_onRoof_4 rfl rfl rfl ?_
    refine a_aload_n (pc' := 6) 0 dX4_onRoof_5 rfl rfl rfl ?_
    refine g_X4_7 (pc' := 9) hz.1 rfl dX4_onRoof_6 rfl ?_
    refine a_iconst (pc' := 10) (v := (2 : Int32)) dX4_onRoof_9 rfl (by decide) ?_
    obtain ⟨hg, hf⟩ := f_grd_x hf
    refine b_iald (pc' := 11) hz.2.1 hg dX4_onRoof_10 rfl ?_
    refine a_icmp_ge (pc' := 14) 28 dX4_onRoof_11 (by decide) rfl (fun k5001 => ?_) (fun k5001 => ?_)
    · replace hf := (if_pos k5001).symm.trans hf
      cases hf
      refine a_sub [1] rfl ?_
      exact hX0 _ rfl
    · replace hf := (if_neg k5001).symm.trans hf
      refine a_iload_n (pc' := 15) 1 dX4_onRoof_14 rfl rfl rfl ?_
      refine a_aload_n (pc' := 16) 0 dX4_onRoof_15 rfl rfl rfl ?_
      refine a_iload_n (pc' := 17) 2 dX4_onRoof_16 rfl rfl rfl ?_
      obtain ⟨x5003, e5002, hf⟩ := Option.bind_eq_some_iff.mp hf
      refine k_X4_50 (pc' := 20) (c_X4_liesIn l g F hz e5002) ⟨Nat.le_of_ble_eq_true rfl, Nat.le_of_ble_eq_true rfl⟩ hz.1 (Nat.le_of_ble_eq_true rfl) dX4_onRoof_17 rfl ?_
      refine a_iadd (pc' := 21) dX4_onRoof_20 rfl ?_
      refine a_istore_n (pc' := 22) (ls' := [(1, .int (v1_4 + x5003)), (0, .ref 55), (2, .int v2_4)]) dX4_onRoof_21 rfl (by decide) rfl rfl ?_
      refine a_iinc (pc' := 25) (v := v2_4 + (1 : Int32)) (ls' := [(2, .int (v2_4 + (1 : Int32))), (1, .int (v1_4 + x5003)), (0, .ref 55)]) 2 dX4_onRoof_22 rfl (by rfl) (by decide) rfl rfl ?_
      refine a_goto 4 dX4_onRoof_25 (by decide) ?_
      refine a_sub [2, 1, 0] rfl ?_
      exact ih _ _ _ hf hX0
set_option maxHeartbeats 4000000 in
set_option maxRecDepth 100000 in
theorem c_X4_onRoof (l : Launch) (g : a_G) (F : Nat) {h : List va_E} {M : d_M} (hz : d_mod h M) {out : Int32} (hf : f_X4_onRoof F M = some out) : a_CT l g yX4_onRoof cX4_onRoof 3 (some .int) (a_rm 2 45) [.ref 55] h none none (fun r h' => r = some (.int out) ∧ h' = h) := by
  refine a_enter ⟨by decide, rfl, Nat.le_of_ble_eq_true rfl⟩ (fun p e s m args below meth c hr hin => ?_)
  unfold f_X4_onRoof at hf
  refine a_sub (ls' := [(0, .ref 55)]) [0] rfl ?_
  refine a_iconst (pc' := 1) (v := (0 : Int32)) dX4_onRoof_0 rfl (by decide) ?_
  refine a_istore_n (pc' := 2) (ls' := [(1, .int ((0 : Int32))), (0, .ref 55)]) dX4_onRoof_1 rfl (by decide) rfl rfl ?_
  refine a_iconst (pc' := 3) (v := (0 : Int32)) dX4_onRoof_2 rfl (by decide) ?_
  refine a_istore_n (pc' := 4) (ls' := [(2, .int ((0 : Int32))), (1, .int ((0 : Int32))), (0, .ref 55)]) dX4_onRoof_3 rfl (by decide) rfl rfl ?_
  obtain ⟨o1, e2, hf⟩ := Option.bind_eq_some_iff.mp hf
  refine a_sub [2, 1, 0] rfl ?_
  refine l_X4_onRoof_L4 F M hz F _ _ o1 e2 (fun e9 he9 => ?_)
  subst he9
  refine a_iload_n (pc' := 29) 0 dX4_onRoof_28 rfl rfl rfl ?_
  cases hf
  exact a_iret hr ⟨rfl, rfl⟩ dX4_onRoof_29
/-! SlateRoofModel.gaps()I -/
set_option maxRecDepth 100000 in
def f_X4_gaps_L4 (F : Nat) (M : d_M) : Nat → Int32 → Int32 → Option (Int32 × Int32)
  | 0, _, _ => none
  | n + 1, v1_4, v2_4 => f_grd ((2 : Int32)) 294 ((if ((m_z M) ((2 : Int32)).toNatClampNeg) ≤ v2_4 then some (v1_4, v2_4) else (f_X4_placesOf F M v2_4).bind fun x5003 => (f_X4_liesIn F M v2_4).bind fun x5005 => f_X4_gaps_L4 F M n (v1_4 + (x5003 - x5005)) (v2_4 + (1 : Int32))))
set_option maxRecDepth 100000 in
def f_X4_gaps (F : Nat) (M : d_M) : Option (Int32) := (f_X4_gaps_L4 F M F ((0 : Int32)) ((0 : Int32))).bind fun o1 => some (o1.1)
set_option maxHeartbeats 4000000 in
set_option maxRecDepth 100000 in
theorem l_X4_gaps_L4 {p : Program} {l : Launch} {e : Env} {s : State} {m : MethodId} {args : Array Value} {below : List Frame} {meth : Method} {c : Code} {Q : State → Prop} {g : a_G} (F : Nat) {h : List va_E} (M : d_M) (hz : d_mod h M) : ∀ (n : Nat) (v1_4 : Int32) (v2_4 : Int32) (o : Int32 × Int32), f_X4_gaps_L4 F M n v1_4 v2_4 = some o → (∀ e9 : Int32 × Int32, o = e9 → a_W p l e (a_rm 2 45) s m args below meth c Q RX4 cX4_gaps 3 g 0 0 none 34 [(1, .int e9.1)] [] h) → a_W p l e (a_rm 2 45) s m args below meth c Q RX4 cX4_gaps 3 g 0 0 none 4 [(0, .ref 55), (1, .int v1_4), (2, .int v2_4)] [] h := by
  intro n
  induction n with
  | zero => intro v1_4 v2_4 o hf; exact nomatch (show (none : Option (Int32 × Int32)) = some o from hf)
  | succ n ih =>
    intro v1_4 v2_4 o hf hX0
    rw [f_X4_gaps_L4] at hf
    refine a_iload_n (pc' := 5) 2 dX4_gaps_4 rfl rfl rfl ?_
    refine a_aload_n (pc' := 6) 0 dX4_gaps_5 rfl rfl rfl ?_
    refine g_X4_7 (pc' := 9) hz.1 rfl dX4_gaps_6 rfl ?_
    refine a_iconst (pc' := 10) (v := (2 : Int32)) dX4_gaps_9 rfl (by decide) ?_
    obtain ⟨hg, hf⟩ := f_grd_x hf
    refine b_iald (pc' := 11) hz.2.1 hg dX4_gaps_10 rfl ?_
    refine a_icmp_ge (pc' := 14) 34 dX4_gaps_11 (by decide) rfl (fun k5001 => ?_) (fun k5001 => ?_)
    · replace hf := (if_pos k5001).symm.trans hf
      cases hf
      refine a_sub [1] rfl ?_
      exact hX0 _ rfl
    · replace hf := (if_neg k5001).symm.trans hf
      refine a_iload_n (pc' := 15) 1 dX4_gaps_14 rfl rfl rfl ?_
      refine a_aload_n (pc' := 16) 0 dX4_gaps_15 rfl rfl rfl ?_
      refine a_iload_n (pc' := 17) 2 dX4_gaps_16 rfl rfl rfl ?_
      obtain ⟨x5003, e5002, hf⟩ := Option.bind_eq_some_iff.mp hf
      refine k_X4_36 (pc' := 20) (c_X4_placesOf l g F hz e5002) ⟨Nat.le_of_ble_eq_true rfl, Nat.le_of_ble_eq_true rfl⟩ hz.1 (Nat.le_of_ble_eq_true rfl) dX4_gaps_17 rfl ?_
      refine a_aload_n (pc' := 21) 0 dX4_gaps_20 rfl rfl rfl ?_
      refine a_iload_n (pc' := 22) 2 dX4_gaps_21 rfl rfl rfl ?_
      obtain ⟨x5005, e5004, hf⟩ := Option.bind_eq_some_iff.mp hf
      refine k_X4_50 (pc' := 25) (c_X4_liesIn l g F hz e5004) ⟨Nat.le_of_ble_eq_true rfl, Nat.le_of_ble_eq_true rfl⟩ hz.1 (Nat.le_of_ble_eq_true rfl) dX4_gaps_22 rfl ?_
      refine a_isub (pc' := 26) dX4_gaps_25 rfl ?_
      refine a_iadd (pc' := 27) dX4_gaps_26 rfl ?_
      refine a_istore_n (pc' := 28) (ls' := [(1, .int (v1_4 + (x5003 - x5005))), (0, .ref 55), (2, .int v2_4)]) dX4_gaps_27 rfl (by decide) rfl rfl ?_
      refine a_iinc (pc' := 31) (v := v2_4 + (1 : Int32)) (ls' := [(2, .int (v2_4 + (1 : Int32))), (1, .int (v1_4 + (x5003 - x5005))), (0, .ref 55)]) 2 dX4_gaps_28 rfl (by rfl) (by decide) rfl rfl ?_
      refine a_goto 4 dX4_gaps_31 (by decide) ?_
      refine a_sub [2, 1, 0] rfl ?_
      exact ih _ _ _ hf hX0
set_option maxHeartbeats 4000000 in
set_option maxRecDepth 100000 in
theorem c_X4_gaps (l : Launch) (g : a_G) (F : Nat) {h : List va_E} {M : d_M} (hz : d_mod h M) {out : Int32} (hf : f_X4_gaps F M = some out) : a_CT l g yX4_gaps cX4_gaps 3 (some .int) (a_rm 2 45) [.ref 55] h none none (fun r h' => r = some (.int out) ∧ h' = h) := by
  refine a_enter ⟨by decide, rfl, Nat.le_of_ble_eq_true rfl⟩ (fun p e s m args below meth c hr hin => ?_)
  unfold f_X4_gaps at hf
  refine a_sub (ls' := [(0, .ref 55)]) [0] rfl ?_
  refine a_iconst (pc' := 1) (v := (0 : Int32)) dX4_gaps_0 rfl (by decide) ?_
  refine a_istore_n (pc' := 2) (ls' := [(1, .int ((0 : Int32))), (0, .ref 55)]) dX4_gaps_1 rfl (by decide) rfl rfl ?_
  refine a_iconst (pc' := 3) (v := (0 : Int32)) dX4_gaps_2 rfl (by decide) ?_
  refine a_istore_n (pc' := 4) (ls' := [(2, .int ((0 : Int32))), (1, .int ((0 : Int32))), (0, .ref 55)]) dX4_gaps_3 rfl (by decide) rfl rfl ?_
  obtain ⟨o1, e2, hf⟩ := Option.bind_eq_some_iff.mp hf
  refine a_sub [2, 1, 0] rfl ?_
  refine l_X4_gaps_L4 F M hz F _ _ o1 e2 (fun e9 he9 => ?_)
  subst he9
  refine a_iload_n (pc' := 35) 0 dX4_gaps_34 rfl rfl rfl ?_
  cases hf
  exact a_iret hr ⟨rfl, rfl⟩ dX4_gaps_35
/-! SlateRoofModel.isDone()Z -/
set_option maxRecDepth 100000 in
def f_X4_isDone (F : Nat) (M : d_M) : Option (Int32) := f_grd ((2 : Int32)) 294 ((if ((m_z M) ((2 : Int32)).toNatClampNeg) ≤ 0 then some ((0 : Int32)) else (f_X4_top F M).bind fun x3 => f_grd ((0 : Int32)) 294 ((if x3 < ((m_z M) ((0 : Int32)).toNatClampNeg) then some ((0 : Int32)) else (f_X4_gaps F M).bind fun x6 => (if x6 = 0 then some ((1 : Int32)) else some ((0 : Int32)))))))
set_option maxHeartbeats 4000000 in
set_option maxRecDepth 100000 in
theorem c_X4_isDone (l : Launch) (g : a_G) (F : Nat) {h : List va_E} {M : d_M} (hz : d_mod h M) {out : Int32} (hf : f_X4_isDone F M = some out) : a_CT l g yX4_isDone cX4_isDone 1 (some .boolean) (a_rm 3 67) [.ref 55] h none none (fun r h' => r = some (.int out) ∧ h' = h) := by
  refine a_enter ⟨by decide, rfl, Nat.le_of_ble_eq_true rfl⟩ (fun p e s m args below meth c hr hin => ?_)
  unfold f_X4_isDone at hf
  refine a_sub (ls' := [(0, .ref 55)]) [0] rfl ?_
  refine a_aload_n (pc' := 1) 0 dX4_isDone_0 rfl rfl rfl ?_
  refine g_X4_7 (pc' := 4) hz.1 rfl dX4_isDone_1 rfl ?_
  refine a_iconst (pc' := 5) (v := (2 : Int32)) dX4_isDone_4 rfl (by decide) ?_
  obtain ⟨hg, hf⟩ := f_grd_x hf
  refine b_iald (pc' := 6) hz.2.1 hg dX4_isDone_5 rfl ?_
  refine a_if_le (pc' := 9) 33 dX4_isDone_6 (by decide) rfl (fun k1 => ?_) (fun k1 => ?_)
  · replace hf := (if_pos k1).symm.trans hf
    refine a_iconst (pc' := 34) (v := (0 : Int32)) dX4_isDone_33 rfl (by decide) ?_
    cases hf
    exact a_zret hr rfl ⟨rfl, rfl⟩ dX4_isDone_34
  · replace hf := (if_neg k1).symm.trans hf
    refine a_aload_n (pc' := 10) 0 dX4_isDone_9 rfl rfl rfl ?_
    obtain ⟨x3, e2, hf⟩ := Option.bind_eq_some_iff.mp hf
    refine k_X4_53 (pc' := 13) (c_X4_top l g F hz e2) ⟨Nat.le_of_ble_eq_true rfl, Nat.le_of_ble_eq_true rfl⟩ hz.1 (Nat.le_of_ble_eq_true rfl) dX4_isDone_10 rfl ?_
    refine a_aload_n (pc' := 14) 0 dX4_isDone_13 rfl rfl rfl ?_
    refine g_X4_7 (pc' := 17) hz.1 rfl dX4_isDone_14 rfl ?_
    refine a_iconst (pc' := 18) (v := (0 : Int32)) dX4_isDone_17 rfl (by decide) ?_
    obtain ⟨hg, hf⟩ := f_grd_x hf
    refine b_iald (pc' := 19) hz.2.1 hg dX4_isDone_18 rfl ?_
    refine a_icmp_lt (pc' := 22) 33 dX4_isDone_19 (by decide) rfl (fun k4 => ?_) (fun k4 => ?_)
    · replace hf := (if_pos k4).symm.trans hf
      refine a_iconst (pc' := 34) (v := (0 : Int32)) dX4_isDone_33 rfl (by decide) ?_
      cases hf
      exact a_zret hr rfl ⟨rfl, rfl⟩ dX4_isDone_34
    · replace hf := (if_neg k4).symm.trans hf
      refine a_aload_n (pc' := 23) 0 dX4_isDone_22 rfl rfl rfl ?_
      obtain ⟨x6, e5, hf⟩ := Option.bind_eq_some_iff.mp hf
      refine k_X4_57 (pc' := 26) (c_X4_gaps l g F hz e5) ⟨Nat.le_of_ble_eq_true rfl, Nat.le_of_ble_eq_true rfl⟩ hz.1 (Nat.le_of_ble_eq_true rfl) dX4_isDone_23 rfl ?_
      refine a_if_ne (pc' := 29) 33 dX4_isDone_26 (by decide) rfl (fun k7 => ?_) (fun k7 => ?_)
      · replace hf := (if_neg k7).symm.trans hf
        refine a_iconst (pc' := 34) (v := (0 : Int32)) dX4_isDone_33 rfl (by decide) ?_
        cases hf
        exact a_zret hr rfl ⟨rfl, rfl⟩ dX4_isDone_34
      · replace hf := (if_pos k7).symm.trans hf
        refine a_iconst (pc' := 30) (v := (1 : Int32)) dX4_isDone_29 rfl (by decide) ?_
        refine a_goto 34 dX4_isDone_30 (by decide) ?_
        cases hf
        exact a_zret hr rfl ⟨rfl, rfl⟩ dX4_isDone_34
/-! SlateRoofModel.price(I)I -/
set_option maxRecDepth 100000 in
def f_X4_price (F : Nat) (a1 : Int32) : Option (Int32) := some ((a1 * a1) / ((16 : Int32)))
set_option maxHeartbeats 4000000 in
set_option maxRecDepth 100000 in
theorem c_X4_price (l : Launch) (g : a_G) (F : Nat) {h : List va_E} {a1 : Int32} {out : Int32} (hf : f_X4_price F a1 = some out) : a_CT l g yX4_price cX4_price 1 (some .int) (a_rm 0 0) [.int a1] h none none (fun r h' => r = some (.int out) ∧ h' = h) := by
  refine a_enter ⟨by decide, rfl, Nat.le_of_ble_eq_true rfl⟩ (fun p e s m args below meth c hr hin => ?_)
  unfold f_X4_price at hf
  refine a_sub (ls' := [(0, .int a1)]) [0] rfl ?_
  refine a_iload_n (pc' := 1) 0 dX4_price_0 rfl rfl rfl ?_
  refine a_iload_n (pc' := 2) 0 dX4_price_1 rfl rfl rfl ?_
  refine a_imul (pc' := 3) dX4_price_2 rfl ?_
  refine a_bipush (pc' := 5) (v := (16 : Int32)) dX4_price_3 rfl (by decide) ?_
  refine a_idiv (pc' := 6) dX4_price_5 rfl (by decide) ?_
  cases hf
  exact a_iret hr ⟨rfl, rfl⟩ dX4_price_6
/-! SlateRoofModel.longest()I -/
set_option maxRecDepth 100000 in
def f_X4_longest (F : Nat) (M : d_M) : Option (Int32) := f_grd ((2 : Int32)) 294 ((if ((m_z M) ((2 : Int32)).toNatClampNeg) = 0 then some ((24 : Int32)) else f_grd ((2 : Int32)) 294 (f_grd ((((14 : Int32)) + ((m_z M) ((2 : Int32)).toNatClampNeg)) - ((1 : Int32))) 294 (some ((m_z M) ((((14 : Int32)) + ((m_z M) ((2 : Int32)).toNatClampNeg)) - ((1 : Int32))).toNatClampNeg)))))
set_option maxHeartbeats 4000000 in
set_option maxRecDepth 100000 in
theorem c_X4_longest (l : Launch) (g : a_G) (F : Nat) {h : List va_E} {M : d_M} (hz : d_mod h M) {out : Int32} (hf : f_X4_longest F M = some out) : a_CT l g yX4_longest cX4_longest 1 (some .int) (a_rm 0 0) [.ref 55] h none none (fun r h' => r = some (.int out) ∧ h' = h) := by
  refine a_enter ⟨by decide, rfl, Nat.le_of_ble_eq_true rfl⟩ (fun p e s m args below meth c hr hin => ?_)
  unfold f_X4_longest at hf
  refine a_sub (ls' := [(0, .ref 55)]) [0] rfl ?_
  refine a_aload_n (pc' := 1) 0 dX4_longest_0 rfl rfl rfl ?_
  refine g_X4_7 (pc' := 4) hz.1 rfl dX4_longest_1 rfl ?_
  refine a_iconst (pc' := 5) (v := (2 : Int32)) dX4_longest_4 rfl (by decide) ?_
  obtain ⟨hg, hf⟩ := f_grd_x hf
  refine b_iald (pc' := 6) hz.2.1 hg dX4_longest_5 rfl ?_
  refine a_if_ne (pc' := 9) 14 dX4_longest_6 (by decide) rfl (fun k1 => ?_) (fun k1 => ?_)
  · replace hf := (if_neg k1).symm.trans hf
    refine a_aload_n (pc' := 15) 0 dX4_longest_14 rfl rfl rfl ?_
    refine g_X4_7 (pc' := 18) hz.1 rfl dX4_longest_15 rfl ?_
    refine a_bipush (pc' := 20) (v := (14 : Int32)) dX4_longest_18 rfl (by decide) ?_
    refine a_aload_n (pc' := 21) 0 dX4_longest_20 rfl rfl rfl ?_
    refine g_X4_7 (pc' := 24) hz.1 rfl dX4_longest_21 rfl ?_
    refine a_iconst (pc' := 25) (v := (2 : Int32)) dX4_longest_24 rfl (by decide) ?_
    obtain ⟨hg, hf⟩ := f_grd_x hf
    refine b_iald (pc' := 26) hz.2.1 hg dX4_longest_25 rfl ?_
    refine a_iadd (pc' := 27) dX4_longest_26 rfl ?_
    refine a_iconst (pc' := 28) (v := (1 : Int32)) dX4_longest_27 rfl (by decide) ?_
    refine a_isub (pc' := 29) dX4_longest_28 rfl ?_
    obtain ⟨hg, hf⟩ := f_grd_x hf
    refine b_iald (pc' := 30) hz.2.1 hg dX4_longest_29 rfl ?_
    cases hf
    exact a_iret hr ⟨rfl, rfl⟩ dX4_longest_30
  · replace hf := (if_pos k1).symm.trans hf
    refine a_bipush (pc' := 11) (v := (24 : Int32)) dX4_longest_9 rfl (by decide) ?_
    refine a_goto 30 dX4_longest_11 (by decide) ?_
    cases hf
    exact a_iret hr ⟨rfl, rfl⟩ dX4_longest_30
/-! SlateRoofModel.isDry()Z -/
set_option maxRecDepth 100000 in
def f_X4_isDry (F : Nat) (M : d_M) : Option (Int32) := f_grd ((9 : Int32)) 294 ((if ((m_z M) ((9 : Int32)).toNatClampNeg) = 0 then f_grd ((8 : Int32)) 294 ((if ((m_z M) ((8 : Int32)).toNatClampNeg) = 0 then some ((1 : Int32)) else some ((0 : Int32)))) else some ((0 : Int32))))
set_option maxHeartbeats 4000000 in
set_option maxRecDepth 100000 in
theorem c_X4_isDry (l : Launch) (g : a_G) (F : Nat) {h : List va_E} {M : d_M} (hz : d_mod h M) {out : Int32} (hf : f_X4_isDry F M = some out) : a_CT l g yX4_isDry cX4_isDry 1 (some .boolean) (a_rm 0 0) [.ref 55] h none none (fun r h' => r = some (.int out) ∧ h' = h) := by
  refine a_enter ⟨by decide, rfl, Nat.le_of_ble_eq_true rfl⟩ (fun p e s m args below meth c hr hin => ?_)
  unfold f_X4_isDry at hf
  refine a_sub (ls' := [(0, .ref 55)]) [0] rfl ?_
  refine a_aload_n (pc' := 1) 0 dX4_isDry_0 rfl rfl rfl ?_
  refine g_X4_7 (pc' := 4) hz.1 rfl dX4_isDry_1 rfl ?_
  refine a_bipush (pc' := 6) (v := (9 : Int32)) dX4_isDry_4 rfl (by decide) ?_
  obtain ⟨hg, hf⟩ := f_grd_x hf
  refine b_iald (pc' := 7) hz.2.1 hg dX4_isDry_6 rfl ?_
  refine a_if_ne (pc' := 10) 24 dX4_isDry_7 (by decide) rfl (fun k1 => ?_) (fun k1 => ?_)
  · replace hf := (if_neg k1).symm.trans hf
    refine a_iconst (pc' := 25) (v := (0 : Int32)) dX4_isDry_24 rfl (by decide) ?_
    cases hf
    exact a_zret hr rfl ⟨rfl, rfl⟩ dX4_isDry_25
  · replace hf := (if_pos k1).symm.trans hf
    refine a_aload_n (pc' := 11) 0 dX4_isDry_10 rfl rfl rfl ?_
    refine g_X4_7 (pc' := 14) hz.1 rfl dX4_isDry_11 rfl ?_
    refine a_bipush (pc' := 16) (v := (8 : Int32)) dX4_isDry_14 rfl (by decide) ?_
    obtain ⟨hg, hf⟩ := f_grd_x hf
    refine b_iald (pc' := 17) hz.2.1 hg dX4_isDry_16 rfl ?_
    refine a_if_ne (pc' := 20) 24 dX4_isDry_17 (by decide) rfl (fun k2 => ?_) (fun k2 => ?_)
    · replace hf := (if_neg k2).symm.trans hf
      refine a_iconst (pc' := 25) (v := (0 : Int32)) dX4_isDry_24 rfl (by decide) ?_
      cases hf
      exact a_zret hr rfl ⟨rfl, rfl⟩ dX4_isDry_25
    · replace hf := (if_pos k2).symm.trans hf
      refine a_iconst (pc' := 21) (v := (1 : Int32)) dX4_isDry_20 rfl (by decide) ?_
      refine a_goto 25 dX4_isDry_21 (by decide) ?_
      cases hf
      exact a_zret hr rfl ⟨rfl, rfl⟩ dX4_isDry_25
/-! SlateRoofModel.begin(II)I -/
set_option maxRecDepth 100000 in
def f_X4_begin (F : Nat) (M : d_M) (a1 : Int32) (a2 : Int32) : Option (Int32 × d_M) := f_let (ms_thrown M ((0 : Int32))) fun M2 => (f_X4_within F a1 ((20 : Int32)) ((400 : Int32))).bind fun x4 => (if x4 = 0 then (f_X4_fails F M2 ((1 : Int32))).bind fun x7 => f_let x7.2 fun M9 => some ((x7.1, M9)) else (f_X4_within F a2 ((2 : Int32)) ((30 : Int32))).bind fun x11 => (if x11 = 0 then (f_X4_fails F M2 ((1 : Int32))).bind fun x28 => f_let x28.2 fun M30 => some ((x28.1, M30)) else (f_X4_save F M2).bind fun x14 => f_let x14 fun M16 => (f_X4_onRoof F M16).bind fun x18 => f_grd ((12 : Int32)) 294 (f_grd ((12 : Int32)) 294 (f_let (ms_z M16 (upd (m_z M16) ((12 : Int32)).toNatClampNeg (((m_z M16) ((12 : Int32)).toNatClampNeg) + x18))) fun M20 => f_grd ((2 : Int32)) 294 (f_let (ms_z M20 (upd (m_z M20) ((2 : Int32)).toNatClampNeg ((0 : Int32)))) fun M22 => f_grd ((0 : Int32)) 294 (f_let (ms_z M22 (upd (m_z M22) ((0 : Int32)).toNatClampNeg a1)) fun M24 => f_grd ((1 : Int32)) 294 (f_let (ms_z M24 (upd (m_z M24) ((1 : Int32)).toNatClampNeg a2)) fun M26 => some ((x18, M26)))))))))
set_option maxHeartbeats 4000000 in
set_option maxRecDepth 100000 in
theorem c_X4_begin (l : Launch) (g : a_G) (F : Nat) {h : List va_E} {M : d_M} {a1 : Int32} {a2 : Int32} (hz : d_mod h M) {out : Int32 × d_M} (hf : f_X4_begin F M a1 a2 = some out) : a_CT l g yX4_begin cX4_begin 4 (some .int) (a_rm 3 67) [.ref 55, .int a1, .int a2] h none none (fun r h' => r = some (.int out.1) ∧ d_mod h' out.2 ∧ d_frm 55 6 h h') := by
  refine a_enter ⟨by decide, rfl, Nat.le_of_ble_eq_true rfl⟩ (fun p e s m args below meth c hr hin => ?_)
  unfold f_X4_begin at hf
  have hfr : d_frm 55 6 h h := d_frm.rf
  refine a_sub (ls' := [(0, .ref 55), (1, .int a1), (2, .int a2)]) [0, 1, 2] rfl ?_
  refine a_aload_n (pc' := 1) 0 dX4_begin_0 rfl rfl rfl ?_
  refine a_iconst (pc' := 2) (v := (0 : Int32)) dX4_begin_1 rfl (by decide) ?_
  refine pt_X4_25 (pc' := 5) hz dX4_begin_2 rfl (fun h1 hz1 hfr1 => ?_)
  obtain ⟨M2, hf, hz⟩ := f_let_x (P := fun w => d_mod h1 w) hf hz1
  replace hfr := d_frm.tr hfr hfr1 (by omega)
  refine a_iload_n (pc' := 6) 1 dX4_begin_5 rfl rfl rfl ?_
  refine a_bipush (pc' := 8) (v := (20 : Int32)) dX4_begin_6 rfl (by decide) ?_
  refine a_sipush (pc' := 11) (v := (400 : Int32)) dX4_begin_8 rfl (by decide) ?_
  obtain ⟨x4, e3, hf⟩ := Option.bind_eq_some_iff.mp hf
  refine k_X4_29 (pc' := 14) (c_X4_within l g F e3) ⟨Nat.le_of_ble_eq_true rfl, Nat.le_of_ble_eq_true rfl⟩ (Nat.le_of_ble_eq_true rfl) dX4_begin_11 rfl ?_
  refine a_if_eq (pc' := 17) 27 dX4_begin_14 (by decide) rfl (fun k5 => ?_) (fun k5 => ?_)
  · replace hf := (if_pos k5).symm.trans hf
    refine a_aload_n (pc' := 28) 0 dX4_begin_27 rfl rfl rfl ?_
    refine a_iconst (pc' := 29) (v := (1 : Int32)) dX4_begin_28 rfl (by decide) ?_
    obtain ⟨x7, e6, hf⟩ := Option.bind_eq_some_iff.mp hf
    refine k_X4_60 (pc' := 32) (c_X4_fails l g F hz e6) ⟨Nat.le_of_ble_eq_true rfl, Nat.le_of_ble_eq_true rfl⟩ hz.1 (Nat.le_of_ble_eq_true rfl) dX4_begin_29 rfl (fun h8 hq => ?_)
    obtain ⟨hz1, hfr1⟩ := hq
    obtain ⟨M9, hf, hz⟩ := f_let_x (P := fun w => d_mod h8 w) hf hz1
    replace hfr := d_frm.tr hfr hfr1 (by omega)
    cases hf
    exact a_iret hr ⟨rfl, hz, hfr⟩ dX4_begin_32
  · replace hf := (if_neg k5).symm.trans hf
    refine a_iload_n (pc' := 18) 2 dX4_begin_17 rfl rfl rfl ?_
    refine a_iconst (pc' := 19) (v := (2 : Int32)) dX4_begin_18 rfl (by decide) ?_
    refine a_bipush (pc' := 21) (v := (30 : Int32)) dX4_begin_19 rfl (by decide) ?_
    obtain ⟨x11, e10, hf⟩ := Option.bind_eq_some_iff.mp hf
    refine k_X4_29 (pc' := 24) (c_X4_within l g F e10) ⟨Nat.le_of_ble_eq_true rfl, Nat.le_of_ble_eq_true rfl⟩ (Nat.le_of_ble_eq_true rfl) dX4_begin_21 rfl ?_
    refine a_if_ne (pc' := 27) 33 dX4_begin_24 (by decide) rfl (fun k12 => ?_) (fun k12 => ?_)
    · replace hf := (if_neg k12).symm.trans hf
      refine a_aload_n (pc' := 34) 0 dX4_begin_33 rfl rfl rfl ?_
      obtain ⟨x14, e13, hf⟩ := Option.bind_eq_some_iff.mp hf
      refine k_X4_63 (pc' := 37) (c_X4_save l g F hz e13) ⟨Nat.le_of_ble_eq_true rfl, Nat.le_of_ble_eq_true rfl⟩ hz.1 (Nat.le_of_ble_eq_true rfl) dX4_begin_34 rfl (fun h15 hq => ?_)
      obtain ⟨hz1, hfr1⟩ := hq
      obtain ⟨M16, hf, hz⟩ := f_let_x (P := fun w => d_mod h15 w) hf hz1
      replace hfr := d_frm.tr hfr hfr1 (by omega)
      refine a_aload_n (pc' := 38) 0 dX4_begin_37 rfl rfl rfl ?_
      obtain ⟨x18, e17, hf⟩ := Option.bind_eq_some_iff.mp hf
      refine k_X4_66 (pc' := 41) (c_X4_onRoof l g F hz e17) ⟨Nat.le_of_ble_eq_true rfl, Nat.le_of_ble_eq_true rfl⟩ hz.1 (Nat.le_of_ble_eq_true rfl) dX4_begin_38 rfl ?_
      refine a_istore_n (pc' := 42) (ls' := [(3, .int x18), (0, .ref 55), (1, .int a1), (2, .int a2)]) dX4_begin_41 rfl (by decide) rfl rfl ?_
      refine a_aload_n (pc' := 43) 1 dX4_begin_42 rfl rfl rfl ?_
      refine g_X4_7 (pc' := 46) hz.1 rfl dX4_begin_43 rfl ?_
      refine a_bipush (pc' := 48) (v := (12 : Int32)) dX4_begin_46 rfl (by decide) ?_
      refine a_dup2 (pc' := 49) dX4_begin_48 rfl rfl rfl ?_
      obtain ⟨hg, hf⟩ := f_grd_x hf
      refine b_iald (pc' := 50) hz.2.1 hg dX4_begin_49 rfl ?_
      refine a_iload_n (pc' := 51) 0 dX4_begin_50 rfl rfl rfl ?_
      refine a_iadd (pc' := 52) dX4_begin_51 rfl ?_
      obtain ⟨hg, hf⟩ := f_grd_x hf
      refine b_iast (pc' := 53) hz.2.1 hg dX4_begin_52 rfl (fun h19 hz1 hfr1 => ?_)
      obtain ⟨hz1, hfr1⟩ := d_ma_z hz hz1 hfr1
      obtain ⟨M20, hf, hz⟩ := f_let_x (P := fun w => d_mod h19 w) hf hz1
      replace hfr := d_frm.tr hfr hfr1 (by omega)
      refine a_aload_n (pc' := 54) 1 dX4_begin_53 rfl rfl rfl ?_
      refine g_X4_7 (pc' := 57) hz.1 rfl dX4_begin_54 rfl ?_
      refine a_iconst (pc' := 58) (v := (2 : Int32)) dX4_begin_57 rfl (by decide) ?_
      refine a_iconst (pc' := 59) (v := (0 : Int32)) dX4_begin_58 rfl (by decide) ?_
      obtain ⟨hg, hf⟩ := f_grd_x hf
      refine b_iast (pc' := 60) hz.2.1 hg dX4_begin_59 rfl (fun h21 hz1 hfr1 => ?_)
      obtain ⟨hz1, hfr1⟩ := d_ma_z hz hz1 hfr1
      obtain ⟨M22, hf, hz⟩ := f_let_x (P := fun w => d_mod h21 w) hf hz1
      replace hfr := d_frm.tr hfr hfr1 (by omega)
      refine a_aload_n (pc' := 61) 1 dX4_begin_60 rfl rfl rfl ?_
      refine g_X4_7 (pc' := 64) hz.1 rfl dX4_begin_61 rfl ?_
      refine a_iconst (pc' := 65) (v := (0 : Int32)) dX4_begin_64 rfl (by decide) ?_
      refine a_iload_n (pc' := 66) 2 dX4_begin_65 rfl rfl rfl ?_
      obtain ⟨hg, hf⟩ := f_grd_x hf
      refine b_iast (pc' := 67) hz.2.1 hg dX4_begin_66 rfl (fun h23 hz1 hfr1 => ?_)
      obtain ⟨hz1, hfr1⟩ := d_ma_z hz hz1 hfr1
      obtain ⟨M24, hf, hz⟩ := f_let_x (P := fun w => d_mod h23 w) hf hz1
      replace hfr := d_frm.tr hfr hfr1 (by omega)
      refine a_aload_n (pc' := 68) 1 dX4_begin_67 rfl rfl rfl ?_
      refine g_X4_7 (pc' := 71) hz.1 rfl dX4_begin_68 rfl ?_
      refine a_iconst (pc' := 72) (v := (1 : Int32)) dX4_begin_71 rfl (by decide) ?_
      refine a_iload_n (pc' := 73) 3 dX4_begin_72 rfl rfl rfl ?_
      obtain ⟨hg, hf⟩ := f_grd_x hf
      refine b_iast (pc' := 74) hz.2.1 hg dX4_begin_73 rfl (fun h25 hz1 hfr1 => ?_)
      obtain ⟨hz1, hfr1⟩ := d_ma_z hz hz1 hfr1
      obtain ⟨M26, hf, hz⟩ := f_let_x (P := fun w => d_mod h25 w) hf hz1
      replace hfr := d_frm.tr hfr hfr1 (by omega)
      refine a_iload_n (pc' := 75) 0 dX4_begin_74 rfl rfl rfl ?_
      cases hf
      exact a_iret hr ⟨rfl, hz, hfr⟩ dX4_begin_75
    · replace hf := (if_pos k12).symm.trans hf
      refine a_aload_n (pc' := 28) 0 dX4_begin_27 rfl rfl rfl ?_
      refine a_iconst (pc' := 29) (v := (1 : Int32)) dX4_begin_28 rfl (by decide) ?_
      obtain ⟨x28, e27, hf⟩ := Option.bind_eq_some_iff.mp hf
      refine k_X4_60 (pc' := 32) (c_X4_fails l g F hz e27) ⟨Nat.le_of_ble_eq_true rfl, Nat.le_of_ble_eq_true rfl⟩ hz.1 (Nat.le_of_ble_eq_true rfl) dX4_begin_29 rfl (fun h29 hq => ?_)
      obtain ⟨hz1, hfr1⟩ := hq
      obtain ⟨M30, hf, hz⟩ := f_let_x (P := fun w => d_mod h29 w) hf hz1
      replace hfr := d_frm.tr hfr hfr1 (by omega)
      cases hf
      exact a_iret hr ⟨rfl, hz, hfr⟩ dX4_begin_32
/-! SlateRoofModel.set(II)I -/
set_option maxRecDepth 100000 in
def f_X4_set (F : Nat) (M : d_M) (a1 : Int32) (a2 : Int32) : Option (Int32 × d_M) := f_let (ms_thrown M ((0 : Int32))) fun M2 => (f_X4_within F a1 ((0 : Int32)) ((2 : Int32))).bind fun x4 => (if x4 = 0 then (f_X4_fails F M2 ((1 : Int32))).bind fun x48 => f_let x48.2 fun M50 => some ((x48.1, M50)) else (if a1 = 0 then (f_X4_within F a2 ((2 : Int32)) ((6 : Int32))).bind fun x35 => (if x35 = 0 then (f_X4_fails F M2 ((2 : Int32))).bind fun x44 => f_let x44.2 fun M46 => some ((x44.1, M46)) else (f_X4_save F M2).bind fun x38 => f_let x38 fun M40 => f_grd (((3 : Int32)) + a1) 294 (f_grd (((3 : Int32)) + a1) 294 (f_let (ms_z M40 (upd (m_z M40) (((3 : Int32)) + a1).toNatClampNeg a2)) fun M42 => some (((m_z M40) (((3 : Int32)) + a1).toNatClampNeg, M42))))) else (if a1 = ((1 : Int32)) then (f_X4_within F a2 ((1 : Int32)) ((60 : Int32))).bind fun x22 => (if x22 = 0 then (f_X4_fails F M2 ((2 : Int32))).bind fun x31 => f_let x31.2 fun M33 => some ((x31.1, M33)) else (f_X4_save F M2).bind fun x25 => f_let x25 fun M27 => f_grd (((3 : Int32)) + a1) 294 (f_grd (((3 : Int32)) + a1) 294 (f_let (ms_z M27 (upd (m_z M27) (((3 : Int32)) + a1).toNatClampNeg a2)) fun M29 => some (((m_z M27) (((3 : Int32)) + a1).toNatClampNeg, M29))))) else (f_X4_within F a2 ((1 : Int32)) ((5 : Int32))).bind fun x9 => (if x9 = 0 then (f_X4_fails F M2 ((2 : Int32))).bind fun x18 => f_let x18.2 fun M20 => some ((x18.1, M20)) else (f_X4_save F M2).bind fun x12 => f_let x12 fun M14 => f_grd (((3 : Int32)) + a1) 294 (f_grd (((3 : Int32)) + a1) 294 (f_let (ms_z M14 (upd (m_z M14) (((3 : Int32)) + a1).toNatClampNeg a2)) fun M16 => some (((m_z M14) (((3 : Int32)) + a1).toNatClampNeg, M16))))))))
set_option maxHeartbeats 4000000 in
set_option maxRecDepth 100000 in
theorem c_X4_set (l : Launch) (g : a_G) (F : Nat) {h : List va_E} {M : d_M} {a1 : Int32} {a2 : Int32} (hz : d_mod h M) {out : Int32 × d_M} (hf : f_X4_set F M a1 a2 = some out) : a_CT l g yX4_set cX4_set 5 (some .int) (a_rm 1 22) [.ref 55, .int a1, .int a2] h none none (fun r h' => r = some (.int out.1) ∧ d_mod h' out.2 ∧ d_frm 55 6 h h') := by
  refine a_enter ⟨by decide, rfl, Nat.le_of_ble_eq_true rfl⟩ (fun p e s m args below meth c hr hin => ?_)
  unfold f_X4_set at hf
  have hfr : d_frm 55 6 h h := d_frm.rf
  refine a_sub (ls' := [(0, .ref 55), (1, .int a1), (2, .int a2)]) [0, 1, 2] rfl ?_
  refine a_aload_n (pc' := 1) 0 dX4_set_0 rfl rfl rfl ?_
  refine a_iconst (pc' := 2) (v := (0 : Int32)) dX4_set_1 rfl (by decide) ?_
  refine pt_X4_25 (pc' := 5) hz dX4_set_2 rfl (fun h1 hz1 hfr1 => ?_)
  obtain ⟨M2, hf, hz⟩ := f_let_x (P := fun w => d_mod h1 w) hf hz1
  replace hfr := d_frm.tr hfr hfr1 (by omega)
  refine a_iload_n (pc' := 6) 1 dX4_set_5 rfl rfl rfl ?_
  refine a_iconst (pc' := 7) (v := (0 : Int32)) dX4_set_6 rfl (by decide) ?_
  refine a_iconst (pc' := 8) (v := (2 : Int32)) dX4_set_7 rfl (by decide) ?_
  obtain ⟨x4, e3, hf⟩ := Option.bind_eq_some_iff.mp hf
  refine k_X4_29 (pc' := 11) (c_X4_within l g F e3) ⟨Nat.le_of_ble_eq_true rfl, Nat.le_of_ble_eq_true rfl⟩ (Nat.le_of_ble_eq_true rfl) dX4_set_8 rfl ?_
  refine a_if_ne (pc' := 14) 20 dX4_set_11 (by decide) rfl (fun k5 => ?_) (fun k5 => ?_)
  · replace hf := (if_neg k5).symm.trans hf
    refine a_iload_n (pc' := 21) 1 dX4_set_20 rfl rfl rfl ?_
    refine a_if_ne (pc' := 24) 34 dX4_set_21 (by decide) rfl (fun k6 => ?_) (fun k6 => ?_)
    · replace hf := (if_neg k6).symm.trans hf
      refine a_iload_n (pc' := 35) 1 dX4_set_34 rfl rfl rfl ?_
      refine a_iconst (pc' := 36) (v := (1 : Int32)) dX4_set_35 rfl (by decide) ?_
      refine a_icmp_ne (pc' := 39) 49 dX4_set_36 (by decide) rfl (fun k7 => ?_) (fun k7 => ?_)
      · replace hf := (if_neg k7).symm.trans hf
        refine a_iload_n (pc' := 50) 2 dX4_set_49 rfl rfl rfl ?_
        refine a_iconst (pc' := 51) (v := (1 : Int32)) dX4_set_50 rfl (by decide) ?_
        refine a_iconst (pc' := 52) (v := (5 : Int32)) dX4_set_51 rfl (by decide) ?_
        obtain ⟨x9, e8, hf⟩ := Option.bind_eq_some_iff.mp hf
        refine k_X4_29 (pc' := 55) (c_X4_within l g F e8) ⟨Nat.le_of_ble_eq_true rfl, Nat.le_of_ble_eq_true rfl⟩ (Nat.le_of_ble_eq_true rfl) dX4_set_52 rfl ?_
        refine a_istore_n (pc' := 56) (ls' := [(3, .int x9), (0, .ref 55), (1, .int a1), (2, .int a2)]) dX4_set_55 rfl (by decide) rfl rfl ?_
        refine a_iload_n (pc' := 57) 0 dX4_set_56 rfl rfl rfl ?_
        refine a_if_ne (pc' := 60) 66 dX4_set_57 (by decide) rfl (fun k10 => ?_) (fun k10 => ?_)
        · replace hf := (if_neg k10).symm.trans hf
          refine a_aload_n (pc' := 67) 1 dX4_set_66 rfl rfl rfl ?_
          obtain ⟨x12, e11, hf⟩ := Option.bind_eq_some_iff.mp hf
          refine k_X4_63 (pc' := 70) (c_X4_save l g F hz e11) ⟨Nat.le_of_ble_eq_true rfl, Nat.le_of_ble_eq_true rfl⟩ hz.1 (Nat.le_of_ble_eq_true rfl) dX4_set_67 rfl (fun h13 hq => ?_)
          obtain ⟨hz1, hfr1⟩ := hq
          obtain ⟨M14, hf, hz⟩ := f_let_x (P := fun w => d_mod h13 w) hf hz1
          replace hfr := d_frm.tr hfr hfr1 (by omega)
          refine a_aload_n (pc' := 71) 1 dX4_set_70 rfl rfl rfl ?_
          refine g_X4_7 (pc' := 74) hz.1 rfl dX4_set_71 rfl ?_
          refine a_iconst (pc' := 75) (v := (3 : Int32)) dX4_set_74 rfl (by decide) ?_
          refine a_iload_n (pc' := 76) 2 dX4_set_75 rfl rfl rfl ?_
          refine a_iadd (pc' := 77) dX4_set_76 rfl ?_
          obtain ⟨hg, hf⟩ := f_grd_x hf
          refine b_iald (pc' := 78) hz.2.1 hg dX4_set_77 rfl ?_
          refine a_istore (pc' := 80) (ls' := [(4, .int ((m_z M14) (((3 : Int32)) + a1).toNatClampNeg)), (3, .int x9), (0, .ref 55), (1, .int a1), (2, .int a2)]) dX4_set_78 (by decide) rfl rfl ?_
          refine a_aload_n (pc' := 81) 2 dX4_set_80 rfl rfl rfl ?_
          refine g_X4_7 (pc' := 84) hz.1 rfl dX4_set_81 rfl ?_
          refine a_iconst (pc' := 85) (v := (3 : Int32)) dX4_set_84 rfl (by decide) ?_
          refine a_iload_n (pc' := 86) 3 dX4_set_85 rfl rfl rfl ?_
          refine a_iadd (pc' := 87) dX4_set_86 rfl ?_
          refine a_iload_n (pc' := 88) 4 dX4_set_87 rfl rfl rfl ?_
          obtain ⟨hg, hf⟩ := f_grd_x hf
          refine b_iast (pc' := 89) hz.2.1 hg dX4_set_88 rfl (fun h15 hz1 hfr1 => ?_)
          obtain ⟨hz1, hfr1⟩ := d_ma_z hz hz1 hfr1
          obtain ⟨M16, hf, hz⟩ := f_let_x (P := fun w => d_mod h15 w) hf hz1
          replace hfr := d_frm.tr hfr hfr1 (by omega)
          refine a_iload (pc' := 91) 0 dX4_set_89 rfl rfl ?_
          cases hf
          exact a_iret hr ⟨rfl, hz, hfr⟩ dX4_set_91
        · replace hf := (if_pos k10).symm.trans hf
          refine a_aload_n (pc' := 61) 1 dX4_set_60 rfl rfl rfl ?_
          refine a_iconst (pc' := 62) (v := (2 : Int32)) dX4_set_61 rfl (by decide) ?_
          obtain ⟨x18, e17, hf⟩ := Option.bind_eq_some_iff.mp hf
          refine k_X4_60 (pc' := 65) (c_X4_fails l g F hz e17) ⟨Nat.le_of_ble_eq_true rfl, Nat.le_of_ble_eq_true rfl⟩ hz.1 (Nat.le_of_ble_eq_true rfl) dX4_set_62 rfl (fun h19 hq => ?_)
          obtain ⟨hz1, hfr1⟩ := hq
          obtain ⟨M20, hf, hz⟩ := f_let_x (P := fun w => d_mod h19 w) hf hz1
          replace hfr := d_frm.tr hfr hfr1 (by omega)
          cases hf
          exact a_iret hr ⟨rfl, hz, hfr⟩ dX4_set_65
      · replace hf := (if_pos k7).symm.trans hf
        refine a_iload_n (pc' := 40) 2 dX4_set_39 rfl rfl rfl ?_
        refine a_iconst (pc' := 41) (v := (1 : Int32)) dX4_set_40 rfl (by decide) ?_
        refine a_bipush (pc' := 43) (v := (60 : Int32)) dX4_set_41 rfl (by decide) ?_
        obtain ⟨x22, e21, hf⟩ := Option.bind_eq_some_iff.mp hf
        refine k_X4_29 (pc' := 46) (c_X4_within l g F e21) ⟨Nat.le_of_ble_eq_true rfl, Nat.le_of_ble_eq_true rfl⟩ (Nat.le_of_ble_eq_true rfl) dX4_set_43 rfl ?_
        refine a_goto 55 dX4_set_46 (by decide) ?_
        refine a_istore_n (pc' := 56) (ls' := [(3, .int x22), (0, .ref 55), (1, .int a1), (2, .int a2)]) dX4_set_55 rfl (by decide) rfl rfl ?_
        refine a_iload_n (pc' := 57) 0 dX4_set_56 rfl rfl rfl ?_
        refine a_if_ne (pc' := 60) 66 dX4_set_57 (by decide) rfl (fun k23 => ?_) (fun k23 => ?_)
        · replace hf := (if_neg k23).symm.trans hf
          refine a_aload_n (pc' := 67) 1 dX4_set_66 rfl rfl rfl ?_
          obtain ⟨x25, e24, hf⟩ := Option.bind_eq_some_iff.mp hf
          refine k_X4_63 (pc' := 70) (c_X4_save l g F hz e24) ⟨Nat.le_of_ble_eq_true rfl, Nat.le_of_ble_eq_true rfl⟩ hz.1 (Nat.le_of_ble_eq_true rfl) dX4_set_67 rfl (fun h26 hq => ?_)
          obtain ⟨hz1, hfr1⟩ := hq
          obtain ⟨M27, hf, hz⟩ := f_let_x (P := fun w => d_mod h26 w) hf hz1
          replace hfr := d_frm.tr hfr hfr1 (by omega)
          refine a_aload_n (pc' := 71) 1 dX4_set_70 rfl rfl rfl ?_
          refine g_X4_7 (pc' := 74) hz.1 rfl dX4_set_71 rfl ?_
          refine a_iconst (pc' := 75) (v := (3 : Int32)) dX4_set_74 rfl (by decide) ?_
          refine a_iload_n (pc' := 76) 2 dX4_set_75 rfl rfl rfl ?_
          refine a_iadd (pc' := 77) dX4_set_76 rfl ?_
          obtain ⟨hg, hf⟩ := f_grd_x hf
          refine b_iald (pc' := 78) hz.2.1 hg dX4_set_77 rfl ?_
          refine a_istore (pc' := 80) (ls' := [(4, .int ((m_z M27) (((3 : Int32)) + a1).toNatClampNeg)), (3, .int x22), (0, .ref 55), (1, .int a1), (2, .int a2)]) dX4_set_78 (by decide) rfl rfl ?_
          refine a_aload_n (pc' := 81) 2 dX4_set_80 rfl rfl rfl ?_
          refine g_X4_7 (pc' := 84) hz.1 rfl dX4_set_81 rfl ?_
          refine a_iconst (pc' := 85) (v := (3 : Int32)) dX4_set_84 rfl (by decide) ?_
          refine a_iload_n (pc' := 86) 3 dX4_set_85 rfl rfl rfl ?_
          refine a_iadd (pc' := 87) dX4_set_86 rfl ?_
          refine a_iload_n (pc' := 88) 4 dX4_set_87 rfl rfl rfl ?_
          obtain ⟨hg, hf⟩ := f_grd_x hf
          refine b_iast (pc' := 89) hz.2.1 hg dX4_set_88 rfl (fun h28 hz1 hfr1 => ?_)
          obtain ⟨hz1, hfr1⟩ := d_ma_z hz hz1 hfr1
          obtain ⟨M29, hf, hz⟩ := f_let_x (P := fun w => d_mod h28 w) hf hz1
          replace hfr := d_frm.tr hfr hfr1 (by omega)
          refine a_iload (pc' := 91) 0 dX4_set_89 rfl rfl ?_
          cases hf
          exact a_iret hr ⟨rfl, hz, hfr⟩ dX4_set_91
        · replace hf := (if_pos k23).symm.trans hf
          refine a_aload_n (pc' := 61) 1 dX4_set_60 rfl rfl rfl ?_
          refine a_iconst (pc' := 62) (v := (2 : Int32)) dX4_set_61 rfl (by decide) ?_
          obtain ⟨x31, e30, hf⟩ := Option.bind_eq_some_iff.mp hf
          refine k_X4_60 (pc' := 65) (c_X4_fails l g F hz e30) ⟨Nat.le_of_ble_eq_true rfl, Nat.le_of_ble_eq_true rfl⟩ hz.1 (Nat.le_of_ble_eq_true rfl) dX4_set_62 rfl (fun h32 hq => ?_)
          obtain ⟨hz1, hfr1⟩ := hq
          obtain ⟨M33, hf, hz⟩ := f_let_x (P := fun w => d_mod h32 w) hf hz1
          replace hfr := d_frm.tr hfr hfr1 (by omega)
          cases hf
          exact a_iret hr ⟨rfl, hz, hfr⟩ dX4_set_65
    · replace hf := (if_pos k6).symm.trans hf
      refine a_iload_n (pc' := 25) 2 dX4_set_24 rfl rfl rfl ?_
      refine a_iconst (pc' := 26) (v := (2 : Int32)) dX4_set_25 rfl (by decide) ?_
      refine a_bipush (pc' := 28) (v := (6 : Int32)) dX4_set_26 rfl (by decide) ?_
      obtain ⟨x35, e34, hf⟩ := Option.bind_eq_some_iff.mp hf
      refine k_X4_29 (pc' := 31) (c_X4_within l g F e34) ⟨Nat.le_of_ble_eq_true rfl, Nat.le_of_ble_eq_true rfl⟩ (Nat.le_of_ble_eq_true rfl) dX4_set_28 rfl ?_
      refine a_goto 55 dX4_set_31 (by decide) ?_
      refine a_istore_n (pc' := 56) (ls' := [(3, .int x35), (0, .ref 55), (1, .int a1), (2, .int a2)]) dX4_set_55 rfl (by decide) rfl rfl ?_
      refine a_iload_n (pc' := 57) 0 dX4_set_56 rfl rfl rfl ?_
      refine a_if_ne (pc' := 60) 66 dX4_set_57 (by decide) rfl (fun k36 => ?_) (fun k36 => ?_)
      · replace hf := (if_neg k36).symm.trans hf
        refine a_aload_n (pc' := 67) 1 dX4_set_66 rfl rfl rfl ?_
        obtain ⟨x38, e37, hf⟩ := Option.bind_eq_some_iff.mp hf
        refine k_X4_63 (pc' := 70) (c_X4_save l g F hz e37) ⟨Nat.le_of_ble_eq_true rfl, Nat.le_of_ble_eq_true rfl⟩ hz.1 (Nat.le_of_ble_eq_true rfl) dX4_set_67 rfl (fun h39 hq => ?_)
        obtain ⟨hz1, hfr1⟩ := hq
        obtain ⟨M40, hf, hz⟩ := f_let_x (P := fun w => d_mod h39 w) hf hz1
        replace hfr := d_frm.tr hfr hfr1 (by omega)
        refine a_aload_n (pc' := 71) 1 dX4_set_70 rfl rfl rfl ?_
        refine g_X4_7 (pc' := 74) hz.1 rfl dX4_set_71 rfl ?_
        refine a_iconst (pc' := 75) (v := (3 : Int32)) dX4_set_74 rfl (by decide) ?_
        refine a_iload_n (pc' := 76) 2 dX4_set_75 rfl rfl rfl ?_
        refine a_iadd (pc' := 77) dX4_set_76 rfl ?_
        obtain ⟨hg, hf⟩ := f_grd_x hf
        refine b_iald (pc' := 78) hz.2.1 hg dX4_set_77 rfl ?_
        refine a_istore (pc' := 80) (ls' := [(4, .int ((m_z M40) (((3 : Int32)) + a1).toNatClampNeg)), (3, .int x35), (0, .ref 55), (1, .int a1), (2, .int a2)]) dX4_set_78 (by decide) rfl rfl ?_
        refine a_aload_n (pc' := 81) 2 dX4_set_80 rfl rfl rfl ?_
        refine g_X4_7 (pc' := 84) hz.1 rfl dX4_set_81 rfl ?_
        refine a_iconst (pc' := 85) (v := (3 : Int32)) dX4_set_84 rfl (by decide) ?_
        refine a_iload_n (pc' := 86) 3 dX4_set_85 rfl rfl rfl ?_
        refine a_iadd (pc' := 87) dX4_set_86 rfl ?_
        refine a_iload_n (pc' := 88) 4 dX4_set_87 rfl rfl rfl ?_
        obtain ⟨hg, hf⟩ := f_grd_x hf
        refine b_iast (pc' := 89) hz.2.1 hg dX4_set_88 rfl (fun h41 hz1 hfr1 => ?_)
        obtain ⟨hz1, hfr1⟩ := d_ma_z hz hz1 hfr1
        obtain ⟨M42, hf, hz⟩ := f_let_x (P := fun w => d_mod h41 w) hf hz1
        replace hfr := d_frm.tr hfr hfr1 (by omega)
        refine a_iload (pc' := 91) 0 dX4_set_89 rfl rfl ?_
        cases hf
        exact a_iret hr ⟨rfl, hz, hfr⟩ dX4_set_91
      · replace hf := (if_pos k36).symm.trans hf
        refine a_aload_n (pc' := 61) 1 dX4_set_60 rfl rfl rfl ?_
        refine a_iconst (pc' := 62) (v := (2 : Int32)) dX4_set_61 rfl (by decide) ?_
        obtain ⟨x44, e43, hf⟩ := Option.bind_eq_some_iff.mp hf
        refine k_X4_60 (pc' := 65) (c_X4_fails l g F hz e43) ⟨Nat.le_of_ble_eq_true rfl, Nat.le_of_ble_eq_true rfl⟩ hz.1 (Nat.le_of_ble_eq_true rfl) dX4_set_62 rfl (fun h45 hq => ?_)
        obtain ⟨hz1, hfr1⟩ := hq
        obtain ⟨M46, hf, hz⟩ := f_let_x (P := fun w => d_mod h45 w) hf hz1
        replace hfr := d_frm.tr hfr hfr1 (by omega)
        cases hf
        exact a_iret hr ⟨rfl, hz, hfr⟩ dX4_set_65
  · replace hf := (if_pos k5).symm.trans hf
    refine a_aload_n (pc' := 15) 0 dX4_set_14 rfl rfl rfl ?_
    refine a_iconst (pc' := 16) (v := (1 : Int32)) dX4_set_15 rfl (by decide) ?_
    obtain ⟨x48, e47, hf⟩ := Option.bind_eq_some_iff.mp hf
    refine k_X4_60 (pc' := 19) (c_X4_fails l g F hz e47) ⟨Nat.le_of_ble_eq_true rfl, Nat.le_of_ble_eq_true rfl⟩ hz.1 (Nat.le_of_ble_eq_true rfl) dX4_set_16 rfl (fun h49 hq => ?_)
    obtain ⟨hz1, hfr1⟩ := hq
    obtain ⟨M50, hf, hz⟩ := f_let_x (P := fun w => d_mod h49 w) hf hz1
    replace hfr := d_frm.tr hfr hfr1 (by omega)
    cases hf
    exact a_iret hr ⟨rfl, hz, hfr⟩ dX4_set_19
/-! SlateRoofModel.sum(I)I -/
set_option maxRecDepth 100000 in
def f_X4_sum_L5 (F : Nat) (M : d_M) (a1 : Int32) : Nat → Int32 → Int32 → Option (Int32 × Int32)
  | 0, _, _ => none
  | n + 1, v2_5, v3_5 => (if ((24 : Int32)) < v3_5 then some (v2_5, v3_5) else f_grd (a1 + v3_5) 294 (f_X4_sum_L5 F M a1 n (v2_5 + ((m_z M) (a1 + v3_5).toNatClampNeg)) (v3_5 + (1 : Int32))))
set_option maxRecDepth 100000 in
def f_X4_sum (F : Nat) (M : d_M) (a1 : Int32) : Option (Int32) := (f_X4_sum_L5 F M a1 F ((0 : Int32)) ((8 : Int32))).bind fun o1 => some (o1.1)
set_option maxHeartbeats 4000000 in
set_option maxRecDepth 100000 in
theorem l_X4_sum_L5 {p : Program} {l : Launch} {e : Env} {s : State} {m : MethodId} {args : Array Value} {below : List Frame} {meth : Method} {c : Code} {Q : State → Prop} {g : a_G} (F : Nat) {h : List va_E} (M : d_M) (a1 : Int32) (hz : d_mod h M) : ∀ (n : Nat) (v2_5 : Int32) (v3_5 : Int32) (o : Int32 × Int32), f_X4_sum_L5 F M a1 n v2_5 v3_5 = some o → (∀ e9 : Int32 × Int32, o = e9 → a_W p l e (a_rm 0 0) s m args below meth c Q RX4 cX4_sum 4 g 0 0 none 28 [(2, .int e9.1)] [] h) → a_W p l e (a_rm 0 0) s m args below meth c Q RX4 cX4_sum 4 g 0 0 none 5 [(0, .ref 55), (1, .int a1), (2, .int v2_5), (3, .int v3_5)] [] h := by
  intro n
  induction n with
  | zero => intro v2_5 v3_5 o hf; exact nomatch (show (none : Option (Int32 × Int32)) = some o from hf)
  | succ n ih =>
    intro v2_5 v3_5 o hf hX0
    rw [f_X4_sum_L5] at hf
    refine a_iload_n (pc' := 6) 3 dX4_sum_5 rfl rfl rfl ?_
    refine a_bipush (pc' := 8) (v := (24 : Int32)) dX4_sum_6 rfl (by decide) ?_
    refine a_icmp_gt (pc' := 11) 28 dX4_sum_8 (by decide) rfl (fun k6001 => ?_) (fun k6001 => ?_)
    · replace hf := (if_pos k6001).symm.trans hf
      cases hf
      refine a_sub [2] rfl ?_
      exact hX0 _ rfl
    · replace hf := (if_neg k6001).symm.trans hf
      refine a_iload_n (pc' := 12) 2 dX4_sum_11 rfl rfl rfl ?_
      refine a_aload_n (pc' := 13) 0 dX4_sum_12 rfl rfl rfl ?_
      refine g_X4_7 (pc' := 16) hz.1 rfl dX4_sum_13 rfl ?_
      refine a_iload_n (pc' := 17) 1 dX4_sum_16 rfl rfl rfl ?_
      refine a_iload_n (pc' := 18) 3 dX4_sum_17 rfl rfl rfl ?_
      refine a_iadd (pc' := 19) dX4_sum_18 rfl ?_
      obtain ⟨hg, hf⟩ := f_grd_x hf
      refine b_iald (pc' := 20) hz.2.1 hg dX4_sum_19 rfl ?_
      refine a_iadd (pc' := 21) dX4_sum_20 rfl ?_
      refine a_istore_n (pc' := 22) (ls' := [(2, .int (v2_5 + ((m_z M) (a1 + v3_5).toNatClampNeg))), (0, .ref 55), (1, .int a1), (3, .int v3_5)]) dX4_sum_21 rfl (by decide) rfl rfl ?_
      refine a_iinc (pc' := 25) (v := v3_5 + (1 : Int32)) (ls' := [(3, .int (v3_5 + (1 : Int32))), (2, .int (v2_5 + ((m_z M) (a1 + v3_5).toNatClampNeg))), (0, .ref 55), (1, .int a1)]) 3 dX4_sum_22 rfl (by rfl) (by decide) rfl rfl ?_
      refine a_goto 5 dX4_sum_25 (by decide) ?_
      refine a_sub [2, 3, 1, 0] rfl ?_
      exact ih _ _ _ hf hX0
set_option maxHeartbeats 4000000 in
set_option maxRecDepth 100000 in
theorem c_X4_sum (l : Launch) (g : a_G) (F : Nat) {h : List va_E} {M : d_M} {a1 : Int32} (hz : d_mod h M) {out : Int32} (hf : f_X4_sum F M a1 = some out) : a_CT l g yX4_sum cX4_sum 4 (some .int) (a_rm 0 0) [.ref 55, .int a1] h none none (fun r h' => r = some (.int out) ∧ h' = h) := by
  refine a_enter ⟨by decide, rfl, Nat.le_of_ble_eq_true rfl⟩ (fun p e s m args below meth c hr hin => ?_)
  unfold f_X4_sum at hf
  refine a_sub (ls' := [(0, .ref 55), (1, .int a1)]) [0, 1] rfl ?_
  refine a_iconst (pc' := 1) (v := (0 : Int32)) dX4_sum_0 rfl (by decide) ?_
  refine a_istore_n (pc' := 2) (ls' := [(2, .int ((0 : Int32))), (0, .ref 55), (1, .int a1)]) dX4_sum_1 rfl (by decide) rfl rfl ?_
  refine a_bipush (pc' := 4) (v := (8 : Int32)) dX4_sum_2 rfl (by decide) ?_
  refine a_istore_n (pc' := 5) (ls' := [(3, .int ((8 : Int32))), (2, .int ((0 : Int32))), (0, .ref 55), (1, .int a1)]) dX4_sum_4 rfl (by decide) rfl rfl ?_
  obtain ⟨o1, e2, hf⟩ := Option.bind_eq_some_iff.mp hf
  refine a_sub [2, 3, 1, 0] rfl ?_
  refine l_X4_sum_L5 F M a1 hz F _ _ o1 e2 (fun e9 he9 => ?_)
  subst he9
  refine a_iload_n (pc' := 29) 0 dX4_sum_28 rfl rfl rfl ?_
  cases hf
  exact a_iret hr ⟨rfl, rfl⟩ dX4_sum_29
/-! SlateRoofModel.buy(III)I -/
set_option maxRecDepth 100000 in
def f_X4_buy_L63 (F : Nat) (a2 : Int32) : Nat → Int32 → Int32 → Int32 → Option (Int32 × Int32 × Int32)
  | 0, _, _, _ => none
  | n + 1, v4_63, v5_63, v6_63 => (if a2 ≤ v6_63 then some (v4_63, v5_63, v6_63) else (if (((((v4_63 * ((1103515245 : Int32))) + ((12345 : Int32))) >>> (((16 : Int32)) &&& 31)) &&& ((32767 : Int32))) - ((((v4_63 * ((1103515245 : Int32))) + ((12345 : Int32))) >>> (((16 : Int32)) &&& 31)) &&& ((32767 : Int32))) / ((10 : Int32)) * ((10 : Int32))) = 0 then f_X4_buy_L63 F a2 n ((v4_63 * ((1103515245 : Int32))) + ((12345 : Int32))) (v5_63 + ((1 : Int32))) (v6_63 + (1 : Int32)) else f_X4_buy_L63 F a2 n ((v4_63 * ((1103515245 : Int32))) + ((12345 : Int32))) (v5_63 + ((0 : Int32))) (v6_63 + (1 : Int32))))
set_option maxRecDepth 100000 in
def f_X4_buy (F : Nat) (M : d_M) (a1 : Int32) (a2 : Int32) (a3 : Int32) : Option (Int32 × d_M) := f_let (ms_thrown M ((0 : Int32))) fun M2 => (f_X4_isLength F a1).bind fun x4 => (if x4 = 0 then (f_X4_fails F M2 ((1 : Int32))).bind fun x7 => f_let x7.2 fun M9 => some ((x7.1, M9)) else (f_X4_within F a2 ((1 : Int32)) ((200 : Int32))).bind fun x11 => (if x11 = 0 then (f_X4_fails F M2 ((1 : Int32))).bind fun x37 => f_let x37.2 fun M39 => some ((x37.1, M39)) else (f_X4_sum F M2 ((264 : Int32))).bind fun x14 => (if (x14 + a2) ≤ ((5000 : Int32)) then (f_X4_save F M2).bind fun x17 => f_let x17 fun M19 => (f_X4_buy_L63 F a2 F a3 ((0 : Int32)) ((0 : Int32))).bind fun o20 => f_grd (((239 : Int32)) + a1) 294 (f_grd (((239 : Int32)) + a1) 294 (f_let (ms_z M19 (upd (m_z M19) (((239 : Int32)) + a1).toNatClampNeg (((m_z M19) (((239 : Int32)) + a1).toNatClampNeg) + o20.2.1))) fun M23 => f_grd (((214 : Int32)) + a1) 294 (f_grd (((214 : Int32)) + a1) 294 (f_let (ms_z M23 (upd (m_z M23) (((214 : Int32)) + a1).toNatClampNeg (((m_z M23) (((214 : Int32)) + a1).toNatClampNeg) + (a2 - o20.2.1)))) fun M25 => f_grd (((264 : Int32)) + a1) 294 (f_grd (((264 : Int32)) + a1) 294 (f_let (ms_z M25 (upd (m_z M25) (((264 : Int32)) + a1).toNatClampNeg (((m_z M25) (((264 : Int32)) + a1).toNatClampNeg) + a2))) fun M27 => f_grd ((13 : Int32)) 294 ((f_X4_price F a1).bind fun x29 => f_grd ((13 : Int32)) 294 (f_let (ms_z M27 (upd (m_z M27) ((13 : Int32)).toNatClampNeg (((m_z M27) ((13 : Int32)).toNatClampNeg) + (a2 * x29)))) fun M31 => some ((o20.2.1, M31)))))))))) else (f_X4_fails F M2 ((2 : Int32))).bind fun x33 => f_let x33.2 fun M35 => some ((x33.1, M35)))))
set_option maxHeartbeats 4000000 in
set_option maxRecDepth 100000 in
theorem l_X4_buy_L63 {p : Program} {l : Launch} {e : Env} {s : State} {m : MethodId} {args : Array Value} {below : List Frame} {meth : Method} {c : Code} {Q : State → Prop} {g : a_G} (F : Nat) {h : List va_E} (a1 : Int32) (a2 : Int32) (M19 : d_M) (hz : d_mod h M19) : ∀ (n : Nat) (v4_63 : Int32) (v5_63 : Int32) (v6_63 : Int32) (o : Int32 × Int32 × Int32), f_X4_buy_L63 F a2 n v4_63 v5_63 v6_63 = some o → (∀ e9 : Int32 × Int32 × Int32, o = e9 → a_W p l e (a_rm 2 42) s m args below meth c Q RX4 cX4_buy 7 g 0 0 none 111 [(0, .ref 55), (1, .int a1), (2, .int a2), (5, .int e9.2.1)] [] h) → a_W p l e (a_rm 2 42) s m args below meth c Q RX4 cX4_buy 7 g 0 0 none 63 [(0, .ref 55), (1, .int a1), (2, .int a2), (4, .int v4_63), (5, .int v5_63), (6, .int v6_63)] [] h := by
  intro n
  induction n with
  | zero => intro v4_63 v5_63 v6_63 o hf; exact nomatch (show (none : Option (Int32 × Int32 × Int32)) = some o from hf)
  | succ n ih =>
    intro v4_63 v5_63 v6_63 o hf hX0
    rw [f_X4_buy_L63] at hf
    refine a_iload (pc' := 65) 5 dX4_buy_63 rfl rfl ?_
    refine a_iload_n (pc' := 66) 2 dX4_buy_65 rfl rfl rfl ?_
    refine a_icmp_ge (pc' := 69) 111 dX4_buy_66 (by decide) rfl (fun k64001 => ?_) (fun k64001 => ?_)
    · replace hf := (if_pos k64001).symm.trans hf
      cases hf
      refine a_sub [0, 1, 2, 4] rfl ?_
      exact hX0 _ rfl
    · replace hf := (if_neg k64001).symm.trans hf
      refine a_iload (pc' := 71) 3 dX4_buy_69 rfl rfl ?_
      refine a_ldc (pc' := 73) (v := (1103515245 : Int32)) (a_in4 101 rfl rfl) dX4_buy_71 rfl ?_
      refine a_imul (pc' := 74) dX4_buy_73 rfl ?_
      refine a_sipush (pc' := 77) (v := (12345 : Int32)) dX4_buy_74 rfl (by decide) ?_
      refine a_iadd (pc' := 78) dX4_buy_77 rfl ?_
      refine a_istore (pc' := 80) (ls' := [(4, .int ((v4_63 * ((1103515245 : Int32))) + ((12345 : Int32)))), (0, .ref 55), (1, .int a1), (2, .int a2), (5, .int v5_63), (6, .int v6_63)]) dX4_buy_78 (by decide) rfl rfl ?_
      refine a_iload (pc' := 82) 4 dX4_buy_80 rfl rfl ?_
      refine a_iload (pc' := 84) 0 dX4_buy_82 rfl rfl ?_
      refine a_bipush (pc' := 86) (v := (16 : Int32)) dX4_buy_84 rfl (by decide) ?_
      refine a_ishr (pc' := 87) dX4_buy_86 rfl ?_
      refine a_sipush (pc' := 90) (v := (32767 : Int32)) dX4_buy_87 rfl (by decide) ?_
      refine a_iand (pc' := 91) dX4_buy_90 rfl ?_
      refine a_bipush (pc' := 93) (v := (10 : Int32)) dX4_buy_91 rfl (by decide) ?_
      refine a_irem (pc' := 94) dX4_buy_93 rfl (by decide) ?_
      refine a_if_ne (pc' := 97) 101 dX4_buy_94 (by decide) rfl (fun k64002 => ?_) (fun k64002 => ?_)
      · replace hf := (if_neg k64002).symm.trans hf
        refine a_iconst (pc' := 102) (v := (0 : Int32)) dX4_buy_101 rfl (by decide) ?_
        refine a_iadd (pc' := 103) dX4_buy_102 rfl ?_
        refine a_istore (pc' := 105) (ls' := [(5, .int (v5_63 + ((0 : Int32)))), (4, .int ((v4_63 * ((1103515245 : Int32))) + ((12345 : Int32)))), (0, .ref 55), (1, .int a1), (2, .int a2), (6, .int v6_63)]) dX4_buy_103 (by decide) rfl rfl ?_
        refine a_iinc (pc' := 108) (v := v6_63 + (1 : Int32)) (ls' := [(6, .int (v6_63 + (1 : Int32))), (5, .int (v5_63 + ((0 : Int32)))), (4, .int ((v4_63 * ((1103515245 : Int32))) + ((12345 : Int32)))), (0, .ref 55), (1, .int a1), (2, .int a2)]) 5 dX4_buy_105 rfl (by rfl) (by decide) rfl rfl ?_
        refine a_goto 63 dX4_buy_108 (by decide) ?_
        refine a_sub [3, 4, 5, 2, 1, 0] rfl ?_
        exact ih _ _ _ _ hf hX0
      · replace hf := (if_pos k64002).symm.trans hf
        refine a_iconst (pc' := 98) (v := (1 : Int32)) dX4_buy_97 rfl (by decide) ?_
        refine a_goto 102 dX4_buy_98 (by decide) ?_
        refine a_iadd (pc' := 103) dX4_buy_102 rfl ?_
        refine a_istore (pc' := 105) (ls' := [(5, .int (v5_63 + ((1 : Int32)))), (4, .int ((v4_63 * ((1103515245 : Int32))) + ((12345 : Int32)))), (0, .ref 55), (1, .int a1), (2, .int a2), (6, .int v6_63)]) dX4_buy_103 (by decide) rfl rfl ?_
        refine a_iinc (pc' := 108) (v := v6_63 + (1 : Int32)) (ls' := [(6, .int (v6_63 + (1 : Int32))), (5, .int (v5_63 + ((1 : Int32)))), (4, .int ((v4_63 * ((1103515245 : Int32))) + ((12345 : Int32)))), (0, .ref 55), (1, .int a1), (2, .int a2)]) 5 dX4_buy_105 rfl (by rfl) (by decide) rfl rfl ?_
        refine a_goto 63 dX4_buy_108 (by decide) ?_
        refine a_sub [3, 4, 5, 2, 1, 0] rfl ?_
        exact ih _ _ _ _ hf hX0
set_option maxHeartbeats 4000000 in
set_option maxRecDepth 100000 in
theorem c_X4_buy (l : Launch) (g : a_G) (F : Nat) {h : List va_E} {M : d_M} {a1 : Int32} {a2 : Int32} {a3 : Int32} (hz : d_mod h M) {out : Int32 × d_M} (hf : f_X4_buy F M a1 a2 a3 = some out) : a_CT l g yX4_buy cX4_buy 7 (some .int) (a_rm 2 42) [.ref 55, .int a1, .int a2, .int a3] h none none (fun r h' => r = some (.int out.1) ∧ d_mod h' out.2 ∧ d_frm 55 6 h h') := by
  refine a_enter ⟨by decide, rfl, Nat.le_of_ble_eq_true rfl⟩ (fun p e s m args below meth c hr hin => ?_)
  unfold f_X4_buy at hf
  have hfr : d_frm 55 6 h h := d_frm.rf
  refine a_sub (ls' := [(0, .ref 55), (1, .int a1), (2, .int a2), (3, .int a3)]) [0, 1, 2, 3] rfl ?_
  refine a_aload_n (pc' := 1) 0 dX4_buy_0 rfl rfl rfl ?_
  refine a_iconst (pc' := 2) (v := (0 : Int32)) dX4_buy_1 rfl (by decide) ?_
  refine pt_X4_25 (pc' := 5) hz dX4_buy_2 rfl (fun h1 hz1 hfr1 => ?_)
  obtain ⟨M2, hf, hz⟩ := f_let_x (P := fun w => d_mod h1 w) hf hz1
  replace hfr := d_frm.tr hfr hfr1 (by omega)
  refine a_iload_n (pc' := 6) 1 dX4_buy_5 rfl rfl rfl ?_
  obtain ⟨x4, e3, hf⟩ := Option.bind_eq_some_iff.mp hf
  refine k_X4_69 (pc' := 9) (c_X4_isLength l g F e3) ⟨Nat.le_of_ble_eq_true rfl, Nat.le_of_ble_eq_true rfl⟩ (Nat.le_of_ble_eq_true rfl) dX4_buy_6 rfl ?_
  refine a_if_eq (pc' := 12) 23 dX4_buy_9 (by decide) rfl (fun k5 => ?_) (fun k5 => ?_)
  · replace hf := (if_pos k5).symm.trans hf
    refine a_aload_n (pc' := 24) 0 dX4_buy_23 rfl rfl rfl ?_
    refine a_iconst (pc' := 25) (v := (1 : Int32)) dX4_buy_24 rfl (by decide) ?_
    obtain ⟨x7, e6, hf⟩ := Option.bind_eq_some_iff.mp hf
    refine k_X4_60 (pc' := 28) (c_X4_fails l g F hz e6) ⟨Nat.le_of_ble_eq_true rfl, Nat.le_of_ble_eq_true rfl⟩ hz.1 (Nat.le_of_ble_eq_true rfl) dX4_buy_25 rfl (fun h8 hq => ?_)
    obtain ⟨hz1, hfr1⟩ := hq
    obtain ⟨M9, hf, hz⟩ := f_let_x (P := fun w => d_mod h8 w) hf hz1
    replace hfr := d_frm.tr hfr hfr1 (by omega)
    cases hf
    exact a_iret hr ⟨rfl, hz, hfr⟩ dX4_buy_28
  · replace hf := (if_neg k5).symm.trans hf
    refine a_iload_n (pc' := 13) 2 dX4_buy_12 rfl rfl rfl ?_
    refine a_iconst (pc' := 14) (v := (1 : Int32)) dX4_buy_13 rfl (by decide) ?_
    refine a_sipush (pc' := 17) (v := (200 : Int32)) dX4_buy_14 rfl (by decide) ?_
    obtain ⟨x11, e10, hf⟩ := Option.bind_eq_some_iff.mp hf
    refine k_X4_29 (pc' := 20) (c_X4_within l g F e10) ⟨Nat.le_of_ble_eq_true rfl, Nat.le_of_ble_eq_true rfl⟩ (Nat.le_of_ble_eq_true rfl) dX4_buy_17 rfl ?_
    refine a_if_ne (pc' := 23) 29 dX4_buy_20 (by decide) rfl (fun k12 => ?_) (fun k12 => ?_)
    · replace hf := (if_neg k12).symm.trans hf
      refine a_aload_n (pc' := 30) 0 dX4_buy_29 rfl rfl rfl ?_
      refine a_sipush (pc' := 33) (v := (264 : Int32)) dX4_buy_30 rfl (by decide) ?_
      obtain ⟨x14, e13, hf⟩ := Option.bind_eq_some_iff.mp hf
      refine k_X4_73 (pc' := 36) (c_X4_sum l g F hz e13) ⟨Nat.le_of_ble_eq_true rfl, Nat.le_of_ble_eq_true rfl⟩ hz.1 (Nat.le_of_ble_eq_true rfl) dX4_buy_33 rfl ?_
      refine a_iload_n (pc' := 37) 2 dX4_buy_36 rfl rfl rfl ?_
      refine a_iadd (pc' := 38) dX4_buy_37 rfl ?_
      refine a_sipush (pc' := 41) (v := (5000 : Int32)) dX4_buy_38 rfl (by decide) ?_
      refine a_icmp_le (pc' := 44) 50 dX4_buy_41 (by decide) rfl (fun k15 => ?_) (fun k15 => ?_)
      · replace hf := (if_pos k15).symm.trans hf
        refine a_aload_n (pc' := 51) 0 dX4_buy_50 rfl rfl rfl ?_
        obtain ⟨x17, e16, hf⟩ := Option.bind_eq_some_iff.mp hf
        refine k_X4_63 (pc' := 54) (c_X4_save l g F hz e16) ⟨Nat.le_of_ble_eq_true rfl, Nat.le_of_ble_eq_true rfl⟩ hz.1 (Nat.le_of_ble_eq_true rfl) dX4_buy_51 rfl (fun h18 hq => ?_)
        obtain ⟨hz1, hfr1⟩ := hq
        obtain ⟨M19, hf, hz⟩ := f_let_x (P := fun w => d_mod h18 w) hf hz1
        replace hfr := d_frm.tr hfr hfr1 (by omega)
        refine a_iload_n (pc' := 55) 3 dX4_buy_54 rfl rfl rfl ?_
        refine a_istore (pc' := 57) (ls' := [(4, .int a3), (0, .ref 55), (1, .int a1), (2, .int a2), (3, .int a3)]) dX4_buy_55 (by decide) rfl rfl ?_
        refine a_iconst (pc' := 58) (v := (0 : Int32)) dX4_buy_57 rfl (by decide) ?_
        refine a_istore (pc' := 60) (ls' := [(5, .int ((0 : Int32))), (4, .int a3), (0, .ref 55), (1, .int a1), (2, .int a2), (3, .int a3)]) dX4_buy_58 (by decide) rfl rfl ?_
        refine a_iconst (pc' := 61) (v := (0 : Int32)) dX4_buy_60 rfl (by decide) ?_
        refine a_istore (pc' := 63) (ls' := [(6, .int ((0 : Int32))), (5, .int ((0 : Int32))), (4, .int a3), (0, .ref 55), (1, .int a1), (2, .int a2), (3, .int a3)]) dX4_buy_61 (by decide) rfl rfl ?_
        obtain ⟨o20, e21, hf⟩ := Option.bind_eq_some_iff.mp hf
        refine a_sub [3, 4, 5, 2, 1, 0] rfl ?_
        refine l_X4_buy_L63 F a1 a2 M19 hz F _ _ _ o20 e21 (fun e9 he9 => ?_)
        subst he9
        refine a_aload_n (pc' := 112) 0 dX4_buy_111 rfl rfl rfl ?_
        refine g_X4_7 (pc' := 115) hz.1 rfl dX4_buy_112 rfl ?_
        refine a_sipush (pc' := 118) (v := (239 : Int32)) dX4_buy_115 rfl (by decide) ?_
        refine a_iload_n (pc' := 119) 1 dX4_buy_118 rfl rfl rfl ?_
        refine a_iadd (pc' := 120) dX4_buy_119 rfl ?_
        refine a_dup2 (pc' := 121) dX4_buy_120 rfl rfl rfl ?_
        obtain ⟨hg, hf⟩ := f_grd_x hf
        refine b_iald (pc' := 122) hz.2.1 hg dX4_buy_121 rfl ?_
        refine a_iload (pc' := 124) 3 dX4_buy_122 rfl rfl ?_
        refine a_iadd (pc' := 125) dX4_buy_124 rfl ?_
        obtain ⟨hg, hf⟩ := f_grd_x hf
        refine b_iast (pc' := 126) hz.2.1 hg dX4_buy_125 rfl (fun h22 hz1 hfr1 => ?_)
        obtain ⟨hz1, hfr1⟩ := d_ma_z hz hz1 hfr1
        obtain ⟨M23, hf, hz⟩ := f_let_x (P := fun w => d_mod h22 w) hf hz1
        replace hfr := d_frm.tr hfr hfr1 (by omega)
        refine a_aload_n (pc' := 127) 0 dX4_buy_126 rfl rfl rfl ?_
        refine g_X4_7 (pc' := 130) hz.1 rfl dX4_buy_127 rfl ?_
        refine a_sipush (pc' := 133) (v := (214 : Int32)) dX4_buy_130 rfl (by decide) ?_
        refine a_iload_n (pc' := 134) 1 dX4_buy_133 rfl rfl rfl ?_
        refine a_iadd (pc' := 135) dX4_buy_134 rfl ?_
        refine a_dup2 (pc' := 136) dX4_buy_135 rfl rfl rfl ?_
        obtain ⟨hg, hf⟩ := f_grd_x hf
        refine b_iald (pc' := 137) hz.2.1 hg dX4_buy_136 rfl ?_
        refine a_iload_n (pc' := 138) 2 dX4_buy_137 rfl rfl rfl ?_
        refine a_iload (pc' := 140) 3 dX4_buy_138 rfl rfl ?_
        refine a_isub (pc' := 141) dX4_buy_140 rfl ?_
        refine a_iadd (pc' := 142) dX4_buy_141 rfl ?_
        obtain ⟨hg, hf⟩ := f_grd_x hf
        refine b_iast (pc' := 143) hz.2.1 hg dX4_buy_142 rfl (fun h24 hz1 hfr1 => ?_)
        obtain ⟨hz1, hfr1⟩ := d_ma_z hz hz1 hfr1
        obtain ⟨M25, hf, hz⟩ := f_let_x (P := fun w => d_mod h24 w) hf hz1
        replace hfr := d_frm.tr hfr hfr1 (by omega)
        refine a_aload_n (pc' := 144) 0 dX4_buy_143 rfl rfl rfl ?_
        refine g_X4_7 (pc' := 147) hz.1 rfl dX4_buy_144 rfl ?_
        refine a_sipush (pc' := 150) (v := (264 : Int32)) dX4_buy_147 rfl (by decide) ?_
        refine a_iload_n (pc' := 151) 1 dX4_buy_150 rfl rfl rfl ?_
        refine a_iadd (pc' := 152) dX4_buy_151 rfl ?_
        refine a_dup2 (pc' := 153) dX4_buy_152 rfl rfl rfl ?_
        obtain ⟨hg, hf⟩ := f_grd_x hf
        refine b_iald (pc' := 154) hz.2.1 hg dX4_buy_153 rfl ?_
        refine a_iload_n (pc' := 155) 2 dX4_buy_154 rfl rfl rfl ?_
        refine a_iadd (pc' := 156) dX4_buy_155 rfl ?_
        obtain ⟨hg, hf⟩ := f_grd_x hf
        refine b_iast (pc' := 157) hz.2.1 hg dX4_buy_156 rfl (fun h26 hz1 hfr1 => ?_)
        obtain ⟨hz1, hfr1⟩ := d_ma_z hz hz1 hfr1
        obtain ⟨M27, hf, hz⟩ := f_let_x (P := fun w => d_mod h26 w) hf hz1
        replace hfr := d_frm.tr hfr hfr1 (by omega)
        refine a_aload_n (pc' := 158) 0 dX4_buy_157 rfl rfl rfl ?_
        refine g_X4_7 (pc' := 161) hz.1 rfl dX4_buy_158 rfl ?_
        refine a_bipush (pc' := 163) (v := (13 : Int32)) dX4_buy_161 rfl (by decide) ?_
        refine a_dup2 (pc' := 164) dX4_buy_163 rfl rfl rfl ?_
        obtain ⟨hg, hf⟩ := f_grd_x hf
        refine b_iald (pc' := 165) hz.2.1 hg dX4_buy_164 rfl ?_
        refine a_iload_n (pc' := 166) 2 dX4_buy_165 rfl rfl rfl ?_
        refine a_iload_n (pc' := 167) 1 dX4_buy_166 rfl rfl rfl ?_
        obtain ⟨x29, e28, hf⟩ := Option.bind_eq_some_iff.mp hf
        refine k_X4_77 (pc' := 170) (c_X4_price l g F e28) ⟨Nat.le_of_ble_eq_true rfl, Nat.le_of_ble_eq_true rfl⟩ (Nat.le_of_ble_eq_true rfl) dX4_buy_167 rfl ?_
        refine a_imul (pc' := 171) dX4_buy_170 rfl ?_
        refine a_iadd (pc' := 172) dX4_buy_171 rfl ?_
        obtain ⟨hg, hf⟩ := f_grd_x hf
        refine b_iast (pc' := 173) hz.2.1 hg dX4_buy_172 rfl (fun h30 hz1 hfr1 => ?_)
        obtain ⟨hz1, hfr1⟩ := d_ma_z hz hz1 hfr1
        obtain ⟨M31, hf, hz⟩ := f_let_x (P := fun w => d_mod h30 w) hf hz1
        replace hfr := d_frm.tr hfr hfr1 (by omega)
        refine a_iload (pc' := 175) 3 dX4_buy_173 rfl rfl ?_
        cases hf
        exact a_iret hr ⟨rfl, hz, hfr⟩ dX4_buy_175
      · replace hf := (if_neg k15).symm.trans hf
        refine a_aload_n (pc' := 45) 0 dX4_buy_44 rfl rfl rfl ?_
        refine a_iconst (pc' := 46) (v := (2 : Int32)) dX4_buy_45 rfl (by decide) ?_
        obtain ⟨x33, e32, hf⟩ := Option.bind_eq_some_iff.mp hf
        refine k_X4_60 (pc' := 49) (c_X4_fails l g F hz e32) ⟨Nat.le_of_ble_eq_true rfl, Nat.le_of_ble_eq_true rfl⟩ hz.1 (Nat.le_of_ble_eq_true rfl) dX4_buy_46 rfl (fun h34 hq => ?_)
        obtain ⟨hz1, hfr1⟩ := hq
        obtain ⟨M35, hf, hz⟩ := f_let_x (P := fun w => d_mod h34 w) hf hz1
        replace hfr := d_frm.tr hfr hfr1 (by omega)
        cases hf
        exact a_iret hr ⟨rfl, hz, hfr⟩ dX4_buy_49
    · replace hf := (if_pos k12).symm.trans hf
      refine a_aload_n (pc' := 24) 0 dX4_buy_23 rfl rfl rfl ?_
      refine a_iconst (pc' := 25) (v := (1 : Int32)) dX4_buy_24 rfl (by decide) ?_
      obtain ⟨x37, e36, hf⟩ := Option.bind_eq_some_iff.mp hf
      refine k_X4_60 (pc' := 28) (c_X4_fails l g F hz e36) ⟨Nat.le_of_ble_eq_true rfl, Nat.le_of_ble_eq_true rfl⟩ hz.1 (Nat.le_of_ble_eq_true rfl) dX4_buy_25 rfl (fun h38 hq => ?_)
      obtain ⟨hz1, hfr1⟩ := hq
      obtain ⟨M39, hf, hz⟩ := f_let_x (P := fun w => d_mod h38 w) hf hz1
      replace hfr := d_frm.tr hfr hfr1 (by omega)
      cases hf
      exact a_iret hr ⟨rfl, hz, hfr⟩ dX4_buy_28
/-! SlateRoofModel.recut(III)I -/
set_option maxRecDepth 100000 in
def f_X4_recut (F : Nat) (M : d_M) (a1 : Int32) (a2 : Int32) (a3 : Int32) : Option (Int32 × d_M) := f_let (ms_thrown M ((0 : Int32))) fun M2 => (f_X4_isLength F a1).bind fun x4 => (if x4 = 0 then (f_X4_fails F M2 ((1 : Int32))).bind fun x7 => f_let x7.2 fun M9 => some ((x7.1, M9)) else (f_X4_within F a2 ((8 : Int32)) ((20 : Int32))).bind fun x11 => (if x11 = 0 then (f_X4_fails F M2 ((1 : Int32))).bind fun x14 => f_let x14.2 fun M16 => some ((x14.1, M16)) else (f_X4_within F a3 ((1 : Int32)) ((200 : Int32))).bind fun x18 => (if x18 = 0 then (f_X4_fails F M2 ((1 : Int32))).bind fun x21 => f_let x21.2 fun M23 => some ((x21.1, M23)) else (if a2 ≤ (a1 - ((4 : Int32))) then f_grd (((239 : Int32)) + a1) 294 ((if a3 ≤ ((m_z M2) (((239 : Int32)) + a1).toNatClampNeg) then (f_X4_save F M2).bind fun x27 => f_let x27 fun M29 => f_grd (((239 : Int32)) + a1) 294 (f_grd (((239 : Int32)) + a1) 294 (f_let (ms_z M29 (upd (m_z M29) (((239 : Int32)) + a1).toNatClampNeg (((m_z M29) (((239 : Int32)) + a1).toNatClampNeg) - a3))) fun M31 => f_grd (((214 : Int32)) + a2) 294 (f_grd (((214 : Int32)) + a2) 294 (f_let (ms_z M31 (upd (m_z M31) (((214 : Int32)) + a2).toNatClampNeg (((m_z M31) (((214 : Int32)) + a2).toNatClampNeg) + a3))) fun M33 => f_grd ((10 : Int32)) 294 (f_grd ((10 : Int32)) 294 (f_let (ms_z M33 (upd (m_z M33) ((10 : Int32)).toNatClampNeg (((m_z M33) ((10 : Int32)).toNatClampNeg) + a3))) fun M35 => f_grd (((239 : Int32)) + a1) 294 (some (((m_z M35) (((239 : Int32)) + a1).toNatClampNeg, M35))))))))) else (f_X4_fails F M2 ((2 : Int32))).bind fun x37 => f_let x37.2 fun M39 => some ((x37.1, M39)))) else (f_X4_fails F M2 ((1 : Int32))).bind fun x41 => f_let x41.2 fun M43 => some ((x41.1, M43))))))
set_option maxHeartbeats 4000000 in
set_option maxRecDepth 100000 in
theorem c_X4_recut (l : Launch) (g : a_G) (F : Nat) {h : List va_E} {M : d_M} {a1 : Int32} {a2 : Int32} {a3 : Int32} (hz : d_mod h M) {out : Int32 × d_M} (hf : f_X4_recut F M a1 a2 a3 = some out) : a_CT l g yX4_recut cX4_recut 4 (some .int) (a_rm 2 42) [.ref 55, .int a1, .int a2, .int a3] h none none (fun r h' => r = some (.int out.1) ∧ d_mod h' out.2 ∧ d_frm 55 6 h h') := by
  refine a_enter ⟨by decide, rfl, Nat.le_of_ble_eq_true rfl⟩ (fun p e s m args below meth c hr hin => ?_)
  unfold f_X4_recut at hf
  have hfr : d_frm 55 6 h h := d_frm.rf
  refine a_sub (ls' := [(0, .ref 55), (1, .int a1), (2, .int a2), (3, .int a3)]) [0, 1, 2, 3] rfl ?_
  refine a_aload_n (pc' := 1) 0 dX4_recut_0 rfl rfl rfl ?_
  refine a_iconst (pc' := 2) (v := (0 : Int32)) dX4_recut_1 rfl (by decide) ?_
  refine pt_X4_25 (pc' := 5) hz dX4_recut_2 rfl (fun h1 hz1 hfr1 => ?_)
  obtain ⟨M2, hf, hz⟩ := f_let_x (P := fun w => d_mod h1 w) hf hz1
  replace hfr := d_frm.tr hfr hfr1 (by omega)
  refine a_iload_n (pc' := 6) 1 dX4_recut_5 rfl rfl rfl ?_
  obtain ⟨x4, e3, hf⟩ := Option.bind_eq_some_iff.mp hf
  refine k_X4_69 (pc' := 9) (c_X4_isLength l g F e3) ⟨Nat.le_of_ble_eq_true rfl, Nat.le_of_ble_eq_true rfl⟩ (Nat.le_of_ble_eq_true rfl) dX4_recut_6 rfl ?_
  refine a_if_eq (pc' := 12) 41 dX4_recut_9 (by decide) rfl (fun k5 => ?_) (fun k5 => ?_)
  · replace hf := (if_pos k5).symm.trans hf
    refine a_aload_n (pc' := 42) 0 dX4_recut_41 rfl rfl rfl ?_
    refine a_iconst (pc' := 43) (v := (1 : Int32)) dX4_recut_42 rfl (by decide) ?_
    obtain ⟨x7, e6, hf⟩ := Option.bind_eq_some_iff.mp hf
    refine k_X4_60 (pc' := 46) (c_X4_fails l g F hz e6) ⟨Nat.le_of_ble_eq_true rfl, Nat.le_of_ble_eq_true rfl⟩ hz.1 (Nat.le_of_ble_eq_true rfl) dX4_recut_43 rfl (fun h8 hq => ?_)
    obtain ⟨hz1, hfr1⟩ := hq
    obtain ⟨M9, hf, hz⟩ := f_let_x (P := fun w => d_mod h8 w) hf hz1
    replace hfr := d_frm.tr hfr hfr1 (by omega)
    cases hf
    exact a_iret hr ⟨rfl, hz, hfr⟩ dX4_recut_46
  · replace hf := (if_neg k5).symm.trans hf
    refine a_iload_n (pc' := 13) 2 dX4_recut_12 rfl rfl rfl ?_
    refine a_bipush (pc' := 15) (v := (8 : Int32)) dX4_recut_13 rfl (by decide) ?_
    refine a_bipush (pc' := 17) (v := (20 : Int32)) dX4_recut_15 rfl (by decide) ?_
    obtain ⟨x11, e10, hf⟩ := Option.bind_eq_some_iff.mp hf
    refine k_X4_29 (pc' := 20) (c_X4_within l g F e10) ⟨Nat.le_of_ble_eq_true rfl, Nat.le_of_ble_eq_true rfl⟩ (Nat.le_of_ble_eq_true rfl) dX4_recut_17 rfl ?_
    refine a_if_eq (pc' := 23) 41 dX4_recut_20 (by decide) rfl (fun k12 => ?_) (fun k12 => ?_)
    · replace hf := (if_pos k12).symm.trans hf
      refine a_aload_n (pc' := 42) 0 dX4_recut_41 rfl rfl rfl ?_
      refine a_iconst (pc' := 43) (v := (1 : Int32)) dX4_recut_42 rfl (by decide) ?_
      obtain ⟨x14, e13, hf⟩ := Option.bind_eq_some_iff.mp hf
      refine k_X4_60 (pc' := 46) (c_X4_fails l g F hz e13) ⟨Nat.le_of_ble_eq_true rfl, Nat.le_of_ble_eq_true rfl⟩ hz.1 (Nat.le_of_ble_eq_true rfl) dX4_recut_43 rfl (fun h15 hq => ?_)
      obtain ⟨hz1, hfr1⟩ := hq
      obtain ⟨M16, hf, hz⟩ := f_let_x (P := fun w => d_mod h15 w) hf hz1
      replace hfr := d_frm.tr hfr hfr1 (by omega)
      cases hf
      exact a_iret hr ⟨rfl, hz, hfr⟩ dX4_recut_46
    · replace hf := (if_neg k12).symm.trans hf
      refine a_iload_n (pc' := 24) 3 dX4_recut_23 rfl rfl rfl ?_
      refine a_iconst (pc' := 25) (v := (1 : Int32)) dX4_recut_24 rfl (by decide) ?_
      refine a_sipush (pc' := 28) (v := (200 : Int32)) dX4_recut_25 rfl (by decide) ?_
      obtain ⟨x18, e17, hf⟩ := Option.bind_eq_some_iff.mp hf
      refine k_X4_29 (pc' := 31) (c_X4_within l g F e17) ⟨Nat.le_of_ble_eq_true rfl, Nat.le_of_ble_eq_true rfl⟩ (Nat.le_of_ble_eq_true rfl) dX4_recut_28 rfl ?_
      refine a_if_eq (pc' := 34) 41 dX4_recut_31 (by decide) rfl (fun k19 => ?_) (fun k19 => ?_)
      · replace hf := (if_pos k19).symm.trans hf
        refine a_aload_n (pc' := 42) 0 dX4_recut_41 rfl rfl rfl ?_
        refine a_iconst (pc' := 43) (v := (1 : Int32)) dX4_recut_42 rfl (by decide) ?_
        obtain ⟨x21, e20, hf⟩ := Option.bind_eq_some_iff.mp hf
        refine k_X4_60 (pc' := 46) (c_X4_fails l g F hz e20) ⟨Nat.le_of_ble_eq_true rfl, Nat.le_of_ble_eq_true rfl⟩ hz.1 (Nat.le_of_ble_eq_true rfl) dX4_recut_43 rfl (fun h22 hq => ?_)
        obtain ⟨hz1, hfr1⟩ := hq
        obtain ⟨M23, hf, hz⟩ := f_let_x (P := fun w => d_mod h22 w) hf hz1
        replace hfr := d_frm.tr hfr hfr1 (by omega)
        cases hf
        exact a_iret hr ⟨rfl, hz, hfr⟩ dX4_recut_46
      · replace hf := (if_neg k19).symm.trans hf
        refine a_iload_n (pc' := 35) 2 dX4_recut_34 rfl rfl rfl ?_
        refine a_iload_n (pc' := 36) 1 dX4_recut_35 rfl rfl rfl ?_
        refine a_iconst (pc' := 37) (v := (4 : Int32)) dX4_recut_36 rfl (by decide) ?_
        refine a_isub (pc' := 38) dX4_recut_37 rfl ?_
        refine a_icmp_le (pc' := 41) 47 dX4_recut_38 (by decide) rfl (fun k24 => ?_) (fun k24 => ?_)
        · replace hf := (if_pos k24).symm.trans hf
          refine a_aload_n (pc' := 48) 0 dX4_recut_47 rfl rfl rfl ?_
          refine g_X4_7 (pc' := 51) hz.1 rfl dX4_recut_48 rfl ?_
          refine a_sipush (pc' := 54) (v := (239 : Int32)) dX4_recut_51 rfl (by decide) ?_
          refine a_iload_n (pc' := 55) 1 dX4_recut_54 rfl rfl rfl ?_
          refine a_iadd (pc' := 56) dX4_recut_55 rfl ?_
          obtain ⟨hg, hf⟩ := f_grd_x hf
          refine b_iald (pc' := 57) hz.2.1 hg dX4_recut_56 rfl ?_
          refine a_iload_n (pc' := 58) 3 dX4_recut_57 rfl rfl rfl ?_
          refine a_icmp_ge (pc' := 61) 67 dX4_recut_58 (by decide) rfl (fun k25 => ?_) (fun k25 => ?_)
          · replace hf := (if_pos k25).symm.trans hf
            refine a_aload_n (pc' := 68) 0 dX4_recut_67 rfl rfl rfl ?_
            obtain ⟨x27, e26, hf⟩ := Option.bind_eq_some_iff.mp hf
            refine k_X4_63 (pc' := 71) (c_X4_save l g F hz e26) ⟨Nat.le_of_ble_eq_true rfl, Nat.le_of_ble_eq_true rfl⟩ hz.1 (Nat.le_of_ble_eq_true rfl) dX4_recut_68 rfl (fun h28 hq => ?_)
            obtain ⟨hz1, hfr1⟩ := hq
            obtain ⟨M29, hf, hz⟩ := f_let_x (P := fun w => d_mod h28 w) hf hz1
            replace hfr := d_frm.tr hfr hfr1 (by omega)
            refine a_aload_n (pc' := 72) 0 dX4_recut_71 rfl rfl rfl ?_
            refine g_X4_7 (pc' := 75) hz.1 rfl dX4_recut_72 rfl ?_
            refine a_sipush (pc' := 78) (v := (239 : Int32)) dX4_recut_75 rfl (by decide) ?_
            refine a_iload_n (pc' := 79) 1 dX4_recut_78 rfl rfl rfl ?_
            refine a_iadd (pc' := 80) dX4_recut_79 rfl ?_
            refine a_dup2 (pc' := 81) dX4_recut_80 rfl rfl rfl ?_
            obtain ⟨hg, hf⟩ := f_grd_x hf
            refine b_iald (pc' := 82) hz.2.1 hg dX4_recut_81 rfl ?_
            refine a_iload_n (pc' := 83) 3 dX4_recut_82 rfl rfl rfl ?_
            refine a_isub (pc' := 84) dX4_recut_83 rfl ?_
            obtain ⟨hg, hf⟩ := f_grd_x hf
            refine b_iast (pc' := 85) hz.2.1 hg dX4_recut_84 rfl (fun h30 hz1 hfr1 => ?_)
            obtain ⟨hz1, hfr1⟩ := d_ma_z hz hz1 hfr1
            obtain ⟨M31, hf, hz⟩ := f_let_x (P := fun w => d_mod h30 w) hf hz1
            replace hfr := d_frm.tr hfr hfr1 (by omega)
            refine a_aload_n (pc' := 86) 0 dX4_recut_85 rfl rfl rfl ?_
            refine g_X4_7 (pc' := 89) hz.1 rfl dX4_recut_86 rfl ?_
            refine a_sipush (pc' := 92) (v := (214 : Int32)) dX4_recut_89 rfl (by decide) ?_
            refine a_iload_n (pc' := 93) 2 dX4_recut_92 rfl rfl rfl ?_
            refine a_iadd (pc' := 94) dX4_recut_93 rfl ?_
            refine a_dup2 (pc' := 95) dX4_recut_94 rfl rfl rfl ?_
            obtain ⟨hg, hf⟩ := f_grd_x hf
            refine b_iald (pc' := 96) hz.2.1 hg dX4_recut_95 rfl ?_
            refine a_iload_n (pc' := 97) 3 dX4_recut_96 rfl rfl rfl ?_
            refine a_iadd (pc' := 98) dX4_recut_97 rfl ?_
            obtain ⟨hg, hf⟩ := f_grd_x hf
            refine b_iast (pc' := 99) hz.2.1 hg dX4_recut_98 rfl (fun h32 hz1 hfr1 => ?_)
            obtain ⟨hz1, hfr1⟩ := d_ma_z hz hz1 hfr1
            obtain ⟨M33, hf, hz⟩ := f_let_x (P := fun w => d_mod h32 w) hf hz1
            replace hfr := d_frm.tr hfr hfr1 (by omega)
            refine a_aload_n (pc' := 100) 0 dX4_recut_99 rfl rfl rfl ?_
            refine g_X4_7 (pc' := 103) hz.1 rfl dX4_recut_100 rfl ?_
            refine a_bipush (pc' := 105) (v := (10 : Int32)) dX4_recut_103 rfl (by decide) ?_
            refine a_dup2 (pc' := 106) dX4_recut_105 rfl rfl rfl ?_
            obtain ⟨hg, hf⟩ := f_grd_x hf
            refine b_iald (pc' := 107) hz.2.1 hg dX4_recut_106 rfl ?_
            refine a_iload_n (pc' := 108) 3 dX4_recut_107 rfl rfl rfl ?_
            refine a_iadd (pc' := 109) dX4_recut_108 rfl ?_
            obtain ⟨hg, hf⟩ := f_grd_x hf
            refine b_iast (pc' := 110) hz.2.1 hg dX4_recut_109 rfl (fun h34 hz1 hfr1 => ?_)
            obtain ⟨hz1, hfr1⟩ := d_ma_z hz hz1 hfr1
            obtain ⟨M35, hf, hz⟩ := f_let_x (P := fun w => d_mod h34 w) hf hz1
            replace hfr := d_frm.tr hfr hfr1 (by omega)
            refine a_aload_n (pc' := 111) 0 dX4_recut_110 rfl rfl rfl ?_
            refine g_X4_7 (pc' := 114) hz.1 rfl dX4_recut_111 rfl ?_
            refine a_sipush (pc' := 117) (v := (239 : Int32)) dX4_recut_114 rfl (by decide) ?_
            refine a_iload_n (pc' := 118) 1 dX4_recut_117 rfl rfl rfl ?_
            refine a_iadd (pc' := 119) dX4_recut_118 rfl ?_
            obtain ⟨hg, hf⟩ := f_grd_x hf
            refine b_iald (pc' := 120) hz.2.1 hg dX4_recut_119 rfl ?_
            cases hf
            exact a_iret hr ⟨rfl, hz, hfr⟩ dX4_recut_120
          · replace hf := (if_neg k25).symm.trans hf
            refine a_aload_n (pc' := 62) 0 dX4_recut_61 rfl rfl rfl ?_
            refine a_iconst (pc' := 63) (v := (2 : Int32)) dX4_recut_62 rfl (by decide) ?_
            obtain ⟨x37, e36, hf⟩ := Option.bind_eq_some_iff.mp hf
            refine k_X4_60 (pc' := 66) (c_X4_fails l g F hz e36) ⟨Nat.le_of_ble_eq_true rfl, Nat.le_of_ble_eq_true rfl⟩ hz.1 (Nat.le_of_ble_eq_true rfl) dX4_recut_63 rfl (fun h38 hq => ?_)
            obtain ⟨hz1, hfr1⟩ := hq
            obtain ⟨M39, hf, hz⟩ := f_let_x (P := fun w => d_mod h38 w) hf hz1
            replace hfr := d_frm.tr hfr hfr1 (by omega)
            cases hf
            exact a_iret hr ⟨rfl, hz, hfr⟩ dX4_recut_66
        · replace hf := (if_neg k24).symm.trans hf
          refine a_aload_n (pc' := 42) 0 dX4_recut_41 rfl rfl rfl ?_
          refine a_iconst (pc' := 43) (v := (1 : Int32)) dX4_recut_42 rfl (by decide) ?_
          obtain ⟨x41, e40, hf⟩ := Option.bind_eq_some_iff.mp hf
          refine k_X4_60 (pc' := 46) (c_X4_fails l g F hz e40) ⟨Nat.le_of_ble_eq_true rfl, Nat.le_of_ble_eq_true rfl⟩ hz.1 (Nat.le_of_ble_eq_true rfl) dX4_recut_43 rfl (fun h42 hq => ?_)
          obtain ⟨hz1, hfr1⟩ := hq
          obtain ⟨M43, hf, hz⟩ := f_let_x (P := fun w => d_mod h42 w) hf hz1
          replace hfr := d_frm.tr hfr hfr1 (by omega)
          cases hf
          exact a_iret hr ⟨rfl, hz, hfr⟩ dX4_recut_46
/-! SlateRoofModel.clearHeap(I)I -/
set_option maxRecDepth 100000 in
def f_X4_clearHeap_L31 (F : Nat) (a1 : Int32) : Nat → Int32 → Int32 → d_M → Option (Int32 × Int32 × d_M)
  | 0, _, _, _ => none
  | n + 1, v2_31, v3_31, M_31 => (if a1 ≤ v3_31 then some (v2_31, v3_31, M_31) else f_grd (((239 : Int32)) + v3_31) 294 (f_grd (((239 : Int32)) + v3_31) 294 (f_let (ms_z M_31 (upd (m_z M_31) (((239 : Int32)) + v3_31).toNatClampNeg ((0 : Int32)))) fun M32003 => f_X4_clearHeap_L31 F a1 n (v2_31 + ((m_z M_31) (((239 : Int32)) + v3_31).toNatClampNeg)) (v3_31 + (1 : Int32)) M32003)))
set_option maxRecDepth 100000 in
def f_X4_clearHeap (F : Nat) (M : d_M) (a1 : Int32) : Option (Int32 × d_M) := f_let (ms_thrown M ((0 : Int32))) fun M2 => (f_X4_within F a1 ((8 : Int32)) ((25 : Int32))).bind fun x4 => (if x4 = 0 then (f_X4_fails F M2 ((1 : Int32))).bind fun x16 => f_let x16.2 fun M18 => some ((x16.1, M18)) else (f_X4_save F M2).bind fun x7 => f_let x7 fun M9 => (f_X4_clearHeap_L31 F a1 F ((0 : Int32)) ((8 : Int32)) M9).bind fun o10 => f_grd ((11 : Int32)) 294 (f_grd ((11 : Int32)) 294 (f_let (ms_z o10.2.2 (upd (m_z o10.2.2) ((11 : Int32)).toNatClampNeg (((m_z o10.2.2) ((11 : Int32)).toNatClampNeg) + o10.1))) fun M14 => some ((o10.1, M14)))))
set_option maxHeartbeats 4000000 in
set_option maxRecDepth 100000 in
theorem l_X4_clearHeap_L31 {p : Program} {l : Launch} {e : Env} {s : State} {m : MethodId} {args : Array Value} {below : List Frame} {meth : Method} {c : Code} {Q : State → Prop} {g : a_G} (F : Nat) {h : List va_E} (a1 : Int32) : ∀ (n : Nat) (v2_31 : Int32) (v3_31 : Int32) (M_31 : d_M) (o : Int32 × Int32 × d_M), f_X4_clearHeap_L31 F a1 n v2_31 v3_31 M_31 = some o → (∀ e9 : Int32 × Int32 × d_M, o = e9 → ∀ h1, d_mod h1 e9.2.2 → d_frm 55 6 h h1 → a_W p l e (a_rm 1 22) s m args below meth c Q RX4 cX4_clearHeap 4 g 0 0 none 66 [(0, .ref 55), (2, .int e9.1)] [] h1) → ∀ h1, d_mod h1 M_31 → d_frm 55 6 h h1 → a_W p l e (a_rm 1 22) s m args below meth c Q RX4 cX4_clearHeap 4 g 0 0 none 31 [(0, .ref 55), (1, .int a1), (2, .int v2_31), (3, .int v3_31)] [] h1 := by
  intro n
  induction n with
  | zero => intro v2_31 v3_31 M_31 o hf; exact nomatch (show (none : Option (Int32 × Int32 × d_M)) = some o from hf)
  | succ n ih =>
    intro v2_31 v3_31 M_31 o hf hX0 h1 hz hfr
    rw [f_X4_clearHeap_L31] at hf
    refine a_iload_n (pc' := 32) 3 dX4_clearHeap_31 rfl rfl rfl ?_
    refine a_iload_n (pc' := 33) 1 dX4_clearHeap_32 rfl rfl rfl ?_
    refine a_icmp_ge (pc' := 36) 66 dX4_clearHeap_33 (by decide) rfl (fun k32001 => ?_) (fun k32001 => ?_)
    · replace hf := (if_pos k32001).symm.trans hf
      cases hf
      refine a_sub [0, 2] rfl ?_
      exact hX0 _ rfl _ hz hfr
    · replace hf := (if_neg k32001).symm.trans hf
      refine a_iload_n (pc' := 37) 2 dX4_clearHeap_36 rfl rfl rfl ?_
      refine a_aload_n (pc' := 38) 0 dX4_clearHeap_37 rfl rfl rfl ?_
      refine g_X4_7 (pc' := 41) hz.1 rfl dX4_clearHeap_38 rfl ?_
      refine a_sipush (pc' := 44) (v := (239 : Int32)) dX4_clearHeap_41 rfl (by decide) ?_
      refine a_iload_n (pc' := 45) 3 dX4_clearHeap_44 rfl rfl rfl ?_
      refine a_iadd (pc' := 46) dX4_clearHeap_45 rfl ?_
      obtain ⟨hg, hf⟩ := f_grd_x hf
      refine b_iald (pc' := 47) hz.2.1 hg dX4_clearHeap_46 rfl ?_
      refine a_iadd (pc' := 48) dX4_clearHeap_47 rfl ?_
      refine a_istore_n (pc' := 49) (ls' := [(2, .int (v2_31 + ((m_z M_31) (((239 : Int32)) + v3_31).toNatClampNeg))), (0, .ref 55), (1, .int a1), (3, .int v3_31)]) dX4_clearHeap_48 rfl (by decide) rfl rfl ?_
      refine a_aload_n (pc' := 50) 1 dX4_clearHeap_49 rfl rfl rfl ?_
      refine g_X4_7 (pc' := 53) hz.1 rfl dX4_clearHeap_50 rfl ?_
      refine a_sipush (pc' := 56) (v := (239 : Int32)) dX4_clearHeap_53 rfl (by decide) ?_
      refine a_iload_n (pc' := 57) 3 dX4_clearHeap_56 rfl rfl rfl ?_
      refine a_iadd (pc' := 58) dX4_clearHeap_57 rfl ?_
      refine a_iconst (pc' := 59) (v := (0 : Int32)) dX4_clearHeap_58 rfl (by decide) ?_
      obtain ⟨hg, hf⟩ := f_grd_x hf
      refine b_iast (pc' := 60) hz.2.1 hg dX4_clearHeap_59 rfl (fun h32002 hz1 hfr1 => ?_)
      obtain ⟨hz1, hfr1⟩ := d_ma_z hz hz1 hfr1
      obtain ⟨M32003, hf, hz⟩ := f_let_x (P := fun w => d_mod h32002 w) hf hz1
      replace hfr := d_frm.tr hfr hfr1 (by omega)
      refine a_iinc (pc' := 63) (v := v3_31 + (1 : Int32)) (ls' := [(3, .int (v3_31 + (1 : Int32))), (2, .int (v2_31 + ((m_z M_31) (((239 : Int32)) + v3_31).toNatClampNeg))), (0, .ref 55), (1, .int a1)]) 3 dX4_clearHeap_60 rfl (by rfl) (by decide) rfl rfl ?_
      refine a_goto 31 dX4_clearHeap_63 (by decide) ?_
      refine a_sub [2, 3, 1, 0] rfl ?_
      exact ih _ _ _ _ hf hX0 _ hz hfr
set_option maxHeartbeats 4000000 in
set_option maxRecDepth 100000 in
theorem c_X4_clearHeap (l : Launch) (g : a_G) (F : Nat) {h : List va_E} {M : d_M} {a1 : Int32} (hz : d_mod h M) {out : Int32 × d_M} (hf : f_X4_clearHeap F M a1 = some out) : a_CT l g yX4_clearHeap cX4_clearHeap 4 (some .int) (a_rm 1 22) [.ref 55, .int a1] h none none (fun r h' => r = some (.int out.1) ∧ d_mod h' out.2 ∧ d_frm 55 6 h h') := by
  refine a_enter ⟨by decide, rfl, Nat.le_of_ble_eq_true rfl⟩ (fun p e s m args below meth c hr hin => ?_)
  unfold f_X4_clearHeap at hf
  have hfr : d_frm 55 6 h h := d_frm.rf
  refine a_sub (ls' := [(0, .ref 55), (1, .int a1)]) [0, 1] rfl ?_
  refine a_aload_n (pc' := 1) 0 dX4_clearHeap_0 rfl rfl rfl ?_
  refine a_iconst (pc' := 2) (v := (0 : Int32)) dX4_clearHeap_1 rfl (by decide) ?_
  refine pt_X4_25 (pc' := 5) hz dX4_clearHeap_2 rfl (fun h1 hz1 hfr1 => ?_)
  obtain ⟨M2, hf, hz⟩ := f_let_x (P := fun w => d_mod h1 w) hf hz1
  replace hfr := d_frm.tr hfr hfr1 (by omega)
  refine a_iload_n (pc' := 6) 1 dX4_clearHeap_5 rfl rfl rfl ?_
  refine a_bipush (pc' := 8) (v := (8 : Int32)) dX4_clearHeap_6 rfl (by decide) ?_
  refine a_bipush (pc' := 10) (v := (25 : Int32)) dX4_clearHeap_8 rfl (by decide) ?_
  obtain ⟨x4, e3, hf⟩ := Option.bind_eq_some_iff.mp hf
  refine k_X4_29 (pc' := 13) (c_X4_within l g F e3) ⟨Nat.le_of_ble_eq_true rfl, Nat.le_of_ble_eq_true rfl⟩ (Nat.le_of_ble_eq_true rfl) dX4_clearHeap_10 rfl ?_
  refine a_if_ne (pc' := 16) 22 dX4_clearHeap_13 (by decide) rfl (fun k5 => ?_) (fun k5 => ?_)
  · replace hf := (if_neg k5).symm.trans hf
    refine a_aload_n (pc' := 23) 0 dX4_clearHeap_22 rfl rfl rfl ?_
    obtain ⟨x7, e6, hf⟩ := Option.bind_eq_some_iff.mp hf
    refine k_X4_63 (pc' := 26) (c_X4_save l g F hz e6) ⟨Nat.le_of_ble_eq_true rfl, Nat.le_of_ble_eq_true rfl⟩ hz.1 (Nat.le_of_ble_eq_true rfl) dX4_clearHeap_23 rfl (fun h8 hq => ?_)
    obtain ⟨hz1, hfr1⟩ := hq
    obtain ⟨M9, hf, hz⟩ := f_let_x (P := fun w => d_mod h8 w) hf hz1
    replace hfr := d_frm.tr hfr hfr1 (by omega)
    refine a_iconst (pc' := 27) (v := (0 : Int32)) dX4_clearHeap_26 rfl (by decide) ?_
    refine a_istore_n (pc' := 28) (ls' := [(2, .int ((0 : Int32))), (0, .ref 55), (1, .int a1)]) dX4_clearHeap_27 rfl (by decide) rfl rfl ?_
    refine a_bipush (pc' := 30) (v := (8 : Int32)) dX4_clearHeap_28 rfl (by decide) ?_
    refine a_istore_n (pc' := 31) (ls' := [(3, .int ((8 : Int32))), (2, .int ((0 : Int32))), (0, .ref 55), (1, .int a1)]) dX4_clearHeap_30 rfl (by decide) rfl rfl ?_
    obtain ⟨o10, e11, hf⟩ := Option.bind_eq_some_iff.mp hf
    refine a_sub [2, 3, 1, 0] rfl ?_
    refine l_X4_clearHeap_L31 F a1  F _ _ _ o10 e11 (fun e9 he9 h12 hz hfr => ?_) _ hz hfr
    subst he9
    refine a_aload_n (pc' := 67) 0 dX4_clearHeap_66 rfl rfl rfl ?_
    refine g_X4_7 (pc' := 70) hz.1 rfl dX4_clearHeap_67 rfl ?_
    refine a_bipush (pc' := 72) (v := (11 : Int32)) dX4_clearHeap_70 rfl (by decide) ?_
    refine a_dup2 (pc' := 73) dX4_clearHeap_72 rfl rfl rfl ?_
    obtain ⟨hg, hf⟩ := f_grd_x hf
    refine b_iald (pc' := 74) hz.2.1 hg dX4_clearHeap_73 rfl ?_
    refine a_iload_n (pc' := 75) 1 dX4_clearHeap_74 rfl rfl rfl ?_
    refine a_iadd (pc' := 76) dX4_clearHeap_75 rfl ?_
    obtain ⟨hg, hf⟩ := f_grd_x hf
    refine b_iast (pc' := 77) hz.2.1 hg dX4_clearHeap_76 rfl (fun h13 hz1 hfr1 => ?_)
    obtain ⟨hz1, hfr1⟩ := d_ma_z hz hz1 hfr1
    obtain ⟨M14, hf, hz⟩ := f_let_x (P := fun w => d_mod h13 w) hf hz1
    replace hfr := d_frm.tr hfr hfr1 (by omega)
    refine a_iload_n (pc' := 78) 1 dX4_clearHeap_77 rfl rfl rfl ?_
    cases hf
    exact a_iret hr ⟨rfl, hz, hfr⟩ dX4_clearHeap_78
  · replace hf := (if_pos k5).symm.trans hf
    refine a_aload_n (pc' := 17) 0 dX4_clearHeap_16 rfl rfl rfl ?_
    refine a_iconst (pc' := 18) (v := (1 : Int32)) dX4_clearHeap_17 rfl (by decide) ?_
    obtain ⟨x16, e15, hf⟩ := Option.bind_eq_some_iff.mp hf
    refine k_X4_60 (pc' := 21) (c_X4_fails l g F hz e15) ⟨Nat.le_of_ble_eq_true rfl, Nat.le_of_ble_eq_true rfl⟩ hz.1 (Nat.le_of_ble_eq_true rfl) dX4_clearHeap_18 rfl (fun h17 hq => ?_)
    obtain ⟨hz1, hfr1⟩ := hq
    obtain ⟨M18, hf, hz⟩ := f_let_x (P := fun w => d_mod h17 w) hf hz1
    replace hfr := d_frm.tr hfr hfr1 (by omega)
    cases hf
    exact a_iret hr ⟨rfl, hz, hfr⟩ dX4_clearHeap_21
/-! SlateRoofModel.lastCourse()I -/
set_option maxRecDepth 100000 in
def f_X4_lastCourse (F : Nat) (M : d_M) : Option (Int32) := f_grd ((2 : Int32)) 294 (some (((m_z M) ((2 : Int32)).toNatClampNeg) - ((1 : Int32))))
set_option maxHeartbeats 4000000 in
set_option maxRecDepth 100000 in
theorem c_X4_lastCourse (l : Launch) (g : a_G) (F : Nat) {h : List va_E} {M : d_M} (hz : d_mod h M) {out : Int32} (hf : f_X4_lastCourse F M = some out) : a_CT l g yX4_lastCourse cX4_lastCourse 1 (some .int) (a_rm 0 0) [.ref 55] h none none (fun r h' => r = some (.int out) ∧ h' = h) := by
  refine a_enter ⟨by decide, rfl, Nat.le_of_ble_eq_true rfl⟩ (fun p e s m args below meth c hr hin => ?_)
  unfold f_X4_lastCourse at hf
  refine a_sub (ls' := [(0, .ref 55)]) [0] rfl ?_
  refine a_aload_n (pc' := 1) 0 dX4_lastCourse_0 rfl rfl rfl ?_
  refine g_X4_7 (pc' := 4) hz.1 rfl dX4_lastCourse_1 rfl ?_
  refine a_iconst (pc' := 5) (v := (2 : Int32)) dX4_lastCourse_4 rfl (by decide) ?_
  obtain ⟨hg, hf⟩ := f_grd_x hf
  refine b_iald (pc' := 6) hz.2.1 hg dX4_lastCourse_5 rfl ?_
  refine a_iconst (pc' := 7) (v := (1 : Int32)) dX4_lastCourse_6 rfl (by decide) ?_
  refine a_isub (pc' := 8) dX4_lastCourse_7 rfl ?_
  cases hf
  exact a_iret hr ⟨rfl, rfl⟩ dX4_lastCourse_8
/-! SlateRoofModel.begins(I)V -/
set_option maxRecDepth 100000 in
def f_X4_begins (F : Nat) (M : d_M) (a1 : Int32) : Option (d_M) := f_grd ((2 : Int32)) 294 (f_grd (((14 : Int32)) + ((m_z M) ((2 : Int32)).toNatClampNeg)) 294 (f_let (ms_z M (upd (m_z M) (((14 : Int32)) + ((m_z M) ((2 : Int32)).toNatClampNeg)).toNatClampNeg a1)) fun M2 => f_grd ((2 : Int32)) 294 (f_grd (((114 : Int32)) + ((m_z M2) ((2 : Int32)).toNatClampNeg)) 294 (f_let (ms_z M2 (upd (m_z M2) (((114 : Int32)) + ((m_z M2) ((2 : Int32)).toNatClampNeg)).toNatClampNeg ((0 : Int32)))) fun M4 => f_grd ((2 : Int32)) 294 (f_grd ((2 : Int32)) 294 (f_let (ms_z M4 (upd (m_z M4) ((2 : Int32)).toNatClampNeg (((m_z M4) ((2 : Int32)).toNatClampNeg) + ((1 : Int32))))) fun M6 => some (M6)))))))
set_option maxHeartbeats 4000000 in
set_option maxRecDepth 100000 in
theorem c_X4_begins (l : Launch) (g : a_G) (F : Nat) {h : List va_E} {M : d_M} {a1 : Int32} (hz : d_mod h M) {out : d_M} (hf : f_X4_begins F M a1 = some out) : a_CT l g yX4_begins cX4_begins 2 none (a_rm 0 0) [.ref 55, .int a1] h none none (fun r h' => r = none ∧ d_mod h' out ∧ d_frm 55 6 h h') := by
  refine a_enter ⟨by decide, rfl, Nat.le_of_ble_eq_true rfl⟩ (fun p e s m args below meth c hr hin => ?_)
  unfold f_X4_begins at hf
  have hfr : d_frm 55 6 h h := d_frm.rf
  refine a_sub (ls' := [(0, .ref 55), (1, .int a1)]) [0, 1] rfl ?_
  refine a_aload_n (pc' := 1) 0 dX4_begins_0 rfl rfl rfl ?_
  refine g_X4_7 (pc' := 4) hz.1 rfl dX4_begins_1 rfl ?_
  refine a_bipush (pc' := 6) (v := (14 : Int32)) dX4_begins_4 rfl (by decide) ?_
  refine a_aload_n (pc' := 7) 0 dX4_begins_6 rfl rfl rfl ?_
  refine g_X4_7 (pc' := 10) hz.1 rfl dX4_begins_7 rfl ?_
  refine a_iconst (pc' := 11) (v := (2 : Int32)) dX4_begins_10 rfl (by decide) ?_
  obtain ⟨hg, hf⟩ := f_grd_x hf
  refine b_iald (pc' := 12) hz.2.1 hg dX4_begins_11 rfl ?_
  refine a_iadd (pc' := 13) dX4_begins_12 rfl ?_
  refine a_iload_n (pc' := 14) 1 dX4_begins_13 rfl rfl rfl ?_
  obtain ⟨hg, hf⟩ := f_grd_x hf
  refine b_iast (pc' := 15) hz.2.1 hg dX4_begins_14 rfl (fun h1 hz1 hfr1 => ?_)
  obtain ⟨hz1, hfr1⟩ := d_ma_z hz hz1 hfr1
  obtain ⟨M2, hf, hz⟩ := f_let_x (P := fun w => d_mod h1 w) hf hz1
  replace hfr := d_frm.tr hfr hfr1 (by omega)
  refine a_aload_n (pc' := 16) 0 dX4_begins_15 rfl rfl rfl ?_
  refine g_X4_7 (pc' := 19) hz.1 rfl dX4_begins_16 rfl ?_
  refine a_bipush (pc' := 21) (v := (114 : Int32)) dX4_begins_19 rfl (by decide) ?_
  refine a_aload_n (pc' := 22) 0 dX4_begins_21 rfl rfl rfl ?_
  refine g_X4_7 (pc' := 25) hz.1 rfl dX4_begins_22 rfl ?_
  refine a_iconst (pc' := 26) (v := (2 : Int32)) dX4_begins_25 rfl (by decide) ?_
  obtain ⟨hg, hf⟩ := f_grd_x hf
  refine b_iald (pc' := 27) hz.2.1 hg dX4_begins_26 rfl ?_
  refine a_iadd (pc' := 28) dX4_begins_27 rfl ?_
  refine a_iconst (pc' := 29) (v := (0 : Int32)) dX4_begins_28 rfl (by decide) ?_
  obtain ⟨hg, hf⟩ := f_grd_x hf
  refine b_iast (pc' := 30) hz.2.1 hg dX4_begins_29 rfl (fun h3 hz1 hfr1 => ?_)
  obtain ⟨hz1, hfr1⟩ := d_ma_z hz hz1 hfr1
  obtain ⟨M4, hf, hz⟩ := f_let_x (P := fun w => d_mod h3 w) hf hz1
  replace hfr := d_frm.tr hfr hfr1 (by omega)
  refine a_aload_n (pc' := 31) 0 dX4_begins_30 rfl rfl rfl ?_
  refine g_X4_7 (pc' := 34) hz.1 rfl dX4_begins_31 rfl ?_
  refine a_iconst (pc' := 35) (v := (2 : Int32)) dX4_begins_34 rfl (by decide) ?_
  refine a_dup2 (pc' := 36) dX4_begins_35 rfl rfl rfl ?_
  obtain ⟨hg, hf⟩ := f_grd_x hf
  refine b_iald (pc' := 37) hz.2.1 hg dX4_begins_36 rfl ?_
  refine a_iconst (pc' := 38) (v := (1 : Int32)) dX4_begins_37 rfl (by decide) ?_
  refine a_iadd (pc' := 39) dX4_begins_38 rfl ?_
  obtain ⟨hg, hf⟩ := f_grd_x hf
  refine b_iast (pc' := 40) hz.2.1 hg dX4_begins_39 rfl (fun h5 hz1 hfr1 => ?_)
  obtain ⟨hz1, hfr1⟩ := d_ma_z hz hz1 hfr1
  obtain ⟨M6, hf, hz⟩ := f_let_x (P := fun w => d_mod h5 w) hf hz1
  replace hfr := d_frm.tr hfr hfr1 (by omega)
  cases hf
  exact a_vret hr ⟨rfl, hz, hfr⟩ dX4_begins_40
/-! SlateRoofModel.course(I)I -/
set_option maxRecDepth 100000 in
def f_X4_course (F : Nat) (M : d_M) (a1 : Int32) : Option (Int32 × d_M) := f_let (ms_thrown M ((0 : Int32))) fun M2 => (f_X4_isLength F a1).bind fun x4 => (if x4 = 0 then (f_X4_fails F M2 ((1 : Int32))).bind fun x63 => f_let x63.2 fun M65 => some ((x63.1, M65)) else (f_X4_isDry F M2).bind fun x7 => (if x7 = 0 then (f_X4_fails F M2 ((2 : Int32))).bind fun x10 => f_let x10.2 fun M12 => some ((x10.1, M12)) else f_grd ((2 : Int32)) 294 ((if ((100 : Int32)) ≤ ((m_z M2) ((2 : Int32)).toNatClampNeg) then (f_X4_fails F M2 ((2 : Int32))).bind fun x15 => f_let x15.2 fun M17 => some ((x15.1, M17)) else (f_X4_longest F M2).bind fun x19 => (if x19 < a1 then (f_X4_fails F M2 ((2 : Int32))).bind fun x22 => f_let x22.2 fun M24 => some ((x22.1, M24)) else (f_X4_top F M2).bind fun x26 => f_grd ((0 : Int32)) 294 ((if ((m_z M2) ((0 : Int32)).toNatClampNeg) ≤ x26 then (f_X4_fails F M2 ((2 : Int32))).bind fun x29 => f_let x29.2 fun M31 => some ((x29.1, M31)) else f_grd ((2 : Int32)) 294 ((if ((m_z M2) ((2 : Int32)).toNatClampNeg) ≤ 0 then (f_X4_save F M2).bind fun x34 => f_let x34 fun M36 => (f_X4_begins F M36 a1).bind fun x38 => f_let x38 fun M40 => (f_X4_lastCourse F M40).bind fun x42 => some ((x42, M40)) else (f_X4_lastCourse F M2).bind fun x44 => (f_X4_firstGap F M2 x44).bind fun x46 => (if x46 = ((-1 : Int32)) then (f_X4_save F M2).bind fun x49 => f_let x49 fun M51 => (f_X4_begins F M51 a1).bind fun x53 => f_let x53 fun M55 => (f_X4_lastCourse F M55).bind fun x57 => some ((x57, M55)) else (f_X4_fails F M2 ((2 : Int32))).bind fun x59 => f_let x59.2 fun M61 => some ((x59.1, M61))))))))))))
set_option maxHeartbeats 4000000 in
set_option maxRecDepth 100000 in
theorem c_X4_course (l : Launch) (g : a_G) (F : Nat) {h : List va_E} {M : d_M} {a1 : Int32} (hz : d_mod h M) {out : Int32 × d_M} (hf : f_X4_course F M a1 = some out) : a_CT l g yX4_course cX4_course 3 (some .int) (a_rm 3 64) [.ref 55, .int a1] h none none (fun r h' => r = some (.int out.1) ∧ d_mod h' out.2 ∧ d_frm 55 6 h h') := by
  refine a_enter ⟨by decide, rfl, Nat.le_of_ble_eq_true rfl⟩ (fun p e s m args below meth c hr hin => ?_)
  unfold f_X4_course at hf
  have hfr : d_frm 55 6 h h := d_frm.rf
  refine a_sub (ls' := [(0, .ref 55), (1, .int a1)]) [0, 1] rfl ?_
  refine a_aload_n (pc' := 1) 0 dX4_course_0 rfl rfl rfl ?_
  refine a_iconst (pc' := 2) (v := (0 : Int32)) dX4_course_1 rfl (by decide) ?_
  refine pt_X4_25 (pc' := 5) hz dX4_course_2 rfl (fun h1 hz1 hfr1 => ?_)
  obtain ⟨M2, hf, hz⟩ := f_let_x (P := fun w => d_mod h1 w) hf hz1
  replace hfr := d_frm.tr hfr hfr1 (by omega)
  refine a_iload_n (pc' := 6) 1 dX4_course_5 rfl rfl rfl ?_
  obtain ⟨x4, e3, hf⟩ := Option.bind_eq_some_iff.mp hf
  refine k_X4_69 (pc' := 9) (c_X4_isLength l g F e3) ⟨Nat.le_of_ble_eq_true rfl, Nat.le_of_ble_eq_true rfl⟩ (Nat.le_of_ble_eq_true rfl) dX4_course_6 rfl ?_
  refine a_if_ne (pc' := 12) 18 dX4_course_9 (by decide) rfl (fun k5 => ?_) (fun k5 => ?_)
  · replace hf := (if_neg k5).symm.trans hf
    refine a_aload_n (pc' := 19) 0 dX4_course_18 rfl rfl rfl ?_
    obtain ⟨x7, e6, hf⟩ := Option.bind_eq_some_iff.mp hf
    refine k_X4_80 (pc' := 22) (c_X4_isDry l g F hz e6) ⟨Nat.le_of_ble_eq_true rfl, Nat.le_of_ble_eq_true rfl⟩ hz.1 (Nat.le_of_ble_eq_true rfl) dX4_course_19 rfl ?_
    refine a_if_eq (pc' := 25) 61 dX4_course_22 (by decide) rfl (fun k8 => ?_) (fun k8 => ?_)
    · replace hf := (if_pos k8).symm.trans hf
      refine a_iconst (pc' := 62) (v := (0 : Int32)) dX4_course_61 rfl (by decide) ?_
      refine a_istore_n (pc' := 63) (ls' := [(2, .int ((0 : Int32))), (0, .ref 55), (1, .int a1)]) dX4_course_62 rfl (by decide) rfl rfl ?_
      refine a_iload_n (pc' := 64) 0 dX4_course_63 rfl rfl rfl ?_
      refine a_if_eq (pc' := 67) 88 dX4_course_64 (by decide) rfl (fun _ => ?_) (fun cc => absurd cc (by decide))
      refine a_aload_n (pc' := 89) 1 dX4_course_88 rfl rfl rfl ?_
      refine a_iconst (pc' := 90) (v := (2 : Int32)) dX4_course_89 rfl (by decide) ?_
      obtain ⟨x10, e9, hf⟩ := Option.bind_eq_some_iff.mp hf
      refine k_X4_60 (pc' := 93) (c_X4_fails l g F hz e9) ⟨Nat.le_of_ble_eq_true rfl, Nat.le_of_ble_eq_true rfl⟩ hz.1 (Nat.le_of_ble_eq_true rfl) dX4_course_90 rfl (fun h11 hq => ?_)
      obtain ⟨hz1, hfr1⟩ := hq
      obtain ⟨M12, hf, hz⟩ := f_let_x (P := fun w => d_mod h11 w) hf hz1
      replace hfr := d_frm.tr hfr hfr1 (by omega)
      cases hf
      exact a_iret hr ⟨rfl, hz, hfr⟩ dX4_course_93
    · replace hf := (if_neg k8).symm.trans hf
      refine a_aload_n (pc' := 26) 0 dX4_course_25 rfl rfl rfl ?_
      refine g_X4_7 (pc' := 29) hz.1 rfl dX4_course_26 rfl ?_
      refine a_iconst (pc' := 30) (v := (2 : Int32)) dX4_course_29 rfl (by decide) ?_
      obtain ⟨hg, hf⟩ := f_grd_x hf
      refine b_iald (pc' := 31) hz.2.1 hg dX4_course_30 rfl ?_
      refine a_bipush (pc' := 33) (v := (100 : Int32)) dX4_course_31 rfl (by decide) ?_
      refine a_icmp_ge (pc' := 36) 61 dX4_course_33 (by decide) rfl (fun k13 => ?_) (fun k13 => ?_)
      · replace hf := (if_pos k13).symm.trans hf
        refine a_iconst (pc' := 62) (v := (0 : Int32)) dX4_course_61 rfl (by decide) ?_
        refine a_istore_n (pc' := 63) (ls' := [(2, .int ((0 : Int32))), (0, .ref 55), (1, .int a1)]) dX4_course_62 rfl (by decide) rfl rfl ?_
        refine a_iload_n (pc' := 64) 0 dX4_course_63 rfl rfl rfl ?_
        refine a_if_eq (pc' := 67) 88 dX4_course_64 (by decide) rfl (fun _ => ?_) (fun cc => absurd cc (by decide))
        refine a_aload_n (pc' := 89) 1 dX4_course_88 rfl rfl rfl ?_
        refine a_iconst (pc' := 90) (v := (2 : Int32)) dX4_course_89 rfl (by decide) ?_
        obtain ⟨x15, e14, hf⟩ := Option.bind_eq_some_iff.mp hf
        refine k_X4_60 (pc' := 93) (c_X4_fails l g F hz e14) ⟨Nat.le_of_ble_eq_true rfl, Nat.le_of_ble_eq_true rfl⟩ hz.1 (Nat.le_of_ble_eq_true rfl) dX4_course_90 rfl (fun h16 hq => ?_)
        obtain ⟨hz1, hfr1⟩ := hq
        obtain ⟨M17, hf, hz⟩ := f_let_x (P := fun w => d_mod h16 w) hf hz1
        replace hfr := d_frm.tr hfr hfr1 (by omega)
        cases hf
        exact a_iret hr ⟨rfl, hz, hfr⟩ dX4_course_93
      · replace hf := (if_neg k13).symm.trans hf
        refine a_iload_n (pc' := 37) 1 dX4_course_36 rfl rfl rfl ?_
        refine a_aload_n (pc' := 38) 0 dX4_course_37 rfl rfl rfl ?_
        obtain ⟨x19, e18, hf⟩ := Option.bind_eq_some_iff.mp hf
        refine k_X4_84 (pc' := 41) (c_X4_longest l g F hz e18) ⟨Nat.le_of_ble_eq_true rfl, Nat.le_of_ble_eq_true rfl⟩ hz.1 (Nat.le_of_ble_eq_true rfl) dX4_course_38 rfl ?_
        refine a_icmp_gt (pc' := 44) 61 dX4_course_41 (by decide) rfl (fun k20 => ?_) (fun k20 => ?_)
        · replace hf := (if_pos k20).symm.trans hf
          refine a_iconst (pc' := 62) (v := (0 : Int32)) dX4_course_61 rfl (by decide) ?_
          refine a_istore_n (pc' := 63) (ls' := [(2, .int ((0 : Int32))), (0, .ref 55), (1, .int a1)]) dX4_course_62 rfl (by decide) rfl rfl ?_
          refine a_iload_n (pc' := 64) 0 dX4_course_63 rfl rfl rfl ?_
          refine a_if_eq (pc' := 67) 88 dX4_course_64 (by decide) rfl (fun _ => ?_) (fun cc => absurd cc (by decide))
          refine a_aload_n (pc' := 89) 1 dX4_course_88 rfl rfl rfl ?_
          refine a_iconst (pc' := 90) (v := (2 : Int32)) dX4_course_89 rfl (by decide) ?_
          obtain ⟨x22, e21, hf⟩ := Option.bind_eq_some_iff.mp hf
          refine k_X4_60 (pc' := 93) (c_X4_fails l g F hz e21) ⟨Nat.le_of_ble_eq_true rfl, Nat.le_of_ble_eq_true rfl⟩ hz.1 (Nat.le_of_ble_eq_true rfl) dX4_course_90 rfl (fun h23 hq => ?_)
          obtain ⟨hz1, hfr1⟩ := hq
          obtain ⟨M24, hf, hz⟩ := f_let_x (P := fun w => d_mod h23 w) hf hz1
          replace hfr := d_frm.tr hfr hfr1 (by omega)
          cases hf
          exact a_iret hr ⟨rfl, hz, hfr⟩ dX4_course_93
        · replace hf := (if_neg k20).symm.trans hf
          refine a_aload_n (pc' := 45) 0 dX4_course_44 rfl rfl rfl ?_
          obtain ⟨x26, e25, hf⟩ := Option.bind_eq_some_iff.mp hf
          refine k_X4_53 (pc' := 48) (c_X4_top l g F hz e25) ⟨Nat.le_of_ble_eq_true rfl, Nat.le_of_ble_eq_true rfl⟩ hz.1 (Nat.le_of_ble_eq_true rfl) dX4_course_45 rfl ?_
          refine a_aload_n (pc' := 49) 0 dX4_course_48 rfl rfl rfl ?_
          refine g_X4_7 (pc' := 52) hz.1 rfl dX4_course_49 rfl ?_
          refine a_iconst (pc' := 53) (v := (0 : Int32)) dX4_course_52 rfl (by decide) ?_
          obtain ⟨hg, hf⟩ := f_grd_x hf
          refine b_iald (pc' := 54) hz.2.1 hg dX4_course_53 rfl ?_
          refine a_icmp_ge (pc' := 57) 61 dX4_course_54 (by decide) rfl (fun k27 => ?_) (fun k27 => ?_)
          · replace hf := (if_pos k27).symm.trans hf
            refine a_iconst (pc' := 62) (v := (0 : Int32)) dX4_course_61 rfl (by decide) ?_
            refine a_istore_n (pc' := 63) (ls' := [(2, .int ((0 : Int32))), (0, .ref 55), (1, .int a1)]) dX4_course_62 rfl (by decide) rfl rfl ?_
            refine a_iload_n (pc' := 64) 0 dX4_course_63 rfl rfl rfl ?_
            refine a_if_eq (pc' := 67) 88 dX4_course_64 (by decide) rfl (fun _ => ?_) (fun cc => absurd cc (by decide))
            refine a_aload_n (pc' := 89) 1 dX4_course_88 rfl rfl rfl ?_
            refine a_iconst (pc' := 90) (v := (2 : Int32)) dX4_course_89 rfl (by decide) ?_
            obtain ⟨x29, e28, hf⟩ := Option.bind_eq_some_iff.mp hf
            refine k_X4_60 (pc' := 93) (c_X4_fails l g F hz e28) ⟨Nat.le_of_ble_eq_true rfl, Nat.le_of_ble_eq_true rfl⟩ hz.1 (Nat.le_of_ble_eq_true rfl) dX4_course_90 rfl (fun h30 hq => ?_)
            obtain ⟨hz1, hfr1⟩ := hq
            obtain ⟨M31, hf, hz⟩ := f_let_x (P := fun w => d_mod h30 w) hf hz1
            replace hfr := d_frm.tr hfr hfr1 (by omega)
            cases hf
            exact a_iret hr ⟨rfl, hz, hfr⟩ dX4_course_93
          · replace hf := (if_neg k27).symm.trans hf
            refine a_iconst (pc' := 58) (v := (1 : Int32)) dX4_course_57 rfl (by decide) ?_
            refine a_goto 62 dX4_course_58 (by decide) ?_
            refine a_istore_n (pc' := 63) (ls' := [(2, .int ((1 : Int32))), (0, .ref 55), (1, .int a1)]) dX4_course_62 rfl (by decide) rfl rfl ?_
            refine a_iload_n (pc' := 64) 0 dX4_course_63 rfl rfl rfl ?_
            refine a_if_eq (pc' := 67) 88 dX4_course_64 (by decide) rfl (fun cc => absurd cc (by decide)) (fun _ => ?_)
            refine a_aload_n (pc' := 68) 1 dX4_course_67 rfl rfl rfl ?_
            refine g_X4_7 (pc' := 71) hz.1 rfl dX4_course_68 rfl ?_
            refine a_iconst (pc' := 72) (v := (2 : Int32)) dX4_course_71 rfl (by decide) ?_
            obtain ⟨hg, hf⟩ := f_grd_x hf
            refine b_iald (pc' := 73) hz.2.1 hg dX4_course_72 rfl ?_
            refine a_if_le (pc' := 76) 94 dX4_course_73 (by decide) rfl (fun k32 => ?_) (fun k32 => ?_)
            · replace hf := (if_pos k32).symm.trans hf
              refine a_aload_n (pc' := 95) 1 dX4_course_94 rfl rfl rfl ?_
              obtain ⟨x34, e33, hf⟩ := Option.bind_eq_some_iff.mp hf
              refine k_X4_63 (pc' := 98) (c_X4_save l g F hz e33) ⟨Nat.le_of_ble_eq_true rfl, Nat.le_of_ble_eq_true rfl⟩ hz.1 (Nat.le_of_ble_eq_true rfl) dX4_course_95 rfl (fun h35 hq => ?_)
              obtain ⟨hz1, hfr1⟩ := hq
              obtain ⟨M36, hf, hz⟩ := f_let_x (P := fun w => d_mod h35 w) hf hz1
              replace hfr := d_frm.tr hfr hfr1 (by omega)
              refine a_aload_n (pc' := 99) 1 dX4_course_98 rfl rfl rfl ?_
              refine a_iload_n (pc' := 100) 2 dX4_course_99 rfl rfl rfl ?_
              obtain ⟨x38, e37, hf⟩ := Option.bind_eq_some_iff.mp hf
              refine k_X4_93 (pc' := 103) (c_X4_begins l g F hz e37) ⟨Nat.le_of_ble_eq_true rfl, Nat.le_of_ble_eq_true rfl⟩ hz.1 (Nat.le_of_ble_eq_true rfl) dX4_course_100 rfl (fun h39 hq => ?_)
              obtain ⟨hz1, hfr1⟩ := hq
              obtain ⟨M40, hf, hz⟩ := f_let_x (P := fun w => d_mod h39 w) hf hz1
              replace hfr := d_frm.tr hfr hfr1 (by omega)
              refine a_aload_n (pc' := 104) 1 dX4_course_103 rfl rfl rfl ?_
              obtain ⟨x42, e41, hf⟩ := Option.bind_eq_some_iff.mp hf
              refine k_X4_87 (pc' := 107) (c_X4_lastCourse l g F hz e41) ⟨Nat.le_of_ble_eq_true rfl, Nat.le_of_ble_eq_true rfl⟩ hz.1 (Nat.le_of_ble_eq_true rfl) dX4_course_104 rfl ?_
              cases hf
              exact a_iret hr ⟨rfl, hz, hfr⟩ dX4_course_107
            · replace hf := (if_neg k32).symm.trans hf
              refine a_aload_n (pc' := 77) 1 dX4_course_76 rfl rfl rfl ?_
              refine a_aload_n (pc' := 78) 1 dX4_course_77 rfl rfl rfl ?_
              obtain ⟨x44, e43, hf⟩ := Option.bind_eq_some_iff.mp hf
              refine k_X4_87 (pc' := 81) (c_X4_lastCourse l g F hz e43) ⟨Nat.le_of_ble_eq_true rfl, Nat.le_of_ble_eq_true rfl⟩ hz.1 (Nat.le_of_ble_eq_true rfl) dX4_course_78 rfl ?_
              obtain ⟨x46, e45, hf⟩ := Option.bind_eq_some_iff.mp hf
              refine k_X4_90 (pc' := 84) (c_X4_firstGap l g F hz e45) ⟨Nat.le_of_ble_eq_true rfl, Nat.le_of_ble_eq_true rfl⟩ hz.1 (Nat.le_of_ble_eq_true rfl) dX4_course_81 rfl ?_
              refine a_iconst (pc' := 85) (v := (-1 : Int32)) dX4_course_84 rfl (by decide) ?_
              refine a_icmp_eq (pc' := 88) 94 dX4_course_85 (by decide) rfl (fun k47 => ?_) (fun k47 => ?_)
              · replace hf := (if_pos k47).symm.trans hf
                refine a_aload_n (pc' := 95) 1 dX4_course_94 rfl rfl rfl ?_
                obtain ⟨x49, e48, hf⟩ := Option.bind_eq_some_iff.mp hf
                refine k_X4_63 (pc' := 98) (c_X4_save l g F hz e48) ⟨Nat.le_of_ble_eq_true rfl, Nat.le_of_ble_eq_true rfl⟩ hz.1 (Nat.le_of_ble_eq_true rfl) dX4_course_95 rfl (fun h50 hq => ?_)
                obtain ⟨hz1, hfr1⟩ := hq
                obtain ⟨M51, hf, hz⟩ := f_let_x (P := fun w => d_mod h50 w) hf hz1
                replace hfr := d_frm.tr hfr hfr1 (by omega)
                refine a_aload_n (pc' := 99) 1 dX4_course_98 rfl rfl rfl ?_
                refine a_iload_n (pc' := 100) 2 dX4_course_99 rfl rfl rfl ?_
                obtain ⟨x53, e52, hf⟩ := Option.bind_eq_some_iff.mp hf
                refine k_X4_93 (pc' := 103) (c_X4_begins l g F hz e52) ⟨Nat.le_of_ble_eq_true rfl, Nat.le_of_ble_eq_true rfl⟩ hz.1 (Nat.le_of_ble_eq_true rfl) dX4_course_100 rfl (fun h54 hq => ?_)
                obtain ⟨hz1, hfr1⟩ := hq
                obtain ⟨M55, hf, hz⟩ := f_let_x (P := fun w => d_mod h54 w) hf hz1
                replace hfr := d_frm.tr hfr hfr1 (by omega)
                refine a_aload_n (pc' := 104) 1 dX4_course_103 rfl rfl rfl ?_
                obtain ⟨x57, e56, hf⟩ := Option.bind_eq_some_iff.mp hf
                refine k_X4_87 (pc' := 107) (c_X4_lastCourse l g F hz e56) ⟨Nat.le_of_ble_eq_true rfl, Nat.le_of_ble_eq_true rfl⟩ hz.1 (Nat.le_of_ble_eq_true rfl) dX4_course_104 rfl ?_
                cases hf
                exact a_iret hr ⟨rfl, hz, hfr⟩ dX4_course_107
              · replace hf := (if_neg k47).symm.trans hf
                refine a_aload_n (pc' := 89) 1 dX4_course_88 rfl rfl rfl ?_
                refine a_iconst (pc' := 90) (v := (2 : Int32)) dX4_course_89 rfl (by decide) ?_
                obtain ⟨x59, e58, hf⟩ := Option.bind_eq_some_iff.mp hf
                refine k_X4_60 (pc' := 93) (c_X4_fails l g F hz e58) ⟨Nat.le_of_ble_eq_true rfl, Nat.le_of_ble_eq_true rfl⟩ hz.1 (Nat.le_of_ble_eq_true rfl) dX4_course_90 rfl (fun h60 hq => ?_)
                obtain ⟨hz1, hfr1⟩ := hq
                obtain ⟨M61, hf, hz⟩ := f_let_x (P := fun w => d_mod h60 w) hf hz1
                replace hfr := d_frm.tr hfr hfr1 (by omega)
                cases hf
                exact a_iret hr ⟨rfl, hz, hfr⟩ dX4_course_93
  · replace hf := (if_pos k5).symm.trans hf
    refine a_aload_n (pc' := 13) 0 dX4_course_12 rfl rfl rfl ?_
    refine a_iconst (pc' := 14) (v := (1 : Int32)) dX4_course_13 rfl (by decide) ?_
    obtain ⟨x63, e62, hf⟩ := Option.bind_eq_some_iff.mp hf
    refine k_X4_60 (pc' := 17) (c_X4_fails l g F hz e62) ⟨Nat.le_of_ble_eq_true rfl, Nat.le_of_ble_eq_true rfl⟩ hz.1 (Nat.le_of_ble_eq_true rfl) dX4_course_14 rfl (fun h64 hq => ?_)
    obtain ⟨hz1, hfr1⟩ := hq
    obtain ⟨M65, hf, hz⟩ := f_let_x (P := fun w => d_mod h64 w) hf hz1
    replace hfr := d_frm.tr hfr hfr1 (by omega)
    cases hf
    exact a_iret hr ⟨rfl, hz, hfr⟩ dX4_course_17
/-! SlateRoofModel.lays(III)V -/
set_option maxRecDepth 100000 in
def f_X4_lays (F : Nat) (M : d_M) (a1 : Int32) (a2 : Int32) (a3 : Int32) : Option (d_M) := f_grd (((114 : Int32)) + a1) 294 (f_grd (((114 : Int32)) + a1) 294 (f_let (ms_z M (upd (m_z M) (((114 : Int32)) + a1).toNatClampNeg (((m_z M) (((114 : Int32)) + a1).toNatClampNeg) ||| (((1 : Int32)) <<< (a2 &&& 31))))) fun M2 => f_grd (((14 : Int32)) + a1) 294 (f_grd (((214 : Int32)) + ((m_z M2) (((14 : Int32)) + a1).toNatClampNeg)) 294 (f_grd (((214 : Int32)) + ((m_z M2) (((14 : Int32)) + a1).toNatClampNeg)) 294 (f_let (ms_z M2 (upd (m_z M2) (((214 : Int32)) + ((m_z M2) (((14 : Int32)) + a1).toNatClampNeg)).toNatClampNeg (((m_z M2) (((214 : Int32)) + ((m_z M2) (((14 : Int32)) + a1).toNatClampNeg)).toNatClampNeg) - ((1 : Int32))))) fun M4 => f_grd ((7 : Int32)) 294 (f_grd ((7 : Int32)) 294 (f_let (ms_z M4 (upd (m_z M4) ((7 : Int32)).toNatClampNeg (((m_z M4) ((7 : Int32)).toNatClampNeg) - a3))) fun M6 => some (M6))))))))
set_option maxHeartbeats 4000000 in
set_option maxRecDepth 100000 in
theorem c_X4_lays (l : Launch) (g : a_G) (F : Nat) {h : List va_E} {M : d_M} {a1 : Int32} {a2 : Int32} {a3 : Int32} (hz : d_mod h M) {out : d_M} (hf : f_X4_lays F M a1 a2 a3 = some out) : a_CT l g yX4_lays cX4_lays 4 none (a_rm 0 0) [.ref 55, .int a1, .int a2, .int a3] h none none (fun r h' => r = none ∧ d_mod h' out ∧ d_frm 55 6 h h') := by
  refine a_enter ⟨by decide, rfl, Nat.le_of_ble_eq_true rfl⟩ (fun p e s m args below meth c hr hin => ?_)
  unfold f_X4_lays at hf
  have hfr : d_frm 55 6 h h := d_frm.rf
  refine a_sub (ls' := [(0, .ref 55), (1, .int a1), (2, .int a2), (3, .int a3)]) [0, 1, 2, 3] rfl ?_
  refine a_aload_n (pc' := 1) 0 dX4_lays_0 rfl rfl rfl ?_
  refine g_X4_7 (pc' := 4) hz.1 rfl dX4_lays_1 rfl ?_
  refine a_bipush (pc' := 6) (v := (114 : Int32)) dX4_lays_4 rfl (by decide) ?_
  refine a_iload_n (pc' := 7) 1 dX4_lays_6 rfl rfl rfl ?_
  refine a_iadd (pc' := 8) dX4_lays_7 rfl ?_
  refine a_dup2 (pc' := 9) dX4_lays_8 rfl rfl rfl ?_
  obtain ⟨hg, hf⟩ := f_grd_x hf
  refine b_iald (pc' := 10) hz.2.1 hg dX4_lays_9 rfl ?_
  refine a_iconst (pc' := 11) (v := (1 : Int32)) dX4_lays_10 rfl (by decide) ?_
  refine a_iload_n (pc' := 12) 2 dX4_lays_11 rfl rfl rfl ?_
  refine a_ishl (pc' := 13) dX4_lays_12 rfl ?_
  refine a_ior (pc' := 14) dX4_lays_13 rfl ?_
  obtain ⟨hg, hf⟩ := f_grd_x hf
  refine b_iast (pc' := 15) hz.2.1 hg dX4_lays_14 rfl (fun h1 hz1 hfr1 => ?_)
  obtain ⟨hz1, hfr1⟩ := d_ma_z hz hz1 hfr1
  obtain ⟨M2, hf, hz⟩ := f_let_x (P := fun w => d_mod h1 w) hf hz1
  replace hfr := d_frm.tr hfr hfr1 (by omega)
  refine a_aload_n (pc' := 16) 0 dX4_lays_15 rfl rfl rfl ?_
  refine g_X4_7 (pc' := 19) hz.1 rfl dX4_lays_16 rfl ?_
  refine a_sipush (pc' := 22) (v := (214 : Int32)) dX4_lays_19 rfl (by decide) ?_
  refine a_aload_n (pc' := 23) 0 dX4_lays_22 rfl rfl rfl ?_
  refine g_X4_7 (pc' := 26) hz.1 rfl dX4_lays_23 rfl ?_
  refine a_bipush (pc' := 28) (v := (14 : Int32)) dX4_lays_26 rfl (by decide) ?_
  refine a_iload_n (pc' := 29) 1 dX4_lays_28 rfl rfl rfl ?_
  refine a_iadd (pc' := 30) dX4_lays_29 rfl ?_
  obtain ⟨hg, hf⟩ := f_grd_x hf
  refine b_iald (pc' := 31) hz.2.1 hg dX4_lays_30 rfl ?_
  refine a_iadd (pc' := 32) dX4_lays_31 rfl ?_
  refine a_dup2 (pc' := 33) dX4_lays_32 rfl rfl rfl ?_
  obtain ⟨hg, hf⟩ := f_grd_x hf
  refine b_iald (pc' := 34) hz.2.1 hg dX4_lays_33 rfl ?_
  refine a_iconst (pc' := 35) (v := (1 : Int32)) dX4_lays_34 rfl (by decide) ?_
  refine a_isub (pc' := 36) dX4_lays_35 rfl ?_
  obtain ⟨hg, hf⟩ := f_grd_x hf
  refine b_iast (pc' := 37) hz.2.1 hg dX4_lays_36 rfl (fun h3 hz1 hfr1 => ?_)
  obtain ⟨hz1, hfr1⟩ := d_ma_z hz hz1 hfr1
  obtain ⟨M4, hf, hz⟩ := f_let_x (P := fun w => d_mod h3 w) hf hz1
  replace hfr := d_frm.tr hfr hfr1 (by omega)
  refine a_aload_n (pc' := 38) 0 dX4_lays_37 rfl rfl rfl ?_
  refine g_X4_7 (pc' := 41) hz.1 rfl dX4_lays_38 rfl ?_
  refine a_bipush (pc' := 43) (v := (7 : Int32)) dX4_lays_41 rfl (by decide) ?_
  refine a_dup2 (pc' := 44) dX4_lays_43 rfl rfl rfl ?_
  obtain ⟨hg, hf⟩ := f_grd_x hf
  refine b_iald (pc' := 45) hz.2.1 hg dX4_lays_44 rfl ?_
  refine a_iload_n (pc' := 46) 3 dX4_lays_45 rfl rfl rfl ?_
  refine a_isub (pc' := 47) dX4_lays_46 rfl ?_
  obtain ⟨hg, hf⟩ := f_grd_x hf
  refine b_iast (pc' := 48) hz.2.1 hg dX4_lays_47 rfl (fun h5 hz1 hfr1 => ?_)
  obtain ⟨hz1, hfr1⟩ := d_ma_z hz hz1 hfr1
  obtain ⟨M6, hf, hz⟩ := f_let_x (P := fun w => d_mod h5 w) hf hz1
  replace hfr := d_frm.tr hfr hfr1 (by omega)
  cases hf
  exact a_vret hr ⟨rfl, hz, hfr⟩ dX4_lays_48
/-! SlateRoofModel.lay(I)I -/
set_option maxRecDepth 100000 in
def f_X4_lay_L97 (F : Nat) (a1 : Int32) (x7 : Int32) : Nat → Int32 → d_M → Option (Int32 × d_M)
  | 0, _, _ => none
  | n + 1, v3_97, M_97 => (if a1 ≤ v3_97 then some (v3_97, M_97) else (f_X4_firstGap F M_97 x7).bind fun x98003 => (f_X4_lays F M_97 x7 x98003 ((1 : Int32))).bind fun x98005 => f_let x98005 fun M98007 => f_X4_lay_L97 F a1 x7 n (v3_97 + (1 : Int32)) M98007)
set_option maxRecDepth 100000 in
def f_X4_lay (F : Nat) (M : d_M) (a1 : Int32) : Option (Int32 × d_M) := f_let (ms_thrown M ((0 : Int32))) fun M2 => (f_X4_within F a1 ((1 : Int32)) ((60 : Int32))).bind fun x4 => (if x4 = 0 then (f_X4_fails F M2 ((1 : Int32))).bind fun x49 => f_let x49.2 fun M51 => some ((x49.1, M51)) else (f_X4_lastCourse F M2).bind fun x7 => (f_X4_isDry F M2).bind fun x9 => (if x9 = 0 then (f_X4_fails F M2 ((2 : Int32))).bind fun x12 => f_let x12.2 fun M14 => some ((x12.1, M14)) else (if x7 < 0 then (f_X4_fails F M2 ((2 : Int32))).bind fun x17 => f_let x17.2 fun M19 => some ((x17.1, M19)) else (f_X4_placesOf F M2 x7).bind fun x21 => (f_X4_liesIn F M2 x7).bind fun x23 => (if (x21 - x23) < a1 then (f_X4_fails F M2 ((2 : Int32))).bind fun x26 => f_let x26.2 fun M28 => some ((x26.1, M28)) else f_grd (((14 : Int32)) + x7) 294 (f_grd (((214 : Int32)) + ((m_z M2) (((14 : Int32)) + x7).toNatClampNeg)) 294 ((if ((m_z M2) (((214 : Int32)) + ((m_z M2) (((14 : Int32)) + x7).toNatClampNeg)).toNatClampNeg) < a1 then (f_X4_fails F M2 ((2 : Int32))).bind fun x31 => f_let x31.2 fun M33 => some ((x31.1, M33)) else f_grd ((7 : Int32)) 294 ((if a1 ≤ ((m_z M2) ((7 : Int32)).toNatClampNeg) then (f_X4_save F M2).bind fun x36 => f_let x36 fun M38 => (f_X4_lay_L97 F a1 x7 F ((0 : Int32)) M38).bind fun o39 => (f_X4_liesIn F o39.2 x7).bind fun x43 => some ((x43, o39.2)) else (f_X4_fails F M2 ((2 : Int32))).bind fun x45 => f_let x45.2 fun M47 => some ((x45.1, M47)))))))))))
set_option maxHeartbeats 4000000 in
set_option maxRecDepth 100000 in
theorem l_X4_lay_L97 {p : Program} {l : Launch} {e : Env} {s : State} {m : MethodId} {args : Array Value} {below : List Frame} {meth : Method} {c : Code} {Q : State → Prop} {g : a_G} (F : Nat) {h : List va_E} (a1 : Int32) (x7 : Int32) : ∀ (n : Nat) (v3_97 : Int32) (M_97 : d_M) (o : Int32 × d_M), f_X4_lay_L97 F a1 x7 n v3_97 M_97 = some o → (∀ e9 : Int32 × d_M, o = e9 → ∀ h1, d_mod h1 e9.2 → d_frm 55 6 h h1 → a_W p l e (a_rm 2 45) s m args below meth c Q RX4 cX4_lay 4 g 0 0 none 119 [(0, .ref 55), (2, .int x7)] [] h1) → ∀ h1, d_mod h1 M_97 → d_frm 55 6 h h1 → a_W p l e (a_rm 2 45) s m args below meth c Q RX4 cX4_lay 4 g 0 0 none 97 [(0, .ref 55), (1, .int a1), (2, .int x7), (3, .int v3_97)] [] h1 := by
  intro n
  induction n with
  | zero => intro v3_97 M_97 o hf; exact nomatch (show (none : Option (Int32 × d_M)) = some o from hf)
  | succ n ih =>
    intro v3_97 M_97 o hf hX0 h1 hz hfr
    rw [f_X4_lay_L97] at hf
    refine a_iload_n (pc' := 98) 3 dX4_lay_97 rfl rfl rfl ?_
    refine a_iload_n (pc' := 99) 1 dX4_lay_98 rfl rfl rfl ?_
    refine a_icmp_ge (pc' := 102) 119 dX4_lay_99 (by decide) rfl (fun k98001 => ?_) (fun k98001 => ?_)
    · replace hf := (if_pos k98001).symm.trans hf
      cases hf
      refine a_sub [0, 2] rfl ?_
      exact hX0 _ rfl _ hz hfr
    · replace hf := (if_neg k98001).symm.trans hf
      refine a_aload_n (pc' := 103) 0 dX4_lay_102 rfl rfl rfl ?_
      refine a_iload_n (pc' := 104) 2 dX4_lay_103 rfl rfl rfl ?_
      refine a_aload_n (pc' := 105) 0 dX4_lay_104 rfl rfl rfl ?_
      refine a_iload_n (pc' := 106) 2 dX4_lay_105 rfl rfl rfl ?_
      obtain ⟨x98003, e98002, hf⟩ := Option.bind_eq_some_iff.mp hf
      refine k_X4_90 (pc' := 109) (c_X4_firstGap l g F hz e98002) ⟨Nat.le_of_ble_eq_true rfl, Nat.le_of_ble_eq_true rfl⟩ hz.1 (Nat.le_of_ble_eq_true rfl) dX4_lay_106 rfl ?_
      refine a_iconst (pc' := 110) (v := (1 : Int32)) dX4_lay_109 rfl (by decide) ?_
      obtain ⟨x98005, e98004, hf⟩ := Option.bind_eq_some_iff.mp hf
      refine k_X4_97 (pc' := 113) (c_X4_lays l g F hz e98004) ⟨Nat.le_of_ble_eq_true rfl, Nat.le_of_ble_eq_true rfl⟩ hz.1 (Nat.le_of_ble_eq_true rfl) dX4_lay_110 rfl (fun h98006 hq => ?_)
      obtain ⟨hz1, hfr1⟩ := hq
      obtain ⟨M98007, hf, hz⟩ := f_let_x (P := fun w => d_mod h98006 w) hf hz1
      replace hfr := d_frm.tr hfr hfr1 (by omega)
      refine a_iinc (pc' := 116) (v := v3_97 + (1 : Int32)) (ls' := [(3, .int (v3_97 + (1 : Int32))), (0, .ref 55), (1, .int a1), (2, .int x7)]) 3 dX4_lay_113 rfl (by rfl) (by decide) rfl rfl ?_
      refine a_goto 97 dX4_lay_116 (by decide) ?_
      refine a_sub [1, 2, 3, 0] rfl ?_
      exact ih _ _ _ hf hX0 _ hz hfr
set_option maxHeartbeats 4000000 in
set_option maxRecDepth 100000 in
theorem c_X4_lay (l : Launch) (g : a_G) (F : Nat) {h : List va_E} {M : d_M} {a1 : Int32} (hz : d_mod h M) {out : Int32 × d_M} (hf : f_X4_lay F M a1 = some out) : a_CT l g yX4_lay cX4_lay 4 (some .int) (a_rm 2 45) [.ref 55, .int a1] h none none (fun r h' => r = some (.int out.1) ∧ d_mod h' out.2 ∧ d_frm 55 6 h h') := by
  refine a_enter ⟨by decide, rfl, Nat.le_of_ble_eq_true rfl⟩ (fun p e s m args below meth c hr hin => ?_)
  unfold f_X4_lay at hf
  have hfr : d_frm 55 6 h h := d_frm.rf
  refine a_sub (ls' := [(0, .ref 55), (1, .int a1)]) [0, 1] rfl ?_
  refine a_aload_n (pc' := 1) 0 dX4_lay_0 rfl rfl rfl ?_
  refine a_iconst (pc' := 2) (v := (0 : Int32)) dX4_lay_1 rfl (by decide) ?_
  refine pt_X4_25 (pc' := 5) hz dX4_lay_2 rfl (fun h1 hz1 hfr1 => ?_)
  obtain ⟨M2, hf, hz⟩ := f_let_x (P := fun w => d_mod h1 w) hf hz1
  replace hfr := d_frm.tr hfr hfr1 (by omega)
  refine a_iload_n (pc' := 6) 1 dX4_lay_5 rfl rfl rfl ?_
  refine a_iconst (pc' := 7) (v := (1 : Int32)) dX4_lay_6 rfl (by decide) ?_
  refine a_bipush (pc' := 9) (v := (60 : Int32)) dX4_lay_7 rfl (by decide) ?_
  obtain ⟨x4, e3, hf⟩ := Option.bind_eq_some_iff.mp hf
  refine k_X4_29 (pc' := 12) (c_X4_within l g F e3) ⟨Nat.le_of_ble_eq_true rfl, Nat.le_of_ble_eq_true rfl⟩ (Nat.le_of_ble_eq_true rfl) dX4_lay_9 rfl ?_
  refine a_if_ne (pc' := 15) 21 dX4_lay_12 (by decide) rfl (fun k5 => ?_) (fun k5 => ?_)
  · replace hf := (if_neg k5).symm.trans hf
    refine a_aload_n (pc' := 22) 0 dX4_lay_21 rfl rfl rfl ?_
    obtain ⟨x7, e6, hf⟩ := Option.bind_eq_some_iff.mp hf
    refine k_X4_87 (pc' := 25) (c_X4_lastCourse l g F hz e6) ⟨Nat.le_of_ble_eq_true rfl, Nat.le_of_ble_eq_true rfl⟩ hz.1 (Nat.le_of_ble_eq_true rfl) dX4_lay_22 rfl ?_
    refine a_istore_n (pc' := 26) (ls' := [(2, .int x7), (0, .ref 55), (1, .int a1)]) dX4_lay_25 rfl (by decide) rfl rfl ?_
    refine a_aload_n (pc' := 27) 1 dX4_lay_26 rfl rfl rfl ?_
    obtain ⟨x9, e8, hf⟩ := Option.bind_eq_some_iff.mp hf
    refine k_X4_80 (pc' := 30) (c_X4_isDry l g F hz e8) ⟨Nat.le_of_ble_eq_true rfl, Nat.le_of_ble_eq_true rfl⟩ hz.1 (Nat.le_of_ble_eq_true rfl) dX4_lay_27 rfl ?_
    refine a_if_eq (pc' := 33) 85 dX4_lay_30 (by decide) rfl (fun k10 => ?_) (fun k10 => ?_)
    · replace hf := (if_pos k10).symm.trans hf
      refine a_aload_n (pc' := 86) 1 dX4_lay_85 rfl rfl rfl ?_
      refine a_iconst (pc' := 87) (v := (2 : Int32)) dX4_lay_86 rfl (by decide) ?_
      obtain ⟨x12, e11, hf⟩ := Option.bind_eq_some_iff.mp hf
      refine k_X4_60 (pc' := 90) (c_X4_fails l g F hz e11) ⟨Nat.le_of_ble_eq_true rfl, Nat.le_of_ble_eq_true rfl⟩ hz.1 (Nat.le_of_ble_eq_true rfl) dX4_lay_87 rfl (fun h13 hq => ?_)
      obtain ⟨hz1, hfr1⟩ := hq
      obtain ⟨M14, hf, hz⟩ := f_let_x (P := fun w => d_mod h13 w) hf hz1
      replace hfr := d_frm.tr hfr hfr1 (by omega)
      cases hf
      exact a_iret hr ⟨rfl, hz, hfr⟩ dX4_lay_90
    · replace hf := (if_neg k10).symm.trans hf
      refine a_iload_n (pc' := 34) 0 dX4_lay_33 rfl rfl rfl ?_
      refine a_if_lt (pc' := 37) 85 dX4_lay_34 (by decide) rfl (fun k15 => ?_) (fun k15 => ?_)
      · replace hf := (if_pos k15).symm.trans hf
        refine a_aload_n (pc' := 86) 1 dX4_lay_85 rfl rfl rfl ?_
        refine a_iconst (pc' := 87) (v := (2 : Int32)) dX4_lay_86 rfl (by decide) ?_
        obtain ⟨x17, e16, hf⟩ := Option.bind_eq_some_iff.mp hf
        refine k_X4_60 (pc' := 90) (c_X4_fails l g F hz e16) ⟨Nat.le_of_ble_eq_true rfl, Nat.le_of_ble_eq_true rfl⟩ hz.1 (Nat.le_of_ble_eq_true rfl) dX4_lay_87 rfl (fun h18 hq => ?_)
        obtain ⟨hz1, hfr1⟩ := hq
        obtain ⟨M19, hf, hz⟩ := f_let_x (P := fun w => d_mod h18 w) hf hz1
        replace hfr := d_frm.tr hfr hfr1 (by omega)
        cases hf
        exact a_iret hr ⟨rfl, hz, hfr⟩ dX4_lay_90
      · replace hf := (if_neg k15).symm.trans hf
        refine a_aload_n (pc' := 38) 1 dX4_lay_37 rfl rfl rfl ?_
        refine a_iload_n (pc' := 39) 0 dX4_lay_38 rfl rfl rfl ?_
        obtain ⟨x21, e20, hf⟩ := Option.bind_eq_some_iff.mp hf
        refine k_X4_36 (pc' := 42) (c_X4_placesOf l g F hz e20) ⟨Nat.le_of_ble_eq_true rfl, Nat.le_of_ble_eq_true rfl⟩ hz.1 (Nat.le_of_ble_eq_true rfl) dX4_lay_39 rfl ?_
        refine a_aload_n (pc' := 43) 1 dX4_lay_42 rfl rfl rfl ?_
        refine a_iload_n (pc' := 44) 0 dX4_lay_43 rfl rfl rfl ?_
        obtain ⟨x23, e22, hf⟩ := Option.bind_eq_some_iff.mp hf
        refine k_X4_50 (pc' := 47) (c_X4_liesIn l g F hz e22) ⟨Nat.le_of_ble_eq_true rfl, Nat.le_of_ble_eq_true rfl⟩ hz.1 (Nat.le_of_ble_eq_true rfl) dX4_lay_44 rfl ?_
        refine a_isub (pc' := 48) dX4_lay_47 rfl ?_
        refine a_iload_n (pc' := 49) 2 dX4_lay_48 rfl rfl rfl ?_
        refine a_icmp_lt (pc' := 52) 85 dX4_lay_49 (by decide) rfl (fun k24 => ?_) (fun k24 => ?_)
        · replace hf := (if_pos k24).symm.trans hf
          refine a_aload_n (pc' := 86) 1 dX4_lay_85 rfl rfl rfl ?_
          refine a_iconst (pc' := 87) (v := (2 : Int32)) dX4_lay_86 rfl (by decide) ?_
          obtain ⟨x26, e25, hf⟩ := Option.bind_eq_some_iff.mp hf
          refine k_X4_60 (pc' := 90) (c_X4_fails l g F hz e25) ⟨Nat.le_of_ble_eq_true rfl, Nat.le_of_ble_eq_true rfl⟩ hz.1 (Nat.le_of_ble_eq_true rfl) dX4_lay_87 rfl (fun h27 hq => ?_)
          obtain ⟨hz1, hfr1⟩ := hq
          obtain ⟨M28, hf, hz⟩ := f_let_x (P := fun w => d_mod h27 w) hf hz1
          replace hfr := d_frm.tr hfr hfr1 (by omega)
          cases hf
          exact a_iret hr ⟨rfl, hz, hfr⟩ dX4_lay_90
        · replace hf := (if_neg k24).symm.trans hf
          refine a_aload_n (pc' := 53) 1 dX4_lay_52 rfl rfl rfl ?_
          refine g_X4_7 (pc' := 56) hz.1 rfl dX4_lay_53 rfl ?_
          refine a_sipush (pc' := 59) (v := (214 : Int32)) dX4_lay_56 rfl (by decide) ?_
          refine a_aload_n (pc' := 60) 1 dX4_lay_59 rfl rfl rfl ?_
          refine g_X4_7 (pc' := 63) hz.1 rfl dX4_lay_60 rfl ?_
          refine a_bipush (pc' := 65) (v := (14 : Int32)) dX4_lay_63 rfl (by decide) ?_
          refine a_iload_n (pc' := 66) 0 dX4_lay_65 rfl rfl rfl ?_
          refine a_iadd (pc' := 67) dX4_lay_66 rfl ?_
          obtain ⟨hg, hf⟩ := f_grd_x hf
          refine b_iald (pc' := 68) hz.2.1 hg dX4_lay_67 rfl ?_
          refine a_iadd (pc' := 69) dX4_lay_68 rfl ?_
          obtain ⟨hg, hf⟩ := f_grd_x hf
          refine b_iald (pc' := 70) hz.2.1 hg dX4_lay_69 rfl ?_
          refine a_iload_n (pc' := 71) 2 dX4_lay_70 rfl rfl rfl ?_
          refine a_icmp_lt (pc' := 74) 85 dX4_lay_71 (by decide) rfl (fun k29 => ?_) (fun k29 => ?_)
          · replace hf := (if_pos k29).symm.trans hf
            refine a_aload_n (pc' := 86) 1 dX4_lay_85 rfl rfl rfl ?_
            refine a_iconst (pc' := 87) (v := (2 : Int32)) dX4_lay_86 rfl (by decide) ?_
            obtain ⟨x31, e30, hf⟩ := Option.bind_eq_some_iff.mp hf
            refine k_X4_60 (pc' := 90) (c_X4_fails l g F hz e30) ⟨Nat.le_of_ble_eq_true rfl, Nat.le_of_ble_eq_true rfl⟩ hz.1 (Nat.le_of_ble_eq_true rfl) dX4_lay_87 rfl (fun h32 hq => ?_)
            obtain ⟨hz1, hfr1⟩ := hq
            obtain ⟨M33, hf, hz⟩ := f_let_x (P := fun w => d_mod h32 w) hf hz1
            replace hfr := d_frm.tr hfr hfr1 (by omega)
            cases hf
            exact a_iret hr ⟨rfl, hz, hfr⟩ dX4_lay_90
          · replace hf := (if_neg k29).symm.trans hf
            refine a_aload_n (pc' := 75) 1 dX4_lay_74 rfl rfl rfl ?_
            refine g_X4_7 (pc' := 78) hz.1 rfl dX4_lay_75 rfl ?_
            refine a_bipush (pc' := 80) (v := (7 : Int32)) dX4_lay_78 rfl (by decide) ?_
            obtain ⟨hg, hf⟩ := f_grd_x hf
            refine b_iald (pc' := 81) hz.2.1 hg dX4_lay_80 rfl ?_
            refine a_iload_n (pc' := 82) 2 dX4_lay_81 rfl rfl rfl ?_
            refine a_icmp_ge (pc' := 85) 91 dX4_lay_82 (by decide) rfl (fun k34 => ?_) (fun k34 => ?_)
            · replace hf := (if_pos k34).symm.trans hf
              refine a_aload_n (pc' := 92) 1 dX4_lay_91 rfl rfl rfl ?_
              obtain ⟨x36, e35, hf⟩ := Option.bind_eq_some_iff.mp hf
              refine k_X4_63 (pc' := 95) (c_X4_save l g F hz e35) ⟨Nat.le_of_ble_eq_true rfl, Nat.le_of_ble_eq_true rfl⟩ hz.1 (Nat.le_of_ble_eq_true rfl) dX4_lay_92 rfl (fun h37 hq => ?_)
              obtain ⟨hz1, hfr1⟩ := hq
              obtain ⟨M38, hf, hz⟩ := f_let_x (P := fun w => d_mod h37 w) hf hz1
              replace hfr := d_frm.tr hfr hfr1 (by omega)
              refine a_iconst (pc' := 96) (v := (0 : Int32)) dX4_lay_95 rfl (by decide) ?_
              refine a_istore_n (pc' := 97) (ls' := [(3, .int ((0 : Int32))), (2, .int x7), (0, .ref 55), (1, .int a1)]) dX4_lay_96 rfl (by decide) rfl rfl ?_
              obtain ⟨o39, e40, hf⟩ := Option.bind_eq_some_iff.mp hf
              refine a_sub [2, 3, 1, 0] rfl ?_
              refine l_X4_lay_L97 F a1 x7  F _ _ o39 e40 (fun e9 he9 h41 hz hfr => ?_) _ hz hfr
              subst he9
              refine a_aload_n (pc' := 120) 0 dX4_lay_119 rfl rfl rfl ?_
              refine a_iload_n (pc' := 121) 1 dX4_lay_120 rfl rfl rfl ?_
              obtain ⟨x43, e42, hf⟩ := Option.bind_eq_some_iff.mp hf
              refine k_X4_50 (pc' := 124) (c_X4_liesIn l g F hz e42) ⟨Nat.le_of_ble_eq_true rfl, Nat.le_of_ble_eq_true rfl⟩ hz.1 (Nat.le_of_ble_eq_true rfl) dX4_lay_121 rfl ?_
              cases hf
              exact a_iret hr ⟨rfl, hz, hfr⟩ dX4_lay_124
            · replace hf := (if_neg k34).symm.trans hf
              refine a_aload_n (pc' := 86) 1 dX4_lay_85 rfl rfl rfl ?_
              refine a_iconst (pc' := 87) (v := (2 : Int32)) dX4_lay_86 rfl (by decide) ?_
              obtain ⟨x45, e44, hf⟩ := Option.bind_eq_some_iff.mp hf
              refine k_X4_60 (pc' := 90) (c_X4_fails l g F hz e44) ⟨Nat.le_of_ble_eq_true rfl, Nat.le_of_ble_eq_true rfl⟩ hz.1 (Nat.le_of_ble_eq_true rfl) dX4_lay_87 rfl (fun h46 hq => ?_)
              obtain ⟨hz1, hfr1⟩ := hq
              obtain ⟨M47, hf, hz⟩ := f_let_x (P := fun w => d_mod h46 w) hf hz1
              replace hfr := d_frm.tr hfr hfr1 (by omega)
              cases hf
              exact a_iret hr ⟨rfl, hz, hfr⟩ dX4_lay_90
  · replace hf := (if_pos k5).symm.trans hf
    refine a_aload_n (pc' := 16) 0 dX4_lay_15 rfl rfl rfl ?_
    refine a_iconst (pc' := 17) (v := (1 : Int32)) dX4_lay_16 rfl (by decide) ?_
    obtain ⟨x49, e48, hf⟩ := Option.bind_eq_some_iff.mp hf
    refine k_X4_60 (pc' := 20) (c_X4_fails l g F hz e48) ⟨Nat.le_of_ble_eq_true rfl, Nat.le_of_ble_eq_true rfl⟩ hz.1 (Nat.le_of_ble_eq_true rfl) dX4_lay_17 rfl (fun h50 hq => ?_)
    obtain ⟨hz1, hfr1⟩ := hq
    obtain ⟨M51, hf, hz⟩ := f_let_x (P := fun w => d_mod h50 w) hf hz1
    replace hfr := d_frm.tr hfr hfr1 (by omega)
    cases hf
    exact a_iret hr ⟨rfl, hz, hfr⟩ dX4_lay_20
/-! SlateRoofModel.isPlace(II)Z -/
set_option maxRecDepth 100000 in
def f_X4_isPlace (F : Nat) (M : d_M) (a1 : Int32) (a2 : Int32) : Option (Int32) := (f_X4_lastCourse F M).bind fun x2 => (f_X4_within F a1 ((0 : Int32)) x2).bind fun x4 => (if x4 = 0 then some ((0 : Int32)) else (f_X4_placesOf F M a1).bind fun x7 => (f_X4_within F a2 ((0 : Int32)) (x7 - ((1 : Int32)))).bind fun x9 => (if x9 = 0 then some ((0 : Int32)) else some ((1 : Int32))))
set_option maxHeartbeats 4000000 in
set_option maxRecDepth 100000 in
theorem c_X4_isPlace (l : Launch) (g : a_G) (F : Nat) {h : List va_E} {M : d_M} {a1 : Int32} {a2 : Int32} (hz : d_mod h M) {out : Int32} (hf : f_X4_isPlace F M a1 a2 = some out) : a_CT l g yX4_isPlace cX4_isPlace 3 (some .boolean) (a_rm 1 22) [.ref 55, .int a1, .int a2] h none none (fun r h' => r = some (.int out) ∧ h' = h) := by
  refine a_enter ⟨by decide, rfl, Nat.le_of_ble_eq_true rfl⟩ (fun p e s m args below meth c hr hin => ?_)
  unfold f_X4_isPlace at hf
  refine a_sub (ls' := [(0, .ref 55), (1, .int a1), (2, .int a2)]) [0, 1, 2] rfl ?_
  refine a_iload_n (pc' := 1) 1 dX4_isPlace_0 rfl rfl rfl ?_
  refine a_iconst (pc' := 2) (v := (0 : Int32)) dX4_isPlace_1 rfl (by decide) ?_
  refine a_aload_n (pc' := 3) 0 dX4_isPlace_2 rfl rfl rfl ?_
  obtain ⟨x2, e1, hf⟩ := Option.bind_eq_some_iff.mp hf
  refine k_X4_87 (pc' := 6) (c_X4_lastCourse l g F hz e1) ⟨Nat.le_of_ble_eq_true rfl, Nat.le_of_ble_eq_true rfl⟩ hz.1 (Nat.le_of_ble_eq_true rfl) dX4_isPlace_3 rfl ?_
  obtain ⟨x4, e3, hf⟩ := Option.bind_eq_some_iff.mp hf
  refine k_X4_29 (pc' := 9) (c_X4_within l g F e3) ⟨Nat.le_of_ble_eq_true rfl, Nat.le_of_ble_eq_true rfl⟩ (Nat.le_of_ble_eq_true rfl) dX4_isPlace_6 rfl ?_
  refine a_if_eq (pc' := 12) 31 dX4_isPlace_9 (by decide) rfl (fun k5 => ?_) (fun k5 => ?_)
  · replace hf := (if_pos k5).symm.trans hf
    refine a_iconst (pc' := 32) (v := (0 : Int32)) dX4_isPlace_31 rfl (by decide) ?_
    cases hf
    exact a_zret hr rfl ⟨rfl, rfl⟩ dX4_isPlace_32
  · replace hf := (if_neg k5).symm.trans hf
    refine a_iload_n (pc' := 13) 2 dX4_isPlace_12 rfl rfl rfl ?_
    refine a_iconst (pc' := 14) (v := (0 : Int32)) dX4_isPlace_13 rfl (by decide) ?_
    refine a_aload_n (pc' := 15) 0 dX4_isPlace_14 rfl rfl rfl ?_
    refine a_iload_n (pc' := 16) 1 dX4_isPlace_15 rfl rfl rfl ?_
    obtain ⟨x7, e6, hf⟩ := Option.bind_eq_some_iff.mp hf
    refine k_X4_36 (pc' := 19) (c_X4_placesOf l g F hz e6) ⟨Nat.le_of_ble_eq_true rfl, Nat.le_of_ble_eq_true rfl⟩ hz.1 (Nat.le_of_ble_eq_true rfl) dX4_isPlace_16 rfl ?_
    refine a_iconst (pc' := 20) (v := (1 : Int32)) dX4_isPlace_19 rfl (by decide) ?_
    refine a_isub (pc' := 21) dX4_isPlace_20 rfl ?_
    obtain ⟨x9, e8, hf⟩ := Option.bind_eq_some_iff.mp hf
    refine k_X4_29 (pc' := 24) (c_X4_within l g F e8) ⟨Nat.le_of_ble_eq_true rfl, Nat.le_of_ble_eq_true rfl⟩ (Nat.le_of_ble_eq_true rfl) dX4_isPlace_21 rfl ?_
    refine a_if_eq (pc' := 27) 31 dX4_isPlace_24 (by decide) rfl (fun k10 => ?_) (fun k10 => ?_)
    · replace hf := (if_pos k10).symm.trans hf
      refine a_iconst (pc' := 32) (v := (0 : Int32)) dX4_isPlace_31 rfl (by decide) ?_
      cases hf
      exact a_zret hr rfl ⟨rfl, rfl⟩ dX4_isPlace_32
    · replace hf := (if_neg k10).symm.trans hf
      refine a_iconst (pc' := 28) (v := (1 : Int32)) dX4_isPlace_27 rfl (by decide) ?_
      refine a_goto 32 dX4_isPlace_28 (by decide) ?_
      cases hf
      exact a_zret hr rfl ⟨rfl, rfl⟩ dX4_isPlace_32
/-! SlateRoofModel.mayMend(II)Z -/
set_option maxRecDepth 100000 in
def f_X4_mayMend (F : Nat) (M : d_M) (a1 : Int32) (a2 : Int32) : Option (Int32) := (f_X4_isDry F M).bind fun x2 => (if x2 = 0 then some ((0 : Int32)) else (f_X4_isThere F M a1 a2).bind fun x5 => (if x5 = 0 then f_grd (((14 : Int32)) + a1) 294 (f_grd (((214 : Int32)) + ((m_z M) (((14 : Int32)) + a1).toNatClampNeg)) 294 ((if ((m_z M) (((214 : Int32)) + ((m_z M) (((14 : Int32)) + a1).toNatClampNeg)).toNatClampNeg) ≤ 0 then some ((0 : Int32)) else f_grd ((7 : Int32)) 294 ((if ((m_z M) ((7 : Int32)).toNatClampNeg) < ((3 : Int32)) then some ((0 : Int32)) else some ((1 : Int32))))))) else some ((0 : Int32))))
set_option maxHeartbeats 4000000 in
set_option maxRecDepth 100000 in
theorem c_X4_mayMend (l : Launch) (g : a_G) (F : Nat) {h : List va_E} {M : d_M} {a1 : Int32} {a2 : Int32} (hz : d_mod h M) {out : Int32} (hf : f_X4_mayMend F M a1 a2 = some out) : a_CT l g yX4_mayMend cX4_mayMend 3 (some .boolean) (a_rm 1 22) [.ref 55, .int a1, .int a2] h none none (fun r h' => r = some (.int out) ∧ h' = h) := by
  refine a_enter ⟨by decide, rfl, Nat.le_of_ble_eq_true rfl⟩ (fun p e s m args below meth c hr hin => ?_)
  unfold f_X4_mayMend at hf
  refine a_sub (ls' := [(0, .ref 55), (1, .int a1), (2, .int a2)]) [0, 1, 2] rfl ?_
  refine a_aload_n (pc' := 1) 0 dX4_mayMend_0 rfl rfl rfl ?_
  obtain ⟨x2, e1, hf⟩ := Option.bind_eq_some_iff.mp hf
  refine k_X4_80 (pc' := 4) (c_X4_isDry l g F hz e1) ⟨Nat.le_of_ble_eq_true rfl, Nat.le_of_ble_eq_true rfl⟩ hz.1 (Nat.le_of_ble_eq_true rfl) dX4_mayMend_1 rfl ?_
  refine a_if_eq (pc' := 7) 52 dX4_mayMend_4 (by decide) rfl (fun k3 => ?_) (fun k3 => ?_)
  · replace hf := (if_pos k3).symm.trans hf
    refine a_iconst (pc' := 53) (v := (0 : Int32)) dX4_mayMend_52 rfl (by decide) ?_
    cases hf
    exact a_zret hr rfl ⟨rfl, rfl⟩ dX4_mayMend_53
  · replace hf := (if_neg k3).symm.trans hf
    refine a_aload_n (pc' := 8) 0 dX4_mayMend_7 rfl rfl rfl ?_
    refine a_iload_n (pc' := 9) 1 dX4_mayMend_8 rfl rfl rfl ?_
    refine a_iload_n (pc' := 10) 2 dX4_mayMend_9 rfl rfl rfl ?_
    obtain ⟨x5, e4, hf⟩ := Option.bind_eq_some_iff.mp hf
    refine k_X4_40 (pc' := 13) (c_X4_isThere l g F hz e4) ⟨Nat.le_of_ble_eq_true rfl, Nat.le_of_ble_eq_true rfl⟩ hz.1 (Nat.le_of_ble_eq_true rfl) dX4_mayMend_10 rfl ?_
    refine a_if_ne (pc' := 16) 52 dX4_mayMend_13 (by decide) rfl (fun k6 => ?_) (fun k6 => ?_)
    · replace hf := (if_neg k6).symm.trans hf
      refine a_iconst (pc' := 53) (v := (0 : Int32)) dX4_mayMend_52 rfl (by decide) ?_
      cases hf
      exact a_zret hr rfl ⟨rfl, rfl⟩ dX4_mayMend_53
    · replace hf := (if_pos k6).symm.trans hf
      refine a_aload_n (pc' := 17) 0 dX4_mayMend_16 rfl rfl rfl ?_
      refine g_X4_7 (pc' := 20) hz.1 rfl dX4_mayMend_17 rfl ?_
      refine a_sipush (pc' := 23) (v := (214 : Int32)) dX4_mayMend_20 rfl (by decide) ?_
      refine a_aload_n (pc' := 24) 0 dX4_mayMend_23 rfl rfl rfl ?_
      refine g_X4_7 (pc' := 27) hz.1 rfl dX4_mayMend_24 rfl ?_
      refine a_bipush (pc' := 29) (v := (14 : Int32)) dX4_mayMend_27 rfl (by decide) ?_
      refine a_iload_n (pc' := 30) 1 dX4_mayMend_29 rfl rfl rfl ?_
      refine a_iadd (pc' := 31) dX4_mayMend_30 rfl ?_
      obtain ⟨hg, hf⟩ := f_grd_x hf
      refine b_iald (pc' := 32) hz.2.1 hg dX4_mayMend_31 rfl ?_
      refine a_iadd (pc' := 33) dX4_mayMend_32 rfl ?_
      obtain ⟨hg, hf⟩ := f_grd_x hf
      refine b_iald (pc' := 34) hz.2.1 hg dX4_mayMend_33 rfl ?_
      refine a_if_le (pc' := 37) 52 dX4_mayMend_34 (by decide) rfl (fun k7 => ?_) (fun k7 => ?_)
      · replace hf := (if_pos k7).symm.trans hf
        refine a_iconst (pc' := 53) (v := (0 : Int32)) dX4_mayMend_52 rfl (by decide) ?_
        cases hf
        exact a_zret hr rfl ⟨rfl, rfl⟩ dX4_mayMend_53
      · replace hf := (if_neg k7).symm.trans hf
        refine a_aload_n (pc' := 38) 0 dX4_mayMend_37 rfl rfl rfl ?_
        refine g_X4_7 (pc' := 41) hz.1 rfl dX4_mayMend_38 rfl ?_
        refine a_bipush (pc' := 43) (v := (7 : Int32)) dX4_mayMend_41 rfl (by decide) ?_
        obtain ⟨hg, hf⟩ := f_grd_x hf
        refine b_iald (pc' := 44) hz.2.1 hg dX4_mayMend_43 rfl ?_
        refine a_iconst (pc' := 45) (v := (3 : Int32)) dX4_mayMend_44 rfl (by decide) ?_
        refine a_icmp_lt (pc' := 48) 52 dX4_mayMend_45 (by decide) rfl (fun k8 => ?_) (fun k8 => ?_)
        · replace hf := (if_pos k8).symm.trans hf
          refine a_iconst (pc' := 53) (v := (0 : Int32)) dX4_mayMend_52 rfl (by decide) ?_
          cases hf
          exact a_zret hr rfl ⟨rfl, rfl⟩ dX4_mayMend_53
        · replace hf := (if_neg k8).symm.trans hf
          refine a_iconst (pc' := 49) (v := (1 : Int32)) dX4_mayMend_48 rfl (by decide) ?_
          refine a_goto 53 dX4_mayMend_49 (by decide) ?_
          cases hf
          exact a_zret hr rfl ⟨rfl, rfl⟩ dX4_mayMend_53
