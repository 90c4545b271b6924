/-! SlateRoof$Roof.canMend(II)Z -/
set_option maxRecDepth 100000 in
def f_X1_canMend (F : Nat) (z : d_Z) (a1 : Int32) (a2 : Int32) : Option (Int32) := (f_X1_hasPlace F z a1 a2).bind fun x2 => (if x2 = 0 then some ((0 : Int32)) else (f_X1_hasSlate F z a1 a2).bind fun x5 => (if x5 = 0 then (f_X3_valueAt F 100 (fun k => z (14 + k)) a1).bind fun x8 => (f_X3_valueAt F 25 (fun k => z (214 + k)) x8).bind fun x10 => (if x10 ≤ 0 then some ((0 : Int32)) else (if (z 7) < ((3 : Int32)) then some ((0 : Int32)) else some ((1 : Int32)))) else some ((0 : Int32))))
set_option maxHeartbeats 4000000 in
set_option maxRecDepth 100000 in
theorem c_X1_canMend (l : Launch) (g : a_G) (F : Nat) {h : List va_E} {i : Nat} {z : d_Z} {a1 : Int32} {a2 : Int32} (hz : d_roof h i z) {out : Int32} (hf : f_X1_canMend F z a1 a2 = some out) : a_CT l g yX1_canMend cX1_canMend 3 (some .boolean) (a_rm 2 43) [.ref i, .int a1, .int a2] h none none (fun r h' => r = some (.int out) ∧ h' = h) := by
  refine a_enter ⟨by decide, rfl, Nat.le_of_ble_eq_true rfl⟩ (fun p e s m args below meth c hr hin => ?_)
  unfold f_X1_canMend at hf
  refine a_sub (ls' := [(0, .ref i), (1, .int a1), (2, .int a2)]) [0, 1, 2] rfl ?_
  refine a_aload_n (pc' := 1) 0 dX1_canMend_0 rfl rfl rfl ?_
  refine a_iload_n (pc' := 2) 1 dX1_canMend_1 rfl rfl rfl ?_
  refine a_iload_n (pc' := 3) 2 dX1_canMend_2 rfl rfl rfl ?_
  obtain ⟨x2, e1, hf⟩ := Option.bind_eq_some_iff.mp hf
  refine k_X1_116 (pc' := 6) (c_X1_hasPlace l g F hz e1) ⟨Nat.le_of_ble_eq_true rfl, Nat.le_of_ble_eq_true rfl⟩ hz.1 (Nat.le_of_ble_eq_true rfl) dX1_canMend_3 rfl ?_
  refine a_if_eq (pc' := 9) 48 dX1_canMend_6 (by decide) rfl (fun k3 => ?_) (fun k3 => ?_)
  · replace hf := (if_pos k3).symm.trans hf
    refine a_iconst (pc' := 49) (v := (0 : Int32)) dX1_canMend_48 rfl (by decide) ?_
    cases hf
    exact a_zret hr rfl ⟨rfl, rfl⟩ dX1_canMend_49
  · replace hf := (if_neg k3).symm.trans hf
    refine a_aload_n (pc' := 10) 0 dX1_canMend_9 rfl rfl rfl ?_
    refine a_iload_n (pc' := 11) 1 dX1_canMend_10 rfl rfl rfl ?_
    refine a_iload_n (pc' := 12) 2 dX1_canMend_11 rfl rfl rfl ?_
    obtain ⟨x5, e4, hf⟩ := Option.bind_eq_some_iff.mp hf
    refine k_X1_95 (pc' := 15) (c_X1_hasSlate l g F hz e4) ⟨Nat.le_of_ble_eq_true rfl, Nat.le_of_ble_eq_true rfl⟩ hz.1 (Nat.le_of_ble_eq_true rfl) dX1_canMend_12 rfl ?_
    refine a_if_ne (pc' := 18) 48 dX1_canMend_15 (by decide) rfl (fun k6 => ?_) (fun k6 => ?_)
    · replace hf := (if_neg k6).symm.trans hf
      refine a_iconst (pc' := 49) (v := (0 : Int32)) dX1_canMend_48 rfl (by decide) ?_
      cases hf
      exact a_zret hr rfl ⟨rfl, rfl⟩ dX1_canMend_49
    · replace hf := (if_pos k6).symm.trans hf
      refine a_aload_n (pc' := 19) 0 dX1_canMend_18 rfl rfl rfl ?_
      refine g_X1_25 (pc' := 22) hz.1 rfl dX1_canMend_19 rfl ?_
      refine a_aload_n (pc' := 23) 0 dX1_canMend_22 rfl rfl rfl ?_
      refine g_X1_18 (pc' := 26) hz.1 rfl dX1_canMend_23 rfl ?_
      refine a_iload_n (pc' := 27) 1 dX1_canMend_26 rfl rfl rfl ?_
      obtain ⟨x8, e7, hf⟩ := Option.bind_eq_some_iff.mp hf
      refine k_X1_83 (pc' := 30) (c_X3_valueAt l g F hz.2.1 e7) ⟨Nat.le_of_ble_eq_true rfl, Nat.le_of_ble_eq_true rfl⟩ (Nat.le_of_ble_eq_true rfl) dX1_canMend_27 rfl ?_
      obtain ⟨x10, e9, hf⟩ := Option.bind_eq_some_iff.mp hf
      refine k_X1_83 (pc' := 33) (c_X3_valueAt l g F hz.2.2.2.1 e9) ⟨Nat.le_of_ble_eq_true rfl, Nat.le_of_ble_eq_true rfl⟩ (Nat.le_of_ble_eq_true rfl) dX1_canMend_30 rfl ?_
      refine a_if_le (pc' := 36) 48 dX1_canMend_33 (by decide) rfl (fun k11 => ?_) (fun k11 => ?_)
      · replace hf := (if_pos k11).symm.trans hf
        refine a_iconst (pc' := 49) (v := (0 : Int32)) dX1_canMend_48 rfl (by decide) ?_
        cases hf
        exact a_zret hr rfl ⟨rfl, rfl⟩ dX1_canMend_49
      · replace hf := (if_neg k11).symm.trans hf
        refine a_aload_n (pc' := 37) 0 dX1_canMend_36 rfl rfl rfl ?_
        refine g_X1_43 (pc' := 40) hz.1 rfl dX1_canMend_37 rfl ?_
        refine a_iconst (pc' := 41) (v := (3 : Int32)) dX1_canMend_40 rfl (by decide) ?_
        refine a_icmp_lt (pc' := 44) 48 dX1_canMend_41 (by decide) rfl (fun k12 => ?_) (fun k12 => ?_)
        · replace hf := (if_pos k12).symm.trans hf
          refine a_iconst (pc' := 49) (v := (0 : Int32)) dX1_canMend_48 rfl (by decide) ?_
          cases hf
          exact a_zret hr rfl ⟨rfl, rfl⟩ dX1_canMend_49
        · replace hf := (if_neg k12).symm.trans hf
          refine a_iconst (pc' := 45) (v := (1 : Int32)) dX1_canMend_44 rfl (by decide) ?_
          refine a_goto 49 dX1_canMend_45 (by decide) ?_
          cases hf
          exact a_zret hr rfl ⟨rfl, rfl⟩ dX1_canMend_49
/-! SlateRoof.mend(II)I -/
set_option maxRecDepth 100000 in
def f_X3_mend (F : Nat) (q : d_C) (a1 : Int32) (a2 : Int32) : Option ((Nat × d_C) ⊕ (Int32 × d_C)) := (f_X1_hasPlace F q.1 a1 a2).bind fun x2 => (if x2 = 0 then some (.inl (2, q)) else (f_X1_canBeSlated F q.1).bind fun x5 => (if x5 = 0 then some (.inl (1, q)) else (f_X1_canMend F q.1 a1 a2).bind fun x8 => (if x8 = 0 then some (.inl (1, q)) else (f_X2_keep F q).bind fun x11 => f_let x11 fun q13 => (f_X1_putSlate F q13.1 a1 a2 ((3 : Int32))).bind fun x15 => f_let (x15, q13.2) fun q17 => some (.inr ((q17.1 7, q17))))))
set_option maxHeartbeats 4000000 in
set_option maxRecDepth 100000 in
theorem c_X3_mend (l : Launch) (g : a_G) (F : Nat) {h : List va_E} {q : d_C} {a1 : Int32} {a2 : Int32} (hz : d_cls h q) {out : Int32 × d_C} (hf : f_X3_mend F q a1 a2 = some (.inr out)) : a_CT l g yX3_mend cX3_mend 3 (some .int) (a_rm 4 104) [.ref 0, .int a1, .int a2] h none none (fun r h' => r = some (.int out.1) ∧ d_cls h' out.2 ∧ d_frm 0 55 h h') := by
  refine a_enter ⟨by decide, rfl, Nat.le_of_ble_eq_true rfl⟩ (fun p e s m args below meth c hr hin => ?_)
  unfold f_X3_mend at hf
  have hfr : d_frm 0 55 h h := d_frm.rf
  refine a_sub (ls' := [(0, .ref 0), (1, .int a1), (2, .int a2)]) [0, 1, 2] rfl ?_
  refine a_aload_n (pc' := 1) 0 dX3_mend_0 rfl rfl rfl ?_
  refine g_X3_10 (pc' := 4) hz.1 rfl dX3_mend_1 rfl ?_
  refine a_iload_n (pc' := 5) 1 dX3_mend_4 rfl rfl rfl ?_
  refine a_iload_n (pc' := 6) 2 dX3_mend_5 rfl rfl rfl ?_
  obtain ⟨x2, e1, hf⟩ := Option.bind_eq_some_iff.mp hf
  refine k_X3_174 (pc' := 9) (c_X1_hasPlace l g F hz.2.1 e1) ⟨Nat.le_of_ble_eq_true rfl, Nat.le_of_ble_eq_true rfl⟩ hz.2.1.1 (Nat.le_of_ble_eq_true rfl) dX3_mend_6 rfl ?_
  refine a_if_ne (pc' := 12) 22 dX3_mend_9 (by decide) rfl (fun k3 => ?_) (fun k3 => ?_)
  · replace hf := (if_neg k3).symm.trans hf
    refine a_aload_n (pc' := 23) 0 dX3_mend_22 rfl rfl rfl ?_
    refine g_X3_10 (pc' := 26) hz.1 rfl dX3_mend_23 rfl ?_
    obtain ⟨x5, e4, hf⟩ := Option.bind_eq_some_iff.mp hf
    refine k_X3_141 (pc' := 29) (c_X1_canBeSlated l g F hz.2.1 e4) ⟨Nat.le_of_ble_eq_true rfl, Nat.le_of_ble_eq_true rfl⟩ hz.2.1.1 (Nat.le_of_ble_eq_true rfl) dX3_mend_26 rfl ?_
    refine a_if_eq (pc' := 32) 44 dX3_mend_29 (by decide) rfl (fun k6 => ?_) (fun k6 => ?_)
    · replace hf := (if_pos k6).symm.trans hf
      cases hf
    · replace hf := (if_neg k6).symm.trans hf
      refine a_aload_n (pc' := 33) 0 dX3_mend_32 rfl rfl rfl ?_
      refine g_X3_10 (pc' := 36) hz.1 rfl dX3_mend_33 rfl ?_
      refine a_iload_n (pc' := 37) 1 dX3_mend_36 rfl rfl rfl ?_
      refine a_iload_n (pc' := 38) 2 dX3_mend_37 rfl rfl rfl ?_
      obtain ⟨x8, e7, hf⟩ := Option.bind_eq_some_iff.mp hf
      refine k_X3_180 (pc' := 41) (c_X1_canMend l g F hz.2.1 e7) ⟨Nat.le_of_ble_eq_true rfl, Nat.le_of_ble_eq_true rfl⟩ hz.2.1.1 (Nat.le_of_ble_eq_true rfl) dX3_mend_38 rfl ?_
      refine a_if_ne (pc' := 44) 54 dX3_mend_41 (by decide) rfl (fun k9 => ?_) (fun k9 => ?_)
      · replace hf := (if_neg k9).symm.trans hf
        refine a_aload_n (pc' := 55) 0 dX3_mend_54 rfl rfl rfl ?_
        refine g_X3_22 (pc' := 58) hz.1 rfl dX3_mend_55 rfl ?_
        refine a_aload_n (pc' := 59) 0 dX3_mend_58 rfl rfl rfl ?_
        refine g_X3_10 (pc' := 62) hz.1 rfl dX3_mend_59 rfl ?_
        obtain ⟨x11, e10, hf⟩ := Option.bind_eq_some_iff.mp hf
        refine k_X3_44 (pc' := 65) (c_X2_keep l g F hz e10) ⟨Nat.le_of_ble_eq_true rfl, Nat.le_of_ble_eq_true rfl⟩ hz.2.2.2.1.1 (Nat.le_of_ble_eq_true rfl) dX3_mend_62 rfl (fun h12 hq => ?_)
        obtain ⟨hz1, hfr1⟩ := hq
        obtain ⟨q13, hf, hz⟩ := f_let_x (P := fun w => d_cls h12 w) hf hz1
        replace hfr := d_frm.tr hfr hfr1 (by omega)
        refine a_aload_n (pc' := 66) 0 dX3_mend_65 rfl rfl rfl ?_
        refine g_X3_10 (pc' := 69) hz.1 rfl dX3_mend_66 rfl ?_
        refine a_iload_n (pc' := 70) 1 dX3_mend_69 rfl rfl rfl ?_
        refine a_iload_n (pc' := 71) 2 dX3_mend_70 rfl rfl rfl ?_
        refine a_iconst (pc' := 72) (v := (3 : Int32)) dX3_mend_71 rfl (by decide) ?_
        obtain ⟨x15, e14, hf⟩ := Option.bind_eq_some_iff.mp hf
        refine k_X3_167 (pc' := 75) (c_X1_putSlate l g F hz.2.1 e14) ⟨Nat.le_of_ble_eq_true rfl, Nat.le_of_ble_eq_true rfl⟩ hz.2.1.1 (Nat.le_of_ble_eq_true rfl) dX3_mend_72 rfl (fun h16 hq => ?_)
        obtain ⟨hz1, hfr1⟩ := hq
        have hz2 := d_c_now hz hz1 hfr1
        obtain ⟨q17, hf, hz⟩ := f_let_x (P := fun w => d_cls h16 w) hf hz2
        replace hfr := d_frm.tr hfr hfr1 (by omega)
        refine a_aload_n (pc' := 76) 0 dX3_mend_75 rfl rfl rfl ?_
        refine g_X3_10 (pc' := 79) hz.1 rfl dX3_mend_76 rfl ?_
        refine g_X3_185 (pc' := 82) hz.2.1.1 rfl dX3_mend_79 rfl ?_
        cases hf
        exact a_iret hr ⟨rfl, hz, hfr⟩ dX3_mend_82
      · replace hf := (if_pos k9).symm.trans hf
        cases hf
  · replace hf := (if_pos k3).symm.trans hf
    cases hf
/-! SlateRoof.cover(Z)I -/
set_option maxRecDepth 100000 in
def f_X3_cover (F : Nat) (q : d_C) (a1 : Int32) : Option (Int32 × d_C) := (f_X2_keep F q).bind fun x2 => f_let x2 fun q4 => (if (q4.1 9) = 0 then f_if (a1 = 0 ∨ a1 = 1) (f_let (upd q4.1 9 a1, q4.2) fun q7 => some (((0 : Int32), q7))) else f_if (a1 = 0 ∨ a1 = 1) (f_let (upd q4.1 9 a1, q4.2) fun q9 => some (((1 : Int32), q9))))
set_option maxHeartbeats 4000000 in
set_option maxRecDepth 100000 in
theorem c_X3_cover (l : Launch) (g : a_G) (F : Nat) {h : List va_E} {q : d_C} {a1 : Int32} (hz : d_cls h q) {out : Int32 × d_C} (hf : f_X3_cover F q a1 = some out) : a_CT l g yX3_cover cX3_cover 3 (some .int) (a_rm 4 104) [.ref 0, .int a1] h none none (fun r h' => r = some (.int out.1) ∧ d_cls h' out.2 ∧ d_frm 0 55 h h') := by
  refine a_enter ⟨by decide, rfl, Nat.le_of_ble_eq_true rfl⟩ (fun p e s m args below meth c hr hin => ?_)
  unfold f_X3_cover at hf
  have hfr : d_frm 0 55 h h := d_frm.rf
  refine a_sub (ls' := [(0, .ref 0), (1, .int a1)]) [0, 1] rfl ?_
  refine a_aload_n (pc' := 1) 0 dX3_cover_0 rfl rfl rfl ?_
  refine g_X3_22 (pc' := 4) hz.1 rfl dX3_cover_1 rfl ?_
  refine a_aload_n (pc' := 5) 0 dX3_cover_4 rfl rfl rfl ?_
  refine g_X3_10 (pc' := 8) hz.1 rfl dX3_cover_5 rfl ?_
  obtain ⟨x2, e1, hf⟩ := Option.bind_eq_some_iff.mp hf
  refine k_X3_44 (pc' := 11) (c_X2_keep l g F hz e1) ⟨Nat.le_of_ble_eq_true rfl, Nat.le_of_ble_eq_true rfl⟩ hz.2.2.2.1.1 (Nat.le_of_ble_eq_true rfl) dX3_cover_8 rfl (fun h3 hq => ?_)
  obtain ⟨hz1, hfr1⟩ := hq
  obtain ⟨q4, hf, hz⟩ := f_let_x (P := fun w => d_cls h3 w) hf hz1
  replace hfr := d_frm.tr hfr hfr1 (by omega)
  refine a_aload_n (pc' := 12) 0 dX3_cover_11 rfl rfl rfl ?_
  refine g_X3_10 (pc' := 15) hz.1 rfl dX3_cover_12 rfl ?_
  refine g_X3_188 (pc' := 18) hz.2.1.1 rfl dX3_cover_15 rfl ?_
  refine a_if_eq (pc' := 21) 25 dX3_cover_18 (by decide) rfl (fun k5 => ?_) (fun k5 => ?_)
  · replace hf := (if_pos k5).symm.trans hf
    refine a_iconst (pc' := 26) (v := (0 : Int32)) dX3_cover_25 rfl (by decide) ?_
    refine a_istore_n (pc' := 27) (ls' := [(2, .int ((0 : Int32))), (0, .ref 0), (1, .int a1)]) dX3_cover_26 rfl (by decide) rfl rfl ?_
    refine a_aload_n (pc' := 28) 1 dX3_cover_27 rfl rfl rfl ?_
    refine g_X3_10 (pc' := 31) hz.1 rfl dX3_cover_28 rfl ?_
    refine a_iload_n (pc' := 32) 2 dX3_cover_31 rfl rfl rfl ?_
    obtain ⟨hg, hf⟩ := f_if_x hf
    refine pt_X3_188 (pc' := 35) (z := q4.1) hz.2.1 hg dX3_cover_32 rfl (fun h6 hz1 hfr1 => ?_)
    have hz2 := d_c_now hz hz1 hfr1
    obtain ⟨q7, hf, hz⟩ := f_let_x (P := fun w => d_cls h6 w) hf hz2
    replace hfr := d_frm.tr hfr hfr1 (by omega)
    refine a_iload_n (pc' := 36) 0 dX3_cover_35 rfl rfl rfl ?_
    cases hf
    exact a_iret hr ⟨rfl, hz, hfr⟩ dX3_cover_36
  · replace hf := (if_neg k5).symm.trans hf
    refine a_iconst (pc' := 22) (v := (1 : Int32)) dX3_cover_21 rfl (by decide) ?_
    refine a_goto 26 dX3_cover_22 (by decide) ?_
    refine a_istore_n (pc' := 27) (ls' := [(2, .int ((1 : Int32))), (0, .ref 0), (1, .int a1)]) dX3_cover_26 rfl (by decide) rfl rfl ?_
    refine a_aload_n (pc' := 28) 1 dX3_cover_27 rfl rfl rfl ?_
    refine g_X3_10 (pc' := 31) hz.1 rfl dX3_cover_28 rfl ?_
    refine a_iload_n (pc' := 32) 2 dX3_cover_31 rfl rfl rfl ?_
    obtain ⟨hg, hf⟩ := f_if_x hf
    refine pt_X3_188 (pc' := 35) (z := q4.1) hz.2.1 hg dX3_cover_32 rfl (fun h8 hz1 hfr1 => ?_)
    have hz2 := d_c_now hz hz1 hfr1
    obtain ⟨q9, hf, hz⟩ := f_let_x (P := fun w => d_cls h8 w) hf hz2
    replace hfr := d_frm.tr hfr hfr1 (by omega)
    refine a_iload_n (pc' := 36) 0 dX3_cover_35 rfl rfl rfl ?_
    cases hf
    exact a_iret hr ⟨rfl, hz, hfr⟩ dX3_cover_36
/-! SlateRoof$Roof.gapsOnRoof()I -/
set_option maxRecDepth 100000 in
def f_X1_gapsOnRoof_L4 (F : Nat) (z : d_Z) : Nat → Int32 → Int32 → Option (Int32 × Int32)
  | 0, _, _ => none
  | n + 1, v1_4, v2_4 => (if (z 2) ≤ v2_4 then some (v1_4, v2_4) else (f_X1_placesOf F z v2_4).bind fun x5003 => (f_X1_slatesIn F z v2_4).bind fun x5005 => f_X1_gapsOnRoof_L4 F z n (v1_4 + (x5003 - x5005)) (v2_4 + (1 : Int32)))
set_option maxRecDepth 100000 in
def f_X1_gapsOnRoof (F : Nat) (z : d_Z) : Option (Int32) := (f_X1_gapsOnRoof_L4 F z F ((0 : Int32)) ((0 : Int32))).bind fun o1 => some (o1.1)
set_option maxHeartbeats 4000000 in
set_option maxRecDepth 100000 in
theorem l_X1_gapsOnRoof_L4 {p : Program} {l : Launch} {e : Env} {s : State} {m : MethodId} {args : Array Value} {below : List Frame} {meth : Method} {c : Code} {Q : State → Prop} {g : a_G} (F : Nat) {h : List va_E} {i : Nat} (z : d_Z) (hz : d_roof h i z) : ∀ (n : Nat) (v1_4 : Int32) (v2_4 : Int32) (o : Int32 × Int32), f_X1_gapsOnRoof_L4 F z n v1_4 v2_4 = some o → (∀ e9 : Int32 × Int32, o = e9 → a_W p l e (a_rm 2 42) s m args below meth c Q RX1 cX1_gapsOnRoof 3 g 0 0 none 32 [(1, .int e9.1)] [] h) → a_W p l e (a_rm 2 42) s m args below meth c Q RX1 cX1_gapsOnRoof 3 g 0 0 none 4 [(0, .ref i), (1, .int v1_4), (2, .int v2_4)] [] h := by
  intro n
  induction n with
  | zero => intro v1_4 v2_4 o hf; exact nomatch (show (none : Option (Int32 × Int32)) = some o from hf)
  | succ n ih =>
    intro v1_4 v2_4 o hf hX0
    rw [f_X1_gapsOnRoof_L4] at hf
    refine a_iload_n (pc' := 5) 2 dX1_gapsOnRoof_4 rfl rfl rfl ?_
    refine a_aload_n (pc' := 6) 0 dX1_gapsOnRoof_5 rfl rfl rfl ?_
    refine g_X1_46 (pc' := 9) hz.1 rfl dX1_gapsOnRoof_6 rfl ?_
    refine a_icmp_ge (pc' := 12) 32 dX1_gapsOnRoof_9 (by decide) rfl (fun k5001 => ?_) (fun k5001 => ?_)
    · replace hf := (if_pos k5001).symm.trans hf
      cases hf
      refine a_sub [1] rfl ?_
      exact hX0 _ rfl
    · replace hf := (if_neg k5001).symm.trans hf
      refine a_iload_n (pc' := 13) 1 dX1_gapsOnRoof_12 rfl rfl rfl ?_
      refine a_aload_n (pc' := 14) 0 dX1_gapsOnRoof_13 rfl rfl rfl ?_
      refine a_iload_n (pc' := 15) 2 dX1_gapsOnRoof_14 rfl rfl rfl ?_
      obtain ⟨x5003, e5002, hf⟩ := Option.bind_eq_some_iff.mp hf
      refine k_X1_79 (pc' := 18) (c_X1_placesOf l g F hz e5002) ⟨Nat.le_of_ble_eq_true rfl, Nat.le_of_ble_eq_true rfl⟩ hz.1 (Nat.le_of_ble_eq_true rfl) dX1_gapsOnRoof_15 rfl ?_
      refine a_aload_n (pc' := 19) 0 dX1_gapsOnRoof_18 rfl rfl rfl ?_
      refine a_iload_n (pc' := 20) 2 dX1_gapsOnRoof_19 rfl rfl rfl ?_
      obtain ⟨x5005, e5004, hf⟩ := Option.bind_eq_some_iff.mp hf
      refine k_X1_92 (pc' := 23) (c_X1_slatesIn l g F hz e5004) ⟨Nat.le_of_ble_eq_true rfl, Nat.le_of_ble_eq_true rfl⟩ hz.1 (Nat.le_of_ble_eq_true rfl) dX1_gapsOnRoof_20 rfl ?_
      refine a_isub (pc' := 24) dX1_gapsOnRoof_23 rfl ?_
      refine a_iadd (pc' := 25) dX1_gapsOnRoof_24 rfl ?_
      refine a_istore_n (pc' := 26) (ls' := [(1, .int (v1_4 + (x5003 - x5005))), (0, .ref i), (2, .int v2_4)]) dX1_gapsOnRoof_25 rfl (by decide) rfl rfl ?_
      refine a_iinc (pc' := 29) (v := v2_4 + (1 : Int32)) (ls' := [(2, .int (v2_4 + (1 : Int32))), (1, .int (v1_4 + (x5003 - x5005))), (0, .ref i)]) 2 dX1_gapsOnRoof_26 rfl (by rfl) (by decide) rfl rfl ?_
      refine a_goto 4 dX1_gapsOnRoof_29 (by decide) ?_
      refine a_sub [2, 1, 0] rfl ?_
      exact ih _ _ _ hf hX0
set_option maxHeartbeats 4000000 in
set_option maxRecDepth 100000 in
theorem c_X1_gapsOnRoof (l : Launch) (g : a_G) (F : Nat) {h : List va_E} {i : Nat} {z : d_Z} (hz : d_roof h i z) {out : Int32} (hf : f_X1_gapsOnRoof F z = some out) : a_CT l g yX1_gapsOnRoof cX1_gapsOnRoof 3 (some .int) (a_rm 2 42) [.ref i] h none none (fun r h' => r = some (.int out) ∧ h' = h) := by
  refine a_enter ⟨by decide, rfl, Nat.le_of_ble_eq_true rfl⟩ (fun p e s m args below meth c hr hin => ?_)
  unfold f_X1_gapsOnRoof at hf
  refine a_sub (ls' := [(0, .ref i)]) [0] rfl ?_
  refine a_iconst (pc' := 1) (v := (0 : Int32)) dX1_gapsOnRoof_0 rfl (by decide) ?_
  refine a_istore_n (pc' := 2) (ls' := [(1, .int ((0 : Int32))), (0, .ref i)]) dX1_gapsOnRoof_1 rfl (by decide) rfl rfl ?_
  refine a_iconst (pc' := 3) (v := (0 : Int32)) dX1_gapsOnRoof_2 rfl (by decide) ?_
  refine a_istore_n (pc' := 4) (ls' := [(2, .int ((0 : Int32))), (1, .int ((0 : Int32))), (0, .ref i)]) dX1_gapsOnRoof_3 rfl (by decide) rfl rfl ?_
  obtain ⟨o1, e2, hf⟩ := Option.bind_eq_some_iff.mp hf
  refine a_sub [2, 1, 0] rfl ?_
  refine l_X1_gapsOnRoof_L4 F z hz F _ _ o1 e2 (fun e9 he9 => ?_)
  subst he9
  refine a_iload_n (pc' := 33) 0 dX1_gapsOnRoof_32 rfl rfl rfl ?_
  cases hf
  exact a_iret hr ⟨rfl, rfl⟩ dX1_gapsOnRoof_33
/-! SlateRoof$Roof.isDone()Z -/
set_option maxRecDepth 100000 in
def f_X1_isDone (F : Nat) (z : d_Z) : Option (Int32) := (f_X1_isHighEnough F z).bind fun x2 => (if x2 = 0 then some ((0 : Int32)) else (f_X1_gapsOnRoof F z).bind fun x5 => (if x5 = 0 then some ((1 : Int32)) else some ((0 : Int32))))
set_option maxHeartbeats 4000000 in
set_option maxRecDepth 100000 in
theorem c_X1_isDone (l : Launch) (g : a_G) (F : Nat) {h : List va_E} {i : Nat} {z : d_Z} (hz : d_roof h i z) {out : Int32} (hf : f_X1_isDone F z = some out) : a_CT l g yX1_isDone cX1_isDone 1 (some .boolean) (a_rm 3 64) [.ref i] h none none (fun r h' => r = some (.int out) ∧ h' = h) := by
  refine a_enter ⟨by decide, rfl, Nat.le_of_ble_eq_true rfl⟩ (fun p e s m args below meth c hr hin => ?_)
  unfold f_X1_isDone at hf
  refine a_sub (ls' := [(0, .ref i)]) [0] rfl ?_
  refine a_aload_n (pc' := 1) 0 dX1_isDone_0 rfl rfl rfl ?_
  obtain ⟨x2, e1, hf⟩ := Option.bind_eq_some_iff.mp hf
  refine k_X1_105 (pc' := 4) (c_X1_isHighEnough l g F hz e1) ⟨Nat.le_of_ble_eq_true rfl, Nat.le_of_ble_eq_true rfl⟩ hz.1 (Nat.le_of_ble_eq_true rfl) dX1_isDone_1 rfl ?_
  refine a_if_eq (pc' := 7) 18 dX1_isDone_4 (by decide) rfl (fun k3 => ?_) (fun k3 => ?_)
  · replace hf := (if_pos k3).symm.trans hf
    refine a_iconst (pc' := 19) (v := (0 : Int32)) dX1_isDone_18 rfl (by decide) ?_
    cases hf
    exact a_zret hr rfl ⟨rfl, rfl⟩ dX1_isDone_19
  · replace hf := (if_neg k3).symm.trans hf
    refine a_aload_n (pc' := 8) 0 dX1_isDone_7 rfl rfl rfl ?_
    obtain ⟨x5, e4, hf⟩ := Option.bind_eq_some_iff.mp hf
    refine k_X1_109 (pc' := 11) (c_X1_gapsOnRoof l g F hz e4) ⟨Nat.le_of_ble_eq_true rfl, Nat.le_of_ble_eq_true rfl⟩ hz.1 (Nat.le_of_ble_eq_true rfl) dX1_isDone_8 rfl ?_
    refine a_if_ne (pc' := 14) 18 dX1_isDone_11 (by decide) rfl (fun k6 => ?_) (fun k6 => ?_)
    · replace hf := (if_neg k6).symm.trans hf
      refine a_iconst (pc' := 19) (v := (0 : Int32)) dX1_isDone_18 rfl (by decide) ?_
      cases hf
      exact a_zret hr rfl ⟨rfl, rfl⟩ dX1_isDone_19
    · replace hf := (if_pos k6).symm.trans hf
      refine a_iconst (pc' := 15) (v := (1 : Int32)) dX1_isDone_14 rfl (by decide) ?_
      refine a_goto 19 dX1_isDone_15 (by decide) ?_
      cases hf
      exact a_zret hr rfl ⟨rfl, rfl⟩ dX1_isDone_19
/-! SlateRoof$Roof.dropSlates(II)I -/
set_option maxRecDepth 100000 in
def f_X1_dropSlates_L22 (F : Nat) (a1 : Int32) (x5 : Int32) : Nat → Int32 → Int32 → d_Z → Option (Int32 × Int32 × d_Z)
  | 0, _, _, _ => none
  | n + 1, v3_22, v5_22, z_22 => (if x5 ≤ v5_22 then some (v3_22, v5_22, z_22) else (f_X1_hasSlate F z_22 a1 v5_22).bind fun x23003 => (if x23003 = 0 then f_X1_dropSlates_L22 F a1 x5 n v3_22 (v5_22 + (5 : Int32)) z_22 else (f_X3_addAt F 100 (fun k => z_22 (114 + k)) a1 (-(((1 : Int32)) <<< (v5_22 &&& 31)))).bind fun x23006 => f_let (d_put z_22 114 100 x23006) fun z23008 => f_X1_dropSlates_L22 F a1 x5 n (v3_22 + (1 : Int32)) (v5_22 + (5 : Int32)) z23008))
set_option maxRecDepth 100000 in
def f_X1_dropSlates (F : Nat) (z : d_Z) (a1 : Int32) (a2 : Int32) : Option (Int32 × d_Z) := (f_X1_hasCourse F z a1).bind fun x2 => (if x2 = 0 then some (((0 : Int32), z)) else (f_X1_placesOf F z a1).bind fun x5 => (f_X1_dropSlates_L22 F a1 x5 F ((0 : Int32)) a2 z).bind fun o6 => (f_X3_valueAt F 100 (fun k => o6.2.2 (14 + k)) a1).bind fun x10 => (f_X3_addAt F 25 (fun k => o6.2.2 (239 + k)) x10 o6.1).bind fun x12 => f_let (d_put o6.2.2 239 25 x12) fun z14 => some ((o6.1, z14)))
set_option maxHeartbeats 4000000 in
set_option maxRecDepth 100000 in
theorem l_X1_dropSlates_L22 {p : Program} {l : Launch} {e : Env} {s : State} {m : MethodId} {args : Array Value} {below : List Frame} {meth : Method} {c : Code} {Q : State → Prop} {g : a_G} (F : Nat) {h : List va_E} {i : Nat} (a1 : Int32) (x5 : Int32) : ∀ (n : Nat) (v3_22 : Int32) (v5_22 : Int32) (z_22 : d_Z) (o : Int32 × Int32 × d_Z), f_X1_dropSlates_L22 F a1 x5 n v3_22 v5_22 z_22 = some o → (∀ e9 : Int32 × Int32 × d_Z, o = e9 → ∀ h1, d_roof h1 i e9.2.2 → d_frm i 6 h h1 → a_W p l e (a_rm 2 43) s m args below meth c Q RX1 cX1_dropSlates 6 g 0 0 none 61 [(0, .ref i), (1, .int a1), (3, .int e9.1)] [] h1) → ∀ h1, d_roof h1 i z_22 → d_frm i 6 h h1 → a_W p l e (a_rm 2 43) s m args below meth c Q RX1 cX1_dropSlates 6 g 0 0 none 22 [(0, .ref i), (1, .int a1), (3, .int v3_22), (4, .int x5), (5, .int v5_22)] [] h1 := by
  intro n
  induction n with
  | zero => intro v3_22 v5_22 z_22 o hf; exact nomatch (show (none : Option (Int32 × Int32 × d_Z)) = some o from hf)
  | succ n ih =>
    intro v3_22 v5_22 z_22 o hf hX0 h1 hz hfr
    rw [f_X1_dropSlates_L22] at hf
    refine a_iload (pc' := 24) 4 dX1_dropSlates_22 rfl rfl ?_
    refine a_iload (pc' := 26) 3 dX1_dropSlates_24 rfl rfl ?_
    refine a_icmp_ge (pc' := 29) 61 dX1_dropSlates_26 (by decide) rfl (fun k23001 => ?_) (fun k23001 => ?_)
    · replace hf := (if_pos k23001).symm.trans hf
      cases hf
      refine a_sub [0, 1, 2] rfl ?_
      exact hX0 _ rfl _ hz hfr
    · replace hf := (if_neg k23001).symm.trans hf
      refine a_aload_n (pc' := 30) 0 dX1_dropSlates_29 rfl rfl rfl ?_
      refine a_iload_n (pc' := 31) 1 dX1_dropSlates_30 rfl rfl rfl ?_
      refine a_iload (pc' := 33) 4 dX1_dropSlates_31 rfl rfl ?_
      obtain ⟨x23003, e23002, hf⟩ := Option.bind_eq_some_iff.mp hf
      refine k_X1_95 (pc' := 36) (c_X1_hasSlate l g F hz e23002) ⟨Nat.le_of_ble_eq_true rfl, Nat.le_of_ble_eq_true rfl⟩ hz.1 (Nat.le_of_ble_eq_true rfl) dX1_dropSlates_33 rfl ?_
      refine a_if_eq (pc' := 39) 55 dX1_dropSlates_36 (by decide) rfl (fun k23004 => ?_) (fun k23004 => ?_)
      · replace hf := (if_pos k23004).symm.trans hf
        refine a_iinc (pc' := 58) (v := v5_22 + (5 : Int32)) (ls' := [(5, .int (v5_22 + (5 : Int32))), (0, .ref i), (1, .int a1), (3, .int v3_22), (4, .int x5)]) 4 dX1_dropSlates_55 rfl (by rfl) (by decide) rfl rfl ?_
        refine a_goto 22 dX1_dropSlates_58 (by decide) ?_
        refine a_sub [1, 2, 3, 4, 0] rfl ?_
        exact ih _ _ _ _ hf hX0 _ hz hfr
      · replace hf := (if_neg k23004).symm.trans hf
        refine a_aload_n (pc' := 40) 0 dX1_dropSlates_39 rfl rfl rfl ?_
        refine g_X1_22 (pc' := 43) hz.1 rfl dX1_dropSlates_40 rfl ?_
        refine a_iload_n (pc' := 44) 1 dX1_dropSlates_43 rfl rfl rfl ?_
        refine a_iconst (pc' := 45) (v := (1 : Int32)) dX1_dropSlates_44 rfl (by decide) ?_
        refine a_iload (pc' := 47) 4 dX1_dropSlates_45 rfl rfl ?_
        refine a_ishl (pc' := 48) dX1_dropSlates_47 rfl ?_
        refine a_ineg (pc' := 49) dX1_dropSlates_48 rfl ?_
        obtain ⟨x23006, e23005, hf⟩ := Option.bind_eq_some_iff.mp hf
        refine k_X1_119 (pc' := 52) (c_X3_addAt l g F hz.2.2.1 e23005) ⟨Nat.le_of_ble_eq_true rfl, Nat.le_of_ble_eq_true rfl⟩ (Nat.le_of_ble_eq_true rfl) dX1_dropSlates_49 rfl (fun h23007 hq => ?_)
        obtain ⟨hz1, hfr1⟩ := hq
        replace hz1 := d_r_a2 hz hz1 hfr1
        replace hfr1 := d_frm.mono (lo := i) (n := 6) hfr1 (by omega)
        obtain ⟨z23008, hf, hz⟩ := f_let_x (P := fun w => d_roof h23007 i w) hf hz1
        replace hfr := d_frm.tr hfr hfr1 (by omega)
        refine a_iinc (pc' := 55) (v := v3_22 + (1 : Int32)) (ls' := [(3, .int (v3_22 + (1 : Int32))), (0, .ref i), (1, .int a1), (4, .int x5), (5, .int v5_22)]) 2 dX1_dropSlates_52 rfl (by rfl) (by decide) rfl rfl ?_
        refine a_iinc (pc' := 58) (v := v5_22 + (5 : Int32)) (ls' := [(5, .int (v5_22 + (5 : Int32))), (3, .int (v3_22 + (1 : Int32))), (0, .ref i), (1, .int a1), (4, .int x5)]) 4 dX1_dropSlates_55 rfl (by rfl) (by decide) rfl rfl ?_
        refine a_goto 22 dX1_dropSlates_58 (by decide) ?_
        refine a_sub [2, 3, 1, 4, 0] rfl ?_
        exact ih _ _ _ _ hf hX0 _ hz hfr
set_option maxHeartbeats 4000000 in
set_option maxRecDepth 100000 in
theorem c_X1_dropSlates (l : Launch) (g : a_G) (F : Nat) {h : List va_E} {i : Nat} {z : d_Z} {a1 : Int32} {a2 : Int32} (hz : d_roof h i z) {out : Int32 × d_Z} (hf : f_X1_dropSlates F z a1 a2 = some out) : a_CT l g yX1_dropSlates cX1_dropSlates 6 (some .int) (a_rm 2 43) [.ref i, .int a1, .int a2] h none none (fun r h' => r = some (.int out.1) ∧ d_roof h' i out.2 ∧ d_frm i 6 h h') := by
  refine a_enter ⟨by decide, rfl, Nat.le_of_ble_eq_true rfl⟩ (fun p e s m args below meth c hr hin => ?_)
  unfold f_X1_dropSlates at hf
  have hfr : d_frm i 6 h h := d_frm.rf
  refine a_sub (ls' := [(0, .ref i), (1, .int a1), (2, .int a2)]) [0, 1, 2] rfl ?_
  refine a_aload_n (pc' := 1) 0 dX1_dropSlates_0 rfl rfl rfl ?_
  refine a_iload_n (pc' := 2) 1 dX1_dropSlates_1 rfl rfl rfl ?_
  obtain ⟨x2, e1, hf⟩ := Option.bind_eq_some_iff.mp hf
  refine k_X1_75 (pc' := 5) (c_X1_hasCourse l g F hz e1) ⟨Nat.le_of_ble_eq_true rfl, Nat.le_of_ble_eq_true rfl⟩ hz.1 (Nat.le_of_ble_eq_true rfl) dX1_dropSlates_2 rfl ?_
  refine a_if_ne (pc' := 8) 10 dX1_dropSlates_5 (by decide) rfl (fun k3 => ?_) (fun k3 => ?_)
  · replace hf := (if_neg k3).symm.trans hf
    refine a_iconst (pc' := 11) (v := (0 : Int32)) dX1_dropSlates_10 rfl (by decide) ?_
    refine a_istore_n (pc' := 12) (ls' := [(3, .int ((0 : Int32))), (0, .ref i), (1, .int a1), (2, .int a2)]) dX1_dropSlates_11 rfl (by decide) rfl rfl ?_
    refine a_aload_n (pc' := 13) 1 dX1_dropSlates_12 rfl rfl rfl ?_
    refine a_iload_n (pc' := 14) 2 dX1_dropSlates_13 rfl rfl rfl ?_
    obtain ⟨x5, e4, hf⟩ := Option.bind_eq_some_iff.mp hf
    refine k_X1_79 (pc' := 17) (c_X1_placesOf l g F hz e4) ⟨Nat.le_of_ble_eq_true rfl, Nat.le_of_ble_eq_true rfl⟩ hz.1 (Nat.le_of_ble_eq_true rfl) dX1_dropSlates_14 rfl ?_
    refine a_istore (pc' := 19) (ls' := [(4, .int x5), (3, .int ((0 : Int32))), (0, .ref i), (1, .int a1), (2, .int a2)]) dX1_dropSlates_17 (by decide) rfl rfl ?_
    refine a_iload_n (pc' := 20) 4 dX1_dropSlates_19 rfl rfl rfl ?_
    refine a_istore (pc' := 22) (ls' := [(5, .int a2), (4, .int x5), (3, .int ((0 : Int32))), (0, .ref i), (1, .int a1), (2, .int a2)]) dX1_dropSlates_20 (by decide) rfl rfl ?_
    obtain ⟨o6, e7, hf⟩ := Option.bind_eq_some_iff.mp hf
    refine a_sub [3, 4, 2, 1, 0] rfl ?_
    refine l_X1_dropSlates_L22 F a1 x5  F _ _ _ o6 e7 (fun e9 he9 h8 hz hfr => ?_) _ hz hfr
    subst he9
    refine a_aload_n (pc' := 62) 0 dX1_dropSlates_61 rfl rfl rfl ?_
    refine g_X1_28 (pc' := 65) hz.1 rfl dX1_dropSlates_62 rfl ?_
    refine a_aload_n (pc' := 66) 0 dX1_dropSlates_65 rfl rfl rfl ?_
    refine g_X1_18 (pc' := 69) hz.1 rfl dX1_dropSlates_66 rfl ?_
    refine a_iload_n (pc' := 70) 1 dX1_dropSlates_69 rfl rfl rfl ?_
    obtain ⟨x10, e9, hf⟩ := Option.bind_eq_some_iff.mp hf
    refine k_X1_83 (pc' := 73) (c_X3_valueAt l g F hz.2.1 e9) ⟨Nat.le_of_ble_eq_true rfl, Nat.le_of_ble_eq_true rfl⟩ (Nat.le_of_ble_eq_true rfl) dX1_dropSlates_70 rfl ?_
    refine a_iload_n (pc' := 74) 2 dX1_dropSlates_73 rfl rfl rfl ?_
    obtain ⟨x12, e11, hf⟩ := Option.bind_eq_some_iff.mp hf
    refine k_X1_119 (pc' := 77) (c_X3_addAt l g F hz.2.2.2.2.1 e11) ⟨Nat.le_of_ble_eq_true rfl, Nat.le_of_ble_eq_true rfl⟩ (Nat.le_of_ble_eq_true rfl) dX1_dropSlates_74 rfl (fun h13 hq => ?_)
    obtain ⟨hz1, hfr1⟩ := hq
    replace hz1 := d_r_a4 hz hz1 hfr1
    replace hfr1 := d_frm.mono (lo := i) (n := 6) hfr1 (by omega)
    obtain ⟨z14, hf, hz⟩ := f_let_x (P := fun w => d_roof h13 i w) hf hz1
    replace hfr := d_frm.tr hfr hfr1 (by omega)
    refine a_iload_n (pc' := 78) 2 dX1_dropSlates_77 rfl rfl rfl ?_
    cases hf
    exact a_iret hr ⟨rfl, hz, hfr⟩ dX1_dropSlates_78
  · replace hf := (if_pos k3).symm.trans hf
    refine a_iconst (pc' := 9) (v := (0 : Int32)) dX1_dropSlates_8 rfl (by decide) ?_
    cases hf
    exact a_iret hr ⟨rfl, hz, hfr⟩ dX1_dropSlates_9
/-! SlateRoof$Roof.passDay(I)I -/
set_option maxRecDepth 100000 in
def f_X1_passDay (F : Nat) (z : d_Z) (a1 : Int32) : Option (Int32 × d_Z) := f_let (upd z 6 ((z 6) + ((1 : Int32)))) fun z2 => (if a1 = 0 then f_let (upd z2 8 ((if ((0 : Int32)) < ((z2 8) - ((1 : Int32))) then (z2 8) - ((1 : Int32)) else (0 : Int32)))) fun z59 => (if a1 = ((2 : Int32)) then (if (z59 9) = 0 then (f_X1_dropSlates F z59 ((z59 2) - ((1 : Int32))) ((z59 6) - (z59 6) / ((5 : Int32)) * ((5 : Int32)))).bind fun x67 => f_let x67.2 fun z69 => (f_X1_dropSlates F z69 ((z69 2) - ((2 : Int32))) (((z69 6) + ((2 : Int32))) - ((z69 6) + ((2 : Int32))) / ((5 : Int32)) * ((5 : Int32)))).bind fun x71 => f_let x71.2 fun z73 => f_let (upd z73 7 (z73 4)) fun z75 => some ((x67.1 + x71.1, z75)) else f_let (upd z59 7 (z59 4)) fun z65 => some (((0 : Int32), z65))) else f_let (upd z59 7 (z59 4)) fun z62 => some (((0 : Int32), z62))) else (if (z2 9) = 0 then (f_X1_isDone F z2).bind fun x22 => (if x22 = 0 then f_let (upd z2 8 (z2 5)) fun z41 => (if a1 = ((2 : Int32)) then (if (z41 9) = 0 then (f_X1_dropSlates F z41 ((z41 2) - ((1 : Int32))) ((z41 6) - (z41 6) / ((5 : Int32)) * ((5 : Int32)))).bind fun x49 => f_let x49.2 fun z51 => (f_X1_dropSlates F z51 ((z51 2) - ((2 : Int32))) (((z51 6) + ((2 : Int32))) - ((z51 6) + ((2 : Int32))) / ((5 : Int32)) * ((5 : Int32)))).bind fun x53 => f_let x53.2 fun z55 => f_let (upd z55 7 (z55 4)) fun z57 => some ((x49.1 + x53.1, z57)) else f_let (upd z41 7 (z41 4)) fun z47 => some (((0 : Int32), z47))) else f_let (upd z41 7 (z41 4)) fun z44 => some (((0 : Int32), z44))) else (if a1 = ((2 : Int32)) then (if (z2 9) = 0 then (f_X1_dropSlates F z2 ((z2 2) - ((1 : Int32))) ((z2 6) - (z2 6) / ((5 : Int32)) * ((5 : Int32)))).bind fun x31 => f_let x31.2 fun z33 => (f_X1_dropSlates F z33 ((z33 2) - ((2 : Int32))) (((z33 6) + ((2 : Int32))) - ((z33 6) + ((2 : Int32))) / ((5 : Int32)) * ((5 : Int32)))).bind fun x35 => f_let x35.2 fun z37 => f_let (upd z37 7 (z37 4)) fun z39 => some ((x31.1 + x35.1, z39)) else f_let (upd z2 7 (z2 4)) fun z29 => some (((0 : Int32), z29))) else f_let (upd z2 7 (z2 4)) fun z26 => some (((0 : Int32), z26)))) else (if a1 = ((2 : Int32)) then (if (z2 9) = 0 then (f_X1_dropSlates F z2 ((z2 2) - ((1 : Int32))) ((z2 6) - (z2 6) / ((5 : Int32)) * ((5 : Int32)))).bind fun x12 => f_let x12.2 fun z14 => (f_X1_dropSlates F z14 ((z14 2) - ((2 : Int32))) (((z14 6) + ((2 : Int32))) - ((z14 6) + ((2 : Int32))) / ((5 : Int32)) * ((5 : Int32)))).bind fun x16 => f_let x16.2 fun z18 => f_let (upd z18 7 (z18 4)) fun z20 => some ((x12.1 + x16.1, z20)) else f_let (upd z2 7 (z2 4)) fun z10 => some (((0 : Int32), z10))) else f_let (upd z2 7 (z2 4)) fun z7 => some (((0 : Int32), z7)))))
set_option maxHeartbeats 4000000 in
set_option maxRecDepth 100000 in
theorem c_X1_passDay (l : Launch) (g : a_G) (F : Nat) {h : List va_E} {i : Nat} {z : d_Z} {a1 : Int32} (hz : d_roof h i z) {out : Int32 × d_Z} (hf : f_X1_passDay F z a1 = some out) : a_CT l g yX1_passDay cX1_passDay 3 (some .int) (a_rm 4 84) [.ref i, .int a1] h none none (fun r h' => r = some (.int out.1) ∧ d_roof h' i out.2 ∧ d_frm i 6 h h') := by
  refine a_enter ⟨by decide, rfl, Nat.le_of_ble_eq_true rfl⟩ (fun p e s m args below meth c hr hin => ?_)
  unfold f_X1_passDay at hf
  have hfr : d_frm i 6 h h := d_frm.rf
  refine a_sub (ls' := [(0, .ref i), (1, .int a1)]) [0, 1] rfl ?_
  refine a_aload_n (pc' := 1) 0 dX1_passDay_0 rfl rfl rfl ?_
  refine a_dup (pc' := 2) dX1_passDay_1 rfl rfl ?_
  refine g_X1_53 (pc' := 5) hz.1 rfl dX1_passDay_2 rfl ?_
  refine a_iconst (pc' := 6) (v := (1 : Int32)) dX1_passDay_5 rfl (by decide) ?_
  refine a_iadd (pc' := 7) dX1_passDay_6 rfl ?_
  refine pt_X1_53 (pc' := 10) (z := z) hz dX1_passDay_7 rfl (fun h1 hz1 hfr1 => ?_)
  obtain ⟨z2, hf, hz⟩ := f_let_x (P := fun w => d_roof h1 i w) hf hz1
  replace hfr := d_frm.tr hfr hfr1 (by omega)
  refine a_iload_n (pc' := 11) 1 dX1_passDay_10 rfl rfl rfl ?_
  refine a_if_ne (pc' := 14) 31 dX1_passDay_11 (by decide) rfl (fun k3 => ?_) (fun k3 => ?_)
  · replace hf := (if_neg k3).symm.trans hf
    refine a_aload_n (pc' := 32) 0 dX1_passDay_31 rfl rfl rfl ?_
    refine g_X1_59 (pc' := 35) hz.1 rfl dX1_passDay_32 rfl ?_
    refine a_if_ne (pc' := 38) 53 dX1_passDay_35 (by decide) rfl (fun k4 => ?_) (fun k4 => ?_)
    · replace hf := (if_neg k4).symm.trans hf
      refine a_iconst (pc' := 54) (v := (0 : Int32)) dX1_passDay_53 rfl (by decide) ?_
      refine a_istore_n (pc' := 55) (ls' := [(2, .int ((0 : Int32))), (0, .ref i), (1, .int a1)]) dX1_passDay_54 rfl (by decide) rfl rfl ?_
      refine a_iload_n (pc' := 56) 2 dX1_passDay_55 rfl rfl rfl ?_
      refine a_iconst (pc' := 57) (v := (2 : Int32)) dX1_passDay_56 rfl (by decide) ?_
      refine a_icmp_ne (pc' := 60) 103 dX1_passDay_57 (by decide) rfl (fun k5 => ?_) (fun k5 => ?_)
      · replace hf := (if_neg k5).symm.trans hf
        refine a_aload_n (pc' := 104) 1 dX1_passDay_103 rfl rfl rfl ?_
        refine a_aload_n (pc' := 105) 1 dX1_passDay_104 rfl rfl rfl ?_
        refine g_X1_37 (pc' := 108) hz.1 rfl dX1_passDay_105 rfl ?_
        refine pt_X1_43 (pc' := 111) (z := z2) hz dX1_passDay_108 rfl (fun h6 hz1 hfr1 => ?_)
        obtain ⟨z7, hf, hz⟩ := f_let_x (P := fun w => d_roof h6 i w) hf hz1
        replace hfr := d_frm.tr hfr hfr1 (by omega)
        refine a_iload_n (pc' := 112) 0 dX1_passDay_111 rfl rfl rfl ?_
        cases hf
        exact a_iret hr ⟨rfl, hz, hfr⟩ dX1_passDay_112
      · replace hf := (if_pos k5).symm.trans hf
        refine a_aload_n (pc' := 61) 1 dX1_passDay_60 rfl rfl rfl ?_
        refine g_X1_59 (pc' := 64) hz.1 rfl dX1_passDay_61 rfl ?_
        refine a_if_ne (pc' := 67) 103 dX1_passDay_64 (by decide) rfl (fun k8 => ?_) (fun k8 => ?_)
        · replace hf := (if_neg k8).symm.trans hf
          refine a_aload_n (pc' := 104) 1 dX1_passDay_103 rfl rfl rfl ?_
          refine a_aload_n (pc' := 105) 1 dX1_passDay_104 rfl rfl rfl ?_
          refine g_X1_37 (pc' := 108) hz.1 rfl dX1_passDay_105 rfl ?_
          refine pt_X1_43 (pc' := 111) (z := z2) hz dX1_passDay_108 rfl (fun h9 hz1 hfr1 => ?_)
          obtain ⟨z10, hf, hz⟩ := f_let_x (P := fun w => d_roof h9 i w) hf hz1
          replace hfr := d_frm.tr hfr hfr1 (by omega)
          refine a_iload_n (pc' := 112) 0 dX1_passDay_111 rfl rfl rfl ?_
          cases hf
          exact a_iret hr ⟨rfl, hz, hfr⟩ dX1_passDay_112
        · replace hf := (if_pos k8).symm.trans hf
          refine a_aload_n (pc' := 68) 1 dX1_passDay_67 rfl rfl rfl ?_
          refine a_aload_n (pc' := 69) 1 dX1_passDay_68 rfl rfl rfl ?_
          refine g_X1_46 (pc' := 72) hz.1 rfl dX1_passDay_69 rfl ?_
          refine a_iconst (pc' := 73) (v := (1 : Int32)) dX1_passDay_72 rfl (by decide) ?_
          refine a_isub (pc' := 74) dX1_passDay_73 rfl ?_
          refine a_aload_n (pc' := 75) 1 dX1_passDay_74 rfl rfl rfl ?_
          refine g_X1_53 (pc' := 78) hz.1 rfl dX1_passDay_75 rfl ?_
          refine a_iconst (pc' := 79) (v := (5 : Int32)) dX1_passDay_78 rfl (by decide) ?_
          refine a_irem (pc' := 80) dX1_passDay_79 rfl (by decide) ?_
          obtain ⟨x12, e11, hf⟩ := Option.bind_eq_some_iff.mp hf
          refine k_X1_132 (pc' := 83) (c_X1_dropSlates l g F hz e11) ⟨Nat.le_of_ble_eq_true rfl, Nat.le_of_ble_eq_true rfl⟩ hz.1 (Nat.le_of_ble_eq_true rfl) dX1_passDay_80 rfl (fun h13 hq => ?_)
          obtain ⟨hz1, hfr1⟩ := hq
          obtain ⟨z14, hf, hz⟩ := f_let_x (P := fun w => d_roof h13 i w) hf hz1
          replace hfr := d_frm.tr hfr hfr1 (by omega)
          refine a_aload_n (pc' := 84) 1 dX1_passDay_83 rfl rfl rfl ?_
          refine a_aload_n (pc' := 85) 1 dX1_passDay_84 rfl rfl rfl ?_
          refine g_X1_46 (pc' := 88) hz.1 rfl dX1_passDay_85 rfl ?_
          refine a_iconst (pc' := 89) (v := (2 : Int32)) dX1_passDay_88 rfl (by decide) ?_
          refine a_isub (pc' := 90) dX1_passDay_89 rfl ?_
          refine a_aload_n (pc' := 91) 1 dX1_passDay_90 rfl rfl rfl ?_
          refine g_X1_53 (pc' := 94) hz.1 rfl dX1_passDay_91 rfl ?_
          refine a_iconst (pc' := 95) (v := (2 : Int32)) dX1_passDay_94 rfl (by decide) ?_
          refine a_iadd (pc' := 96) dX1_passDay_95 rfl ?_
          refine a_iconst (pc' := 97) (v := (5 : Int32)) dX1_passDay_96 rfl (by decide) ?_
          refine a_irem (pc' := 98) dX1_passDay_97 rfl (by decide) ?_
          obtain ⟨x16, e15, hf⟩ := Option.bind_eq_some_iff.mp hf
          refine k_X1_132 (pc' := 101) (c_X1_dropSlates l g F hz e15) ⟨Nat.le_of_ble_eq_true rfl, Nat.le_of_ble_eq_true rfl⟩ hz.1 (Nat.le_of_ble_eq_true rfl) dX1_passDay_98 rfl (fun h17 hq => ?_)
          obtain ⟨hz1, hfr1⟩ := hq
          obtain ⟨z18, hf, hz⟩ := f_let_x (P := fun w => d_roof h17 i w) hf hz1
          replace hfr := d_frm.tr hfr hfr1 (by omega)
          refine a_iadd (pc' := 102) dX1_passDay_101 rfl ?_
          refine a_istore_n (pc' := 103) (ls' := [(2, .int (x12.1 + x16.1)), (0, .ref i), (1, .int a1)]) dX1_passDay_102 rfl (by decide) rfl rfl ?_
          refine a_aload_n (pc' := 104) 1 dX1_passDay_103 rfl rfl rfl ?_
          refine a_aload_n (pc' := 105) 1 dX1_passDay_104 rfl rfl rfl ?_
          refine g_X1_37 (pc' := 108) hz.1 rfl dX1_passDay_105 rfl ?_
          refine pt_X1_43 (pc' := 111) (z := z18) hz dX1_passDay_108 rfl (fun h19 hz1 hfr1 => ?_)
          obtain ⟨z20, hf, hz⟩ := f_let_x (P := fun w => d_roof h19 i w) hf hz1
          replace hfr := d_frm.tr hfr hfr1 (by omega)
          refine a_iload_n (pc' := 112) 0 dX1_passDay_111 rfl rfl rfl ?_
          cases hf
          exact a_iret hr ⟨rfl, hz, hfr⟩ dX1_passDay_112
    · replace hf := (if_pos k4).symm.trans hf
      refine a_aload_n (pc' := 39) 0 dX1_passDay_38 rfl rfl rfl ?_
      obtain ⟨x22, e21, hf⟩ := Option.bind_eq_some_iff.mp hf
      refine k_X1_129 (pc' := 42) (c_X1_isDone l g F hz e21) ⟨Nat.le_of_ble_eq_true rfl, Nat.le_of_ble_eq_true rfl⟩ hz.1 (Nat.le_of_ble_eq_true rfl) dX1_passDay_39 rfl ?_
      refine a_if_ne (pc' := 45) 53 dX1_passDay_42 (by decide) rfl (fun k23 => ?_) (fun k23 => ?_)
      · replace hf := (if_neg k23).symm.trans hf
        refine a_iconst (pc' := 54) (v := (0 : Int32)) dX1_passDay_53 rfl (by decide) ?_
        refine a_istore_n (pc' := 55) (ls' := [(2, .int ((0 : Int32))), (0, .ref i), (1, .int a1)]) dX1_passDay_54 rfl (by decide) rfl rfl ?_
        refine a_iload_n (pc' := 56) 2 dX1_passDay_55 rfl rfl rfl ?_
        refine a_iconst (pc' := 57) (v := (2 : Int32)) dX1_passDay_56 rfl (by decide) ?_
        refine a_icmp_ne (pc' := 60) 103 dX1_passDay_57 (by decide) rfl (fun k24 => ?_) (fun k24 => ?_)
        · replace hf := (if_neg k24).symm.trans hf
          refine a_aload_n (pc' := 104) 1 dX1_passDay_103 rfl rfl rfl ?_
          refine a_aload_n (pc' := 105) 1 dX1_passDay_104 rfl rfl rfl ?_
          refine g_X1_37 (pc' := 108) hz.1 rfl dX1_passDay_105 rfl ?_
          refine pt_X1_43 (pc' := 111) (z := z2) hz dX1_passDay_108 rfl (fun h25 hz1 hfr1 => ?_)
          obtain ⟨z26, hf, hz⟩ := f_let_x (P := fun w => d_roof h25 i w) hf hz1
          replace hfr := d_frm.tr hfr hfr1 (by omega)
          refine a_iload_n (pc' := 112) 0 dX1_passDay_111 rfl rfl rfl ?_
          cases hf
          exact a_iret hr ⟨rfl, hz, hfr⟩ dX1_passDay_112
        · replace hf := (if_pos k24).symm.trans hf
          refine a_aload_n (pc' := 61) 1 dX1_passDay_60 rfl rfl rfl ?_
          refine g_X1_59 (pc' := 64) hz.1 rfl dX1_passDay_61 rfl ?_
          refine a_if_ne (pc' := 67) 103 dX1_passDay_64 (by decide) rfl (fun k27 => ?_) (fun k27 => ?_)
          · replace hf := (if_neg k27).symm.trans hf
            refine a_aload_n (pc' := 104) 1 dX1_passDay_103 rfl rfl rfl ?_
            refine a_aload_n (pc' := 105) 1 dX1_passDay_104 rfl rfl rfl ?_
            refine g_X1_37 (pc' := 108) hz.1 rfl dX1_passDay_105 rfl ?_
            refine pt_X1_43 (pc' := 111) (z := z2) hz dX1_passDay_108 rfl (fun h28 hz1 hfr1 => ?_)
            obtain ⟨z29, hf, hz⟩ := f_let_x (P := fun w => d_roof h28 i w) hf hz1
            replace hfr := d_frm.tr hfr hfr1 (by omega)
            refine a_iload_n (pc' := 112) 0 dX1_passDay_111 rfl rfl rfl ?_
            cases hf
            exact a_iret hr ⟨rfl, hz, hfr⟩ dX1_passDay_112
          · replace hf := (if_pos k27).symm.trans hf
            refine a_aload_n (pc' := 68) 1 dX1_passDay_67 rfl rfl rfl ?_
            refine a_aload_n (pc' := 69) 1 dX1_passDay_68 rfl rfl rfl ?_
            refine g_X1_46 (pc' := 72) hz.1 rfl dX1_passDay_69 rfl ?_
            refine a_iconst (pc' := 73) (v := (1 : Int32)) dX1_passDay_72 rfl (by decide) ?_
            refine a_isub (pc' := 74) dX1_passDay_73 rfl ?_
            refine a_aload_n (pc' := 75) 1 dX1_passDay_74 rfl rfl rfl ?_
            refine g_X1_53 (pc' := 78) hz.1 rfl dX1_passDay_75 rfl ?_
            refine a_iconst (pc' := 79) (v := (5 : Int32)) dX1_passDay_78 rfl (by decide) ?_
            refine a_irem (pc' := 80) dX1_passDay_79 rfl (by decide) ?_
            obtain ⟨x31, e30, hf⟩ := Option.bind_eq_some_iff.mp hf
            refine k_X1_132 (pc' := 83) (c_X1_dropSlates l g F hz e30) ⟨Nat.le_of_ble_eq_true rfl, Nat.le_of_ble_eq_true rfl⟩ hz.1 (Nat.le_of_ble_eq_true rfl) dX1_passDay_80 rfl (fun h32 hq => ?_)
            obtain ⟨hz1, hfr1⟩ := hq
            obtain ⟨z33, hf, hz⟩ := f_let_x (P := fun w => d_roof h32 i w) hf hz1
            replace hfr := d_frm.tr hfr hfr1 (by omega)
            refine a_aload_n (pc' := 84) 1 dX1_passDay_83 rfl rfl rfl ?_
            refine a_aload_n (pc' := 85) 1 dX1_passDay_84 rfl rfl rfl ?_
            refine g_X1_46 (pc' := 88) hz.1 rfl dX1_passDay_85 rfl ?_
            refine a_iconst (pc' := 89) (v := (2 : Int32)) dX1_passDay_88 rfl (by decide) ?_
            refine a_isub (pc' := 90) dX1_passDay_89 rfl ?_
            refine a_aload_n (pc' := 91) 1 dX1_passDay_90 rfl rfl rfl ?_
            refine g_X1_53 (pc' := 94) hz.1 rfl dX1_passDay_91 rfl ?_
            refine a_iconst (pc' := 95) (v := (2 : Int32)) dX1_passDay_94 rfl (by decide) ?_
            refine a_iadd (pc' := 96) dX1_passDay_95 rfl ?_
            refine a_iconst (pc' := 97) (v := (5 : Int32)) dX1_passDay_96 rfl (by decide) ?_
            refine a_irem (pc' := 98) dX1_passDay_97 rfl (by decide) ?_
            obtain ⟨x35, e34, hf⟩ := Option.bind_eq_some_iff.mp hf
            refine k_X1_132 (pc' := 101) (c_X1_dropSlates l g F hz e34) ⟨Nat.le_of_ble_eq_true rfl, Nat.le_of_ble_eq_true rfl⟩ hz.1 (Nat.le_of_ble_eq_true rfl) dX1_passDay_98 rfl (fun h36 hq => ?_)
            obtain ⟨hz1, hfr1⟩ := hq
            obtain ⟨z37, hf, hz⟩ := f_let_x (P := fun w => d_roof h36 i w) hf hz1
            replace hfr := d_frm.tr hfr hfr1 (by omega)
            refine a_iadd (pc' := 102) dX1_passDay_101 rfl ?_
            refine a_istore_n (pc' := 103) (ls' := [(2, .int (x31.1 + x35.1)), (0, .ref i), (1, .int a1)]) dX1_passDay_102 rfl (by decide) rfl rfl ?_
            refine a_aload_n (pc' := 104) 1 dX1_passDay_103 rfl rfl rfl ?_
            refine a_aload_n (pc' := 105) 1 dX1_passDay_104 rfl rfl rfl ?_
            refine g_X1_37 (pc' := 108) hz.1 rfl dX1_passDay_105 rfl ?_
            refine pt_X1_43 (pc' := 111) (z := z37) hz dX1_passDay_108 rfl (fun h38 hz1 hfr1 => ?_)
            obtain ⟨z39, hf, hz⟩ := f_let_x (P := fun w => d_roof h38 i w) hf hz1
            replace hfr := d_frm.tr hfr hfr1 (by omega)
            refine a_iload_n (pc' := 112) 0 dX1_passDay_111 rfl rfl rfl ?_
            cases hf
            exact a_iret hr ⟨rfl, hz, hfr⟩ dX1_passDay_112
      · replace hf := (if_pos k23).symm.trans hf
        refine a_aload_n (pc' := 46) 0 dX1_passDay_45 rfl rfl rfl ?_
        refine a_aload_n (pc' := 47) 0 dX1_passDay_46 rfl rfl rfl ?_
        refine g_X1_40 (pc' := 50) hz.1 rfl dX1_passDay_47 rfl ?_
        refine pt_X1_56 (pc' := 53) (z := z2) hz dX1_passDay_50 rfl (fun h40 hz1 hfr1 => ?_)
        obtain ⟨z41, hf, hz⟩ := f_let_x (P := fun w => d_roof h40 i w) hf hz1
        replace hfr := d_frm.tr hfr hfr1 (by omega)
        refine a_iconst (pc' := 54) (v := (0 : Int32)) dX1_passDay_53 rfl (by decide) ?_
        refine a_istore_n (pc' := 55) (ls' := [(2, .int ((0 : Int32))), (0, .ref i), (1, .int a1)]) dX1_passDay_54 rfl (by decide) rfl rfl ?_
        refine a_iload_n (pc' := 56) 2 dX1_passDay_55 rfl rfl rfl ?_
        refine a_iconst (pc' := 57) (v := (2 : Int32)) dX1_passDay_56 rfl (by decide) ?_
        refine a_icmp_ne (pc' := 60) 103 dX1_passDay_57 (by decide) rfl (fun k42 => ?_) (fun k42 => ?_)
        · replace hf := (if_neg k42).symm.trans hf
          refine a_aload_n (pc' := 104) 1 dX1_passDay_103 rfl rfl rfl ?_
          refine a_aload_n (pc' := 105) 1 dX1_passDay_104 rfl rfl rfl ?_
          refine g_X1_37 (pc' := 108) hz.1 rfl dX1_passDay_105 rfl ?_
          refine pt_X1_43 (pc' := 111) (z := z41) hz dX1_passDay_108 rfl (fun h43 hz1 hfr1 => ?_)
          obtain ⟨z44, hf, hz⟩ := f_let_x (P := fun w => d_roof h43 i w) hf hz1
          replace hfr := d_frm.tr hfr hfr1 (by omega)
          refine a_iload_n (pc' := 112) 0 dX1_passDay_111 rfl rfl rfl ?_
          cases hf
          exact a_iret hr ⟨rfl, hz, hfr⟩ dX1_passDay_112
        · replace hf := (if_pos k42).symm.trans hf
          refine a_aload_n (pc' := 61) 1 dX1_passDay_60 rfl rfl rfl ?_
          refine g_X1_59 (pc' := 64) hz.1 rfl dX1_passDay_61 rfl ?_
          refine a_if_ne (pc' := 67) 103 dX1_passDay_64 (by decide) rfl (fun k45 => ?_) (fun k45 => ?_)
          · replace hf := (if_neg k45).symm.trans hf
            refine a_aload_n (pc' := 104) 1 dX1_passDay_103 rfl rfl rfl ?_
            refine a_aload_n (pc' := 105) 1 dX1_passDay_104 rfl rfl rfl ?_
            refine g_X1_37 (pc' := 108) hz.1 rfl dX1_passDay_105 rfl ?_
            refine pt_X1_43 (pc' := 111) (z := z41) hz dX1_passDay_108 rfl (fun h46 hz1 hfr1 => ?_)
            obtain ⟨z47, hf, hz⟩ := f_let_x (P := fun w => d_roof h46 i w) hf hz1
            replace hfr := d_frm.tr hfr hfr1 (by omega)
            refine a_iload_n (pc' := 112) 0 dX1_passDay_111 rfl rfl rfl ?_
            cases hf
            exact a_iret hr ⟨rfl, hz, hfr⟩ dX1_passDay_112
          · replace hf := (if_pos k45).symm.trans hf
            refine a_aload_n (pc' := 68) 1 dX1_passDay_67 rfl rfl rfl ?_
            refine a_aload_n (pc' := 69) 1 dX1_passDay_68 rfl rfl rfl ?_
            refine g_X1_46 (pc' := 72) hz.1 rfl dX1_passDay_69 rfl ?_
            refine a_iconst (pc' := 73) (v := (1 : Int32)) dX1_passDay_72 rfl (by decide) ?_
            refine a_isub (pc' := 74) dX1_passDay_73 rfl ?_
            refine a_aload_n (pc' := 75) 1 dX1_passDay_74 rfl rfl rfl ?_
            refine g_X1_53 (pc' := 78) hz.1 rfl dX1_passDay_75 rfl ?_
            refine a_iconst (pc' := 79) (v := (5 : Int32)) dX1_passDay_78 rfl (by decide) ?_
            refine a_irem (pc' := 80) dX1_passDay_79 rfl (by decide) ?_
            obtain ⟨x49, e48, hf⟩ := Option.bind_eq_some_iff.mp hf
            refine k_X1_132 (pc' := 83) (c_X1_dropSlates l g F hz e48) ⟨Nat.le_of_ble_eq_true rfl, Nat.le_of_ble_eq_true rfl⟩ hz.1 (Nat.le_of_ble_eq_true rfl) dX1_passDay_80 rfl (fun h50 hq => ?_)
            obtain ⟨hz1, hfr1⟩ := hq
            obtain ⟨z51, hf, hz⟩ := f_let_x (P := fun w => d_roof h50 i w) hf hz1
            replace hfr := d_frm.tr hfr hfr1 (by omega)
            refine a_aload_n (pc' := 84) 1 dX1_passDay_83 rfl rfl rfl ?_
            refine a_aload_n (pc' := 85) 1 dX1_passDay_84 rfl rfl rfl ?_
            refine g_X1_46 (pc' := 88) hz.1 rfl dX1_passDay_85 rfl ?_
            refine a_iconst (pc' := 89) (v := (2 : Int32)) dX1_passDay_88 rfl (by decide) ?_
            refine a_isub (pc' := 90) dX1_passDay_89 rfl ?_
            refine a_aload_n (pc' := 91) 1 dX1_passDay_90 rfl rfl rfl ?_
            refine g_X1_53 (pc' := 94) hz.1 rfl dX1_passDay_91 rfl ?_
            refine a_iconst (pc' := 95) (v := (2 : Int32)) dX1_passDay_94 rfl (by decide) ?_
            refine a_iadd (pc' := 96) dX1_passDay_95 rfl ?_
            refine a_iconst (pc' := 97) (v := (5 : Int32)) dX1_passDay_96 rfl (by decide) ?_
            refine a_irem (pc' := 98) dX1_passDay_97 rfl (by decide) ?_
            obtain ⟨x53, e52, hf⟩ := Option.bind_eq_some_iff.mp hf
            refine k_X1_132 (pc' := 101) (c_X1_dropSlates l g F hz e52) ⟨Nat.le_of_ble_eq_true rfl, Nat.le_of_ble_eq_true rfl⟩ hz.1 (Nat.le_of_ble_eq_true rfl) dX1_passDay_98 rfl (fun h54 hq => ?_)
            obtain ⟨hz1, hfr1⟩ := hq
            obtain ⟨z55, hf, hz⟩ := f_let_x (P := fun w => d_roof h54 i w) hf hz1
            replace hfr := d_frm.tr hfr hfr1 (by omega)
            refine a_iadd (pc' := 102) dX1_passDay_101 rfl ?_
            refine a_istore_n (pc' := 103) (ls' := [(2, .int (x49.1 + x53.1)), (0, .ref i), (1, .int a1)]) dX1_passDay_102 rfl (by decide) rfl rfl ?_
            refine a_aload_n (pc' := 104) 1 dX1_passDay_103 rfl rfl rfl ?_
            refine a_aload_n (pc' := 105) 1 dX1_passDay_104 rfl rfl rfl ?_
            refine g_X1_37 (pc' := 108) hz.1 rfl dX1_passDay_105 rfl ?_
            refine pt_X1_43 (pc' := 111) (z := z55) hz dX1_passDay_108 rfl (fun h56 hz1 hfr1 => ?_)
            obtain ⟨z57, hf, hz⟩ := f_let_x (P := fun w => d_roof h56 i w) hf hz1
            replace hfr := d_frm.tr hfr hfr1 (by omega)
            refine a_iload_n (pc' := 112) 0 dX1_passDay_111 rfl rfl rfl ?_
            cases hf
            exact a_iret hr ⟨rfl, hz, hfr⟩ dX1_passDay_112
  · replace hf := (if_pos k3).symm.trans hf
    refine a_aload_n (pc' := 15) 0 dX1_passDay_14 rfl rfl rfl ?_
    refine a_iconst (pc' := 16) (v := (0 : Int32)) dX1_passDay_15 rfl (by decide) ?_
    refine a_aload_n (pc' := 17) 0 dX1_passDay_16 rfl rfl rfl ?_
    refine g_X1_56 (pc' := 20) hz.1 rfl dX1_passDay_17 rfl ?_
    refine a_iconst (pc' := 21) (v := (1 : Int32)) dX1_passDay_20 rfl (by decide) ?_
    refine a_isub (pc' := 22) dX1_passDay_21 rfl ?_
    refine jmmax_X1_123 (pc' := 25) dX1_passDay_22 (Nat.le_of_ble_eq_true rfl) (Nat.le_of_ble_eq_true rfl) ⟨Nat.le_of_ble_eq_true rfl, Nat.le_of_ble_eq_true rfl⟩ rfl ?_
    refine pt_X1_56 (pc' := 28) (z := z2) hz dX1_passDay_25 rfl (fun h58 hz1 hfr1 => ?_)
    obtain ⟨z59, hf, hz⟩ := f_let_x (P := fun w => d_roof h58 i w) hf hz1
    replace hfr := d_frm.tr hfr hfr1 (by omega)
    refine a_goto 53 dX1_passDay_28 (by decide) ?_
    refine a_iconst (pc' := 54) (v := (0 : Int32)) dX1_passDay_53 rfl (by decide) ?_
    refine a_istore_n (pc' := 55) (ls' := [(2, .int ((0 : Int32))), (0, .ref i), (1, .int a1)]) dX1_passDay_54 rfl (by decide) rfl rfl ?_
    refine a_iload_n (pc' := 56) 2 dX1_passDay_55 rfl rfl rfl ?_
    refine a_iconst (pc' := 57) (v := (2 : Int32)) dX1_passDay_56 rfl (by decide) ?_
    refine a_icmp_ne (pc' := 60) 103 dX1_passDay_57 (by decide) rfl (fun k60 => ?_) (fun k60 => ?_)
    · replace hf := (if_neg k60).symm.trans hf
      refine a_aload_n (pc' := 104) 1 dX1_passDay_103 rfl rfl rfl ?_
      refine a_aload_n (pc' := 105) 1 dX1_passDay_104 rfl rfl rfl ?_
      refine g_X1_37 (pc' := 108) hz.1 rfl dX1_passDay_105 rfl ?_
      refine pt_X1_43 (pc' := 111) (z := z59) hz dX1_passDay_108 rfl (fun h61 hz1 hfr1 => ?_)
      obtain ⟨z62, hf, hz⟩ := f_let_x (P := fun w => d_roof h61 i w) hf hz1
      replace hfr := d_frm.tr hfr hfr1 (by omega)
      refine a_iload_n (pc' := 112) 0 dX1_passDay_111 rfl rfl rfl ?_
      cases hf
      exact a_iret hr ⟨rfl, hz, hfr⟩ dX1_passDay_112
    · replace hf := (if_pos k60).symm.trans hf
      refine a_aload_n (pc' := 61) 1 dX1_passDay_60 rfl rfl rfl ?_
      refine g_X1_59 (pc' := 64) hz.1 rfl dX1_passDay_61 rfl ?_
      refine a_if_ne (pc' := 67) 103 dX1_passDay_64 (by decide) rfl (fun k63 => ?_) (fun k63 => ?_)
      · replace hf := (if_neg k63).symm.trans hf
        refine a_aload_n (pc' := 104) 1 dX1_passDay_103 rfl rfl rfl ?_
        refine a_aload_n (pc' := 105) 1 dX1_passDay_104 rfl rfl rfl ?_
        refine g_X1_37 (pc' := 108) hz.1 rfl dX1_passDay_105 rfl ?_
        refine pt_X1_43 (pc' := 111) (z := z59) hz dX1_passDay_108 rfl (fun h64 hz1 hfr1 => ?_)
        obtain ⟨z65, hf, hz⟩ := f_let_x (P := fun w => d_roof h64 i w) hf hz1
        replace hfr := d_frm.tr hfr hfr1 (by omega)
        refine a_iload_n (pc' := 112) 0 dX1_passDay_111 rfl rfl rfl ?_
        cases hf
        exact a_iret hr ⟨rfl, hz, hfr⟩ dX1_passDay_112
      · replace hf := (if_pos k63).symm.trans hf
        refine a_aload_n (pc' := 68) 1 dX1_passDay_67 rfl rfl rfl ?_
        refine a_aload_n (pc' := 69) 1 dX1_passDay_68 rfl rfl rfl ?_
        refine g_X1_46 (pc' := 72) hz.1 rfl dX1_passDay_69 rfl ?_
        refine a_iconst (pc' := 73) (v := (1 : Int32)) dX1_passDay_72 rfl (by decide) ?_
        refine a_isub (pc' := 74) dX1_passDay_73 rfl ?_
        refine a_aload_n (pc' := 75) 1 dX1_passDay_74 rfl rfl rfl ?_
        refine g_X1_53 (pc' := 78) hz.1 rfl dX1_passDay_75 rfl ?_
        refine a_iconst (pc' := 79) (v := (5 : Int32)) dX1_passDay_78 rfl (by decide) ?_
        refine a_irem (pc' := 80) dX1_passDay_79 rfl (by decide) ?_
        obtain ⟨x67, e66, hf⟩ := Option.bind_eq_some_iff.mp hf
        refine k_X1_132 (pc' := 83) (c_X1_dropSlates l g F hz e66) ⟨Nat.le_of_ble_eq_true rfl, Nat.le_of_ble_eq_true rfl⟩ hz.1 (Nat.le_of_ble_eq_true rfl) dX1_passDay_80 rfl (fun h68 hq => ?_)
        obtain ⟨hz1, hfr1⟩ := hq
        obtain ⟨z69, hf, hz⟩ := f_let_x (P := fun w => d_roof h68 i w) hf hz1
        replace hfr := d_frm.tr hfr hfr1 (by omega)
        refine a_aload_n (pc' := 84) 1 dX1_passDay_83 rfl rfl rfl ?_
        refine a_aload_n (pc' := 85) 1 dX1_passDay_84 rfl rfl rfl ?_
        refine g_X1_46 (pc' := 88) hz.1 rfl dX1_passDay_85 rfl ?_
        refine a_iconst (pc' := 89) (v := (2 : Int32)) dX1_passDay_88 rfl (by decide) ?_
        refine a_isub (pc' := 90) dX1_passDay_89 rfl ?_
        refine a_aload_n (pc' := 91) 1 dX1_passDay_90 rfl rfl rfl ?_
        refine g_X1_53 (pc' := 94) hz.1 rfl dX1_passDay_91 rfl ?_
        refine a_iconst (pc' := 95) (v := (2 : Int32)) dX1_passDay_94 rfl (by decide) ?_
        refine a_iadd (pc' := 96) dX1_passDay_95 rfl ?_
        refine a_iconst (pc' := 97) (v := (5 : Int32)) dX1_passDay_96 rfl (by decide) ?_
        refine a_irem (pc' := 98) dX1_passDay_97 rfl (by decide) ?_
        obtain ⟨x71, e70, hf⟩ := Option.bind_eq_some_iff.mp hf
        refine k_X1_132 (pc' := 101) (c_X1_dropSlates l g F hz e70) ⟨Nat.le_of_ble_eq_true rfl, Nat.le_of_ble_eq_true rfl⟩ hz.1 (Nat.le_of_ble_eq_true rfl) dX1_passDay_98 rfl (fun h72 hq => ?_)
        obtain ⟨hz1, hfr1⟩ := hq
        obtain ⟨z73, hf, hz⟩ := f_let_x (P := fun w => d_roof h72 i w) hf hz1
        replace hfr := d_frm.tr hfr hfr1 (by omega)
        refine a_iadd (pc' := 102) dX1_passDay_101 rfl ?_
        refine a_istore_n (pc' := 103) (ls' := [(2, .int (x67.1 + x71.1)), (0, .ref i), (1, .int a1)]) dX1_passDay_102 rfl (by decide) rfl rfl ?_
        refine a_aload_n (pc' := 104) 1 dX1_passDay_103 rfl rfl rfl ?_
        refine a_aload_n (pc' := 105) 1 dX1_passDay_104 rfl rfl rfl ?_
        refine g_X1_37 (pc' := 108) hz.1 rfl dX1_passDay_105 rfl ?_
        refine pt_X1_43 (pc' := 111) (z := z73) hz dX1_passDay_108 rfl (fun h74 hz1 hfr1 => ?_)
        obtain ⟨z75, hf, hz⟩ := f_let_x (P := fun w => d_roof h74 i w) hf hz1
        replace hfr := d_frm.tr hfr hfr1 (by omega)
        refine a_iload_n (pc' := 112) 0 dX1_passDay_111 rfl rfl rfl ?_
        cases hf
        exact a_iret hr ⟨rfl, hz, hfr⟩ dX1_passDay_112
/-! SlateRoof.pass(I)I -/
set_option maxRecDepth 100000 in
def f_X3_pass (F : Nat) (q : d_C) (a1 : Int32) : Option ((Nat × d_C) ⊕ (Int32 × d_C)) := (f_X3_isWithin F a1 ((0 : Int32)) ((2 : Int32))).bind fun x2 => (if x2 = 0 then some (.inl (0, q)) else (if (q.1 6) < ((1000 : Int32)) then (f_X2_keep F q).bind fun x6 => f_let x6 fun q8 => (f_X1_passDay F q8.1 a1).bind fun x10 => f_let (x10.2, q8.2) fun q12 => some (.inr ((x10.1, q12))) else some (.inl (1, q))))
set_option maxHeartbeats 4000000 in
set_option maxRecDepth 100000 in
theorem c_X3_pass (l : Launch) (g : a_G) (F : Nat) {h : List va_E} {q : d_C} {a1 : Int32} (hz : d_cls h q) {out : Int32 × d_C} (hf : f_X3_pass F q a1 = some (.inr out)) : a_CT l g yX3_pass cX3_pass 2 (some .int) (a_rm 5 106) [.ref 0, .int a1] h none none (fun r h' => r = some (.int out.1) ∧ d_cls h' out.2 ∧ d_frm 0 55 h h') := by
  refine a_enter ⟨by decide, rfl, Nat.le_of_ble_eq_true rfl⟩ (fun p e s m args below meth c hr hin => ?_)
  unfold f_X3_pass at hf
  have hfr : d_frm 0 55 h h := d_frm.rf
  refine a_sub (ls' := [(0, .ref 0), (1, .int a1)]) [0, 1] rfl ?_
  refine a_iload_n (pc' := 1) 1 dX3_pass_0 rfl rfl rfl ?_
  refine a_iconst (pc' := 2) (v := (0 : Int32)) dX3_pass_1 rfl (by decide) ?_
  refine a_iconst (pc' := 3) (v := (2 : Int32)) dX3_pass_2 rfl (by decide) ?_
  obtain ⟨x2, e1, hf⟩ := Option.bind_eq_some_iff.mp hf
  refine k_X3_33 (pc' := 6) (c_X3_isWithin l g F e1) ⟨Nat.le_of_ble_eq_true rfl, Nat.le_of_ble_eq_true rfl⟩ (Nat.le_of_ble_eq_true rfl) dX3_pass_3 rfl ?_
  refine a_if_ne (pc' := 9) 19 dX3_pass_6 (by decide) rfl (fun k3 => ?_) (fun k3 => ?_)
  · replace hf := (if_neg k3).symm.trans hf
    refine a_aload_n (pc' := 20) 0 dX3_pass_19 rfl rfl rfl ?_
    refine g_X3_10 (pc' := 23) hz.1 rfl dX3_pass_20 rfl ?_
    refine g_X3_194 (pc' := 26) hz.2.1.1 rfl dX3_pass_23 rfl ?_
    refine a_sipush (pc' := 29) (v := (1000 : Int32)) dX3_pass_26 rfl (by decide) ?_
    refine a_icmp_lt (pc' := 32) 42 dX3_pass_29 (by decide) rfl (fun k4 => ?_) (fun k4 => ?_)
    · replace hf := (if_pos k4).symm.trans hf
      refine a_aload_n (pc' := 43) 0 dX3_pass_42 rfl rfl rfl ?_
      refine g_X3_22 (pc' := 46) hz.1 rfl dX3_pass_43 rfl ?_
      refine a_aload_n (pc' := 47) 0 dX3_pass_46 rfl rfl rfl ?_
      refine g_X3_10 (pc' := 50) hz.1 rfl dX3_pass_47 rfl ?_
      obtain ⟨x6, e5, hf⟩ := Option.bind_eq_some_iff.mp hf
      refine k_X3_44 (pc' := 53) (c_X2_keep l g F hz e5) ⟨Nat.le_of_ble_eq_true rfl, Nat.le_of_ble_eq_true rfl⟩ hz.2.2.2.1.1 (Nat.le_of_ble_eq_true rfl) dX3_pass_50 rfl (fun h7 hq => ?_)
      obtain ⟨hz1, hfr1⟩ := hq
      obtain ⟨q8, hf, hz⟩ := f_let_x (P := fun w => d_cls h7 w) hf hz1
      replace hfr := d_frm.tr hfr hfr1 (by omega)
      refine a_aload_n (pc' := 54) 0 dX3_pass_53 rfl rfl rfl ?_
      refine g_X3_10 (pc' := 57) hz.1 rfl dX3_pass_54 rfl ?_
      refine a_iload_n (pc' := 58) 1 dX3_pass_57 rfl rfl rfl ?_
      obtain ⟨x10, e9, hf⟩ := Option.bind_eq_some_iff.mp hf
      refine k_X3_199 (pc' := 61) (c_X1_passDay l g F hz.2.1 e9) ⟨Nat.le_of_ble_eq_true rfl, Nat.le_of_ble_eq_true rfl⟩ hz.2.1.1 (Nat.le_of_ble_eq_true rfl) dX3_pass_58 rfl (fun h11 hq => ?_)
      obtain ⟨hz1, hfr1⟩ := hq
      have hz2 := d_c_now hz hz1 hfr1
      obtain ⟨q12, hf, hz⟩ := f_let_x (P := fun w => d_cls h11 w) hf hz2
      replace hfr := d_frm.tr hfr hfr1 (by omega)
      cases hf
      exact a_iret hr ⟨rfl, hz, hfr⟩ dX3_pass_61
    · replace hf := (if_neg k4).symm.trans hf
      cases hf
  · replace hf := (if_pos k3).symm.trans hf
    cases hf
/-! SlateRoof$DayText.addSign(C)V -/
set_option maxRecDepth 100000 in
def f_X0_addSign (F : Nat) (t : d_T) (a1 : Int32) : Option (d_T) := (if t.2.1 < 0 then some (t) else (if (Int32.ofNat 60) ≤ t.2.1 then some (t) else f_grd t.2.1 60 (f_let (upd t.1 t.2.1.toNatClampNeg (vp_nar .char a1), t.2) fun t4 => f_let (t4.1, t4.2.1 + ((1 : Int32)), t4.2.2) fun t6 => some (t6))))
set_option maxHeartbeats 4000000 in
set_option maxRecDepth 100000 in
theorem c_X0_addSign (l : Launch) (g : a_G) (F : Nat) {h : List va_E} {t : d_T} {a1 : Int32} (hz : d_text h t) {out : d_T} (hf : f_X0_addSign F t a1 = some out) : a_CT l g yX0_addSign cX0_addSign 2 none (a_rm 0 0) [.ref 51, .int a1] h none none (fun r h' => r = none ∧ d_text h' out ∧ d_frm 51 4 h h') := by
  refine a_enter ⟨by decide, rfl, Nat.le_of_ble_eq_true rfl⟩ (fun p e s m args below meth c hr hin => ?_)
  unfold f_X0_addSign at hf
  have hfr : d_frm 51 4 h h := d_frm.rf
  refine a_sub (ls' := [(0, .ref 51), (1, .int a1)]) [0, 1] rfl ?_
  refine a_aload_n (pc' := 1) 0 dX0_addSign_0 rfl rfl rfl ?_
  refine g_X0_22 (pc' := 4) hz.1 rfl dX0_addSign_1 rfl ?_
  refine a_if_lt (pc' := 7) 39 dX0_addSign_4 (by decide) rfl (fun k1 => ?_) (fun k1 => ?_)
  · replace hf := (if_pos k1).symm.trans hf
    cases hf
    exact a_vret hr ⟨rfl, hz, hfr⟩ dX0_addSign_39
  · replace hf := (if_neg k1).symm.trans hf
    refine a_aload_n (pc' := 8) 0 dX0_addSign_7 rfl rfl rfl ?_
    refine g_X0_22 (pc' := 11) hz.1 rfl dX0_addSign_8 rfl ?_
    refine a_aload_n (pc' := 12) 0 dX0_addSign_11 rfl rfl rfl ?_
    refine g_X0_9 (pc' := 15) hz.1 rfl dX0_addSign_12 rfl ?_
    refine b_alen (pc' := 16) (kd := 1) (by decide) hz.2.1 dX0_addSign_15 rfl ?_
    refine a_icmp_ge (pc' := 19) 39 dX0_addSign_16 (by decide) rfl (fun k2 => ?_) (fun k2 => ?_)
    · replace hf := (if_pos k2).symm.trans hf
      cases hf
      exact a_vret hr ⟨rfl, hz, hfr⟩ dX0_addSign_39
    · replace hf := (if_neg k2).symm.trans hf
      refine a_aload_n (pc' := 20) 0 dX0_addSign_19 rfl rfl rfl ?_
      refine g_X0_9 (pc' := 23) hz.1 rfl dX0_addSign_20 rfl ?_
      refine a_aload_n (pc' := 24) 0 dX0_addSign_23 rfl rfl rfl ?_
      refine g_X0_22 (pc' := 27) hz.1 rfl dX0_addSign_24 rfl ?_
      refine a_iload_n (pc' := 28) 1 dX0_addSign_27 rfl rfl rfl ?_
      obtain ⟨hg, hf⟩ := f_grd_x hf
      refine b_cast (pc' := 29) hz.2.1 hg dX0_addSign_28 rfl (fun h3 hz1 hfr1 => ?_)
      obtain ⟨hz1, hfr1⟩ := d_ta_signs hz hz1 hfr1
      obtain ⟨t4, hf, hz⟩ := f_let_x (P := fun w => d_text h3 w) hf hz1
      replace hfr := d_frm.tr hfr hfr1 (by omega)
      refine a_aload_n (pc' := 30) 0 dX0_addSign_29 rfl rfl rfl ?_
      refine a_dup (pc' := 31) dX0_addSign_30 rfl rfl ?_
      refine g_X0_22 (pc' := 34) hz.1 rfl dX0_addSign_31 rfl ?_
      refine a_iconst (pc' := 35) (v := (1 : Int32)) dX0_addSign_34 rfl (by decide) ?_
      refine a_iadd (pc' := 36) dX0_addSign_35 rfl ?_
      refine pt_X0_22 (pc' := 39) hz dX0_addSign_36 rfl (fun h5 hz1 hfr1 => ?_)
      obtain ⟨t6, hf, hz⟩ := f_let_x (P := fun w => d_text h5 w) hf hz1
      replace hfr := d_frm.tr hfr hfr1 (by omega)
      cases hf
      exact a_vret hr ⟨rfl, hz, hfr⟩ dX0_addSign_39
/-! SlateRoof.append(I)I -/
set_option maxRecDepth 100000 in
def f_X3_append (F : Nat) (q : d_C) (a1 : Int32) : Option ((Nat × d_C) ⊕ (Int32 × d_C)) := (f_X3_isWithin F a1 ((33 : Int32)) ((126 : Int32))).bind fun x2 => (if x2 = 0 then some (.inl (0, q)) else (if q.2.2.2.2.1 < ((60 : Int32)) then (f_X0_addSign F q.2.2.2 ((a1.toUInt32 % 65536).toInt32)).bind fun x6 => f_let (q.1, q.2.1, q.2.2.1, x6) fun q8 => some (.inr ((q8.2.2.2.2.1, q8))) else some (.inl (1, q))))
set_option maxHeartbeats 4000000 in
set_option maxRecDepth 100000 in
theorem c_X3_append (l : Launch) (g : a_G) (F : Nat) {h : List va_E} {q : d_C} {a1 : Int32} (hz : d_cls h q) {out : Int32 × d_C} (hf : f_X3_append F q a1 = some (.inr out)) : a_CT l g yX3_append cX3_append 2 (some .int) (a_rm 1 22) [.ref 0, .int a1] h none none (fun r h' => r = some (.int out.1) ∧ d_cls h' out.2 ∧ d_frm 0 55 h h') := by
  refine a_enter ⟨by decide, rfl, Nat.le_of_ble_eq_true rfl⟩ (fun p e s m args below meth c hr hin => ?_)
  unfold f_X3_append at hf
  have hfr : d_frm 0 55 h h := d_frm.rf
  refine a_sub (ls' := [(0, .ref 0), (1, .int a1)]) [0, 1] rfl ?_
  refine a_iload_n (pc' := 1) 1 dX3_append_0 rfl rfl rfl ?_
  refine a_bipush (pc' := 3) (v := (33 : Int32)) dX3_append_1 rfl (by decide) ?_
  refine a_bipush (pc' := 5) (v := (126 : Int32)) dX3_append_3 rfl (by decide) ?_
  obtain ⟨x2, e1, hf⟩ := Option.bind_eq_some_iff.mp hf
  refine k_X3_33 (pc' := 8) (c_X3_isWithin l g F e1) ⟨Nat.le_of_ble_eq_true rfl, Nat.le_of_ble_eq_true rfl⟩ (Nat.le_of_ble_eq_true rfl) dX3_append_5 rfl ?_
  refine a_if_ne (pc' := 11) 21 dX3_append_8 (by decide) rfl (fun k3 => ?_) (fun k3 => ?_)
  · replace hf := (if_neg k3).symm.trans hf
    refine a_aload_n (pc' := 22) 0 dX3_append_21 rfl rfl rfl ?_
    refine g_X3_29 (pc' := 25) hz.1 rfl dX3_append_22 rfl ?_
    refine g_X3_204 (pc' := 28) hz.2.2.2.2.1 rfl dX3_append_25 rfl ?_
    refine a_bipush (pc' := 30) (v := (60 : Int32)) dX3_append_28 rfl (by decide) ?_
    refine a_icmp_lt (pc' := 33) 43 dX3_append_30 (by decide) rfl (fun k4 => ?_) (fun k4 => ?_)
    · replace hf := (if_pos k4).symm.trans hf
      refine a_aload_n (pc' := 44) 0 dX3_append_43 rfl rfl rfl ?_
      refine g_X3_29 (pc' := 47) hz.1 rfl dX3_append_44 rfl ?_
      refine a_iload_n (pc' := 48) 1 dX3_append_47 rfl rfl rfl ?_
      refine a_i2c (pc' := 49) dX3_append_48 rfl ?_
      obtain ⟨x6, e5, hf⟩ := Option.bind_eq_some_iff.mp hf
      refine k_X3_209 (pc' := 52) (c_X0_addSign l g F hz.2.2.2.2 e5) ⟨Nat.le_of_ble_eq_true rfl, Nat.le_of_ble_eq_true rfl⟩ hz.2.2.2.2.1 (Nat.le_of_ble_eq_true rfl) dX3_append_49 rfl (fun h7 hq => ?_)
      obtain ⟨hz1, hfr1⟩ := hq
      have hz2 := d_c_text hz hz1 hfr1
      obtain ⟨q8, hf, hz⟩ := f_let_x (P := fun w => d_cls h7 w) hf hz2
      replace hfr := d_frm.tr hfr hfr1 (by omega)
      refine a_aload_n (pc' := 53) 0 dX3_append_52 rfl rfl rfl ?_
      refine g_X3_29 (pc' := 56) hz.1 rfl dX3_append_53 rfl ?_
      refine g_X3_204 (pc' := 59) hz.2.2.2.2.1 rfl dX3_append_56 rfl ?_
      cases hf
      exact a_iret hr ⟨rfl, hz, hfr⟩ dX3_append_59
    · replace hf := (if_neg k4).symm.trans hf
      cases hf
  · replace hf := (if_pos k3).symm.trans hf
    cases hf
/-! SlateRoof$DayText.signAt(I)C -/
set_option maxRecDepth 100000 in
def f_X0_signAt (F : Nat) (t : d_T) (a1 : Int32) : Option (Int32) := (if a1 < 0 then some ((0 : Int32)) else (if (Int32.ofNat 60) ≤ a1 then some ((0 : Int32)) else f_grd a1 60 (f_if (vp_nar .char (t.1 a1.toNatClampNeg) = (t.1 a1.toNatClampNeg)) (some (t.1 a1.toNatClampNeg)))))
set_option maxHeartbeats 4000000 in
set_option maxRecDepth 100000 in
theorem c_X0_signAt (l : Launch) (g : a_G) (F : Nat) {h : List va_E} {t : d_T} {a1 : Int32} (hz : d_text h t) {out : Int32} (hf : f_X0_signAt F t a1 = some out) : a_CT l g yX0_signAt cX0_signAt 2 (some .char) (a_rm 0 0) [.ref 51, .int a1] h none none (fun r h' => r = some (.int out) ∧ h' = h) := by
  refine a_enter ⟨by decide, rfl, Nat.le_of_ble_eq_true rfl⟩ (fun p e s m args below meth c hr hin => ?_)
  unfold f_X0_signAt at hf
  refine a_sub (ls' := [(0, .ref 51), (1, .int a1)]) [0, 1] rfl ?_
  refine a_iload_n (pc' := 1) 1 dX0_signAt_0 rfl rfl rfl ?_
  refine a_if_lt (pc' := 4) 22 dX0_signAt_1 (by decide) rfl (fun k1 => ?_) (fun k1 => ?_)
  · replace hf := (if_pos k1).symm.trans hf
    refine a_iconst (pc' := 23) (v := (0 : Int32)) dX0_signAt_22 rfl (by decide) ?_
    cases hf
    exact a_zret hr rfl ⟨rfl, rfl⟩ dX0_signAt_23
  · replace hf := (if_neg k1).symm.trans hf
    refine a_iload_n (pc' := 5) 1 dX0_signAt_4 rfl rfl rfl ?_
    refine a_aload_n (pc' := 6) 0 dX0_signAt_5 rfl rfl rfl ?_
    refine g_X0_9 (pc' := 9) hz.1 rfl dX0_signAt_6 rfl ?_
    refine b_alen (pc' := 10) (kd := 1) (by decide) hz.2.1 dX0_signAt_9 rfl ?_
    refine a_icmp_ge (pc' := 13) 22 dX0_signAt_10 (by decide) rfl (fun k2 => ?_) (fun k2 => ?_)
    · replace hf := (if_pos k2).symm.trans hf
      refine a_iconst (pc' := 23) (v := (0 : Int32)) dX0_signAt_22 rfl (by decide) ?_
      cases hf
      exact a_zret hr rfl ⟨rfl, rfl⟩ dX0_signAt_23
    · replace hf := (if_neg k2).symm.trans hf
      refine a_aload_n (pc' := 14) 0 dX0_signAt_13 rfl rfl rfl ?_
      refine g_X0_9 (pc' := 17) hz.1 rfl dX0_signAt_14 rfl ?_
      refine a_iload_n (pc' := 18) 1 dX0_signAt_17 rfl rfl rfl ?_
      obtain ⟨hg, hf⟩ := f_grd_x hf
      refine b_cald (pc' := 19) hz.2.1 hg dX0_signAt_18 rfl ?_
      refine a_goto 23 dX0_signAt_19 (by decide) ?_
      obtain ⟨hg, hf⟩ := f_if_x hf
      cases hf
      exact a_zret hr (b_char hg) ⟨rfl, rfl⟩ dX0_signAt_23
/-! SlateRoof$DayText.weatherOf(C)I -/
set_option maxRecDepth 100000 in
def f_X0_weatherOf (F : Nat) (a1 : Int32) : Option (Int32) := (if a1 = (100 : Int32) then some ((0 : Int32)) else (if a1 = (114 : Int32) then some ((1 : Int32)) else (if a1 = (115 : Int32) then some ((2 : Int32)) else (some ((-1 : Int32))))))
set_option maxHeartbeats 4000000 in
set_option maxRecDepth 100000 in
theorem c_X0_weatherOf (l : Launch) (g : a_G) (F : Nat) {h : List va_E} {a1 : Int32} {out : Int32} (hf : f_X0_weatherOf F a1 = some out) : a_CT l g yX0_weatherOf cX0_weatherOf 1 (some .int) (a_rm 0 0) [.int a1] h none none (fun r h' => r = some (.int out) ∧ h' = h) := by
  refine a_enter ⟨by decide, rfl, Nat.le_of_ble_eq_true rfl⟩ (fun p e s m args below meth c hr hin => ?_)
  unfold f_X0_weatherOf at hf
  refine a_sub (ls' := [(0, .int a1)]) [0] rfl ?_
  refine a_iload_n (pc' := 1) 0 dX0_weatherOf_0 rfl rfl rfl ?_
  by_cases k1 : a1 = (100 : Int32)
  · replace hf := (if_pos k1).symm.trans hf
    refine b_top k1 ?_
    refine a_lookup (off := 35) 36 dX0_weatherOf_1 rfl (by decide) (by decide) ?_
    refine a_iconst (pc' := 37) (v := (0 : Int32)) dX0_weatherOf_36 rfl (by decide) ?_
    cases hf
    exact a_iret hr ⟨rfl, rfl⟩ dX0_weatherOf_37
  · replace hf := (if_neg k1).symm.trans hf
    by_cases k2 : a1 = (114 : Int32)
    · replace hf := (if_pos k2).symm.trans hf
      refine b_top k2 ?_
      refine a_lookup (off := 37) 38 dX0_weatherOf_1 rfl (by decide) (by decide) ?_
      refine a_iconst (pc' := 39) (v := (1 : Int32)) dX0_weatherOf_38 rfl (by decide) ?_
      cases hf
      exact a_iret hr ⟨rfl, rfl⟩ dX0_weatherOf_39
    · replace hf := (if_neg k2).symm.trans hf
      by_cases k3 : a1 = (115 : Int32)
      · replace hf := (if_pos k3).symm.trans hf
        refine b_top k3 ?_
        refine a_lookup (off := 39) 40 dX0_weatherOf_1 rfl (by decide) (by decide) ?_
        refine a_iconst (pc' := 41) (v := (2 : Int32)) dX0_weatherOf_40 rfl (by decide) ?_
        cases hf
        exact a_iret hr ⟨rfl, rfl⟩ dX0_weatherOf_41
      · replace hf := (if_neg k3).symm.trans hf
        refine a_lookup (off := 41) 42 dX0_weatherOf_1 rfl (b_lout3 k1 k2 k3) (by decide) ?_
        refine a_iconst (pc' := 43) (v := (-1 : Int32)) dX0_weatherOf_42 rfl (by decide) ?_
        cases hf
        exact a_iret hr ⟨rfl, rfl⟩ dX0_weatherOf_43
/-! SlateRoof$DayText.isDigit(C)Z -/
set_option maxRecDepth 100000 in
def f_X0_isDigit (F : Nat) (a1 : Int32) : Option (Int32) := (if a1 < ((48 : Int32)) then some ((0 : Int32)) else (if ((57 : Int32)) < a1 then some ((0 : Int32)) else some ((1 : Int32))))
set_option maxHeartbeats 4000000 in
set_option maxRecDepth 100000 in
theorem c_X0_isDigit (l : Launch) (g : a_G) (F : Nat) {h : List va_E} {a1 : Int32} {out : Int32} (hf : f_X0_isDigit F a1 = some out) : a_CT l g yX0_isDigit cX0_isDigit 1 (some .boolean) (a_rm 0 0) [.int a1] h none none (fun r h' => r = some (.int out) ∧ h' = h) := by
  refine a_enter ⟨by decide, rfl, Nat.le_of_ble_eq_true rfl⟩ (fun p e s m args below meth c hr hin => ?_)
  unfold f_X0_isDigit at hf
  refine a_sub (ls' := [(0, .int a1)]) [0] rfl ?_
  refine a_iload_n (pc' := 1) 0 dX0_isDigit_0 rfl rfl rfl ?_
  refine a_bipush (pc' := 3) (v := (48 : Int32)) dX0_isDigit_1 rfl (by decide) ?_
  refine a_icmp_lt (pc' := 6) 16 dX0_isDigit_3 (by decide) rfl (fun k1 => ?_) (fun k1 => ?_)
  · replace hf := (if_pos k1).symm.trans hf
    refine a_iconst (pc' := 17) (v := (0 : Int32)) dX0_isDigit_16 rfl (by decide) ?_
    cases hf
    exact a_zret hr rfl ⟨rfl, rfl⟩ dX0_isDigit_17
  · replace hf := (if_neg k1).symm.trans hf
    refine a_iload_n (pc' := 7) 0 dX0_isDigit_6 rfl rfl rfl ?_
    refine a_bipush (pc' := 9) (v := (57 : Int32)) dX0_isDigit_7 rfl (by decide) ?_
    refine a_icmp_gt (pc' := 12) 16 dX0_isDigit_9 (by decide) rfl (fun k2 => ?_) (fun k2 => ?_)
    · replace hf := (if_pos k2).symm.trans hf
      refine a_iconst (pc' := 17) (v := (0 : Int32)) dX0_isDigit_16 rfl (by decide) ?_
      cases hf
      exact a_zret hr rfl ⟨rfl, rfl⟩ dX0_isDigit_17
    · replace hf := (if_neg k2).symm.trans hf
      refine a_iconst (pc' := 13) (v := (1 : Int32)) dX0_isDigit_12 rfl (by decide) ?_
      refine a_goto 17 dX0_isDigit_13 (by decide) ?_
      cases hf
      exact a_zret hr rfl ⟨rfl, rfl⟩ dX0_isDigit_17
/-! SlateRoof$DayText.after(IC)I -/
set_option maxRecDepth 100000 in
def f_X0_after (F : Nat) (a1 : Int32) (a2 : Int32) : Option (Int32) := (f_X0_weatherOf F a2).bind fun x2 => (if x2 = ((-1 : Int32)) then (f_X0_isDigit F a2).bind fun x5 => (if x5 = 0 then some ((-1 : Int32)) else (if a1 = (1 : Int32) then (if a2 = ((48 : Int32)) then some ((-1 : Int32)) else (if a2 = ((49 : Int32)) then some ((2 : Int32)) else some ((3 : Int32)))) else (if a1 = (2 : Int32) then some ((4 : Int32)) else (if a1 = (3 : Int32) then some ((4 : Int32)) else (some ((-1 : Int32))))))) else (if a1 = ((2 : Int32)) then some ((-1 : Int32)) else some ((1 : Int32))))
set_option maxHeartbeats 4000000 in
set_option maxRecDepth 100000 in
theorem c_X0_after (l : Launch) (g : a_G) (F : Nat) {h : List va_E} {a1 : Int32} {a2 : Int32} {out : Int32} (hf : f_X0_after F a1 a2 = some out) : a_CT l g yX0_after cX0_after 2 (some .int) (a_rm 1 20) [.int a1, .int a2] h none none (fun r h' => r = some (.int out) ∧ h' = h) := by
  refine a_enter ⟨by decide, rfl, Nat.le_of_ble_eq_true rfl⟩ (fun p e s m args below meth c hr hin => ?_)
  unfold f_X0_after at hf
  refine a_sub (ls' := [(0, .int a1), (1, .int a2)]) [0, 1] rfl ?_
  refine a_iload_n (pc' := 1) 1 dX0_after_0 rfl rfl rfl ?_
  obtain ⟨x2, e1, hf⟩ := Option.bind_eq_some_iff.mp hf
  refine k_X0_34 (pc' := 4) (c_X0_weatherOf l g F e1) ⟨Nat.le_of_ble_eq_true rfl, Nat.le_of_ble_eq_true rfl⟩ (Nat.le_of_ble_eq_true rfl) dX0_after_1 rfl ?_
  refine a_iconst (pc' := 5) (v := (-1 : Int32)) dX0_after_4 rfl (by decide) ?_
  refine a_icmp_eq (pc' := 8) 19 dX0_after_5 (by decide) rfl (fun k3 => ?_) (fun k3 => ?_)
  · replace hf := (if_pos k3).symm.trans hf
    refine a_iload_n (pc' := 20) 1 dX0_after_19 rfl rfl rfl ?_
    obtain ⟨x5, e4, hf⟩ := Option.bind_eq_some_iff.mp hf
    refine k_X0_38 (pc' := 23) (c_X0_isDigit l g F e4) ⟨Nat.le_of_ble_eq_true rfl, Nat.le_of_ble_eq_true rfl⟩ (Nat.le_of_ble_eq_true rfl) dX0_after_20 rfl ?_
    refine a_if_ne (pc' := 26) 28 dX0_after_23 (by decide) rfl (fun k6 => ?_) (fun k6 => ?_)
    · replace hf := (if_neg k6).symm.trans hf
      refine a_iload_n (pc' := 29) 0 dX0_after_28 rfl rfl rfl ?_
      by_cases k7 : a1 = (1 : Int32)
      · replace hf := (if_pos k7).symm.trans hf
        refine b_top k7 ?_
        refine a_tableIn (off := 27) 56 dX0_after_29 (by decide) (by decide) rfl (by decide) ?_
        refine a_iload_n (pc' := 57) 1 dX0_after_56 rfl rfl rfl ?_
        refine a_bipush (pc' := 59) (v := (48 : Int32)) dX0_after_57 rfl (by decide) ?_
        refine a_icmp_ne (pc' := 62) 64 dX0_after_59 (by decide) rfl (fun k8 => ?_) (fun k8 => ?_)
        · replace hf := (if_neg k8).symm.trans hf
          refine a_iload_n (pc' := 65) 1 dX0_after_64 rfl rfl rfl ?_
          refine a_bipush (pc' := 67) (v := (49 : Int32)) dX0_after_65 rfl (by decide) ?_
          refine a_icmp_ne (pc' := 70) 74 dX0_after_67 (by decide) rfl (fun k9 => ?_) (fun k9 => ?_)
          · replace hf := (if_neg k9).symm.trans hf
            refine a_iconst (pc' := 75) (v := (3 : Int32)) dX0_after_74 rfl (by decide) ?_
            cases hf
            exact a_iret hr ⟨rfl, rfl⟩ dX0_after_75
          · replace hf := (if_pos k9).symm.trans hf
            refine a_iconst (pc' := 71) (v := (2 : Int32)) dX0_after_70 rfl (by decide) ?_
            refine a_goto 75 dX0_after_71 (by decide) ?_
            cases hf
            exact a_iret hr ⟨rfl, rfl⟩ dX0_after_75
        · replace hf := (if_pos k8).symm.trans hf
          refine a_iconst (pc' := 63) (v := (-1 : Int32)) dX0_after_62 rfl (by decide) ?_
          cases hf
          exact a_iret hr ⟨rfl, rfl⟩ dX0_after_63
      · replace hf := (if_neg k7).symm.trans hf
        by_cases k10 : a1 = (2 : Int32)
        · replace hf := (if_pos k10).symm.trans hf
          refine b_top k10 ?_
          refine a_tableIn (off := 47) 76 dX0_after_29 (by decide) (by decide) rfl (by decide) ?_
          refine a_iconst (pc' := 77) (v := (4 : Int32)) dX0_after_76 rfl (by decide) ?_
          cases hf
          exact a_iret hr ⟨rfl, rfl⟩ dX0_after_77
        · replace hf := (if_neg k10).symm.trans hf
          by_cases k11 : a1 = (3 : Int32)
          · replace hf := (if_pos k11).symm.trans hf
            refine b_top k11 ?_
            refine a_tableIn (off := 47) 76 dX0_after_29 (by decide) (by decide) rfl (by decide) ?_
            refine a_iconst (pc' := 77) (v := (4 : Int32)) dX0_after_76 rfl (by decide) ?_
            cases hf
            exact a_iret hr ⟨rfl, rfl⟩ dX0_after_77
          · replace hf := (if_neg k11).symm.trans hf
            refine a_tableOut 78 dX0_after_29 (b_tout3_1 k7 k10 k11) (by decide) ?_
            refine a_iconst (pc' := 79) (v := (-1 : Int32)) dX0_after_78 rfl (by decide) ?_
            cases hf
            exact a_iret hr ⟨rfl, rfl⟩ dX0_after_79
    · replace hf := (if_pos k6).symm.trans hf
      refine a_iconst (pc' := 27) (v := (-1 : Int32)) dX0_after_26 rfl (by decide) ?_
      cases hf
      exact a_iret hr ⟨rfl, rfl⟩ dX0_after_27
  · replace hf := (if_neg k3).symm.trans hf
    refine a_iload_n (pc' := 9) 0 dX0_after_8 rfl rfl rfl ?_
    refine a_iconst (pc' := 10) (v := (2 : Int32)) dX0_after_9 rfl (by decide) ?_
    refine a_icmp_ne (pc' := 13) 17 dX0_after_10 (by decide) rfl (fun k12 => ?_) (fun k12 => ?_)
    · replace hf := (if_neg k12).symm.trans hf
      refine a_iconst (pc' := 18) (v := (1 : Int32)) dX0_after_17 rfl (by decide) ?_
      cases hf
      exact a_iret hr ⟨rfl, rfl⟩ dX0_after_18
    · replace hf := (if_pos k12).symm.trans hf
      refine a_iconst (pc' := 14) (v := (-1 : Int32)) dX0_after_13 rfl (by decide) ?_
      refine a_goto 18 dX0_after_14 (by decide) ?_
      cases hf
      exact a_iret hr ⟨rfl, rfl⟩ dX0_after_18
/-! SlateRoof$DayText.isComplete()Z -/
set_option maxRecDepth 100000 in
def f_X0_isComplete_L4 (F : Nat) (t : d_T) : Nat → Int32 → Int32 → Option (Int32 × Int32)
  | 0, _, _ => none
  | n + 1, v1_4, v2_4 => (if t.2.1 ≤ v2_4 then some (v1_4, v2_4) else (if v1_4 = ((-1 : Int32)) then some (v1_4, v2_4) else (f_X0_signAt F t v2_4).bind fun x5004 => (f_X0_after F v1_4 x5004).bind fun x5006 => f_X0_isComplete_L4 F t n x5006 (v2_4 + (1 : Int32))))
set_option maxRecDepth 100000 in
def f_X0_isComplete (F : Nat) (t : d_T) : Option (Int32) := (f_X0_isComplete_L4 F t F ((0 : Int32)) ((0 : Int32))).bind fun o1 => (if o1.1 = ((1 : Int32)) then some ((1 : Int32)) else (if o1.1 = ((3 : Int32)) then some ((1 : Int32)) else (if o1.1 = ((4 : Int32)) then some ((1 : Int32)) else some ((0 : Int32)))))
set_option maxHeartbeats 4000000 in
set_option maxRecDepth 100000 in
theorem l_X0_isComplete_L4 {p : Program} {l : Launch} {e : Env} {s : State} {m : MethodId} {args : Array Value} {below : List Frame} {meth : Method} {c : Code} {Q : State → Prop} {g : a_G} (F : Nat) {h : List va_E} (t : d_T) (hz : d_text h t) : ∀ (n : Nat) (v1_4 : Int32) (v2_4 : Int32) (o : Int32 × Int32), f_X0_isComplete_L4 F t n v1_4 v2_4 = some o → (∀ e9 : Int32 × Int32, o = e9 → a_W p l e (a_rm 2 41) s m args below meth c Q RX0 cX0_isComplete 3 g 0 0 none 33 [(1, .int e9.1)] [] h) → a_W p l e (a_rm 2 41) s m args below meth c Q RX0 cX0_isComplete 3 g 0 0 none 4 [(0, .ref 51), (1, .int v1_4), (2, .int v2_4)] [] h := by
  intro n
  induction n with
  | zero => intro v1_4 v2_4 o hf; exact nomatch (show (none : Option (Int32 × Int32)) = some o from hf)
  | succ n ih =>
    intro v1_4 v2_4 o hf hX0
    rw [f_X0_isComplete_L4] at hf
    refine a_iload_n (pc' := 5) 2 dX0_isComplete_4 rfl rfl rfl ?_
    refine a_aload_n (pc' := 6) 0 dX0_isComplete_5 rfl rfl rfl ?_
    refine g_X0_22 (pc' := 9) hz.1 rfl dX0_isComplete_6 rfl ?_
    refine a_icmp_ge (pc' := 12) 33 dX0_isComplete_9 (by decide) rfl (fun k5001 => ?_) (fun k5001 => ?_)
    · replace hf := (if_pos k5001).symm.trans hf
      cases hf
      refine a_sub [1] rfl ?_
      exact hX0 _ rfl
    · replace hf := (if_neg k5001).symm.trans hf
      refine a_iload_n (pc' := 13) 1 dX0_isComplete_12 rfl rfl rfl ?_
      refine a_iconst (pc' := 14) (v := (-1 : Int32)) dX0_isComplete_13 rfl (by decide) ?_
      refine a_icmp_eq (pc' := 17) 33 dX0_isComplete_14 (by decide) rfl (fun k5002 => ?_) (fun k5002 => ?_)
      · replace hf := (if_pos k5002).symm.trans hf
        cases hf
        refine a_sub [1] rfl ?_
        exact hX0 _ rfl
      · replace hf := (if_neg k5002).symm.trans hf
        refine a_iload_n (pc' := 18) 1 dX0_isComplete_17 rfl rfl rfl ?_
        refine a_aload_n (pc' := 19) 0 dX0_isComplete_18 rfl rfl rfl ?_
        refine a_iload_n (pc' := 20) 2 dX0_isComplete_19 rfl rfl rfl ?_
        obtain ⟨x5004, e5003, hf⟩ := Option.bind_eq_some_iff.mp hf
        refine k_X0_26 (pc' := 23) (c_X0_signAt l g F hz e5003) ⟨Nat.le_of_ble_eq_true rfl, Nat.le_of_ble_eq_true rfl⟩ hz.1 (Nat.le_of_ble_eq_true rfl) dX0_isComplete_20 rfl ?_
        obtain ⟨x5006, e5005, hf⟩ := Option.bind_eq_some_iff.mp hf
        refine k_X0_30 (pc' := 26) (c_X0_after l g F e5005) ⟨Nat.le_of_ble_eq_true rfl, Nat.le_of_ble_eq_true rfl⟩ (Nat.le_of_ble_eq_true rfl) dX0_isComplete_23 rfl ?_
        refine a_istore_n (pc' := 27) (ls' := [(1, .int x5006), (0, .ref 51), (2, .int v2_4)]) dX0_isComplete_26 rfl (by decide) rfl rfl ?_
        refine a_iinc (pc' := 30) (v := v2_4 + (1 : Int32)) (ls' := [(2, .int (v2_4 + (1 : Int32))), (1, .int x5006), (0, .ref 51)]) 2 dX0_isComplete_27 rfl (by rfl) (by decide) rfl rfl ?_
        refine a_goto 4 dX0_isComplete_30 (by decide) ?_
        refine a_sub [2, 1, 0] rfl ?_
        exact ih _ _ _ hf hX0
set_option maxHeartbeats 4000000 in
set_option maxRecDepth 100000 in
theorem c_X0_isComplete (l : Launch) (g : a_G) (F : Nat) {h : List va_E} {t : d_T} (hz : d_text h t) {out : Int32} (hf : f_X0_isComplete F t = some out) : a_CT l g yX0_isComplete cX0_isComplete 3 (some .boolean) (a_rm 2 41) [.ref 51] h none none (fun r h' => r = some (.int out) ∧ h' = h) := by
  refine a_enter ⟨by decide, rfl, Nat.le_of_ble_eq_true rfl⟩ (fun p e s m args below meth c hr hin => ?_)
  unfold f_X0_isComplete at hf
  refine a_sub (ls' := [(0, .ref 51)]) [0] rfl ?_
  refine a_iconst (pc' := 1) (v := (0 : Int32)) dX0_isComplete_0 rfl (by decide) ?_
  refine a_istore_n (pc' := 2) (ls' := [(1, .int ((0 : Int32))), (0, .ref 51)]) dX0_isComplete_1 rfl (by decide) rfl rfl ?_
  refine a_iconst (pc' := 3) (v := (0 : Int32)) dX0_isComplete_2 rfl (by decide) ?_
  refine a_istore_n (pc' := 4) (ls' := [(2, .int ((0 : Int32))), (1, .int ((0 : Int32))), (0, .ref 51)]) dX0_isComplete_3 rfl (by decide) rfl rfl ?_
  obtain ⟨o1, e2, hf⟩ := Option.bind_eq_some_iff.mp hf
  refine a_sub [2, 1, 0] rfl ?_
  refine l_X0_isComplete_L4 F t hz F _ _ o1 e2 (fun e9 he9 => ?_)
  subst he9
  refine a_iload_n (pc' := 34) 0 dX0_isComplete_33 rfl rfl rfl ?_
  refine a_iconst (pc' := 35) (v := (1 : Int32)) dX0_isComplete_34 rfl (by decide) ?_
  refine a_icmp_eq (pc' := 38) 48 dX0_isComplete_35 (by decide) rfl (fun k3 => ?_) (fun k3 => ?_)
  · replace hf := (if_pos k3).symm.trans hf
    refine a_iconst (pc' := 49) (v := (1 : Int32)) dX0_isComplete_48 rfl (by decide) ?_
    refine a_goto 53 dX0_isComplete_49 (by decide) ?_
    cases hf
    exact a_zret hr rfl ⟨rfl, rfl⟩ dX0_isComplete_53
  · replace hf := (if_neg k3).symm.trans hf
    refine a_iload_n (pc' := 39) 0 dX0_isComplete_38 rfl rfl rfl ?_
    refine a_iconst (pc' := 40) (v := (3 : Int32)) dX0_isComplete_39 rfl (by decide) ?_
    refine a_icmp_eq (pc' := 43) 48 dX0_isComplete_40 (by decide) rfl (fun k4 => ?_) (fun k4 => ?_)
    · replace hf := (if_pos k4).symm.trans hf
      refine a_iconst (pc' := 49) (v := (1 : Int32)) dX0_isComplete_48 rfl (by decide) ?_
      refine a_goto 53 dX0_isComplete_49 (by decide) ?_
      cases hf
      exact a_zret hr rfl ⟨rfl, rfl⟩ dX0_isComplete_53
    · replace hf := (if_neg k4).symm.trans hf
      refine a_iload_n (pc' := 44) 0 dX0_isComplete_43 rfl rfl rfl ?_
      refine a_iconst (pc' := 45) (v := (4 : Int32)) dX0_isComplete_44 rfl (by decide) ?_
      refine a_icmp_ne (pc' := 48) 52 dX0_isComplete_45 (by decide) rfl (fun k5 => ?_) (fun k5 => ?_)
      · replace hf := (if_neg k5).symm.trans hf
        refine a_iconst (pc' := 53) (v := (0 : Int32)) dX0_isComplete_52 rfl (by decide) ?_
        cases hf
        exact a_zret hr rfl ⟨rfl, rfl⟩ dX0_isComplete_53
      · replace hf := (if_pos k5).symm.trans hf
        refine a_iconst (pc' := 49) (v := (1 : Int32)) dX0_isComplete_48 rfl (by decide) ?_
        refine a_goto 53 dX0_isComplete_49 (by decide) ?_
        cases hf
        exact a_zret hr rfl ⟨rfl, rfl⟩ dX0_isComplete_53
/-! SlateRoof$DayText.readParts()I -/
set_option maxRecDepth 100000 in
def f_X0_readParts_L52 (F : Nat) (t7009 : d_T) : Nat → Int32 → Int32 → Option (Int32 × Int32)
  | 0, _, _ => none
  | n + 1, v2_52, v4_52 => (if t7009.2.1 ≤ v2_52 then some (v2_52, v4_52) else (f_X0_signAt F t7009 v2_52).bind fun x53003 => (f_X0_isDigit F x53003).bind fun x53005 => (if x53005 = 0 then some (v2_52, v4_52) else (f_X0_signAt F t7009 v2_52).bind fun x53008 => f_X0_readParts_L52 F t7009 n (v2_52 + (1 : Int32)) ((v4_52 * ((10 : Int32))) + (x53008 - ((48 : Int32))))))
set_option maxRecDepth 100000 in
def f_X0_readParts_L6 (F : Nat)  : Nat → Int32 → Int32 → Int32 → d_T → Option (Int32 × Int32 × Int32 × d_T)
  | 0, _, _, _, _ => none
  | n + 1, v1_6, v2_6, v3_6, t_6 => (if t_6.2.1 ≤ v2_6 then some (v1_6, v2_6, v3_6, t_6) else (if (Int32.ofNat 60) ≤ v3_6 then some (v1_6, v2_6, v3_6, t_6) else (if (Int32.ofNat 60) ≤ v3_6 then some (v1_6, v2_6, v3_6, t_6) else (f_X0_signAt F t_6 v2_6).bind fun x7005 => (f_X0_weatherOf F x7005).bind fun x7007 => f_grd v3_6 60 (f_let (t_6.1, t_6.2.1, upd t_6.2.2.1 v3_6.toNatClampNeg x7007, t_6.2.2.2) fun t7009 => (f_X0_readParts_L52 F t7009 F (v2_6 + (1 : Int32)) ((0 : Int32))).bind fun o7010 => f_grd v3_6 60 (f_let (t7009.1, t7009.2.1, t7009.2.2.1, upd t7009.2.2.2.1 v3_6.toNatClampNeg ((if ((1 : Int32)) < o7010.2 then o7010.2 else (1 : Int32))), t7009.2.2.2.2) fun t7013 => f_grd v3_6 60 (f_X0_readParts_L6 F  n (v1_6 + (t7013.2.2.2.1 v3_6.toNatClampNeg)) o7010.1 (v3_6 + (1 : Int32)) t7013))))))
set_option maxRecDepth 100000 in
def f_X0_readParts (F : Nat) (t : d_T) : Option (Int32 × d_T) := (f_X0_readParts_L6 F F ((0 : Int32)) ((0 : Int32)) ((0 : Int32)) t).bind fun o1 => f_let (o1.2.2.2.1, o1.2.2.2.2.1, o1.2.2.2.2.2.1, o1.2.2.2.2.2.2.1, o1.2.2.1) fun t5 => some ((o1.1, t5))
set_option maxHeartbeats 4000000 in
set_option maxRecDepth 100000 in
theorem l_X0_readParts_L52 {p : Program} {l : Launch} {e : Env} {s : State} {m : MethodId} {args : Array Value} {below : List Frame} {meth : Method} {c : Code} {Q : State → Prop} {g : a_G} (F : Nat) {h : List va_E} (v1_6 : Int32) (v3_6 : Int32) (t7009 : d_T) (hz : d_text h t7009) : ∀ (n : Nat) (v2_52 : Int32) (v4_52 : Int32) (o : Int32 × Int32), f_X0_readParts_L52 F t7009 n v2_52 v4_52 = some o → (∀ e9 : Int32 × Int32, o = e9 → a_W p l e (a_rm 1 21) s m args below meth c Q RX0 cX0_readParts 5 g 0 0 none 93 [(0, .ref 51), (1, .int v1_6), (2, .int e9.1), (3, .int v3_6), (4, .int e9.2)] [] h) → a_W p l e (a_rm 1 21) s m args below meth c Q RX0 cX0_readParts 5 g 0 0 none 52 [(0, .ref 51), (1, .int v1_6), (2, .int v2_52), (3, .int v3_6), (4, .int v4_52)] [] h := by
  intro n
  induction n with
  | zero => intro v2_52 v4_52 o hf; exact nomatch (show (none : Option (Int32 × Int32)) = some o from hf)
  | succ n ih =>
    intro v2_52 v4_52 o hf hX0
    rw [f_X0_readParts_L52] at hf
    refine a_iload_n (pc' := 53) 2 dX0_readParts_52 rfl rfl rfl ?_
    refine a_aload_n (pc' := 54) 0 dX0_readParts_53 rfl rfl rfl ?_
    refine g_X0_22 (pc' := 57) hz.1 rfl dX0_readParts_54 rfl ?_
    refine a_icmp_ge (pc' := 60) 93 dX0_readParts_57 (by decide) rfl (fun k53001 => ?_) (fun k53001 => ?_)
    · replace hf := (if_pos k53001).symm.trans hf
      cases hf
      exact hX0 _ rfl
    · replace hf := (if_neg k53001).symm.trans hf
      refine a_aload_n (pc' := 61) 0 dX0_readParts_60 rfl rfl rfl ?_
      refine a_iload_n (pc' := 62) 2 dX0_readParts_61 rfl rfl rfl ?_
      obtain ⟨x53003, e53002, hf⟩ := Option.bind_eq_some_iff.mp hf
      refine k_X0_26 (pc' := 65) (c_X0_signAt l g F hz e53002) ⟨Nat.le_of_ble_eq_true rfl, Nat.le_of_ble_eq_true rfl⟩ hz.1 (Nat.le_of_ble_eq_true rfl) dX0_readParts_62 rfl ?_
      obtain ⟨x53005, e53004, hf⟩ := Option.bind_eq_some_iff.mp hf
      refine k_X0_38 (pc' := 68) (c_X0_isDigit l g F e53004) ⟨Nat.le_of_ble_eq_true rfl, Nat.le_of_ble_eq_true rfl⟩ (Nat.le_of_ble_eq_true rfl) dX0_readParts_65 rfl ?_
      refine a_if_eq (pc' := 71) 93 dX0_readParts_68 (by decide) rfl (fun k53006 => ?_) (fun k53006 => ?_)
      · replace hf := (if_pos k53006).symm.trans hf
        cases hf
        exact hX0 _ rfl
      · replace hf := (if_neg k53006).symm.trans hf
        refine a_iload (pc' := 73) 4 dX0_readParts_71 rfl rfl ?_
        refine a_bipush (pc' := 75) (v := (10 : Int32)) dX0_readParts_73 rfl (by decide) ?_
        refine a_imul (pc' := 76) dX0_readParts_75 rfl ?_
        refine a_aload_n (pc' := 77) 0 dX0_readParts_76 rfl rfl rfl ?_
        refine a_iload_n (pc' := 78) 2 dX0_readParts_77 rfl rfl rfl ?_
        obtain ⟨x53008, e53007, hf⟩ := Option.bind_eq_some_iff.mp hf
        refine k_X0_26 (pc' := 81) (c_X0_signAt l g F hz e53007) ⟨Nat.le_of_ble_eq_true rfl, Nat.le_of_ble_eq_true rfl⟩ hz.1 (Nat.le_of_ble_eq_true rfl) dX0_readParts_78 rfl ?_
        refine a_bipush (pc' := 83) (v := (48 : Int32)) dX0_readParts_81 rfl (by decide) ?_
        refine a_isub (pc' := 84) dX0_readParts_83 rfl ?_
        refine a_iadd (pc' := 85) dX0_readParts_84 rfl ?_
        refine a_istore (pc' := 87) (ls' := [(4, .int ((v4_52 * ((10 : Int32))) + (x53008 - ((48 : Int32))))), (0, .ref 51), (1, .int v1_6), (2, .int v2_52), (3, .int v3_6)]) dX0_readParts_85 (by decide) rfl rfl ?_
        refine a_iinc (pc' := 90) (v := v2_52 + (1 : Int32)) (ls' := [(2, .int (v2_52 + (1 : Int32))), (4, .int ((v4_52 * ((10 : Int32))) + (x53008 - ((48 : Int32))))), (0, .ref 51), (1, .int v1_6), (3, .int v3_6)]) 3 dX0_readParts_87 rfl (by rfl) (by decide) rfl rfl ?_
        refine a_goto 52 dX0_readParts_90 (by decide) ?_
        refine a_sub [2, 3, 0, 4, 1] rfl ?_
        exact ih _ _ _ hf hX0
set_option maxHeartbeats 4000000 in
set_option maxRecDepth 100000 in
theorem l_X0_readParts_L6 {p : Program} {l : Launch} {e : Env} {s : State} {m : MethodId} {args : Array Value} {below : List Frame} {meth : Method} {c : Code} {Q : State → Prop} {g : a_G} (F : Nat) {h : List va_E}  : ∀ (n : Nat) (v1_6 : Int32) (v2_6 : Int32) (v3_6 : Int32) (t_6 : d_T) (o : Int32 × Int32 × Int32 × d_T), f_X0_readParts_L6 F  n v1_6 v2_6 v3_6 t_6 = some o → (∀ e9 : Int32 × Int32 × Int32 × d_T, o = e9 → ∀ h1, d_text h1 e9.2.2.2 → d_frm 51 4 h h1 → a_W p l e (a_rm 1 21) s m args below meth c Q RX0 cX0_readParts 5 g 0 0 none 120 [(0, .ref 51), (1, .int e9.1), (3, .int e9.2.2.1)] [] h1) → ∀ h1, d_text h1 t_6 → d_frm 51 4 h h1 → a_W p l e (a_rm 1 21) s m args below meth c Q RX0 cX0_readParts 5 g 0 0 none 6 [(0, .ref 51), (1, .int v1_6), (2, .int v2_6), (3, .int v3_6)] [] h1 := by
  intro n
  induction n with
  | zero => intro v1_6 v2_6 v3_6 t_6 o hf; exact nomatch (show (none : Option (Int32 × Int32 × Int32 × d_T)) = some o from hf)
  | succ n ih =>
    intro v1_6 v2_6 v3_6 t_6 o hf hX0 h1 hz hfr
    rw [f_X0_readParts_L6] at hf
    refine a_iload_n (pc' := 7) 2 dX0_readParts_6 rfl rfl rfl ?_
    refine a_aload_n (pc' := 8) 0 dX0_readParts_7 rfl rfl rfl ?_
    refine g_X0_22 (pc' := 11) hz.1 rfl dX0_readParts_8 rfl ?_
    refine a_icmp_ge (pc' := 14) 120 dX0_readParts_11 (by decide) rfl (fun k7001 => ?_) (fun k7001 => ?_)
    · replace hf := (if_pos k7001).symm.trans hf
      cases hf
      refine a_sub [0, 1, 3] rfl ?_
      exact hX0 _ rfl _ hz hfr
    · replace hf := (if_neg k7001).symm.trans hf
      refine a_iload_n (pc' := 15) 3 dX0_readParts_14 rfl rfl rfl ?_
      refine a_aload_n (pc' := 16) 0 dX0_readParts_15 rfl rfl rfl ?_
      refine g_X0_15 (pc' := 19) hz.1 rfl dX0_readParts_16 rfl ?_
      refine b_alen (pc' := 20) (kd := 0) (by decide) hz.2.2.1 dX0_readParts_19 rfl ?_
      refine a_icmp_ge (pc' := 23) 120 dX0_readParts_20 (by decide) rfl (fun k7002 => ?_) (fun k7002 => ?_)
      · replace hf := (if_pos k7002).symm.trans hf
        cases hf
        refine a_sub [0, 1, 3] rfl ?_
        exact hX0 _ rfl _ hz hfr
      · replace hf := (if_neg k7002).symm.trans hf
        refine a_iload_n (pc' := 24) 3 dX0_readParts_23 rfl rfl rfl ?_
        refine a_aload_n (pc' := 25) 0 dX0_readParts_24 rfl rfl rfl ?_
        refine g_X0_19 (pc' := 28) hz.1 rfl dX0_readParts_25 rfl ?_
        refine b_alen (pc' := 29) (kd := 0) (by decide) hz.2.2.2 dX0_readParts_28 rfl ?_
        refine a_icmp_ge (pc' := 32) 120 dX0_readParts_29 (by decide) rfl (fun k7003 => ?_) (fun k7003 => ?_)
        · replace hf := (if_pos k7003).symm.trans hf
          cases hf
          refine a_sub [0, 1, 3] rfl ?_
          exact hX0 _ rfl _ hz hfr
        · replace hf := (if_neg k7003).symm.trans hf
          refine a_aload_n (pc' := 33) 0 dX0_readParts_32 rfl rfl rfl ?_
          refine g_X0_15 (pc' := 36) hz.1 rfl dX0_readParts_33 rfl ?_
          refine a_iload_n (pc' := 37) 3 dX0_readParts_36 rfl rfl rfl ?_
          refine a_aload_n (pc' := 38) 0 dX0_readParts_37 rfl rfl rfl ?_
          refine a_iload_n (pc' := 39) 2 dX0_readParts_38 rfl rfl rfl ?_
          obtain ⟨x7005, e7004, hf⟩ := Option.bind_eq_some_iff.mp hf
          refine k_X0_26 (pc' := 42) (c_X0_signAt l g F hz e7004) ⟨Nat.le_of_ble_eq_true rfl, Nat.le_of_ble_eq_true rfl⟩ hz.1 (Nat.le_of_ble_eq_true rfl) dX0_readParts_39 rfl ?_
          obtain ⟨x7007, e7006, hf⟩ := Option.bind_eq_some_iff.mp hf
          refine k_X0_34 (pc' := 45) (c_X0_weatherOf l g F e7006) ⟨Nat.le_of_ble_eq_true rfl, Nat.le_of_ble_eq_true rfl⟩ (Nat.le_of_ble_eq_true rfl) dX0_readParts_42 rfl ?_
          obtain ⟨hg, hf⟩ := f_grd_x hf
          refine b_iast (pc' := 46) hz.2.2.1 hg dX0_readParts_45 rfl (fun h7008 hz1 hfr1 => ?_)
          obtain ⟨hz1, hfr1⟩ := d_ta_weathers hz hz1 hfr1
          obtain ⟨t7009, hf, hz⟩ := f_let_x (P := fun w => d_text h7008 w) hf hz1
          replace hfr := d_frm.tr hfr hfr1 (by omega)
          refine a_iinc (pc' := 49) (v := v2_6 + (1 : Int32)) (ls' := [(2, .int (v2_6 + (1 : Int32))), (0, .ref 51), (1, .int v1_6), (3, .int v3_6)]) 2 dX0_readParts_46 rfl (by rfl) (by decide) rfl rfl ?_
          refine a_iconst (pc' := 50) (v := (0 : Int32)) dX0_readParts_49 rfl (by decide) ?_
          refine a_istore (pc' := 52) (ls' := [(4, .int ((0 : Int32))), (2, .int (v2_6 + (1 : Int32))), (0, .ref 51), (1, .int v1_6), (3, .int v3_6)]) dX0_readParts_50 (by decide) rfl rfl ?_
          obtain ⟨o7010, e7011, hf⟩ := Option.bind_eq_some_iff.mp hf
          refine a_sub [2, 3, 1, 4, 0] rfl ?_
          refine l_X0_readParts_L52 F v1_6 v3_6 t7009 hz F _ _ o7010 e7011 (fun e9 he9 => ?_)
          subst he9
          refine a_aload_n (pc' := 94) 0 dX0_readParts_93 rfl rfl rfl ?_
          refine g_X0_19 (pc' := 97) hz.1 rfl dX0_readParts_94 rfl ?_
          refine a_iload_n (pc' := 98) 3 dX0_readParts_97 rfl rfl rfl ?_
          refine a_iconst (pc' := 99) (v := (1 : Int32)) dX0_readParts_98 rfl (by decide) ?_
          refine a_iload (pc' := 101) 4 dX0_readParts_99 rfl rfl ?_
          refine jmmax_X0_42 (pc' := 104) dX0_readParts_101 (Nat.le_of_ble_eq_true rfl) (Nat.le_of_ble_eq_true rfl) ⟨Nat.le_of_ble_eq_true rfl, Nat.le_of_ble_eq_true rfl⟩ rfl ?_
          obtain ⟨hg, hf⟩ := f_grd_x hf
          refine b_iast (pc' := 105) hz.2.2.2 hg dX0_readParts_104 rfl (fun h7012 hz1 hfr1 => ?_)
          obtain ⟨hz1, hfr1⟩ := d_ta_repeats hz hz1 hfr1
          obtain ⟨t7013, hf, hz⟩ := f_let_x (P := fun w => d_text h7012 w) hf hz1
          replace hfr := d_frm.tr hfr hfr1 (by omega)
          refine a_iload_n (pc' := 106) 1 dX0_readParts_105 rfl rfl rfl ?_
          refine a_aload_n (pc' := 107) 0 dX0_readParts_106 rfl rfl rfl ?_
          refine g_X0_19 (pc' := 110) hz.1 rfl dX0_readParts_107 rfl ?_
          refine a_iload_n (pc' := 111) 3 dX0_readParts_110 rfl rfl rfl ?_
          obtain ⟨hg, hf⟩ := f_grd_x hf
          refine b_iald (pc' := 112) hz.2.2.2 hg dX0_readParts_111 rfl ?_
          refine a_iadd (pc' := 113) dX0_readParts_112 rfl ?_
          refine a_istore_n (pc' := 114) (ls' := [(1, .int (v1_6 + (t7013.2.2.2.1 v3_6.toNatClampNeg))), (0, .ref 51), (2, .int o7010.1), (3, .int v3_6), (4, .int o7010.2)]) dX0_readParts_113 rfl (by decide) rfl rfl ?_
          refine a_iinc (pc' := 117) (v := v3_6 + (1 : Int32)) (ls' := [(3, .int (v3_6 + (1 : Int32))), (1, .int (v1_6 + (t7013.2.2.2.1 v3_6.toNatClampNeg))), (0, .ref 51), (2, .int o7010.1), (4, .int o7010.2)]) 3 dX0_readParts_114 rfl (by rfl) (by decide) rfl rfl ?_
          refine a_goto 6 dX0_readParts_117 (by decide) ?_
          refine a_sub [2, 1, 3, 0] rfl ?_
          exact ih _ _ _ _ _ hf hX0 _ hz hfr
set_option maxHeartbeats 4000000 in
set_option maxRecDepth 100000 in
theorem c_X0_readParts (l : Launch) (g : a_G) (F : Nat) {h : List va_E} {t : d_T} (hz : d_text h t) {out : Int32 × d_T} (hf : f_X0_readParts F t = some out) : a_CT l g yX0_readParts cX0_readParts 5 (some .int) (a_rm 1 21) [.ref 51] h none none (fun r h' => r = some (.int out.1) ∧ d_text h' out.2 ∧ d_frm 51 4 h h') := by
  refine a_enter ⟨by decide, rfl, Nat.le_of_ble_eq_true rfl⟩ (fun p e s m args below meth c hr hin => ?_)
  unfold f_X0_readParts at hf
  have hfr : d_frm 51 4 h h := d_frm.rf
  refine a_sub (ls' := [(0, .ref 51)]) [0] rfl ?_
  refine a_iconst (pc' := 1) (v := (0 : Int32)) dX0_readParts_0 rfl (by decide) ?_
  refine a_istore_n (pc' := 2) (ls' := [(1, .int ((0 : Int32))), (0, .ref 51)]) dX0_readParts_1 rfl (by decide) rfl rfl ?_
  refine a_iconst (pc' := 3) (v := (0 : Int32)) dX0_readParts_2 rfl (by decide) ?_
  refine a_istore_n (pc' := 4) (ls' := [(2, .int ((0 : Int32))), (1, .int ((0 : Int32))), (0, .ref 51)]) dX0_readParts_3 rfl (by decide) rfl rfl ?_
  refine a_iconst (pc' := 5) (v := (0 : Int32)) dX0_readParts_4 rfl (by decide) ?_
  refine a_istore_n (pc' := 6) (ls' := [(3, .int ((0 : Int32))), (2, .int ((0 : Int32))), (1, .int ((0 : Int32))), (0, .ref 51)]) dX0_readParts_5 rfl (by decide) rfl rfl ?_
  obtain ⟨o1, e2, hf⟩ := Option.bind_eq_some_iff.mp hf
  refine a_sub [3, 2, 1, 0] rfl ?_
  refine l_X0_readParts_L6 F   F _ _ _ _ o1 e2 (fun e9 he9 h3 hz hfr => ?_) _ hz hfr
  subst he9
  refine a_aload_n (pc' := 121) 0 dX0_readParts_120 rfl rfl rfl ?_
  refine a_iload_n (pc' := 122) 2 dX0_readParts_121 rfl rfl rfl ?_
  refine pt_X0_48 (pc' := 125) hz dX0_readParts_122 rfl (fun h4 hz1 hfr1 => ?_)
  obtain ⟨t5, hf, hz⟩ := f_let_x (P := fun w => d_text h4 w) hf hz1
  replace hfr := d_frm.tr hfr hfr1 (by omega)
  refine a_iload_n (pc' := 126) 1 dX0_readParts_125 rfl rfl rfl ?_
  cases hf
  exact a_iret hr ⟨rfl, hz, hfr⟩ dX0_readParts_126
/-! SlateRoof$Roof.mendFirstGap()Z -/
set_option maxRecDepth 100000 in
def f_X1_mendFirstGap_L2 (F : Nat) (z : d_Z) : Nat → Int32 → Option ((Int32) ⊕ (Int32))
  | 0, _ => none
  | n + 1, v1_2 => (if ((z 2) - ((1 : Int32))) ≤ v1_2 then some (.inl (v1_2)) else (f_X1_isFull F z v1_2).bind fun x3003 => (if x3003 = 0 then some (.inr ((v1_2))) else f_X1_mendFirstGap_L2 F z n (v1_2 + (1 : Int32))))
set_option maxRecDepth 100000 in
def f_X1_mendFirstGap (F : Nat) (z : d_Z) : Option (Int32 × d_Z) := (f_X1_mendFirstGap_L2 F z F ((0 : Int32))).bind (fun w9 => Sum.elim (fun w3 => some (((0 : Int32), z))) (fun w4 => (f_X1_firstGap F z w4).bind fun x6 => (f_X1_canMend F z w4 x6).bind fun x8 => (if x8 = 0 then f_if (x8 = 0 ∨ x8 = 1) (some ((x8, z))) else (f_X1_putSlate F z w4 x6 ((3 : Int32))).bind fun x11 => f_let x11 fun z13 => f_if (x8 = 0 ∨ x8 = 1) (some ((x8, z13))))) w9)
set_option maxHeartbeats 4000000 in
set_option maxRecDepth 100000 in
theorem l_X1_mendFirstGap_L2 {p : Program} {l : Launch} {e : Env} {s : State} {m : MethodId} {args : Array Value} {below : List Frame} {meth : Method} {c : Code} {Q : State → Prop} {g : a_G} (F : Nat) {h : List va_E} {i : Nat} (z : d_Z) (hz : d_roof h i z) : ∀ (n : Nat) (v1_2 : Int32) (o : (Int32) ⊕ (Int32)), f_X1_mendFirstGap_L2 F z n v1_2 = some o → (∀ e9 : Int32, o = .inl e9 → a_W p l e (a_rm 3 66) s m args below meth c Q RX1 cX1_mendFirstGap 4 g 0 0 none 52 [] [] h) → (∀ e9 : Int32, o = .inr (e9) → a_W p l e (a_rm 3 66) s m args below meth c Q RX1 cX1_mendFirstGap 4 g 0 0 none 20 [(0, .ref i), (1, .int e9)] [] h) → a_W p l e (a_rm 3 66) s m args below meth c Q RX1 cX1_mendFirstGap 4 g 0 0 none 2 [(0, .ref i), (1, .int v1_2)] [] h := by
  intro n
  induction n with
  | zero => intro v1_2 o hf; exact nomatch (show (none : Option ((Int32) ⊕ (Int32))) = some o from hf)
  | succ n ih =>
    intro v1_2 o hf hX0 hX1
    rw [f_X1_mendFirstGap_L2] at hf
    refine a_iload_n (pc' := 3) 1 dX1_mendFirstGap_2 rfl rfl rfl ?_
    refine a_aload_n (pc' := 4) 0 dX1_mendFirstGap_3 rfl rfl rfl ?_
    refine g_X1_46 (pc' := 7) hz.1 rfl dX1_mendFirstGap_4 rfl ?_
    refine a_iconst (pc' := 8) (v := (1 : Int32)) dX1_mendFirstGap_7 rfl (by decide) ?_
    refine a_isub (pc' := 9) dX1_mendFirstGap_8 rfl ?_
    refine a_icmp_ge (pc' := 12) 52 dX1_mendFirstGap_9 (by decide) rfl (fun k3001 => ?_) (fun k3001 => ?_)
    · replace hf := (if_pos k3001).symm.trans hf
      cases hf
      refine a_sub [] rfl ?_
      exact hX0 _ rfl
    · replace hf := (if_neg k3001).symm.trans hf
      refine a_aload_n (pc' := 13) 0 dX1_mendFirstGap_12 rfl rfl rfl ?_
      refine a_iload_n (pc' := 14) 1 dX1_mendFirstGap_13 rfl rfl rfl ?_
      obtain ⟨x3003, e3002, hf⟩ := Option.bind_eq_some_iff.mp hf
      refine k_X1_113 (pc' := 17) (c_X1_isFull l g F hz e3002) ⟨Nat.le_of_ble_eq_true rfl, Nat.le_of_ble_eq_true rfl⟩ hz.1 (Nat.le_of_ble_eq_true rfl) dX1_mendFirstGap_14 rfl ?_
      refine a_if_ne (pc' := 20) 46 dX1_mendFirstGap_17 (by decide) rfl (fun k3004 => ?_) (fun k3004 => ?_)
      · replace hf := (if_neg k3004).symm.trans hf
        refine a_iinc (pc' := 49) (v := v1_2 + (1 : Int32)) (ls' := [(1, .int (v1_2 + (1 : Int32))), (0, .ref i)]) 1 dX1_mendFirstGap_46 rfl (by rfl) (by decide) rfl rfl ?_
        refine a_goto 2 dX1_mendFirstGap_49 (by decide) ?_
        refine a_sub [1, 0] rfl ?_
        exact ih _ _ hf hX0 hX1
      · replace hf := (if_pos k3004).symm.trans hf
        cases hf
        exact hX1 _ rfl
set_option maxHeartbeats 4000000 in
set_option maxRecDepth 100000 in
theorem c_X1_mendFirstGap (l : Launch) (g : a_G) (F : Nat) {h : List va_E} {i : Nat} {z : d_Z} (hz : d_roof h i z) {out : Int32 × d_Z} (hf : f_X1_mendFirstGap F z = some out) : a_CT l g yX1_mendFirstGap cX1_mendFirstGap 4 (some .boolean) (a_rm 3 66) [.ref i] h none none (fun r h' => r = some (.int out.1) ∧ d_roof h' i out.2 ∧ d_frm i 6 h h') := by
  refine a_enter ⟨by decide, rfl, Nat.le_of_ble_eq_true rfl⟩ (fun p e s m args below meth c hr hin => ?_)
  unfold f_X1_mendFirstGap at hf
  have hfr : d_frm i 6 h h := d_frm.rf
  refine a_sub (ls' := [(0, .ref i)]) [0] rfl ?_
  refine a_iconst (pc' := 1) (v := (0 : Int32)) dX1_mendFirstGap_0 rfl (by decide) ?_
  refine a_istore_n (pc' := 2) (ls' := [(1, .int ((0 : Int32))), (0, .ref i)]) dX1_mendFirstGap_1 rfl (by decide) rfl rfl ?_
  obtain ⟨o1, e2, hf⟩ := Option.bind_eq_some_iff.mp hf
  refine a_sub [1, 0] rfl ?_
  refine l_X1_mendFirstGap_L2 F z hz F _ o1 e2 (fun w3 he9 => ?_) (fun w4 he9 => ?_)
  · subst he9
    simp only [Sum.elim_inl, Sum.elim_inr] at hf
    refine a_iconst (pc' := 53) (v := (0 : Int32)) dX1_mendFirstGap_52 rfl (by decide) ?_
    cases hf
    exact a_zret hr rfl ⟨rfl, hz, hfr⟩ dX1_mendFirstGap_53
  · subst he9
    simp only [Sum.elim_inl, Sum.elim_inr] at hf
    refine a_aload_n (pc' := 21) 0 dX1_mendFirstGap_20 rfl rfl rfl ?_
    refine a_iload_n (pc' := 22) 1 dX1_mendFirstGap_21 rfl rfl rfl ?_
    obtain ⟨x6, e5, hf⟩ := Option.bind_eq_some_iff.mp hf
    refine k_X1_155 (pc' := 25) (c_X1_firstGap l g F hz e5) ⟨Nat.le_of_ble_eq_true rfl, Nat.le_of_ble_eq_true rfl⟩ hz.1 (Nat.le_of_ble_eq_true rfl) dX1_mendFirstGap_22 rfl ?_
    refine a_istore_n (pc' := 26) (ls' := [(2, .int x6), (0, .ref i), (1, .int w4)]) dX1_mendFirstGap_25 rfl (by decide) rfl rfl ?_
    refine a_aload_n (pc' := 27) 1 dX1_mendFirstGap_26 rfl rfl rfl ?_
    refine a_iload_n (pc' := 28) 2 dX1_mendFirstGap_27 rfl rfl rfl ?_
    refine a_iload_n (pc' := 29) 0 dX1_mendFirstGap_28 rfl rfl rfl ?_
    obtain ⟨x8, e7, hf⟩ := Option.bind_eq_some_iff.mp hf
    refine k_X1_158 (pc' := 32) (c_X1_canMend l g F hz e7) ⟨Nat.le_of_ble_eq_true rfl, Nat.le_of_ble_eq_true rfl⟩ hz.1 (Nat.le_of_ble_eq_true rfl) dX1_mendFirstGap_29 rfl ?_
    refine a_istore_n (pc' := 33) (ls' := [(3, .int x8), (2, .int x6), (0, .ref i), (1, .int w4)]) dX1_mendFirstGap_32 rfl (by decide) rfl rfl ?_
    refine a_iload_n (pc' := 34) 0 dX1_mendFirstGap_33 rfl rfl rfl ?_
    refine a_if_eq (pc' := 37) 44 dX1_mendFirstGap_34 (by decide) rfl (fun k9 => ?_) (fun k9 => ?_)
    · replace hf := (if_pos k9).symm.trans hf
      refine a_iload_n (pc' := 45) 0 dX1_mendFirstGap_44 rfl rfl rfl ?_
      obtain ⟨hg, hf⟩ := f_if_x hf
      cases hf
      exact a_zret hr (b_bool hg) ⟨rfl, hz, hfr⟩ dX1_mendFirstGap_45
    · replace hf := (if_neg k9).symm.trans hf
      refine a_aload_n (pc' := 38) 2 dX1_mendFirstGap_37 rfl rfl rfl ?_
      refine a_iload_n (pc' := 39) 3 dX1_mendFirstGap_38 rfl rfl rfl ?_
      refine a_iload_n (pc' := 40) 1 dX1_mendFirstGap_39 rfl rfl rfl ?_
      refine a_iconst (pc' := 41) (v := (3 : Int32)) dX1_mendFirstGap_40 rfl (by decide) ?_
      obtain ⟨x11, e10, hf⟩ := Option.bind_eq_some_iff.mp hf
      refine k_X1_161 (pc' := 44) (c_X1_putSlate l g F hz e10) ⟨Nat.le_of_ble_eq_true rfl, Nat.le_of_ble_eq_true rfl⟩ hz.1 (Nat.le_of_ble_eq_true rfl) dX1_mendFirstGap_41 rfl (fun h12 hq => ?_)
      obtain ⟨hz1, hfr1⟩ := hq
      obtain ⟨z13, hf, hz⟩ := f_let_x (P := fun w => d_roof h12 i w) hf hz1
      replace hfr := d_frm.tr hfr hfr1 (by omega)
      refine a_iload_n (pc' := 45) 0 dX1_mendFirstGap_44 rfl rfl rfl ?_
      obtain ⟨hg, hf⟩ := f_if_x hf
      cases hf
      exact a_zret hr (b_bool hg) ⟨rfl, hz, hfr⟩ dX1_mendFirstGap_45
/-! SlateRoof$Roof.layNext()Z -/
set_option maxRecDepth 100000 in
def f_X1_layNext (F : Nat) (z : d_Z) : Option (Int32 × d_Z) := (f_X1_canLay F z ((1 : Int32))).bind fun x2 => (if x2 = 0 then f_if (x2 = 0 ∨ x2 = 1) (some ((x2, z))) else (f_X1_firstGap F z ((z 2) - ((1 : Int32)))).bind fun x5 => (f_X1_putSlate F z ((z 2) - ((1 : Int32))) x5 ((1 : Int32))).bind fun x7 => f_let x7 fun z9 => f_if (x2 = 0 ∨ x2 = 1) (some ((x2, z9))))
set_option maxHeartbeats 4000000 in
set_option maxRecDepth 100000 in
theorem c_X1_layNext (l : Launch) (g : a_G) (F : Nat) {h : List va_E} {i : Nat} {z : d_Z} (hz : d_roof h i z) {out : Int32 × d_Z} (hf : f_X1_layNext F z = some out) : a_CT l g yX1_layNext cX1_layNext 2 (some .boolean) (a_rm 3 66) [.ref i] h none none (fun r h' => r = some (.int out.1) ∧ d_roof h' i out.2 ∧ d_frm i 6 h h') := by
  refine a_enter ⟨by decide, rfl, Nat.le_of_ble_eq_true rfl⟩ (fun p e s m args below meth c hr hin => ?_)
  unfold f_X1_layNext at hf
  have hfr : d_frm i 6 h h := d_frm.rf
  refine a_sub (ls' := [(0, .ref i)]) [0] rfl ?_
  refine a_aload_n (pc' := 1) 0 dX1_layNext_0 rfl rfl rfl ?_
  refine a_iconst (pc' := 2) (v := (1 : Int32)) dX1_layNext_1 rfl (by decide) ?_
  obtain ⟨x2, e1, hf⟩ := Option.bind_eq_some_iff.mp hf
  refine k_X1_165 (pc' := 5) (c_X1_canLay l g F hz e1) ⟨Nat.le_of_ble_eq_true rfl, Nat.le_of_ble_eq_true rfl⟩ hz.1 (Nat.le_of_ble_eq_true rfl) dX1_layNext_2 rfl ?_
  refine a_istore_n (pc' := 6) (ls' := [(1, .int x2), (0, .ref i)]) dX1_layNext_5 rfl (by decide) rfl rfl ?_
  refine a_iload_n (pc' := 7) 0 dX1_layNext_6 rfl rfl rfl ?_
  refine a_if_eq (pc' := 10) 31 dX1_layNext_7 (by decide) rfl (fun k3 => ?_) (fun k3 => ?_)
  · replace hf := (if_pos k3).symm.trans hf
    refine a_iload_n (pc' := 32) 0 dX1_layNext_31 rfl rfl rfl ?_
    obtain ⟨hg, hf⟩ := f_if_x hf
    cases hf
    exact a_zret hr (b_bool hg) ⟨rfl, hz, hfr⟩ dX1_layNext_32
  · replace hf := (if_neg k3).symm.trans hf
    refine a_aload_n (pc' := 11) 1 dX1_layNext_10 rfl rfl rfl ?_
    refine a_aload_n (pc' := 12) 1 dX1_layNext_11 rfl rfl rfl ?_
    refine g_X1_46 (pc' := 15) hz.1 rfl dX1_layNext_12 rfl ?_
    refine a_iconst (pc' := 16) (v := (1 : Int32)) dX1_layNext_15 rfl (by decide) ?_
    refine a_isub (pc' := 17) dX1_layNext_16 rfl ?_
    refine a_aload_n (pc' := 18) 1 dX1_layNext_17 rfl rfl rfl ?_
    refine a_aload_n (pc' := 19) 1 dX1_layNext_18 rfl rfl rfl ?_
    refine g_X1_46 (pc' := 22) hz.1 rfl dX1_layNext_19 rfl ?_
    refine a_iconst (pc' := 23) (v := (1 : Int32)) dX1_layNext_22 rfl (by decide) ?_
    refine a_isub (pc' := 24) dX1_layNext_23 rfl ?_
    obtain ⟨x5, e4, hf⟩ := Option.bind_eq_some_iff.mp hf
    refine k_X1_155 (pc' := 27) (c_X1_firstGap l g F hz e4) ⟨Nat.le_of_ble_eq_true rfl, Nat.le_of_ble_eq_true rfl⟩ hz.1 (Nat.le_of_ble_eq_true rfl) dX1_layNext_24 rfl ?_
    refine a_iconst (pc' := 28) (v := (1 : Int32)) dX1_layNext_27 rfl (by decide) ?_
    obtain ⟨x7, e6, hf⟩ := Option.bind_eq_some_iff.mp hf
    refine k_X1_161 (pc' := 31) (c_X1_putSlate l g F hz e6) ⟨Nat.le_of_ble_eq_true rfl, Nat.le_of_ble_eq_true rfl⟩ hz.1 (Nat.le_of_ble_eq_true rfl) dX1_layNext_28 rfl (fun h8 hq => ?_)
    obtain ⟨hz1, hfr1⟩ := hq
    obtain ⟨z9, hf, hz⟩ := f_let_x (P := fun w => d_roof h8 i w) hf hz1
    replace hfr := d_frm.tr hfr hfr1 (by omega)
    refine a_iload_n (pc' := 32) 0 dX1_layNext_31 rfl rfl rfl ?_
    obtain ⟨hg, hf⟩ := f_if_x hf
    cases hf
    exact a_zret hr (b_bool hg) ⟨rfl, hz, hfr⟩ dX1_layNext_32
/-! SlateRoof$Roof.nextLength()I -/
set_option maxRecDepth 100000 in
def f_X1_nextLength_L14 (F : Nat) (z : d_Z) (x2 : Int32) : Nat → Int32 → Option ((Int32) ⊕ (Int32))
  | 0, _ => none
  | n + 1, v2_14 => (if v2_14 < ((8 : Int32)) then some (.inl (v2_14)) else (f_X3_valueAt F 25 (fun k => z (214 + k)) v2_14).bind fun x15003 => (if x15003 < x2 then f_X1_nextLength_L14 F z x2 n (v2_14 + (-1 : Int32)) else some (.inr ((v2_14)))))
set_option maxRecDepth 100000 in
def f_X1_nextLength (F : Nat) (z : d_Z) : Option (Int32) := (f_X1_placesOf F z (z 2)).bind fun x2 => (f_X1_longestNext F z).bind fun x4 => (f_X1_nextLength_L14 F z x2 F x4).bind (fun w9 => Sum.elim (fun w7 => some ((-1 : Int32))) (fun w8 => some (w8)) w9)
set_option maxHeartbeats 4000000 in
set_option maxRecDepth 100000 in
theorem l_X1_nextLength_L14 {p : Program} {l : Launch} {e : Env} {s : State} {m : MethodId} {args : Array Value} {below : List Frame} {meth : Method} {c : Code} {Q : State → Prop} {g : a_G} (F : Nat) {h : List va_E} {i : Nat} (z : d_Z) (x2 : Int32) (hz : d_roof h i z) : ∀ (n : Nat) (v2_14 : Int32) (o : (Int32) ⊕ (Int32)), f_X1_nextLength_L14 F z x2 n v2_14 = some o → (∀ e9 : Int32, o = .inl e9 → a_W p l e (a_rm 2 41) s m args below meth c Q RX1 cX1_nextLength 3 g 0 0 none 40 [] [] h) → (∀ e9 : Int32, o = .inr (e9) → a_W p l e (a_rm 2 41) s m args below meth c Q RX1 cX1_nextLength 3 g 0 0 none 32 [(2, .int e9)] [] h) → a_W p l e (a_rm 2 41) s m args below meth c Q RX1 cX1_nextLength 3 g 0 0 none 14 [(0, .ref i), (1, .int x2), (2, .int v2_14)] [] h := by
  intro n
  induction n with
  | zero => intro v2_14 o hf; exact nomatch (show (none : Option ((Int32) ⊕ (Int32))) = some o from hf)
  | succ n ih =>
    intro v2_14 o hf hX0 hX1
    rw [f_X1_nextLength_L14] at hf
    refine a_iload_n (pc' := 15) 2 dX1_nextLength_14 rfl rfl rfl ?_
    refine a_bipush (pc' := 17) (v := (8 : Int32)) dX1_nextLength_15 rfl (by decide) ?_
    refine a_icmp_lt (pc' := 20) 40 dX1_nextLength_17 (by decide) rfl (fun k15001 => ?_) (fun k15001 => ?_)
    · replace hf := (if_pos k15001).symm.trans hf
      cases hf
      refine a_sub [] rfl ?_
      exact hX0 _ rfl
    · replace hf := (if_neg k15001).symm.trans hf
      refine a_aload_n (pc' := 21) 0 dX1_nextLength_20 rfl rfl rfl ?_
      refine g_X1_25 (pc' := 24) hz.1 rfl dX1_nextLength_21 rfl ?_
      refine a_iload_n (pc' := 25) 2 dX1_nextLength_24 rfl rfl rfl ?_
      obtain ⟨x15003, e15002, hf⟩ := Option.bind_eq_some_iff.mp hf
      refine k_X1_83 (pc' := 28) (c_X3_valueAt l g F hz.2.2.2.1 e15002) ⟨Nat.le_of_ble_eq_true rfl, Nat.le_of_ble_eq_true rfl⟩ (Nat.le_of_ble_eq_true rfl) dX1_nextLength_25 rfl ?_
      refine a_iload_n (pc' := 29) 1 dX1_nextLength_28 rfl rfl rfl ?_
      refine a_icmp_lt (pc' := 32) 34 dX1_nextLength_29 (by decide) rfl (fun k15004 => ?_) (fun k15004 => ?_)
      · replace hf := (if_pos k15004).symm.trans hf
        refine a_iinc (pc' := 37) (v := v2_14 + (-1 : Int32)) (ls' := [(2, .int (v2_14 + (-1 : Int32))), (0, .ref i), (1, .int x2)]) 2 dX1_nextLength_34 rfl (by rfl) (by decide) rfl rfl ?_
        refine a_goto 14 dX1_nextLength_37 (by decide) ?_
        refine a_sub [1, 2, 0] rfl ?_
        exact ih _ _ hf hX0 hX1
      · replace hf := (if_neg k15004).symm.trans hf
        cases hf
        refine a_sub [2] rfl ?_
        exact hX1 _ rfl
set_option maxHeartbeats 4000000 in
set_option maxRecDepth 100000 in
theorem c_X1_nextLength (l : Launch) (g : a_G) (F : Nat) {h : List va_E} {i : Nat} {z : d_Z} (hz : d_roof h i z) {out : Int32} (hf : f_X1_nextLength F z = some out) : a_CT l g yX1_nextLength cX1_nextLength 3 (some .int) (a_rm 2 41) [.ref i] h none none (fun r h' => r = some (.int out) ∧ h' = h) := by
  refine a_enter ⟨by decide, rfl, Nat.le_of_ble_eq_true rfl⟩ (fun p e s m args below meth c hr hin => ?_)
  unfold f_X1_nextLength at hf
  refine a_sub (ls' := [(0, .ref i)]) [0] rfl ?_
  refine a_aload_n (pc' := 1) 0 dX1_nextLength_0 rfl rfl rfl ?_
  refine a_aload_n (pc' := 2) 0 dX1_nextLength_1 rfl rfl rfl ?_
  refine g_X1_46 (pc' := 5) hz.1 rfl dX1_nextLength_2 rfl ?_
  obtain ⟨x2, e1, hf⟩ := Option.bind_eq_some_iff.mp hf
  refine k_X1_79 (pc' := 8) (c_X1_placesOf l g F hz e1) ⟨Nat.le_of_ble_eq_true rfl, Nat.le_of_ble_eq_true rfl⟩ hz.1 (Nat.le_of_ble_eq_true rfl) dX1_nextLength_5 rfl ?_
  refine a_istore_n (pc' := 9) (ls' := [(1, .int x2), (0, .ref i)]) dX1_nextLength_8 rfl (by decide) rfl rfl ?_
  refine a_aload_n (pc' := 10) 1 dX1_nextLength_9 rfl rfl rfl ?_
  obtain ⟨x4, e3, hf⟩ := Option.bind_eq_some_iff.mp hf
  refine k_X1_168 (pc' := 13) (c_X1_longestNext l g F hz e3) ⟨Nat.le_of_ble_eq_true rfl, Nat.le_of_ble_eq_true rfl⟩ hz.1 (Nat.le_of_ble_eq_true rfl) dX1_nextLength_10 rfl ?_
  refine a_istore_n (pc' := 14) (ls' := [(2, .int x4), (1, .int x2), (0, .ref i)]) dX1_nextLength_13 rfl (by decide) rfl rfl ?_
  obtain ⟨o5, e6, hf⟩ := Option.bind_eq_some_iff.mp hf
  refine a_sub [2, 1, 0] rfl ?_
  refine l_X1_nextLength_L14 F z x2 hz F _ o5 e6 (fun w7 he9 => ?_) (fun w8 he9 => ?_)
  · subst he9
    simp only [Sum.elim_inl, Sum.elim_inr] at hf
    refine a_iconst (pc' := 41) (v := (-1 : Int32)) dX1_nextLength_40 rfl (by decide) ?_
    cases hf
    exact a_iret hr ⟨rfl, rfl⟩ dX1_nextLength_41
  · subst he9
    simp only [Sum.elim_inl, Sum.elim_inr] at hf
    refine a_iload_n (pc' := 33) 0 dX1_nextLength_32 rfl rfl rfl ?_
    cases hf
    exact a_iret hr ⟨rfl, rfl⟩ dX1_nextLength_33
/-! SlateRoof$Roof.slateForTheDay()I -/
set_option maxRecDepth 100000 in
def f_X1_slateForTheDay_L4 (F : Nat)  : Nat → Int32 → Int32 → d_Z → Option (Int32 × Int32 × d_Z)
  | 0, _, _, _ => none
  | n + 1, v1_4, v2_4, z_4 => (if ((1000000 : Int32)) ≤ v2_4 then some (v1_4, v2_4, z_4) else (f_X1_canBeSlated F z_4).bind fun x5003 => (if x5003 = 0 then some (v1_4, v2_4, z_4) else (f_X1_mendFirstGap F z_4).bind fun x5006 => f_let x5006.2 fun z5008 => (if x5006.1 = 0 then (f_X1_layNext F z5008).bind fun x5011 => f_let x5011.2 fun z5013 => (if x5011.1 = 0 then (f_X1_canGoUp F z5013).bind fun x5016 => (if x5016 = 0 then some (v1_4, v2_4, z5013) else (f_X1_nextLength F z5013).bind fun x5019 => (if x5019 = ((-1 : Int32)) then some (v1_4, v2_4, z5013) else (f_X1_nextLength F z5013).bind fun x5022 => (f_X1_addCourse F z5013 x5022).bind fun x5024 => f_let x5024 fun z5026 => f_X1_slateForTheDay_L4 F  n v1_4 (v2_4 + (1 : Int32)) z5026)) else f_X1_slateForTheDay_L4 F  n (v1_4 + (1 : Int32)) (v2_4 + (1 : Int32)) z5013) else f_X1_slateForTheDay_L4 F  n (v1_4 + (1 : Int32)) (v2_4 + (1 : Int32)) z5008)))
set_option maxRecDepth 100000 in
def f_X1_slateForTheDay (F : Nat) (z : d_Z) : Option (Int32 × d_Z) := (f_X1_slateForTheDay_L4 F F ((0 : Int32)) ((0 : Int32)) z).bind fun o1 => some ((o1.1, o1.2.2))
set_option maxHeartbeats 4000000 in
set_option maxRecDepth 100000 in
theorem l_X1_slateForTheDay_L4 {p : Program} {l : Launch} {e : Env} {s : State} {m : MethodId} {args : Array Value} {below : List Frame} {meth : Method} {c : Code} {Q : State → Prop} {g : a_G} (F : Nat) {h : List va_E} {i : Nat}  : ∀ (n : Nat) (v1_4 : Int32) (v2_4 : Int32) (z_4 : d_Z) (o : Int32 × Int32 × d_Z), f_X1_slateForTheDay_L4 F  n v1_4 v2_4 z_4 = some o → (∀ e9 : Int32 × Int32 × d_Z, o = e9 → ∀ h1, d_roof h1 i e9.2.2 → d_frm i 6 h h1 → a_W p l e (a_rm 4 89) s m args below meth c Q RX1 cX1_slateForTheDay 3 g 0 0 none 66 [(1, .int e9.1)] [] h1) → ∀ h1, d_roof h1 i z_4 → d_frm i 6 h h1 → a_W p l e (a_rm 4 89) s m args below meth c Q RX1 cX1_slateForTheDay 3 g 0 0 none 4 [(0, .ref i), (1, .int v1_4), (2, .int v2_4)] [] h1 := by
  intro n
  induction n with
  | zero => intro v1_4 v2_4 z_4 o hf; exact nomatch (show (none : Option (Int32 × Int32 × d_Z)) = some o from hf)
  | succ n ih =>
    intro v1_4 v2_4 z_4 o hf hX0 h1 hz hfr
    rw [f_X1_slateForTheDay_L4] at hf
    refine a_iload_n (pc' := 5) 2 dX1_slateForTheDay_4 rfl rfl rfl ?_
    refine a_ldc (pc' := 7) (v := (1000000 : Int32)) (a_in3 17 rfl rfl) dX1_slateForTheDay_5 rfl ?_
    refine a_icmp_ge (pc' := 10) 66 dX1_slateForTheDay_7 (by decide) rfl (fun k5001 => ?_) (fun k5001 => ?_)
    · replace hf := (if_pos k5001).symm.trans hf
      cases hf
      refine a_sub [1] rfl ?_
      exact hX0 _ rfl _ hz hfr
    · replace hf := (if_neg k5001).symm.trans hf
      refine a_aload_n (pc' := 11) 0 dX1_slateForTheDay_10 rfl rfl rfl ?_
      obtain ⟨x5003, e5002, hf⟩ := Option.bind_eq_some_iff.mp hf
      refine k_X1_136 (pc' := 14) (c_X1_canBeSlated l g F hz e5002) ⟨Nat.le_of_ble_eq_true rfl, Nat.le_of_ble_eq_true rfl⟩ hz.1 (Nat.le_of_ble_eq_true rfl) dX1_slateForTheDay_11 rfl ?_
      refine a_if_eq (pc' := 17) 66 dX1_slateForTheDay_14 (by decide) rfl (fun k5004 => ?_) (fun k5004 => ?_)
      · replace hf := (if_pos k5004).symm.trans hf
        cases hf
        refine a_sub [1] rfl ?_
        exact hX0 _ rfl _ hz hfr
      · replace hf := (if_neg k5004).symm.trans hf
        refine a_aload_n (pc' := 18) 0 dX1_slateForTheDay_17 rfl rfl rfl ?_
        obtain ⟨x5006, e5005, hf⟩ := Option.bind_eq_some_iff.mp hf
        refine k_X1_139 (pc' := 21) (c_X1_mendFirstGap l g F hz e5005) ⟨Nat.le_of_ble_eq_true rfl, Nat.le_of_ble_eq_true rfl⟩ hz.1 (Nat.le_of_ble_eq_true rfl) dX1_slateForTheDay_18 rfl (fun h5007 hq => ?_)
        obtain ⟨hz1, hfr1⟩ := hq
        obtain ⟨z5008, hf, hz⟩ := f_let_x (P := fun w => d_roof h5007 i w) hf hz1
        replace hfr := d_frm.tr hfr hfr1 (by omega)
        refine a_if_ne (pc' := 24) 31 dX1_slateForTheDay_21 (by decide) rfl (fun k5009 => ?_) (fun k5009 => ?_)
        · replace hf := (if_neg k5009).symm.trans hf
          refine a_iinc (pc' := 34) (v := v1_4 + (1 : Int32)) (ls' := [(1, .int (v1_4 + (1 : Int32))), (0, .ref i), (2, .int v2_4)]) 1 dX1_slateForTheDay_31 rfl (by rfl) (by decide) rfl rfl ?_
          refine a_goto 60 dX1_slateForTheDay_34 (by decide) ?_
          refine a_iinc (pc' := 63) (v := v2_4 + (1 : Int32)) (ls' := [(2, .int (v2_4 + (1 : Int32))), (1, .int (v1_4 + (1 : Int32))), (0, .ref i)]) 2 dX1_slateForTheDay_60 rfl (by rfl) (by decide) rfl rfl ?_
          refine a_goto 4 dX1_slateForTheDay_63 (by decide) ?_
          refine a_sub [2, 1, 0] rfl ?_
          exact ih _ _ _ _ hf hX0 _ hz hfr
        · replace hf := (if_pos k5009).symm.trans hf
          refine a_aload_n (pc' := 25) 0 dX1_slateForTheDay_24 rfl rfl rfl ?_
          obtain ⟨x5011, e5010, hf⟩ := Option.bind_eq_some_iff.mp hf
          refine k_X1_142 (pc' := 28) (c_X1_layNext l g F hz e5010) ⟨Nat.le_of_ble_eq_true rfl, Nat.le_of_ble_eq_true rfl⟩ hz.1 (Nat.le_of_ble_eq_true rfl) dX1_slateForTheDay_25 rfl (fun h5012 hq => ?_)
          obtain ⟨hz1, hfr1⟩ := hq
          obtain ⟨z5013, hf, hz⟩ := f_let_x (P := fun w => d_roof h5012 i w) hf hz1
          replace hfr := d_frm.tr hfr hfr1 (by omega)
          refine a_if_eq (pc' := 31) 37 dX1_slateForTheDay_28 (by decide) rfl (fun k5014 => ?_) (fun k5014 => ?_)
          · replace hf := (if_pos k5014).symm.trans hf
            refine a_aload_n (pc' := 38) 0 dX1_slateForTheDay_37 rfl rfl rfl ?_
            obtain ⟨x5016, e5015, hf⟩ := Option.bind_eq_some_iff.mp hf
            refine k_X1_145 (pc' := 41) (c_X1_canGoUp l g F hz e5015) ⟨Nat.le_of_ble_eq_true rfl, Nat.le_of_ble_eq_true rfl⟩ hz.1 (Nat.le_of_ble_eq_true rfl) dX1_slateForTheDay_38 rfl ?_
            refine a_if_eq (pc' := 44) 66 dX1_slateForTheDay_41 (by decide) rfl (fun k5017 => ?_) (fun k5017 => ?_)
            · replace hf := (if_pos k5017).symm.trans hf
              cases hf
              refine a_sub [1] rfl ?_
              exact hX0 _ rfl _ hz hfr
            · replace hf := (if_neg k5017).symm.trans hf
              refine a_aload_n (pc' := 45) 0 dX1_slateForTheDay_44 rfl rfl rfl ?_
              obtain ⟨x5019, e5018, hf⟩ := Option.bind_eq_some_iff.mp hf
              refine k_X1_148 (pc' := 48) (c_X1_nextLength l g F hz e5018) ⟨Nat.le_of_ble_eq_true rfl, Nat.le_of_ble_eq_true rfl⟩ hz.1 (Nat.le_of_ble_eq_true rfl) dX1_slateForTheDay_45 rfl ?_
              refine a_iconst (pc' := 49) (v := (-1 : Int32)) dX1_slateForTheDay_48 rfl (by decide) ?_
              refine a_icmp_eq (pc' := 52) 66 dX1_slateForTheDay_49 (by decide) rfl (fun k5020 => ?_) (fun k5020 => ?_)
              · replace hf := (if_pos k5020).symm.trans hf
                cases hf
                refine a_sub [1] rfl ?_
                exact hX0 _ rfl _ hz hfr
              · replace hf := (if_neg k5020).symm.trans hf
                refine a_aload_n (pc' := 53) 0 dX1_slateForTheDay_52 rfl rfl rfl ?_
                refine a_aload_n (pc' := 54) 0 dX1_slateForTheDay_53 rfl rfl rfl ?_
                obtain ⟨x5022, e5021, hf⟩ := Option.bind_eq_some_iff.mp hf
                refine k_X1_148 (pc' := 57) (c_X1_nextLength l g F hz e5021) ⟨Nat.le_of_ble_eq_true rfl, Nat.le_of_ble_eq_true rfl⟩ hz.1 (Nat.le_of_ble_eq_true rfl) dX1_slateForTheDay_54 rfl ?_
                obtain ⟨x5024, e5023, hf⟩ := Option.bind_eq_some_iff.mp hf
                refine k_X1_151 (pc' := 60) (c_X1_addCourse l g F hz e5023) ⟨Nat.le_of_ble_eq_true rfl, Nat.le_of_ble_eq_true rfl⟩ hz.1 (Nat.le_of_ble_eq_true rfl) dX1_slateForTheDay_57 rfl (fun h5025 hq => ?_)
                obtain ⟨hz1, hfr1⟩ := hq
                obtain ⟨z5026, hf, hz⟩ := f_let_x (P := fun w => d_roof h5025 i w) hf hz1
                replace hfr := d_frm.tr hfr hfr1 (by omega)
                refine a_iinc (pc' := 63) (v := v2_4 + (1 : Int32)) (ls' := [(2, .int (v2_4 + (1 : Int32))), (0, .ref i), (1, .int v1_4)]) 2 dX1_slateForTheDay_60 rfl (by rfl) (by decide) rfl rfl ?_
                refine a_goto 4 dX1_slateForTheDay_63 (by decide) ?_
                refine a_sub [1, 2, 0] rfl ?_
                exact ih _ _ _ _ hf hX0 _ hz hfr
          · replace hf := (if_neg k5014).symm.trans hf
            refine a_iinc (pc' := 34) (v := v1_4 + (1 : Int32)) (ls' := [(1, .int (v1_4 + (1 : Int32))), (0, .ref i), (2, .int v2_4)]) 1 dX1_slateForTheDay_31 rfl (by rfl) (by decide) rfl rfl ?_
            refine a_goto 60 dX1_slateForTheDay_34 (by decide) ?_
            refine a_iinc (pc' := 63) (v := v2_4 + (1 : Int32)) (ls' := [(2, .int (v2_4 + (1 : Int32))), (1, .int (v1_4 + (1 : Int32))), (0, .ref i)]) 2 dX1_slateForTheDay_60 rfl (by rfl) (by decide) rfl rfl ?_
            refine a_goto 4 dX1_slateForTheDay_63 (by decide) ?_
            refine a_sub [2, 1, 0] rfl ?_
            exact ih _ _ _ _ hf hX0 _ hz hfr
set_option maxHeartbeats 4000000 in
set_option maxRecDepth 100000 in
theorem c_X1_slateForTheDay (l : Launch) (g : a_G) (F : Nat) {h : List va_E} {i : Nat} {z : d_Z} (hz : d_roof h i z) {out : Int32 × d_Z} (hf : f_X1_slateForTheDay F z = some out) : a_CT l g yX1_slateForTheDay cX1_slateForTheDay 3 (some .int) (a_rm 4 89) [.ref i] h none none (fun r h' => r = some (.int out.1) ∧ d_roof h' i out.2 ∧ d_frm i 6 h h') := by
  refine a_enter ⟨by decide, rfl, Nat.le_of_ble_eq_true rfl⟩ (fun p e s m args below meth c hr hin => ?_)
  unfold f_X1_slateForTheDay at hf
  have hfr : d_frm i 6 h h := d_frm.rf
  refine a_sub (ls' := [(0, .ref i)]) [0] rfl ?_
  refine a_iconst (pc' := 1) (v := (0 : Int32)) dX1_slateForTheDay_0 rfl (by decide) ?_
  refine a_istore_n (pc' := 2) (ls' := [(1, .int ((0 : Int32))), (0, .ref i)]) dX1_slateForTheDay_1 rfl (by decide) rfl rfl ?_
  refine a_iconst (pc' := 3) (v := (0 : Int32)) dX1_slateForTheDay_2 rfl (by decide) ?_
  refine a_istore_n (pc' := 4) (ls' := [(2, .int ((0 : Int32))), (1, .int ((0 : Int32))), (0, .ref i)]) dX1_slateForTheDay_3 rfl (by decide) rfl rfl ?_
  obtain ⟨o1, e2, hf⟩ := Option.bind_eq_some_iff.mp hf
  refine a_sub [2, 1, 0] rfl ?_
  refine l_X1_slateForTheDay_L4 F   F _ _ _ o1 e2 (fun e9 he9 h3 hz hfr => ?_) _ hz hfr
  subst he9
  refine a_iload_n (pc' := 67) 0 dX1_slateForTheDay_66 rfl rfl rfl ?_
  cases hf
  exact a_iret hr ⟨rfl, hz, hfr⟩ dX1_slateForTheDay_67
/-! SlateRoof.work()I -/
set_option maxRecDepth 100000 in
def f_X3_work_L115 (F : Nat) (x76003 : Int32) (x76005 : Int32) : Nat → Int32 → Int32 → d_C → Option (Int32 × Int32 × d_C)
  | 0, _, _, _ => none
  | n + 1, v2_115, v6_115, q_115 => (if x76005 ≤ v6_115 then some (v2_115, v6_115, q_115) else (f_X1_passDay F q_115.1 x76003).bind fun x116003 => f_let (x116003.2, q_115.2) fun q116005 => (f_X1_slateForTheDay F q116005.1).bind fun x116007 => f_let (x116007.2, q116005.2) fun q116009 => f_X3_work_L115 F x76003 x76005 n (v2_115 + x116007.1) (v6_115 + (1 : Int32)) q116009)
set_option maxRecDepth 100000 in
def f_X3_work_L75 (F : Nat)  : Nat → Int32 → Int32 → d_C → Option (Int32 × Int32 × d_C)
  | 0, _, _, _ => none
  | n + 1, v2_75, v3_75, q_75 => (if q_75.2.2.2.2.2.2.2 ≤ v3_75 then some (v2_75, v3_75, q_75) else (f_X3_valueAt F 60 q_75.2.2.2.2.2.1 v3_75).bind fun x76003 => (f_X3_valueAt F 60 q_75.2.2.2.2.2.2.1 v3_75).bind fun x76005 => (f_X3_work_L115 F x76003 x76005 F v2_75 ((0 : Int32)) q_75).bind fun o76006 => f_X3_work_L75 F  n o76006.1 (v3_75 + (1 : Int32)) o76006.2.2)
set_option maxRecDepth 100000 in
def f_X3_work (F : Nat) (q : d_C) : Option ((Nat × d_C) ⊕ (Int32 × d_C)) := (f_X0_isComplete F q.2.2.2).bind fun x2 => (if x2 = 0 then some (.inl (0, q)) else (f_X0_readParts F q.2.2.2).bind fun x5 => f_let (q.1, q.2.1, q.2.2.1, x5.2) fun q7 => (if ((200 : Int32)) < x5.1 then some (.inl (1, q7)) else (if ((q7.1 6) + x5.1) ≤ ((1000 : Int32)) then (f_X2_keep F q7).bind fun x11 => f_let x11 fun q13 => (f_X3_work_L75 F F ((0 : Int32)) ((0 : Int32)) q13).bind fun o14 => f_let (o14.2.2.1, o14.2.2.2.1, o14.2.2.2.2.1, (o14.2.2.2.2.2.1, (0 : Int32), o14.2.2.2.2.2.2.2)) fun q18 => some (.inr ((o14.1, q18))) else some (.inl (1, q7)))))
set_option maxHeartbeats 4000000 in
set_option maxRecDepth 100000 in
theorem l_X3_work_L115 {p : Program} {l : Launch} {e : Env} {s : State} {m : MethodId} {args : Array Value} {below : List Frame} {meth : Method} {c : Code} {Q : State → Prop} {g : a_G} (F : Nat) {h : List va_E} (v3_75 : Int32) (x76003 : Int32) (x76005 : Int32) : ∀ (n : Nat) (v2_115 : Int32) (v6_115 : Int32) (q_115 : d_C) (o : Int32 × Int32 × d_C), f_X3_work_L115 F x76003 x76005 n v2_115 v6_115 q_115 = some o → (∀ e9 : Int32 × Int32 × d_C, o = e9 → ∀ h1, d_cls h1 e9.2.2 → d_frm 0 55 h h1 → a_W p l e (a_rm 5 111) s m args below meth c Q RX3 cX3_work 7 g 0 0 none 148 [(0, .ref 0), (2, .int e9.1), (3, .int v3_75)] [] h1) → ∀ h1, d_cls h1 q_115 → d_frm 0 55 h h1 → a_W p l e (a_rm 5 111) s m args below meth c Q RX3 cX3_work 7 g 0 0 none 115 [(0, .ref 0), (2, .int v2_115), (3, .int v3_75), (4, .int x76003), (5, .int x76005), (6, .int v6_115)] [] h1 := by
  intro n
  induction n with
  | zero => intro v2_115 v6_115 q_115 o hf; exact nomatch (show (none : Option (Int32 × Int32 × d_C)) = some o from hf)
  | succ n ih =>
    intro v2_115 v6_115 q_115 o hf hX0 h1 hz hfr
    rw [f_X3_work_L115] at hf
    refine a_iload (pc' := 117) 5 dX3_work_115 rfl rfl ?_
    refine a_iload (pc' := 119) 4 dX3_work_117 rfl rfl ?_
    refine a_icmp_ge (pc' := 122) 148 dX3_work_119 (by decide) rfl (fun k116001 => ?_) (fun k116001 => ?_)
    · replace hf := (if_pos k116001).symm.trans hf
      cases hf
      refine a_sub [0, 1, 2] rfl ?_
      exact hX0 _ rfl _ hz hfr
    · replace hf := (if_neg k116001).symm.trans hf
      refine a_aload_n (pc' := 123) 0 dX3_work_122 rfl rfl rfl ?_
      refine g_X3_10 (pc' := 126) hz.1 rfl dX3_work_123 rfl ?_
      refine a_iload (pc' := 128) 3 dX3_work_126 rfl rfl ?_
      obtain ⟨x116003, e116002, hf⟩ := Option.bind_eq_some_iff.mp hf
      refine k_X3_199 (pc' := 131) (c_X1_passDay l g F hz.2.1 e116002) ⟨Nat.le_of_ble_eq_true rfl, Nat.le_of_ble_eq_true rfl⟩ hz.2.1.1 (Nat.le_of_ble_eq_true rfl) dX3_work_128 rfl (fun h116004 hq => ?_)
      obtain ⟨hz1, hfr1⟩ := hq
      have hz2 := d_c_now hz hz1 hfr1
      obtain ⟨q116005, hf, hz⟩ := f_let_x (P := fun w => d_cls h116004 w) hf hz2
      replace hfr := d_frm.tr hfr hfr1 (by omega)
      refine a_pop (pc' := 132) dX3_work_131 rfl rfl ?_
      refine a_iload_n (pc' := 133) 1 dX3_work_132 rfl rfl rfl ?_
      refine a_aload_n (pc' := 134) 0 dX3_work_133 rfl rfl rfl ?_
      refine g_X3_10 (pc' := 137) hz.1 rfl dX3_work_134 rfl ?_
      obtain ⟨x116007, e116006, hf⟩ := Option.bind_eq_some_iff.mp hf
      refine k_X3_235 (pc' := 140) (c_X1_slateForTheDay l g F hz.2.1 e116006) ⟨Nat.le_of_ble_eq_true rfl, Nat.le_of_ble_eq_true rfl⟩ hz.2.1.1 (Nat.le_of_ble_eq_true rfl) dX3_work_137 rfl (fun h116008 hq => ?_)
      obtain ⟨hz1, hfr1⟩ := hq
      have hz2 := d_c_now hz hz1 hfr1
      obtain ⟨q116009, hf, hz⟩ := f_let_x (P := fun w => d_cls h116008 w) hf hz2
      replace hfr := d_frm.tr hfr hfr1 (by omega)
      refine a_iadd (pc' := 141) dX3_work_140 rfl ?_
      refine a_istore_n (pc' := 142) (ls' := [(2, .int (v2_115 + x116007.1)), (0, .ref 0), (3, .int v3_75), (4, .int x76003), (5, .int x76005), (6, .int v6_115)]) dX3_work_141 rfl (by decide) rfl rfl ?_
      refine a_iinc (pc' := 145) (v := v6_115 + (1 : Int32)) (ls' := [(6, .int (v6_115 + (1 : Int32))), (2, .int (v2_115 + x116007.1)), (0, .ref 0), (3, .int v3_75), (4, .int x76003), (5, .int x76005)]) 5 dX3_work_142 rfl (by rfl) (by decide) rfl rfl ?_
      refine a_goto 115 dX3_work_145 (by decide) ?_
      refine a_sub [2, 1, 3, 4, 5, 0] rfl ?_
      exact ih _ _ _ _ hf hX0 _ hz hfr
set_option maxHeartbeats 4000000 in
set_option maxRecDepth 100000 in
theorem l_X3_work_L75 {p : Program} {l : Launch} {e : Env} {s : State} {m : MethodId} {args : Array Value} {below : List Frame} {meth : Method} {c : Code} {Q : State → Prop} {g : a_G} (F : Nat) {h : List va_E}  : ∀ (n : Nat) (v2_75 : Int32) (v3_75 : Int32) (q_75 : d_C) (o : Int32 × Int32 × d_C), f_X3_work_L75 F  n v2_75 v3_75 q_75 = some o → (∀ e9 : Int32 × Int32 × d_C, o = e9 → ∀ h1, d_cls h1 e9.2.2 → d_frm 0 55 h h1 → a_W p l e (a_rm 5 111) s m args below meth c Q RX3 cX3_work 7 g 0 0 none 154 [(0, .ref 0), (2, .int e9.1)] [] h1) → ∀ h1, d_cls h1 q_75 → d_frm 0 55 h h1 → a_W p l e (a_rm 5 111) s m args below meth c Q RX3 cX3_work 7 g 0 0 none 75 [(0, .ref 0), (2, .int v2_75), (3, .int v3_75)] [] h1 := by
  intro n
  induction n with
  | zero => intro v2_75 v3_75 q_75 o hf; exact nomatch (show (none : Option (Int32 × Int32 × d_C)) = some o from hf)
  | succ n ih =>
    intro v2_75 v3_75 q_75 o hf hX0 h1 hz hfr
    rw [f_X3_work_L75] at hf
    refine a_iload_n (pc' := 76) 2 dX3_work_75 rfl rfl rfl ?_
    refine a_aload_n (pc' := 77) 0 dX3_work_76 rfl rfl rfl ?_
    refine g_X3_29 (pc' := 80) hz.1 rfl dX3_work_77 rfl ?_
    refine g_X3_226 (pc' := 83) hz.2.2.2.2.1 rfl dX3_work_80 rfl ?_
    refine a_icmp_ge (pc' := 86) 154 dX3_work_83 (by decide) rfl (fun k76001 => ?_) (fun k76001 => ?_)
    · replace hf := (if_pos k76001).symm.trans hf
      cases hf
      refine a_sub [0, 1] rfl ?_
      exact hX0 _ rfl _ hz hfr
    · replace hf := (if_neg k76001).symm.trans hf
      refine a_aload_n (pc' := 87) 0 dX3_work_86 rfl rfl rfl ?_
      refine g_X3_29 (pc' := 90) hz.1 rfl dX3_work_87 rfl ?_
      refine g_X3_229 (pc' := 93) hz.2.2.2.2.1 rfl dX3_work_90 rfl ?_
      refine a_iload_n (pc' := 94) 2 dX3_work_93 rfl rfl rfl ?_
      obtain ⟨x76003, e76002, hf⟩ := Option.bind_eq_some_iff.mp hf
      refine k_X3_74 (pc' := 97) (c_X3_valueAt l g F hz.2.2.2.2.2.2.1 e76002) ⟨Nat.le_of_ble_eq_true rfl, Nat.le_of_ble_eq_true rfl⟩ (Nat.le_of_ble_eq_true rfl) dX3_work_94 rfl ?_
      refine a_istore (pc' := 99) (ls' := [(4, .int x76003), (0, .ref 0), (2, .int v2_75), (3, .int v3_75)]) dX3_work_97 (by decide) rfl rfl ?_
      refine a_aload_n (pc' := 100) 1 dX3_work_99 rfl rfl rfl ?_
      refine g_X3_29 (pc' := 103) hz.1 rfl dX3_work_100 rfl ?_
      refine g_X3_232 (pc' := 106) hz.2.2.2.2.1 rfl dX3_work_103 rfl ?_
      refine a_iload_n (pc' := 107) 3 dX3_work_106 rfl rfl rfl ?_
      obtain ⟨x76005, e76004, hf⟩ := Option.bind_eq_some_iff.mp hf
      refine k_X3_74 (pc' := 110) (c_X3_valueAt l g F hz.2.2.2.2.2.2.2 e76004) ⟨Nat.le_of_ble_eq_true rfl, Nat.le_of_ble_eq_true rfl⟩ (Nat.le_of_ble_eq_true rfl) dX3_work_107 rfl ?_
      refine a_istore (pc' := 112) (ls' := [(5, .int x76005), (4, .int x76003), (0, .ref 0), (2, .int v2_75), (3, .int v3_75)]) dX3_work_110 (by decide) rfl rfl ?_
      refine a_iconst (pc' := 113) (v := (0 : Int32)) dX3_work_112 rfl (by decide) ?_
      refine a_istore (pc' := 115) (ls' := [(6, .int ((0 : Int32))), (5, .int x76005), (4, .int x76003), (0, .ref 0), (2, .int v2_75), (3, .int v3_75)]) dX3_work_113 (by decide) rfl rfl ?_
      obtain ⟨o76006, e76007, hf⟩ := Option.bind_eq_some_iff.mp hf
      refine a_sub [3, 4, 5, 2, 1, 0] rfl ?_
      refine l_X3_work_L115 F v3_75 x76003 x76005  F _ _ _ o76006 e76007 (fun e9 he9 h76008 hz hfr => ?_) _ hz hfr
      subst he9
      refine a_iinc (pc' := 151) (v := v3_75 + (1 : Int32)) (ls' := [(3, .int (v3_75 + (1 : Int32))), (0, .ref 0), (2, .int o76006.1)]) 2 dX3_work_148 rfl (by rfl) (by decide) rfl rfl ?_
      refine a_goto 75 dX3_work_151 (by decide) ?_
      refine a_sub [1, 2, 0] rfl ?_
      exact ih _ _ _ _ hf hX0 _ hz hfr
set_option maxHeartbeats 4000000 in
set_option maxRecDepth 100000 in
theorem c_X3_work (l : Launch) (g : a_G) (F : Nat) {h : List va_E} {q : d_C} (hz : d_cls h q) {out : Int32 × d_C} (hf : f_X3_work F q = some (.inr out)) : a_CT l g yX3_work cX3_work 7 (some .int) (a_rm 5 111) [.ref 0] h none none (fun r h' => r = some (.int out.1) ∧ d_cls h' out.2 ∧ d_frm 0 55 h h') := by
  refine a_enter ⟨by decide, rfl, Nat.le_of_ble_eq_true rfl⟩ (fun p e s m args below meth c hr hin => ?_)
  unfold f_X3_work at hf
  have hfr : d_frm 0 55 h h := d_frm.rf
  refine a_sub (ls' := [(0, .ref 0)]) [0] rfl ?_
  refine a_aload_n (pc' := 1) 0 dX3_work_0 rfl rfl rfl ?_
  refine g_X3_29 (pc' := 4) hz.1 rfl dX3_work_1 rfl ?_
  obtain ⟨x2, e1, hf⟩ := Option.bind_eq_some_iff.mp hf
  refine k_X3_216 (pc' := 7) (c_X0_isComplete l g F hz.2.2.2.2 e1) ⟨Nat.le_of_ble_eq_true rfl, Nat.le_of_ble_eq_true rfl⟩ hz.2.2.2.2.1 (Nat.le_of_ble_eq_true rfl) dX3_work_4 rfl ?_
  refine a_if_ne (pc' := 10) 20 dX3_work_7 (by decide) rfl (fun k3 => ?_) (fun k3 => ?_)
  · replace hf := (if_neg k3).symm.trans hf
    refine a_aload_n (pc' := 21) 0 dX3_work_20 rfl rfl rfl ?_
    refine g_X3_29 (pc' := 24) hz.1 rfl dX3_work_21 rfl ?_
    obtain ⟨x5, e4, hf⟩ := Option.bind_eq_some_iff.mp hf
    refine k_X3_221 (pc' := 27) (c_X0_readParts l g F hz.2.2.2.2 e4) ⟨Nat.le_of_ble_eq_true rfl, Nat.le_of_ble_eq_true rfl⟩ hz.2.2.2.2.1 (Nat.le_of_ble_eq_true rfl) dX3_work_24 rfl (fun h6 hq => ?_)
    obtain ⟨hz1, hfr1⟩ := hq
    have hz2 := d_c_text hz hz1 hfr1
    obtain ⟨q7, hf, hz⟩ := f_let_x (P := fun w => d_cls h6 w) hf hz2
    replace hfr := d_frm.tr hfr hfr1 (by omega)
    refine a_istore_n (pc' := 28) (ls' := [(1, .int x5.1), (0, .ref 0)]) dX3_work_27 rfl (by decide) rfl rfl ?_
    refine a_iload_n (pc' := 29) 0 dX3_work_28 rfl rfl rfl ?_
    refine a_sipush (pc' := 32) (v := (200 : Int32)) dX3_work_29 rfl (by decide) ?_
    refine a_icmp_gt (pc' := 35) 50 dX3_work_32 (by decide) rfl (fun k8 => ?_) (fun k8 => ?_)
    · replace hf := (if_pos k8).symm.trans hf
      cases hf
    · replace hf := (if_neg k8).symm.trans hf
      refine a_aload_n (pc' := 36) 1 dX3_work_35 rfl rfl rfl ?_
      refine g_X3_10 (pc' := 39) hz.1 rfl dX3_work_36 rfl ?_
      refine g_X3_194 (pc' := 42) hz.2.1.1 rfl dX3_work_39 rfl ?_
      refine a_iload_n (pc' := 43) 0 dX3_work_42 rfl rfl rfl ?_
      refine a_iadd (pc' := 44) dX3_work_43 rfl ?_
      refine a_sipush (pc' := 47) (v := (1000 : Int32)) dX3_work_44 rfl (by decide) ?_
      refine a_icmp_le (pc' := 50) 60 dX3_work_47 (by decide) rfl (fun k9 => ?_) (fun k9 => ?_)
      · replace hf := (if_pos k9).symm.trans hf
        refine a_aload_n (pc' := 61) 1 dX3_work_60 rfl rfl rfl ?_
        refine g_X3_22 (pc' := 64) hz.1 rfl dX3_work_61 rfl ?_
        refine a_aload_n (pc' := 65) 1 dX3_work_64 rfl rfl rfl ?_
        refine g_X3_10 (pc' := 68) hz.1 rfl dX3_work_65 rfl ?_
        obtain ⟨x11, e10, hf⟩ := Option.bind_eq_some_iff.mp hf
        refine k_X3_44 (pc' := 71) (c_X2_keep l g F hz e10) ⟨Nat.le_of_ble_eq_true rfl, Nat.le_of_ble_eq_true rfl⟩ hz.2.2.2.1.1 (Nat.le_of_ble_eq_true rfl) dX3_work_68 rfl (fun h12 hq => ?_)
        obtain ⟨hz1, hfr1⟩ := hq
        obtain ⟨q13, hf, hz⟩ := f_let_x (P := fun w => d_cls h12 w) hf hz1
        replace hfr := d_frm.tr hfr hfr1 (by omega)
        refine a_iconst (pc' := 72) (v := (0 : Int32)) dX3_work_71 rfl (by decide) ?_
        refine a_istore_n (pc' := 73) (ls' := [(2, .int ((0 : Int32))), (1, .int x5.1), (0, .ref 0)]) dX3_work_72 rfl (by decide) rfl rfl ?_
        refine a_iconst (pc' := 74) (v := (0 : Int32)) dX3_work_73 rfl (by decide) ?_
        refine a_istore_n (pc' := 75) (ls' := [(3, .int ((0 : Int32))), (2, .int ((0 : Int32))), (1, .int x5.1), (0, .ref 0)]) dX3_work_74 rfl (by decide) rfl rfl ?_
        obtain ⟨o14, e15, hf⟩ := Option.bind_eq_some_iff.mp hf
        refine a_sub [3, 1, 0] rfl ?_
        refine l_X3_work_L75 F   F _ _ _ o14 e15 (fun e9 he9 h16 hz hfr => ?_) _ hz hfr
        subst he9
        refine a_aload_n (pc' := 155) 0 dX3_work_154 rfl rfl rfl ?_
        refine g_X3_29 (pc' := 158) hz.1 rfl dX3_work_155 rfl ?_
        refine a_iconst (pc' := 159) (v := (0 : Int32)) dX3_work_158 rfl (by decide) ?_
        refine pt_X3_204 (pc' := 162) hz.2.2.2.2 dX3_work_159 rfl (fun h17 hz1 hfr1 => ?_)
        have hz2 := d_c_text hz hz1 hfr1
        obtain ⟨q18, hf, hz⟩ := f_let_x (P := fun w => d_cls h17 w) hf hz2
        replace hfr := d_frm.tr hfr hfr1 (by omega)
        refine a_iload_n (pc' := 163) 1 dX3_work_162 rfl rfl rfl ?_
        cases hf
        exact a_iret hr ⟨rfl, hz, hfr⟩ dX3_work_163
      · replace hf := (if_neg k9).symm.trans hf
        cases hf
  · replace hf := (if_pos k3).symm.trans hf
    cases hf
