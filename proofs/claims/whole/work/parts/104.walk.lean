/-! SlateRoof$Roof.buildFromStock()V -/
set_option maxRecDepth 100000 in
def f_X1_buildFromStock_L5 (F : Nat)  : Nat → Int32 → d_Z → Option ((Int32 × d_Z) ⊕ (Int32 × d_Z))
  | 0, _, _ => none
  | n + 1, v1_5, z_5 => (if ((100 : Int32)) ≤ v1_5 then some (.inl (v1_5, z_5)) else (f_X1_isHighEnough F z_5).bind fun x6003 => (if x6003 = 0 then (f_X1_nextLength F z_5).bind fun x6006 => (if x6006 = ((-1 : Int32)) then some (.inr ((v1_5, z_5))) else (f_X1_placesOf F z_5 v1_5).bind fun x6009 => (f_X3_addAt F 25 (fun k => z_5 (214 + k)) x6006 (-x6009)).bind fun x6011 => f_let (d_put z_5 214 25 x6011) fun z6013 => (f_X1_addCourse F z6013 x6006).bind fun x6015 => f_let x6015 fun z6017 => f_X1_buildFromStock_L5 F  n (v1_5 + (1 : Int32)) z6017) else some (.inl (v1_5, z_5))))
set_option maxRecDepth 100000 in
def f_X1_buildFromStock (F : Nat) (z : d_Z) : Option (d_Z) := (f_X1_buildFromStock_L5 F F (z 2) z).bind (fun w9 => Sum.elim (fun w3 => some (w3.2)) (fun w5 => some (w5.2)) w9)
set_option maxHeartbeats 4000000 in
set_option maxRecDepth 100000 in
theorem l_X1_buildFromStock_L5 {p : Program} {l : Launch} {e : Env} {s : State} {m : MethodId} {args : Array Value} {below : List Frame} {meth : Method} {c : Code} {Q : State → Prop} {g : a_G} (F : Nat) {h : List va_E} {i : Nat}  : ∀ (n : Nat) (v1_5 : Int32) (z_5 : d_Z) (o : (Int32 × d_Z) ⊕ (Int32 × d_Z)), f_X1_buildFromStock_L5 F  n v1_5 z_5 = some o → (∀ e9 : Int32 × d_Z, o = .inl e9 → ∀ h1, d_roof h1 i e9.2 → d_frm i 6 h h1 → a_W p l e (a_rm 3 64) s m args below meth c Q RX1 cX1_buildFromStock 3 g 0 0 none 56 [] [] h1) → (∀ e9 : Int32 × d_Z, o = .inr (e9) → ∀ h1, d_roof h1 i e9.2 → d_frm i 6 h h1 → a_W p l e (a_rm 3 64) s m args below meth c Q RX1 cX1_buildFromStock 3 g 0 0 none 28 [] [] h1) → ∀ h1, d_roof h1 i z_5 → d_frm i 6 h h1 → a_W p l e (a_rm 3 64) s m args below meth c Q RX1 cX1_buildFromStock 3 g 0 0 none 5 [(0, .ref i), (1, .int v1_5)] [] h1 := by
  intro n
  induction n with
  | zero => intro v1_5 z_5 o hf; exact nomatch (show (none : Option ((Int32 × d_Z) ⊕ (Int32 × d_Z))) = some o from hf)
  | succ n ih =>
    intro v1_5 z_5 o hf hX0 hX1 h1 hz hfr
    rw [f_X1_buildFromStock_L5] at hf
    refine a_iload_n (pc' := 6) 1 dX1_buildFromStock_5 rfl rfl rfl ?_
    refine a_bipush (pc' := 8) (v := (100 : Int32)) dX1_buildFromStock_6 rfl (by decide) ?_
    refine a_icmp_ge (pc' := 11) 56 dX1_buildFromStock_8 (by decide) rfl (fun k6001 => ?_) (fun k6001 => ?_)
    · replace hf := (if_pos k6001).symm.trans hf
      cases hf
      refine a_sub [] rfl ?_
      exact hX0 _ rfl _ hz hfr
    · replace hf := (if_neg k6001).symm.trans hf
      refine a_aload_n (pc' := 12) 0 dX1_buildFromStock_11 rfl rfl rfl ?_
      obtain ⟨x6003, e6002, hf⟩ := Option.bind_eq_some_iff.mp hf
      refine k_X1_105 (pc' := 15) (c_X1_isHighEnough l g F hz e6002) ⟨Nat.le_of_ble_eq_true rfl, Nat.le_of_ble_eq_true rfl⟩ hz.1 (Nat.le_of_ble_eq_true rfl) dX1_buildFromStock_12 rfl ?_
      refine a_if_ne (pc' := 18) 56 dX1_buildFromStock_15 (by decide) rfl (fun k6004 => ?_) (fun k6004 => ?_)
      · replace hf := (if_neg k6004).symm.trans hf
        cases hf
        refine a_sub [] rfl ?_
        exact hX0 _ rfl _ hz hfr
      · replace hf := (if_pos k6004).symm.trans hf
        refine a_aload_n (pc' := 19) 0 dX1_buildFromStock_18 rfl rfl rfl ?_
        obtain ⟨x6006, e6005, hf⟩ := Option.bind_eq_some_iff.mp hf
        refine k_X1_148 (pc' := 22) (c_X1_nextLength l g F hz e6005) ⟨Nat.le_of_ble_eq_true rfl, Nat.le_of_ble_eq_true rfl⟩ hz.1 (Nat.le_of_ble_eq_true rfl) dX1_buildFromStock_19 rfl ?_
        refine a_istore_n (pc' := 23) (ls' := [(2, .int x6006), (0, .ref i), (1, .int v1_5)]) dX1_buildFromStock_22 rfl (by decide) rfl rfl ?_
        refine a_iload_n (pc' := 24) 0 dX1_buildFromStock_23 rfl rfl rfl ?_
        refine a_iconst (pc' := 25) (v := (-1 : Int32)) dX1_buildFromStock_24 rfl (by decide) ?_
        refine a_icmp_ne (pc' := 28) 31 dX1_buildFromStock_25 (by decide) rfl (fun k6007 => ?_) (fun k6007 => ?_)
        · replace hf := (if_neg k6007).symm.trans hf
          refine a_aload_n (pc' := 32) 1 dX1_buildFromStock_31 rfl rfl rfl ?_
          refine g_X1_25 (pc' := 35) hz.1 rfl dX1_buildFromStock_32 rfl ?_
          refine a_iload_n (pc' := 36) 0 dX1_buildFromStock_35 rfl rfl rfl ?_
          refine a_aload_n (pc' := 37) 1 dX1_buildFromStock_36 rfl rfl rfl ?_
          refine a_iload_n (pc' := 38) 2 dX1_buildFromStock_37 rfl rfl rfl ?_
          obtain ⟨x6009, e6008, hf⟩ := Option.bind_eq_some_iff.mp hf
          refine k_X1_79 (pc' := 41) (c_X1_placesOf l g F hz e6008) ⟨Nat.le_of_ble_eq_true rfl, Nat.le_of_ble_eq_true rfl⟩ hz.1 (Nat.le_of_ble_eq_true rfl) dX1_buildFromStock_38 rfl ?_
          refine a_ineg (pc' := 42) dX1_buildFromStock_41 rfl ?_
          obtain ⟨x6011, e6010, hf⟩ := Option.bind_eq_some_iff.mp hf
          refine k_X1_119 (pc' := 45) (c_X3_addAt l g F hz.2.2.2.1 e6010) ⟨Nat.le_of_ble_eq_true rfl, Nat.le_of_ble_eq_true rfl⟩ (Nat.le_of_ble_eq_true rfl) dX1_buildFromStock_42 rfl (fun h6012 hq => ?_)
          obtain ⟨hz1, hfr1⟩ := hq
          replace hz1 := d_r_a3 hz hz1 hfr1
          replace hfr1 := d_frm.mono (lo := i) (n := 6) hfr1 (by omega)
          obtain ⟨z6013, hf, hz⟩ := f_let_x (P := fun w => d_roof h6012 i w) hf hz1
          replace hfr := d_frm.tr hfr hfr1 (by omega)
          refine a_aload_n (pc' := 46) 1 dX1_buildFromStock_45 rfl rfl rfl ?_
          refine a_iload_n (pc' := 47) 0 dX1_buildFromStock_46 rfl rfl rfl ?_
          obtain ⟨x6015, e6014, hf⟩ := Option.bind_eq_some_iff.mp hf
          refine k_X1_151 (pc' := 50) (c_X1_addCourse l g F hz e6014) ⟨Nat.le_of_ble_eq_true rfl, Nat.le_of_ble_eq_true rfl⟩ hz.1 (Nat.le_of_ble_eq_true rfl) dX1_buildFromStock_47 rfl (fun h6016 hq => ?_)
          obtain ⟨hz1, hfr1⟩ := hq
          obtain ⟨z6017, hf, hz⟩ := f_let_x (P := fun w => d_roof h6016 i w) hf hz1
          replace hfr := d_frm.tr hfr hfr1 (by omega)
          refine a_iinc (pc' := 53) (v := v1_5 + (1 : Int32)) (ls' := [(1, .int (v1_5 + (1 : Int32))), (2, .int x6006), (0, .ref i)]) 2 dX1_buildFromStock_50 rfl (by rfl) (by decide) rfl rfl ?_
          refine a_goto 5 dX1_buildFromStock_53 (by decide) ?_
          refine a_sub [2, 0] rfl ?_
          exact ih _ _ _ hf hX0 hX1 _ hz hfr
        · replace hf := (if_pos k6007).symm.trans hf
          cases hf
          refine a_sub [] rfl ?_
          exact hX1 _ rfl _ hz hfr
set_option maxHeartbeats 4000000 in
set_option maxRecDepth 100000 in
theorem c_X1_buildFromStock (l : Launch) (g : a_G) (F : Nat) {h : List va_E} {i : Nat} {z : d_Z} (hz : d_roof h i z) {out : d_Z} (hf : f_X1_buildFromStock F z = some out) : a_CT l g yX1_buildFromStock cX1_buildFromStock 3 none (a_rm 3 64) [.ref i] h none none (fun r h' => r = none ∧ d_roof h' i out ∧ d_frm i 6 h h') := by
  refine a_enter ⟨by decide, rfl, Nat.le_of_ble_eq_true rfl⟩ (fun p e s m args below meth c hr hin => ?_)
  unfold f_X1_buildFromStock at hf
  have hfr : d_frm i 6 h h := d_frm.rf
  refine a_sub (ls' := [(0, .ref i)]) [0] rfl ?_
  refine a_aload_n (pc' := 1) 0 dX1_buildFromStock_0 rfl rfl rfl ?_
  refine g_X1_46 (pc' := 4) hz.1 rfl dX1_buildFromStock_1 rfl ?_
  refine a_istore_n (pc' := 5) (ls' := [(1, .int (z 2)), (0, .ref i)]) dX1_buildFromStock_4 rfl (by decide) rfl rfl ?_
  obtain ⟨o1, e2, hf⟩ := Option.bind_eq_some_iff.mp hf
  refine a_sub [1, 0] rfl ?_
  refine l_X1_buildFromStock_L5 F   F _ _ o1 e2 (fun w3 he9 h4 hz hfr => ?_) (fun w5 he9 h6 hz hfr => ?_) _ hz hfr
  · subst he9
    simp only [Sum.elim_inl, Sum.elim_inr] at hf
    cases hf
    exact a_vret hr ⟨rfl, hz, hfr⟩ dX1_buildFromStock_56
  · subst he9
    simp only [Sum.elim_inl, Sum.elim_inr] at hf
    refine a_goto 56 dX1_buildFromStock_28 (by decide) ?_
    cases hf
    exact a_vret hr ⟨rfl, hz, hfr⟩ dX1_buildFromStock_56
/-! SlateRoof.reach(I)I -/
set_option maxRecDepth 100000 in
def f_X3_reach (F : Nat) (q : d_C) (a1 : Int32) : Option ((Nat × d_C) ⊕ (Int32 × d_C)) := (f_X3_isWithin F a1 ((0 : Int32)) ((3 : Int32))).bind fun x2 => (if x2 = 0 then some (.inl (0, q)) else (f_X1_copyFrom F q).bind fun x5 => f_let x5 fun q7 => (f_X1_buildFromStock F q7.2.1).bind fun x9 => f_let (q7.1, x9, q7.2.2) fun q11 => (if a1 = (0 : Int32) then some (.inr (((q11.2.1 2) - (q11.1 2), q11))) else (if a1 = (1 : Int32) then (f_X1_topOf F q11.2.1 ((q11.2.1 2) - ((1 : Int32)))).bind fun x15 => some (.inr ((x15, q11))) else (if a1 = (2 : Int32) then (f_X3_sumOf F 25 (fun k => q11.2.1 (214 + k))).bind fun x18 => some (.inr ((x18, q11))) else ((if ((q11.2.1 2) - (q11.1 2)) = 0 then some (.inr (((-1 : Int32), q11))) else (f_X1_longestNext F q11.2.1).bind fun x21 => some (.inr ((x21, q11)))))))))
set_option maxHeartbeats 4000000 in
set_option maxRecDepth 100000 in
theorem c_X3_reach (l : Launch) (g : a_G) (F : Nat) {h : List va_E} {q : d_C} {a1 : Int32} (hz : d_cls h q) {out : Int32 × d_C} (hf : f_X3_reach F q a1 = some (.inr out)) : a_CT l g yX3_reach cX3_reach 3 (some .int) (a_rm 6 86) [.ref 0, .int a1] h none none (fun r h' => r = some (.int out.1) ∧ d_cls h' out.2 ∧ d_frm 0 55 h h') := by
  refine a_enter ⟨by decide, rfl, Nat.le_of_ble_eq_true rfl⟩ (fun p e s m args below meth c hr hin => ?_)
  unfold f_X3_reach at hf
  have hfr : d_frm 0 55 h h := d_frm.rf
  refine a_sub (ls' := [(0, .ref 0), (1, .int a1)]) [0, 1] rfl ?_
  refine a_iload_n (pc' := 1) 1 dX3_reach_0 rfl rfl rfl ?_
  refine a_iconst (pc' := 2) (v := (0 : Int32)) dX3_reach_1 rfl (by decide) ?_
  refine a_iconst (pc' := 3) (v := (3 : Int32)) dX3_reach_2 rfl (by decide) ?_
  obtain ⟨x2, e1, hf⟩ := Option.bind_eq_some_iff.mp hf
  refine k_X3_33 (pc' := 6) (c_X3_isWithin l g F e1) ⟨Nat.le_of_ble_eq_true rfl, Nat.le_of_ble_eq_true rfl⟩ (Nat.le_of_ble_eq_true rfl) dX3_reach_3 rfl ?_
  refine a_if_ne (pc' := 9) 20 dX3_reach_6 (by decide) rfl (fun k3 => ?_) (fun k3 => ?_)
  · replace hf := (if_neg k3).symm.trans hf
    refine a_aload_n (pc' := 21) 0 dX3_reach_20 rfl rfl rfl ?_
    refine g_X3_16 (pc' := 24) hz.1 rfl dX3_reach_21 rfl ?_
    refine a_aload_n (pc' := 25) 0 dX3_reach_24 rfl rfl rfl ?_
    refine g_X3_10 (pc' := 28) hz.1 rfl dX3_reach_25 rfl ?_
    obtain ⟨x5, e4, hf⟩ := Option.bind_eq_some_iff.mp hf
    refine k_X3_293 (pc' := 31) (c_X1_copyFrom l g F hz e4) ⟨Nat.le_of_ble_eq_true rfl, Nat.le_of_ble_eq_true rfl⟩ hz.2.2.1.1 (Nat.le_of_ble_eq_true rfl) dX3_reach_28 rfl (fun h6 hq => ?_)
    obtain ⟨hz1, hfr1⟩ := hq
    obtain ⟨q7, hf, hz⟩ := f_let_x (P := fun w => d_cls h6 w) hf hz1
    replace hfr := d_frm.tr hfr hfr1 (by omega)
    refine a_aload_n (pc' := 32) 0 dX3_reach_31 rfl rfl rfl ?_
    refine g_X3_16 (pc' := 35) hz.1 rfl dX3_reach_32 rfl ?_
    obtain ⟨x9, e8, hf⟩ := Option.bind_eq_some_iff.mp hf
    refine k_X3_296 (pc' := 38) (c_X1_buildFromStock l g F hz.2.2.1 e8) ⟨Nat.le_of_ble_eq_true rfl, Nat.le_of_ble_eq_true rfl⟩ hz.2.2.1.1 (Nat.le_of_ble_eq_true rfl) dX3_reach_35 rfl (fun h10 hq => ?_)
    obtain ⟨hz1, hfr1⟩ := hq
    have hz2 := d_c_trial hz hz1 hfr1
    obtain ⟨q11, hf, hz⟩ := f_let_x (P := fun w => d_cls h10 w) hf hz2
    replace hfr := d_frm.tr hfr hfr1 (by omega)
    refine a_aload_n (pc' := 39) 0 dX3_reach_38 rfl rfl rfl ?_
    refine g_X3_16 (pc' := 42) hz.1 rfl dX3_reach_39 rfl ?_
    refine g_X3_56 (pc' := 45) hz.2.2.1.1 rfl dX3_reach_42 rfl ?_
    refine a_aload_n (pc' := 46) 0 dX3_reach_45 rfl rfl rfl ?_
    refine g_X3_10 (pc' := 49) hz.1 rfl dX3_reach_46 rfl ?_
    refine g_X3_56 (pc' := 52) hz.2.1.1 rfl dX3_reach_49 rfl ?_
    refine a_isub (pc' := 53) dX3_reach_52 rfl ?_
    refine a_istore_n (pc' := 54) (ls' := [(2, .int ((q11.2.1 2) - (q11.1 2))), (0, .ref 0), (1, .int a1)]) dX3_reach_53 rfl (by decide) rfl rfl ?_
    refine a_iload_n (pc' := 55) 2 dX3_reach_54 rfl rfl rfl ?_
    by_cases k12 : a1 = (0 : Int32)
    · replace hf := (if_pos k12).symm.trans hf
      refine b_top k12 ?_
      refine a_tableIn (off := 25) 80 dX3_reach_55 (by decide) (by decide) rfl (by decide) ?_
      refine a_iload_n (pc' := 81) 0 dX3_reach_80 rfl rfl rfl ?_
      cases hf
      exact a_iret hr ⟨rfl, hz, hfr⟩ dX3_reach_81
    · replace hf := (if_neg k12).symm.trans hf
      by_cases k13 : a1 = (1 : Int32)
      · replace hf := (if_pos k13).symm.trans hf
        refine b_top k13 ?_
        refine a_tableIn (off := 27) 82 dX3_reach_55 (by decide) (by decide) rfl (by decide) ?_
        refine a_aload_n (pc' := 83) 1 dX3_reach_82 rfl rfl rfl ?_
        refine g_X3_16 (pc' := 86) hz.1 rfl dX3_reach_83 rfl ?_
        refine a_aload_n (pc' := 87) 1 dX3_reach_86 rfl rfl rfl ?_
        refine g_X3_16 (pc' := 90) hz.1 rfl dX3_reach_87 rfl ?_
        refine g_X3_56 (pc' := 93) hz.2.2.1.1 rfl dX3_reach_90 rfl ?_
        refine a_iconst (pc' := 94) (v := (1 : Int32)) dX3_reach_93 rfl (by decide) ?_
        refine a_isub (pc' := 95) dX3_reach_94 rfl ?_
        obtain ⟨x15, e14, hf⟩ := Option.bind_eq_some_iff.mp hf
        refine k_X3_260 (pc' := 98) (c_X1_topOf l g F hz.2.2.1 e14) ⟨Nat.le_of_ble_eq_true rfl, Nat.le_of_ble_eq_true rfl⟩ hz.2.2.1.1 (Nat.le_of_ble_eq_true rfl) dX3_reach_95 rfl ?_
        cases hf
        exact a_iret hr ⟨rfl, hz, hfr⟩ dX3_reach_98
      · replace hf := (if_neg k13).symm.trans hf
        by_cases k16 : a1 = (2 : Int32)
        · replace hf := (if_pos k16).symm.trans hf
          refine b_top k16 ?_
          refine a_tableIn (off := 44) 99 dX3_reach_55 (by decide) (by decide) rfl (by decide) ?_
          refine a_aload_n (pc' := 100) 1 dX3_reach_99 rfl rfl rfl ?_
          refine g_X3_16 (pc' := 103) hz.1 rfl dX3_reach_100 rfl ?_
          refine g_X3_117 (pc' := 106) hz.2.2.1.1 rfl dX3_reach_103 rfl ?_
          obtain ⟨x18, e17, hf⟩ := Option.bind_eq_some_iff.mp hf
          refine k_X3_100 (pc' := 109) (c_X3_sumOf l g F hz.2.2.1.2.2.2.1 e17) ⟨Nat.le_of_ble_eq_true rfl, Nat.le_of_ble_eq_true rfl⟩ (Nat.le_of_ble_eq_true rfl) dX3_reach_106 rfl ?_
          cases hf
          exact a_iret hr ⟨rfl, hz, hfr⟩ dX3_reach_109
        · replace hf := (if_neg k16).symm.trans hf
          refine a_tableOut 110 dX3_reach_55 (b_tout3_0 k12 k13 k16) (by decide) ?_
          refine a_iload_n (pc' := 111) 0 dX3_reach_110 rfl rfl rfl ?_
          refine a_if_ne (pc' := 114) 118 dX3_reach_111 (by decide) rfl (fun k19 => ?_) (fun k19 => ?_)
          · replace hf := (if_neg k19).symm.trans hf
            refine a_aload_n (pc' := 119) 1 dX3_reach_118 rfl rfl rfl ?_
            refine g_X3_16 (pc' := 122) hz.1 rfl dX3_reach_119 rfl ?_
            obtain ⟨x21, e20, hf⟩ := Option.bind_eq_some_iff.mp hf
            refine k_X3_148 (pc' := 125) (c_X1_longestNext l g F hz.2.2.1 e20) ⟨Nat.le_of_ble_eq_true rfl, Nat.le_of_ble_eq_true rfl⟩ hz.2.2.1.1 (Nat.le_of_ble_eq_true rfl) dX3_reach_122 rfl ?_
            cases hf
            exact a_iret hr ⟨rfl, hz, hfr⟩ dX3_reach_125
          · replace hf := (if_pos k19).symm.trans hf
            refine a_iconst (pc' := 115) (v := (-1 : Int32)) dX3_reach_114 rfl (by decide) ?_
            refine a_goto 125 dX3_reach_115 (by decide) ?_
            cases hf
            exact a_iret hr ⟨rfl, hz, hfr⟩ dX3_reach_125
  · replace hf := (if_pos k3).symm.trans hf
    cases hf
set_option maxHeartbeats 4000000 in
set_option maxRecDepth 100000 in
theorem c_X3_reach_X (l : Launch) (g : a_G) (F : Nat) (hflags : l.stackTraces = false) {h : List va_E} {q : d_C} {a1 : Int32} (hz : d_cls h q) {out : (Nat × d_C) ⊕ (Int32 × d_C)} (hf : f_X3_reach F q a1 = some out) : a_CX l g yX3_reach cX3_reach 3 (some .int) (a_rx 6 86) [.ref 0, .int a1] h (fun r h' => ∃ w, out = .inr w ∧ r = some (.int w.1) ∧ d_cls h' w.2 ∧ d_frm 0 55 h h') (fun E h' => ∃ k, out = .inl k ∧ E = f_xn k.1 ∧ d_cls h' k.2 ∧ d_frm 0 55 h h') := by
  refine a_enterX ⟨by decide, rfl, Nat.le_of_ble_eq_true rfl⟩ (fun p e s m args below meth c hr hnx => ?_)
  unfold f_X3_reach at hf
  have hfr : d_frm 0 55 h h := d_frm.rf
  refine a_sub (ls' := [(0, .ref 0), (1, .int a1)]) [0, 1] rfl ?_
  refine a_iload_n (pc' := 1) 1 dX3_reach_0 rfl rfl rfl ?_
  refine a_iconst (pc' := 2) (v := (0 : Int32)) dX3_reach_1 rfl (by decide) ?_
  refine a_iconst (pc' := 3) (v := (3 : Int32)) dX3_reach_2 rfl (by decide) ?_
  obtain ⟨x2, e1, hf⟩ := Option.bind_eq_some_iff.mp hf
  refine k_X3_33 (pc' := 6) (c_X3_isWithin l g F e1) ⟨Nat.le_of_ble_eq_true rfl, Nat.le_of_ble_eq_true rfl⟩ (Nat.le_of_ble_eq_true rfl) dX3_reach_3 rfl ?_
  refine a_if_ne (pc' := 9) 20 dX3_reach_6 (by decide) rfl (fun k3 => ?_) (fun k3 => ?_)
  · replace hf := (if_neg k3).symm.trans hf
    refine a_aload_n (pc' := 21) 0 dX3_reach_20 rfl rfl rfl ?_
    refine g_X3_16 (pc' := 24) hz.1 rfl dX3_reach_21 rfl ?_
    refine a_aload_n (pc' := 25) 0 dX3_reach_24 rfl rfl rfl ?_
    refine g_X3_10 (pc' := 28) hz.1 rfl dX3_reach_25 rfl ?_
    obtain ⟨x5, e4, hf⟩ := Option.bind_eq_some_iff.mp hf
    refine k_X3_293 (pc' := 31) (c_X1_copyFrom l g F hz e4) ⟨Nat.le_of_ble_eq_true rfl, Nat.le_of_ble_eq_true rfl⟩ hz.2.2.1.1 (Nat.le_of_ble_eq_true rfl) dX3_reach_28 rfl (fun h6 hq => ?_)
    obtain ⟨hz1, hfr1⟩ := hq
    obtain ⟨q7, hf, hz⟩ := f_let_x (P := fun w => d_cls h6 w) hf hz1
    replace hfr := d_frm.tr hfr hfr1 (by omega)
    refine a_aload_n (pc' := 32) 0 dX3_reach_31 rfl rfl rfl ?_
    refine g_X3_16 (pc' := 35) hz.1 rfl dX3_reach_32 rfl ?_
    obtain ⟨x9, e8, hf⟩ := Option.bind_eq_some_iff.mp hf
    refine k_X3_296 (pc' := 38) (c_X1_buildFromStock l g F hz.2.2.1 e8) ⟨Nat.le_of_ble_eq_true rfl, Nat.le_of_ble_eq_true rfl⟩ hz.2.2.1.1 (Nat.le_of_ble_eq_true rfl) dX3_reach_35 rfl (fun h10 hq => ?_)
    obtain ⟨hz1, hfr1⟩ := hq
    have hz2 := d_c_trial hz hz1 hfr1
    obtain ⟨q11, hf, hz⟩ := f_let_x (P := fun w => d_cls h10 w) hf hz2
    replace hfr := d_frm.tr hfr hfr1 (by omega)
    refine a_aload_n (pc' := 39) 0 dX3_reach_38 rfl rfl rfl ?_
    refine g_X3_16 (pc' := 42) hz.1 rfl dX3_reach_39 rfl ?_
    refine g_X3_56 (pc' := 45) hz.2.2.1.1 rfl dX3_reach_42 rfl ?_
    refine a_aload_n (pc' := 46) 0 dX3_reach_45 rfl rfl rfl ?_
    refine g_X3_10 (pc' := 49) hz.1 rfl dX3_reach_46 rfl ?_
    refine g_X3_56 (pc' := 52) hz.2.1.1 rfl dX3_reach_49 rfl ?_
    refine a_isub (pc' := 53) dX3_reach_52 rfl ?_
    refine a_istore_n (pc' := 54) (ls' := [(2, .int ((q11.2.1 2) - (q11.1 2))), (0, .ref 0), (1, .int a1)]) dX3_reach_53 rfl (by decide) rfl rfl ?_
    refine a_iload_n (pc' := 55) 2 dX3_reach_54 rfl rfl rfl ?_
    by_cases k12 : a1 = (0 : Int32)
    · replace hf := (if_pos k12).symm.trans hf
      refine b_top k12 ?_
      refine a_tableIn (off := 25) 80 dX3_reach_55 (by decide) (by decide) rfl (by decide) ?_
      refine a_iload_n (pc' := 81) 0 dX3_reach_80 rfl rfl rfl ?_
      cases hf
      refine a_widen (k := 1) (n := 6) (by decide) (by decide) ?_
      exact a_iretX hr ⟨_, rfl, rfl, hz, hfr⟩ dX3_reach_81
    · replace hf := (if_neg k12).symm.trans hf
      by_cases k13 : a1 = (1 : Int32)
      · replace hf := (if_pos k13).symm.trans hf
        refine b_top k13 ?_
        refine a_tableIn (off := 27) 82 dX3_reach_55 (by decide) (by decide) rfl (by decide) ?_
        refine a_aload_n (pc' := 83) 1 dX3_reach_82 rfl rfl rfl ?_
        refine g_X3_16 (pc' := 86) hz.1 rfl dX3_reach_83 rfl ?_
        refine a_aload_n (pc' := 87) 1 dX3_reach_86 rfl rfl rfl ?_
        refine g_X3_16 (pc' := 90) hz.1 rfl dX3_reach_87 rfl ?_
        refine g_X3_56 (pc' := 93) hz.2.2.1.1 rfl dX3_reach_90 rfl ?_
        refine a_iconst (pc' := 94) (v := (1 : Int32)) dX3_reach_93 rfl (by decide) ?_
        refine a_isub (pc' := 95) dX3_reach_94 rfl ?_
        obtain ⟨x15, e14, hf⟩ := Option.bind_eq_some_iff.mp hf
        refine k_X3_260 (pc' := 98) (c_X1_topOf l g F hz.2.2.1 e14) ⟨Nat.le_of_ble_eq_true rfl, Nat.le_of_ble_eq_true rfl⟩ hz.2.2.1.1 (Nat.le_of_ble_eq_true rfl) dX3_reach_95 rfl ?_
        cases hf
        refine a_widen (k := 1) (n := 6) (by decide) (by decide) ?_
        exact a_iretX hr ⟨_, rfl, rfl, hz, hfr⟩ dX3_reach_98
      · replace hf := (if_neg k13).symm.trans hf
        by_cases k16 : a1 = (2 : Int32)
        · replace hf := (if_pos k16).symm.trans hf
          refine b_top k16 ?_
          refine a_tableIn (off := 44) 99 dX3_reach_55 (by decide) (by decide) rfl (by decide) ?_
          refine a_aload_n (pc' := 100) 1 dX3_reach_99 rfl rfl rfl ?_
          refine g_X3_16 (pc' := 103) hz.1 rfl dX3_reach_100 rfl ?_
          refine g_X3_117 (pc' := 106) hz.2.2.1.1 rfl dX3_reach_103 rfl ?_
          obtain ⟨x18, e17, hf⟩ := Option.bind_eq_some_iff.mp hf
          refine k_X3_100 (pc' := 109) (c_X3_sumOf l g F hz.2.2.1.2.2.2.1 e17) ⟨Nat.le_of_ble_eq_true rfl, Nat.le_of_ble_eq_true rfl⟩ (Nat.le_of_ble_eq_true rfl) dX3_reach_106 rfl ?_
          cases hf
          refine a_widen (k := 1) (n := 6) (by decide) (by decide) ?_
          exact a_iretX hr ⟨_, rfl, rfl, hz, hfr⟩ dX3_reach_109
        · replace hf := (if_neg k16).symm.trans hf
          refine a_tableOut 110 dX3_reach_55 (b_tout3_0 k12 k13 k16) (by decide) ?_
          refine a_iload_n (pc' := 111) 0 dX3_reach_110 rfl rfl rfl ?_
          refine a_if_ne (pc' := 114) 118 dX3_reach_111 (by decide) rfl (fun k19 => ?_) (fun k19 => ?_)
          · replace hf := (if_neg k19).symm.trans hf
            refine a_aload_n (pc' := 119) 1 dX3_reach_118 rfl rfl rfl ?_
            refine g_X3_16 (pc' := 122) hz.1 rfl dX3_reach_119 rfl ?_
            obtain ⟨x21, e20, hf⟩ := Option.bind_eq_some_iff.mp hf
            refine k_X3_148 (pc' := 125) (c_X1_longestNext l g F hz.2.2.1 e20) ⟨Nat.le_of_ble_eq_true rfl, Nat.le_of_ble_eq_true rfl⟩ hz.2.2.1.1 (Nat.le_of_ble_eq_true rfl) dX3_reach_122 rfl ?_
            cases hf
            refine a_widen (k := 1) (n := 6) (by decide) (by decide) ?_
            exact a_iretX hr ⟨_, rfl, rfl, hz, hfr⟩ dX3_reach_125
          · replace hf := (if_pos k19).symm.trans hf
            refine a_iconst (pc' := 115) (v := (-1 : Int32)) dX3_reach_114 rfl (by decide) ?_
            refine a_goto 125 dX3_reach_115 (by decide) ?_
            cases hf
            refine a_widen (k := 1) (n := 6) (by decide) (by decide) ?_
            exact a_iretX hr ⟨_, rfl, rfl, hz, hfr⟩ dX3_reach_125
  · replace hf := (if_pos k3).symm.trans hf
    cases hf
    exact a_throwW hflags (by decide) (by decide +kernel) (a_in2 136 rfl rfl) (a_in1 9 rfl rfl) rfl (show (274, "what is out of range") ∈ a_strs by decide) xt41_1 xt41_2 (xt41_3 _ _ rfl) hnx dX3_reach_9 dX3_reach_12 dX3_reach_13 dX3_reach_16 dX3_reach_19 (by decide) (by decide) (by decide) (by decide) (by decide) (by decide) ⟨_, rfl, rfl, hz, hfr⟩
/-! SlateRoof.dryDays()I -/
set_option maxRecDepth 100000 in
def f_X3_dryDays_L33 (F : Nat)  : Nat → Int32 → d_C → Option ((Int32 × d_C) ⊕ ((Int32 × d_C) ⊕ (Int32 × d_C)))
  | 0, _, _ => none
  | n + 1, v1_33, q_33 => (if ((200 : Int32)) < v1_33 then some (.inl (v1_33, q_33)) else (f_X1_passDay F q_33.2.1 ((0 : Int32))).bind fun x34003 => f_let (q_33.1, x34003.2, q_33.2.2) fun q34005 => (f_X1_slateForTheDay F q34005.2.1).bind fun x34007 => f_let (q34005.1, x34007.2, q34005.2.2) fun q34009 => (f_X1_isDone F q34009.2.1).bind fun x34011 => (if x34011 = 0 then (if x34007.1 = 0 then (f_X1_canBeSlated F q34009.2.1).bind fun x34015 => (if x34015 = 0 then f_X3_dryDays_L33 F  n (v1_33 + (1 : Int32)) q34009 else some (.inr (.inl (v1_33, q34009)))) else f_X3_dryDays_L33 F  n (v1_33 + (1 : Int32)) q34009) else some (.inr (.inr ((v1_33, q34009))))))
set_option maxRecDepth 100000 in
def f_X3_dryDays (F : Nat) (q : d_C) : Option (Int32 × d_C) := (f_X1_isDone F q.1).bind fun x2 => (if x2 = 0 then (f_X1_copyFrom F q).bind fun x5 => f_let x5 fun q7 => f_let (q7.1, upd q7.2.1 9 ((0 : Int32)), q7.2.2) fun q9 => (f_X3_dryDays_L33 F F ((1 : Int32)) q9).bind (fun w9 => Sum.elim (fun w12 => some (((-1 : Int32), w12.2))) (fun w9 => Sum.elim (fun w14 => some (((-1 : Int32), w14.2))) (fun w16 => some ((w16.1, w16.2))) w9) w9) else some (((0 : Int32), q)))
set_option maxHeartbeats 4000000 in
set_option maxRecDepth 100000 in
theorem l_X3_dryDays_L33 {p : Program} {l : Launch} {e : Env} {s : State} {m : MethodId} {args : Array Value} {below : List Frame} {meth : Method} {c : Code} {Q : State → Prop} {g : a_G} (F : Nat) {h : List va_E}  : ∀ (n : Nat) (v1_33 : Int32) (q_33 : d_C) (o : (Int32 × d_C) ⊕ ((Int32 × d_C) ⊕ (Int32 × d_C))), f_X3_dryDays_L33 F  n v1_33 q_33 = some o → (∀ e9 : Int32 × d_C, o = .inl e9 → ∀ h1, d_cls h1 e9.2 → d_frm 0 55 h h1 → a_W p l e (a_rm 5 111) s m args below meth c Q RX3 cX3_dryDays 3 g 0 0 none 91 [] [] h1) → (∀ e9 : Int32 × d_C, o = .inr (.inl e9) → ∀ h1, d_cls h1 e9.2 → d_frm 0 55 h h1 → a_W p l e (a_rm 5 111) s m args below meth c Q RX3 cX3_dryDays 3 g 0 0 none 83 [] [] h1) → (∀ e9 : Int32 × d_C, o = .inr (.inr (e9)) → ∀ h1, d_cls h1 e9.2 → d_frm 0 55 h h1 → a_W p l e (a_rm 5 111) s m args below meth c Q RX3 cX3_dryDays 3 g 0 0 none 67 [(1, .int e9.1)] [] h1) → ∀ h1, d_cls h1 q_33 → d_frm 0 55 h h1 → a_W p l e (a_rm 5 111) s m args below meth c Q RX3 cX3_dryDays 3 g 0 0 none 33 [(0, .ref 0), (1, .int v1_33)] [] h1 := by
  intro n
  induction n with
  | zero => intro v1_33 q_33 o hf; exact nomatch (show (none : Option ((Int32 × d_C) ⊕ ((Int32 × d_C) ⊕ (Int32 × d_C)))) = some o from hf)
  | succ n ih =>
    intro v1_33 q_33 o hf hX0 hX1 hX2 h1 hz hfr
    rw [f_X3_dryDays_L33] at hf
    refine a_iload_n (pc' := 34) 1 dX3_dryDays_33 rfl rfl rfl ?_
    refine a_sipush (pc' := 37) (v := (200 : Int32)) dX3_dryDays_34 rfl (by decide) ?_
    refine a_icmp_gt (pc' := 40) 91 dX3_dryDays_37 (by decide) rfl (fun k34001 => ?_) (fun k34001 => ?_)
    · replace hf := (if_pos k34001).symm.trans hf
      cases hf
      refine a_sub [] rfl ?_
      exact hX0 _ rfl _ hz hfr
    · replace hf := (if_neg k34001).symm.trans hf
      refine a_aload_n (pc' := 41) 0 dX3_dryDays_40 rfl rfl rfl ?_
      refine g_X3_16 (pc' := 44) hz.1 rfl dX3_dryDays_41 rfl ?_
      refine a_iconst (pc' := 45) (v := (0 : Int32)) dX3_dryDays_44 rfl (by decide) ?_
      obtain ⟨x34003, e34002, hf⟩ := Option.bind_eq_some_iff.mp hf
      refine k_X3_199 (pc' := 48) (c_X1_passDay l g F hz.2.2.1 e34002) ⟨Nat.le_of_ble_eq_true rfl, Nat.le_of_ble_eq_true rfl⟩ hz.2.2.1.1 (Nat.le_of_ble_eq_true rfl) dX3_dryDays_45 rfl (fun h34004 hq => ?_)
      obtain ⟨hz1, hfr1⟩ := hq
      have hz2 := d_c_trial hz hz1 hfr1
      obtain ⟨q34005, hf, hz⟩ := f_let_x (P := fun w => d_cls h34004 w) hf hz2
      replace hfr := d_frm.tr hfr hfr1 (by omega)
      refine a_pop (pc' := 49) dX3_dryDays_48 rfl rfl ?_
      refine a_aload_n (pc' := 50) 0 dX3_dryDays_49 rfl rfl rfl ?_
      refine g_X3_16 (pc' := 53) hz.1 rfl dX3_dryDays_50 rfl ?_
      obtain ⟨x34007, e34006, hf⟩ := Option.bind_eq_some_iff.mp hf
      refine k_X3_235 (pc' := 56) (c_X1_slateForTheDay l g F hz.2.2.1 e34006) ⟨Nat.le_of_ble_eq_true rfl, Nat.le_of_ble_eq_true rfl⟩ hz.2.2.1.1 (Nat.le_of_ble_eq_true rfl) dX3_dryDays_53 rfl (fun h34008 hq => ?_)
      obtain ⟨hz1, hfr1⟩ := hq
      have hz2 := d_c_trial hz hz1 hfr1
      obtain ⟨q34009, hf, hz⟩ := f_let_x (P := fun w => d_cls h34008 w) hf hz2
      replace hfr := d_frm.tr hfr hfr1 (by omega)
      refine a_istore_n (pc' := 57) (ls' := [(2, .int x34007.1), (0, .ref 0), (1, .int v1_33)]) dX3_dryDays_56 rfl (by decide) rfl rfl ?_
      refine a_aload_n (pc' := 58) 1 dX3_dryDays_57 rfl rfl rfl ?_
      refine g_X3_16 (pc' := 61) hz.1 rfl dX3_dryDays_58 rfl ?_
      obtain ⟨x34011, e34010, hf⟩ := Option.bind_eq_some_iff.mp hf
      refine k_X3_279 (pc' := 64) (c_X1_isDone l g F hz.2.2.1 e34010) ⟨Nat.le_of_ble_eq_true rfl, Nat.le_of_ble_eq_true rfl⟩ hz.2.2.1.1 (Nat.le_of_ble_eq_true rfl) dX3_dryDays_61 rfl ?_
      refine a_if_eq (pc' := 67) 69 dX3_dryDays_64 (by decide) rfl (fun k34012 => ?_) (fun k34012 => ?_)
      · replace hf := (if_pos k34012).symm.trans hf
        refine a_iload_n (pc' := 70) 0 dX3_dryDays_69 rfl rfl rfl ?_
        refine a_if_ne (pc' := 73) 85 dX3_dryDays_70 (by decide) rfl (fun k34013 => ?_) (fun k34013 => ?_)
        · replace hf := (if_neg k34013).symm.trans hf
          refine a_iinc (pc' := 88) (v := v1_33 + (1 : Int32)) (ls' := [(1, .int (v1_33 + (1 : Int32))), (2, .int x34007.1), (0, .ref 0)]) 2 dX3_dryDays_85 rfl (by rfl) (by decide) rfl rfl ?_
          refine a_goto 33 dX3_dryDays_88 (by decide) ?_
          refine a_sub [2, 0] rfl ?_
          exact ih _ _ _ hf hX0 hX1 hX2 _ hz hfr
        · replace hf := (if_pos k34013).symm.trans hf
          refine a_aload_n (pc' := 74) 1 dX3_dryDays_73 rfl rfl rfl ?_
          refine g_X3_16 (pc' := 77) hz.1 rfl dX3_dryDays_74 rfl ?_
          obtain ⟨x34015, e34014, hf⟩ := Option.bind_eq_some_iff.mp hf
          refine k_X3_141 (pc' := 80) (c_X1_canBeSlated l g F hz.2.2.1 e34014) ⟨Nat.le_of_ble_eq_true rfl, Nat.le_of_ble_eq_true rfl⟩ hz.2.2.1.1 (Nat.le_of_ble_eq_true rfl) dX3_dryDays_77 rfl ?_
          refine a_if_eq (pc' := 83) 85 dX3_dryDays_80 (by decide) rfl (fun k34016 => ?_) (fun k34016 => ?_)
          · replace hf := (if_pos k34016).symm.trans hf
            refine a_iinc (pc' := 88) (v := v1_33 + (1 : Int32)) (ls' := [(1, .int (v1_33 + (1 : Int32))), (2, .int x34007.1), (0, .ref 0)]) 2 dX3_dryDays_85 rfl (by rfl) (by decide) rfl rfl ?_
            refine a_goto 33 dX3_dryDays_88 (by decide) ?_
            refine a_sub [2, 0] rfl ?_
            exact ih _ _ _ hf hX0 hX1 hX2 _ hz hfr
          · replace hf := (if_neg k34016).symm.trans hf
            cases hf
            refine a_sub [] rfl ?_
            exact hX1 _ rfl _ hz hfr
      · replace hf := (if_neg k34012).symm.trans hf
        cases hf
        refine a_sub [2] rfl ?_
        exact hX2 _ rfl _ hz hfr
set_option maxHeartbeats 4000000 in
set_option maxRecDepth 100000 in
theorem c_X3_dryDays (l : Launch) (g : a_G) (F : Nat) {h : List va_E} {q : d_C} (hz : d_cls h q) {out : Int32 × d_C} (hf : f_X3_dryDays F q = some out) : a_CT l g yX3_dryDays cX3_dryDays 3 (some .int) (a_rm 5 111) [.ref 0] h none none (fun r h' => r = some (.int out.1) ∧ d_cls h' out.2 ∧ d_frm 0 55 h h') := by
  refine a_enter ⟨by decide, rfl, Nat.le_of_ble_eq_true rfl⟩ (fun p e s m args below meth c hr hin => ?_)
  unfold f_X3_dryDays at hf
  have hfr : d_frm 0 55 h h := d_frm.rf
  refine a_sub (ls' := [(0, .ref 0)]) [0] rfl ?_
  refine a_aload_n (pc' := 1) 0 dX3_dryDays_0 rfl rfl rfl ?_
  refine g_X3_10 (pc' := 4) hz.1 rfl dX3_dryDays_1 rfl ?_
  obtain ⟨x2, e1, hf⟩ := Option.bind_eq_some_iff.mp hf
  refine k_X3_279 (pc' := 7) (c_X1_isDone l g F hz.2.1 e1) ⟨Nat.le_of_ble_eq_true rfl, Nat.le_of_ble_eq_true rfl⟩ hz.2.1.1 (Nat.le_of_ble_eq_true rfl) dX3_dryDays_4 rfl ?_
  refine a_if_eq (pc' := 10) 12 dX3_dryDays_7 (by decide) rfl (fun k3 => ?_) (fun k3 => ?_)
  · replace hf := (if_pos k3).symm.trans hf
    refine a_aload_n (pc' := 13) 0 dX3_dryDays_12 rfl rfl rfl ?_
    refine g_X3_16 (pc' := 16) hz.1 rfl dX3_dryDays_13 rfl ?_
    refine a_aload_n (pc' := 17) 0 dX3_dryDays_16 rfl rfl rfl ?_
    refine g_X3_10 (pc' := 20) hz.1 rfl dX3_dryDays_17 rfl ?_
    obtain ⟨x5, e4, hf⟩ := Option.bind_eq_some_iff.mp hf
    refine k_X3_293 (pc' := 23) (c_X1_copyFrom l g F hz e4) ⟨Nat.le_of_ble_eq_true rfl, Nat.le_of_ble_eq_true rfl⟩ hz.2.2.1.1 (Nat.le_of_ble_eq_true rfl) dX3_dryDays_20 rfl (fun h6 hq => ?_)
    obtain ⟨hz1, hfr1⟩ := hq
    obtain ⟨q7, hf, hz⟩ := f_let_x (P := fun w => d_cls h6 w) hf hz1
    replace hfr := d_frm.tr hfr hfr1 (by omega)
    refine a_aload_n (pc' := 24) 0 dX3_dryDays_23 rfl rfl rfl ?_
    refine g_X3_16 (pc' := 27) hz.1 rfl dX3_dryDays_24 rfl ?_
    refine a_iconst (pc' := 28) (v := (0 : Int32)) dX3_dryDays_27 rfl (by decide) ?_
    refine pt_X3_188 (pc' := 31) (z := q7.2.1) hz.2.2.1 (by decide) dX3_dryDays_28 rfl (fun h8 hz1 hfr1 => ?_)
    have hz2 := d_c_trial hz hz1 hfr1
    obtain ⟨q9, hf, hz⟩ := f_let_x (P := fun w => d_cls h8 w) hf hz2
    replace hfr := d_frm.tr hfr hfr1 (by omega)
    refine a_iconst (pc' := 32) (v := (1 : Int32)) dX3_dryDays_31 rfl (by decide) ?_
    refine a_istore_n (pc' := 33) (ls' := [(1, .int ((1 : Int32))), (0, .ref 0)]) dX3_dryDays_32 rfl (by decide) rfl rfl ?_
    obtain ⟨o10, e11, hf⟩ := Option.bind_eq_some_iff.mp hf
    refine a_sub [1, 0] rfl ?_
    refine l_X3_dryDays_L33 F   F _ _ o10 e11 (fun w12 he9 h13 hz hfr => ?_) (fun w14 he9 h15 hz hfr => ?_) (fun w16 he9 h17 hz hfr => ?_) _ hz hfr
    · subst he9
      simp only [Sum.elim_inl, Sum.elim_inr] at hf
      refine a_iconst (pc' := 92) (v := (-1 : Int32)) dX3_dryDays_91 rfl (by decide) ?_
      cases hf
      exact a_iret hr ⟨rfl, hz, hfr⟩ dX3_dryDays_92
    · subst he9
      simp only [Sum.elim_inl, Sum.elim_inr] at hf
      refine a_iconst (pc' := 84) (v := (-1 : Int32)) dX3_dryDays_83 rfl (by decide) ?_
      cases hf
      exact a_iret hr ⟨rfl, hz, hfr⟩ dX3_dryDays_84
    · subst he9
      simp only [Sum.elim_inl, Sum.elim_inr] at hf
      refine a_iload_n (pc' := 68) 0 dX3_dryDays_67 rfl rfl rfl ?_
      cases hf
      exact a_iret hr ⟨rfl, hz, hfr⟩ dX3_dryDays_68
  · replace hf := (if_neg k3).symm.trans hf
    refine a_iconst (pc' := 11) (v := (0 : Int32)) dX3_dryDays_10 rfl (by decide) ?_
    cases hf
    exact a_iret hr ⟨rfl, hz, hfr⟩ dX3_dryDays_11
/-! SlateRoof.bestLength()I -/
set_option maxRecDepth 100000 in
def f_X3_bestLength_L24 (F : Nat) (q : d_C) : Nat → Int32 → Int32 → Int32 → Option (Int32 × Int32 × Int32)
  | 0, _, _, _ => none
  | n + 1, v1_24, v2_24, v3_24 => (if v3_24 < ((8 : Int32)) then some (v1_24, v2_24, v3_24) else (f_X1_coursesToTop F q.1 v3_24).bind fun x25003 => (f_X1_placesOfNext F q.1 x25003).bind fun x25005 => (f_X3_priceOf F v3_24).bind fun x25007 => (if v1_24 = ((-1 : Int32)) then f_X3_bestLength_L24 F q n v3_24 (x25005 * x25007) (v3_24 + (-1 : Int32)) else (if v2_24 ≤ (x25005 * x25007) then f_X3_bestLength_L24 F q n v1_24 v2_24 (v3_24 + (-1 : Int32)) else f_X3_bestLength_L24 F q n v3_24 (x25005 * x25007) (v3_24 + (-1 : Int32)))))
set_option maxRecDepth 100000 in
def f_X3_bestLength (F : Nat) (q : d_C) : Option (Int32) := (f_X1_isHighEnough F q.1).bind fun x2 => (if x2 = 0 then (f_X1_longestNext F q.1).bind fun x5 => (f_X3_bestLength_L24 F q F ((-1 : Int32)) ((0 : Int32)) x5).bind fun o6 => some (o6.1) else some ((-1 : Int32)))
set_option maxHeartbeats 4000000 in
set_option maxRecDepth 100000 in
theorem l_X3_bestLength_L24 {p : Program} {l : Launch} {e : Env} {s : State} {m : MethodId} {args : Array Value} {below : List Frame} {meth : Method} {c : Code} {Q : State → Prop} {g : a_G} (F : Nat) {h : List va_E} (q : d_C) (hz : d_cls h q) : ∀ (n : Nat) (v1_24 : Int32) (v2_24 : Int32) (v3_24 : Int32) (o : Int32 × Int32 × Int32), f_X3_bestLength_L24 F q n v1_24 v2_24 v3_24 = some o → (∀ e9 : Int32 × Int32 × Int32, o = e9 → a_W p l e (a_rm 3 67) s m args below meth c Q RX3 cX3_bestLength 5 g 0 0 none 74 [(1, .int e9.1)] [] h) → a_W p l e (a_rm 3 67) s m args below meth c Q RX3 cX3_bestLength 5 g 0 0 none 24 [(0, .ref 0), (1, .int v1_24), (2, .int v2_24), (3, .int v3_24)] [] h := by
  intro n
  induction n with
  | zero => intro v1_24 v2_24 v3_24 o hf; exact nomatch (show (none : Option (Int32 × Int32 × Int32)) = some o from hf)
  | succ n ih =>
    intro v1_24 v2_24 v3_24 o hf hX0
    rw [f_X3_bestLength_L24] at hf
    refine a_iload_n (pc' := 25) 3 dX3_bestLength_24 rfl rfl rfl ?_
    refine a_bipush (pc' := 27) (v := (8 : Int32)) dX3_bestLength_25 rfl (by decide) ?_
    refine a_icmp_lt (pc' := 30) 74 dX3_bestLength_27 (by decide) rfl (fun k25001 => ?_) (fun k25001 => ?_)
    · replace hf := (if_pos k25001).symm.trans hf
      cases hf
      refine a_sub [1] rfl ?_
      exact hX0 _ rfl
    · replace hf := (if_neg k25001).symm.trans hf
      refine a_aload_n (pc' := 31) 0 dX3_bestLength_30 rfl rfl rfl ?_
      refine g_X3_10 (pc' := 34) hz.1 rfl dX3_bestLength_31 rfl ?_
      refine a_aload_n (pc' := 35) 0 dX3_bestLength_34 rfl rfl rfl ?_
      refine g_X3_10 (pc' := 38) hz.1 rfl dX3_bestLength_35 rfl ?_
      refine a_iload_n (pc' := 39) 3 dX3_bestLength_38 rfl rfl rfl ?_
      obtain ⟨x25003, e25002, hf⟩ := Option.bind_eq_some_iff.mp hf
      refine k_X3_287 (pc' := 42) (c_X1_coursesToTop l g F hz.2.1 e25002) ⟨Nat.le_of_ble_eq_true rfl, Nat.le_of_ble_eq_true rfl⟩ hz.2.1.1 (Nat.le_of_ble_eq_true rfl) dX3_bestLength_39 rfl ?_
      obtain ⟨x25005, e25004, hf⟩ := Option.bind_eq_some_iff.mp hf
      refine k_X3_290 (pc' := 45) (c_X1_placesOfNext l g F hz.2.1 e25004) ⟨Nat.le_of_ble_eq_true rfl, Nat.le_of_ble_eq_true rfl⟩ hz.2.1.1 (Nat.le_of_ble_eq_true rfl) dX3_bestLength_42 rfl ?_
      refine a_iload_n (pc' := 46) 3 dX3_bestLength_45 rfl rfl rfl ?_
      obtain ⟨x25007, e25006, hf⟩ := Option.bind_eq_some_iff.mp hf
      refine k_X3_126 (pc' := 49) (c_X3_priceOf l g F e25006) ⟨Nat.le_of_ble_eq_true rfl, Nat.le_of_ble_eq_true rfl⟩ (Nat.le_of_ble_eq_true rfl) dX3_bestLength_46 rfl ?_
      refine a_imul (pc' := 50) dX3_bestLength_49 rfl ?_
      refine a_istore (pc' := 52) (ls' := [(4, .int (x25005 * x25007)), (0, .ref 0), (1, .int v1_24), (2, .int v2_24), (3, .int v3_24)]) dX3_bestLength_50 (by decide) rfl rfl ?_
      refine a_iload_n (pc' := 53) 2 dX3_bestLength_52 rfl rfl rfl ?_
      refine a_iconst (pc' := 54) (v := (-1 : Int32)) dX3_bestLength_53 rfl (by decide) ?_
      refine a_icmp_eq (pc' := 57) 63 dX3_bestLength_54 (by decide) rfl (fun k25008 => ?_) (fun k25008 => ?_)
      · replace hf := (if_pos k25008).symm.trans hf
        refine a_iload_n (pc' := 64) 4 dX3_bestLength_63 rfl rfl rfl ?_
        refine a_istore_n (pc' := 65) (ls' := [(1, .int v3_24), (4, .int (x25005 * x25007)), (0, .ref 0), (2, .int v2_24), (3, .int v3_24)]) dX3_bestLength_64 rfl (by decide) rfl rfl ?_
        refine a_iload (pc' := 67) 1 dX3_bestLength_65 rfl rfl ?_
        refine a_istore_n (pc' := 68) (ls' := [(2, .int (x25005 * x25007)), (1, .int v3_24), (4, .int (x25005 * x25007)), (0, .ref 0), (3, .int v3_24)]) dX3_bestLength_67 rfl (by decide) rfl rfl ?_
        refine a_iinc (pc' := 71) (v := v3_24 + (-1 : Int32)) (ls' := [(3, .int (v3_24 + (-1 : Int32))), (2, .int (x25005 * x25007)), (1, .int v3_24), (4, .int (x25005 * x25007)), (0, .ref 0)]) 4 dX3_bestLength_68 rfl (by rfl) (by decide) rfl rfl ?_
        refine a_goto 24 dX3_bestLength_71 (by decide) ?_
        refine a_sub [4, 2, 1, 0] rfl ?_
        exact ih _ _ _ _ hf hX0
      · replace hf := (if_neg k25008).symm.trans hf
        refine a_iload (pc' := 59) 0 dX3_bestLength_57 rfl rfl ?_
        refine a_iload_n (pc' := 60) 3 dX3_bestLength_59 rfl rfl rfl ?_
        refine a_icmp_ge (pc' := 63) 68 dX3_bestLength_60 (by decide) rfl (fun k25009 => ?_) (fun k25009 => ?_)
        · replace hf := (if_pos k25009).symm.trans hf
          refine a_iinc (pc' := 71) (v := v3_24 + (-1 : Int32)) (ls' := [(3, .int (v3_24 + (-1 : Int32))), (4, .int (x25005 * x25007)), (0, .ref 0), (1, .int v1_24), (2, .int v2_24)]) 4 dX3_bestLength_68 rfl (by rfl) (by decide) rfl rfl ?_
          refine a_goto 24 dX3_bestLength_71 (by decide) ?_
          refine a_sub [2, 3, 4, 0] rfl ?_
          exact ih _ _ _ _ hf hX0
        · replace hf := (if_neg k25009).symm.trans hf
          refine a_iload_n (pc' := 64) 4 dX3_bestLength_63 rfl rfl rfl ?_
          refine a_istore_n (pc' := 65) (ls' := [(1, .int v3_24), (4, .int (x25005 * x25007)), (0, .ref 0), (2, .int v2_24), (3, .int v3_24)]) dX3_bestLength_64 rfl (by decide) rfl rfl ?_
          refine a_iload (pc' := 67) 1 dX3_bestLength_65 rfl rfl ?_
          refine a_istore_n (pc' := 68) (ls' := [(2, .int (x25005 * x25007)), (1, .int v3_24), (4, .int (x25005 * x25007)), (0, .ref 0), (3, .int v3_24)]) dX3_bestLength_67 rfl (by decide) rfl rfl ?_
          refine a_iinc (pc' := 71) (v := v3_24 + (-1 : Int32)) (ls' := [(3, .int (v3_24 + (-1 : Int32))), (2, .int (x25005 * x25007)), (1, .int v3_24), (4, .int (x25005 * x25007)), (0, .ref 0)]) 4 dX3_bestLength_68 rfl (by rfl) (by decide) rfl rfl ?_
          refine a_goto 24 dX3_bestLength_71 (by decide) ?_
          refine a_sub [4, 2, 1, 0] rfl ?_
          exact ih _ _ _ _ hf hX0
set_option maxHeartbeats 4000000 in
set_option maxRecDepth 100000 in
theorem c_X3_bestLength (l : Launch) (g : a_G) (F : Nat) {h : List va_E} {q : d_C} (hz : d_cls h q) {out : Int32} (hf : f_X3_bestLength F q = some out) : a_CT l g yX3_bestLength cX3_bestLength 5 (some .int) (a_rm 3 67) [.ref 0] h none none (fun r h' => r = some (.int out) ∧ h' = h) := by
  refine a_enter ⟨by decide, rfl, Nat.le_of_ble_eq_true rfl⟩ (fun p e s m args below meth c hr hin => ?_)
  unfold f_X3_bestLength at hf
  refine a_sub (ls' := [(0, .ref 0)]) [0] rfl ?_
  refine a_aload_n (pc' := 1) 0 dX3_bestLength_0 rfl rfl rfl ?_
  refine g_X3_10 (pc' := 4) hz.1 rfl dX3_bestLength_1 rfl ?_
  obtain ⟨x2, e1, hf⟩ := Option.bind_eq_some_iff.mp hf
  refine k_X3_299 (pc' := 7) (c_X1_isHighEnough l g F hz.2.1 e1) ⟨Nat.le_of_ble_eq_true rfl, Nat.le_of_ble_eq_true rfl⟩ hz.2.1.1 (Nat.le_of_ble_eq_true rfl) dX3_bestLength_4 rfl ?_
  refine a_if_eq (pc' := 10) 12 dX3_bestLength_7 (by decide) rfl (fun k3 => ?_) (fun k3 => ?_)
  · replace hf := (if_pos k3).symm.trans hf
    refine a_iconst (pc' := 13) (v := (-1 : Int32)) dX3_bestLength_12 rfl (by decide) ?_
    refine a_istore_n (pc' := 14) (ls' := [(1, .int ((-1 : Int32))), (0, .ref 0)]) dX3_bestLength_13 rfl (by decide) rfl rfl ?_
    refine a_iconst (pc' := 15) (v := (0 : Int32)) dX3_bestLength_14 rfl (by decide) ?_
    refine a_istore_n (pc' := 16) (ls' := [(2, .int ((0 : Int32))), (1, .int ((-1 : Int32))), (0, .ref 0)]) dX3_bestLength_15 rfl (by decide) rfl rfl ?_
    refine a_aload_n (pc' := 17) 2 dX3_bestLength_16 rfl rfl rfl ?_
    refine g_X3_10 (pc' := 20) hz.1 rfl dX3_bestLength_17 rfl ?_
    obtain ⟨x5, e4, hf⟩ := Option.bind_eq_some_iff.mp hf
    refine k_X3_148 (pc' := 23) (c_X1_longestNext l g F hz.2.1 e4) ⟨Nat.le_of_ble_eq_true rfl, Nat.le_of_ble_eq_true rfl⟩ hz.2.1.1 (Nat.le_of_ble_eq_true rfl) dX3_bestLength_20 rfl ?_
    refine a_istore_n (pc' := 24) (ls' := [(3, .int x5), (2, .int ((0 : Int32))), (1, .int ((-1 : Int32))), (0, .ref 0)]) dX3_bestLength_23 rfl (by decide) rfl rfl ?_
    obtain ⟨o6, e7, hf⟩ := Option.bind_eq_some_iff.mp hf
    refine a_sub [3, 2, 1, 0] rfl ?_
    refine l_X3_bestLength_L24 F q hz F _ _ _ o6 e7 (fun e9 he9 => ?_)
    subst he9
    refine a_iload_n (pc' := 75) 0 dX3_bestLength_74 rfl rfl rfl ?_
    cases hf
    exact a_iret hr ⟨rfl, rfl⟩ dX3_bestLength_75
  · replace hf := (if_neg k3).symm.trans hf
    refine a_iconst (pc' := 11) (v := (-1 : Int32)) dX3_bestLength_10 rfl (by decide) ?_
    cases hf
    exact a_iret hr ⟨rfl, rfl⟩ dX3_bestLength_11
/-! SlateRoof.meanPrice()D -/
set_option maxRecDepth 100000 in
def f_X3_meanPrice (F : Nat) (q : d_C) : Option (UInt64) := (f_X1_slatesOnRoof F q.1).bind fun x2 => (if 0 < (x2 + (q.1 12)) then f_if (isNaN64 (FP.ddiv (FP.i2d (q.1 13)) (FP.i2d (x2 + (q.1 12)))) = false) (some (FP.ddiv (FP.i2d (q.1 13)) (FP.i2d (x2 + (q.1 12))))) else some (FP.dconst0))
set_option maxHeartbeats 4000000 in
set_option maxRecDepth 100000 in
theorem c_X3_meanPrice (l : Launch) (g : a_G) (F : Nat) {h : List va_E} {q : d_C} (hz : d_cls h q) {out : UInt64} (hf : f_X3_meanPrice F q = some out) : a_CT l g yX3_meanPrice cX3_meanPrice 2 (some .double) (a_rm 3 64) [.ref 0] h none none (fun r h' => r = some (.double out) ∧ h' = h) := by
  refine a_enter ⟨by decide, rfl, Nat.le_of_ble_eq_true rfl⟩ (fun p e s m args below meth c hr hin => ?_)
  unfold f_X3_meanPrice at hf
  refine a_sub (ls' := [(0, .ref 0)]) [0] rfl ?_
  refine a_aload_n (pc' := 1) 0 dX3_meanPrice_0 rfl rfl rfl ?_
  refine g_X3_10 (pc' := 4) hz.1 rfl dX3_meanPrice_1 rfl ?_
  obtain ⟨x2, e1, hf⟩ := Option.bind_eq_some_iff.mp hf
  refine k_X3_48 (pc' := 7) (c_X1_slatesOnRoof l g F hz.2.1 e1) ⟨Nat.le_of_ble_eq_true rfl, Nat.le_of_ble_eq_true rfl⟩ hz.2.1.1 (Nat.le_of_ble_eq_true rfl) dX3_meanPrice_4 rfl ?_
  refine a_aload_n (pc' := 8) 0 dX3_meanPrice_7 rfl rfl rfl ?_
  refine g_X3_10 (pc' := 11) hz.1 rfl dX3_meanPrice_8 rfl ?_
  refine g_X3_52 (pc' := 14) hz.2.1.1 rfl dX3_meanPrice_11 rfl ?_
  refine a_iadd (pc' := 15) dX3_meanPrice_14 rfl ?_
  refine a_istore_n (pc' := 16) (ls' := [(1, .int (x2 + (q.1 12))), (0, .ref 0)]) dX3_meanPrice_15 rfl (by decide) rfl rfl ?_
  refine a_iload_n (pc' := 17) 0 dX3_meanPrice_16 rfl rfl rfl ?_
  refine a_if_gt (pc' := 20) 22 dX3_meanPrice_17 (by decide) rfl (fun k3 => ?_) (fun k3 => ?_)
  · replace hf := (if_pos k3).symm.trans hf
    refine a_aload_n (pc' := 23) 1 dX3_meanPrice_22 rfl rfl rfl ?_
    refine g_X3_10 (pc' := 26) hz.1 rfl dX3_meanPrice_23 rfl ?_
    refine g_X3_123 (pc' := 29) hz.2.1.1 rfl dX3_meanPrice_26 rfl ?_
    refine a_i2d (pc' := 30) dX3_meanPrice_29 rfl ?_
    refine a_iload_n (pc' := 31) 0 dX3_meanPrice_30 rfl rfl rfl ?_
    refine a_i2d (pc' := 32) dX3_meanPrice_31 rfl ?_
    obtain ⟨hg, hf⟩ := f_if_x hf
    refine a_ddiv (pc' := 33) dX3_meanPrice_32 rfl (f_nn hg) ?_
    cases hf
    exact a_dret hr ⟨rfl, rfl⟩ dX3_meanPrice_33
  · replace hf := (if_neg k3).symm.trans hf
    refine a_dconst0 (pc' := 21) dX3_meanPrice_20 rfl ?_
    cases hf
    exact a_dret hr ⟨rfl, rfl⟩ dX3_meanPrice_21
/-! SlateRoof.mixed(JJ)J -/
set_option maxRecDepth 100000 in
def f_X3_mixed (F : Nat) (a1 : Int64) (a2 : Int64) : Option (Int64) := some ((((31 : Int64)) * a1) + a2)
set_option maxHeartbeats 4000000 in
set_option maxRecDepth 100000 in
theorem c_X3_mixed (l : Launch) (g : a_G) (F : Nat) {h : List va_E} {a1 : Int64} {a2 : Int64} {out : Int64} (hf : f_X3_mixed F a1 a2 = some out) : a_CT l g yX3_mixed cX3_mixed 4 (some .long) (a_rm 0 0) [.long a1, .long a2] h none none (fun r h' => r = some (.long out) ∧ h' = h) := by
  refine a_enter ⟨by decide, rfl, Nat.le_of_ble_eq_true rfl⟩ (fun p e s m args below meth c hr hin => ?_)
  unfold f_X3_mixed at hf
  refine a_sub (ls' := [(0, .long a1), (2, .long a2)]) [0, 1] rfl ?_
  refine a_ldc2 (pc' := 3) (v := (31 : Int64)) (a_in2 207 rfl rfl) dX3_mixed_0 rfl ?_
  refine a_lload_n (pc' := 4) 0 dX3_mixed_3 rfl rfl rfl ?_
  refine a_lmul (pc' := 5) dX3_mixed_4 rfl ?_
  refine a_lload_n (pc' := 6) 1 dX3_mixed_5 rfl rfl rfl ?_
  refine a_ladd (pc' := 7) dX3_mixed_6 rfl ?_
  cases hf
  exact a_lret hr ⟨rfl, rfl⟩ dX3_mixed_7
/-! SlateRoof.withLengths(J)J -/
set_option maxRecDepth 100000 in
def f_X3_withLengths_L16 (F : Nat) (q : d_C) (v5_6 : Int32) : Nat → Int64 → Int32 → Option (Int64 × Int32)
  | 0, _, _ => none
  | n + 1, v3_16, v6_16 => (if ((3 : Int32)) < v6_16 then some (v3_16, v6_16) else f_nt (f_X3_slates F q v5_6 v6_16) fun x17003 => (f_X3_mixed F v3_16 x17003.toInt64).bind fun x17005 => f_X3_withLengths_L16 F q v5_6 n x17005 (v6_16 + (1 : Int32)))
set_option maxRecDepth 100000 in
def f_X3_withLengths_L6 (F : Nat) (q : d_C) : Nat → Int64 → Int32 → Option (Int64 × Int32)
  | 0, _, _ => none
  | n + 1, v3_6, v5_6 => (if ((24 : Int32)) < v5_6 then some (v3_6, v5_6) else (f_X3_withLengths_L16 F q v5_6 F v3_6 ((0 : Int32))).bind fun o7002 => f_nt (f_X3_toTop F q v5_6 ((0 : Int32))) fun x7005 => (f_X3_mixed F o7002.1 x7005.toInt64).bind fun x7007 => f_nt (f_X3_toTop F q v5_6 ((1 : Int32))) fun x7009 => (f_X3_mixed F x7007 x7009.toInt64).bind fun x7011 => f_X3_withLengths_L6 F q n x7011 (v5_6 + (1 : Int32)))
set_option maxRecDepth 100000 in
def f_X3_withLengths (F : Nat) (q : d_C) (a1 : Int64) : Option (Int64) := (f_X3_withLengths_L6 F q F a1 ((8 : Int32))).bind fun o1 => some (o1.1)
set_option maxHeartbeats 4000000 in
set_option maxRecDepth 100000 in
theorem l_X3_withLengths_L16 {p : Program} {l : Launch} {e : Env} {s : State} {m : MethodId} {args : Array Value} {below : List Frame} {meth : Method} {c : Code} {Q : State → Prop} {g : a_G} (F : Nat) {h : List va_E} (q : d_C) (v5_6 : Int32) (hz : d_cls h q) : ∀ (n : Nat) (v3_16 : Int64) (v6_16 : Int32) (o : Int64 × Int32), f_X3_withLengths_L16 F q v5_6 n v3_16 v6_16 = some o → (∀ e9 : Int64 × Int32, o = e9 → a_W p l e (a_rm 7 105) s m args below meth c Q RX3 cX3_withLengths 7 g 0 0 none 42 [(0, .ref 0), (3, .long e9.1), (5, .int v5_6)] [] h) → a_W p l e (a_rm 7 105) s m args below meth c Q RX3 cX3_withLengths 7 g 0 0 none 16 [(0, .ref 0), (3, .long v3_16), (5, .int v5_6), (6, .int v6_16)] [] h := by
  intro n
  induction n with
  | zero => intro v3_16 v6_16 o hf; exact nomatch (show (none : Option (Int64 × Int32)) = some o from hf)
  | succ n ih =>
    intro v3_16 v6_16 o hf hX0
    rw [f_X3_withLengths_L16] at hf
    refine a_iload (pc' := 18) 3 dX3_withLengths_16 rfl rfl ?_
    refine a_iconst (pc' := 19) (v := (3 : Int32)) dX3_withLengths_18 rfl (by decide) ?_
    refine a_icmp_gt (pc' := 22) 42 dX3_withLengths_19 (by decide) rfl (fun k17001 => ?_) (fun k17001 => ?_)
    · replace hf := (if_pos k17001).symm.trans hf
      cases hf
      refine a_sub [0, 1, 2] rfl ?_
      exact hX0 _ rfl
    · replace hf := (if_neg k17001).symm.trans hf
      refine a_lload_n (pc' := 23) 1 dX3_withLengths_22 rfl rfl rfl ?_
      refine a_aload_n (pc' := 24) 0 dX3_withLengths_23 rfl rfl rfl ?_
      refine a_iload (pc' := 26) 2 dX3_withLengths_24 rfl rfl ?_
      refine a_iload (pc' := 28) 3 dX3_withLengths_26 rfl rfl ?_
      obtain ⟨x17003, e17002, hf⟩ := f_nx hf
      refine k_X3_342 (pc' := 31) (c_X3_slates l g F hz e17002) ⟨Nat.le_of_ble_eq_true rfl, Nat.le_of_ble_eq_true rfl⟩ hz.1 (Nat.le_of_ble_eq_true rfl) dX3_withLengths_28 rfl ?_
      refine a_i2l (pc' := 32) dX3_withLengths_31 rfl ?_
      obtain ⟨x17005, e17004, hf⟩ := Option.bind_eq_some_iff.mp hf
      refine k_X3_307 (pc' := 35) (c_X3_mixed l g F e17004) ⟨Nat.le_of_ble_eq_true rfl, Nat.le_of_ble_eq_true rfl⟩ (Nat.le_of_ble_eq_true rfl) dX3_withLengths_32 rfl ?_
      refine a_lstore_n (pc' := 36) (ls' := [(3, .long x17005), (0, .ref 0), (5, .int v5_6), (6, .int v6_16)]) dX3_withLengths_35 rfl (by decide) rfl rfl ?_
      refine a_iinc (pc' := 39) (v := v6_16 + (1 : Int32)) (ls' := [(6, .int (v6_16 + (1 : Int32))), (3, .long x17005), (0, .ref 0), (5, .int v5_6)]) 3 dX3_withLengths_36 rfl (by rfl) (by decide) rfl rfl ?_
      refine a_goto 16 dX3_withLengths_39 (by decide) ?_
      refine a_sub [2, 1, 3, 0] rfl ?_
      exact ih _ _ _ hf hX0
set_option maxHeartbeats 4000000 in
set_option maxRecDepth 100000 in
theorem l_X3_withLengths_L6 {p : Program} {l : Launch} {e : Env} {s : State} {m : MethodId} {args : Array Value} {below : List Frame} {meth : Method} {c : Code} {Q : State → Prop} {g : a_G} (F : Nat) {h : List va_E} (q : d_C) (hz : d_cls h q) : ∀ (n : Nat) (v3_6 : Int64) (v5_6 : Int32) (o : Int64 × Int32), f_X3_withLengths_L6 F q n v3_6 v5_6 = some o → (∀ e9 : Int64 × Int32, o = e9 → a_W p l e (a_rm 7 105) s m args below meth c Q RX3 cX3_withLengths 7 g 0 0 none 74 [(3, .long e9.1)] [] h) → a_W p l e (a_rm 7 105) s m args below meth c Q RX3 cX3_withLengths 7 g 0 0 none 6 [(0, .ref 0), (3, .long v3_6), (5, .int v5_6)] [] h := by
  intro n
  induction n with
  | zero => intro v3_6 v5_6 o hf; exact nomatch (show (none : Option (Int64 × Int32)) = some o from hf)
  | succ n ih =>
    intro v3_6 v5_6 o hf hX0
    rw [f_X3_withLengths_L6] at hf
    refine a_iload (pc' := 8) 2 dX3_withLengths_6 rfl rfl ?_
    refine a_bipush (pc' := 10) (v := (24 : Int32)) dX3_withLengths_8 rfl (by decide) ?_
    refine a_icmp_gt (pc' := 13) 74 dX3_withLengths_10 (by decide) rfl (fun k7001 => ?_) (fun k7001 => ?_)
    · replace hf := (if_pos k7001).symm.trans hf
      cases hf
      refine a_sub [1] rfl ?_
      exact hX0 _ rfl
    · replace hf := (if_neg k7001).symm.trans hf
      refine a_iconst (pc' := 14) (v := (0 : Int32)) dX3_withLengths_13 rfl (by decide) ?_
      refine a_istore (pc' := 16) (ls' := [(6, .int ((0 : Int32))), (0, .ref 0), (3, .long v3_6), (5, .int v5_6)]) dX3_withLengths_14 (by decide) rfl rfl ?_
      obtain ⟨o7002, e7003, hf⟩ := Option.bind_eq_some_iff.mp hf
      refine a_sub [1, 2, 3, 0] rfl ?_
      refine l_X3_withLengths_L16 F q v5_6 hz F _ _ o7002 e7003 (fun e9 he9 => ?_)
      subst he9
      refine a_lload_n (pc' := 43) 1 dX3_withLengths_42 rfl rfl rfl ?_
      refine a_aload_n (pc' := 44) 0 dX3_withLengths_43 rfl rfl rfl ?_
      refine a_iload (pc' := 46) 2 dX3_withLengths_44 rfl rfl ?_
      refine a_iconst (pc' := 47) (v := (0 : Int32)) dX3_withLengths_46 rfl (by decide) ?_
      obtain ⟨x7005, e7004, hf⟩ := f_nx hf
      refine k_X3_345 (pc' := 50) (c_X3_toTop l g F hz e7004) ⟨Nat.le_of_ble_eq_true rfl, Nat.le_of_ble_eq_true rfl⟩ hz.1 (Nat.le_of_ble_eq_true rfl) dX3_withLengths_47 rfl ?_
      refine a_i2l (pc' := 51) dX3_withLengths_50 rfl ?_
      obtain ⟨x7007, e7006, hf⟩ := Option.bind_eq_some_iff.mp hf
      refine k_X3_307 (pc' := 54) (c_X3_mixed l g F e7006) ⟨Nat.le_of_ble_eq_true rfl, Nat.le_of_ble_eq_true rfl⟩ (Nat.le_of_ble_eq_true rfl) dX3_withLengths_51 rfl ?_
      refine a_lstore_n (pc' := 55) (ls' := [(3, .long x7007), (0, .ref 0), (5, .int v5_6)]) dX3_withLengths_54 rfl (by decide) rfl rfl ?_
      refine a_lload_n (pc' := 56) 0 dX3_withLengths_55 rfl rfl rfl ?_
      refine a_aload_n (pc' := 57) 1 dX3_withLengths_56 rfl rfl rfl ?_
      refine a_iload (pc' := 59) 2 dX3_withLengths_57 rfl rfl ?_
      refine a_iconst (pc' := 60) (v := (1 : Int32)) dX3_withLengths_59 rfl (by decide) ?_
      obtain ⟨x7009, e7008, hf⟩ := f_nx hf
      refine k_X3_345 (pc' := 63) (c_X3_toTop l g F hz e7008) ⟨Nat.le_of_ble_eq_true rfl, Nat.le_of_ble_eq_true rfl⟩ hz.1 (Nat.le_of_ble_eq_true rfl) dX3_withLengths_60 rfl ?_
      refine a_i2l (pc' := 64) dX3_withLengths_63 rfl ?_
      obtain ⟨x7011, e7010, hf⟩ := Option.bind_eq_some_iff.mp hf
      refine k_X3_307 (pc' := 67) (c_X3_mixed l g F e7010) ⟨Nat.le_of_ble_eq_true rfl, Nat.le_of_ble_eq_true rfl⟩ (Nat.le_of_ble_eq_true rfl) dX3_withLengths_64 rfl ?_
      refine a_lstore_n (pc' := 68) (ls' := [(3, .long x7011), (0, .ref 0), (5, .int v5_6)]) dX3_withLengths_67 rfl (by decide) rfl rfl ?_
      refine a_iinc (pc' := 71) (v := v5_6 + (1 : Int32)) (ls' := [(5, .int (v5_6 + (1 : Int32))), (3, .long x7011), (0, .ref 0)]) 2 dX3_withLengths_68 rfl (by rfl) (by decide) rfl rfl ?_
      refine a_goto 6 dX3_withLengths_71 (by decide) ?_
      refine a_sub [2, 1, 0] rfl ?_
      exact ih _ _ _ hf hX0
set_option maxHeartbeats 4000000 in
set_option maxRecDepth 100000 in
theorem c_X3_withLengths (l : Launch) (g : a_G) (F : Nat) {h : List va_E} {q : d_C} {a1 : Int64} (hz : d_cls h q) {out : Int64} (hf : f_X3_withLengths F q a1 = some out) : a_CT l g yX3_withLengths cX3_withLengths 7 (some .long) (a_rm 7 105) [.ref 0, .long a1] h none none (fun r h' => r = some (.long out) ∧ h' = h) := by
  refine a_enter ⟨by decide, rfl, Nat.le_of_ble_eq_true rfl⟩ (fun p e s m args below meth c hr hin => ?_)
  unfold f_X3_withLengths at hf
  refine a_sub (ls' := [(0, .ref 0), (1, .long a1)]) [0, 1] rfl ?_
  refine a_lload_n (pc' := 1) 1 dX3_withLengths_0 rfl rfl rfl ?_
  refine a_lstore_n (pc' := 2) (ls' := [(3, .long a1), (0, .ref 0), (1, .long a1)]) dX3_withLengths_1 rfl (by decide) rfl rfl ?_
  refine a_bipush (pc' := 4) (v := (8 : Int32)) dX3_withLengths_2 rfl (by decide) ?_
  refine a_istore (pc' := 6) (ls' := [(5, .int ((8 : Int32))), (3, .long a1), (0, .ref 0), (1, .long a1)]) dX3_withLengths_4 (by decide) rfl rfl ?_
  obtain ⟨o1, e2, hf⟩ := Option.bind_eq_some_iff.mp hf
  refine a_sub [2, 1, 0] rfl ?_
  refine l_X3_withLengths_L6 F q hz F _ _ o1 e2 (fun e9 he9 => ?_)
  subst he9
  refine a_lload_n (pc' := 75) 0 dX3_withLengths_74 rfl rfl rfl ?_
  cases hf
  exact a_lret hr ⟨rfl, rfl⟩ dX3_withLengths_75
/-! SlateRoof.withCourses(J)J -/
set_option maxRecDepth 100000 in
def f_X3_withCourses_L20 (F : Nat) (q : d_C) (v5_5 : Int32) : Nat → Int64 → Int32 → Option (Int64 × Int32)
  | 0, _, _ => none
  | n + 1, v3_20, v6_20 => (if ((6 : Int32)) < v6_20 then some (v3_20, v6_20) else f_nt (f_X3_courseOf F q v5_5 v6_20) fun x21003 => (f_X3_mixed F v3_20 x21003.toInt64).bind fun x21005 => f_X3_withCourses_L20 F q v5_5 n x21005 (v6_20 + (1 : Int32)))
set_option maxRecDepth 100000 in
def f_X3_withCourses_L61 (F : Nat) (q : d_C) (v5_5 : Int32) (x6005 : Int32) : Nat → Int64 → Int32 → Option (Int64 × Int32)
  | 0, _, _ => none
  | n + 1, v3_61, v7_61 => (if x6005 ≤ v7_61 then some (v3_61, v7_61) else (f_X1_hasSlate F q.1 v5_5 v7_61).bind fun x62003 => (if x62003 = 0 then (f_X3_mixed F v3_61 ((0 : Int64))).bind fun x62006 => f_X3_withCourses_L61 F q v5_5 x6005 n x62006 (v7_61 + (1 : Int32)) else (f_X3_mixed F v3_61 ((1 : Int64))).bind fun x62008 => f_X3_withCourses_L61 F q v5_5 x6005 n x62008 (v7_61 + (1 : Int32))))
set_option maxRecDepth 100000 in
def f_X3_withCourses_L5 (F : Nat) (q : d_C) : Nat → Int64 → Int32 → Option (Int64 × Int32)
  | 0, _, _ => none
  | n + 1, v3_5, v5_5 => (if (q.1 2) ≤ v5_5 then some (v3_5, v5_5) else (f_X3_withCourses_L20 F q v5_5 F v3_5 ((0 : Int32))).bind fun o6002 => (f_X1_placesOf F q.1 v5_5).bind fun x6005 => (f_X3_withCourses_L61 F q v5_5 x6005 F o6002.1 ((0 : Int32))).bind fun o6006 => f_X3_withCourses_L5 F q n o6006.1 (v5_5 + (1 : Int32)))
set_option maxRecDepth 100000 in
def f_X3_withCourses (F : Nat) (q : d_C) (a1 : Int64) : Option (Int64) := (f_X3_withCourses_L5 F q F a1 ((0 : Int32))).bind fun o1 => some (o1.1)
set_option maxHeartbeats 4000000 in
set_option maxRecDepth 100000 in
theorem l_X3_withCourses_L20 {p : Program} {l : Launch} {e : Env} {s : State} {m : MethodId} {args : Array Value} {below : List Frame} {meth : Method} {c : Code} {Q : State → Prop} {g : a_G} (F : Nat) {h : List va_E} (q : d_C) (v5_5 : Int32) (hz : d_cls h q) : ∀ (n : Nat) (v3_20 : Int64) (v6_20 : Int32) (o : Int64 × Int32), f_X3_withCourses_L20 F q v5_5 n v3_20 v6_20 = some o → (∀ e9 : Int64 × Int32, o = e9 → a_W p l e (a_rm 7 104) s m args below meth c Q RX3 cX3_withCourses 8 g 0 0 none 47 [(0, .ref 0), (3, .long e9.1), (5, .int v5_5)] [] h) → a_W p l e (a_rm 7 104) s m args below meth c Q RX3 cX3_withCourses 8 g 0 0 none 20 [(0, .ref 0), (3, .long v3_20), (5, .int v5_5), (6, .int v6_20)] [] h := by
  intro n
  induction n with
  | zero => intro v3_20 v6_20 o hf; exact nomatch (show (none : Option (Int64 × Int32)) = some o from hf)
  | succ n ih =>
    intro v3_20 v6_20 o hf hX0
    rw [f_X3_withCourses_L20] at hf
    refine a_iload (pc' := 22) 3 dX3_withCourses_20 rfl rfl ?_
    refine a_bipush (pc' := 24) (v := (6 : Int32)) dX3_withCourses_22 rfl (by decide) ?_
    refine a_icmp_gt (pc' := 27) 47 dX3_withCourses_24 (by decide) rfl (fun k21001 => ?_) (fun k21001 => ?_)
    · replace hf := (if_pos k21001).symm.trans hf
      cases hf
      refine a_sub [0, 1, 2] rfl ?_
      exact hX0 _ rfl
    · replace hf := (if_neg k21001).symm.trans hf
      refine a_lload_n (pc' := 28) 1 dX3_withCourses_27 rfl rfl rfl ?_
      refine a_aload_n (pc' := 29) 0 dX3_withCourses_28 rfl rfl rfl ?_
      refine a_iload (pc' := 31) 2 dX3_withCourses_29 rfl rfl ?_
      refine a_iload (pc' := 33) 3 dX3_withCourses_31 rfl rfl ?_
      obtain ⟨x21003, e21002, hf⟩ := f_nx hf
      refine k_X3_348 (pc' := 36) (c_X3_courseOf l g F hz e21002) ⟨Nat.le_of_ble_eq_true rfl, Nat.le_of_ble_eq_true rfl⟩ hz.1 (Nat.le_of_ble_eq_true rfl) dX3_withCourses_33 rfl ?_
      refine a_i2l (pc' := 37) dX3_withCourses_36 rfl ?_
      obtain ⟨x21005, e21004, hf⟩ := Option.bind_eq_some_iff.mp hf
      refine k_X3_307 (pc' := 40) (c_X3_mixed l g F e21004) ⟨Nat.le_of_ble_eq_true rfl, Nat.le_of_ble_eq_true rfl⟩ (Nat.le_of_ble_eq_true rfl) dX3_withCourses_37 rfl ?_
      refine a_lstore_n (pc' := 41) (ls' := [(3, .long x21005), (0, .ref 0), (5, .int v5_5), (6, .int v6_20)]) dX3_withCourses_40 rfl (by decide) rfl rfl ?_
      refine a_iinc (pc' := 44) (v := v6_20 + (1 : Int32)) (ls' := [(6, .int (v6_20 + (1 : Int32))), (3, .long x21005), (0, .ref 0), (5, .int v5_5)]) 3 dX3_withCourses_41 rfl (by rfl) (by decide) rfl rfl ?_
      refine a_goto 20 dX3_withCourses_44 (by decide) ?_
      refine a_sub [2, 1, 3, 0] rfl ?_
      exact ih _ _ _ hf hX0
set_option maxHeartbeats 4000000 in
set_option maxRecDepth 100000 in
theorem l_X3_withCourses_L61 {p : Program} {l : Launch} {e : Env} {s : State} {m : MethodId} {args : Array Value} {below : List Frame} {meth : Method} {c : Code} {Q : State → Prop} {g : a_G} (F : Nat) {h : List va_E} (q : d_C) (v5_5 : Int32) (x6005 : Int32) (hz : d_cls h q) : ∀ (n : Nat) (v3_61 : Int64) (v7_61 : Int32) (o : Int64 × Int32), f_X3_withCourses_L61 F q v5_5 x6005 n v3_61 v7_61 = some o → (∀ e9 : Int64 × Int32, o = e9 → a_W p l e (a_rm 7 104) s m args below meth c Q RX3 cX3_withCourses 8 g 0 0 none 98 [(0, .ref 0), (3, .long e9.1), (5, .int v5_5)] [] h) → a_W p l e (a_rm 7 104) s m args below meth c Q RX3 cX3_withCourses 8 g 0 0 none 61 [(0, .ref 0), (3, .long v3_61), (5, .int v5_5), (6, .int x6005), (7, .int v7_61)] [] h := by
  intro n
  induction n with
  | zero => intro v3_61 v7_61 o hf; exact nomatch (show (none : Option (Int64 × Int32)) = some o from hf)
  | succ n ih =>
    intro v3_61 v7_61 o hf hX0
    rw [f_X3_withCourses_L61] at hf
    refine a_iload (pc' := 63) 4 dX3_withCourses_61 rfl rfl ?_
    refine a_iload (pc' := 65) 3 dX3_withCourses_63 rfl rfl ?_
    refine a_icmp_ge (pc' := 68) 98 dX3_withCourses_65 (by decide) rfl (fun k62001 => ?_) (fun k62001 => ?_)
    · replace hf := (if_pos k62001).symm.trans hf
      cases hf
      refine a_sub [0, 1, 2] rfl ?_
      exact hX0 _ rfl
    · replace hf := (if_neg k62001).symm.trans hf
      refine a_lload_n (pc' := 69) 1 dX3_withCourses_68 rfl rfl rfl ?_
      refine a_aload_n (pc' := 70) 0 dX3_withCourses_69 rfl rfl rfl ?_
      refine g_X3_10 (pc' := 73) hz.1 rfl dX3_withCourses_70 rfl ?_
      refine a_iload (pc' := 75) 2 dX3_withCourses_73 rfl rfl ?_
      refine a_iload (pc' := 77) 4 dX3_withCourses_75 rfl rfl ?_
      obtain ⟨x62003, e62002, hf⟩ := Option.bind_eq_some_iff.mp hf
      refine k_X3_268 (pc' := 80) (c_X1_hasSlate l g F hz.2.1 e62002) ⟨Nat.le_of_ble_eq_true rfl, Nat.le_of_ble_eq_true rfl⟩ hz.2.1.1 (Nat.le_of_ble_eq_true rfl) dX3_withCourses_77 rfl ?_
      refine a_if_eq (pc' := 83) 87 dX3_withCourses_80 (by decide) rfl (fun k62004 => ?_) (fun k62004 => ?_)
      · replace hf := (if_pos k62004).symm.trans hf
        refine a_lconst (pc' := 88) (v := (0 : Int64)) dX3_withCourses_87 rfl (by decide) ?_
        obtain ⟨x62006, e62005, hf⟩ := Option.bind_eq_some_iff.mp hf
        refine k_X3_307 (pc' := 91) (c_X3_mixed l g F e62005) ⟨Nat.le_of_ble_eq_true rfl, Nat.le_of_ble_eq_true rfl⟩ (Nat.le_of_ble_eq_true rfl) dX3_withCourses_88 rfl ?_
        refine a_lstore_n (pc' := 92) (ls' := [(3, .long x62006), (0, .ref 0), (5, .int v5_5), (6, .int x6005), (7, .int v7_61)]) dX3_withCourses_91 rfl (by decide) rfl rfl ?_
        refine a_iinc (pc' := 95) (v := v7_61 + (1 : Int32)) (ls' := [(7, .int (v7_61 + (1 : Int32))), (3, .long x62006), (0, .ref 0), (5, .int v5_5), (6, .int x6005)]) 4 dX3_withCourses_92 rfl (by rfl) (by decide) rfl rfl ?_
        refine a_goto 61 dX3_withCourses_95 (by decide) ?_
        refine a_sub [2, 1, 3, 4, 0] rfl ?_
        exact ih _ _ _ hf hX0
      · replace hf := (if_neg k62004).symm.trans hf
        refine a_lconst (pc' := 84) (v := (1 : Int64)) dX3_withCourses_83 rfl (by decide) ?_
        refine a_goto 88 dX3_withCourses_84 (by decide) ?_
        obtain ⟨x62008, e62007, hf⟩ := Option.bind_eq_some_iff.mp hf
        refine k_X3_307 (pc' := 91) (c_X3_mixed l g F e62007) ⟨Nat.le_of_ble_eq_true rfl, Nat.le_of_ble_eq_true rfl⟩ (Nat.le_of_ble_eq_true rfl) dX3_withCourses_88 rfl ?_
        refine a_lstore_n (pc' := 92) (ls' := [(3, .long x62008), (0, .ref 0), (5, .int v5_5), (6, .int x6005), (7, .int v7_61)]) dX3_withCourses_91 rfl (by decide) rfl rfl ?_
        refine a_iinc (pc' := 95) (v := v7_61 + (1 : Int32)) (ls' := [(7, .int (v7_61 + (1 : Int32))), (3, .long x62008), (0, .ref 0), (5, .int v5_5), (6, .int x6005)]) 4 dX3_withCourses_92 rfl (by rfl) (by decide) rfl rfl ?_
        refine a_goto 61 dX3_withCourses_95 (by decide) ?_
        refine a_sub [2, 1, 3, 4, 0] rfl ?_
        exact ih _ _ _ hf hX0
set_option maxHeartbeats 4000000 in
set_option maxRecDepth 100000 in
theorem l_X3_withCourses_L5 {p : Program} {l : Launch} {e : Env} {s : State} {m : MethodId} {args : Array Value} {below : List Frame} {meth : Method} {c : Code} {Q : State → Prop} {g : a_G} (F : Nat) {h : List va_E} (q : d_C) (hz : d_cls h q) : ∀ (n : Nat) (v3_5 : Int64) (v5_5 : Int32) (o : Int64 × Int32), f_X3_withCourses_L5 F q n v3_5 v5_5 = some o → (∀ e9 : Int64 × Int32, o = e9 → a_W p l e (a_rm 7 104) s m args below meth c Q RX3 cX3_withCourses 8 g 0 0 none 104 [(3, .long e9.1)] [] h) → a_W p l e (a_rm 7 104) s m args below meth c Q RX3 cX3_withCourses 8 g 0 0 none 5 [(0, .ref 0), (3, .long v3_5), (5, .int v5_5)] [] h := by
  intro n
  induction n with
  | zero => intro v3_5 v5_5 o hf; exact nomatch (show (none : Option (Int64 × Int32)) = some o from hf)
  | succ n ih =>
    intro v3_5 v5_5 o hf hX0
    rw [f_X3_withCourses_L5] at hf
    refine a_iload (pc' := 7) 2 dX3_withCourses_5 rfl rfl ?_
    refine a_aload_n (pc' := 8) 0 dX3_withCourses_7 rfl rfl rfl ?_
    refine g_X3_10 (pc' := 11) hz.1 rfl dX3_withCourses_8 rfl ?_
    refine g_X3_56 (pc' := 14) hz.2.1.1 rfl dX3_withCourses_11 rfl ?_
    refine a_icmp_ge (pc' := 17) 104 dX3_withCourses_14 (by decide) rfl (fun k6001 => ?_) (fun k6001 => ?_)
    · replace hf := (if_pos k6001).symm.trans hf
      cases hf
      refine a_sub [1] rfl ?_
      exact hX0 _ rfl
    · replace hf := (if_neg k6001).symm.trans hf
      refine a_iconst (pc' := 18) (v := (0 : Int32)) dX3_withCourses_17 rfl (by decide) ?_
      refine a_istore (pc' := 20) (ls' := [(6, .int ((0 : Int32))), (0, .ref 0), (3, .long v3_5), (5, .int v5_5)]) dX3_withCourses_18 (by decide) rfl rfl ?_
      obtain ⟨o6002, e6003, hf⟩ := Option.bind_eq_some_iff.mp hf
      refine a_sub [1, 2, 3, 0] rfl ?_
      refine l_X3_withCourses_L20 F q v5_5 hz F _ _ o6002 e6003 (fun e9 he9 => ?_)
      subst he9
      refine a_aload_n (pc' := 48) 0 dX3_withCourses_47 rfl rfl rfl ?_
      refine g_X3_10 (pc' := 51) hz.1 rfl dX3_withCourses_48 rfl ?_
      refine a_iload (pc' := 53) 2 dX3_withCourses_51 rfl rfl ?_
      obtain ⟨x6005, e6004, hf⟩ := Option.bind_eq_some_iff.mp hf
      refine k_X3_254 (pc' := 56) (c_X1_placesOf l g F hz.2.1 e6004) ⟨Nat.le_of_ble_eq_true rfl, Nat.le_of_ble_eq_true rfl⟩ hz.2.1.1 (Nat.le_of_ble_eq_true rfl) dX3_withCourses_53 rfl ?_
      refine a_istore (pc' := 58) (ls' := [(6, .int x6005), (0, .ref 0), (3, .long o6002.1), (5, .int v5_5)]) dX3_withCourses_56 (by decide) rfl rfl ?_
      refine a_iconst (pc' := 59) (v := (0 : Int32)) dX3_withCourses_58 rfl (by decide) ?_
      refine a_istore (pc' := 61) (ls' := [(7, .int ((0 : Int32))), (6, .int x6005), (0, .ref 0), (3, .long o6002.1), (5, .int v5_5)]) dX3_withCourses_59 (by decide) rfl rfl ?_
      obtain ⟨o6006, e6007, hf⟩ := Option.bind_eq_some_iff.mp hf
      refine a_sub [2, 3, 4, 1, 0] rfl ?_
      refine l_X3_withCourses_L61 F q v5_5 x6005 hz F _ _ o6006 e6007 (fun e9 he9 => ?_)
      subst he9
      refine a_iinc (pc' := 101) (v := v5_5 + (1 : Int32)) (ls' := [(5, .int (v5_5 + (1 : Int32))), (0, .ref 0), (3, .long o6006.1)]) 2 dX3_withCourses_98 rfl (by rfl) (by decide) rfl rfl ?_
      refine a_goto 5 dX3_withCourses_101 (by decide) ?_
      refine a_sub [1, 2, 0] rfl ?_
      exact ih _ _ _ hf hX0
set_option maxHeartbeats 4000000 in
set_option maxRecDepth 100000 in
theorem c_X3_withCourses (l : Launch) (g : a_G) (F : Nat) {h : List va_E} {q : d_C} {a1 : Int64} (hz : d_cls h q) {out : Int64} (hf : f_X3_withCourses F q a1 = some out) : a_CT l g yX3_withCourses cX3_withCourses 8 (some .long) (a_rm 7 104) [.ref 0, .long a1] h none none (fun r h' => r = some (.long out) ∧ h' = h) := by
  refine a_enter ⟨by decide, rfl, Nat.le_of_ble_eq_true rfl⟩ (fun p e s m args below meth c hr hin => ?_)
  unfold f_X3_withCourses at hf
  refine a_sub (ls' := [(0, .ref 0), (1, .long a1)]) [0, 1] rfl ?_
  refine a_lload_n (pc' := 1) 1 dX3_withCourses_0 rfl rfl rfl ?_
  refine a_lstore_n (pc' := 2) (ls' := [(3, .long a1), (0, .ref 0), (1, .long a1)]) dX3_withCourses_1 rfl (by decide) rfl rfl ?_
  refine a_iconst (pc' := 3) (v := (0 : Int32)) dX3_withCourses_2 rfl (by decide) ?_
  refine a_istore (pc' := 5) (ls' := [(5, .int ((0 : Int32))), (3, .long a1), (0, .ref 0), (1, .long a1)]) dX3_withCourses_3 (by decide) rfl rfl ?_
  obtain ⟨o1, e2, hf⟩ := Option.bind_eq_some_iff.mp hf
  refine a_sub [2, 1, 0] rfl ?_
  refine l_X3_withCourses_L5 F q hz F _ _ o1 e2 (fun e9 he9 => ?_)
  subst he9
  refine a_lload_n (pc' := 105) 0 dX3_withCourses_104 rfl rfl rfl ?_
  cases hf
  exact a_lret hr ⟨rfl, rfl⟩ dX3_withCourses_105
/-! SlateRoof.bitsOf(D)J -/
set_option maxRecDepth 100000 in
def f_X3_bitsOf_L18 (F : Nat)  : Nat → UInt64 → Int64 → Int32 → Option (UInt64 × Int64 × Int32)
  | 0, _, _, _ => none
  | n + 1, v2_18, v4_18, v6_18 => (if ((1023 : Int32)) ≤ v6_18 then some (v2_18, v4_18, v6_18) else (if (Op.cmpValue (FP.dcmp v2_18 ((4611686018427387904 : UInt64))) .l) < 0 then some (v2_18, v4_18, v6_18) else f_if (isNaN64 (FP.ddiv v2_18 ((4611686018427387904 : UInt64))) = false) (f_X3_bitsOf_L18 F  n (FP.ddiv v2_18 ((4611686018427387904 : UInt64))) (v4_18 + ((1 : Int64))) (v6_18 + (1 : Int32)))))
set_option maxRecDepth 100000 in
def f_X3_bitsOf_L55 (F : Nat)  : Nat → UInt64 → Int64 → Int32 → Option (UInt64 × Int64 × Int32)
  | 0, _, _, _ => none
  | n + 1, v2_55, v4_55, v6_55 => (if ((1022 : Int32)) ≤ v6_55 then some (v2_55, v4_55, v6_55) else (if 0 ≤ (Op.cmpValue (FP.dcmp v2_55 FP.dconst1) .g) then some (v2_55, v4_55, v6_55) else f_if (isNaN64 (FP.dmul v2_55 ((4611686018427387904 : UInt64))) = false) (f_X3_bitsOf_L55 F  n (FP.dmul v2_55 ((4611686018427387904 : UInt64))) (v4_55 - ((1 : Int64))) (v6_55 + (1 : Int32)))))
set_option maxRecDepth 100000 in
def f_X3_bitsOf (F : Nat) (a1 : UInt64) : Option (Int64) := (if 0 < (Op.cmpValue (FP.dcmp a1 FP.dconst0) .l) then (f_X3_bitsOf_L18 F F a1 ((1023 : Int64)) ((0 : Int32))).bind fun o2 => (f_X3_bitsOf_L55 F F o2.1 o2.2.1 ((0 : Int32))).bind fun o4 => f_if (isNaN64 (FP.dsub o4.1 FP.dconst1) = false) (f_if (isNaN64 (FP.dmul (FP.dsub o4.1 FP.dconst1) ((4841369599423283200 : UInt64))) = false) (some ((o4.2.1 <<< (((52 : Int32)).toInt64 &&& 63)) ||| (FP.d2l (FP.dmul (FP.dsub o4.1 FP.dconst1) ((4841369599423283200 : UInt64))))))) else some ((0 : Int64)))
set_option maxHeartbeats 4000000 in
set_option maxRecDepth 100000 in
theorem l_X3_bitsOf_L18 {p : Program} {l : Launch} {e : Env} {s : State} {m : MethodId} {args : Array Value} {below : List Frame} {meth : Method} {c : Code} {Q : State → Prop} {g : a_G} (F : Nat) {h : List va_E}  : ∀ (n : Nat) (v2_18 : UInt64) (v4_18 : Int64) (v6_18 : Int32) (o : UInt64 × Int64 × Int32), f_X3_bitsOf_L18 F  n v2_18 v4_18 v6_18 = some o → (∀ e9 : UInt64 × Int64 × Int32, o = e9 → a_W p l e (a_rm 0 0) s m args below meth c Q RX3 cX3_bitsOf 8 g 0 0 none 52 [(2, .double e9.1), (4, .long e9.2.1)] [] h) → a_W p l e (a_rm 0 0) s m args below meth c Q RX3 cX3_bitsOf 8 g 0 0 none 18 [(2, .double v2_18), (4, .long v4_18), (6, .int v6_18)] [] h := by
  intro n
  induction n with
  | zero => intro v2_18 v4_18 v6_18 o hf; exact nomatch (show (none : Option (UInt64 × Int64 × Int32)) = some o from hf)
  | succ n ih =>
    intro v2_18 v4_18 v6_18 o hf hX0
    rw [f_X3_bitsOf_L18] at hf
    refine a_iload (pc' := 20) 2 dX3_bitsOf_18 rfl rfl ?_
    refine a_sipush (pc' := 23) (v := (1023 : Int32)) dX3_bitsOf_20 rfl (by decide) ?_
    refine a_icmp_ge (pc' := 26) 52 dX3_bitsOf_23 (by decide) rfl (fun k19001 => ?_) (fun k19001 => ?_)
    · replace hf := (if_pos k19001).symm.trans hf
      cases hf
      refine a_sub [0, 1] rfl ?_
      exact hX0 _ rfl
    · replace hf := (if_neg k19001).symm.trans hf
      refine a_dload_n (pc' := 27) 0 dX3_bitsOf_26 rfl rfl rfl ?_
      refine a_ldc2d (pc' := 30) (v := (4611686018427387904 : UInt64)) (a_in3 52 rfl rfl) dX3_bitsOf_27 rfl ?_
      refine a_dcmp (pc' := 31) dX3_bitsOf_30 rfl ?_
      refine a_if_lt (pc' := 34) 52 dX3_bitsOf_31 (by decide) rfl (fun k19002 => ?_) (fun k19002 => ?_)
      · replace hf := (if_pos k19002).symm.trans hf
        cases hf
        refine a_sub [0, 1] rfl ?_
        exact hX0 _ rfl
      · replace hf := (if_neg k19002).symm.trans hf
        refine a_dload_n (pc' := 35) 0 dX3_bitsOf_34 rfl rfl rfl ?_
        refine a_ldc2d (pc' := 38) (v := (4611686018427387904 : UInt64)) (a_in3 52 rfl rfl) dX3_bitsOf_35 rfl ?_
        obtain ⟨hg, hf⟩ := f_if_x hf
        refine a_ddiv (pc' := 39) dX3_bitsOf_38 rfl (f_nn hg) ?_
        refine a_dstore_n (pc' := 40) (ls' := [(2, .double (FP.ddiv v2_18 ((4611686018427387904 : UInt64)))), (4, .long v4_18), (6, .int v6_18)]) dX3_bitsOf_39 rfl (by decide) rfl rfl ?_
        refine a_lload (pc' := 42) 1 dX3_bitsOf_40 rfl rfl ?_
        refine a_lconst (pc' := 43) (v := (1 : Int64)) dX3_bitsOf_42 rfl (by decide) ?_
        refine a_ladd (pc' := 44) dX3_bitsOf_43 rfl ?_
        refine a_lstore (pc' := 46) (ls' := [(4, .long (v4_18 + ((1 : Int64)))), (2, .double (FP.ddiv v2_18 ((4611686018427387904 : UInt64)))), (6, .int v6_18)]) dX3_bitsOf_44 (by decide) rfl rfl ?_
        refine a_iinc (pc' := 49) (v := v6_18 + (1 : Int32)) (ls' := [(6, .int (v6_18 + (1 : Int32))), (4, .long (v4_18 + ((1 : Int64)))), (2, .double (FP.ddiv v2_18 ((4611686018427387904 : UInt64))))]) 2 dX3_bitsOf_46 rfl (by rfl) (by decide) rfl rfl ?_
        refine a_goto 18 dX3_bitsOf_49 (by decide) ?_
        refine a_sub [2, 1, 0] rfl ?_
        exact ih _ _ _ _ hf hX0
set_option maxHeartbeats 4000000 in
set_option maxRecDepth 100000 in
theorem l_X3_bitsOf_L55 {p : Program} {l : Launch} {e : Env} {s : State} {m : MethodId} {args : Array Value} {below : List Frame} {meth : Method} {c : Code} {Q : State → Prop} {g : a_G} (F : Nat) {h : List va_E}  : ∀ (n : Nat) (v2_55 : UInt64) (v4_55 : Int64) (v6_55 : Int32) (o : UInt64 × Int64 × Int32), f_X3_bitsOf_L55 F  n v2_55 v4_55 v6_55 = some o → (∀ e9 : UInt64 × Int64 × Int32, o = e9 → a_W p l e (a_rm 0 0) s m args below meth c Q RX3 cX3_bitsOf 8 g 0 0 none 87 [(2, .double e9.1), (4, .long e9.2.1)] [] h) → a_W p l e (a_rm 0 0) s m args below meth c Q RX3 cX3_bitsOf 8 g 0 0 none 55 [(2, .double v2_55), (4, .long v4_55), (6, .int v6_55)] [] h := by
  intro n
  induction n with
  | zero => intro v2_55 v4_55 v6_55 o hf; exact nomatch (show (none : Option (UInt64 × Int64 × Int32)) = some o from hf)
  | succ n ih =>
    intro v2_55 v4_55 v6_55 o hf hX0
    rw [f_X3_bitsOf_L55] at hf
    refine a_iload (pc' := 57) 2 dX3_bitsOf_55 rfl rfl ?_
    refine a_sipush (pc' := 60) (v := (1022 : Int32)) dX3_bitsOf_57 rfl (by decide) ?_
    refine a_icmp_ge (pc' := 63) 87 dX3_bitsOf_60 (by decide) rfl (fun k56001 => ?_) (fun k56001 => ?_)
    · replace hf := (if_pos k56001).symm.trans hf
      cases hf
      refine a_sub [0, 1] rfl ?_
      exact hX0 _ rfl
    · replace hf := (if_neg k56001).symm.trans hf
      refine a_dload_n (pc' := 64) 0 dX3_bitsOf_63 rfl rfl rfl ?_
      refine a_dconst1 (pc' := 65) dX3_bitsOf_64 rfl ?_
      refine a_dcmp (pc' := 66) dX3_bitsOf_65 rfl ?_
      refine a_if_ge (pc' := 69) 87 dX3_bitsOf_66 (by decide) rfl (fun k56002 => ?_) (fun k56002 => ?_)
      · replace hf := (if_pos k56002).symm.trans hf
        cases hf
        refine a_sub [0, 1] rfl ?_
        exact hX0 _ rfl
      · replace hf := (if_neg k56002).symm.trans hf
        refine a_dload_n (pc' := 70) 0 dX3_bitsOf_69 rfl rfl rfl ?_
        refine a_ldc2d (pc' := 73) (v := (4611686018427387904 : UInt64)) (a_in3 52 rfl rfl) dX3_bitsOf_70 rfl ?_
        obtain ⟨hg, hf⟩ := f_if_x hf
        refine a_dmul (pc' := 74) dX3_bitsOf_73 rfl (f_nn hg) ?_
        refine a_dstore_n (pc' := 75) (ls' := [(2, .double (FP.dmul v2_55 ((4611686018427387904 : UInt64)))), (4, .long v4_55), (6, .int v6_55)]) dX3_bitsOf_74 rfl (by decide) rfl rfl ?_
        refine a_lload (pc' := 77) 1 dX3_bitsOf_75 rfl rfl ?_
        refine a_lconst (pc' := 78) (v := (1 : Int64)) dX3_bitsOf_77 rfl (by decide) ?_
        refine a_lsub (pc' := 79) dX3_bitsOf_78 rfl ?_
        refine a_lstore (pc' := 81) (ls' := [(4, .long (v4_55 - ((1 : Int64)))), (2, .double (FP.dmul v2_55 ((4611686018427387904 : UInt64)))), (6, .int v6_55)]) dX3_bitsOf_79 (by decide) rfl rfl ?_
        refine a_iinc (pc' := 84) (v := v6_55 + (1 : Int32)) (ls' := [(6, .int (v6_55 + (1 : Int32))), (4, .long (v4_55 - ((1 : Int64)))), (2, .double (FP.dmul v2_55 ((4611686018427387904 : UInt64))))]) 2 dX3_bitsOf_81 rfl (by rfl) (by decide) rfl rfl ?_
        refine a_goto 55 dX3_bitsOf_84 (by decide) ?_
        refine a_sub [2, 1, 0] rfl ?_
        exact ih _ _ _ _ hf hX0
set_option maxHeartbeats 4000000 in
set_option maxRecDepth 100000 in
theorem c_X3_bitsOf (l : Launch) (g : a_G) (F : Nat) {h : List va_E} {a1 : UInt64} {out : Int64} (hf : f_X3_bitsOf F a1 = some out) : a_CT l g yX3_bitsOf cX3_bitsOf 8 (some .long) (a_rm 0 0) [.double a1] h none none (fun r h' => r = some (.long out) ∧ h' = h) := by
  refine a_enter ⟨by decide, rfl, Nat.le_of_ble_eq_true rfl⟩ (fun p e s m args below meth c hr hin => ?_)
  unfold f_X3_bitsOf at hf
  refine a_sub (ls' := [(0, .double a1)]) [0] rfl ?_
  refine a_dload_n (pc' := 1) 0 dX3_bitsOf_0 rfl rfl rfl ?_
  refine a_dconst0 (pc' := 2) dX3_bitsOf_1 rfl ?_
  refine a_dcmp (pc' := 3) dX3_bitsOf_2 rfl ?_
  refine a_if_gt (pc' := 6) 8 dX3_bitsOf_3 (by decide) rfl (fun k1 => ?_) (fun k1 => ?_)
  · replace hf := (if_pos k1).symm.trans hf
    refine a_dload_n (pc' := 9) 0 dX3_bitsOf_8 rfl rfl rfl ?_
    refine a_dstore_n (pc' := 10) (ls' := [(2, .double a1), (0, .double a1)]) dX3_bitsOf_9 rfl (by decide) rfl rfl ?_
    refine a_ldc2 (pc' := 13) (v := (1023 : Int64)) (a_in3 51 rfl rfl) dX3_bitsOf_10 rfl ?_
    refine a_lstore (pc' := 15) (ls' := [(4, .long ((1023 : Int64))), (2, .double a1), (0, .double a1)]) dX3_bitsOf_13 (by decide) rfl rfl ?_
    refine a_iconst (pc' := 16) (v := (0 : Int32)) dX3_bitsOf_15 rfl (by decide) ?_
    refine a_istore (pc' := 18) (ls' := [(6, .int ((0 : Int32))), (4, .long ((1023 : Int64))), (2, .double a1), (0, .double a1)]) dX3_bitsOf_16 (by decide) rfl rfl ?_
    obtain ⟨o2, e3, hf⟩ := Option.bind_eq_some_iff.mp hf
    refine a_sub [2, 1, 0] rfl ?_
    refine l_X3_bitsOf_L18 F   F _ _ _ o2 e3 (fun e9 he9 => ?_)
    subst he9
    refine a_iconst (pc' := 53) (v := (0 : Int32)) dX3_bitsOf_52 rfl (by decide) ?_
    refine a_istore (pc' := 55) (ls' := [(6, .int ((0 : Int32))), (2, .double o2.1), (4, .long o2.2.1)]) dX3_bitsOf_53 (by decide) rfl rfl ?_
    obtain ⟨o4, e5, hf⟩ := Option.bind_eq_some_iff.mp hf
    refine a_sub [1, 2, 0] rfl ?_
    refine l_X3_bitsOf_L55 F   F _ _ _ o4 e5 (fun e9 he9 => ?_)
    subst he9
    refine a_dload_n (pc' := 88) 0 dX3_bitsOf_87 rfl rfl rfl ?_
    refine a_dconst1 (pc' := 89) dX3_bitsOf_88 rfl ?_
    obtain ⟨hg, hf⟩ := f_if_x hf
    refine a_dsub (pc' := 90) dX3_bitsOf_89 rfl (f_nn hg) ?_
    refine a_ldc2d (pc' := 93) (v := (4841369599423283200 : UInt64)) (a_in3 53 rfl rfl) dX3_bitsOf_90 rfl ?_
    obtain ⟨hg, hf⟩ := f_if_x hf
    refine a_dmul (pc' := 94) dX3_bitsOf_93 rfl (f_nn hg) ?_
    refine a_d2l (pc' := 95) dX3_bitsOf_94 rfl ?_
    refine a_lstore (pc' := 97) (ls' := [(6, .long (FP.d2l (FP.dmul (FP.dsub o4.1 FP.dconst1) ((4841369599423283200 : UInt64))))), (2, .double o4.1), (4, .long o4.2.1)]) dX3_bitsOf_95 (by decide) rfl rfl ?_
    refine a_lload (pc' := 99) 2 dX3_bitsOf_97 rfl rfl ?_
    refine a_bipush (pc' := 101) (v := (52 : Int32)) dX3_bitsOf_99 rfl (by decide) ?_
    refine a_lshl (pc' := 102) dX3_bitsOf_101 rfl ?_
    refine a_lload (pc' := 104) 0 dX3_bitsOf_102 rfl rfl ?_
    refine a_lor (pc' := 105) dX3_bitsOf_104 rfl ?_
    cases hf
    exact a_lret hr ⟨rfl, rfl⟩ dX3_bitsOf_105
  · replace hf := (if_neg k1).symm.trans hf
    refine a_lconst (pc' := 7) (v := (0 : Int64)) dX3_bitsOf_6 rfl (by decide) ?_
    cases hf
    exact a_lret hr ⟨rfl, rfl⟩ dX3_bitsOf_7
/-! SlateRoof.digest()J -/
set_option maxRecDepth 100000 in
def f_X3_digest_L6 (F : Nat) (q : d_C) : Nat → Int64 → Int32 → Option (Int64 × Int32)
  | 0, _, _ => none
  | n + 1, v1_6, v3_6 => (if ((18 : Int32)) < v3_6 then some (v1_6, v3_6) else f_nt (f_X3_count F q v3_6) fun x7003 => (f_X3_mixed F v1_6 x7003.toInt64).bind fun x7005 => f_X3_digest_L6 F q n x7005 (v3_6 + (1 : Int32)))
set_option maxRecDepth 100000 in
def f_X3_digest_L31 (F : Nat) (q : d_C) : Nat → Int64 → Int32 → Option (Int64 × Int32)
  | 0, _, _ => none
  | n + 1, v1_31, v3_31 => (if ((2 : Int32)) < v3_31 then some (v1_31, v3_31) else f_nt (f_X3_setting F q v3_31) fun x32003 => (f_X3_mixed F v1_31 x32003.toInt64).bind fun x32005 => f_X3_digest_L31 F q n x32005 (v3_31 + (1 : Int32)))
set_option maxRecDepth 100000 in
def f_X3_digest_L67 (F : Nat)  : Nat → Int64 → Int32 → d_C → Option (Int64 × Int32 × d_C)
  | 0, _, _, _ => none
  | n + 1, v1_67, v3_67, q_67 => (if ((3 : Int32)) < v3_67 then some (v1_67, v3_67, q_67) else f_nt (f_X3_reach F q_67 v3_67) fun x68003 => f_let x68003.2 fun q68005 => (f_X3_mixed F v1_67 x68003.1.toInt64).bind fun x68007 => f_X3_digest_L67 F  n x68007 (v3_67 + (1 : Int32)) q68005)
set_option maxRecDepth 100000 in
def f_X3_digest_L136 (F : Nat) (q15 : d_C) : Nat → Int64 → Int32 → Option (Int64 × Int32)
  | 0, _, _ => none
  | n + 1, v1_136, v3_136 => (if q15.2.2.2.2.1 ≤ v3_136 then some (v1_136, v3_136) else (f_X0_signAt F q15.2.2.2 v3_136).bind fun x137003 => (f_X3_mixed F v1_136 x137003.toInt64).bind fun x137005 => f_X3_digest_L136 F q15 n x137005 (v3_136 + (1 : Int32)))
set_option maxRecDepth 100000 in
def f_X3_digest (F : Nat) (q : d_C) : Option (Int64 × d_C) := (f_X3_digest_L6 F q F ((2273 : Int64)) ((0 : Int32))).bind fun o1 => (f_X3_digest_L31 F q F o1.1 ((0 : Int32))).bind fun o3 => (f_X3_withLengths F q o3.1).bind fun x6 => (f_X3_withCourses F q x6).bind fun x8 => (f_X3_digest_L67 F F x8 ((0 : Int32)) q).bind fun o9 => (f_X3_dryDays F o9.2.2).bind fun x13 => f_let x13.2 fun q15 => (f_X3_mixed F o9.1 x13.1.toInt64).bind fun x17 => (f_X3_bestLength F q15).bind fun x19 => (f_X3_mixed F x17 x19.toInt64).bind fun x21 => (f_X3_meanPrice F q15).bind fun x23 => (f_X3_bitsOf F x23).bind fun x25 => (f_X3_mixed F x21 x25).bind fun x27 => (f_X3_mixed F x27 q15.2.2.2.2.1.toInt64).bind fun x29 => (f_X3_digest_L136 F q15 F x29 ((0 : Int32))).bind fun o30 => some ((o30.1, q15))
set_option maxHeartbeats 4000000 in
set_option maxRecDepth 100000 in
theorem l_X3_digest_L6 {p : Program} {l : Launch} {e : Env} {s : State} {m : MethodId} {args : Array Value} {below : List Frame} {meth : Method} {c : Code} {Q : State → Prop} {g : a_G} (F : Nat) {h : List va_E} (q : d_C) (hz : d_cls h q) : ∀ (n : Nat) (v1_6 : Int64) (v3_6 : Int32) (o : Int64 × Int32), f_X3_digest_L6 F q n v1_6 v3_6 = some o → (∀ e9 : Int64 × Int32, o = e9 → a_W p l e (a_rm 8 133) s m args below meth c Q RX3 cX3_digest 4 g 0 0 none 29 [(0, .ref 0), (1, .long e9.1)] [] h) → a_W p l e (a_rm 8 133) s m args below meth c Q RX3 cX3_digest 4 g 0 0 none 6 [(0, .ref 0), (1, .long v1_6), (3, .int v3_6)] [] h := by
  intro n
  induction n with
  | zero => intro v1_6 v3_6 o hf; exact nomatch (show (none : Option (Int64 × Int32)) = some o from hf)
  | succ n ih =>
    intro v1_6 v3_6 o hf hX0
    rw [f_X3_digest_L6] at hf
    refine a_iload_n (pc' := 7) 2 dX3_digest_6 rfl rfl rfl ?_
    refine a_bipush (pc' := 9) (v := (18 : Int32)) dX3_digest_7 rfl (by decide) ?_
    refine a_icmp_gt (pc' := 12) 29 dX3_digest_9 (by decide) rfl (fun k7001 => ?_) (fun k7001 => ?_)
    · replace hf := (if_pos k7001).symm.trans hf
      cases hf
      refine a_sub [0, 1] rfl ?_
      exact hX0 _ rfl
    · replace hf := (if_neg k7001).symm.trans hf
      refine a_lload_n (pc' := 13) 1 dX3_digest_12 rfl rfl rfl ?_
      refine a_aload_n (pc' := 14) 0 dX3_digest_13 rfl rfl rfl ?_
      refine a_iload_n (pc' := 15) 2 dX3_digest_14 rfl rfl rfl ?_
      obtain ⟨x7003, e7002, hf⟩ := f_nx hf
      refine k_X3_304 (pc' := 18) (c_X3_count l g F hz e7002) ⟨Nat.le_of_ble_eq_true rfl, Nat.le_of_ble_eq_true rfl⟩ hz.1 (Nat.le_of_ble_eq_true rfl) dX3_digest_15 rfl ?_
      refine a_i2l (pc' := 19) dX3_digest_18 rfl ?_
      obtain ⟨x7005, e7004, hf⟩ := Option.bind_eq_some_iff.mp hf
      refine k_X3_307 (pc' := 22) (c_X3_mixed l g F e7004) ⟨Nat.le_of_ble_eq_true rfl, Nat.le_of_ble_eq_true rfl⟩ (Nat.le_of_ble_eq_true rfl) dX3_digest_19 rfl ?_
      refine a_lstore_n (pc' := 23) (ls' := [(1, .long x7005), (0, .ref 0), (3, .int v3_6)]) dX3_digest_22 rfl (by decide) rfl rfl ?_
      refine a_iinc (pc' := 26) (v := v3_6 + (1 : Int32)) (ls' := [(3, .int (v3_6 + (1 : Int32))), (1, .long x7005), (0, .ref 0)]) 2 dX3_digest_23 rfl (by rfl) (by decide) rfl rfl ?_
      refine a_goto 6 dX3_digest_26 (by decide) ?_
      refine a_sub [2, 1, 0] rfl ?_
      exact ih _ _ _ hf hX0
set_option maxHeartbeats 4000000 in
set_option maxRecDepth 100000 in
theorem l_X3_digest_L31 {p : Program} {l : Launch} {e : Env} {s : State} {m : MethodId} {args : Array Value} {below : List Frame} {meth : Method} {c : Code} {Q : State → Prop} {g : a_G} (F : Nat) {h : List va_E} (q : d_C) (hz : d_cls h q) : ∀ (n : Nat) (v1_31 : Int64) (v3_31 : Int32) (o : Int64 × Int32), f_X3_digest_L31 F q n v1_31 v3_31 = some o → (∀ e9 : Int64 × Int32, o = e9 → a_W p l e (a_rm 8 133) s m args below meth c Q RX3 cX3_digest 4 g 0 0 none 53 [(0, .ref 0), (1, .long e9.1)] [] h) → a_W p l e (a_rm 8 133) s m args below meth c Q RX3 cX3_digest 4 g 0 0 none 31 [(0, .ref 0), (1, .long v1_31), (3, .int v3_31)] [] h := by
  intro n
  induction n with
  | zero => intro v1_31 v3_31 o hf; exact nomatch (show (none : Option (Int64 × Int32)) = some o from hf)
  | succ n ih =>
    intro v1_31 v3_31 o hf hX0
    rw [f_X3_digest_L31] at hf
    refine a_iload_n (pc' := 32) 2 dX3_digest_31 rfl rfl rfl ?_
    refine a_iconst (pc' := 33) (v := (2 : Int32)) dX3_digest_32 rfl (by decide) ?_
    refine a_icmp_gt (pc' := 36) 53 dX3_digest_33 (by decide) rfl (fun k32001 => ?_) (fun k32001 => ?_)
    · replace hf := (if_pos k32001).symm.trans hf
      cases hf
      refine a_sub [0, 1] rfl ?_
      exact hX0 _ rfl
    · replace hf := (if_neg k32001).symm.trans hf
      refine a_lload_n (pc' := 37) 1 dX3_digest_36 rfl rfl rfl ?_
      refine a_aload_n (pc' := 38) 0 dX3_digest_37 rfl rfl rfl ?_
      refine a_iload_n (pc' := 39) 2 dX3_digest_38 rfl rfl rfl ?_
      obtain ⟨x32003, e32002, hf⟩ := f_nx hf
      refine k_X3_311 (pc' := 42) (c_X3_setting l g F hz e32002) ⟨Nat.le_of_ble_eq_true rfl, Nat.le_of_ble_eq_true rfl⟩ hz.1 (Nat.le_of_ble_eq_true rfl) dX3_digest_39 rfl ?_
      refine a_i2l (pc' := 43) dX3_digest_42 rfl ?_
      obtain ⟨x32005, e32004, hf⟩ := Option.bind_eq_some_iff.mp hf
      refine k_X3_307 (pc' := 46) (c_X3_mixed l g F e32004) ⟨Nat.le_of_ble_eq_true rfl, Nat.le_of_ble_eq_true rfl⟩ (Nat.le_of_ble_eq_true rfl) dX3_digest_43 rfl ?_
      refine a_lstore_n (pc' := 47) (ls' := [(1, .long x32005), (0, .ref 0), (3, .int v3_31)]) dX3_digest_46 rfl (by decide) rfl rfl ?_
      refine a_iinc (pc' := 50) (v := v3_31 + (1 : Int32)) (ls' := [(3, .int (v3_31 + (1 : Int32))), (1, .long x32005), (0, .ref 0)]) 2 dX3_digest_47 rfl (by rfl) (by decide) rfl rfl ?_
      refine a_goto 31 dX3_digest_50 (by decide) ?_
      refine a_sub [2, 1, 0] rfl ?_
      exact ih _ _ _ hf hX0
set_option maxHeartbeats 4000000 in
set_option maxRecDepth 100000 in
theorem l_X3_digest_L67 {p : Program} {l : Launch} {e : Env} {s : State} {m : MethodId} {args : Array Value} {below : List Frame} {meth : Method} {c : Code} {Q : State → Prop} {g : a_G} (F : Nat) {h : List va_E}  : ∀ (n : Nat) (v1_67 : Int64) (v3_67 : Int32) (q_67 : d_C) (o : Int64 × Int32 × d_C), f_X3_digest_L67 F  n v1_67 v3_67 q_67 = some o → (∀ e9 : Int64 × Int32 × d_C, o = e9 → ∀ h1, d_cls h1 e9.2.2 → d_frm 0 55 h h1 → a_W p l e (a_rm 8 133) s m args below meth c Q RX3 cX3_digest 4 g 0 0 none 89 [(0, .ref 0), (1, .long e9.1)] [] h1) → ∀ h1, d_cls h1 q_67 → d_frm 0 55 h h1 → a_W p l e (a_rm 8 133) s m args below meth c Q RX3 cX3_digest 4 g 0 0 none 67 [(0, .ref 0), (1, .long v1_67), (3, .int v3_67)] [] h1 := by
  intro n
  induction n with
  | zero => intro v1_67 v3_67 q_67 o hf; exact nomatch (show (none : Option (Int64 × Int32 × d_C)) = some o from hf)
  | succ n ih =>
    intro v1_67 v3_67 q_67 o hf hX0 h1 hz hfr
    rw [f_X3_digest_L67] at hf
    refine a_iload_n (pc' := 68) 2 dX3_digest_67 rfl rfl rfl ?_
    refine a_iconst (pc' := 69) (v := (3 : Int32)) dX3_digest_68 rfl (by decide) ?_
    refine a_icmp_gt (pc' := 72) 89 dX3_digest_69 (by decide) rfl (fun k68001 => ?_) (fun k68001 => ?_)
    · replace hf := (if_pos k68001).symm.trans hf
      cases hf
      refine a_sub [0, 1] rfl ?_
      exact hX0 _ rfl _ hz hfr
    · replace hf := (if_neg k68001).symm.trans hf
      refine a_lload_n (pc' := 73) 1 dX3_digest_72 rfl rfl rfl ?_
      refine a_aload_n (pc' := 74) 0 dX3_digest_73 rfl rfl rfl ?_
      refine a_iload_n (pc' := 75) 2 dX3_digest_74 rfl rfl rfl ?_
      obtain ⟨x68003, e68002, hf⟩ := f_nx hf
      refine k_X3_321 (pc' := 78) (c_X3_reach l g F hz e68002) ⟨Nat.le_of_ble_eq_true rfl, Nat.le_of_ble_eq_true rfl⟩ hz.1 (Nat.le_of_ble_eq_true rfl) dX3_digest_75 rfl (fun h68004 hq => ?_)
      obtain ⟨hz1, hfr1⟩ := hq
      obtain ⟨q68005, hf, hz⟩ := f_let_x (P := fun w => d_cls h68004 w) hf hz1
      replace hfr := d_frm.tr hfr hfr1 (by omega)
      refine a_i2l (pc' := 79) dX3_digest_78 rfl ?_
      obtain ⟨x68007, e68006, hf⟩ := Option.bind_eq_some_iff.mp hf
      refine k_X3_307 (pc' := 82) (c_X3_mixed l g F e68006) ⟨Nat.le_of_ble_eq_true rfl, Nat.le_of_ble_eq_true rfl⟩ (Nat.le_of_ble_eq_true rfl) dX3_digest_79 rfl ?_
      refine a_lstore_n (pc' := 83) (ls' := [(1, .long x68007), (0, .ref 0), (3, .int v3_67)]) dX3_digest_82 rfl (by decide) rfl rfl ?_
      refine a_iinc (pc' := 86) (v := v3_67 + (1 : Int32)) (ls' := [(3, .int (v3_67 + (1 : Int32))), (1, .long x68007), (0, .ref 0)]) 2 dX3_digest_83 rfl (by rfl) (by decide) rfl rfl ?_
      refine a_goto 67 dX3_digest_86 (by decide) ?_
      refine a_sub [2, 1, 0] rfl ?_
      exact ih _ _ _ _ hf hX0 _ hz hfr
set_option maxHeartbeats 4000000 in
set_option maxRecDepth 100000 in
theorem l_X3_digest_L136 {p : Program} {l : Launch} {e : Env} {s : State} {m : MethodId} {args : Array Value} {below : List Frame} {meth : Method} {c : Code} {Q : State → Prop} {g : a_G} (F : Nat) {h : List va_E} (q15 : d_C) (hz : d_cls h q15) : ∀ (n : Nat) (v1_136 : Int64) (v3_136 : Int32) (o : Int64 × Int32), f_X3_digest_L136 F q15 n v1_136 v3_136 = some o → (∀ e9 : Int64 × Int32, o = e9 → a_W p l e (a_rm 8 133) s m args below meth c Q RX3 cX3_digest 4 g 0 0 none 167 [(1, .long e9.1)] [] h) → a_W p l e (a_rm 8 133) s m args below meth c Q RX3 cX3_digest 4 g 0 0 none 136 [(0, .ref 0), (1, .long v1_136), (3, .int v3_136)] [] h := by
  intro n
  induction n with
  | zero => intro v1_136 v3_136 o hf; exact nomatch (show (none : Option (Int64 × Int32)) = some o from hf)
  | succ n ih =>
    intro v1_136 v3_136 o hf hX0
    rw [f_X3_digest_L136] at hf
    refine a_iload_n (pc' := 137) 2 dX3_digest_136 rfl rfl rfl ?_
    refine a_aload_n (pc' := 138) 0 dX3_digest_137 rfl rfl rfl ?_
    refine g_X3_29 (pc' := 141) hz.1 rfl dX3_digest_138 rfl ?_
    refine g_X3_204 (pc' := 144) hz.2.2.2.2.1 rfl dX3_digest_141 rfl ?_
    refine a_icmp_ge (pc' := 147) 167 dX3_digest_144 (by decide) rfl (fun k137001 => ?_) (fun k137001 => ?_)
    · replace hf := (if_pos k137001).symm.trans hf
      cases hf
      refine a_sub [1] rfl ?_
      exact hX0 _ rfl
    · replace hf := (if_neg k137001).symm.trans hf
      refine a_lload_n (pc' := 148) 1 dX3_digest_147 rfl rfl rfl ?_
      refine a_aload_n (pc' := 149) 0 dX3_digest_148 rfl rfl rfl ?_
      refine g_X3_29 (pc' := 152) hz.1 rfl dX3_digest_149 rfl ?_
      refine a_iload_n (pc' := 153) 2 dX3_digest_152 rfl rfl rfl ?_
      obtain ⟨x137003, e137002, hf⟩ := Option.bind_eq_some_iff.mp hf
      refine k_X3_338 (pc' := 156) (c_X0_signAt l g F hz.2.2.2.2 e137002) ⟨Nat.le_of_ble_eq_true rfl, Nat.le_of_ble_eq_true rfl⟩ hz.2.2.2.2.1 (Nat.le_of_ble_eq_true rfl) dX3_digest_153 rfl ?_
      refine a_i2l (pc' := 157) dX3_digest_156 rfl ?_
      obtain ⟨x137005, e137004, hf⟩ := Option.bind_eq_some_iff.mp hf
      refine k_X3_307 (pc' := 160) (c_X3_mixed l g F e137004) ⟨Nat.le_of_ble_eq_true rfl, Nat.le_of_ble_eq_true rfl⟩ (Nat.le_of_ble_eq_true rfl) dX3_digest_157 rfl ?_
      refine a_lstore_n (pc' := 161) (ls' := [(1, .long x137005), (0, .ref 0), (3, .int v3_136)]) dX3_digest_160 rfl (by decide) rfl rfl ?_
      refine a_iinc (pc' := 164) (v := v3_136 + (1 : Int32)) (ls' := [(3, .int (v3_136 + (1 : Int32))), (1, .long x137005), (0, .ref 0)]) 2 dX3_digest_161 rfl (by rfl) (by decide) rfl rfl ?_
      refine a_goto 136 dX3_digest_164 (by decide) ?_
      refine a_sub [2, 1, 0] rfl ?_
      exact ih _ _ _ hf hX0
set_option maxHeartbeats 4000000 in
set_option maxRecDepth 100000 in
theorem c_X3_digest (l : Launch) (g : a_G) (F : Nat) {h : List va_E} {q : d_C} (hz : d_cls h q) {out : Int64 × d_C} (hf : f_X3_digest F q = some out) : a_CT l g yX3_digest cX3_digest 4 (some .long) (a_rm 8 133) [.ref 0] h none none (fun r h' => r = some (.long out.1) ∧ d_cls h' out.2 ∧ d_frm 0 55 h h') := by
  refine a_enter ⟨by decide, rfl, Nat.le_of_ble_eq_true rfl⟩ (fun p e s m args below meth c hr hin => ?_)
  unfold f_X3_digest at hf
  have hfr : d_frm 0 55 h h := d_frm.rf
  refine a_sub (ls' := [(0, .ref 0)]) [0] rfl ?_
  refine a_ldc2 (pc' := 3) (v := (2273 : Int64)) (a_in2 126 rfl rfl) dX3_digest_0 rfl ?_
  refine a_lstore_n (pc' := 4) (ls' := [(1, .long ((2273 : Int64))), (0, .ref 0)]) dX3_digest_3 rfl (by decide) rfl rfl ?_
  refine a_iconst (pc' := 5) (v := (0 : Int32)) dX3_digest_4 rfl (by decide) ?_
  refine a_istore_n (pc' := 6) (ls' := [(3, .int ((0 : Int32))), (1, .long ((2273 : Int64))), (0, .ref 0)]) dX3_digest_5 rfl (by decide) rfl rfl ?_
  obtain ⟨o1, e2, hf⟩ := Option.bind_eq_some_iff.mp hf
  refine a_sub [2, 1, 0] rfl ?_
  refine l_X3_digest_L6 F q hz F _ _ o1 e2 (fun e9 he9 => ?_)
  subst he9
  refine a_iconst (pc' := 30) (v := (0 : Int32)) dX3_digest_29 rfl (by decide) ?_
  refine a_istore_n (pc' := 31) (ls' := [(3, .int ((0 : Int32))), (0, .ref 0), (1, .long o1.1)]) dX3_digest_30 rfl (by decide) rfl rfl ?_
  obtain ⟨o3, e4, hf⟩ := Option.bind_eq_some_iff.mp hf
  refine a_sub [1, 2, 0] rfl ?_
  refine l_X3_digest_L31 F q hz F _ _ o3 e4 (fun e9 he9 => ?_)
  subst he9
  refine a_aload_n (pc' := 54) 0 dX3_digest_53 rfl rfl rfl ?_
  refine a_lload_n (pc' := 55) 1 dX3_digest_54 rfl rfl rfl ?_
  obtain ⟨x6, e5, hf⟩ := Option.bind_eq_some_iff.mp hf
  refine k_X3_314 (pc' := 58) (c_X3_withLengths l g F hz e5) ⟨Nat.le_of_ble_eq_true rfl, Nat.le_of_ble_eq_true rfl⟩ hz.1 (Nat.le_of_ble_eq_true rfl) dX3_digest_55 rfl ?_
  refine a_lstore_n (pc' := 59) (ls' := [(1, .long x6), (0, .ref 0)]) dX3_digest_58 rfl (by decide) rfl rfl ?_
  refine a_aload_n (pc' := 60) 1 dX3_digest_59 rfl rfl rfl ?_
  refine a_lload_n (pc' := 61) 0 dX3_digest_60 rfl rfl rfl ?_
  obtain ⟨x8, e7, hf⟩ := Option.bind_eq_some_iff.mp hf
  refine k_X3_318 (pc' := 64) (c_X3_withCourses l g F hz e7) ⟨Nat.le_of_ble_eq_true rfl, Nat.le_of_ble_eq_true rfl⟩ hz.1 (Nat.le_of_ble_eq_true rfl) dX3_digest_61 rfl ?_
  refine a_lstore_n (pc' := 65) (ls' := [(1, .long x8), (0, .ref 0)]) dX3_digest_64 rfl (by decide) rfl rfl ?_
  refine a_iconst (pc' := 66) (v := (0 : Int32)) dX3_digest_65 rfl (by decide) ?_
  refine a_istore_n (pc' := 67) (ls' := [(3, .int ((0 : Int32))), (1, .long x8), (0, .ref 0)]) dX3_digest_66 rfl (by decide) rfl rfl ?_
  obtain ⟨o9, e10, hf⟩ := Option.bind_eq_some_iff.mp hf
  refine a_sub [2, 1, 0] rfl ?_
  refine l_X3_digest_L67 F   F _ _ _ o9 e10 (fun e9 he9 h11 hz hfr => ?_) _ hz hfr
  subst he9
  refine a_lload_n (pc' := 90) 1 dX3_digest_89 rfl rfl rfl ?_
  refine a_aload_n (pc' := 91) 0 dX3_digest_90 rfl rfl rfl ?_
  obtain ⟨x13, e12, hf⟩ := Option.bind_eq_some_iff.mp hf
  refine k_X3_324 (pc' := 94) (c_X3_dryDays l g F hz e12) ⟨Nat.le_of_ble_eq_true rfl, Nat.le_of_ble_eq_true rfl⟩ hz.1 (Nat.le_of_ble_eq_true rfl) dX3_digest_91 rfl (fun h14 hq => ?_)
  obtain ⟨hz1, hfr1⟩ := hq
  obtain ⟨q15, hf, hz⟩ := f_let_x (P := fun w => d_cls h14 w) hf hz1
  replace hfr := d_frm.tr hfr hfr1 (by omega)
  refine a_i2l (pc' := 95) dX3_digest_94 rfl ?_
  obtain ⟨x17, e16, hf⟩ := Option.bind_eq_some_iff.mp hf
  refine k_X3_307 (pc' := 98) (c_X3_mixed l g F e16) ⟨Nat.le_of_ble_eq_true rfl, Nat.le_of_ble_eq_true rfl⟩ (Nat.le_of_ble_eq_true rfl) dX3_digest_95 rfl ?_
  refine a_lstore_n (pc' := 99) (ls' := [(1, .long x17), (0, .ref 0)]) dX3_digest_98 rfl (by decide) rfl rfl ?_
  refine a_lload_n (pc' := 100) 0 dX3_digest_99 rfl rfl rfl ?_
  refine a_aload_n (pc' := 101) 1 dX3_digest_100 rfl rfl rfl ?_
  obtain ⟨x19, e18, hf⟩ := Option.bind_eq_some_iff.mp hf
  refine k_X3_327 (pc' := 104) (c_X3_bestLength l g F hz e18) ⟨Nat.le_of_ble_eq_true rfl, Nat.le_of_ble_eq_true rfl⟩ hz.1 (Nat.le_of_ble_eq_true rfl) dX3_digest_101 rfl ?_
  refine a_i2l (pc' := 105) dX3_digest_104 rfl ?_
  obtain ⟨x21, e20, hf⟩ := Option.bind_eq_some_iff.mp hf
  refine k_X3_307 (pc' := 108) (c_X3_mixed l g F e20) ⟨Nat.le_of_ble_eq_true rfl, Nat.le_of_ble_eq_true rfl⟩ (Nat.le_of_ble_eq_true rfl) dX3_digest_105 rfl ?_
  refine a_lstore_n (pc' := 109) (ls' := [(1, .long x21), (0, .ref 0)]) dX3_digest_108 rfl (by decide) rfl rfl ?_
  refine a_lload_n (pc' := 110) 0 dX3_digest_109 rfl rfl rfl ?_
  refine a_aload_n (pc' := 111) 1 dX3_digest_110 rfl rfl rfl ?_
  obtain ⟨x23, e22, hf⟩ := Option.bind_eq_some_iff.mp hf
  refine k_X3_330 (pc' := 114) (c_X3_meanPrice l g F hz e22) ⟨Nat.le_of_ble_eq_true rfl, Nat.le_of_ble_eq_true rfl⟩ hz.1 (Nat.le_of_ble_eq_true rfl) dX3_digest_111 rfl ?_
  obtain ⟨x25, e24, hf⟩ := Option.bind_eq_some_iff.mp hf
  refine k_X3_334 (pc' := 117) (c_X3_bitsOf l g F e24) ⟨Nat.le_of_ble_eq_true rfl, Nat.le_of_ble_eq_true rfl⟩ (Nat.le_of_ble_eq_true rfl) dX3_digest_114 rfl ?_
  obtain ⟨x27, e26, hf⟩ := Option.bind_eq_some_iff.mp hf
  refine k_X3_307 (pc' := 120) (c_X3_mixed l g F e26) ⟨Nat.le_of_ble_eq_true rfl, Nat.le_of_ble_eq_true rfl⟩ (Nat.le_of_ble_eq_true rfl) dX3_digest_117 rfl ?_
  refine a_lstore_n (pc' := 121) (ls' := [(1, .long x27), (0, .ref 0)]) dX3_digest_120 rfl (by decide) rfl rfl ?_
  refine a_lload_n (pc' := 122) 0 dX3_digest_121 rfl rfl rfl ?_
  refine a_aload_n (pc' := 123) 1 dX3_digest_122 rfl rfl rfl ?_
  refine g_X3_29 (pc' := 126) hz.1 rfl dX3_digest_123 rfl ?_
  refine g_X3_204 (pc' := 129) hz.2.2.2.2.1 rfl dX3_digest_126 rfl ?_
  refine a_i2l (pc' := 130) dX3_digest_129 rfl ?_
  obtain ⟨x29, e28, hf⟩ := Option.bind_eq_some_iff.mp hf
  refine k_X3_307 (pc' := 133) (c_X3_mixed l g F e28) ⟨Nat.le_of_ble_eq_true rfl, Nat.le_of_ble_eq_true rfl⟩ (Nat.le_of_ble_eq_true rfl) dX3_digest_130 rfl ?_
  refine a_lstore_n (pc' := 134) (ls' := [(1, .long x29), (0, .ref 0)]) dX3_digest_133 rfl (by decide) rfl rfl ?_
  refine a_iconst (pc' := 135) (v := (0 : Int32)) dX3_digest_134 rfl (by decide) ?_
  refine a_istore_n (pc' := 136) (ls' := [(3, .int ((0 : Int32))), (1, .long x29), (0, .ref 0)]) dX3_digest_135 rfl (by decide) rfl rfl ?_
  obtain ⟨o30, e31, hf⟩ := Option.bind_eq_some_iff.mp hf
  refine a_sub [2, 1, 0] rfl ?_
  refine l_X3_digest_L136 F q15 hz F _ _ o30 e31 (fun e9 he9 => ?_)
  subst he9
  refine a_lload_n (pc' := 168) 0 dX3_digest_167 rfl rfl rfl ?_
  cases hf
  exact a_lret hr ⟨rfl, hz, hfr⟩ dX3_digest_168
/-! SlateRoofModel.thrown()I -/
set_option maxRecDepth 100000 in
def f_X4_thrown (F : Nat) (M : d_M) : Option (Int32) := some (m_thrown M)
set_option maxHeartbeats 4000000 in
set_option maxRecDepth 100000 in
theorem c_X4_thrown (l : Launch) (g : a_G) (F : Nat) {h : List va_E} {M : d_M} (hz : d_mod h M) {out : Int32} (hf : f_X4_thrown F M = some out) : a_CT l g yX4_thrown cX4_thrown 1 (some .int) (a_rm 0 0) [.ref 55] h none none (fun r h' => r = some (.int out) ∧ h' = h) := by
  refine a_enter ⟨by decide, rfl, Nat.le_of_ble_eq_true rfl⟩ (fun p e s m args below meth c hr hin => ?_)
  unfold f_X4_thrown at hf
  refine a_sub (ls' := [(0, .ref 55)]) [0] rfl ?_
  refine a_aload_n (pc' := 1) 0 dX4_thrown_0 rfl rfl rfl ?_
  refine g_X4_25 (pc' := 4) hz.1 rfl dX4_thrown_1 rfl ?_
  cases hf
  exact a_iret hr ⟨rfl, rfl⟩ dX4_thrown_4
/-! SlateRoofModel.fails(I)I -/
set_option maxRecDepth 100000 in
def f_X4_fails (F : Nat) (M : d_M) (a1 : Int32) : Option (Int32 × d_M) := f_let (ms_thrown M a1) fun M2 => some (((0 : Int32), M2))
set_option maxHeartbeats 4000000 in
set_option maxRecDepth 100000 in
theorem c_X4_fails (l : Launch) (g : a_G) (F : Nat) {h : List va_E} {M : d_M} {a1 : Int32} (hz : d_mod h M) {out : Int32 × d_M} (hf : f_X4_fails F M a1 = some out) : a_CT l g yX4_fails cX4_fails 2 (some .int) (a_rm 0 0) [.ref 55, .int a1] h none none (fun r h' => r = some (.int out.1) ∧ d_mod h' out.2 ∧ d_frm 55 6 h h') := by
  refine a_enter ⟨by decide, rfl, Nat.le_of_ble_eq_true rfl⟩ (fun p e s m args below meth c hr hin => ?_)
  unfold f_X4_fails at hf
  have hfr : d_frm 55 6 h h := d_frm.rf
  refine a_sub (ls' := [(0, .ref 55), (1, .int a1)]) [0, 1] rfl ?_
  refine a_aload_n (pc' := 1) 0 dX4_fails_0 rfl rfl rfl ?_
  refine a_iload_n (pc' := 2) 1 dX4_fails_1 rfl rfl rfl ?_
  refine pt_X4_25 (pc' := 5) hz dX4_fails_2 rfl (fun h1 hz1 hfr1 => ?_)
  obtain ⟨M2, hf, hz⟩ := f_let_x (P := fun w => d_mod h1 w) hf hz1
  replace hfr := d_frm.tr hfr hfr1 (by omega)
  refine a_iconst (pc' := 6) (v := (0 : Int32)) dX4_fails_5 rfl (by decide) ?_
  cases hf
  exact a_iret hr ⟨rfl, hz, hfr⟩ dX4_fails_6
/-! SlateRoofModel.within(III)Z -/
set_option maxRecDepth 100000 in
def f_X4_within (F : Nat) (a1 : Int32) (a2 : Int32) (a3 : Int32) : Option (Int32) := (if a1 < a2 then some ((0 : Int32)) else (if a3 < a1 then some ((0 : Int32)) else some ((1 : Int32))))
set_option maxHeartbeats 4000000 in
set_option maxRecDepth 100000 in
theorem c_X4_within (l : Launch) (g : a_G) (F : Nat) {h : List va_E} {a1 : Int32} {a2 : Int32} {a3 : Int32} {out : Int32} (hf : f_X4_within F a1 a2 a3 = some out) : a_CT l g yX4_within cX4_within 3 (some .boolean) (a_rm 0 0) [.int a1, .int a2, .int a3] h none none (fun r h' => r = some (.int out) ∧ h' = h) := by
  refine a_enter ⟨by decide, rfl, Nat.le_of_ble_eq_true rfl⟩ (fun p e s m args below meth c hr hin => ?_)
  unfold f_X4_within at hf
  refine a_sub (ls' := [(0, .int a1), (1, .int a2), (2, .int a3)]) [0, 1, 2] rfl ?_
  refine a_iload_n (pc' := 1) 0 dX4_within_0 rfl rfl rfl ?_
  refine a_iload_n (pc' := 2) 1 dX4_within_1 rfl rfl rfl ?_
  refine a_icmp_lt (pc' := 5) 14 dX4_within_2 (by decide) rfl (fun k1 => ?_) (fun k1 => ?_)
  · replace hf := (if_pos k1).symm.trans hf
    refine a_iconst (pc' := 15) (v := (0 : Int32)) dX4_within_14 rfl (by decide) ?_
    cases hf
    exact a_zret hr rfl ⟨rfl, rfl⟩ dX4_within_15
  · replace hf := (if_neg k1).symm.trans hf
    refine a_iload_n (pc' := 6) 0 dX4_within_5 rfl rfl rfl ?_
    refine a_iload_n (pc' := 7) 2 dX4_within_6 rfl rfl rfl ?_
    refine a_icmp_gt (pc' := 10) 14 dX4_within_7 (by decide) rfl (fun k2 => ?_) (fun k2 => ?_)
    · replace hf := (if_pos k2).symm.trans hf
      refine a_iconst (pc' := 15) (v := (0 : Int32)) dX4_within_14 rfl (by decide) ?_
      cases hf
      exact a_zret hr rfl ⟨rfl, rfl⟩ dX4_within_15
    · replace hf := (if_neg k2).symm.trans hf
      refine a_iconst (pc' := 11) (v := (1 : Int32)) dX4_within_10 rfl (by decide) ?_
      refine a_goto 15 dX4_within_11 (by decide) ?_
      cases hf
      exact a_zret hr rfl ⟨rfl, rfl⟩ dX4_within_15
/-! SlateRoofModel.isLength(I)Z -/
set_option maxRecDepth 100000 in
def f_X4_isLength (F : Nat) (a1 : Int32) : Option (Int32) := (f_X4_within F a1 ((8 : Int32)) ((24 : Int32))).bind fun x2 => f_if (x2 = 0 ∨ x2 = 1) (some (x2))
set_option maxHeartbeats 4000000 in
set_option maxRecDepth 100000 in
theorem c_X4_isLength (l : Launch) (g : a_G) (F : Nat) {h : List va_E} {a1 : Int32} {out : Int32} (hf : f_X4_isLength F a1 = some out) : a_CT l g yX4_isLength cX4_isLength 1 (some .boolean) (a_rm 1 22) [.int a1] h none none (fun r h' => r = some (.int out) ∧ h' = h) := by
  refine a_enter ⟨by decide, rfl, Nat.le_of_ble_eq_true rfl⟩ (fun p e s m args below meth c hr hin => ?_)
  unfold f_X4_isLength at hf
  refine a_sub (ls' := [(0, .int a1)]) [0] rfl ?_
  refine a_iload_n (pc' := 1) 0 dX4_isLength_0 rfl rfl rfl ?_
  refine a_bipush (pc' := 3) (v := (8 : Int32)) dX4_isLength_1 rfl (by decide) ?_
  refine a_bipush (pc' := 5) (v := (24 : Int32)) dX4_isLength_3 rfl (by decide) ?_
  obtain ⟨x2, e1, hf⟩ := Option.bind_eq_some_iff.mp hf
  refine k_X4_29 (pc' := 8) (c_X4_within l g F e1) ⟨Nat.le_of_ble_eq_true rfl, Nat.le_of_ble_eq_true rfl⟩ (Nat.le_of_ble_eq_true rfl) dX4_isLength_5 rfl ?_
  obtain ⟨hg, hf⟩ := f_if_x hf
  cases hf
  exact a_zret hr (b_bool hg) ⟨rfl, rfl⟩ dX4_isLength_8
/-! SlateRoofModel.save()V -/
set_option maxRecDepth 100000 in
def f_X4_save_L52 (F : Nat)  : Nat → Int32 → d_M → Option (Int32 × d_M)
  | 0, _, _ => none
  | n + 1, v1_52, M_52 => (if ((294 : Int32)) ≤ v1_52 then some (v1_52, M_52) else f_grd v1_52 294 (f_grd ((((294 : Int32)) * (m_saved M_52)) + v1_52) 1764 (f_let (ms_rows M_52 (upd (m_rows M_52) ((((294 : Int32)) * (m_saved M_52)) + v1_52).toNatClampNeg ((m_z M_52) v1_52.toNatClampNeg))) fun M53003 => f_X4_save_L52 F  n (v1_52 + (1 : Int32)) M53003)))
set_option maxRecDepth 100000 in
def f_X4_save_L11 (F : Nat)  : Nat → Int32 → d_M → Option (Int32 × d_M)
  | 0, _, _ => none
  | n + 1, v1_11, M_11 => (if ((1470 : Int32)) ≤ v1_11 then some (v1_11, M_11) else f_grd (((294 : Int32)) + v1_11) 1764 (f_grd v1_11 1764 (f_let (ms_rows M_11 (upd (m_rows M_11) v1_11.toNatClampNeg ((m_rows M_11) (((294 : Int32)) + v1_11).toNatClampNeg))) fun M12003 => f_X4_save_L11 F  n (v1_11 + (1 : Int32)) M12003)))
set_option maxRecDepth 100000 in
def f_X4_save (F : Nat) (M : d_M) : Option (d_M) := (if (m_saved M) = ((6 : Int32)) then (f_X4_save_L11 F F ((0 : Int32)) M).bind fun o7 => f_let (ms_saved o7.2 ((m_saved o7.2) - ((1 : Int32)))) fun M11 => (f_X4_save_L52 F F ((0 : Int32)) M11).bind fun o12 => f_let (ms_saved o12.2 ((m_saved o12.2) + ((1 : Int32)))) fun M16 => some (M16) else (f_X4_save_L52 F F ((0 : Int32)) M).bind fun o2 => f_let (ms_saved o2.2 ((m_saved o2.2) + ((1 : Int32)))) fun M6 => some (M6))
set_option maxHeartbeats 4000000 in
set_option maxRecDepth 100000 in
theorem l_X4_save_L52 {p : Program} {l : Launch} {e : Env} {s : State} {m : MethodId} {args : Array Value} {below : List Frame} {meth : Method} {c : Code} {Q : State → Prop} {g : a_G} (F : Nat) {h : List va_E}  : ∀ (n : Nat) (v1_52 : Int32) (M_52 : d_M) (o : Int32 × d_M), f_X4_save_L52 F  n v1_52 M_52 = some o → (∀ e9 : Int32 × d_M, o = e9 → ∀ h1, d_mod h1 e9.2 → d_frm 55 6 h h1 → a_W p l e (a_rm 0 0) s m args below meth c Q RX4 cX4_save 2 g 0 0 none 86 [(0, .ref 55)] [] h1) → ∀ h1, d_mod h1 M_52 → d_frm 55 6 h h1 → a_W p l e (a_rm 0 0) s m args below meth c Q RX4 cX4_save 2 g 0 0 none 52 [(0, .ref 55), (1, .int v1_52)] [] h1 := by
  intro n
  induction n with
  | zero => intro v1_52 M_52 o hf; exact nomatch (show (none : Option (Int32 × d_M)) = some o from hf)
  | succ n ih =>
    intro v1_52 M_52 o hf hX0 h1 hz hfr
    rw [f_X4_save_L52] at hf
    refine a_iload_n (pc' := 53) 1 dX4_save_52 rfl rfl rfl ?_
    refine a_sipush (pc' := 56) (v := (294 : Int32)) dX4_save_53 rfl (by decide) ?_
    refine a_icmp_ge (pc' := 59) 86 dX4_save_56 (by decide) rfl (fun k53001 => ?_) (fun k53001 => ?_)
    · replace hf := (if_pos k53001).symm.trans hf
      cases hf
      refine a_sub [0] rfl ?_
      exact hX0 _ rfl _ hz hfr
    · replace hf := (if_neg k53001).symm.trans hf
      refine a_aload_n (pc' := 60) 0 dX4_save_59 rfl rfl rfl ?_
      refine g_X4_16 (pc' := 63) hz.1 rfl dX4_save_60 rfl ?_
      refine a_sipush (pc' := 66) (v := (294 : Int32)) dX4_save_63 rfl (by decide) ?_
      refine a_aload_n (pc' := 67) 0 dX4_save_66 rfl rfl rfl ?_
      refine g_X4_33 (pc' := 70) hz.1 rfl dX4_save_67 rfl ?_
      refine a_imul (pc' := 71) dX4_save_70 rfl ?_
      refine a_iload_n (pc' := 72) 1 dX4_save_71 rfl rfl rfl ?_
      refine a_iadd (pc' := 73) dX4_save_72 rfl ?_
      refine a_aload_n (pc' := 74) 0 dX4_save_73 rfl rfl rfl ?_
      refine g_X4_7 (pc' := 77) hz.1 rfl dX4_save_74 rfl ?_
      refine a_iload_n (pc' := 78) 1 dX4_save_77 rfl rfl rfl ?_
      obtain ⟨hg, hf⟩ := f_grd_x hf
      refine b_iald (pc' := 79) hz.2.1 hg dX4_save_78 rfl ?_
      obtain ⟨hg, hf⟩ := f_grd_x hf
      refine b_iast (pc' := 80) hz.2.2.2.1 hg dX4_save_79 rfl (fun h53002 hz1 hfr1 => ?_)
      obtain ⟨hz1, hfr1⟩ := d_ma_rows hz hz1 hfr1
      obtain ⟨M53003, hf, hz⟩ := f_let_x (P := fun w => d_mod h53002 w) hf hz1
      replace hfr := d_frm.tr hfr hfr1 (by omega)
      refine a_iinc (pc' := 83) (v := v1_52 + (1 : Int32)) (ls' := [(1, .int (v1_52 + (1 : Int32))), (0, .ref 55)]) 1 dX4_save_80 rfl (by rfl) (by decide) rfl rfl ?_
      refine a_goto 52 dX4_save_83 (by decide) ?_
      refine a_sub [1, 0] rfl ?_
      exact ih _ _ _ hf hX0 _ hz hfr
set_option maxHeartbeats 4000000 in
set_option maxRecDepth 100000 in
theorem l_X4_save_L11 {p : Program} {l : Launch} {e : Env} {s : State} {m : MethodId} {args : Array Value} {below : List Frame} {meth : Method} {c : Code} {Q : State → Prop} {g : a_G} (F : Nat) {h : List va_E}  : ∀ (n : Nat) (v1_11 : Int32) (M_11 : d_M) (o : Int32 × d_M), f_X4_save_L11 F  n v1_11 M_11 = some o → (∀ e9 : Int32 × d_M, o = e9 → ∀ h1, d_mod h1 e9.2 → d_frm 55 6 h h1 → a_W p l e (a_rm 0 0) s m args below meth c Q RX4 cX4_save 2 g 0 0 none 40 [(0, .ref 55)] [] h1) → ∀ h1, d_mod h1 M_11 → d_frm 55 6 h h1 → a_W p l e (a_rm 0 0) s m args below meth c Q RX4 cX4_save 2 g 0 0 none 11 [(0, .ref 55), (1, .int v1_11)] [] h1 := by
  intro n
  induction n with
  | zero => intro v1_11 M_11 o hf; exact nomatch (show (none : Option (Int32 × d_M)) = some o from hf)
  | succ n ih =>
    intro v1_11 M_11 o hf hX0 h1 hz hfr
    rw [f_X4_save_L11] at hf
    refine a_iload_n (pc' := 12) 1 dX4_save_11 rfl rfl rfl ?_
    refine a_sipush (pc' := 15) (v := (1470 : Int32)) dX4_save_12 rfl (by decide) ?_
    refine a_icmp_ge (pc' := 18) 40 dX4_save_15 (by decide) rfl (fun k12001 => ?_) (fun k12001 => ?_)
    · replace hf := (if_pos k12001).symm.trans hf
      cases hf
      refine a_sub [0] rfl ?_
      exact hX0 _ rfl _ hz hfr
    · replace hf := (if_neg k12001).symm.trans hf
      refine a_aload_n (pc' := 19) 0 dX4_save_18 rfl rfl rfl ?_
      refine g_X4_16 (pc' := 22) hz.1 rfl dX4_save_19 rfl ?_
      refine a_iload_n (pc' := 23) 1 dX4_save_22 rfl rfl rfl ?_
      refine a_aload_n (pc' := 24) 0 dX4_save_23 rfl rfl rfl ?_
      refine g_X4_16 (pc' := 27) hz.1 rfl dX4_save_24 rfl ?_
      refine a_sipush (pc' := 30) (v := (294 : Int32)) dX4_save_27 rfl (by decide) ?_
      refine a_iload_n (pc' := 31) 1 dX4_save_30 rfl rfl rfl ?_
      refine a_iadd (pc' := 32) dX4_save_31 rfl ?_
      obtain ⟨hg, hf⟩ := f_grd_x hf
      refine b_iald (pc' := 33) hz.2.2.2.1 hg dX4_save_32 rfl ?_
      obtain ⟨hg, hf⟩ := f_grd_x hf
      refine b_iast (pc' := 34) hz.2.2.2.1 hg dX4_save_33 rfl (fun h12002 hz1 hfr1 => ?_)
      obtain ⟨hz1, hfr1⟩ := d_ma_rows hz hz1 hfr1
      obtain ⟨M12003, hf, hz⟩ := f_let_x (P := fun w => d_mod h12002 w) hf hz1
      replace hfr := d_frm.tr hfr hfr1 (by omega)
      refine a_iinc (pc' := 37) (v := v1_11 + (1 : Int32)) (ls' := [(1, .int (v1_11 + (1 : Int32))), (0, .ref 55)]) 1 dX4_save_34 rfl (by rfl) (by decide) rfl rfl ?_
      refine a_goto 11 dX4_save_37 (by decide) ?_
      refine a_sub [1, 0] rfl ?_
      exact ih _ _ _ hf hX0 _ hz hfr
set_option maxHeartbeats 4000000 in
set_option maxRecDepth 100000 in
theorem c_X4_save (l : Launch) (g : a_G) (F : Nat) {h : List va_E} {M : d_M} (hz : d_mod h M) {out : d_M} (hf : f_X4_save F M = some out) : a_CT l g yX4_save cX4_save 2 none (a_rm 0 0) [.ref 55] h none none (fun r h' => r = none ∧ d_mod h' out ∧ d_frm 55 6 h h') := by
  refine a_enter ⟨by decide, rfl, Nat.le_of_ble_eq_true rfl⟩ (fun p e s m args below meth c hr hin => ?_)
  unfold f_X4_save at hf
  have hfr : d_frm 55 6 h h := d_frm.rf
  refine a_sub (ls' := [(0, .ref 55)]) [0] rfl ?_
  refine a_aload_n (pc' := 1) 0 dX4_save_0 rfl rfl rfl ?_
  refine g_X4_33 (pc' := 4) hz.1 rfl dX4_save_1 rfl ?_
  refine a_bipush (pc' := 6) (v := (6 : Int32)) dX4_save_4 rfl (by decide) ?_
  refine a_icmp_ne (pc' := 9) 50 dX4_save_6 (by decide) rfl (fun k1 => ?_) (fun k1 => ?_)
  · replace hf := (if_neg k1).symm.trans hf
    refine a_iconst (pc' := 51) (v := (0 : Int32)) dX4_save_50 rfl (by decide) ?_
    refine a_istore_n (pc' := 52) (ls' := [(1, .int ((0 : Int32))), (0, .ref 55)]) dX4_save_51 rfl (by decide) rfl rfl ?_
    obtain ⟨o2, e3, hf⟩ := Option.bind_eq_some_iff.mp hf
    refine a_sub [1, 0] rfl ?_
    refine l_X4_save_L52 F   F _ _ o2 e3 (fun e9 he9 h4 hz hfr => ?_) _ hz hfr
    subst he9
    refine a_aload_n (pc' := 87) 0 dX4_save_86 rfl rfl rfl ?_
    refine a_dup (pc' := 88) dX4_save_87 rfl rfl ?_
    refine g_X4_33 (pc' := 91) hz.1 rfl dX4_save_88 rfl ?_
    refine a_iconst (pc' := 92) (v := (1 : Int32)) dX4_save_91 rfl (by decide) ?_
    refine a_iadd (pc' := 93) dX4_save_92 rfl ?_
    refine pt_X4_33 (pc' := 96) hz dX4_save_93 rfl (fun h5 hz1 hfr1 => ?_)
    obtain ⟨M6, hf, hz⟩ := f_let_x (P := fun w => d_mod h5 w) hf hz1
    replace hfr := d_frm.tr hfr hfr1 (by omega)
    cases hf
    exact a_vret hr ⟨rfl, hz, hfr⟩ dX4_save_96
  · replace hf := (if_pos k1).symm.trans hf
    refine a_iconst (pc' := 10) (v := (0 : Int32)) dX4_save_9 rfl (by decide) ?_
    refine a_istore_n (pc' := 11) (ls' := [(1, .int ((0 : Int32))), (0, .ref 55)]) dX4_save_10 rfl (by decide) rfl rfl ?_
    obtain ⟨o7, e8, hf⟩ := Option.bind_eq_some_iff.mp hf
    refine a_sub [1, 0] rfl ?_
    refine l_X4_save_L11 F   F _ _ o7 e8 (fun e9 he9 h9 hz hfr => ?_) _ hz hfr
    subst he9
    refine a_aload_n (pc' := 41) 0 dX4_save_40 rfl rfl rfl ?_
    refine a_dup (pc' := 42) dX4_save_41 rfl rfl ?_
    refine g_X4_33 (pc' := 45) hz.1 rfl dX4_save_42 rfl ?_
    refine a_iconst (pc' := 46) (v := (1 : Int32)) dX4_save_45 rfl (by decide) ?_
    refine a_isub (pc' := 47) dX4_save_46 rfl ?_
    refine pt_X4_33 (pc' := 50) hz dX4_save_47 rfl (fun h10 hz1 hfr1 => ?_)
    obtain ⟨M11, hf, hz⟩ := f_let_x (P := fun w => d_mod h10 w) hf hz1
    replace hfr := d_frm.tr hfr hfr1 (by omega)
    refine a_iconst (pc' := 51) (v := (0 : Int32)) dX4_save_50 rfl (by decide) ?_
    refine a_istore_n (pc' := 52) (ls' := [(1, .int ((0 : Int32))), (0, .ref 55)]) dX4_save_51 rfl (by decide) rfl rfl ?_
    obtain ⟨o12, e13, hf⟩ := Option.bind_eq_some_iff.mp hf
    refine a_sub [1, 0] rfl ?_
    refine l_X4_save_L52 F   F _ _ o12 e13 (fun e9 he9 h14 hz hfr => ?_) _ hz hfr
    subst he9
    refine a_aload_n (pc' := 87) 0 dX4_save_86 rfl rfl rfl ?_
    refine a_dup (pc' := 88) dX4_save_87 rfl rfl ?_
    refine g_X4_33 (pc' := 91) hz.1 rfl dX4_save_88 rfl ?_
    refine a_iconst (pc' := 92) (v := (1 : Int32)) dX4_save_91 rfl (by decide) ?_
    refine a_iadd (pc' := 93) dX4_save_92 rfl ?_
    refine pt_X4_33 (pc' := 96) hz dX4_save_93 rfl (fun h15 hz1 hfr1 => ?_)
    obtain ⟨M16, hf, hz⟩ := f_let_x (P := fun w => d_mod h15 w) hf hz1
    replace hfr := d_frm.tr hfr hfr1 (by omega)
    cases hf
    exact a_vret hr ⟨rfl, hz, hfr⟩ dX4_save_96
/-! SlateRoofModel.keep()V -/
set_option maxRecDepth 100000 in
def f_X4_keep_L2 (F : Nat)  : Nat → Int32 → d_M → Option (Int32 × d_M)
  | 0, _, _ => none
  | n + 1, v1_2, M_2 => (if ((294 : Int32)) ≤ v1_2 then some (v1_2, M_2) else f_grd v1_2 294 (f_grd v1_2 294 (f_let (ms_aside M_2 (upd (m_aside M_2) v1_2.toNatClampNeg ((m_z M_2) v1_2.toNatClampNeg))) fun M3003 => f_X4_keep_L2 F  n (v1_2 + (1 : Int32)) M3003)))
set_option maxRecDepth 100000 in
def f_X4_keep (F : Nat) (M : d_M) : Option (d_M) := (f_X4_keep_L2 F F ((0 : Int32)) M).bind fun o1 => some (o1.2)
set_option maxHeartbeats 4000000 in
set_option maxRecDepth 100000 in
theorem l_X4_keep_L2 {p : Program} {l : Launch} {e : Env} {s : State} {m : MethodId} {args : Array Value} {below : List Frame} {meth : Method} {c : Code} {Q : State → Prop} {g : a_G} (F : Nat) {h : List va_E}  : ∀ (n : Nat) (v1_2 : Int32) (M_2 : d_M) (o : Int32 × d_M), f_X4_keep_L2 F  n v1_2 M_2 = some o → (∀ e9 : Int32 × d_M, o = e9 → ∀ h1, d_mod h1 e9.2 → d_frm 55 6 h h1 → a_W p l e (a_rm 0 0) s m args below meth c Q RX4 cX4_keep 2 g 0 0 none 27 [] [] h1) → ∀ h1, d_mod h1 M_2 → d_frm 55 6 h h1 → a_W p l e (a_rm 0 0) s m args below meth c Q RX4 cX4_keep 2 g 0 0 none 2 [(0, .ref 55), (1, .int v1_2)] [] h1 := by
  intro n
  induction n with
  | zero => intro v1_2 M_2 o hf; exact nomatch (show (none : Option (Int32 × d_M)) = some o from hf)
  | succ n ih =>
    intro v1_2 M_2 o hf hX0 h1 hz hfr
    rw [f_X4_keep_L2] at hf
    refine a_iload_n (pc' := 3) 1 dX4_keep_2 rfl rfl rfl ?_
    refine a_sipush (pc' := 6) (v := (294 : Int32)) dX4_keep_3 rfl (by decide) ?_
    refine a_icmp_ge (pc' := 9) 27 dX4_keep_6 (by decide) rfl (fun k3001 => ?_) (fun k3001 => ?_)
    · replace hf := (if_pos k3001).symm.trans hf
      cases hf
      refine a_sub [] rfl ?_
      exact hX0 _ rfl _ hz hfr
    · replace hf := (if_neg k3001).symm.trans hf
      refine a_aload_n (pc' := 10) 0 dX4_keep_9 rfl rfl rfl ?_
      refine g_X4_13 (pc' := 13) hz.1 rfl dX4_keep_10 rfl ?_
      refine a_iload_n (pc' := 14) 1 dX4_keep_13 rfl rfl rfl ?_
      refine a_aload_n (pc' := 15) 0 dX4_keep_14 rfl rfl rfl ?_
      refine g_X4_7 (pc' := 18) hz.1 rfl dX4_keep_15 rfl ?_
      refine a_iload_n (pc' := 19) 1 dX4_keep_18 rfl rfl rfl ?_
      obtain ⟨hg, hf⟩ := f_grd_x hf
      refine b_iald (pc' := 20) hz.2.1 hg dX4_keep_19 rfl ?_
      obtain ⟨hg, hf⟩ := f_grd_x hf
      refine b_iast (pc' := 21) hz.2.2.1 hg dX4_keep_20 rfl (fun h3002 hz1 hfr1 => ?_)
      obtain ⟨hz1, hfr1⟩ := d_ma_aside hz hz1 hfr1
      obtain ⟨M3003, hf, hz⟩ := f_let_x (P := fun w => d_mod h3002 w) hf hz1
      replace hfr := d_frm.tr hfr hfr1 (by omega)
      refine a_iinc (pc' := 24) (v := v1_2 + (1 : Int32)) (ls' := [(1, .int (v1_2 + (1 : Int32))), (0, .ref 55)]) 1 dX4_keep_21 rfl (by rfl) (by decide) rfl rfl ?_
      refine a_goto 2 dX4_keep_24 (by decide) ?_
      refine a_sub [1, 0] rfl ?_
      exact ih _ _ _ hf hX0 _ hz hfr
set_option maxHeartbeats 4000000 in
set_option maxRecDepth 100000 in
theorem c_X4_keep (l : Launch) (g : a_G) (F : Nat) {h : List va_E} {M : d_M} (hz : d_mod h M) {out : d_M} (hf : f_X4_keep F M = some out) : a_CT l g yX4_keep cX4_keep 2 none (a_rm 0 0) [.ref 55] h none none (fun r h' => r = none ∧ d_mod h' out ∧ d_frm 55 6 h h') := by
  refine a_enter ⟨by decide, rfl, Nat.le_of_ble_eq_true rfl⟩ (fun p e s m args below meth c hr hin => ?_)
  unfold f_X4_keep at hf
  have hfr : d_frm 55 6 h h := d_frm.rf
  refine a_sub (ls' := [(0, .ref 55)]) [0] rfl ?_
  refine a_iconst (pc' := 1) (v := (0 : Int32)) dX4_keep_0 rfl (by decide) ?_
  refine a_istore_n (pc' := 2) (ls' := [(1, .int ((0 : Int32))), (0, .ref 55)]) dX4_keep_1 rfl (by decide) rfl rfl ?_
  obtain ⟨o1, e2, hf⟩ := Option.bind_eq_some_iff.mp hf
  refine a_sub [1, 0] rfl ?_
  refine l_X4_keep_L2 F   F _ _ o1 e2 (fun e9 he9 h3 hz hfr => ?_) _ hz hfr
  subst he9
  cases hf
  exact a_vret hr ⟨rfl, hz, hfr⟩ dX4_keep_27
/-! SlateRoofModel.bring()V -/
set_option maxRecDepth 100000 in
def f_X4_bring_L2 (F : Nat)  : Nat → Int32 → d_M → Option (Int32 × d_M)
  | 0, _, _ => none
  | n + 1, v1_2, M_2 => (if ((294 : Int32)) ≤ v1_2 then some (v1_2, M_2) else f_grd v1_2 294 (f_grd v1_2 294 (f_let (ms_z M_2 (upd (m_z M_2) v1_2.toNatClampNeg ((m_aside M_2) v1_2.toNatClampNeg))) fun M3003 => f_X4_bring_L2 F  n (v1_2 + (1 : Int32)) M3003)))
set_option maxRecDepth 100000 in
def f_X4_bring (F : Nat) (M : d_M) : Option (d_M) := (f_X4_bring_L2 F F ((0 : Int32)) M).bind fun o1 => some (o1.2)
set_option maxHeartbeats 4000000 in
set_option maxRecDepth 100000 in
theorem l_X4_bring_L2 {p : Program} {l : Launch} {e : Env} {s : State} {m : MethodId} {args : Array Value} {below : List Frame} {meth : Method} {c : Code} {Q : State → Prop} {g : a_G} (F : Nat) {h : List va_E}  : ∀ (n : Nat) (v1_2 : Int32) (M_2 : d_M) (o : Int32 × d_M), f_X4_bring_L2 F  n v1_2 M_2 = some o → (∀ e9 : Int32 × d_M, o = e9 → ∀ h1, d_mod h1 e9.2 → d_frm 55 6 h h1 → a_W p l e (a_rm 0 0) s m args below meth c Q RX4 cX4_bring 2 g 0 0 none 27 [] [] h1) → ∀ h1, d_mod h1 M_2 → d_frm 55 6 h h1 → a_W p l e (a_rm 0 0) s m args below meth c Q RX4 cX4_bring 2 g 0 0 none 2 [(0, .ref 55), (1, .int v1_2)] [] h1 := by
  intro n
  induction n with
  | zero => intro v1_2 M_2 o hf; exact nomatch (show (none : Option (Int32 × d_M)) = some o from hf)
  | succ n ih =>
    intro v1_2 M_2 o hf hX0 h1 hz hfr
    rw [f_X4_bring_L2] at hf
    refine a_iload_n (pc' := 3) 1 dX4_bring_2 rfl rfl rfl ?_
    refine a_sipush (pc' := 6) (v := (294 : Int32)) dX4_bring_3 rfl (by decide) ?_
    refine a_icmp_ge (pc' := 9) 27 dX4_bring_6 (by decide) rfl (fun k3001 => ?_) (fun k3001 => ?_)
    · replace hf := (if_pos k3001).symm.trans hf
      cases hf
      refine a_sub [] rfl ?_
      exact hX0 _ rfl _ hz hfr
    · replace hf := (if_neg k3001).symm.trans hf
      refine a_aload_n (pc' := 10) 0 dX4_bring_9 rfl rfl rfl ?_
      refine g_X4_7 (pc' := 13) hz.1 rfl dX4_bring_10 rfl ?_
      refine a_iload_n (pc' := 14) 1 dX4_bring_13 rfl rfl rfl ?_
      refine a_aload_n (pc' := 15) 0 dX4_bring_14 rfl rfl rfl ?_
      refine g_X4_13 (pc' := 18) hz.1 rfl dX4_bring_15 rfl ?_
      refine a_iload_n (pc' := 19) 1 dX4_bring_18 rfl rfl rfl ?_
      obtain ⟨hg, hf⟩ := f_grd_x hf
      refine b_iald (pc' := 20) hz.2.2.1 hg dX4_bring_19 rfl ?_
      obtain ⟨hg, hf⟩ := f_grd_x hf
      refine b_iast (pc' := 21) hz.2.1 hg dX4_bring_20 rfl (fun h3002 hz1 hfr1 => ?_)
      obtain ⟨hz1, hfr1⟩ := d_ma_z hz hz1 hfr1
      obtain ⟨M3003, hf, hz⟩ := f_let_x (P := fun w => d_mod h3002 w) hf hz1
      replace hfr := d_frm.tr hfr hfr1 (by omega)
      refine a_iinc (pc' := 24) (v := v1_2 + (1 : Int32)) (ls' := [(1, .int (v1_2 + (1 : Int32))), (0, .ref 55)]) 1 dX4_bring_21 rfl (by rfl) (by decide) rfl rfl ?_
      refine a_goto 2 dX4_bring_24 (by decide) ?_
      refine a_sub [1, 0] rfl ?_
      exact ih _ _ _ hf hX0 _ hz hfr
set_option maxHeartbeats 4000000 in
set_option maxRecDepth 100000 in
theorem c_X4_bring (l : Launch) (g : a_G) (F : Nat) {h : List va_E} {M : d_M} (hz : d_mod h M) {out : d_M} (hf : f_X4_bring F M = some out) : a_CT l g yX4_bring cX4_bring 2 none (a_rm 0 0) [.ref 55] h none none (fun r h' => r = none ∧ d_mod h' out ∧ d_frm 55 6 h h') := by
  refine a_enter ⟨by decide, rfl, Nat.le_of_ble_eq_true rfl⟩ (fun p e s m args below meth c hr hin => ?_)
  unfold f_X4_bring at hf
  have hfr : d_frm 55 6 h h := d_frm.rf
  refine a_sub (ls' := [(0, .ref 55)]) [0] rfl ?_
  refine a_iconst (pc' := 1) (v := (0 : Int32)) dX4_bring_0 rfl (by decide) ?_
  refine a_istore_n (pc' := 2) (ls' := [(1, .int ((0 : Int32))), (0, .ref 55)]) dX4_bring_1 rfl (by decide) rfl rfl ?_
  obtain ⟨o1, e2, hf⟩ := Option.bind_eq_some_iff.mp hf
  refine a_sub [1, 0] rfl ?_
  refine l_X4_bring_L2 F   F _ _ o1 e2 (fun e9 he9 h3 hz hfr => ?_) _ hz hfr
  subst he9
  cases hf
  exact a_vret hr ⟨rfl, hz, hfr⟩ dX4_bring_27
/-! SlateRoofModel.placesOf(I)I -/
set_option maxRecDepth 100000 in
def f_X4_placesOf (F : Nat) (M : d_M) (a1 : Int32) : Option (Int32) := f_grd ((1 : Int32)) 294 ((if (a1 - a1 / ((2 : Int32)) * ((2 : Int32))) = 0 then some (((m_z M) ((1 : Int32)).toNatClampNeg) + ((0 : Int32))) else some (((m_z M) ((1 : Int32)).toNatClampNeg) + ((1 : Int32)))))
set_option maxHeartbeats 4000000 in
set_option maxRecDepth 100000 in
theorem c_X4_placesOf (l : Launch) (g : a_G) (F : Nat) {h : List va_E} {M : d_M} {a1 : Int32} (hz : d_mod h M) {out : Int32} (hf : f_X4_placesOf F M a1 = some out) : a_CT l g yX4_placesOf cX4_placesOf 2 (some .int) (a_rm 0 0) [.ref 55, .int a1] h none none (fun r h' => r = some (.int out) ∧ h' = h) := by
  refine a_enter ⟨by decide, rfl, Nat.le_of_ble_eq_true rfl⟩ (fun p e s m args below meth c hr hin => ?_)
  unfold f_X4_placesOf at hf
  refine a_sub (ls' := [(0, .ref 55), (1, .int a1)]) [0, 1] rfl ?_
  refine a_aload_n (pc' := 1) 0 dX4_placesOf_0 rfl rfl rfl ?_
  refine g_X4_7 (pc' := 4) hz.1 rfl dX4_placesOf_1 rfl ?_
  refine a_iconst (pc' := 5) (v := (1 : Int32)) dX4_placesOf_4 rfl (by decide) ?_
  obtain ⟨hg, hf⟩ := f_grd_x hf
  refine b_iald (pc' := 6) hz.2.1 hg dX4_placesOf_5 rfl ?_
  refine a_iload_n (pc' := 7) 1 dX4_placesOf_6 rfl rfl rfl ?_
  refine a_iconst (pc' := 8) (v := (2 : Int32)) dX4_placesOf_7 rfl (by decide) ?_
  refine a_irem (pc' := 9) dX4_placesOf_8 rfl (by decide) ?_
  refine a_if_ne (pc' := 12) 16 dX4_placesOf_9 (by decide) rfl (fun k1 => ?_) (fun k1 => ?_)
  · replace hf := (if_neg k1).symm.trans hf
    refine a_iconst (pc' := 17) (v := (1 : Int32)) dX4_placesOf_16 rfl (by decide) ?_
    refine a_iadd (pc' := 18) dX4_placesOf_17 rfl ?_
    cases hf
    exact a_iret hr ⟨rfl, rfl⟩ dX4_placesOf_18
  · replace hf := (if_pos k1).symm.trans hf
    refine a_iconst (pc' := 13) (v := (0 : Int32)) dX4_placesOf_12 rfl (by decide) ?_
    refine a_goto 17 dX4_placesOf_13 (by decide) ?_
    refine a_iadd (pc' := 18) dX4_placesOf_17 rfl ?_
    cases hf
    exact a_iret hr ⟨rfl, rfl⟩ dX4_placesOf_18
/-! SlateRoofModel.isThere(II)Z -/
set_option maxRecDepth 100000 in
def f_X4_isThere (F : Nat) (M : d_M) (a1 : Int32) (a2 : Int32) : Option (Int32) := f_grd (((114 : Int32)) + a1) 294 ((if ((((m_z M) (((114 : Int32)) + a1).toNatClampNeg) >>> (a2 &&& 31)) &&& ((1 : Int32))) = ((1 : Int32)) then some ((1 : Int32)) else some ((0 : Int32))))
set_option maxHeartbeats 4000000 in
set_option maxRecDepth 100000 in
theorem c_X4_isThere (l : Launch) (g : a_G) (F : Nat) {h : List va_E} {M : d_M} {a1 : Int32} {a2 : Int32} (hz : d_mod h M) {out : Int32} (hf : f_X4_isThere F M a1 a2 = some out) : a_CT l g yX4_isThere cX4_isThere 3 (some .boolean) (a_rm 0 0) [.ref 55, .int a1, .int a2] h none none (fun r h' => r = some (.int out) ∧ h' = h) := by
  refine a_enter ⟨by decide, rfl, Nat.le_of_ble_eq_true rfl⟩ (fun p e s m args below meth c hr hin => ?_)
  unfold f_X4_isThere at hf
  refine a_sub (ls' := [(0, .ref 55), (1, .int a1), (2, .int a2)]) [0, 1, 2] rfl ?_
  refine a_aload_n (pc' := 1) 0 dX4_isThere_0 rfl rfl rfl ?_
  refine g_X4_7 (pc' := 4) hz.1 rfl dX4_isThere_1 rfl ?_
  refine a_bipush (pc' := 6) (v := (114 : Int32)) dX4_isThere_4 rfl (by decide) ?_
  refine a_iload_n (pc' := 7) 1 dX4_isThere_6 rfl rfl rfl ?_
  refine a_iadd (pc' := 8) dX4_isThere_7 rfl ?_
  obtain ⟨hg, hf⟩ := f_grd_x hf
  refine b_iald (pc' := 9) hz.2.1 hg dX4_isThere_8 rfl ?_
  refine a_iload_n (pc' := 10) 2 dX4_isThere_9 rfl rfl rfl ?_
  refine a_ishr (pc' := 11) dX4_isThere_10 rfl ?_
  refine a_iconst (pc' := 12) (v := (1 : Int32)) dX4_isThere_11 rfl (by decide) ?_
  refine a_iand (pc' := 13) dX4_isThere_12 rfl ?_
  refine a_iconst (pc' := 14) (v := (1 : Int32)) dX4_isThere_13 rfl (by decide) ?_
  refine a_icmp_ne (pc' := 17) 21 dX4_isThere_14 (by decide) rfl (fun k1 => ?_) (fun k1 => ?_)
  · replace hf := (if_neg k1).symm.trans hf
    refine a_iconst (pc' := 22) (v := (0 : Int32)) dX4_isThere_21 rfl (by decide) ?_
    cases hf
    exact a_zret hr rfl ⟨rfl, rfl⟩ dX4_isThere_22
  · replace hf := (if_pos k1).symm.trans hf
    refine a_iconst (pc' := 18) (v := (1 : Int32)) dX4_isThere_17 rfl (by decide) ?_
    refine a_goto 22 dX4_isThere_18 (by decide) ?_
    cases hf
    exact a_zret hr rfl ⟨rfl, rfl⟩ dX4_isThere_22
/-! SlateRoofModel.liesIn(I)I -/
set_option maxRecDepth 100000 in
def f_X4_liesIn_L4 (F : Nat) (M : d_M) (a1 : Int32) : Nat → Int32 → Int32 → Option (Int32 × Int32)
  | 0, _, _ => none
  | n + 1, v2_4, v3_4 => (f_X4_placesOf F M a1).bind fun x5002 => (if x5002 ≤ v3_4 then some (v2_4, v3_4) else (f_X4_isThere F M a1 v3_4).bind fun x5005 => (if x5005 = 0 then f_X4_liesIn_L4 F M a1 n (v2_4 + ((0 : Int32))) (v3_4 + (1 : Int32)) else f_X4_liesIn_L4 F M a1 n (v2_4 + ((1 : Int32))) (v3_4 + (1 : Int32))))
set_option maxRecDepth 100000 in
def f_X4_liesIn (F : Nat) (M : d_M) (a1 : Int32) : Option (Int32) := (f_X4_liesIn_L4 F M a1 F ((0 : Int32)) ((0 : Int32))).bind fun o1 => some (o1.1)
set_option maxHeartbeats 4000000 in
set_option maxRecDepth 100000 in
theorem l_X4_liesIn_L4 {p : Program} {l : Launch} {e : Env} {s : State} {m : MethodId} {args : Array Value} {below : List Frame} {meth : Method} {c : Code} {Q : State → Prop} {g : a_G} (F : Nat) {h : List va_E} (M : d_M) (a1 : Int32) (hz : d_mod h M) : ∀ (n : Nat) (v2_4 : Int32) (v3_4 : Int32) (o : Int32 × Int32), f_X4_liesIn_L4 F M a1 n v2_4 v3_4 = some o → (∀ e9 : Int32 × Int32, o = e9 → a_W p l e (a_rm 1 22) s m args below meth c Q RX4 cX4_liesIn 4 g 0 0 none 36 [(2, .int e9.1)] [] h) → a_W p l e (a_rm 1 22) s m args below meth c Q RX4 cX4_liesIn 4 g 0 0 none 4 [(0, .ref 55), (1, .int a1), (2, .int v2_4), (3, .int v3_4)] [] h := by
  intro n
  induction n with
  | zero => intro v2_4 v3_4 o hf; exact nomatch (show (none : Option (Int32 × Int32)) = some o from hf)
  | succ n ih =>
    intro v2_4 v3_4 o hf hX0
    rw [f_X4_liesIn_L4] at hf
    refine a_iload_n (pc' := 5) 3 dX4_liesIn_4 rfl rfl rfl ?_
    refine a_aload_n (pc' := 6) 0 dX4_liesIn_5 rfl rfl rfl ?_
    refine a_iload_n (pc' := 7) 1 dX4_liesIn_6 rfl rfl rfl ?_
    obtain ⟨x5002, e5001, hf⟩ := Option.bind_eq_some_iff.mp hf
    refine k_X4_36 (pc' := 10) (c_X4_placesOf l g F hz e5001) ⟨Nat.le_of_ble_eq_true rfl, Nat.le_of_ble_eq_true rfl⟩ hz.1 (Nat.le_of_ble_eq_true rfl) dX4_liesIn_7 rfl ?_
    refine a_icmp_ge (pc' := 13) 36 dX4_liesIn_10 (by decide) rfl (fun k5003 => ?_) (fun k5003 => ?_)
    · replace hf := (if_pos k5003).symm.trans hf
      cases hf
      refine a_sub [2] rfl ?_
      exact hX0 _ rfl
    · replace hf := (if_neg k5003).symm.trans hf
      refine a_iload_n (pc' := 14) 2 dX4_liesIn_13 rfl rfl rfl ?_
      refine a_aload_n (pc' := 15) 0 dX4_liesIn_14 rfl rfl rfl ?_
      refine a_iload_n (pc' := 16) 1 dX4_liesIn_15 rfl rfl rfl ?_
      refine a_iload_n (pc' := 17) 3 dX4_liesIn_16 rfl rfl rfl ?_
      obtain ⟨x5005, e5004, hf⟩ := Option.bind_eq_some_iff.mp hf
      refine k_X4_40 (pc' := 20) (c_X4_isThere l g F hz e5004) ⟨Nat.le_of_ble_eq_true rfl, Nat.le_of_ble_eq_true rfl⟩ hz.1 (Nat.le_of_ble_eq_true rfl) dX4_liesIn_17 rfl ?_
      refine a_if_eq (pc' := 23) 27 dX4_liesIn_20 (by decide) rfl (fun k5006 => ?_) (fun k5006 => ?_)
      · replace hf := (if_pos k5006).symm.trans hf
        refine a_iconst (pc' := 28) (v := (0 : Int32)) dX4_liesIn_27 rfl (by decide) ?_
        refine a_iadd (pc' := 29) dX4_liesIn_28 rfl ?_
        refine a_istore_n (pc' := 30) (ls' := [(2, .int (v2_4 + ((0 : Int32)))), (0, .ref 55), (1, .int a1), (3, .int v3_4)]) dX4_liesIn_29 rfl (by decide) rfl rfl ?_
        refine a_iinc (pc' := 33) (v := v3_4 + (1 : Int32)) (ls' := [(3, .int (v3_4 + (1 : Int32))), (2, .int (v2_4 + ((0 : Int32)))), (0, .ref 55), (1, .int a1)]) 3 dX4_liesIn_30 rfl (by rfl) (by decide) rfl rfl ?_
        refine a_goto 4 dX4_liesIn_33 (by decide) ?_
        refine a_sub [2, 3, 1, 0] rfl ?_
        exact ih _ _ _ hf hX0
      · replace hf := (if_neg k5006).symm.trans hf
        refine a_iconst (pc' := 24) (v := (1 : Int32)) dX4_liesIn_23 rfl (by decide) ?_
        refine a_goto 28 dX4_liesIn_24 (by decide) ?_
        refine a_iadd (pc' := 29) dX4_liesIn_28 rfl ?_
        refine a_istore_n (pc' := 30) (ls' := [(2, .int (v2_4 + ((1 : Int32)))), (0, .ref 55), (1, .int a1), (3, .int v3_4)]) dX4_liesIn_29 rfl (by decide) rfl rfl ?_
        refine a_iinc (pc' := 33) (v := v3_4 + (1 : Int32)) (ls' := [(3, .int (v3_4 + (1 : Int32))), (2, .int (v2_4 + ((1 : Int32)))), (0, .ref 55), (1, .int a1)]) 3 dX4_liesIn_30 rfl (by rfl) (by decide) rfl rfl ?_
        refine a_goto 4 dX4_liesIn_33 (by decide) ?_
        refine a_sub [2, 3, 1, 0] rfl ?_
        exact ih _ _ _ hf hX0
set_option maxHeartbeats 4000000 in
set_option maxRecDepth 100000 in
theorem c_X4_liesIn (l : Launch) (g : a_G) (F : Nat) {h : List va_E} {M : d_M} {a1 : Int32} (hz : d_mod h M) {out : Int32} (hf : f_X4_liesIn F M a1 = some out) : a_CT l g yX4_liesIn cX4_liesIn 4 (some .int) (a_rm 1 22) [.ref 55, .int a1] h none none (fun r h' => r = some (.int out) ∧ h' = h) := by
  refine a_enter ⟨by decide, rfl, Nat.le_of_ble_eq_true rfl⟩ (fun p e s m args below meth c hr hin => ?_)
  unfold f_X4_liesIn at hf
  refine a_sub (ls' := [(0, .ref 55), (1, .int a1)]) [0, 1] rfl ?_
  refine a_iconst (pc' := 1) (v := (0 : Int32)) dX4_liesIn_0 rfl (by decide) ?_
  refine a_istore_n (pc' := 2) (ls' := [(2, .int ((0 : Int32))), (0, .ref 55), (1, .int a1)]) dX4_liesIn_1 rfl (by decide) rfl rfl ?_
  refine a_iconst (pc' := 3) (v := (0 : Int32)) dX4_liesIn_2 rfl (by decide) ?_
  refine a_istore_n (pc' := 4) (ls' := [(3, .int ((0 : Int32))), (2, .int ((0 : Int32))), (0, .ref 55), (1, .int a1)]) dX4_liesIn_3 rfl (by decide) rfl rfl ?_
  obtain ⟨o1, e2, hf⟩ := Option.bind_eq_some_iff.mp hf
  refine a_sub [2, 3, 1, 0] rfl ?_
  refine l_X4_liesIn_L4 F M a1 hz F _ _ o1 e2 (fun e9 he9 => ?_)
  subst he9
  refine a_iload_n (pc' := 37) 0 dX4_liesIn_36 rfl rfl rfl ?_
  cases hf
  exact a_iret hr ⟨rfl, rfl⟩ dX4_liesIn_37
/-! SlateRoofModel.firstGap(I)I -/
set_option maxRecDepth 100000 in
def f_X4_firstGap_L2 (F : Nat) (M : d_M) (a1 : Int32) : Nat → Int32 → Option ((Int32) ⊕ (Int32))
  | 0, _ => none
  | n + 1, v2_2 => (f_X4_placesOf F M a1).bind fun x3002 => (if x3002 ≤ v2_2 then some (.inl (v2_2)) else (f_X4_isThere F M a1 v2_2).bind fun x3005 => (if x3005 = 0 then some (.inr ((v2_2))) else f_X4_firstGap_L2 F M a1 n (v2_2 + (1 : Int32))))
set_option maxRecDepth 100000 in
def f_X4_firstGap (F : Nat) (M : d_M) (a1 : Int32) : Option (Int32) := (f_X4_firstGap_L2 F M a1 F ((0 : Int32))).bind (fun w9 => Sum.elim (fun w3 => some ((-1 : Int32))) (fun w4 => some (w4)) w9)
set_option maxHeartbeats 4000000 in
set_option maxRecDepth 100000 in
theorem l_X4_firstGap_L2 {p : Program} {l : Launch} {e : Env} {s : State} {m : MethodId} {args : Array Value} {below : List Frame} {meth : Method} {c : Code} {Q : State → Prop} {g : a_G} (F : Nat) {h : List va_E} (M : d_M) (a1 : Int32) (hz : d_mod h M) : ∀ (n : Nat) (v2_2 : Int32) (o : (Int32) ⊕ (Int32)), f_X4_firstGap_L2 F M a1 n v2_2 = some o → (∀ e9 : Int32, o = .inl e9 → a_W p l e (a_rm 1 22) s m args below meth c Q RX4 cX4_firstGap 3 g 0 0 none 28 [] [] h) → (∀ e9 : Int32, o = .inr (e9) → a_W p l e (a_rm 1 22) s m args below meth c Q RX4 cX4_firstGap 3 g 0 0 none 20 [(2, .int e9)] [] h) → a_W p l e (a_rm 1 22) s m args below meth c Q RX4 cX4_firstGap 3 g 0 0 none 2 [(0, .ref 55), (1, .int a1), (2, .int v2_2)] [] h := by
  intro n
  induction n with
  | zero => intro v2_2 o hf; exact nomatch (show (none : Option ((Int32) ⊕ (Int32))) = some o from hf)
  | succ n ih =>
    intro v2_2 o hf hX0 hX1
    rw [f_X4_firstGap_L2] at hf
    refine a_iload_n (pc' := 3) 2 dX4_firstGap_2 rfl rfl rfl ?_
    refine a_aload_n (pc' := 4) 0 dX4_firstGap_3 rfl rfl rfl ?_
    refine a_iload_n (pc' := 5) 1 dX4_firstGap_4 rfl rfl rfl ?_
    obtain ⟨x3002, e3001, hf⟩ := Option.bind_eq_some_iff.mp hf
    refine k_X4_36 (pc' := 8) (c_X4_placesOf l g F hz e3001) ⟨Nat.le_of_ble_eq_true rfl, Nat.le_of_ble_eq_true rfl⟩ hz.1 (Nat.le_of_ble_eq_true rfl) dX4_firstGap_5 rfl ?_
    refine a_icmp_ge (pc' := 11) 28 dX4_firstGap_8 (by decide) rfl (fun k3003 => ?_) (fun k3003 => ?_)
    · replace hf := (if_pos k3003).symm.trans hf
      cases hf
      refine a_sub [] rfl ?_
      exact hX0 _ rfl
    · replace hf := (if_neg k3003).symm.trans hf
      refine a_aload_n (pc' := 12) 0 dX4_firstGap_11 rfl rfl rfl ?_
      refine a_iload_n (pc' := 13) 1 dX4_firstGap_12 rfl rfl rfl ?_
      refine a_iload_n (pc' := 14) 2 dX4_firstGap_13 rfl rfl rfl ?_
      obtain ⟨x3005, e3004, hf⟩ := Option.bind_eq_some_iff.mp hf
      refine k_X4_40 (pc' := 17) (c_X4_isThere l g F hz e3004) ⟨Nat.le_of_ble_eq_true rfl, Nat.le_of_ble_eq_true rfl⟩ hz.1 (Nat.le_of_ble_eq_true rfl) dX4_firstGap_14 rfl ?_
      refine a_if_ne (pc' := 20) 22 dX4_firstGap_17 (by decide) rfl (fun k3006 => ?_) (fun k3006 => ?_)
      · replace hf := (if_neg k3006).symm.trans hf
        refine a_iinc (pc' := 25) (v := v2_2 + (1 : Int32)) (ls' := [(2, .int (v2_2 + (1 : Int32))), (0, .ref 55), (1, .int a1)]) 2 dX4_firstGap_22 rfl (by rfl) (by decide) rfl rfl ?_
        refine a_goto 2 dX4_firstGap_25 (by decide) ?_
        refine a_sub [1, 2, 0] rfl ?_
        exact ih _ _ hf hX0 hX1
      · replace hf := (if_pos k3006).symm.trans hf
        cases hf
        refine a_sub [2] rfl ?_
        exact hX1 _ rfl
set_option maxHeartbeats 4000000 in
set_option maxRecDepth 100000 in
theorem c_X4_firstGap (l : Launch) (g : a_G) (F : Nat) {h : List va_E} {M : d_M} {a1 : Int32} (hz : d_mod h M) {out : Int32} (hf : f_X4_firstGap F M a1 = some out) : a_CT l g yX4_firstGap cX4_firstGap 3 (some .int) (a_rm 1 22) [.ref 55, .int a1] h none none (fun r h' => r = some (.int out) ∧ h' = h) := by
  refine a_enter ⟨by decide, rfl, Nat.le_of_ble_eq_true rfl⟩ (fun p e s m args below meth c hr hin => ?_)
  unfold f_X4_firstGap at hf
  refine a_sub (ls' := [(0, .ref 55), (1, .int a1)]) [0, 1] rfl ?_
  refine a_iconst (pc' := 1) (v := (0 : Int32)) dX4_firstGap_0 rfl (by decide) ?_
  refine a_istore_n (pc' := 2) (ls' := [(2, .int ((0 : Int32))), (0, .ref 55), (1, .int a1)]) dX4_firstGap_1 rfl (by decide) rfl rfl ?_
  obtain ⟨o1, e2, hf⟩ := Option.bind_eq_some_iff.mp hf
  refine a_sub [1, 2, 0] rfl ?_
  refine l_X4_firstGap_L2 F M a1 hz F _ o1 e2 (fun w3 he9 => ?_) (fun w4 he9 => ?_)
  · subst he9
    simp only [Sum.elim_inl, Sum.elim_inr] at hf
    refine a_iconst (pc' := 29) (v := (-1 : Int32)) dX4_firstGap_28 rfl (by decide) ?_
    cases hf
    exact a_iret hr ⟨rfl, rfl⟩ dX4_firstGap_29
  · subst he9
    simp only [Sum.elim_inl, Sum.elim_inr] at hf
    refine a_iload_n (pc' := 21) 0 dX4_firstGap_20 rfl rfl rfl ?_
    cases hf
    exact a_iret hr ⟨rfl, rfl⟩ dX4_firstGap_21
/-! SlateRoofModel.lastGap(I)I -/
set_option maxRecDepth 100000 in
def f_X4_lastGap_L8 (F : Nat) (M : d_M) (a1 : Int32) : Nat → Int32 → Option ((Int32) ⊕ (Int32))
  | 0, _ => none
  | n + 1, v2_8 => (if v2_8 < 0 then some (.inl (v2_8)) else (f_X4_isThere F M a1 v2_8).bind fun x9003 => (if x9003 = 0 then some (.inr ((v2_8))) else f_X4_lastGap_L8 F M a1 n (v2_8 + (-1 : Int32))))
set_option maxRecDepth 100000 in
def f_X4_lastGap (F : Nat) (M : d_M) (a1 : Int32) : Option (Int32) := (f_X4_placesOf F M a1).bind fun x2 => (f_X4_lastGap_L8 F M a1 F (x2 - ((1 : Int32)))).bind (fun w9 => Sum.elim (fun w5 => some ((-1 : Int32))) (fun w6 => some (w6)) w9)
set_option maxHeartbeats 4000000 in
set_option maxRecDepth 100000 in
theorem l_X4_lastGap_L8 {p : Program} {l : Launch} {e : Env} {s : State} {m : MethodId} {args : Array Value} {below : List Frame} {meth : Method} {c : Code} {Q : State → Prop} {g : a_G} (F : Nat) {h : List va_E} (M : d_M) (a1 : Int32) (hz : d_mod h M) : ∀ (n : Nat) (v2_8 : Int32) (o : (Int32) ⊕ (Int32)), f_X4_lastGap_L8 F M a1 n v2_8 = some o → (∀ e9 : Int32, o = .inl e9 → a_W p l e (a_rm 1 22) s m args below meth c Q RX4 cX4_lastGap 3 g 0 0 none 29 [] [] h) → (∀ e9 : Int32, o = .inr (e9) → a_W p l e (a_rm 1 22) s m args below meth c Q RX4 cX4_lastGap 3 g 0 0 none 21 [(2, .int e9)] [] h) → a_W p l e (a_rm 1 22) s m args below meth c Q RX4 cX4_lastGap 3 g 0 0 none 8 [(0, .ref 55), (1, .int a1), (2, .int v2_8)] [] h := by
  intro n
  induction n with
  | zero => intro v2_8 o hf; exact nomatch (show (none : Option ((Int32) ⊕ (Int32))) = some o from hf)
  | succ n ih =>
    intro v2_8 o hf hX0 hX1
    rw [f_X4_lastGap_L8] at hf
    refine a_iload_n (pc' := 9) 2 dX4_lastGap_8 rfl rfl rfl ?_
    refine a_if_lt (pc' := 12) 29 dX4_lastGap_9 (by decide) rfl (fun k9001 => ?_) (fun k9001 => ?_)
    · replace hf := (if_pos k9001).symm.trans hf
      cases hf
      refine a_sub [] rfl ?_
      exact hX0 _ rfl
    · replace hf := (if_neg k9001).symm.trans hf
      refine a_aload_n (pc' := 13) 0 dX4_lastGap_12 rfl rfl rfl ?_
      refine a_iload_n (pc' := 14) 1 dX4_lastGap_13 rfl rfl rfl ?_
      refine a_iload_n (pc' := 15) 2 dX4_lastGap_14 rfl rfl rfl ?_
      obtain ⟨x9003, e9002, hf⟩ := Option.bind_eq_some_iff.mp hf
      refine k_X4_40 (pc' := 18) (c_X4_isThere l g F hz e9002) ⟨Nat.le_of_ble_eq_true rfl, Nat.le_of_ble_eq_true rfl⟩ hz.1 (Nat.le_of_ble_eq_true rfl) dX4_lastGap_15 rfl ?_
      refine a_if_ne (pc' := 21) 23 dX4_lastGap_18 (by decide) rfl (fun k9004 => ?_) (fun k9004 => ?_)
      · replace hf := (if_neg k9004).symm.trans hf
        refine a_iinc (pc' := 26) (v := v2_8 + (-1 : Int32)) (ls' := [(2, .int (v2_8 + (-1 : Int32))), (0, .ref 55), (1, .int a1)]) 2 dX4_lastGap_23 rfl (by rfl) (by decide) rfl rfl ?_
        refine a_goto 8 dX4_lastGap_26 (by decide) ?_
        refine a_sub [1, 2, 0] rfl ?_
        exact ih _ _ hf hX0 hX1
      · replace hf := (if_pos k9004).symm.trans hf
        cases hf
        refine a_sub [2] rfl ?_
        exact hX1 _ rfl
set_option maxHeartbeats 4000000 in
set_option maxRecDepth 100000 in
theorem c_X4_lastGap (l : Launch) (g : a_G) (F : Nat) {h : List va_E} {M : d_M} {a1 : Int32} (hz : d_mod h M) {out : Int32} (hf : f_X4_lastGap F M a1 = some out) : a_CT l g yX4_lastGap cX4_lastGap 3 (some .int) (a_rm 1 22) [.ref 55, .int a1] h none none (fun r h' => r = some (.int out) ∧ h' = h) := by
  refine a_enter ⟨by decide, rfl, Nat.le_of_ble_eq_true rfl⟩ (fun p e s m args below meth c hr hin => ?_)
  unfold f_X4_lastGap at hf
  refine a_sub (ls' := [(0, .ref 55), (1, .int a1)]) [0, 1] rfl ?_
  refine a_aload_n (pc' := 1) 0 dX4_lastGap_0 rfl rfl rfl ?_
  refine a_iload_n (pc' := 2) 1 dX4_lastGap_1 rfl rfl rfl ?_
  obtain ⟨x2, e1, hf⟩ := Option.bind_eq_some_iff.mp hf
  refine k_X4_36 (pc' := 5) (c_X4_placesOf l g F hz e1) ⟨Nat.le_of_ble_eq_true rfl, Nat.le_of_ble_eq_true rfl⟩ hz.1 (Nat.le_of_ble_eq_true rfl) dX4_lastGap_2 rfl ?_
  refine a_iconst (pc' := 6) (v := (1 : Int32)) dX4_lastGap_5 rfl (by decide) ?_
  refine a_isub (pc' := 7) dX4_lastGap_6 rfl ?_
  refine a_istore_n (pc' := 8) (ls' := [(2, .int (x2 - ((1 : Int32)))), (0, .ref 55), (1, .int a1)]) dX4_lastGap_7 rfl (by decide) rfl rfl ?_
  obtain ⟨o3, e4, hf⟩ := Option.bind_eq_some_iff.mp hf
  refine a_sub [1, 2, 0] rfl ?_
  refine l_X4_lastGap_L8 F M a1 hz F _ o3 e4 (fun w5 he9 => ?_) (fun w6 he9 => ?_)
  · subst he9
    simp only [Sum.elim_inl, Sum.elim_inr] at hf
    refine a_iconst (pc' := 30) (v := (-1 : Int32)) dX4_lastGap_29 rfl (by decide) ?_
    cases hf
    exact a_iret hr ⟨rfl, rfl⟩ dX4_lastGap_30
  · subst he9
    simp only [Sum.elim_inl, Sum.elim_inr] at hf
    refine a_iload_n (pc' := 22) 0 dX4_lastGap_21 rfl rfl rfl ?_
    cases hf
    exact a_iret hr ⟨rfl, rfl⟩ dX4_lastGap_22
