/-! SlateRoof$Roof.lastGap(I)I -/
set_option maxRecDepth 100000 in
def f_X1_lastGap_L8 (F : Nat) (z : d_Z) (a1 : Int32) : Nat → Int32 → Option ((Int32) ⊕ (Int32))
  | 0, _ => none
  | n + 1, v2_8 => (if v2_8 < 0 then some (.inl (v2_8)) else (f_X1_hasSlate F z a1 v2_8).bind fun x9003 => (if x9003 = 0 then some (.inr ((v2_8))) else f_X1_lastGap_L8 F z a1 n (v2_8 + (-1 : Int32))))
set_option maxRecDepth 100000 in
def f_X1_lastGap (F : Nat) (z : d_Z) (a1 : Int32) : Option (Int32) := (f_X1_placesOf F z a1).bind fun x2 => (f_X1_lastGap_L8 F z a1 F (x2 - ((1 : Int32)))).bind (fun w9 => Sum.elim (fun w5 => some ((-1 : Int32))) (fun w6 => some (w6)) w9)
set_option maxHeartbeats 4000000 in
set_option maxRecDepth 100000 in
theorem l_X1_lastGap_L8 {p : Program} {l : Launch} {e : Env} {s : State} {m : MethodId} {args : Array Value} {below : List Frame} {meth : Method} {c : Code} {Q : State → Prop} {g : a_G} (F : Nat) {h : List va_E} {i : Nat} (z : d_Z) (a1 : Int32) (hz : d_roof h i z) : ∀ (n : Nat) (v2_8 : Int32) (o : (Int32) ⊕ (Int32)), f_X1_lastGap_L8 F z a1 n v2_8 = some o → (∀ e9 : Int32, o = .inl e9 → a_W p l e (a_rm 2 43) s m args below meth c Q RX1 cX1_lastGap 3 g 0 0 none 29 [] [] h) → (∀ e9 : Int32, o = .inr (e9) → a_W p l e (a_rm 2 43) s m args below meth c Q RX1 cX1_lastGap 3 g 0 0 none 21 [(2, .int e9)] [] h) → a_W p l e (a_rm 2 43) s m args below meth c Q RX1 cX1_lastGap 3 g 0 0 none 8 [(0, .ref i), (1, .int a1), (2, .int v2_8)] [] h := by
  intro n
  induction n with
  | zero => intro v2_8 o hf; exact nomatch (show (none : Option ((Int32) ⊕ (Int32))) = some o from hf)
  | succ n ih =>
    intro v2_8 o hf hX0 hX1
    rw [f_X1_lastGap_L8] at hf
    refine a_iload_n (pc' := 9) 2 dX1_lastGap_8 rfl rfl rfl ?_
    refine a_if_lt (pc' := 12) 29 dX1_lastGap_9 (by decide) rfl (fun k9001 => ?_) (fun k9001 => ?_)
    · replace hf := (if_pos k9001).symm.trans hf
      cases hf
      refine a_sub [] rfl ?_
      exact hX0 _ rfl
    · replace hf := (if_neg k9001).symm.trans hf
      refine a_aload_n (pc' := 13) 0 dX1_lastGap_12 rfl rfl rfl ?_
      refine a_iload_n (pc' := 14) 1 dX1_lastGap_13 rfl rfl rfl ?_
      refine a_iload_n (pc' := 15) 2 dX1_lastGap_14 rfl rfl rfl ?_
      obtain ⟨x9003, e9002, hf⟩ := Option.bind_eq_some_iff.mp hf
      refine k_X1_95 (pc' := 18) (c_X1_hasSlate l g F hz e9002) ⟨Nat.le_of_ble_eq_true rfl, Nat.le_of_ble_eq_true rfl⟩ hz.1 (Nat.le_of_ble_eq_true rfl) dX1_lastGap_15 rfl ?_
      refine a_if_ne (pc' := 21) 23 dX1_lastGap_18 (by decide) rfl (fun k9004 => ?_) (fun k9004 => ?_)
      · replace hf := (if_neg k9004).symm.trans hf
        refine a_iinc (pc' := 26) (v := v2_8 + (-1 : Int32)) (ls' := [(2, .int (v2_8 + (-1 : Int32))), (0, .ref i), (1, .int a1)]) 2 dX1_lastGap_23 rfl (by rfl) (by decide) rfl rfl ?_
        refine a_goto 8 dX1_lastGap_26 (by decide) ?_
        refine a_sub [1, 2, 0] rfl ?_
        exact ih _ _ hf hX0 hX1
      · replace hf := (if_pos k9004).symm.trans hf
        cases hf
        refine a_sub [2] rfl ?_
        exact hX1 _ rfl
set_option maxHeartbeats 4000000 in
set_option maxRecDepth 100000 in
theorem c_X1_lastGap (l : Launch) (g : a_G) (F : Nat) {h : List va_E} {i : Nat} {z : d_Z} {a1 : Int32} (hz : d_roof h i z) {out : Int32} (hf : f_X1_lastGap F z a1 = some out) : a_CT l g yX1_lastGap cX1_lastGap 3 (some .int) (a_rm 2 43) [.ref i, .int a1] h none none (fun r h' => r = some (.int out) ∧ h' = h) := by
  refine a_enter ⟨by decide, rfl, Nat.le_of_ble_eq_true rfl⟩ (fun p e s m args below meth c hr hin => ?_)
  unfold f_X1_lastGap at hf
  refine a_sub (ls' := [(0, .ref i), (1, .int a1)]) [0, 1] rfl ?_
  refine a_aload_n (pc' := 1) 0 dX1_lastGap_0 rfl rfl rfl ?_
  refine a_iload_n (pc' := 2) 1 dX1_lastGap_1 rfl rfl rfl ?_
  obtain ⟨x2, e1, hf⟩ := Option.bind_eq_some_iff.mp hf
  refine k_X1_79 (pc' := 5) (c_X1_placesOf l g F hz e1) ⟨Nat.le_of_ble_eq_true rfl, Nat.le_of_ble_eq_true rfl⟩ hz.1 (Nat.le_of_ble_eq_true rfl) dX1_lastGap_2 rfl ?_
  refine a_iconst (pc' := 6) (v := (1 : Int32)) dX1_lastGap_5 rfl (by decide) ?_
  refine a_isub (pc' := 7) dX1_lastGap_6 rfl ?_
  refine a_istore_n (pc' := 8) (ls' := [(2, .int (x2 - ((1 : Int32)))), (0, .ref i), (1, .int a1)]) dX1_lastGap_7 rfl (by decide) rfl rfl ?_
  obtain ⟨o3, e4, hf⟩ := Option.bind_eq_some_iff.mp hf
  refine a_sub [1, 2, 0] rfl ?_
  refine l_X1_lastGap_L8 F z a1 hz F _ o3 e4 (fun w5 he9 => ?_) (fun w6 he9 => ?_)
  · subst he9
    simp only [Sum.elim_inl, Sum.elim_inr] at hf
    refine a_iconst (pc' := 30) (v := (-1 : Int32)) dX1_lastGap_29 rfl (by decide) ?_
    cases hf
    exact a_iret hr ⟨rfl, rfl⟩ dX1_lastGap_30
  · subst he9
    simp only [Sum.elim_inl, Sum.elim_inr] at hf
    refine a_iload_n (pc' := 22) 0 dX1_lastGap_21 rfl rfl rfl ?_
    cases hf
    exact a_iret hr ⟨rfl, rfl⟩ dX1_lastGap_22
/-! SlateRoof.courseOf(II)I -/
set_option maxRecDepth 100000 in
def f_X3_courseOf (F : Nat) (q : d_C) (a1 : Int32) (a2 : Int32) : Option (Nat ⊕ (Int32)) := (f_X1_hasCourse F q.1 a1).bind fun x2 => (if x2 = 0 then some (.inl 2) else (if a2 = (0 : Int32) then (f_X3_valueAt F 100 (fun k => q.1 (14 + k)) a1).bind fun x6 => some (.inr (x6)) else (if a2 = (1 : Int32) then (f_X1_placesOf F q.1 a1).bind fun x9 => some (.inr (x9)) else (if a2 = (2 : Int32) then (f_X1_slatesIn F q.1 a1).bind fun x12 => some (.inr (x12)) else (if a2 = (3 : Int32) then (f_X3_valueAt F 100 (fun k => q.1 (14 + k)) a1).bind fun x15 => (f_X1_gaugeOf F q.1 x15).bind fun x17 => some (.inr (x17)) else (if a2 = (4 : Int32) then (f_X1_topOf F q.1 a1).bind fun x20 => some (.inr (x20)) else (if a2 = (5 : Int32) then (f_X1_firstGap F q.1 a1).bind fun x23 => some (.inr (x23)) else (if a2 = (6 : Int32) then (f_X1_lastGap F q.1 a1).bind fun x26 => some (.inr (x26)) else (some (.inl 0))))))))))
set_option maxHeartbeats 4000000 in
set_option maxRecDepth 100000 in
theorem c_X3_courseOf (l : Launch) (g : a_G) (F : Nat) {h : List va_E} {q : d_C} {a1 : Int32} {a2 : Int32} (hz : d_cls h q) {out : Int32} (hf : f_X3_courseOf F q a1 a2 = some (.inr out)) : a_CT l g yX3_courseOf cX3_courseOf 3 (some .int) (a_rm 3 66) [.ref 0, .int a1, .int a2] h none none (fun r h' => r = some (.int out) ∧ h' = h) := by
  refine a_enter ⟨by decide, rfl, Nat.le_of_ble_eq_true rfl⟩ (fun p e s m args below meth c hr hin => ?_)
  unfold f_X3_courseOf at hf
  refine a_sub (ls' := [(0, .ref 0), (1, .int a1), (2, .int a2)]) [0, 1, 2] rfl ?_
  refine a_aload_n (pc' := 1) 0 dX3_courseOf_0 rfl rfl rfl ?_
  refine g_X3_10 (pc' := 4) hz.1 rfl dX3_courseOf_1 rfl ?_
  refine a_iload_n (pc' := 5) 1 dX3_courseOf_4 rfl rfl rfl ?_
  obtain ⟨x2, e1, hf⟩ := Option.bind_eq_some_iff.mp hf
  refine k_X3_246 (pc' := 8) (c_X1_hasCourse l g F hz.2.1 e1) ⟨Nat.le_of_ble_eq_true rfl, Nat.le_of_ble_eq_true rfl⟩ hz.2.1.1 (Nat.le_of_ble_eq_true rfl) dX3_courseOf_5 rfl ?_
  refine a_if_ne (pc' := 11) 21 dX3_courseOf_8 (by decide) rfl (fun k3 => ?_) (fun k3 => ?_)
  · replace hf := (if_neg k3).symm.trans hf
    refine a_iload_n (pc' := 22) 2 dX3_courseOf_21 rfl rfl rfl ?_
    by_cases k4 : a2 = (0 : Int32)
    · replace hf := (if_pos k4).symm.trans hf
      refine b_top k4 ?_
      refine a_tableIn (off := 42) 64 dX3_courseOf_22 (by decide) (by decide) rfl (by decide) ?_
      refine a_aload_n (pc' := 65) 0 dX3_courseOf_64 rfl rfl rfl ?_
      refine g_X3_10 (pc' := 68) hz.1 rfl dX3_courseOf_65 rfl ?_
      refine g_X3_251 (pc' := 71) hz.2.1.1 rfl dX3_courseOf_68 rfl ?_
      refine a_iload_n (pc' := 72) 1 dX3_courseOf_71 rfl rfl rfl ?_
      obtain ⟨x6, e5, hf⟩ := Option.bind_eq_some_iff.mp hf
      refine k_X3_74 (pc' := 75) (c_X3_valueAt l g F hz.2.1.2.1 e5) ⟨Nat.le_of_ble_eq_true rfl, Nat.le_of_ble_eq_true rfl⟩ (Nat.le_of_ble_eq_true rfl) dX3_courseOf_72 rfl ?_
      cases hf
      exact a_iret hr ⟨rfl, rfl⟩ dX3_courseOf_75
    · replace hf := (if_neg k4).symm.trans hf
      by_cases k7 : a2 = (1 : Int32)
      · replace hf := (if_pos k7).symm.trans hf
        refine b_top k7 ?_
        refine a_tableIn (off := 54) 76 dX3_courseOf_22 (by decide) (by decide) rfl (by decide) ?_
        refine a_aload_n (pc' := 77) 0 dX3_courseOf_76 rfl rfl rfl ?_
        refine g_X3_10 (pc' := 80) hz.1 rfl dX3_courseOf_77 rfl ?_
        refine a_iload_n (pc' := 81) 1 dX3_courseOf_80 rfl rfl rfl ?_
        obtain ⟨x9, e8, hf⟩ := Option.bind_eq_some_iff.mp hf
        refine k_X3_254 (pc' := 84) (c_X1_placesOf l g F hz.2.1 e8) ⟨Nat.le_of_ble_eq_true rfl, Nat.le_of_ble_eq_true rfl⟩ hz.2.1.1 (Nat.le_of_ble_eq_true rfl) dX3_courseOf_81 rfl ?_
        cases hf
        exact a_iret hr ⟨rfl, rfl⟩ dX3_courseOf_84
      · replace hf := (if_neg k7).symm.trans hf
        by_cases k10 : a2 = (2 : Int32)
        · replace hf := (if_pos k10).symm.trans hf
          refine b_top k10 ?_
          refine a_tableIn (off := 63) 85 dX3_courseOf_22 (by decide) (by decide) rfl (by decide) ?_
          refine a_aload_n (pc' := 86) 0 dX3_courseOf_85 rfl rfl rfl ?_
          refine g_X3_10 (pc' := 89) hz.1 rfl dX3_courseOf_86 rfl ?_
          refine a_iload_n (pc' := 90) 1 dX3_courseOf_89 rfl rfl rfl ?_
          obtain ⟨x12, e11, hf⟩ := Option.bind_eq_some_iff.mp hf
          refine k_X3_171 (pc' := 93) (c_X1_slatesIn l g F hz.2.1 e11) ⟨Nat.le_of_ble_eq_true rfl, Nat.le_of_ble_eq_true rfl⟩ hz.2.1.1 (Nat.le_of_ble_eq_true rfl) dX3_courseOf_90 rfl ?_
          cases hf
          exact a_iret hr ⟨rfl, rfl⟩ dX3_courseOf_93
        · replace hf := (if_neg k10).symm.trans hf
          by_cases k13 : a2 = (3 : Int32)
          · replace hf := (if_pos k13).symm.trans hf
            refine b_top k13 ?_
            refine a_tableIn (off := 72) 94 dX3_courseOf_22 (by decide) (by decide) rfl (by decide) ?_
            refine a_aload_n (pc' := 95) 0 dX3_courseOf_94 rfl rfl rfl ?_
            refine g_X3_10 (pc' := 98) hz.1 rfl dX3_courseOf_95 rfl ?_
            refine a_aload_n (pc' := 99) 0 dX3_courseOf_98 rfl rfl rfl ?_
            refine g_X3_10 (pc' := 102) hz.1 rfl dX3_courseOf_99 rfl ?_
            refine g_X3_251 (pc' := 105) hz.2.1.1 rfl dX3_courseOf_102 rfl ?_
            refine a_iload_n (pc' := 106) 1 dX3_courseOf_105 rfl rfl rfl ?_
            obtain ⟨x15, e14, hf⟩ := Option.bind_eq_some_iff.mp hf
            refine k_X3_74 (pc' := 109) (c_X3_valueAt l g F hz.2.1.2.1 e14) ⟨Nat.le_of_ble_eq_true rfl, Nat.le_of_ble_eq_true rfl⟩ (Nat.le_of_ble_eq_true rfl) dX3_courseOf_106 rfl ?_
            obtain ⟨x17, e16, hf⟩ := Option.bind_eq_some_iff.mp hf
            refine k_X3_257 (pc' := 112) (c_X1_gaugeOf l g F hz.2.1 e16) ⟨Nat.le_of_ble_eq_true rfl, Nat.le_of_ble_eq_true rfl⟩ hz.2.1.1 (Nat.le_of_ble_eq_true rfl) dX3_courseOf_109 rfl ?_
            cases hf
            exact a_iret hr ⟨rfl, rfl⟩ dX3_courseOf_112
          · replace hf := (if_neg k13).symm.trans hf
            by_cases k18 : a2 = (4 : Int32)
            · replace hf := (if_pos k18).symm.trans hf
              refine b_top k18 ?_
              refine a_tableIn (off := 91) 113 dX3_courseOf_22 (by decide) (by decide) rfl (by decide) ?_
              refine a_aload_n (pc' := 114) 0 dX3_courseOf_113 rfl rfl rfl ?_
              refine g_X3_10 (pc' := 117) hz.1 rfl dX3_courseOf_114 rfl ?_
              refine a_iload_n (pc' := 118) 1 dX3_courseOf_117 rfl rfl rfl ?_
              obtain ⟨x20, e19, hf⟩ := Option.bind_eq_some_iff.mp hf
              refine k_X3_260 (pc' := 121) (c_X1_topOf l g F hz.2.1 e19) ⟨Nat.le_of_ble_eq_true rfl, Nat.le_of_ble_eq_true rfl⟩ hz.2.1.1 (Nat.le_of_ble_eq_true rfl) dX3_courseOf_118 rfl ?_
              cases hf
              exact a_iret hr ⟨rfl, rfl⟩ dX3_courseOf_121
            · replace hf := (if_neg k18).symm.trans hf
              by_cases k21 : a2 = (5 : Int32)
              · replace hf := (if_pos k21).symm.trans hf
                refine b_top k21 ?_
                refine a_tableIn (off := 100) 122 dX3_courseOf_22 (by decide) (by decide) rfl (by decide) ?_
                refine a_aload_n (pc' := 123) 0 dX3_courseOf_122 rfl rfl rfl ?_
                refine g_X3_10 (pc' := 126) hz.1 rfl dX3_courseOf_123 rfl ?_
                refine a_iload_n (pc' := 127) 1 dX3_courseOf_126 rfl rfl rfl ?_
                obtain ⟨x23, e22, hf⟩ := Option.bind_eq_some_iff.mp hf
                refine k_X3_164 (pc' := 130) (c_X1_firstGap l g F hz.2.1 e22) ⟨Nat.le_of_ble_eq_true rfl, Nat.le_of_ble_eq_true rfl⟩ hz.2.1.1 (Nat.le_of_ble_eq_true rfl) dX3_courseOf_127 rfl ?_
                cases hf
                exact a_iret hr ⟨rfl, rfl⟩ dX3_courseOf_130
              · replace hf := (if_neg k21).symm.trans hf
                by_cases k24 : a2 = (6 : Int32)
                · replace hf := (if_pos k24).symm.trans hf
                  refine b_top k24 ?_
                  refine a_tableIn (off := 109) 131 dX3_courseOf_22 (by decide) (by decide) rfl (by decide) ?_
                  refine a_aload_n (pc' := 132) 0 dX3_courseOf_131 rfl rfl rfl ?_
                  refine g_X3_10 (pc' := 135) hz.1 rfl dX3_courseOf_132 rfl ?_
                  refine a_iload_n (pc' := 136) 1 dX3_courseOf_135 rfl rfl rfl ?_
                  obtain ⟨x26, e25, hf⟩ := Option.bind_eq_some_iff.mp hf
                  refine k_X3_263 (pc' := 139) (c_X1_lastGap l g F hz.2.1 e25) ⟨Nat.le_of_ble_eq_true rfl, Nat.le_of_ble_eq_true rfl⟩ hz.2.1.1 (Nat.le_of_ble_eq_true rfl) dX3_courseOf_136 rfl ?_
                  cases hf
                  exact a_iret hr ⟨rfl, rfl⟩ dX3_courseOf_139
                · replace hf := (if_neg k24).symm.trans hf
                  refine a_tableOut 140 dX3_courseOf_22 (b_tout7_0 k4 k7 k10 k13 k18 k21 k24) (by decide) ?_
                  cases hf
  · replace hf := (if_pos k3).symm.trans hf
    cases hf
/-! SlateRoof.lies(II)Z -/
set_option maxRecDepth 100000 in
def f_X3_lies (F : Nat) (q : d_C) (a1 : Int32) (a2 : Int32) : Option (Nat ⊕ (Int32)) := (f_X1_hasPlace F q.1 a1 a2).bind fun x2 => (if x2 = 0 then some (.inl 2) else (f_X1_hasSlate F q.1 a1 a2).bind fun x5 => f_if (x5 = 0 ∨ x5 = 1) (some (.inr (x5))))
set_option maxHeartbeats 4000000 in
set_option maxRecDepth 100000 in
theorem c_X3_lies (l : Launch) (g : a_G) (F : Nat) {h : List va_E} {q : d_C} {a1 : Int32} {a2 : Int32} (hz : d_cls h q) {out : Int32} (hf : f_X3_lies F q a1 a2 = some (.inr out)) : a_CT l g yX3_lies cX3_lies 3 (some .boolean) (a_rm 2 43) [.ref 0, .int a1, .int a2] h none none (fun r h' => r = some (.int out) ∧ h' = h) := by
  refine a_enter ⟨by decide, rfl, Nat.le_of_ble_eq_true rfl⟩ (fun p e s m args below meth c hr hin => ?_)
  unfold f_X3_lies at hf
  refine a_sub (ls' := [(0, .ref 0), (1, .int a1), (2, .int a2)]) [0, 1, 2] rfl ?_
  refine a_aload_n (pc' := 1) 0 dX3_lies_0 rfl rfl rfl ?_
  refine g_X3_10 (pc' := 4) hz.1 rfl dX3_lies_1 rfl ?_
  refine a_iload_n (pc' := 5) 1 dX3_lies_4 rfl rfl rfl ?_
  refine a_iload_n (pc' := 6) 2 dX3_lies_5 rfl rfl rfl ?_
  obtain ⟨x2, e1, hf⟩ := Option.bind_eq_some_iff.mp hf
  refine k_X3_174 (pc' := 9) (c_X1_hasPlace l g F hz.2.1 e1) ⟨Nat.le_of_ble_eq_true rfl, Nat.le_of_ble_eq_true rfl⟩ hz.2.1.1 (Nat.le_of_ble_eq_true rfl) dX3_lies_6 rfl ?_
  refine a_if_ne (pc' := 12) 22 dX3_lies_9 (by decide) rfl (fun k3 => ?_) (fun k3 => ?_)
  · replace hf := (if_neg k3).symm.trans hf
    refine a_aload_n (pc' := 23) 0 dX3_lies_22 rfl rfl rfl ?_
    refine g_X3_10 (pc' := 26) hz.1 rfl dX3_lies_23 rfl ?_
    refine a_iload_n (pc' := 27) 1 dX3_lies_26 rfl rfl rfl ?_
    refine a_iload_n (pc' := 28) 2 dX3_lies_27 rfl rfl rfl ?_
    obtain ⟨x5, e4, hf⟩ := Option.bind_eq_some_iff.mp hf
    refine k_X3_268 (pc' := 31) (c_X1_hasSlate l g F hz.2.1 e4) ⟨Nat.le_of_ble_eq_true rfl, Nat.le_of_ble_eq_true rfl⟩ hz.2.1.1 (Nat.le_of_ble_eq_true rfl) dX3_lies_28 rfl ?_
    obtain ⟨hg, hf⟩ := f_if_x hf
    cases hf
    exact a_zret hr (b_bool hg) ⟨rfl, rfl⟩ dX3_lies_31
  · replace hf := (if_pos k3).symm.trans hf
    cases hf
/-! SlateRoof$Roof.slatesOnRoofOf(I)I -/
set_option maxRecDepth 100000 in
def f_X1_slatesOnRoofOf_L4 (F : Nat) (z : d_Z) (a1 : Int32) : Nat → Int32 → Int32 → Option (Int32 × Int32)
  | 0, _, _ => none
  | n + 1, v2_4, v3_4 => (if (z 2) ≤ v3_4 then some (v2_4, v3_4) else (f_X3_valueAt F 100 (fun k => z (14 + k)) v3_4).bind fun x5003 => (if x5003 = a1 then (f_X1_slatesIn F z v3_4).bind fun x5006 => f_X1_slatesOnRoofOf_L4 F z a1 n (v2_4 + x5006) (v3_4 + (1 : Int32)) else f_X1_slatesOnRoofOf_L4 F z a1 n v2_4 (v3_4 + (1 : Int32))))
set_option maxRecDepth 100000 in
def f_X1_slatesOnRoofOf (F : Nat) (z : d_Z) (a1 : Int32) : Option (Int32) := (f_X1_slatesOnRoofOf_L4 F z a1 F ((0 : Int32)) ((0 : Int32))).bind fun o1 => some (o1.1)
set_option maxHeartbeats 4000000 in
set_option maxRecDepth 100000 in
theorem l_X1_slatesOnRoofOf_L4 {p : Program} {l : Launch} {e : Env} {s : State} {m : MethodId} {args : Array Value} {below : List Frame} {meth : Method} {c : Code} {Q : State → Prop} {g : a_G} (F : Nat) {h : List va_E} {i : Nat} (z : d_Z) (a1 : Int32) (hz : d_roof h i z) : ∀ (n : Nat) (v2_4 : Int32) (v3_4 : Int32) (o : Int32 × Int32), f_X1_slatesOnRoofOf_L4 F z a1 n v2_4 v3_4 = some o → (∀ e9 : Int32 × Int32, o = e9 → a_W p l e (a_rm 2 42) s m args below meth c Q RX1 cX1_slatesOnRoofOf 4 g 0 0 none 38 [(2, .int e9.1)] [] h) → a_W p l e (a_rm 2 42) s m args below meth c Q RX1 cX1_slatesOnRoofOf 4 g 0 0 none 4 [(0, .ref i), (1, .int a1), (2, .int v2_4), (3, .int v3_4)] [] h := by
  intro n
  induction n with
  | zero => intro v2_4 v3_4 o hf; exact nomatch (show (none : Option (Int32 × Int32)) = some o from hf)
  | succ n ih =>
    intro v2_4 v3_4 o hf hX0
    rw [f_X1_slatesOnRoofOf_L4] at hf
    refine a_iload_n (pc' := 5) 3 dX1_slatesOnRoofOf_4 rfl rfl rfl ?_
    refine a_aload_n (pc' := 6) 0 dX1_slatesOnRoofOf_5 rfl rfl rfl ?_
    refine g_X1_46 (pc' := 9) hz.1 rfl dX1_slatesOnRoofOf_6 rfl ?_
    refine a_icmp_ge (pc' := 12) 38 dX1_slatesOnRoofOf_9 (by decide) rfl (fun k5001 => ?_) (fun k5001 => ?_)
    · replace hf := (if_pos k5001).symm.trans hf
      cases hf
      refine a_sub [2] rfl ?_
      exact hX0 _ rfl
    · replace hf := (if_neg k5001).symm.trans hf
      refine a_aload_n (pc' := 13) 0 dX1_slatesOnRoofOf_12 rfl rfl rfl ?_
      refine g_X1_18 (pc' := 16) hz.1 rfl dX1_slatesOnRoofOf_13 rfl ?_
      refine a_iload_n (pc' := 17) 3 dX1_slatesOnRoofOf_16 rfl rfl rfl ?_
      obtain ⟨x5003, e5002, hf⟩ := Option.bind_eq_some_iff.mp hf
      refine k_X1_83 (pc' := 20) (c_X3_valueAt l g F hz.2.1 e5002) ⟨Nat.le_of_ble_eq_true rfl, Nat.le_of_ble_eq_true rfl⟩ (Nat.le_of_ble_eq_true rfl) dX1_slatesOnRoofOf_17 rfl ?_
      refine a_iload_n (pc' := 21) 1 dX1_slatesOnRoofOf_20 rfl rfl rfl ?_
      refine a_icmp_ne (pc' := 24) 32 dX1_slatesOnRoofOf_21 (by decide) rfl (fun k5004 => ?_) (fun k5004 => ?_)
      · replace hf := (if_neg k5004).symm.trans hf
        refine a_iinc (pc' := 35) (v := v3_4 + (1 : Int32)) (ls' := [(3, .int (v3_4 + (1 : Int32))), (0, .ref i), (1, .int a1), (2, .int v2_4)]) 3 dX1_slatesOnRoofOf_32 rfl (by rfl) (by decide) rfl rfl ?_
        refine a_goto 4 dX1_slatesOnRoofOf_35 (by decide) ?_
        refine a_sub [1, 2, 3, 0] rfl ?_
        exact ih _ _ _ hf hX0
      · replace hf := (if_pos k5004).symm.trans hf
        refine a_iload_n (pc' := 25) 2 dX1_slatesOnRoofOf_24 rfl rfl rfl ?_
        refine a_aload_n (pc' := 26) 0 dX1_slatesOnRoofOf_25 rfl rfl rfl ?_
        refine a_iload_n (pc' := 27) 3 dX1_slatesOnRoofOf_26 rfl rfl rfl ?_
        obtain ⟨x5006, e5005, hf⟩ := Option.bind_eq_some_iff.mp hf
        refine k_X1_92 (pc' := 30) (c_X1_slatesIn l g F hz e5005) ⟨Nat.le_of_ble_eq_true rfl, Nat.le_of_ble_eq_true rfl⟩ hz.1 (Nat.le_of_ble_eq_true rfl) dX1_slatesOnRoofOf_27 rfl ?_
        refine a_iadd (pc' := 31) dX1_slatesOnRoofOf_30 rfl ?_
        refine a_istore_n (pc' := 32) (ls' := [(2, .int (v2_4 + x5006)), (0, .ref i), (1, .int a1), (3, .int v3_4)]) dX1_slatesOnRoofOf_31 rfl (by decide) rfl rfl ?_
        refine a_iinc (pc' := 35) (v := v3_4 + (1 : Int32)) (ls' := [(3, .int (v3_4 + (1 : Int32))), (2, .int (v2_4 + x5006)), (0, .ref i), (1, .int a1)]) 3 dX1_slatesOnRoofOf_32 rfl (by rfl) (by decide) rfl rfl ?_
        refine a_goto 4 dX1_slatesOnRoofOf_35 (by decide) ?_
        refine a_sub [2, 3, 1, 0] rfl ?_
        exact ih _ _ _ hf hX0
set_option maxHeartbeats 4000000 in
set_option maxRecDepth 100000 in
theorem c_X1_slatesOnRoofOf (l : Launch) (g : a_G) (F : Nat) {h : List va_E} {i : Nat} {z : d_Z} {a1 : Int32} (hz : d_roof h i z) {out : Int32} (hf : f_X1_slatesOnRoofOf F z a1 = some out) : a_CT l g yX1_slatesOnRoofOf cX1_slatesOnRoofOf 4 (some .int) (a_rm 2 42) [.ref i, .int a1] h none none (fun r h' => r = some (.int out) ∧ h' = h) := by
  refine a_enter ⟨by decide, rfl, Nat.le_of_ble_eq_true rfl⟩ (fun p e s m args below meth c hr hin => ?_)
  unfold f_X1_slatesOnRoofOf at hf
  refine a_sub (ls' := [(0, .ref i), (1, .int a1)]) [0, 1] rfl ?_
  refine a_iconst (pc' := 1) (v := (0 : Int32)) dX1_slatesOnRoofOf_0 rfl (by decide) ?_
  refine a_istore_n (pc' := 2) (ls' := [(2, .int ((0 : Int32))), (0, .ref i), (1, .int a1)]) dX1_slatesOnRoofOf_1 rfl (by decide) rfl rfl ?_
  refine a_iconst (pc' := 3) (v := (0 : Int32)) dX1_slatesOnRoofOf_2 rfl (by decide) ?_
  refine a_istore_n (pc' := 4) (ls' := [(3, .int ((0 : Int32))), (2, .int ((0 : Int32))), (0, .ref i), (1, .int a1)]) dX1_slatesOnRoofOf_3 rfl (by decide) rfl rfl ?_
  obtain ⟨o1, e2, hf⟩ := Option.bind_eq_some_iff.mp hf
  refine a_sub [2, 3, 1, 0] rfl ?_
  refine l_X1_slatesOnRoofOf_L4 F z a1 hz F _ _ o1 e2 (fun e9 he9 => ?_)
  subst he9
  refine a_iload_n (pc' := 39) 0 dX1_slatesOnRoofOf_38 rfl rfl rfl ?_
  cases hf
  exact a_iret hr ⟨rfl, rfl⟩ dX1_slatesOnRoofOf_39
/-! SlateRoof.slates(II)I -/
set_option maxRecDepth 100000 in
def f_X3_slates (F : Nat) (q : d_C) (a1 : Int32) (a2 : Int32) : Option (Nat ⊕ (Int32)) := (f_X3_isLength F a1).bind fun x2 => (if x2 = 0 then some (.inl 0) else (if a2 = (0 : Int32) then (f_X3_valueAt F 25 (fun k => q.1 (214 + k)) a1).bind fun x6 => some (.inr (x6)) else (if a2 = (1 : Int32) then (f_X3_valueAt F 25 (fun k => q.1 (239 + k)) a1).bind fun x9 => some (.inr (x9)) else (if a2 = (2 : Int32) then (f_X1_slatesOnRoofOf F q.1 a1).bind fun x12 => some (.inr (x12)) else (if a2 = (3 : Int32) then (f_X3_valueAt F 25 (fun k => q.1 (264 + k)) a1).bind fun x15 => some (.inr (x15)) else (if a2 = (4 : Int32) then (f_X3_priceOf F a1).bind fun x18 => some (.inr (x18)) else (some (.inl 0))))))))
set_option maxHeartbeats 4000000 in
set_option maxRecDepth 100000 in
theorem c_X3_slates (l : Launch) (g : a_G) (F : Nat) {h : List va_E} {q : d_C} {a1 : Int32} {a2 : Int32} (hz : d_cls h q) {out : Int32} (hf : f_X3_slates F q a1 a2 = some (.inr out)) : a_CT l g yX3_slates cX3_slates 3 (some .int) (a_rm 3 65) [.ref 0, .int a1, .int a2] h none none (fun r h' => r = some (.int out) ∧ h' = h) := by
  refine a_enter ⟨by decide, rfl, Nat.le_of_ble_eq_true rfl⟩ (fun p e s m args below meth c hr hin => ?_)
  unfold f_X3_slates at hf
  refine a_sub (ls' := [(0, .ref 0), (1, .int a1), (2, .int a2)]) [0, 1, 2] rfl ?_
  refine a_iload_n (pc' := 1) 1 dX3_slates_0 rfl rfl rfl ?_
  obtain ⟨x2, e1, hf⟩ := Option.bind_eq_some_iff.mp hf
  refine k_X3_91 (pc' := 4) (c_X3_isLength l g F e1) ⟨Nat.le_of_ble_eq_true rfl, Nat.le_of_ble_eq_true rfl⟩ (Nat.le_of_ble_eq_true rfl) dX3_slates_1 rfl ?_
  refine a_if_ne (pc' := 7) 17 dX3_slates_4 (by decide) rfl (fun k3 => ?_) (fun k3 => ?_)
  · replace hf := (if_neg k3).symm.trans hf
    refine a_iload_n (pc' := 18) 2 dX3_slates_17 rfl rfl rfl ?_
    by_cases k4 : a2 = (0 : Int32)
    · replace hf := (if_pos k4).symm.trans hf
      refine b_top k4 ?_
      refine a_tableIn (off := 34) 52 dX3_slates_18 (by decide) (by decide) rfl (by decide) ?_
      refine a_aload_n (pc' := 53) 0 dX3_slates_52 rfl rfl rfl ?_
      refine g_X3_10 (pc' := 56) hz.1 rfl dX3_slates_53 rfl ?_
      refine g_X3_117 (pc' := 59) hz.2.1.1 rfl dX3_slates_56 rfl ?_
      refine a_iload_n (pc' := 60) 1 dX3_slates_59 rfl rfl rfl ?_
      obtain ⟨x6, e5, hf⟩ := Option.bind_eq_some_iff.mp hf
      refine k_X3_74 (pc' := 63) (c_X3_valueAt l g F hz.2.1.2.2.2.1 e5) ⟨Nat.le_of_ble_eq_true rfl, Nat.le_of_ble_eq_true rfl⟩ (Nat.le_of_ble_eq_true rfl) dX3_slates_60 rfl ?_
      cases hf
      exact a_iret hr ⟨rfl, rfl⟩ dX3_slates_63
    · replace hf := (if_neg k4).symm.trans hf
      by_cases k7 : a2 = (1 : Int32)
      · replace hf := (if_pos k7).symm.trans hf
        refine b_top k7 ?_
        refine a_tableIn (off := 46) 64 dX3_slates_18 (by decide) (by decide) rfl (by decide) ?_
        refine a_aload_n (pc' := 65) 0 dX3_slates_64 rfl rfl rfl ?_
        refine g_X3_10 (pc' := 68) hz.1 rfl dX3_slates_65 rfl ?_
        refine g_X3_120 (pc' := 71) hz.2.1.1 rfl dX3_slates_68 rfl ?_
        refine a_iload_n (pc' := 72) 1 dX3_slates_71 rfl rfl rfl ?_
        obtain ⟨x9, e8, hf⟩ := Option.bind_eq_some_iff.mp hf
        refine k_X3_74 (pc' := 75) (c_X3_valueAt l g F hz.2.1.2.2.2.2.1 e8) ⟨Nat.le_of_ble_eq_true rfl, Nat.le_of_ble_eq_true rfl⟩ (Nat.le_of_ble_eq_true rfl) dX3_slates_72 rfl ?_
        cases hf
        exact a_iret hr ⟨rfl, rfl⟩ dX3_slates_75
      · replace hf := (if_neg k7).symm.trans hf
        by_cases k10 : a2 = (2 : Int32)
        · replace hf := (if_pos k10).symm.trans hf
          refine b_top k10 ?_
          refine a_tableIn (off := 58) 76 dX3_slates_18 (by decide) (by decide) rfl (by decide) ?_
          refine a_aload_n (pc' := 77) 0 dX3_slates_76 rfl rfl rfl ?_
          refine g_X3_10 (pc' := 80) hz.1 rfl dX3_slates_77 rfl ?_
          refine a_iload_n (pc' := 81) 1 dX3_slates_80 rfl rfl rfl ?_
          obtain ⟨x12, e11, hf⟩ := Option.bind_eq_some_iff.mp hf
          refine k_X3_271 (pc' := 84) (c_X1_slatesOnRoofOf l g F hz.2.1 e11) ⟨Nat.le_of_ble_eq_true rfl, Nat.le_of_ble_eq_true rfl⟩ hz.2.1.1 (Nat.le_of_ble_eq_true rfl) dX3_slates_81 rfl ?_
          cases hf
          exact a_iret hr ⟨rfl, rfl⟩ dX3_slates_84
        · replace hf := (if_neg k10).symm.trans hf
          by_cases k13 : a2 = (3 : Int32)
          · replace hf := (if_pos k13).symm.trans hf
            refine b_top k13 ?_
            refine a_tableIn (off := 67) 85 dX3_slates_18 (by decide) (by decide) rfl (by decide) ?_
            refine a_aload_n (pc' := 86) 0 dX3_slates_85 rfl rfl rfl ?_
            refine g_X3_10 (pc' := 89) hz.1 rfl dX3_slates_86 rfl ?_
            refine g_X3_97 (pc' := 92) hz.2.1.1 rfl dX3_slates_89 rfl ?_
            refine a_iload_n (pc' := 93) 1 dX3_slates_92 rfl rfl rfl ?_
            obtain ⟨x15, e14, hf⟩ := Option.bind_eq_some_iff.mp hf
            refine k_X3_74 (pc' := 96) (c_X3_valueAt l g F hz.2.1.2.2.2.2.2 e14) ⟨Nat.le_of_ble_eq_true rfl, Nat.le_of_ble_eq_true rfl⟩ (Nat.le_of_ble_eq_true rfl) dX3_slates_93 rfl ?_
            cases hf
            exact a_iret hr ⟨rfl, rfl⟩ dX3_slates_96
          · replace hf := (if_neg k13).symm.trans hf
            by_cases k16 : a2 = (4 : Int32)
            · replace hf := (if_pos k16).symm.trans hf
              refine b_top k16 ?_
              refine a_tableIn (off := 79) 97 dX3_slates_18 (by decide) (by decide) rfl (by decide) ?_
              refine a_iload_n (pc' := 98) 1 dX3_slates_97 rfl rfl rfl ?_
              obtain ⟨x18, e17, hf⟩ := Option.bind_eq_some_iff.mp hf
              refine k_X3_126 (pc' := 101) (c_X3_priceOf l g F e17) ⟨Nat.le_of_ble_eq_true rfl, Nat.le_of_ble_eq_true rfl⟩ (Nat.le_of_ble_eq_true rfl) dX3_slates_98 rfl ?_
              cases hf
              exact a_iret hr ⟨rfl, rfl⟩ dX3_slates_101
            · replace hf := (if_neg k16).symm.trans hf
              refine a_tableOut 102 dX3_slates_18 (b_tout5_0 k4 k7 k10 k13 k16) (by decide) ?_
              cases hf
  · replace hf := (if_pos k3).symm.trans hf
    cases hf
/-! SlateRoof.count(I)I -/
set_option maxRecDepth 100000 in
def f_X3_count (F : Nat) (q : d_C) (a1 : Int32) : Option (Nat ⊕ (Int32)) := (if a1 = (0 : Int32) then some (.inr (q.1 0)) else (if a1 = (1 : Int32) then some (.inr (q.1 1)) else (if a1 = (2 : Int32) then some (.inr (q.1 2)) else (if a1 = (3 : Int32) then (f_X1_topOf F q.1 ((q.1 2) - ((1 : Int32)))).bind fun x6 => some (.inr (x6)) else (if a1 = (4 : Int32) then (f_X1_slatesOnRoof F q.1).bind fun x9 => some (.inr (x9)) else (if a1 = (5 : Int32) then (f_X1_gapsOnRoof F q.1).bind fun x12 => some (.inr (x12)) else (if a1 = (6 : Int32) then (f_X1_isDone F q.1).bind fun x15 => (if x15 = 0 then some (.inr ((0 : Int32))) else some (.inr ((1 : Int32)))) else (if a1 = (7 : Int32) then some (.inr (q.1 6)) else (if a1 = (8 : Int32) then some (.inr (q.1 7)) else (if a1 = (9 : Int32) then some (.inr (q.1 8)) else (if a1 = (10 : Int32) then (if (q.1 9) = 0 then some (.inr ((0 : Int32))) else some (.inr ((1 : Int32)))) else (if a1 = (11 : Int32) then (f_X3_sumOf F 25 (fun k => q.1 (264 + k))).bind fun x24 => some (.inr (x24)) else (if a1 = (12 : Int32) then (f_X3_sumOf F 25 (fun k => q.1 (214 + k))).bind fun x27 => some (.inr (x27)) else (if a1 = (13 : Int32) then (f_X3_sumOf F 25 (fun k => q.1 (239 + k))).bind fun x30 => some (.inr (x30)) else (if a1 = (14 : Int32) then some (.inr (q.1 10)) else (if a1 = (15 : Int32) then some (.inr (q.1 11)) else (if a1 = (16 : Int32) then some (.inr (q.1 12)) else (if a1 = (17 : Int32) then some (.inr (q.1 13)) else (if a1 = (18 : Int32) then some (.inr (q.2.2.1.2.2)) else (some (.inl 0)))))))))))))))))))))
set_option maxHeartbeats 4000000 in
set_option maxRecDepth 100000 in
theorem c_X3_count (l : Launch) (g : a_G) (F : Nat) {h : List va_E} {q : d_C} {a1 : Int32} (hz : d_cls h q) {out : Int32} (hf : f_X3_count F q a1 = some (.inr out)) : a_CT l g yX3_count cX3_count 2 (some .int) (a_rm 4 84) [.ref 0, .int a1] h none none (fun r h' => r = some (.int out) ∧ h' = h) := by
  refine a_enter ⟨by decide, rfl, Nat.le_of_ble_eq_true rfl⟩ (fun p e s m args below meth c hr hin => ?_)
  unfold f_X3_count at hf
  refine a_sub (ls' := [(0, .ref 0), (1, .int a1)]) [0, 1] rfl ?_
  refine a_iload_n (pc' := 1) 1 dX3_count_0 rfl rfl rfl ?_
  by_cases k1 : a1 = (0 : Int32)
  · replace hf := (if_pos k1).symm.trans hf
    refine b_top k1 ?_
    refine a_tableIn (off := 91) 92 dX3_count_1 (by decide) (by decide) rfl (by decide) ?_
    refine a_aload_n (pc' := 93) 0 dX3_count_92 rfl rfl rfl ?_
    refine g_X3_10 (pc' := 96) hz.1 rfl dX3_count_93 rfl ?_
    refine g_X3_59 (pc' := 99) hz.2.1.1 rfl dX3_count_96 rfl ?_
    cases hf
    exact a_iret hr ⟨rfl, rfl⟩ dX3_count_99
  · replace hf := (if_neg k1).symm.trans hf
    by_cases k2 : a1 = (1 : Int32)
    · replace hf := (if_pos k2).symm.trans hf
      refine b_top k2 ?_
      refine a_tableIn (off := 99) 100 dX3_count_1 (by decide) (by decide) rfl (by decide) ?_
      refine a_aload_n (pc' := 101) 0 dX3_count_100 rfl rfl rfl ?_
      refine g_X3_10 (pc' := 104) hz.1 rfl dX3_count_101 rfl ?_
      refine g_X3_62 (pc' := 107) hz.2.1.1 rfl dX3_count_104 rfl ?_
      cases hf
      exact a_iret hr ⟨rfl, rfl⟩ dX3_count_107
    · replace hf := (if_neg k2).symm.trans hf
      by_cases k3 : a1 = (2 : Int32)
      · replace hf := (if_pos k3).symm.trans hf
        refine b_top k3 ?_
        refine a_tableIn (off := 107) 108 dX3_count_1 (by decide) (by decide) rfl (by decide) ?_
        refine a_aload_n (pc' := 109) 0 dX3_count_108 rfl rfl rfl ?_
        refine g_X3_10 (pc' := 112) hz.1 rfl dX3_count_109 rfl ?_
        refine g_X3_56 (pc' := 115) hz.2.1.1 rfl dX3_count_112 rfl ?_
        cases hf
        exact a_iret hr ⟨rfl, rfl⟩ dX3_count_115
      · replace hf := (if_neg k3).symm.trans hf
        by_cases k4 : a1 = (3 : Int32)
        · replace hf := (if_pos k4).symm.trans hf
          refine b_top k4 ?_
          refine a_tableIn (off := 115) 116 dX3_count_1 (by decide) (by decide) rfl (by decide) ?_
          refine a_aload_n (pc' := 117) 0 dX3_count_116 rfl rfl rfl ?_
          refine g_X3_10 (pc' := 120) hz.1 rfl dX3_count_117 rfl ?_
          refine a_aload_n (pc' := 121) 0 dX3_count_120 rfl rfl rfl ?_
          refine g_X3_10 (pc' := 124) hz.1 rfl dX3_count_121 rfl ?_
          refine g_X3_56 (pc' := 127) hz.2.1.1 rfl dX3_count_124 rfl ?_
          refine a_iconst (pc' := 128) (v := (1 : Int32)) dX3_count_127 rfl (by decide) ?_
          refine a_isub (pc' := 129) dX3_count_128 rfl ?_
          obtain ⟨x6, e5, hf⟩ := Option.bind_eq_some_iff.mp hf
          refine k_X3_260 (pc' := 132) (c_X1_topOf l g F hz.2.1 e5) ⟨Nat.le_of_ble_eq_true rfl, Nat.le_of_ble_eq_true rfl⟩ hz.2.1.1 (Nat.le_of_ble_eq_true rfl) dX3_count_129 rfl ?_
          cases hf
          exact a_iret hr ⟨rfl, rfl⟩ dX3_count_132
        · replace hf := (if_neg k4).symm.trans hf
          by_cases k7 : a1 = (4 : Int32)
          · replace hf := (if_pos k7).symm.trans hf
            refine b_top k7 ?_
            refine a_tableIn (off := 132) 133 dX3_count_1 (by decide) (by decide) rfl (by decide) ?_
            refine a_aload_n (pc' := 134) 0 dX3_count_133 rfl rfl rfl ?_
            refine g_X3_10 (pc' := 137) hz.1 rfl dX3_count_134 rfl ?_
            obtain ⟨x9, e8, hf⟩ := Option.bind_eq_some_iff.mp hf
            refine k_X3_48 (pc' := 140) (c_X1_slatesOnRoof l g F hz.2.1 e8) ⟨Nat.le_of_ble_eq_true rfl, Nat.le_of_ble_eq_true rfl⟩ hz.2.1.1 (Nat.le_of_ble_eq_true rfl) dX3_count_137 rfl ?_
            cases hf
            exact a_iret hr ⟨rfl, rfl⟩ dX3_count_140
          · replace hf := (if_neg k7).symm.trans hf
            by_cases k10 : a1 = (5 : Int32)
            · replace hf := (if_pos k10).symm.trans hf
              refine b_top k10 ?_
              refine a_tableIn (off := 140) 141 dX3_count_1 (by decide) (by decide) rfl (by decide) ?_
              refine a_aload_n (pc' := 142) 0 dX3_count_141 rfl rfl rfl ?_
              refine g_X3_10 (pc' := 145) hz.1 rfl dX3_count_142 rfl ?_
              obtain ⟨x12, e11, hf⟩ := Option.bind_eq_some_iff.mp hf
              refine k_X3_276 (pc' := 148) (c_X1_gapsOnRoof l g F hz.2.1 e11) ⟨Nat.le_of_ble_eq_true rfl, Nat.le_of_ble_eq_true rfl⟩ hz.2.1.1 (Nat.le_of_ble_eq_true rfl) dX3_count_145 rfl ?_
              cases hf
              exact a_iret hr ⟨rfl, rfl⟩ dX3_count_148
            · replace hf := (if_neg k10).symm.trans hf
              by_cases k13 : a1 = (6 : Int32)
              · replace hf := (if_pos k13).symm.trans hf
                refine b_top k13 ?_
                refine a_tableIn (off := 148) 149 dX3_count_1 (by decide) (by decide) rfl (by decide) ?_
                refine a_aload_n (pc' := 150) 0 dX3_count_149 rfl rfl rfl ?_
                refine g_X3_10 (pc' := 153) hz.1 rfl dX3_count_150 rfl ?_
                obtain ⟨x15, e14, hf⟩ := Option.bind_eq_some_iff.mp hf
                refine k_X3_279 (pc' := 156) (c_X1_isDone l g F hz.2.1 e14) ⟨Nat.le_of_ble_eq_true rfl, Nat.le_of_ble_eq_true rfl⟩ hz.2.1.1 (Nat.le_of_ble_eq_true rfl) dX3_count_153 rfl ?_
                refine a_if_eq (pc' := 159) 163 dX3_count_156 (by decide) rfl (fun k16 => ?_) (fun k16 => ?_)
                · replace hf := (if_pos k16).symm.trans hf
                  refine a_iconst (pc' := 164) (v := (0 : Int32)) dX3_count_163 rfl (by decide) ?_
                  cases hf
                  exact a_iret hr ⟨rfl, rfl⟩ dX3_count_164
                · replace hf := (if_neg k16).symm.trans hf
                  refine a_iconst (pc' := 160) (v := (1 : Int32)) dX3_count_159 rfl (by decide) ?_
                  refine a_goto 164 dX3_count_160 (by decide) ?_
                  cases hf
                  exact a_iret hr ⟨rfl, rfl⟩ dX3_count_164
              · replace hf := (if_neg k13).symm.trans hf
                by_cases k17 : a1 = (7 : Int32)
                · replace hf := (if_pos k17).symm.trans hf
                  refine b_top k17 ?_
                  refine a_tableIn (off := 164) 165 dX3_count_1 (by decide) (by decide) rfl (by decide) ?_
                  refine a_aload_n (pc' := 166) 0 dX3_count_165 rfl rfl rfl ?_
                  refine g_X3_10 (pc' := 169) hz.1 rfl dX3_count_166 rfl ?_
                  refine g_X3_194 (pc' := 172) hz.2.1.1 rfl dX3_count_169 rfl ?_
                  cases hf
                  exact a_iret hr ⟨rfl, rfl⟩ dX3_count_172
                · replace hf := (if_neg k17).symm.trans hf
                  by_cases k18 : a1 = (8 : Int32)
                  · replace hf := (if_pos k18).symm.trans hf
                    refine b_top k18 ?_
                    refine a_tableIn (off := 172) 173 dX3_count_1 (by decide) (by decide) rfl (by decide) ?_
                    refine a_aload_n (pc' := 174) 0 dX3_count_173 rfl rfl rfl ?_
                    refine g_X3_10 (pc' := 177) hz.1 rfl dX3_count_174 rfl ?_
                    refine g_X3_185 (pc' := 180) hz.2.1.1 rfl dX3_count_177 rfl ?_
                    cases hf
                    exact a_iret hr ⟨rfl, rfl⟩ dX3_count_180
                  · replace hf := (if_neg k18).symm.trans hf
                    by_cases k19 : a1 = (9 : Int32)
                    · replace hf := (if_pos k19).symm.trans hf
                      refine b_top k19 ?_
                      refine a_tableIn (off := 180) 181 dX3_count_1 (by decide) (by decide) rfl (by decide) ?_
                      refine a_aload_n (pc' := 182) 0 dX3_count_181 rfl rfl rfl ?_
                      refine g_X3_10 (pc' := 185) hz.1 rfl dX3_count_182 rfl ?_
                      refine g_X3_282 (pc' := 188) hz.2.1.1 rfl dX3_count_185 rfl ?_
                      cases hf
                      exact a_iret hr ⟨rfl, rfl⟩ dX3_count_188
                    · replace hf := (if_neg k19).symm.trans hf
                      by_cases k20 : a1 = (10 : Int32)
                      · replace hf := (if_pos k20).symm.trans hf
                        refine b_top k20 ?_
                        refine a_tableIn (off := 188) 189 dX3_count_1 (by decide) (by decide) rfl (by decide) ?_
                        refine a_aload_n (pc' := 190) 0 dX3_count_189 rfl rfl rfl ?_
                        refine g_X3_10 (pc' := 193) hz.1 rfl dX3_count_190 rfl ?_
                        refine g_X3_188 (pc' := 196) hz.2.1.1 rfl dX3_count_193 rfl ?_
                        refine a_if_eq (pc' := 199) 203 dX3_count_196 (by decide) rfl (fun k21 => ?_) (fun k21 => ?_)
                        · replace hf := (if_pos k21).symm.trans hf
                          refine a_iconst (pc' := 204) (v := (0 : Int32)) dX3_count_203 rfl (by decide) ?_
                          cases hf
                          exact a_iret hr ⟨rfl, rfl⟩ dX3_count_204
                        · replace hf := (if_neg k21).symm.trans hf
                          refine a_iconst (pc' := 200) (v := (1 : Int32)) dX3_count_199 rfl (by decide) ?_
                          refine a_goto 204 dX3_count_200 (by decide) ?_
                          cases hf
                          exact a_iret hr ⟨rfl, rfl⟩ dX3_count_204
                      · replace hf := (if_neg k20).symm.trans hf
                        by_cases k22 : a1 = (11 : Int32)
                        · replace hf := (if_pos k22).symm.trans hf
                          refine b_top k22 ?_
                          refine a_tableIn (off := 204) 205 dX3_count_1 (by decide) (by decide) rfl (by decide) ?_
                          refine a_aload_n (pc' := 206) 0 dX3_count_205 rfl rfl rfl ?_
                          refine g_X3_10 (pc' := 209) hz.1 rfl dX3_count_206 rfl ?_
                          refine g_X3_97 (pc' := 212) hz.2.1.1 rfl dX3_count_209 rfl ?_
                          obtain ⟨x24, e23, hf⟩ := Option.bind_eq_some_iff.mp hf
                          refine k_X3_100 (pc' := 215) (c_X3_sumOf l g F hz.2.1.2.2.2.2.2 e23) ⟨Nat.le_of_ble_eq_true rfl, Nat.le_of_ble_eq_true rfl⟩ (Nat.le_of_ble_eq_true rfl) dX3_count_212 rfl ?_
                          cases hf
                          exact a_iret hr ⟨rfl, rfl⟩ dX3_count_215
                        · replace hf := (if_neg k22).symm.trans hf
                          by_cases k25 : a1 = (12 : Int32)
                          · replace hf := (if_pos k25).symm.trans hf
                            refine b_top k25 ?_
                            refine a_tableIn (off := 215) 216 dX3_count_1 (by decide) (by decide) rfl (by decide) ?_
                            refine a_aload_n (pc' := 217) 0 dX3_count_216 rfl rfl rfl ?_
                            refine g_X3_10 (pc' := 220) hz.1 rfl dX3_count_217 rfl ?_
                            refine g_X3_117 (pc' := 223) hz.2.1.1 rfl dX3_count_220 rfl ?_
                            obtain ⟨x27, e26, hf⟩ := Option.bind_eq_some_iff.mp hf
                            refine k_X3_100 (pc' := 226) (c_X3_sumOf l g F hz.2.1.2.2.2.1 e26) ⟨Nat.le_of_ble_eq_true rfl, Nat.le_of_ble_eq_true rfl⟩ (Nat.le_of_ble_eq_true rfl) dX3_count_223 rfl ?_
                            cases hf
                            exact a_iret hr ⟨rfl, rfl⟩ dX3_count_226
                          · replace hf := (if_neg k25).symm.trans hf
                            by_cases k28 : a1 = (13 : Int32)
                            · replace hf := (if_pos k28).symm.trans hf
                              refine b_top k28 ?_
                              refine a_tableIn (off := 226) 227 dX3_count_1 (by decide) (by decide) rfl (by decide) ?_
                              refine a_aload_n (pc' := 228) 0 dX3_count_227 rfl rfl rfl ?_
                              refine g_X3_10 (pc' := 231) hz.1 rfl dX3_count_228 rfl ?_
                              refine g_X3_120 (pc' := 234) hz.2.1.1 rfl dX3_count_231 rfl ?_
                              obtain ⟨x30, e29, hf⟩ := Option.bind_eq_some_iff.mp hf
                              refine k_X3_100 (pc' := 237) (c_X3_sumOf l g F hz.2.1.2.2.2.2.1 e29) ⟨Nat.le_of_ble_eq_true rfl, Nat.le_of_ble_eq_true rfl⟩ (Nat.le_of_ble_eq_true rfl) dX3_count_234 rfl ?_
                              cases hf
                              exact a_iret hr ⟨rfl, rfl⟩ dX3_count_237
                            · replace hf := (if_neg k28).symm.trans hf
                              by_cases k31 : a1 = (14 : Int32)
                              · replace hf := (if_pos k31).symm.trans hf
                                refine b_top k31 ?_
                                refine a_tableIn (off := 237) 238 dX3_count_1 (by decide) (by decide) rfl (by decide) ?_
                                refine a_aload_n (pc' := 239) 0 dX3_count_238 rfl rfl rfl ?_
                                refine g_X3_10 (pc' := 242) hz.1 rfl dX3_count_239 rfl ?_
                                refine g_X3_133 (pc' := 245) hz.2.1.1 rfl dX3_count_242 rfl ?_
                                cases hf
                                exact a_iret hr ⟨rfl, rfl⟩ dX3_count_245
                              · replace hf := (if_neg k31).symm.trans hf
                                by_cases k32 : a1 = (15 : Int32)
                                · replace hf := (if_pos k32).symm.trans hf
                                  refine b_top k32 ?_
                                  refine a_tableIn (off := 245) 246 dX3_count_1 (by decide) (by decide) rfl (by decide) ?_
                                  refine a_aload_n (pc' := 247) 0 dX3_count_246 rfl rfl rfl ?_
                                  refine g_X3_10 (pc' := 250) hz.1 rfl dX3_count_247 rfl ?_
                                  refine g_X3_138 (pc' := 253) hz.2.1.1 rfl dX3_count_250 rfl ?_
                                  cases hf
                                  exact a_iret hr ⟨rfl, rfl⟩ dX3_count_253
                                · replace hf := (if_neg k32).symm.trans hf
                                  by_cases k33 : a1 = (16 : Int32)
                                  · replace hf := (if_pos k33).symm.trans hf
                                    refine b_top k33 ?_
                                    refine a_tableIn (off := 253) 254 dX3_count_1 (by decide) (by decide) rfl (by decide) ?_
                                    refine a_aload_n (pc' := 255) 0 dX3_count_254 rfl rfl rfl ?_
                                    refine g_X3_10 (pc' := 258) hz.1 rfl dX3_count_255 rfl ?_
                                    refine g_X3_52 (pc' := 261) hz.2.1.1 rfl dX3_count_258 rfl ?_
                                    cases hf
                                    exact a_iret hr ⟨rfl, rfl⟩ dX3_count_261
                                  · replace hf := (if_neg k33).symm.trans hf
                                    by_cases k34 : a1 = (17 : Int32)
                                    · replace hf := (if_pos k34).symm.trans hf
                                      refine b_top k34 ?_
                                      refine a_tableIn (off := 261) 262 dX3_count_1 (by decide) (by decide) rfl (by decide) ?_
                                      refine a_aload_n (pc' := 263) 0 dX3_count_262 rfl rfl rfl ?_
                                      refine g_X3_10 (pc' := 266) hz.1 rfl dX3_count_263 rfl ?_
                                      refine g_X3_123 (pc' := 269) hz.2.1.1 rfl dX3_count_266 rfl ?_
                                      cases hf
                                      exact a_iret hr ⟨rfl, rfl⟩ dX3_count_269
                                    · replace hf := (if_neg k34).symm.trans hf
                                      by_cases k35 : a1 = (18 : Int32)
                                      · replace hf := (if_pos k35).symm.trans hf
                                        refine b_top k35 ?_
                                        refine a_tableIn (off := 269) 270 dX3_count_1 (by decide) (by decide) rfl (by decide) ?_
                                        refine a_aload_n (pc' := 271) 0 dX3_count_270 rfl rfl rfl ?_
                                        refine g_X3_22 (pc' := 274) hz.1 rfl dX3_count_271 rfl ?_
                                        refine g_X3_238 (pc' := 277) hz.2.2.2.1.1 rfl dX3_count_274 rfl ?_
                                        cases hf
                                        exact a_iret hr ⟨rfl, rfl⟩ dX3_count_277
                                      · replace hf := (if_neg k35).symm.trans hf
                                        refine a_tableOut 278 dX3_count_1 (b_tout19_0 k1 k2 k3 k4 k7 k10 k13 k17 k18 k19 k20 k22 k25 k28 k31 k32 k33 k34 k35) (by decide) ?_
                                        cases hf
/-! SlateRoof.setting(I)I -/
set_option maxRecDepth 100000 in
def f_X3_setting (F : Nat) (q : d_C) (a1 : Int32) : Option (Nat ⊕ (Int32)) := (f_X3_isWithin F a1 ((0 : Int32)) ((2 : Int32))).bind fun x2 => (if x2 = 0 then some (.inl 2) else (f_X1_settingOf F q.1 a1).bind fun x5 => some (.inr (x5)))
set_option maxHeartbeats 4000000 in
set_option maxRecDepth 100000 in
theorem c_X3_setting (l : Launch) (g : a_G) (F : Nat) {h : List va_E} {q : d_C} {a1 : Int32} (hz : d_cls h q) {out : Int32} (hf : f_X3_setting F q a1 = some (.inr out)) : a_CT l g yX3_setting cX3_setting 2 (some .int) (a_rm 1 22) [.ref 0, .int a1] h none none (fun r h' => r = some (.int out) ∧ h' = h) := by
  refine a_enter ⟨by decide, rfl, Nat.le_of_ble_eq_true rfl⟩ (fun p e s m args below meth c hr hin => ?_)
  unfold f_X3_setting at hf
  refine a_sub (ls' := [(0, .ref 0), (1, .int a1)]) [0, 1] rfl ?_
  refine a_iload_n (pc' := 1) 1 dX3_setting_0 rfl rfl rfl ?_
  refine a_iconst (pc' := 2) (v := (0 : Int32)) dX3_setting_1 rfl (by decide) ?_
  refine a_iconst (pc' := 3) (v := (2 : Int32)) dX3_setting_2 rfl (by decide) ?_
  obtain ⟨x2, e1, hf⟩ := Option.bind_eq_some_iff.mp hf
  refine k_X3_33 (pc' := 6) (c_X3_isWithin l g F e1) ⟨Nat.le_of_ble_eq_true rfl, Nat.le_of_ble_eq_true rfl⟩ (Nat.le_of_ble_eq_true rfl) dX3_setting_3 rfl ?_
  refine a_if_ne (pc' := 9) 19 dX3_setting_6 (by decide) rfl (fun k3 => ?_) (fun k3 => ?_)
  · replace hf := (if_neg k3).symm.trans hf
    refine a_aload_n (pc' := 20) 0 dX3_setting_19 rfl rfl rfl ?_
    refine g_X3_10 (pc' := 23) hz.1 rfl dX3_setting_20 rfl ?_
    refine a_iload_n (pc' := 24) 1 dX3_setting_23 rfl rfl rfl ?_
    obtain ⟨x5, e4, hf⟩ := Option.bind_eq_some_iff.mp hf
    refine k_X3_83 (pc' := 27) (c_X1_settingOf l g F hz.2.1 e4) ⟨Nat.le_of_ble_eq_true rfl, Nat.le_of_ble_eq_true rfl⟩ hz.2.1.1 (Nat.le_of_ble_eq_true rfl) dX3_setting_24 rfl ?_
    cases hf
    exact a_iret hr ⟨rfl, rfl⟩ dX3_setting_27
  · replace hf := (if_pos k3).symm.trans hf
    cases hf
/-! SlateRoof$Roof.coursesToTop(I)I -/
set_option maxRecDepth 100000 in
def f_X1_coursesToTop (F : Nat) (z : d_Z) (a1 : Int32) : Option (Int32) := (f_X1_topOf F z ((z 2) - ((1 : Int32)))).bind fun x2 => (f_X1_gaugeOf F z a1).bind fun x4 => (if ((z 0) - x2) ≤ 0 then some ((0 : Int32)) else (if x4 ≤ 0 then some ((0 : Int32)) else f_if (¬ x4 = 0) (some (((((z 0) - x2) + x4) - ((1 : Int32))) / x4))))
set_option maxHeartbeats 4000000 in
set_option maxRecDepth 100000 in
theorem c_X1_coursesToTop (l : Launch) (g : a_G) (F : Nat) {h : List va_E} {i : Nat} {z : d_Z} {a1 : Int32} (hz : d_roof h i z) {out : Int32} (hf : f_X1_coursesToTop F z a1 = some out) : a_CT l g yX1_coursesToTop cX1_coursesToTop 4 (some .int) (a_rm 2 44) [.ref i, .int a1] h none none (fun r h' => r = some (.int out) ∧ h' = h) := by
  refine a_enter ⟨by decide, rfl, Nat.le_of_ble_eq_true rfl⟩ (fun p e s m args below meth c hr hin => ?_)
  unfold f_X1_coursesToTop at hf
  refine a_sub (ls' := [(0, .ref i), (1, .int a1)]) [0, 1] rfl ?_
  refine a_aload_n (pc' := 1) 0 dX1_coursesToTop_0 rfl rfl rfl ?_
  refine g_X1_9 (pc' := 4) hz.1 rfl dX1_coursesToTop_1 rfl ?_
  refine a_aload_n (pc' := 5) 0 dX1_coursesToTop_4 rfl rfl rfl ?_
  refine a_aload_n (pc' := 6) 0 dX1_coursesToTop_5 rfl rfl rfl ?_
  refine g_X1_46 (pc' := 9) hz.1 rfl dX1_coursesToTop_6 rfl ?_
  refine a_iconst (pc' := 10) (v := (1 : Int32)) dX1_coursesToTop_9 rfl (by decide) ?_
  refine a_isub (pc' := 11) dX1_coursesToTop_10 rfl ?_
  obtain ⟨x2, e1, hf⟩ := Option.bind_eq_some_iff.mp hf
  refine k_X1_102 (pc' := 14) (c_X1_topOf l g F hz e1) ⟨Nat.le_of_ble_eq_true rfl, Nat.le_of_ble_eq_true rfl⟩ hz.1 (Nat.le_of_ble_eq_true rfl) dX1_coursesToTop_11 rfl ?_
  refine a_isub (pc' := 15) dX1_coursesToTop_14 rfl ?_
  refine a_istore_n (pc' := 16) (ls' := [(2, .int ((z 0) - x2)), (0, .ref i), (1, .int a1)]) dX1_coursesToTop_15 rfl (by decide) rfl rfl ?_
  refine a_aload_n (pc' := 17) 1 dX1_coursesToTop_16 rfl rfl rfl ?_
  refine a_iload_n (pc' := 18) 2 dX1_coursesToTop_17 rfl rfl rfl ?_
  obtain ⟨x4, e3, hf⟩ := Option.bind_eq_some_iff.mp hf
  refine k_X1_99 (pc' := 21) (c_X1_gaugeOf l g F hz e3) ⟨Nat.le_of_ble_eq_true rfl, Nat.le_of_ble_eq_true rfl⟩ hz.1 (Nat.le_of_ble_eq_true rfl) dX1_coursesToTop_18 rfl ?_
  refine a_istore_n (pc' := 22) (ls' := [(3, .int x4), (2, .int ((z 0) - x2)), (0, .ref i), (1, .int a1)]) dX1_coursesToTop_21 rfl (by decide) rfl rfl ?_
  refine a_iload_n (pc' := 23) 1 dX1_coursesToTop_22 rfl rfl rfl ?_
  refine a_if_le (pc' := 26) 40 dX1_coursesToTop_23 (by decide) rfl (fun k5 => ?_) (fun k5 => ?_)
  · replace hf := (if_pos k5).symm.trans hf
    refine a_iconst (pc' := 41) (v := (0 : Int32)) dX1_coursesToTop_40 rfl (by decide) ?_
    cases hf
    exact a_iret hr ⟨rfl, rfl⟩ dX1_coursesToTop_41
  · replace hf := (if_neg k5).symm.trans hf
    refine a_iload_n (pc' := 27) 0 dX1_coursesToTop_26 rfl rfl rfl ?_
    refine a_if_le (pc' := 30) 40 dX1_coursesToTop_27 (by decide) rfl (fun k6 => ?_) (fun k6 => ?_)
    · replace hf := (if_pos k6).symm.trans hf
      refine a_iconst (pc' := 41) (v := (0 : Int32)) dX1_coursesToTop_40 rfl (by decide) ?_
      cases hf
      exact a_iret hr ⟨rfl, rfl⟩ dX1_coursesToTop_41
    · replace hf := (if_neg k6).symm.trans hf
      refine a_iload_n (pc' := 31) 1 dX1_coursesToTop_30 rfl rfl rfl ?_
      refine a_iload_n (pc' := 32) 0 dX1_coursesToTop_31 rfl rfl rfl ?_
      refine a_iadd (pc' := 33) dX1_coursesToTop_32 rfl ?_
      refine a_iconst (pc' := 34) (v := (1 : Int32)) dX1_coursesToTop_33 rfl (by decide) ?_
      refine a_isub (pc' := 35) dX1_coursesToTop_34 rfl ?_
      refine a_iload_n (pc' := 36) 0 dX1_coursesToTop_35 rfl rfl rfl ?_
      obtain ⟨hg, hf⟩ := f_if_x hf
      refine a_idiv (pc' := 37) dX1_coursesToTop_36 rfl hg ?_
      refine a_goto 41 dX1_coursesToTop_37 (by decide) ?_
      cases hf
      exact a_iret hr ⟨rfl, rfl⟩ dX1_coursesToTop_41
/-! SlateRoof$Roof.placesOfNext(I)I -/
set_option maxRecDepth 100000 in
def f_X1_placesOfNext (F : Nat) (z : d_Z) (a1 : Int32) : Option (Int32) := some ((a1 * (z 1)) + ((((z 2) + a1) / ((2 : Int32))) - ((z 2) / ((2 : Int32)))))
set_option maxHeartbeats 4000000 in
set_option maxRecDepth 100000 in
theorem c_X1_placesOfNext (l : Launch) (g : a_G) (F : Nat) {h : List va_E} {i : Nat} {z : d_Z} {a1 : Int32} (hz : d_roof h i z) {out : Int32} (hf : f_X1_placesOfNext F z a1 = some out) : a_CT l g yX1_placesOfNext cX1_placesOfNext 3 (some .int) (a_rm 0 0) [.ref i, .int a1] h none none (fun r h' => r = some (.int out) ∧ h' = h) := by
  refine a_enter ⟨by decide, rfl, Nat.le_of_ble_eq_true rfl⟩ (fun p e s m args below meth c hr hin => ?_)
  unfold f_X1_placesOfNext at hf
  refine a_sub (ls' := [(0, .ref i), (1, .int a1)]) [0, 1] rfl ?_
  refine a_aload_n (pc' := 1) 0 dX1_placesOfNext_0 rfl rfl rfl ?_
  refine g_X1_46 (pc' := 4) hz.1 rfl dX1_placesOfNext_1 rfl ?_
  refine a_iload_n (pc' := 5) 1 dX1_placesOfNext_4 rfl rfl rfl ?_
  refine a_iadd (pc' := 6) dX1_placesOfNext_5 rfl ?_
  refine a_iconst (pc' := 7) (v := (2 : Int32)) dX1_placesOfNext_6 rfl (by decide) ?_
  refine a_idiv (pc' := 8) dX1_placesOfNext_7 rfl (by decide) ?_
  refine a_aload_n (pc' := 9) 0 dX1_placesOfNext_8 rfl rfl rfl ?_
  refine g_X1_46 (pc' := 12) hz.1 rfl dX1_placesOfNext_9 rfl ?_
  refine a_iconst (pc' := 13) (v := (2 : Int32)) dX1_placesOfNext_12 rfl (by decide) ?_
  refine a_idiv (pc' := 14) dX1_placesOfNext_13 rfl (by decide) ?_
  refine a_isub (pc' := 15) dX1_placesOfNext_14 rfl ?_
  refine a_istore_n (pc' := 16) (ls' := [(2, .int ((((z 2) + a1) / ((2 : Int32))) - ((z 2) / ((2 : Int32))))), (0, .ref i), (1, .int a1)]) dX1_placesOfNext_15 rfl (by decide) rfl rfl ?_
  refine a_iload_n (pc' := 17) 2 dX1_placesOfNext_16 rfl rfl rfl ?_
  refine a_aload_n (pc' := 18) 1 dX1_placesOfNext_17 rfl rfl rfl ?_
  refine g_X1_15 (pc' := 21) hz.1 rfl dX1_placesOfNext_18 rfl ?_
  refine a_imul (pc' := 22) dX1_placesOfNext_21 rfl ?_
  refine a_iload_n (pc' := 23) 0 dX1_placesOfNext_22 rfl rfl rfl ?_
  refine a_iadd (pc' := 24) dX1_placesOfNext_23 rfl ?_
  cases hf
  exact a_iret hr ⟨rfl, rfl⟩ dX1_placesOfNext_24
/-! SlateRoof.toTop(II)I -/
set_option maxRecDepth 100000 in
def f_X3_toTop (F : Nat) (q : d_C) (a1 : Int32) (a2 : Int32) : Option (Nat ⊕ (Int32)) := (f_X3_isLength F a1).bind fun x2 => (if x2 = 0 then some (.inl 0) else (f_X3_isWithin F a2 ((0 : Int32)) ((1 : Int32))).bind fun x5 => (if x5 = 0 then some (.inl 0) else (f_X1_longestNext F q.1).bind fun x8 => (if a1 ≤ x8 then (f_X1_coursesToTop F q.1 a1).bind fun x11 => (if a2 = 0 then some (.inr (x11)) else (f_X1_placesOfNext F q.1 x11).bind fun x14 => some (.inr (x14))) else some (.inr ((-1 : Int32))))))
set_option maxHeartbeats 4000000 in
set_option maxRecDepth 100000 in
theorem c_X3_toTop (l : Launch) (g : a_G) (F : Nat) {h : List va_E} {q : d_C} {a1 : Int32} {a2 : Int32} (hz : d_cls h q) {out : Int32} (hf : f_X3_toTop F q a1 a2 = some (.inr out)) : a_CT l g yX3_toTop cX3_toTop 4 (some .int) (a_rm 3 67) [.ref 0, .int a1, .int a2] h none none (fun r h' => r = some (.int out) ∧ h' = h) := by
  refine a_enter ⟨by decide, rfl, Nat.le_of_ble_eq_true rfl⟩ (fun p e s m args below meth c hr hin => ?_)
  unfold f_X3_toTop at hf
  refine a_sub (ls' := [(0, .ref 0), (1, .int a1), (2, .int a2)]) [0, 1, 2] rfl ?_
  refine a_iload_n (pc' := 1) 1 dX3_toTop_0 rfl rfl rfl ?_
  obtain ⟨x2, e1, hf⟩ := Option.bind_eq_some_iff.mp hf
  refine k_X3_91 (pc' := 4) (c_X3_isLength l g F e1) ⟨Nat.le_of_ble_eq_true rfl, Nat.le_of_ble_eq_true rfl⟩ (Nat.le_of_ble_eq_true rfl) dX3_toTop_1 rfl ?_
  refine a_if_eq (pc' := 7) 16 dX3_toTop_4 (by decide) rfl (fun k3 => ?_) (fun k3 => ?_)
  · replace hf := (if_pos k3).symm.trans hf
    cases hf
  · replace hf := (if_neg k3).symm.trans hf
    refine a_iload_n (pc' := 8) 2 dX3_toTop_7 rfl rfl rfl ?_
    refine a_iconst (pc' := 9) (v := (0 : Int32)) dX3_toTop_8 rfl (by decide) ?_
    refine a_iconst (pc' := 10) (v := (1 : Int32)) dX3_toTop_9 rfl (by decide) ?_
    obtain ⟨x5, e4, hf⟩ := Option.bind_eq_some_iff.mp hf
    refine k_X3_33 (pc' := 13) (c_X3_isWithin l g F e4) ⟨Nat.le_of_ble_eq_true rfl, Nat.le_of_ble_eq_true rfl⟩ (Nat.le_of_ble_eq_true rfl) dX3_toTop_10 rfl ?_
    refine a_if_ne (pc' := 16) 27 dX3_toTop_13 (by decide) rfl (fun k6 => ?_) (fun k6 => ?_)
    · replace hf := (if_neg k6).symm.trans hf
      refine a_iload_n (pc' := 28) 1 dX3_toTop_27 rfl rfl rfl ?_
      refine a_aload_n (pc' := 29) 0 dX3_toTop_28 rfl rfl rfl ?_
      refine g_X3_10 (pc' := 32) hz.1 rfl dX3_toTop_29 rfl ?_
      obtain ⟨x8, e7, hf⟩ := Option.bind_eq_some_iff.mp hf
      refine k_X3_148 (pc' := 35) (c_X1_longestNext l g F hz.2.1 e7) ⟨Nat.le_of_ble_eq_true rfl, Nat.le_of_ble_eq_true rfl⟩ hz.2.1.1 (Nat.le_of_ble_eq_true rfl) dX3_toTop_32 rfl ?_
      refine a_icmp_le (pc' := 38) 40 dX3_toTop_35 (by decide) rfl (fun k9 => ?_) (fun k9 => ?_)
      · replace hf := (if_pos k9).symm.trans hf
        refine a_aload_n (pc' := 41) 0 dX3_toTop_40 rfl rfl rfl ?_
        refine g_X3_10 (pc' := 44) hz.1 rfl dX3_toTop_41 rfl ?_
        refine a_iload_n (pc' := 45) 1 dX3_toTop_44 rfl rfl rfl ?_
        obtain ⟨x11, e10, hf⟩ := Option.bind_eq_some_iff.mp hf
        refine k_X3_287 (pc' := 48) (c_X1_coursesToTop l g F hz.2.1 e10) ⟨Nat.le_of_ble_eq_true rfl, Nat.le_of_ble_eq_true rfl⟩ hz.2.1.1 (Nat.le_of_ble_eq_true rfl) dX3_toTop_45 rfl ?_
        refine a_istore_n (pc' := 49) (ls' := [(3, .int x11), (0, .ref 0), (1, .int a1), (2, .int a2)]) dX3_toTop_48 rfl (by decide) rfl rfl ?_
        refine a_iload_n (pc' := 50) 3 dX3_toTop_49 rfl rfl rfl ?_
        refine a_if_ne (pc' := 53) 57 dX3_toTop_50 (by decide) rfl (fun k12 => ?_) (fun k12 => ?_)
        · replace hf := (if_neg k12).symm.trans hf
          refine a_aload_n (pc' := 58) 1 dX3_toTop_57 rfl rfl rfl ?_
          refine g_X3_10 (pc' := 61) hz.1 rfl dX3_toTop_58 rfl ?_
          refine a_iload_n (pc' := 62) 0 dX3_toTop_61 rfl rfl rfl ?_
          obtain ⟨x14, e13, hf⟩ := Option.bind_eq_some_iff.mp hf
          refine k_X3_290 (pc' := 65) (c_X1_placesOfNext l g F hz.2.1 e13) ⟨Nat.le_of_ble_eq_true rfl, Nat.le_of_ble_eq_true rfl⟩ hz.2.1.1 (Nat.le_of_ble_eq_true rfl) dX3_toTop_62 rfl ?_
          cases hf
          exact a_iret hr ⟨rfl, rfl⟩ dX3_toTop_65
        · replace hf := (if_pos k12).symm.trans hf
          refine a_iload_n (pc' := 54) 0 dX3_toTop_53 rfl rfl rfl ?_
          refine a_goto 65 dX3_toTop_54 (by decide) ?_
          cases hf
          exact a_iret hr ⟨rfl, rfl⟩ dX3_toTop_65
      · replace hf := (if_neg k9).symm.trans hf
        refine a_iconst (pc' := 39) (v := (-1 : Int32)) dX3_toTop_38 rfl (by decide) ?_
        cases hf
        exact a_iret hr ⟨rfl, rfl⟩ dX3_toTop_39
    · replace hf := (if_pos k6).symm.trans hf
      cases hf
/-! SlateRoof$Roof.buildFromStock()V -/
set_option maxRecDepth 100000 in
def f_X1_buildFromStock_L5 (F : Nat)  : Nat → Int32 → d_Z → Option ((Int32 × d_Z) ⊕ (Int32 × d_Z))
  | 0, _, _ => none
  | n + 1, v1_5, z_5 => (if ((100 : Int32)) ≤ v1_5 then some (.inl (v1_5, z_5)) else (f_X1_isHighEnough F z_5).bind fun x6003 => (if x6003 = 0 then (f_X1_nextLength F z_5).bind fun x6006 => (if x6006 = ((-1 : Int32)) then some (.inr ((v1_5, z_5))) else (f_X1_placesOf F z_5 v1_5).bind fun x6009 => (f_X3_addAt F 25 (fun k => z_5 (214 + k)) x6006 (-x6009)).bind fun x6011 => f_let (d_put z_5 214 25 x6011) fun z6013 => (f_X1_addCourse F z6013 x6006).bind fun x6015 => f_let x6015 fun z6017 => f_X1_buildFromStock_L5 F  n (v1_5 + (1 : Int32)) z6017) else some (.inl (v1_5, z_5))))
set_option maxRecDepth 100000 in
def f_X1_buildFromStock (F : Nat) (z : d_Z) : Option (d_Z) := (f_X1_buildFromStock_L5 F F (z 2) z).bind (fun w9 => Sum.elim (fun w3 => some (w3.2)) (fun w5 => some (w5.2)) w9)
set_option maxHeartbeats 4000000 in
set_option maxRecDepth 100000 in
theorem l_X1_buildFromStock_L5 {p : Program} {l : Launch} {e : Env} {s : State} {m : MethodId} {args : Array Value} {below : List Frame} {meth : Method} {c : Code} {Q : State → Prop} {g : a_G} (F : Nat) {h : List va_E} {i : Nat}  : ∀ (n : Nat) (v1_5 : Int32) (z_5 : d_Z) (o : (Int32 × d_Z) ⊕ (Int32 × d_Z)), f_X1_buildFromStock_L5 F  n v1_5 z_5 = some o → (∀ e9 : Int32 × d_Z, o = .inl e9 → ∀ h1, d_roof h1 i e9.2 → d_frm i 6 h h1 → a_W p l e (a_rm 3 64) s m args below meth c Q RX1 cX1_buildFromStock 3 g 0 0 none 56 [] [] h1) → (∀ e9 : Int32 × d_Z, o = .inr (e9) → ∀ h1, d_roof h1 i e9.2 → d_frm i 6 h h1 → a_W p l e (a_rm 3 64) s m args below meth c Q RX1 cX1_buildFromStock 3 g 0 0 none 28 [] [] h1) → ∀ h1, d_roof h1 i z_5 → d_frm i 6 h h1 → a_W p l e (a_rm 3 64) s m args below meth c Q RX1 cX1_buildFromStock 3 g 0 0 none 5 [(0, .ref i), (1, .int v1_5)] [] h1 := by
  intro n
  induction n with
  | zero => intro v1_5 z_5 o hf; exact nomatch (show (none : Option ((Int32 × d_Z) ⊕ (Int32 × d_Z))) = some o from hf)
  | succ n ih =>
    intro v1_5 z_5 o hf hX0 hX1 h1 hz hfr
    rw [f_X1_buildFromStock_L5] at hf
    refine a_iload_n (pc' := 6) 1 dX1_buildFromStock_5 rfl rfl rfl ?_
    refine a_bipush (pc' := 8) (v := (100 : Int32)) dX1_buildFromStock_6 rfl (by decide) ?_
    refine a_icmp_ge (pc' := 11) 56 dX1_buildFromStock_8 (by decide) rfl (fun k6001 => ?_) (fun k6001 => ?_)
    · replace hf := (if_pos k6001).symm.trans hf
      cases hf
      refine a_sub [] rfl ?_
      exact hX0 _ rfl _ hz hfr
    · replace hf := (if_neg k6001).symm.trans hf
      refine a_aload_n (pc' := 12) 0 dX1_buildFromStock_11 rfl rfl rfl ?_
      obtain ⟨x6003, e6002, hf⟩ := Option.bind_eq_some_iff.mp hf
      refine k_X1_105 (pc' := 15) (c_X1_isHighEnough l g F hz e6002) ⟨Nat.le_of_ble_eq_true rfl, Nat.le_of_ble_eq_true rfl⟩ hz.1 (Nat.le_of_ble_eq_true rfl) dX1_buildFromStock_12 rfl ?_
      refine a_if_ne (pc' := 18) 56 dX1_buildFromStock_15 (by decide) rfl (fun k6004 => ?_) (fun k6004 => ?_)
      · replace hf := (if_neg k6004).symm.trans hf
        cases hf
        refine a_sub [] rfl ?_
        exact hX0 _ rfl _ hz hfr
      · replace hf := (if_pos k6004).symm.trans hf
        refine a_aload_n (pc' := 19) 0 dX1_buildFromStock_18 rfl rfl rfl ?_
        obtain ⟨x6006, e6005, hf⟩ := Option.bind_eq_some_iff.mp hf
        refine k_X1_148 (pc' := 22) (c_X1_nextLength l g F hz e6005) ⟨Nat.le_of_ble_eq_true rfl, Nat.le_of_ble_eq_true rfl⟩ hz.1 (Nat.le_of_ble_eq_true rfl) dX1_buildFromStock_19 rfl ?_
        refine a_istore_n (pc' := 23) (ls' := [(2, .int x6006), (0, .ref i), (1, .int v1_5)]) dX1_buildFromStock_22 rfl (by decide) rfl rfl ?_
        refine a_iload_n (pc' := 24) 0 dX1_buildFromStock_23 rfl rfl rfl ?_
        refine a_iconst (pc' := 25) (v := (-1 : Int32)) dX1_buildFromStock_24 rfl (by decide) ?_
        refine a_icmp_ne (pc' := 28) 31 dX1_buildFromStock_25 (by decide) rfl (fun k6007 => ?_) (fun k6007 => ?_)
        · replace hf := (if_neg k6007).symm.trans hf
          refine a_aload_n (pc' := 32) 1 dX1_buildFromStock_31 rfl rfl rfl ?_
          refine g_X1_25 (pc' := 35) hz.1 rfl dX1_buildFromStock_32 rfl ?_
          refine a_iload_n (pc' := 36) 0 dX1_buildFromStock_35 rfl rfl rfl ?_
          refine a_aload_n (pc' := 37) 1 dX1_buildFromStock_36 rfl rfl rfl ?_
          refine a_iload_n (pc' := 38) 2 dX1_buildFromStock_37 rfl rfl rfl ?_
          obtain ⟨x6009, e6008, hf⟩ := Option.bind_eq_some_iff.mp hf
          refine k_X1_79 (pc' := 41) (c_X1_placesOf l g F hz e6008) ⟨Nat.le_of_ble_eq_true rfl, Nat.le_of_ble_eq_true rfl⟩ hz.1 (Nat.le_of_ble_eq_true rfl) dX1_buildFromStock_38 rfl ?_
          refine a_ineg (pc' := 42) dX1_buildFromStock_41 rfl ?_
          obtain ⟨x6011, e6010, hf⟩ := Option.bind_eq_some_iff.mp hf
          refine k_X1_119 (pc' := 45) (c_X3_addAt l g F hz.2.2.2.1 e6010) ⟨Nat.le_of_ble_eq_true rfl, Nat.le_of_ble_eq_true rfl⟩ (Nat.le_of_ble_eq_true rfl) dX1_buildFromStock_42 rfl (fun h6012 hq => ?_)
          obtain ⟨hz1, hfr1⟩ := hq
          replace hz1 := d_r_a3 hz hz1 hfr1
          replace hfr1 := d_frm.mono (lo := i) (n := 6) hfr1 (by omega)
          obtain ⟨z6013, hf, hz⟩ := f_let_x (P := fun w => d_roof h6012 i w) hf hz1
          replace hfr := d_frm.tr hfr hfr1 (by omega)
          refine a_aload_n (pc' := 46) 1 dX1_buildFromStock_45 rfl rfl rfl ?_
          refine a_iload_n (pc' := 47) 0 dX1_buildFromStock_46 rfl rfl rfl ?_
          obtain ⟨x6015, e6014, hf⟩ := Option.bind_eq_some_iff.mp hf
          refine k_X1_151 (pc' := 50) (c_X1_addCourse l g F hz e6014) ⟨Nat.le_of_ble_eq_true rfl, Nat.le_of_ble_eq_true rfl⟩ hz.1 (Nat.le_of_ble_eq_true rfl) dX1_buildFromStock_47 rfl (fun h6016 hq => ?_)
          obtain ⟨hz1, hfr1⟩ := hq
          obtain ⟨z6017, hf, hz⟩ := f_let_x (P := fun w => d_roof h6016 i w) hf hz1
          replace hfr := d_frm.tr hfr hfr1 (by omega)
          refine a_iinc (pc' := 53) (v := v1_5 + (1 : Int32)) (ls' := [(1, .int (v1_5 + (1 : Int32))), (2, .int x6006), (0, .ref i)]) 2 dX1_buildFromStock_50 rfl (by rfl) (by decide) rfl rfl ?_
          refine a_goto 5 dX1_buildFromStock_53 (by decide) ?_
          refine a_sub [2, 0] rfl ?_
          exact ih _ _ _ hf hX0 hX1 _ hz hfr
        · replace hf := (if_pos k6007).symm.trans hf
          cases hf
          refine a_sub [] rfl ?_
          exact hX1 _ rfl _ hz hfr
set_option maxHeartbeats 4000000 in
set_option maxRecDepth 100000 in
theorem c_X1_buildFromStock (l : Launch) (g : a_G) (F : Nat) {h : List va_E} {i : Nat} {z : d_Z} (hz : d_roof h i z) {out : d_Z} (hf : f_X1_buildFromStock F z = some out) : a_CT l g yX1_buildFromStock cX1_buildFromStock 3 none (a_rm 3 64) [.ref i] h none none (fun r h' => r = none ∧ d_roof h' i out ∧ d_frm i 6 h h') := by
  refine a_enter ⟨by decide, rfl, Nat.le_of_ble_eq_true rfl⟩ (fun p e s m args below meth c hr hin => ?_)
  unfold f_X1_buildFromStock at hf
  have hfr : d_frm i 6 h h := d_frm.rf
  refine a_sub (ls' := [(0, .ref i)]) [0] rfl ?_
  refine a_aload_n (pc' := 1) 0 dX1_buildFromStock_0 rfl rfl rfl ?_
  refine g_X1_46 (pc' := 4) hz.1 rfl dX1_buildFromStock_1 rfl ?_
  refine a_istore_n (pc' := 5) (ls' := [(1, .int (z 2)), (0, .ref i)]) dX1_buildFromStock_4 rfl (by decide) rfl rfl ?_
  obtain ⟨o1, e2, hf⟩ := Option.bind_eq_some_iff.mp hf
  refine a_sub [1, 0] rfl ?_
  refine l_X1_buildFromStock_L5 F   F _ _ o1 e2 (fun w3 he9 h4 hz hfr => ?_) (fun w5 he9 h6 hz hfr => ?_) _ hz hfr
  · subst he9
    simp only [Sum.elim_inl, Sum.elim_inr] at hf
    cases hf
    exact a_vret hr ⟨rfl, hz, hfr⟩ dX1_buildFromStock_56
  · subst he9
    simp only [Sum.elim_inl, Sum.elim_inr] at hf
    refine a_goto 56 dX1_buildFromStock_28 (by decide) ?_
    cases hf
    exact a_vret hr ⟨rfl, hz, hfr⟩ dX1_buildFromStock_56
/-! SlateRoof.reach(I)I -/
set_option maxRecDepth 100000 in
def f_X3_reach (F : Nat) (q : d_C) (a1 : Int32) : Option ((Nat × d_C) ⊕ (Int32 × d_C)) := (f_X3_isWithin F a1 ((0 : Int32)) ((3 : Int32))).bind fun x2 => (if x2 = 0 then some (.inl (0, q)) else (f_X1_copyFrom F q).bind fun x5 => f_let x5 fun q7 => (f_X1_buildFromStock F q7.2.1).bind fun x9 => f_let (q7.1, x9, q7.2.2) fun q11 => (if a1 = (0 : Int32) then some (.inr (((q11.2.1 2) - (q11.1 2), q11))) else (if a1 = (1 : Int32) then (f_X1_topOf F q11.2.1 ((q11.2.1 2) - ((1 : Int32)))).bind fun x15 => some (.inr ((x15, q11))) else (if a1 = (2 : Int32) then (f_X3_sumOf F 25 (fun k => q11.2.1 (214 + k))).bind fun x18 => some (.inr ((x18, q11))) else ((if ((q11.2.1 2) - (q11.1 2)) = 0 then some (.inr (((-1 : Int32), q11))) else (f_X1_longestNext F q11.2.1).bind fun x21 => some (.inr ((x21, q11)))))))))
set_option maxHeartbeats 4000000 in
set_option maxRecDepth 100000 in
theorem c_X3_reach (l : Launch) (g : a_G) (F : Nat) {h : List va_E} {q : d_C} {a1 : Int32} (hz : d_cls h q) {out : Int32 × d_C} (hf : f_X3_reach F q a1 = some (.inr out)) : a_CT l g yX3_reach cX3_reach 3 (some .int) (a_rm 4 86) [.ref 0, .int a1] h none none (fun r h' => r = some (.int out.1) ∧ d_cls h' out.2 ∧ d_frm 0 55 h h') := by
  refine a_enter ⟨by decide, rfl, Nat.le_of_ble_eq_true rfl⟩ (fun p e s m args below meth c hr hin => ?_)
  unfold f_X3_reach at hf
  have hfr : d_frm 0 55 h h := d_frm.rf
  refine a_sub (ls' := [(0, .ref 0), (1, .int a1)]) [0, 1] rfl ?_
  refine a_iload_n (pc' := 1) 1 dX3_reach_0 rfl rfl rfl ?_
  refine a_iconst (pc' := 2) (v := (0 : Int32)) dX3_reach_1 rfl (by decide) ?_
  refine a_iconst (pc' := 3) (v := (3 : Int32)) dX3_reach_2 rfl (by decide) ?_
  obtain ⟨x2, e1, hf⟩ := Option.bind_eq_some_iff.mp hf
  refine k_X3_33 (pc' := 6) (c_X3_isWithin l g F e1) ⟨Nat.le_of_ble_eq_true rfl, Nat.le_of_ble_eq_true rfl⟩ (Nat.le_of_ble_eq_true rfl) dX3_reach_3 rfl ?_
  refine a_if_ne (pc' := 9) 20 dX3_reach_6 (by decide) rfl (fun k3 => ?_) (fun k3 => ?_)
  · replace hf := (if_neg k3).symm.trans hf
    refine a_aload_n (pc' := 21) 0 dX3_reach_20 rfl rfl rfl ?_
    refine g_X3_16 (pc' := 24) hz.1 rfl dX3_reach_21 rfl ?_
    refine a_aload_n (pc' := 25) 0 dX3_reach_24 rfl rfl rfl ?_
    refine g_X3_10 (pc' := 28) hz.1 rfl dX3_reach_25 rfl ?_
    obtain ⟨x5, e4, hf⟩ := Option.bind_eq_some_iff.mp hf
    refine k_X3_293 (pc' := 31) (c_X1_copyFrom l g F hz e4) ⟨Nat.le_of_ble_eq_true rfl, Nat.le_of_ble_eq_true rfl⟩ hz.2.2.1.1 (Nat.le_of_ble_eq_true rfl) dX3_reach_28 rfl (fun h6 hq => ?_)
    obtain ⟨hz1, hfr1⟩ := hq
    obtain ⟨q7, hf, hz⟩ := f_let_x (P := fun w => d_cls h6 w) hf hz1
    replace hfr := d_frm.tr hfr hfr1 (by omega)
    refine a_aload_n (pc' := 32) 0 dX3_reach_31 rfl rfl rfl ?_
    refine g_X3_16 (pc' := 35) hz.1 rfl dX3_reach_32 rfl ?_
    obtain ⟨x9, e8, hf⟩ := Option.bind_eq_some_iff.mp hf
    refine k_X3_296 (pc' := 38) (c_X1_buildFromStock l g F hz.2.2.1 e8) ⟨Nat.le_of_ble_eq_true rfl, Nat.le_of_ble_eq_true rfl⟩ hz.2.2.1.1 (Nat.le_of_ble_eq_true rfl) dX3_reach_35 rfl (fun h10 hq => ?_)
    obtain ⟨hz1, hfr1⟩ := hq
    have hz2 := d_c_trial hz hz1 hfr1
    obtain ⟨q11, hf, hz⟩ := f_let_x (P := fun w => d_cls h10 w) hf hz2
    replace hfr := d_frm.tr hfr hfr1 (by omega)
    refine a_aload_n (pc' := 39) 0 dX3_reach_38 rfl rfl rfl ?_
    refine g_X3_16 (pc' := 42) hz.1 rfl dX3_reach_39 rfl ?_
    refine g_X3_56 (pc' := 45) hz.2.2.1.1 rfl dX3_reach_42 rfl ?_
    refine a_aload_n (pc' := 46) 0 dX3_reach_45 rfl rfl rfl ?_
    refine g_X3_10 (pc' := 49) hz.1 rfl dX3_reach_46 rfl ?_
    refine g_X3_56 (pc' := 52) hz.2.1.1 rfl dX3_reach_49 rfl ?_
    refine a_isub (pc' := 53) dX3_reach_52 rfl ?_
    refine a_istore_n (pc' := 54) (ls' := [(2, .int ((q11.2.1 2) - (q11.1 2))), (0, .ref 0), (1, .int a1)]) dX3_reach_53 rfl (by decide) rfl rfl ?_
    refine a_iload_n (pc' := 55) 2 dX3_reach_54 rfl rfl rfl ?_
    by_cases k12 : a1 = (0 : Int32)
    · replace hf := (if_pos k12).symm.trans hf
      refine b_top k12 ?_
      refine a_tableIn (off := 25) 80 dX3_reach_55 (by decide) (by decide) rfl (by decide) ?_
      refine a_iload_n (pc' := 81) 0 dX3_reach_80 rfl rfl rfl ?_
      cases hf
      exact a_iret hr ⟨rfl, hz, hfr⟩ dX3_reach_81
    · replace hf := (if_neg k12).symm.trans hf
      by_cases k13 : a1 = (1 : Int32)
      · replace hf := (if_pos k13).symm.trans hf
        refine b_top k13 ?_
        refine a_tableIn (off := 27) 82 dX3_reach_55 (by decide) (by decide) rfl (by decide) ?_
        refine a_aload_n (pc' := 83) 1 dX3_reach_82 rfl rfl rfl ?_
        refine g_X3_16 (pc' := 86) hz.1 rfl dX3_reach_83 rfl ?_
        refine a_aload_n (pc' := 87) 1 dX3_reach_86 rfl rfl rfl ?_
        refine g_X3_16 (pc' := 90) hz.1 rfl dX3_reach_87 rfl ?_
        refine g_X3_56 (pc' := 93) hz.2.2.1.1 rfl dX3_reach_90 rfl ?_
        refine a_iconst (pc' := 94) (v := (1 : Int32)) dX3_reach_93 rfl (by decide) ?_
        refine a_isub (pc' := 95) dX3_reach_94 rfl ?_
        obtain ⟨x15, e14, hf⟩ := Option.bind_eq_some_iff.mp hf
        refine k_X3_260 (pc' := 98) (c_X1_topOf l g F hz.2.2.1 e14) ⟨Nat.le_of_ble_eq_true rfl, Nat.le_of_ble_eq_true rfl⟩ hz.2.2.1.1 (Nat.le_of_ble_eq_true rfl) dX3_reach_95 rfl ?_
        cases hf
        exact a_iret hr ⟨rfl, hz, hfr⟩ dX3_reach_98
      · replace hf := (if_neg k13).symm.trans hf
        by_cases k16 : a1 = (2 : Int32)
        · replace hf := (if_pos k16).symm.trans hf
          refine b_top k16 ?_
          refine a_tableIn (off := 44) 99 dX3_reach_55 (by decide) (by decide) rfl (by decide) ?_
          refine a_aload_n (pc' := 100) 1 dX3_reach_99 rfl rfl rfl ?_
          refine g_X3_16 (pc' := 103) hz.1 rfl dX3_reach_100 rfl ?_
          refine g_X3_117 (pc' := 106) hz.2.2.1.1 rfl dX3_reach_103 rfl ?_
          obtain ⟨x18, e17, hf⟩ := Option.bind_eq_some_iff.mp hf
          refine k_X3_100 (pc' := 109) (c_X3_sumOf l g F hz.2.2.1.2.2.2.1 e17) ⟨Nat.le_of_ble_eq_true rfl, Nat.le_of_ble_eq_true rfl⟩ (Nat.le_of_ble_eq_true rfl) dX3_reach_106 rfl ?_
          cases hf
          exact a_iret hr ⟨rfl, hz, hfr⟩ dX3_reach_109
        · replace hf := (if_neg k16).symm.trans hf
          refine a_tableOut 110 dX3_reach_55 (b_tout3_0 k12 k13 k16) (by decide) ?_
          refine a_iload_n (pc' := 111) 0 dX3_reach_110 rfl rfl rfl ?_
          refine a_if_ne (pc' := 114) 118 dX3_reach_111 (by decide) rfl (fun k19 => ?_) (fun k19 => ?_)
          · replace hf := (if_neg k19).symm.trans hf
            refine a_aload_n (pc' := 119) 1 dX3_reach_118 rfl rfl rfl ?_
            refine g_X3_16 (pc' := 122) hz.1 rfl dX3_reach_119 rfl ?_
            obtain ⟨x21, e20, hf⟩ := Option.bind_eq_some_iff.mp hf
            refine k_X3_148 (pc' := 125) (c_X1_longestNext l g F hz.2.2.1 e20) ⟨Nat.le_of_ble_eq_true rfl, Nat.le_of_ble_eq_true rfl⟩ hz.2.2.1.1 (Nat.le_of_ble_eq_true rfl) dX3_reach_122 rfl ?_
            cases hf
            exact a_iret hr ⟨rfl, hz, hfr⟩ dX3_reach_125
          · replace hf := (if_pos k19).symm.trans hf
            refine a_iconst (pc' := 115) (v := (-1 : Int32)) dX3_reach_114 rfl (by decide) ?_
            refine a_goto 125 dX3_reach_115 (by decide) ?_
            cases hf
            exact a_iret hr ⟨rfl, hz, hfr⟩ dX3_reach_125
  · replace hf := (if_pos k3).symm.trans hf
    cases hf
/-! SlateRoof.dryDays()I -/
set_option maxRecDepth 100000 in
def f_X3_dryDays_L33 (F : Nat)  : Nat → Int32 → d_C → Option ((Int32 × d_C) ⊕ ((Int32 × d_C) ⊕ (Int32 × d_C)))
  | 0, _, _ => none
  | n + 1, v1_33, q_33 => (if ((200 : Int32)) < v1_33 then some (.inl (v1_33, q_33)) else (f_X1_passDay F q_33.2.1 ((0 : Int32))).bind fun x34003 => f_let (q_33.1, x34003.2, q_33.2.2) fun q34005 => (f_X1_slateForTheDay F q34005.2.1).bind fun x34007 => f_let (q34005.1, x34007.2, q34005.2.2) fun q34009 => (f_X1_isDone F q34009.2.1).bind fun x34011 => (if x34011 = 0 then (if x34007.1 = 0 then (f_X1_canBeSlated F q34009.2.1).bind fun x34015 => (if x34015 = 0 then f_X3_dryDays_L33 F  n (v1_33 + (1 : Int32)) q34009 else some (.inr (.inl (v1_33, q34009)))) else f_X3_dryDays_L33 F  n (v1_33 + (1 : Int32)) q34009) else some (.inr (.inr ((v1_33, q34009))))))
set_option maxRecDepth 100000 in
def f_X3_dryDays (F : Nat) (q : d_C) : Option (Int32 × d_C) := (f_X1_isDone F q.1).bind fun x2 => (if x2 = 0 then (f_X1_copyFrom F q).bind fun x5 => f_let x5 fun q7 => f_let (q7.1, upd q7.2.1 9 ((0 : Int32)), q7.2.2) fun q9 => (f_X3_dryDays_L33 F F ((1 : Int32)) q9).bind (fun w9 => Sum.elim (fun w12 => some (((-1 : Int32), w12.2))) (fun w9 => Sum.elim (fun w14 => some (((-1 : Int32), w14.2))) (fun w16 => some ((w16.1, w16.2))) w9) w9) else some (((0 : Int32), q)))
set_option maxHeartbeats 4000000 in
set_option maxRecDepth 100000 in
theorem l_X3_dryDays_L33 {p : Program} {l : Launch} {e : Env} {s : State} {m : MethodId} {args : Array Value} {below : List Frame} {meth : Method} {c : Code} {Q : State → Prop} {g : a_G} (F : Nat) {h : List va_E}  : ∀ (n : Nat) (v1_33 : Int32) (q_33 : d_C) (o : (Int32 × d_C) ⊕ ((Int32 × d_C) ⊕ (Int32 × d_C))), f_X3_dryDays_L33 F  n v1_33 q_33 = some o → (∀ e9 : Int32 × d_C, o = .inl e9 → ∀ h1, d_cls h1 e9.2 → d_frm 0 55 h h1 → a_W p l e (a_rm 5 111) s m args below meth c Q RX3 cX3_dryDays 3 g 0 0 none 91 [] [] h1) → (∀ e9 : Int32 × d_C, o = .inr (.inl e9) → ∀ h1, d_cls h1 e9.2 → d_frm 0 55 h h1 → a_W p l e (a_rm 5 111) s m args below meth c Q RX3 cX3_dryDays 3 g 0 0 none 83 [] [] h1) → (∀ e9 : Int32 × d_C, o = .inr (.inr (e9)) → ∀ h1, d_cls h1 e9.2 → d_frm 0 55 h h1 → a_W p l e (a_rm 5 111) s m args below meth c Q RX3 cX3_dryDays 3 g 0 0 none 67 [(1, .int e9.1)] [] h1) → ∀ h1, d_cls h1 q_33 → d_frm 0 55 h h1 → a_W p l e (a_rm 5 111) s m args below meth c Q RX3 cX3_dryDays 3 g 0 0 none 33 [(0, .ref 0), (1, .int v1_33)] [] h1 := by
  intro n
  induction n with
  | zero => intro v1_33 q_33 o hf; exact nomatch (show (none : Option ((Int32 × d_C) ⊕ ((Int32 × d_C) ⊕ (Int32 × d_C)))) = some o from hf)
  | succ n ih =>
    intro v1_33 q_33 o hf hX0 hX1 hX2 h1 hz hfr
    rw [f_X3_dryDays_L33] at hf
    refine a_iload_n (pc' := 34) 1 dX3_dryDays_33 rfl rfl rfl ?_
    refine a_sipush (pc' := 37) (v := (200 : Int32)) dX3_dryDays_34 rfl (by decide) ?_
    refine a_icmp_gt (pc' := 40) 91 dX3_dryDays_37 (by decide) rfl (fun k34001 => ?_) (fun k34001 => ?_)
    · replace hf := (if_pos k34001).symm.trans hf
      cases hf
      refine a_sub [] rfl ?_
      exact hX0 _ rfl _ hz hfr
    · replace hf := (if_neg k34001).symm.trans hf
      refine a_aload_n (pc' := 41) 0 dX3_dryDays_40 rfl rfl rfl ?_
      refine g_X3_16 (pc' := 44) hz.1 rfl dX3_dryDays_41 rfl ?_
      refine a_iconst (pc' := 45) (v := (0 : Int32)) dX3_dryDays_44 rfl (by decide) ?_
      obtain ⟨x34003, e34002, hf⟩ := Option.bind_eq_some_iff.mp hf
      refine k_X3_199 (pc' := 48) (c_X1_passDay l g F hz.2.2.1 e34002) ⟨Nat.le_of_ble_eq_true rfl, Nat.le_of_ble_eq_true rfl⟩ hz.2.2.1.1 (Nat.le_of_ble_eq_true rfl) dX3_dryDays_45 rfl (fun h34004 hq => ?_)
      obtain ⟨hz1, hfr1⟩ := hq
      have hz2 := d_c_trial hz hz1 hfr1
      obtain ⟨q34005, hf, hz⟩ := f_let_x (P := fun w => d_cls h34004 w) hf hz2
      replace hfr := d_frm.tr hfr hfr1 (by omega)
      refine a_pop (pc' := 49) dX3_dryDays_48 rfl rfl ?_
      refine a_aload_n (pc' := 50) 0 dX3_dryDays_49 rfl rfl rfl ?_
      refine g_X3_16 (pc' := 53) hz.1 rfl dX3_dryDays_50 rfl ?_
      obtain ⟨x34007, e34006, hf⟩ := Option.bind_eq_some_iff.mp hf
      refine k_X3_235 (pc' := 56) (c_X1_slateForTheDay l g F hz.2.2.1 e34006) ⟨Nat.le_of_ble_eq_true rfl, Nat.le_of_ble_eq_true rfl⟩ hz.2.2.1.1 (Nat.le_of_ble_eq_true rfl) dX3_dryDays_53 rfl (fun h34008 hq => ?_)
      obtain ⟨hz1, hfr1⟩ := hq
      have hz2 := d_c_trial hz hz1 hfr1
      obtain ⟨q34009, hf, hz⟩ := f_let_x (P := fun w => d_cls h34008 w) hf hz2
      replace hfr := d_frm.tr hfr hfr1 (by omega)
      refine a_istore_n (pc' := 57) (ls' := [(2, .int x34007.1), (0, .ref 0), (1, .int v1_33)]) dX3_dryDays_56 rfl (by decide) rfl rfl ?_
      refine a_aload_n (pc' := 58) 1 dX3_dryDays_57 rfl rfl rfl ?_
      refine g_X3_16 (pc' := 61) hz.1 rfl dX3_dryDays_58 rfl ?_
      obtain ⟨x34011, e34010, hf⟩ := Option.bind_eq_some_iff.mp hf
      refine k_X3_279 (pc' := 64) (c_X1_isDone l g F hz.2.2.1 e34010) ⟨Nat.le_of_ble_eq_true rfl, Nat.le_of_ble_eq_true rfl⟩ hz.2.2.1.1 (Nat.le_of_ble_eq_true rfl) dX3_dryDays_61 rfl ?_
      refine a_if_eq (pc' := 67) 69 dX3_dryDays_64 (by decide) rfl (fun k34012 => ?_) (fun k34012 => ?_)
      · replace hf := (if_pos k34012).symm.trans hf
        refine a_iload_n (pc' := 70) 0 dX3_dryDays_69 rfl rfl rfl ?_
        refine a_if_ne (pc' := 73) 85 dX3_dryDays_70 (by decide) rfl (fun k34013 => ?_) (fun k34013 => ?_)
        · replace hf := (if_neg k34013).symm.trans hf
          refine a_iinc (pc' := 88) (v := v1_33 + (1 : Int32)) (ls' := [(1, .int (v1_33 + (1 : Int32))), (2, .int x34007.1), (0, .ref 0)]) 2 dX3_dryDays_85 rfl (by rfl) (by decide) rfl rfl ?_
          refine a_goto 33 dX3_dryDays_88 (by decide) ?_
          refine a_sub [2, 0] rfl ?_
          exact ih _ _ _ hf hX0 hX1 hX2 _ hz hfr
        · replace hf := (if_pos k34013).symm.trans hf
          refine a_aload_n (pc' := 74) 1 dX3_dryDays_73 rfl rfl rfl ?_
          refine g_X3_16 (pc' := 77) hz.1 rfl dX3_dryDays_74 rfl ?_
          obtain ⟨x34015, e34014, hf⟩ := Option.bind_eq_some_iff.mp hf
          refine k_X3_141 (pc' := 80) (c_X1_canBeSlated l g F hz.2.2.1 e34014) ⟨Nat.le_of_ble_eq_true rfl, Nat.le_of_ble_eq_true rfl⟩ hz.2.2.1.1 (Nat.le_of_ble_eq_true rfl) dX3_dryDays_77 rfl ?_
          refine a_if_eq (pc' := 83) 85 dX3_dryDays_80 (by decide) rfl (fun k34016 => ?_) (fun k34016 => ?_)
          · replace hf := (if_pos k34016).symm.trans hf
            refine a_iinc (pc' := 88) (v := v1_33 + (1 : Int32)) (ls' := [(1, .int (v1_33 + (1 : Int32))), (2, .int x34007.1), (0, .ref 0)]) 2 dX3_dryDays_85 rfl (by rfl) (by decide) rfl rfl ?_
            refine a_goto 33 dX3_dryDays_88 (by decide) ?_
            refine a_sub [2, 0] rfl ?_
            exact ih _ _ _ hf hX0 hX1 hX2 _ hz hfr
          · replace hf := (if_neg k34016).symm.trans hf
            cases hf
            refine a_sub [] rfl ?_
            exact hX1 _ rfl _ hz hfr
      · replace hf := (if_neg k34012).symm.trans hf
        cases hf
        refine a_sub [2] rfl ?_
        exact hX2 _ rfl _ hz hfr
set_option maxHeartbeats 4000000 in
set_option maxRecDepth 100000 in
theorem c_X3_dryDays (l : Launch) (g : a_G) (F : Nat) {h : List va_E} {q : d_C} (hz : d_cls h q) {out : Int32 × d_C} (hf : f_X3_dryDays F q = some out) : a_CT l g yX3_dryDays cX3_dryDays 3 (some .int) (a_rm 5 111) [.ref 0] h none none (fun r h' => r = some (.int out.1) ∧ d_cls h' out.2 ∧ d_frm 0 55 h h') := by
  refine a_enter ⟨by decide, rfl, Nat.le_of_ble_eq_true rfl⟩ (fun p e s m args below meth c hr hin => ?_)
  unfold f_X3_dryDays at hf
  have hfr : d_frm 0 55 h h := d_frm.rf
  refine a_sub (ls' := [(0, .ref 0)]) [0] rfl ?_
  refine a_aload_n (pc' := 1) 0 dX3_dryDays_0 rfl rfl rfl ?_
  refine g_X3_10 (pc' := 4) hz.1 rfl dX3_dryDays_1 rfl ?_
  obtain ⟨x2, e1, hf⟩ := Option.bind_eq_some_iff.mp hf
  refine k_X3_279 (pc' := 7) (c_X1_isDone l g F hz.2.1 e1) ⟨Nat.le_of_ble_eq_true rfl, Nat.le_of_ble_eq_true rfl⟩ hz.2.1.1 (Nat.le_of_ble_eq_true rfl) dX3_dryDays_4 rfl ?_
  refine a_if_eq (pc' := 10) 12 dX3_dryDays_7 (by decide) rfl (fun k3 => ?_) (fun k3 => ?_)
  · replace hf := (if_pos k3).symm.trans hf
    refine a_aload_n (pc' := 13) 0 dX3_dryDays_12 rfl rfl rfl ?_
    refine g_X3_16 (pc' := 16) hz.1 rfl dX3_dryDays_13 rfl ?_
    refine a_aload_n (pc' := 17) 0 dX3_dryDays_16 rfl rfl rfl ?_
    refine g_X3_10 (pc' := 20) hz.1 rfl dX3_dryDays_17 rfl ?_
    obtain ⟨x5, e4, hf⟩ := Option.bind_eq_some_iff.mp hf
    refine k_X3_293 (pc' := 23) (c_X1_copyFrom l g F hz e4) ⟨Nat.le_of_ble_eq_true rfl, Nat.le_of_ble_eq_true rfl⟩ hz.2.2.1.1 (Nat.le_of_ble_eq_true rfl) dX3_dryDays_20 rfl (fun h6 hq => ?_)
    obtain ⟨hz1, hfr1⟩ := hq
    obtain ⟨q7, hf, hz⟩ := f_let_x (P := fun w => d_cls h6 w) hf hz1
    replace hfr := d_frm.tr hfr hfr1 (by omega)
    refine a_aload_n (pc' := 24) 0 dX3_dryDays_23 rfl rfl rfl ?_
    refine g_X3_16 (pc' := 27) hz.1 rfl dX3_dryDays_24 rfl ?_
    refine a_iconst (pc' := 28) (v := (0 : Int32)) dX3_dryDays_27 rfl (by decide) ?_
    refine pt_X3_188 (pc' := 31) (z := q7.2.1) hz.2.2.1 (by decide) dX3_dryDays_28 rfl (fun h8 hz1 hfr1 => ?_)
    have hz2 := d_c_trial hz hz1 hfr1
    obtain ⟨q9, hf, hz⟩ := f_let_x (P := fun w => d_cls h8 w) hf hz2
    replace hfr := d_frm.tr hfr hfr1 (by omega)
    refine a_iconst (pc' := 32) (v := (1 : Int32)) dX3_dryDays_31 rfl (by decide) ?_
    refine a_istore_n (pc' := 33) (ls' := [(1, .int ((1 : Int32))), (0, .ref 0)]) dX3_dryDays_32 rfl (by decide) rfl rfl ?_
    obtain ⟨o10, e11, hf⟩ := Option.bind_eq_some_iff.mp hf
    refine a_sub [1, 0] rfl ?_
    refine l_X3_dryDays_L33 F   F _ _ o10 e11 (fun w12 he9 h13 hz hfr => ?_) (fun w14 he9 h15 hz hfr => ?_) (fun w16 he9 h17 hz hfr => ?_) _ hz hfr
    · subst he9
      simp only [Sum.elim_inl, Sum.elim_inr] at hf
      refine a_iconst (pc' := 92) (v := (-1 : Int32)) dX3_dryDays_91 rfl (by decide) ?_
      cases hf
      exact a_iret hr ⟨rfl, hz, hfr⟩ dX3_dryDays_92
    · subst he9
      simp only [Sum.elim_inl, Sum.elim_inr] at hf
      refine a_iconst (pc' := 84) (v := (-1 : Int32)) dX3_dryDays_83 rfl (by decide) ?_
      cases hf
      exact a_iret hr ⟨rfl, hz, hfr⟩ dX3_dryDays_84
    · subst he9
      simp only [Sum.elim_inl, Sum.elim_inr] at hf
      refine a_iload_n (pc' := 68) 0 dX3_dryDays_67 rfl rfl rfl ?_
      cases hf
      exact a_iret hr ⟨rfl, hz, hfr⟩ dX3_dryDays_68
  · replace hf := (if_neg k3).symm.trans hf
    refine a_iconst (pc' := 11) (v := (0 : Int32)) dX3_dryDays_10 rfl (by decide) ?_
    cases hf
    exact a_iret hr ⟨rfl, hz, hfr⟩ dX3_dryDays_11
/-! SlateRoof.bestLength()I -/
set_option maxRecDepth 100000 in
def f_X3_bestLength_L24 (F : Nat) (q : d_C) : Nat → Int32 → Int32 → Int32 → Option (Int32 × Int32 × Int32)
  | 0, _, _, _ => none
  | n + 1, v1_24, v2_24, v3_24 => (if v3_24 < ((8 : Int32)) then some (v1_24, v2_24, v3_24) else (f_X1_coursesToTop F q.1 v3_24).bind fun x25003 => (f_X1_placesOfNext F q.1 x25003).bind fun x25005 => (f_X3_priceOf F v3_24).bind fun x25007 => (if v1_24 = ((-1 : Int32)) then f_X3_bestLength_L24 F q n v3_24 (x25005 * x25007) (v3_24 + (-1 : Int32)) else (if v2_24 ≤ (x25005 * x25007) then f_X3_bestLength_L24 F q n v1_24 v2_24 (v3_24 + (-1 : Int32)) else f_X3_bestLength_L24 F q n v3_24 (x25005 * x25007) (v3_24 + (-1 : Int32)))))
set_option maxRecDepth 100000 in
def f_X3_bestLength (F : Nat) (q : d_C) : Option (Int32) := (f_X1_isHighEnough F q.1).bind fun x2 => (if x2 = 0 then (f_X1_longestNext F q.1).bind fun x5 => (f_X3_bestLength_L24 F q F ((-1 : Int32)) ((0 : Int32)) x5).bind fun o6 => some (o6.1) else some ((-1 : Int32)))
set_option maxHeartbeats 4000000 in
set_option maxRecDepth 100000 in
theorem l_X3_bestLength_L24 {p : Program} {l : Launch} {e : Env} {s : State} {m : MethodId} {args : Array Value} {below : List Frame} {meth : Method} {c : Code} {Q : State → Prop} {g : a_G} (F : Nat) {h : List va_E} (q : d_C) (hz : d_cls h q) : ∀ (n : Nat) (v1_24 : Int32) (v2_24 : Int32) (v3_24 : Int32) (o : Int32 × Int32 × Int32), f_X3_bestLength_L24 F q n v1_24 v2_24 v3_24 = some o → (∀ e9 : Int32 × Int32 × Int32, o = e9 → a_W p l e (a_rm 3 67) s m args below meth c Q RX3 cX3_bestLength 5 g 0 0 none 74 [(1, .int e9.1)] [] h) → a_W p l e (a_rm 3 67) s m args below meth c Q RX3 cX3_bestLength 5 g 0 0 none 24 [(0, .ref 0), (1, .int v1_24), (2, .int v2_24), (3, .int v3_24)] [] h := by
  intro n
  induction n with
  | zero => intro v1_24 v2_24 v3_24 o hf; exact nomatch (show (none : Option (Int32 × Int32 × Int32)) = some o from hf)
  | succ n ih =>
    intro v1_24 v2_24 v3_24 o hf hX0
    rw [f_X3_bestLength_L24] at hf
    refine a_iload_n (pc' := 25) 3 dX3_bestLength_24 rfl rfl rfl ?_
    refine a_bipush (pc' := 27) (v := (8 : Int32)) dX3_bestLength_25 rfl (by decide) ?_
    refine a_icmp_lt (pc' := 30) 74 dX3_bestLength_27 (by decide) rfl (fun k25001 => ?_) (fun k25001 => ?_)
    · replace hf := (if_pos k25001).symm.trans hf
      cases hf
      refine a_sub [1] rfl ?_
      exact hX0 _ rfl
    · replace hf := (if_neg k25001).symm.trans hf
      refine a_aload_n (pc' := 31) 0 dX3_bestLength_30 rfl rfl rfl ?_
      refine g_X3_10 (pc' := 34) hz.1 rfl dX3_bestLength_31 rfl ?_
      refine a_aload_n (pc' := 35) 0 dX3_bestLength_34 rfl rfl rfl ?_
      refine g_X3_10 (pc' := 38) hz.1 rfl dX3_bestLength_35 rfl ?_
      refine a_iload_n (pc' := 39) 3 dX3_bestLength_38 rfl rfl rfl ?_
      obtain ⟨x25003, e25002, hf⟩ := Option.bind_eq_some_iff.mp hf
      refine k_X3_287 (pc' := 42) (c_X1_coursesToTop l g F hz.2.1 e25002) ⟨Nat.le_of_ble_eq_true rfl, Nat.le_of_ble_eq_true rfl⟩ hz.2.1.1 (Nat.le_of_ble_eq_true rfl) dX3_bestLength_39 rfl ?_
      obtain ⟨x25005, e25004, hf⟩ := Option.bind_eq_some_iff.mp hf
      refine k_X3_290 (pc' := 45) (c_X1_placesOfNext l g F hz.2.1 e25004) ⟨Nat.le_of_ble_eq_true rfl, Nat.le_of_ble_eq_true rfl⟩ hz.2.1.1 (Nat.le_of_ble_eq_true rfl) dX3_bestLength_42 rfl ?_
      refine a_iload_n (pc' := 46) 3 dX3_bestLength_45 rfl rfl rfl ?_
      obtain ⟨x25007, e25006, hf⟩ := Option.bind_eq_some_iff.mp hf
      refine k_X3_126 (pc' := 49) (c_X3_priceOf l g F e25006) ⟨Nat.le_of_ble_eq_true rfl, Nat.le_of_ble_eq_true rfl⟩ (Nat.le_of_ble_eq_true rfl) dX3_bestLength_46 rfl ?_
      refine a_imul (pc' := 50) dX3_bestLength_49 rfl ?_
      refine a_istore (pc' := 52) (ls' := [(4, .int (x25005 * x25007)), (0, .ref 0), (1, .int v1_24), (2, .int v2_24), (3, .int v3_24)]) dX3_bestLength_50 (by decide) rfl rfl ?_
      refine a_iload_n (pc' := 53) 2 dX3_bestLength_52 rfl rfl rfl ?_
      refine a_iconst (pc' := 54) (v := (-1 : Int32)) dX3_bestLength_53 rfl (by decide) ?_
      refine a_icmp_eq (pc' := 57) 63 dX3_bestLength_54 (by decide) rfl (fun k25008 => ?_) (fun k25008 => ?_)
      · replace hf := (if_pos k25008).symm.trans hf
        refine a_iload_n (pc' := 64) 4 dX3_bestLength_63 rfl rfl rfl ?_
        refine a_istore_n (pc' := 65) (ls' := [(1, .int v3_24), (4, .int (x25005 * x25007)), (0, .ref 0), (2, .int v2_24), (3, .int v3_24)]) dX3_bestLength_64 rfl (by decide) rfl rfl ?_
        refine a_iload (pc' := 67) 1 dX3_bestLength_65 rfl rfl ?_
        refine a_istore_n (pc' := 68) (ls' := [(2, .int (x25005 * x25007)), (1, .int v3_24), (4, .int (x25005 * x25007)), (0, .ref 0), (3, .int v3_24)]) dX3_bestLength_67 rfl (by decide) rfl rfl ?_
        refine a_iinc (pc' := 71) (v := v3_24 + (-1 : Int32)) (ls' := [(3, .int (v3_24 + (-1 : Int32))), (2, .int (x25005 * x25007)), (1, .int v3_24), (4, .int (x25005 * x25007)), (0, .ref 0)]) 4 dX3_bestLength_68 rfl (by rfl) (by decide) rfl rfl ?_
        refine a_goto 24 dX3_bestLength_71 (by decide) ?_
        refine a_sub [4, 2, 1, 0] rfl ?_
        exact ih _ _ _ _ hf hX0
      · replace hf := (if_neg k25008).symm.trans hf
        refine a_iload (pc' := 59) 0 dX3_bestLength_57 rfl rfl ?_
        refine a_iload_n (pc' := 60) 3 dX3_bestLength_59 rfl rfl rfl ?_
        refine a_icmp_ge (pc' := 63) 68 dX3_bestLength_60 (by decide) rfl (fun k25009 => ?_) (fun k25009 => ?_)
        · replace hf := (if_pos k25009).symm.trans hf
          refine a_iinc (pc' := 71) (v := v3_24 + (-1 : Int32)) (ls' := [(3, .int (v3_24 + (-1 : Int32))), (4, .int (x25005 * x25007)), (0, .ref 0), (1, .int v1_24), (2, .int v2_24)]) 4 dX3_bestLength_68 rfl (by rfl) (by decide) rfl rfl ?_
          refine a_goto 24 dX3_bestLength_71 (by decide) ?_
          refine a_sub [2, 3, 4, 0] rfl ?_
          exact ih _ _ _ _ hf hX0
        · replace hf := (if_neg k25009).symm.trans hf
          refine a_iload_n (pc' := 64) 4 dX3_bestLength_63 rfl rfl rfl ?_
          refine a_istore_n (pc' := 65) (ls' := [(1, .int v3_24), (4, .int (x25005 * x25007)), (0, .ref 0), (2, .int v2_24), (3, .int v3_24)]) dX3_bestLength_64 rfl (by decide) rfl rfl ?_
          refine a_iload (pc' := 67) 1 dX3_bestLength_65 rfl rfl ?_
          refine a_istore_n (pc' := 68) (ls' := [(2, .int (x25005 * x25007)), (1, .int v3_24), (4, .int (x25005 * x25007)), (0, .ref 0), (3, .int v3_24)]) dX3_bestLength_67 rfl (by decide) rfl rfl ?_
          refine a_iinc (pc' := 71) (v := v3_24 + (-1 : Int32)) (ls' := [(3, .int (v3_24 + (-1 : Int32))), (2, .int (x25005 * x25007)), (1, .int v3_24), (4, .int (x25005 * x25007)), (0, .ref 0)]) 4 dX3_bestLength_68 rfl (by rfl) (by decide) rfl rfl ?_
          refine a_goto 24 dX3_bestLength_71 (by decide) ?_
          refine a_sub [4, 2, 1, 0] rfl ?_
          exact ih _ _ _ _ hf hX0
set_option maxHeartbeats 4000000 in
set_option maxRecDepth 100000 in
theorem c_X3_bestLength (l : Launch) (g : a_G) (F : Nat) {h : List va_E} {q : d_C} (hz : d_cls h q) {out : Int32} (hf : f_X3_bestLength F q = some out) : a_CT l g yX3_bestLength cX3_bestLength 5 (some .int) (a_rm 3 67) [.ref 0] h none none (fun r h' => r = some (.int out) ∧ h' = h) := by
  refine a_enter ⟨by decide, rfl, Nat.le_of_ble_eq_true rfl⟩ (fun p e s m args below meth c hr hin => ?_)
  unfold f_X3_bestLength at hf
  refine a_sub (ls' := [(0, .ref 0)]) [0] rfl ?_
  refine a_aload_n (pc' := 1) 0 dX3_bestLength_0 rfl rfl rfl ?_
  refine g_X3_10 (pc' := 4) hz.1 rfl dX3_bestLength_1 rfl ?_
  obtain ⟨x2, e1, hf⟩ := Option.bind_eq_some_iff.mp hf
  refine k_X3_299 (pc' := 7) (c_X1_isHighEnough l g F hz.2.1 e1) ⟨Nat.le_of_ble_eq_true rfl, Nat.le_of_ble_eq_true rfl⟩ hz.2.1.1 (Nat.le_of_ble_eq_true rfl) dX3_bestLength_4 rfl ?_
  refine a_if_eq (pc' := 10) 12 dX3_bestLength_7 (by decide) rfl (fun k3 => ?_) (fun k3 => ?_)
  · replace hf := (if_pos k3).symm.trans hf
    refine a_iconst (pc' := 13) (v := (-1 : Int32)) dX3_bestLength_12 rfl (by decide) ?_
    refine a_istore_n (pc' := 14) (ls' := [(1, .int ((-1 : Int32))), (0, .ref 0)]) dX3_bestLength_13 rfl (by decide) rfl rfl ?_
    refine a_iconst (pc' := 15) (v := (0 : Int32)) dX3_bestLength_14 rfl (by decide) ?_
    refine a_istore_n (pc' := 16) (ls' := [(2, .int ((0 : Int32))), (1, .int ((-1 : Int32))), (0, .ref 0)]) dX3_bestLength_15 rfl (by decide) rfl rfl ?_
    refine a_aload_n (pc' := 17) 2 dX3_bestLength_16 rfl rfl rfl ?_
    refine g_X3_10 (pc' := 20) hz.1 rfl dX3_bestLength_17 rfl ?_
    obtain ⟨x5, e4, hf⟩ := Option.bind_eq_some_iff.mp hf
    refine k_X3_148 (pc' := 23) (c_X1_longestNext l g F hz.2.1 e4) ⟨Nat.le_of_ble_eq_true rfl, Nat.le_of_ble_eq_true rfl⟩ hz.2.1.1 (Nat.le_of_ble_eq_true rfl) dX3_bestLength_20 rfl ?_
    refine a_istore_n (pc' := 24) (ls' := [(3, .int x5), (2, .int ((0 : Int32))), (1, .int ((-1 : Int32))), (0, .ref 0)]) dX3_bestLength_23 rfl (by decide) rfl rfl ?_
    obtain ⟨o6, e7, hf⟩ := Option.bind_eq_some_iff.mp hf
    refine a_sub [3, 2, 1, 0] rfl ?_
    refine l_X3_bestLength_L24 F q hz F _ _ _ o6 e7 (fun e9 he9 => ?_)
    subst he9
    refine a_iload_n (pc' := 75) 0 dX3_bestLength_74 rfl rfl rfl ?_
    cases hf
    exact a_iret hr ⟨rfl, rfl⟩ dX3_bestLength_75
  · replace hf := (if_neg k3).symm.trans hf
    refine a_iconst (pc' := 11) (v := (-1 : Int32)) dX3_bestLength_10 rfl (by decide) ?_
    cases hf
    exact a_iret hr ⟨rfl, rfl⟩ dX3_bestLength_11
/-! SlateRoof.meanPrice()D -/
set_option maxRecDepth 100000 in
def f_X3_meanPrice (F : Nat) (q : d_C) : Option (UInt64) := (f_X1_slatesOnRoof F q.1).bind fun x2 => (if 0 < (x2 + (q.1 12)) then f_if (isNaN64 (FP.ddiv (FP.i2d (q.1 13)) (FP.i2d (x2 + (q.1 12)))) = false) (some (FP.ddiv (FP.i2d (q.1 13)) (FP.i2d (x2 + (q.1 12))))) else some (FP.dconst0))
set_option maxHeartbeats 4000000 in
set_option maxRecDepth 100000 in
theorem c_X3_meanPrice (l : Launch) (g : a_G) (F : Nat) {h : List va_E} {q : d_C} (hz : d_cls h q) {out : UInt64} (hf : f_X3_meanPrice F q = some out) : a_CT l g yX3_meanPrice cX3_meanPrice 2 (some .double) (a_rm 3 64) [.ref 0] h none none (fun r h' => r = some (.double out) ∧ h' = h) := by
  refine a_enter ⟨by decide, rfl, Nat.le_of_ble_eq_true rfl⟩ (fun p e s m args below meth c hr hin => ?_)
  unfold f_X3_meanPrice at hf
  refine a_sub (ls' := [(0, .ref 0)]) [0] rfl ?_
  refine a_aload_n (pc' := 1) 0 dX3_meanPrice_0 rfl rfl rfl ?_
  refine g_X3_10 (pc' := 4) hz.1 rfl dX3_meanPrice_1 rfl ?_
  obtain ⟨x2, e1, hf⟩ := Option.bind_eq_some_iff.mp hf
  refine k_X3_48 (pc' := 7) (c_X1_slatesOnRoof l g F hz.2.1 e1) ⟨Nat.le_of_ble_eq_true rfl, Nat.le_of_ble_eq_true rfl⟩ hz.2.1.1 (Nat.le_of_ble_eq_true rfl) dX3_meanPrice_4 rfl ?_
  refine a_aload_n (pc' := 8) 0 dX3_meanPrice_7 rfl rfl rfl ?_
  refine g_X3_10 (pc' := 11) hz.1 rfl dX3_meanPrice_8 rfl ?_
  refine g_X3_52 (pc' := 14) hz.2.1.1 rfl dX3_meanPrice_11 rfl ?_
  refine a_iadd (pc' := 15) dX3_meanPrice_14 rfl ?_
  refine a_istore_n (pc' := 16) (ls' := [(1, .int (x2 + (q.1 12))), (0, .ref 0)]) dX3_meanPrice_15 rfl (by decide) rfl rfl ?_
  refine a_iload_n (pc' := 17) 0 dX3_meanPrice_16 rfl rfl rfl ?_
  refine a_if_gt (pc' := 20) 22 dX3_meanPrice_17 (by decide) rfl (fun k3 => ?_) (fun k3 => ?_)
  · replace hf := (if_pos k3).symm.trans hf
    refine a_aload_n (pc' := 23) 1 dX3_meanPrice_22 rfl rfl rfl ?_
    refine g_X3_10 (pc' := 26) hz.1 rfl dX3_meanPrice_23 rfl ?_
    refine g_X3_123 (pc' := 29) hz.2.1.1 rfl dX3_meanPrice_26 rfl ?_
    refine a_i2d (pc' := 30) dX3_meanPrice_29 rfl ?_
    refine a_iload_n (pc' := 31) 0 dX3_meanPrice_30 rfl rfl rfl ?_
    refine a_i2d (pc' := 32) dX3_meanPrice_31 rfl ?_
    obtain ⟨hg, hf⟩ := f_if_x hf
    refine a_ddiv (pc' := 33) dX3_meanPrice_32 rfl (f_nn hg) ?_
    cases hf
    exact a_dret hr ⟨rfl, rfl⟩ dX3_meanPrice_33
  · replace hf := (if_neg k3).symm.trans hf
    refine a_dconst0 (pc' := 21) dX3_meanPrice_20 rfl ?_
    cases hf
    exact a_dret hr ⟨rfl, rfl⟩ dX3_meanPrice_21
/-! SlateRoofLaw.cell([II)I -/
