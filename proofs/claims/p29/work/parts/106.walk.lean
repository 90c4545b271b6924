/-! SlateRoofLaw.works(LSlateRoof;II[I[I[I[I[I)Z -/
set_option maxRecDepth 100000 in
def f_L_works_L131 (F : Nat) (x16003 : Int32) (x16005 : Int32) : Nat → Int32 → Int32 → d_A → Option (Int32 × Int32 × d_A)
  | 0, _, _, _ => none
  | n + 1, v8_131, v13_131, Y_131 => (if (((1 : Int32)) + x16005) ≤ v13_131 then some (v8_131, v13_131, Y_131) else ((if ((3 : Int32)) ≤ x16003 then some (x16003 - ((2 : Int32))) else some ((0 : Int32)))).bind fun j132002 => (f_L_day F Y_131.2.2 j132002).bind fun x132005 => f_let (Y_131.1, Y_131.2.1, x132005.2) fun Y132007 => (f_L_slaters F Y132007.2.2).bind fun x132009 => f_let (Y132007.1, Y132007.2.1, x132009.2) fun Y132011 => f_L_works_L131 F x16003 x16005 n (v8_131 + x132009.1) (v13_131 + (1 : Int32)) Y132011)
set_option maxRecDepth 100000 in
def f_L_works_L15 (F : Nat) (a1 : Int32) (a2 : Int32) (x2 : Int32) : Nat → Int32 → Int32 → d_A → Option ((Int32 × Int32 × d_A) ⊕ (Int32 × Int32 × d_A))
  | 0, _, _, _ => none
  | n + 1, v8_15, v10_15, Y_15 => (if (((1 : Int32)) + x2) ≤ v10_15 then some (.inl (v8_15, v10_15, Y_15)) else (f_L_at F ((a2 >>> ((((2 : Int32)) * v10_15) &&& 31)) + v10_15) ((5 : Int32))).bind fun x16003 => (f_L_at F ((a1 >>> (v10_15 &&& 31)) + (((3 : Int32)) * v10_15)) ((12 : Int32))).bind fun x16005 => ((if ((3 : Int32)) ≤ x16003 then (if x16003 = ((3 : Int32)) then some ((114 : Int32)) else some ((115 : Int32))) else some ((100 : Int32)))).bind fun j16006 => f_nt (f_X3_append F Y_15.1 j16006) fun x16010 => f_let (x16010.2, Y_15.2) fun Y16012 => (if x16010.1 < ((1 : Int32)) then some (.inr ((v8_15, v10_15, Y16012))) else (if (((1 : Int32)) + x16005) ≤ ((9 : Int32)) then (if (((1 : Int32)) + x16005) ≤ ((1 : Int32)) then (f_L_works_L131 F x16003 x16005 F v8_15 ((0 : Int32)) Y16012).bind fun o16016 => f_L_works_L15 F a1 a2 x2 n o16016.1 (v10_15 + (1 : Int32)) o16016.2.2 else f_nt (f_X3_append F Y16012.1 (((48 : Int32)) + ((((1 : Int32)) + x16005) - (((1 : Int32)) + x16005) / ((10 : Int32)) * ((10 : Int32))))) fun x16020 => f_let (x16020.2, Y16012.2) fun Y16022 => (if ((1 : Int32)) ≤ x16020.1 then (f_L_works_L131 F x16003 x16005 F v8_15 ((0 : Int32)) Y16022).bind fun o16024 => f_L_works_L15 F a1 a2 x2 n o16024.1 (v10_15 + (1 : Int32)) o16024.2.2 else some (.inr ((v8_15, v10_15, Y16022))))) else f_nt (f_X3_append F Y16012.1 ((49 : Int32))) fun x16028 => f_let (x16028.2, Y16012.2) fun Y16030 => (if x16028.1 < ((1 : Int32)) then some (.inr ((v8_15, v10_15, Y16030))) else (if (((1 : Int32)) + x16005) ≤ ((1 : Int32)) then (f_L_works_L131 F x16003 x16005 F v8_15 ((0 : Int32)) Y16030).bind fun o16033 => f_L_works_L15 F a1 a2 x2 n o16033.1 (v10_15 + (1 : Int32)) o16033.2.2 else f_nt (f_X3_append F Y16030.1 (((48 : Int32)) + ((((1 : Int32)) + x16005) - (((1 : Int32)) + x16005) / ((10 : Int32)) * ((10 : Int32))))) fun x16037 => f_let (x16037.2, Y16030.2) fun Y16039 => (if ((1 : Int32)) ≤ x16037.1 then (f_L_works_L131 F x16003 x16005 F v8_15 ((0 : Int32)) Y16039).bind fun o16041 => f_L_works_L15 F a1 a2 x2 n o16041.1 (v10_15 + (1 : Int32)) o16041.2.2 else some (.inr ((v8_15, v10_15, Y16039)))))))))
set_option maxRecDepth 100000 in
def f_L_works (F : Nat) (Y : d_A) (a1 : Int32) (a2 : Int32) : Option (Int32 × d_A) := (f_L_at F a1 ((3 : Int32))).bind fun x2 => (f_L_works_L15 F a1 a2 x2 F ((0 : Int32)) ((0 : Int32)) Y).bind (fun w9 => Sum.elim (fun w5 => f_nt (f_X3_work F w5.2.2.1) fun x8 => f_let (x8.2, w5.2.2.2) fun Y10 => (if x8.1 = w5.1 then some (((1 : Int32), Y10)) else none)) (fun w12 => none) w9)
set_option maxHeartbeats 4000000 in
set_option maxRecDepth 100000 in
theorem l_L_works_L131 {p : Program} {l : Launch} {e : Env} {s : State} {m : MethodId} {args : Array Value} {below : List Frame} {meth : Method} {c : Code} {Q : State → Prop} {g : a_G} (F : Nat) {h : List va_E} (a1 : Int32) (a2 : Int32) (x2 : Int32) (v10_15 : Int32) (x16003 : Int32) (x16005 : Int32) : ∀ (n : Nat) (v8_131 : Int32) (v13_131 : Int32) (Y_131 : d_A) (o : Int32 × Int32 × d_A), f_L_works_L131 F x16003 x16005 n v8_131 v13_131 Y_131 = some o → (∀ e9 : Int32 × Int32 × d_A, o = e9 → ∀ h1, d_al h1 e9.2.2 → d_fl h h1 → a_W p l e (a_rm 6 137) s m args below meth c Q RL cL_works 14 g 0 0 none 184 [(0, .ref 0), (1, .int a1), (2, .int a2), (3, .ref 55), (4, .ref 56), (5, .ref 57), (6, .ref 58), (7, .ref 60), (8, .int e9.1), (9, .int (((1 : Int32)) + x2)), (10, .int v10_15)] [] h1) → ∀ h1, d_al h1 Y_131 → d_fl h h1 → a_W p l e (a_rm 6 137) s m args below meth c Q RL cL_works 14 g 0 0 none 131 [(0, .ref 0), (1, .int a1), (2, .int a2), (3, .ref 55), (4, .ref 56), (5, .ref 57), (6, .ref 58), (7, .ref 60), (8, .int v8_131), (9, .int (((1 : Int32)) + x2)), (10, .int v10_15), (11, .int x16003), (12, .int (((1 : Int32)) + x16005)), (13, .int v13_131)] [] h1 := by
  intro n
  induction n with
  | zero => intro v8_131 v13_131 Y_131 o hf; exact nomatch (show (none : Option (Int32 × Int32 × d_A)) = some o from hf)
  | succ n ih =>
    intro v8_131 v13_131 Y_131 o hf hX0 h1 hz hfr
    rw [f_L_works_L131] at hf
    refine a_iload (pc' := 133) 13 dL_works_131 rfl rfl ?_
    refine a_iload (pc' := 135) 12 dL_works_133 rfl rfl ?_
    refine a_icmp_ge (pc' := 138) 184 dL_works_135 (by decide) rfl (fun k132001 => ?_) (fun k132001 => ?_)
    · replace hf := (if_pos k132001).symm.trans hf
      cases hf
      refine a_sub [0, 1, 2, 3, 4, 5, 6, 7, 8, 9, 10] rfl ?_
      exact hX0 _ rfl _ hz hfr
    · replace hf := (if_neg k132001).symm.trans hf
      refine a_iload (pc' := 140) 11 dL_works_138 rfl rfl ?_
      refine a_iconst (pc' := 141) (v := (3 : Int32)) dL_works_140 rfl (by decide) ?_
      refine a_jn (st2 := []) hf 152 (fun j132002 ej132002 hf => ?_) (fun j132002 hf Jj132002 => ?_)
      · refine a_aload_n (pc' := 153) 3 dL_works_152 rfl rfl rfl ?_
        refine a_aload (pc' := 155) 4 dL_works_153 rfl rfl ?_
        refine a_aload (pc' := 157) 6 dL_works_155 rfl rfl ?_
        refine a_aload (pc' := 159) 7 dL_works_157 rfl rfl ?_
        obtain ⟨x132005, e132004, hf⟩ := Option.bind_eq_some_iff.mp hf
        refine k_L_96 (pc' := 162) (c_L_day l g F hz.2.2 e132004) ⟨Nat.le_of_ble_eq_true rfl, Nat.le_of_ble_eq_true rfl⟩ (Nat.le_of_ble_eq_true rfl) dL_works_159 rfl (fun h132006 hq => ?_)
        obtain ⟨hz1, hfr1⟩ := hq
        have hz2 := d_al_w hz hz1 hfr1
        obtain ⟨Y132007, hf, hz⟩ := f_let_x (P := fun w => d_al h132006 w) hf hz2
        replace hfr : d_fl h h132006 := Eq.trans hfr1.1 hfr
        refine a_pop (pc' := 163) dL_works_162 rfl rfl ?_
        refine a_iload (pc' := 165) 8 dL_works_163 rfl rfl ?_
        refine a_aload_n (pc' := 166) 3 dL_works_165 rfl rfl rfl ?_
        refine a_aload (pc' := 168) 4 dL_works_166 rfl rfl ?_
        refine a_aload (pc' := 170) 5 dL_works_168 rfl rfl ?_
        refine a_aload (pc' := 172) 7 dL_works_170 rfl rfl ?_
        obtain ⟨x132009, e132008, hf⟩ := Option.bind_eq_some_iff.mp hf
        refine k_L_100 (pc' := 175) (c_L_slaters l g F hz.2.2 e132008) ⟨Nat.le_of_ble_eq_true rfl, Nat.le_of_ble_eq_true rfl⟩ (Nat.le_of_ble_eq_true rfl) dL_works_172 rfl (fun h132010 hq => ?_)
        obtain ⟨hz1, hfr1⟩ := hq
        have hz2 := d_al_w hz hz1 hfr1
        obtain ⟨Y132011, hf, hz⟩ := f_let_x (P := fun w => d_al h132010 w) hf hz2
        replace hfr : d_fl h h132010 := Eq.trans hfr1.1 hfr
        refine a_iadd (pc' := 176) dL_works_175 rfl ?_
        refine a_istore (pc' := 178) (ls' := [(8, .int (v8_131 + x132009.1)), (0, .ref 0), (1, .int a1), (2, .int a2), (3, .ref 55), (4, .ref 56), (5, .ref 57), (6, .ref 58), (7, .ref 60), (9, .int (((1 : Int32)) + x2)), (10, .int v10_15), (11, .int x16003), (12, .int (((1 : Int32)) + x16005)), (13, .int v13_131)]) dL_works_176 (by decide) rfl rfl ?_
        refine a_iinc (pc' := 181) (v := v13_131 + (1 : Int32)) (ls' := [(13, .int (v13_131 + (1 : Int32))), (8, .int (v8_131 + x132009.1)), (0, .ref 0), (1, .int a1), (2, .int a2), (3, .ref 55), (4, .ref 56), (5, .ref 57), (6, .ref 58), (7, .ref 60), (9, .int (((1 : Int32)) + x2)), (10, .int v10_15), (11, .int x16003), (12, .int (((1 : Int32)) + x16005))]) 13 dL_works_178 rfl (by rfl) (by decide) rfl rfl ?_
        refine a_goto 131 dL_works_181 (by decide) ?_
        refine a_sub [2, 3, 4, 5, 6, 7, 8, 9, 1, 10, 11, 12, 13, 0] rfl ?_
        exact ih _ _ _ _ hf hX0 _ hz hfr
      · refine a_icmp_ge (pc' := 144) 148 dL_works_141 (by decide) rfl (fun k132003 => ?_) (fun k132003 => ?_)
        · replace hf := (if_pos k132003).symm.trans hf
          refine a_iload (pc' := 150) 11 dL_works_148 rfl rfl ?_
          refine a_iconst (pc' := 151) (v := (2 : Int32)) dL_works_150 rfl (by decide) ?_
          refine a_isub (pc' := 152) dL_works_151 rfl ?_
          cases hf
          exact Jj132002
        · replace hf := (if_neg k132003).symm.trans hf
          refine a_iconst (pc' := 145) (v := (0 : Int32)) dL_works_144 rfl (by decide) ?_
          refine a_goto 152 dL_works_145 (by decide) ?_
          cases hf
          exact Jj132002
set_option maxHeartbeats 4000000 in
set_option maxRecDepth 100000 in
theorem l_L_works_L15 {p : Program} {l : Launch} {e : Env} {s : State} {m : MethodId} {args : Array Value} {below : List Frame} {meth : Method} {c : Code} {Q : State → Prop} {g : a_G} (F : Nat) {h : List va_E} (a1 : Int32) (a2 : Int32) (x2 : Int32) : ∀ (n : Nat) (v8_15 : Int32) (v10_15 : Int32) (Y_15 : d_A) (o : (Int32 × Int32 × d_A) ⊕ (Int32 × Int32 × d_A)), f_L_works_L15 F a1 a2 x2 n v8_15 v10_15 Y_15 = some o → (∀ e9 : Int32 × Int32 × d_A, o = .inl e9 → ∀ h1, d_al h1 e9.2.2 → d_fl h h1 → a_W p l e (a_rm 6 137) s m args below meth c Q RL cL_works 14 g 0 0 none 190 [(0, .ref 0), (8, .int e9.1)] [] h1) → (∀ e9 : Int32 × Int32 × d_A, o = .inr (e9) → ∀ h1, d_al h1 e9.2.2 → d_fl h h1 → a_W p l e (a_rm 6 137) s m args below meth c Q RL cL_works 14 g 0 0 none 126 [] [] h1) → ∀ h1, d_al h1 Y_15 → d_fl h h1 → a_W p l e (a_rm 6 137) s m args below meth c Q RL cL_works 14 g 0 0 none 15 [(0, .ref 0), (1, .int a1), (2, .int a2), (3, .ref 55), (4, .ref 56), (5, .ref 57), (6, .ref 58), (7, .ref 60), (8, .int v8_15), (9, .int (((1 : Int32)) + x2)), (10, .int v10_15)] [] h1 := by
  intro n
  induction n with
  | zero => intro v8_15 v10_15 Y_15 o hf; exact nomatch (show (none : Option ((Int32 × Int32 × d_A) ⊕ (Int32 × Int32 × d_A))) = some o from hf)
  | succ n ih =>
    intro v8_15 v10_15 Y_15 o hf hX0 hX1 h1 hz hfr
    rw [f_L_works_L15] at hf
    refine a_iload (pc' := 17) 10 dL_works_15 rfl rfl ?_
    refine a_iload (pc' := 19) 9 dL_works_17 rfl rfl ?_
    refine a_icmp_ge (pc' := 22) 190 dL_works_19 (by decide) rfl (fun k16001 => ?_) (fun k16001 => ?_)
    · replace hf := (if_pos k16001).symm.trans hf
      cases hf
      refine a_sub [0, 8] rfl ?_
      exact hX0 _ rfl _ hz hfr
    · replace hf := (if_neg k16001).symm.trans hf
      refine a_iload_n (pc' := 23) 2 dL_works_22 rfl rfl rfl ?_
      refine a_iconst (pc' := 24) (v := (2 : Int32)) dL_works_23 rfl (by decide) ?_
      refine a_iload (pc' := 26) 10 dL_works_24 rfl rfl ?_
      refine a_imul (pc' := 27) dL_works_26 rfl ?_
      refine a_ishr (pc' := 28) dL_works_27 rfl ?_
      refine a_iload (pc' := 30) 10 dL_works_28 rfl rfl ?_
      refine a_iadd (pc' := 31) dL_works_30 rfl ?_
      refine a_iconst (pc' := 32) (v := (5 : Int32)) dL_works_31 rfl (by decide) ?_
      obtain ⟨x16003, e16002, hf⟩ := Option.bind_eq_some_iff.mp hf
      refine k_L_45 (pc' := 35) (c_L_at l g F e16002) ⟨Nat.le_of_ble_eq_true rfl, Nat.le_of_ble_eq_true rfl⟩ (Nat.le_of_ble_eq_true rfl) dL_works_32 rfl ?_
      refine a_istore (pc' := 37) (ls' := [(11, .int x16003), (0, .ref 0), (1, .int a1), (2, .int a2), (3, .ref 55), (4, .ref 56), (5, .ref 57), (6, .ref 58), (7, .ref 60), (8, .int v8_15), (9, .int (((1 : Int32)) + x2)), (10, .int v10_15)]) dL_works_35 (by decide) rfl rfl ?_
      refine a_iconst (pc' := 38) (v := (1 : Int32)) dL_works_37 rfl (by decide) ?_
      refine a_iload_n (pc' := 39) 2 dL_works_38 rfl rfl rfl ?_
      refine a_iload (pc' := 41) 11 dL_works_39 rfl rfl ?_
      refine a_ishr (pc' := 42) dL_works_41 rfl ?_
      refine a_iconst (pc' := 43) (v := (3 : Int32)) dL_works_42 rfl (by decide) ?_
      refine a_iload (pc' := 45) 11 dL_works_43 rfl rfl ?_
      refine a_imul (pc' := 46) dL_works_45 rfl ?_
      refine a_iadd (pc' := 47) dL_works_46 rfl ?_
      refine a_bipush (pc' := 49) (v := (12 : Int32)) dL_works_47 rfl (by decide) ?_
      obtain ⟨x16005, e16004, hf⟩ := Option.bind_eq_some_iff.mp hf
      refine k_L_45 (pc' := 52) (c_L_at l g F e16004) ⟨Nat.le_of_ble_eq_true rfl, Nat.le_of_ble_eq_true rfl⟩ (Nat.le_of_ble_eq_true rfl) dL_works_49 rfl ?_
      refine a_iadd (pc' := 53) dL_works_52 rfl ?_
      refine a_istore (pc' := 55) (ls' := [(12, .int (((1 : Int32)) + x16005)), (11, .int x16003), (0, .ref 0), (1, .int a1), (2, .int a2), (3, .ref 55), (4, .ref 56), (5, .ref 57), (6, .ref 58), (7, .ref 60), (8, .int v8_15), (9, .int (((1 : Int32)) + x2)), (10, .int v10_15)]) dL_works_53 (by decide) rfl rfl ?_
      refine a_aload_n (pc' := 56) 2 dL_works_55 rfl rfl rfl ?_
      refine a_iload (pc' := 58) 1 dL_works_56 rfl rfl ?_
      refine a_iconst (pc' := 59) (v := (3 : Int32)) dL_works_58 rfl (by decide) ?_
      refine a_jn (st2 := [.ref 0]) hf 80 (fun j16006 ej16006 hf => ?_) (fun j16006 hf Jj16006 => ?_)
      · obtain ⟨x16010, e16009, hf⟩ := f_nx hf
        refine k_L_112 (pc' := 83) (c_X3_append l g F hz.1 e16009) ⟨Nat.le_of_ble_eq_true rfl, Nat.le_of_ble_eq_true rfl⟩ hz.1.1 (Nat.le_of_ble_eq_true rfl) dL_works_80 rfl (fun h16011 hq => ?_)
        obtain ⟨hz1, hfr1⟩ := hq
        have hz2 := d_al_c hz hz1 hfr1
        obtain ⟨Y16012, hf, hz⟩ := f_let_x (P := fun w => d_al h16011 w) hf hz2
        replace hfr : d_fl h h16011 := Eq.trans hfr1.1 hfr
        refine a_iconst (pc' := 84) (v := (1 : Int32)) dL_works_83 rfl (by decide) ?_
        refine a_icmp_lt (pc' := 87) 126 dL_works_84 (by decide) rfl (fun k16013 => ?_) (fun k16013 => ?_)
        · replace hf := (if_pos k16013).symm.trans hf
          cases hf
          refine a_sub [] rfl ?_
          exact hX1 _ rfl _ hz hfr
        · replace hf := (if_neg k16013).symm.trans hf
          refine a_iload (pc' := 89) 0 dL_works_87 rfl rfl ?_
          refine a_bipush (pc' := 91) (v := (9 : Int32)) dL_works_89 rfl (by decide) ?_
          refine a_icmp_le (pc' := 94) 104 dL_works_91 (by decide) rfl (fun k16014 => ?_) (fun k16014 => ?_)
          · replace hf := (if_pos k16014).symm.trans hf
            refine a_iload (pc' := 106) 0 dL_works_104 rfl rfl ?_
            refine a_iconst (pc' := 107) (v := (1 : Int32)) dL_works_106 rfl (by decide) ?_
            refine a_icmp_le (pc' := 110) 128 dL_works_107 (by decide) rfl (fun k16015 => ?_) (fun k16015 => ?_)
            · replace hf := (if_pos k16015).symm.trans hf
              refine a_iconst (pc' := 129) (v := (0 : Int32)) dL_works_128 rfl (by decide) ?_
              refine a_istore (pc' := 131) (ls' := [(13, .int ((0 : Int32))), (12, .int (((1 : Int32)) + x16005)), (11, .int x16003), (0, .ref 0), (1, .int a1), (2, .int a2), (3, .ref 55), (4, .ref 56), (5, .ref 57), (6, .ref 58), (7, .ref 60), (8, .int v8_15), (9, .int (((1 : Int32)) + x2)), (10, .int v10_15)]) dL_works_129 (by decide) rfl rfl ?_
              obtain ⟨o16016, e16017, hf⟩ := Option.bind_eq_some_iff.mp hf
              refine a_sub [3, 4, 5, 6, 7, 8, 9, 10, 11, 12, 13, 2, 1, 0] rfl ?_
              refine l_L_works_L131 F a1 a2 x2 v10_15 x16003 x16005  F _ _ _ o16016 e16017 (fun e9 he9 h16018 hz hfr => ?_) _ hz hfr
              subst he9
              refine a_iinc (pc' := 187) (v := v10_15 + (1 : Int32)) (ls' := [(10, .int (v10_15 + (1 : Int32))), (0, .ref 0), (1, .int a1), (2, .int a2), (3, .ref 55), (4, .ref 56), (5, .ref 57), (6, .ref 58), (7, .ref 60), (8, .int o16016.1), (9, .int (((1 : Int32)) + x2))]) 10 dL_works_184 rfl (by rfl) (by decide) rfl rfl ?_
              refine a_goto 15 dL_works_187 (by decide) ?_
              refine a_sub [1, 2, 3, 4, 5, 6, 7, 8, 9, 10, 0] rfl ?_
              exact ih _ _ _ _ hf hX0 hX1 _ hz hfr
            · replace hf := (if_neg k16015).symm.trans hf
              refine a_aload_n (pc' := 111) 2 dL_works_110 rfl rfl rfl ?_
              refine a_bipush (pc' := 113) (v := (48 : Int32)) dL_works_111 rfl (by decide) ?_
              refine a_iload (pc' := 115) 0 dL_works_113 rfl rfl ?_
              refine a_bipush (pc' := 117) (v := (10 : Int32)) dL_works_115 rfl (by decide) ?_
              refine a_irem (pc' := 118) dL_works_117 rfl (by decide) ?_
              refine a_iadd (pc' := 119) dL_works_118 rfl ?_
              obtain ⟨x16020, e16019, hf⟩ := f_nx hf
              refine k_L_112 (pc' := 122) (c_X3_append l g F hz.1 e16019) ⟨Nat.le_of_ble_eq_true rfl, Nat.le_of_ble_eq_true rfl⟩ hz.1.1 (Nat.le_of_ble_eq_true rfl) dL_works_119 rfl (fun h16021 hq => ?_)
              obtain ⟨hz1, hfr1⟩ := hq
              have hz2 := d_al_c hz hz1 hfr1
              obtain ⟨Y16022, hf, hz⟩ := f_let_x (P := fun w => d_al h16021 w) hf hz2
              replace hfr : d_fl h h16021 := Eq.trans hfr1.1 hfr
              refine a_iconst (pc' := 123) (v := (1 : Int32)) dL_works_122 rfl (by decide) ?_
              refine a_icmp_ge (pc' := 126) 128 dL_works_123 (by decide) rfl (fun k16023 => ?_) (fun k16023 => ?_)
              · replace hf := (if_pos k16023).symm.trans hf
                refine a_iconst (pc' := 129) (v := (0 : Int32)) dL_works_128 rfl (by decide) ?_
                refine a_istore (pc' := 131) (ls' := [(13, .int ((0 : Int32))), (12, .int (((1 : Int32)) + x16005)), (11, .int x16003), (0, .ref 0), (1, .int a1), (2, .int a2), (3, .ref 55), (4, .ref 56), (5, .ref 57), (6, .ref 58), (7, .ref 60), (8, .int v8_15), (9, .int (((1 : Int32)) + x2)), (10, .int v10_15)]) dL_works_129 (by decide) rfl rfl ?_
                obtain ⟨o16024, e16025, hf⟩ := Option.bind_eq_some_iff.mp hf
                refine a_sub [3, 4, 5, 6, 7, 8, 9, 10, 11, 12, 13, 2, 1, 0] rfl ?_
                refine l_L_works_L131 F a1 a2 x2 v10_15 x16003 x16005  F _ _ _ o16024 e16025 (fun e9 he9 h16026 hz hfr => ?_) _ hz hfr
                subst he9
                refine a_iinc (pc' := 187) (v := v10_15 + (1 : Int32)) (ls' := [(10, .int (v10_15 + (1 : Int32))), (0, .ref 0), (1, .int a1), (2, .int a2), (3, .ref 55), (4, .ref 56), (5, .ref 57), (6, .ref 58), (7, .ref 60), (8, .int o16024.1), (9, .int (((1 : Int32)) + x2))]) 10 dL_works_184 rfl (by rfl) (by decide) rfl rfl ?_
                refine a_goto 15 dL_works_187 (by decide) ?_
                refine a_sub [1, 2, 3, 4, 5, 6, 7, 8, 9, 10, 0] rfl ?_
                exact ih _ _ _ _ hf hX0 hX1 _ hz hfr
              · replace hf := (if_neg k16023).symm.trans hf
                cases hf
                refine a_sub [] rfl ?_
                exact hX1 _ rfl _ hz hfr
          · replace hf := (if_neg k16014).symm.trans hf
            refine a_aload_n (pc' := 95) 2 dL_works_94 rfl rfl rfl ?_
            refine a_bipush (pc' := 97) (v := (49 : Int32)) dL_works_95 rfl (by decide) ?_
            obtain ⟨x16028, e16027, hf⟩ := f_nx hf
            refine k_L_112 (pc' := 100) (c_X3_append l g F hz.1 e16027) ⟨Nat.le_of_ble_eq_true rfl, Nat.le_of_ble_eq_true rfl⟩ hz.1.1 (Nat.le_of_ble_eq_true rfl) dL_works_97 rfl (fun h16029 hq => ?_)
            obtain ⟨hz1, hfr1⟩ := hq
            have hz2 := d_al_c hz hz1 hfr1
            obtain ⟨Y16030, hf, hz⟩ := f_let_x (P := fun w => d_al h16029 w) hf hz2
            replace hfr : d_fl h h16029 := Eq.trans hfr1.1 hfr
            refine a_iconst (pc' := 101) (v := (1 : Int32)) dL_works_100 rfl (by decide) ?_
            refine a_icmp_lt (pc' := 104) 126 dL_works_101 (by decide) rfl (fun k16031 => ?_) (fun k16031 => ?_)
            · replace hf := (if_pos k16031).symm.trans hf
              cases hf
              refine a_sub [] rfl ?_
              exact hX1 _ rfl _ hz hfr
            · replace hf := (if_neg k16031).symm.trans hf
              refine a_iload (pc' := 106) 0 dL_works_104 rfl rfl ?_
              refine a_iconst (pc' := 107) (v := (1 : Int32)) dL_works_106 rfl (by decide) ?_
              refine a_icmp_le (pc' := 110) 128 dL_works_107 (by decide) rfl (fun k16032 => ?_) (fun k16032 => ?_)
              · replace hf := (if_pos k16032).symm.trans hf
                refine a_iconst (pc' := 129) (v := (0 : Int32)) dL_works_128 rfl (by decide) ?_
                refine a_istore (pc' := 131) (ls' := [(13, .int ((0 : Int32))), (12, .int (((1 : Int32)) + x16005)), (11, .int x16003), (0, .ref 0), (1, .int a1), (2, .int a2), (3, .ref 55), (4, .ref 56), (5, .ref 57), (6, .ref 58), (7, .ref 60), (8, .int v8_15), (9, .int (((1 : Int32)) + x2)), (10, .int v10_15)]) dL_works_129 (by decide) rfl rfl ?_
                obtain ⟨o16033, e16034, hf⟩ := Option.bind_eq_some_iff.mp hf
                refine a_sub [3, 4, 5, 6, 7, 8, 9, 10, 11, 12, 13, 2, 1, 0] rfl ?_
                refine l_L_works_L131 F a1 a2 x2 v10_15 x16003 x16005  F _ _ _ o16033 e16034 (fun e9 he9 h16035 hz hfr => ?_) _ hz hfr
                subst he9
                refine a_iinc (pc' := 187) (v := v10_15 + (1 : Int32)) (ls' := [(10, .int (v10_15 + (1 : Int32))), (0, .ref 0), (1, .int a1), (2, .int a2), (3, .ref 55), (4, .ref 56), (5, .ref 57), (6, .ref 58), (7, .ref 60), (8, .int o16033.1), (9, .int (((1 : Int32)) + x2))]) 10 dL_works_184 rfl (by rfl) (by decide) rfl rfl ?_
                refine a_goto 15 dL_works_187 (by decide) ?_
                refine a_sub [1, 2, 3, 4, 5, 6, 7, 8, 9, 10, 0] rfl ?_
                exact ih _ _ _ _ hf hX0 hX1 _ hz hfr
              · replace hf := (if_neg k16032).symm.trans hf
                refine a_aload_n (pc' := 111) 2 dL_works_110 rfl rfl rfl ?_
                refine a_bipush (pc' := 113) (v := (48 : Int32)) dL_works_111 rfl (by decide) ?_
                refine a_iload (pc' := 115) 0 dL_works_113 rfl rfl ?_
                refine a_bipush (pc' := 117) (v := (10 : Int32)) dL_works_115 rfl (by decide) ?_
                refine a_irem (pc' := 118) dL_works_117 rfl (by decide) ?_
                refine a_iadd (pc' := 119) dL_works_118 rfl ?_
                obtain ⟨x16037, e16036, hf⟩ := f_nx hf
                refine k_L_112 (pc' := 122) (c_X3_append l g F hz.1 e16036) ⟨Nat.le_of_ble_eq_true rfl, Nat.le_of_ble_eq_true rfl⟩ hz.1.1 (Nat.le_of_ble_eq_true rfl) dL_works_119 rfl (fun h16038 hq => ?_)
                obtain ⟨hz1, hfr1⟩ := hq
                have hz2 := d_al_c hz hz1 hfr1
                obtain ⟨Y16039, hf, hz⟩ := f_let_x (P := fun w => d_al h16038 w) hf hz2
                replace hfr : d_fl h h16038 := Eq.trans hfr1.1 hfr
                refine a_iconst (pc' := 123) (v := (1 : Int32)) dL_works_122 rfl (by decide) ?_
                refine a_icmp_ge (pc' := 126) 128 dL_works_123 (by decide) rfl (fun k16040 => ?_) (fun k16040 => ?_)
                · replace hf := (if_pos k16040).symm.trans hf
                  refine a_iconst (pc' := 129) (v := (0 : Int32)) dL_works_128 rfl (by decide) ?_
                  refine a_istore (pc' := 131) (ls' := [(13, .int ((0 : Int32))), (12, .int (((1 : Int32)) + x16005)), (11, .int x16003), (0, .ref 0), (1, .int a1), (2, .int a2), (3, .ref 55), (4, .ref 56), (5, .ref 57), (6, .ref 58), (7, .ref 60), (8, .int v8_15), (9, .int (((1 : Int32)) + x2)), (10, .int v10_15)]) dL_works_129 (by decide) rfl rfl ?_
                  obtain ⟨o16041, e16042, hf⟩ := Option.bind_eq_some_iff.mp hf
                  refine a_sub [3, 4, 5, 6, 7, 8, 9, 10, 11, 12, 13, 2, 1, 0] rfl ?_
                  refine l_L_works_L131 F a1 a2 x2 v10_15 x16003 x16005  F _ _ _ o16041 e16042 (fun e9 he9 h16043 hz hfr => ?_) _ hz hfr
                  subst he9
                  refine a_iinc (pc' := 187) (v := v10_15 + (1 : Int32)) (ls' := [(10, .int (v10_15 + (1 : Int32))), (0, .ref 0), (1, .int a1), (2, .int a2), (3, .ref 55), (4, .ref 56), (5, .ref 57), (6, .ref 58), (7, .ref 60), (8, .int o16041.1), (9, .int (((1 : Int32)) + x2))]) 10 dL_works_184 rfl (by rfl) (by decide) rfl rfl ?_
                  refine a_goto 15 dL_works_187 (by decide) ?_
                  refine a_sub [1, 2, 3, 4, 5, 6, 7, 8, 9, 10, 0] rfl ?_
                  exact ih _ _ _ _ hf hX0 hX1 _ hz hfr
                · replace hf := (if_neg k16040).symm.trans hf
                  cases hf
                  refine a_sub [] rfl ?_
                  exact hX1 _ rfl _ hz hfr
      · refine a_icmp_ge (pc' := 62) 67 dL_works_59 (by decide) rfl (fun k16007 => ?_) (fun k16007 => ?_)
        · replace hf := (if_pos k16007).symm.trans hf
          refine a_iload (pc' := 69) 1 dL_works_67 rfl rfl ?_
          refine a_iconst (pc' := 70) (v := (3 : Int32)) dL_works_69 rfl (by decide) ?_
          refine a_icmp_ne (pc' := 73) 78 dL_works_70 (by decide) rfl (fun k16008 => ?_) (fun k16008 => ?_)
          · replace hf := (if_neg k16008).symm.trans hf
            refine a_bipush (pc' := 80) (v := (115 : Int32)) dL_works_78 rfl (by decide) ?_
            cases hf
            exact Jj16006
          · replace hf := (if_pos k16008).symm.trans hf
            refine a_bipush (pc' := 75) (v := (114 : Int32)) dL_works_73 rfl (by decide) ?_
            refine a_goto 80 dL_works_75 (by decide) ?_
            cases hf
            exact Jj16006
        · replace hf := (if_neg k16007).symm.trans hf
          refine a_bipush (pc' := 64) (v := (100 : Int32)) dL_works_62 rfl (by decide) ?_
          refine a_goto 80 dL_works_64 (by decide) ?_
          cases hf
          exact Jj16006
set_option maxHeartbeats 4000000 in
set_option maxRecDepth 100000 in
theorem c_L_works (l : Launch) (g : a_G) (F : Nat) {h : List va_E} {Y : d_A} {a1 : Int32} {a2 : Int32} (hz : d_al h Y) {out : Int32 × d_A} (hf : f_L_works F Y a1 a2 = some out) : a_CT l g yL_works cL_works 14 (some .boolean) (a_rm 6 137) [.ref 0, .int a1, .int a2, .ref 55, .ref 56, .ref 57, .ref 58, .ref 60] h none none (fun r h' => r = some (.int out.1) ∧ d_al h' out.2 ∧ d_fl h h') := by
  refine a_enter ⟨by decide, rfl, Nat.le_of_ble_eq_true rfl⟩ (fun p e s m args below meth c hr hin => ?_)
  unfold f_L_works at hf
  have hfr : d_fl h h := rfl
  refine a_sub (ls' := [(0, .ref 0), (1, .int a1), (2, .int a2), (3, .ref 55), (4, .ref 56), (5, .ref 57), (6, .ref 58), (7, .ref 60)]) [0, 1, 2, 3, 4, 5, 6, 7] rfl ?_
  refine a_iconst (pc' := 1) (v := (0 : Int32)) dL_works_0 rfl (by decide) ?_
  refine a_istore (pc' := 3) (ls' := [(8, .int ((0 : Int32))), (0, .ref 0), (1, .int a1), (2, .int a2), (3, .ref 55), (4, .ref 56), (5, .ref 57), (6, .ref 58), (7, .ref 60)]) dL_works_1 (by decide) rfl rfl ?_
  refine a_iconst (pc' := 4) (v := (1 : Int32)) dL_works_3 rfl (by decide) ?_
  refine a_iload_n (pc' := 5) 2 dL_works_4 rfl rfl rfl ?_
  refine a_iconst (pc' := 6) (v := (3 : Int32)) dL_works_5 rfl (by decide) ?_
  obtain ⟨x2, e1, hf⟩ := Option.bind_eq_some_iff.mp hf
  refine k_L_45 (pc' := 9) (c_L_at l g F e1) ⟨Nat.le_of_ble_eq_true rfl, Nat.le_of_ble_eq_true rfl⟩ (Nat.le_of_ble_eq_true rfl) dL_works_6 rfl ?_
  refine a_iadd (pc' := 10) dL_works_9 rfl ?_
  refine a_istore (pc' := 12) (ls' := [(9, .int (((1 : Int32)) + x2)), (8, .int ((0 : Int32))), (0, .ref 0), (1, .int a1), (2, .int a2), (3, .ref 55), (4, .ref 56), (5, .ref 57), (6, .ref 58), (7, .ref 60)]) dL_works_10 (by decide) rfl rfl ?_
  refine a_iconst (pc' := 13) (v := (0 : Int32)) dL_works_12 rfl (by decide) ?_
  refine a_istore (pc' := 15) (ls' := [(10, .int ((0 : Int32))), (9, .int (((1 : Int32)) + x2)), (8, .int ((0 : Int32))), (0, .ref 0), (1, .int a1), (2, .int a2), (3, .ref 55), (4, .ref 56), (5, .ref 57), (6, .ref 58), (7, .ref 60)]) dL_works_13 (by decide) rfl rfl ?_
  obtain ⟨o3, e4, hf⟩ := Option.bind_eq_some_iff.mp hf
  refine a_sub [3, 4, 5, 6, 7, 8, 9, 10, 2, 1, 0] rfl ?_
  refine l_L_works_L15 F a1 a2 x2  F _ _ _ o3 e4 (fun w5 he9 h6 hz hfr => ?_) (fun w12 he9 h13 hz hfr => ?_) _ hz hfr
  · subst he9
    simp only [Sum.elim_inl, Sum.elim_inr] at hf
    refine a_aload_n (pc' := 191) 0 dL_works_190 rfl rfl rfl ?_
    obtain ⟨x8, e7, hf⟩ := f_nx hf
    refine k_L_115 (pc' := 194) (c_X3_work l g F hz.1 e7) ⟨Nat.le_of_ble_eq_true rfl, Nat.le_of_ble_eq_true rfl⟩ hz.1.1 (Nat.le_of_ble_eq_true rfl) dL_works_191 rfl (fun h9 hq => ?_)
    obtain ⟨hz1, hfr1⟩ := hq
    have hz2 := d_al_c hz hz1 hfr1
    obtain ⟨Y10, hf, hz⟩ := f_let_x (P := fun w => d_al h9 w) hf hz2
    replace hfr : d_fl h h9 := Eq.trans hfr1.1 hfr
    refine a_iload (pc' := 196) 1 dL_works_194 rfl rfl ?_
    refine a_icmp_ne (pc' := 199) 203 dL_works_196 (by decide) rfl (fun k11 => ?_) (fun k11 => ?_)
    · replace hf := (if_neg k11).symm.trans hf
      refine a_iconst (pc' := 204) (v := (0 : Int32)) dL_works_203 rfl (by decide) ?_
      cases hf
    · replace hf := (if_pos k11).symm.trans hf
      refine a_iconst (pc' := 200) (v := (1 : Int32)) dL_works_199 rfl (by decide) ?_
      refine a_goto 204 dL_works_200 (by decide) ?_
      cases hf
      exact a_zret hr rfl ⟨rfl, hz, hfr⟩ dL_works_204
  · subst he9
    simp only [Sum.elim_inl, Sum.elim_inr] at hf
    refine a_iconst (pc' := 127) (v := (0 : Int32)) dL_works_126 rfl (by decide) ?_
    cases hf
/-! SlateRoofLaw.act(LSlateRoof;III[I[I[I[I[I[I)Z -/
set_option maxRecDepth 100000 in
def f_L_act_L848 (F : Nat) (Y : d_A) (x46 : Int32) : Nat → Int32 → d_A → Option (Int32 × d_A)
  | 0, _, _ => none
  | n + 1, v16_848, Y_848 => (if (((1 : Int32)) + x46) ≤ v16_848 then some (v16_848, Y_848) else f_grd ((Y.2.2.2.2.2.2 ((2 : Int32)).toNatClampNeg) - ((1 : Int32))) 61 ((f_L_gap F Y_848.2.2 ((Y.2.2.2.2.2.2 ((2 : Int32)).toNatClampNeg) - ((1 : Int32)))).bind fun x849003 => f_grd ((Y.2.2.2.2.2.2 ((2 : Int32)).toNatClampNeg) - ((1 : Int32))) 61 (f_let (Y_848.1, Y_848.2.1, (Y_848.2.2.1, upd Y_848.2.2.2.1 ((Y.2.2.2.2.2.2 ((2 : Int32)).toNatClampNeg) - ((1 : Int32))).toNatClampNeg ((Y_848.2.2.2.1 ((Y.2.2.2.2.2.2 ((2 : Int32)).toNatClampNeg) - ((1 : Int32))).toNatClampNeg) ||| (((1 : Int32)) <<< (x849003 &&& 31))), Y_848.2.2.2.2.1, Y_848.2.2.2.2.2.1, Y_848.2.2.2.2.2.2)) fun Y849005 => f_L_act_L848 F Y x46 n (v16_848 + (1 : Int32)) Y849005)))
set_option maxRecDepth 100000 in
def f_L_act_L848b (F : Nat) (Y : d_A) (x156 : Int32) : Nat → Int32 → d_A → Option (Int32 × d_A)
  | 0, _, _ => none
  | n + 1, v16_848, Y_848 => (if (((1 : Int32)) + x156) ≤ v16_848 then some (v16_848, Y_848) else f_grd ((Y.2.2.2.2.2.2 ((2 : Int32)).toNatClampNeg) - ((1 : Int32))) 61 ((f_L_gap F Y_848.2.2 ((Y.2.2.2.2.2.2 ((2 : Int32)).toNatClampNeg) - ((1 : Int32)))).bind fun x849003 => f_grd ((Y.2.2.2.2.2.2 ((2 : Int32)).toNatClampNeg) - ((1 : Int32))) 61 (f_let (Y_848.1, Y_848.2.1, (Y_848.2.2.1, upd Y_848.2.2.2.1 ((Y.2.2.2.2.2.2 ((2 : Int32)).toNatClampNeg) - ((1 : Int32))).toNatClampNeg ((Y_848.2.2.2.1 ((Y.2.2.2.2.2.2 ((2 : Int32)).toNatClampNeg) - ((1 : Int32))).toNatClampNeg) ||| (((1 : Int32)) <<< (x849003 &&& 31))), Y_848.2.2.2.2.1, Y_848.2.2.2.2.2.1, Y_848.2.2.2.2.2.2)) fun Y849005 => f_L_act_L848b F Y x156 n (v16_848 + (1 : Int32)) Y849005)))
set_option maxRecDepth 100000 in
def f_L_act_L315 (F : Nat) (a3 : Int32) (x2 : Int32) : Nat → Int32 → Int32 → d_A → Option (Int32 × Int32 × d_A)
  | 0, _, _, _ => none
  | n + 1, v13_315, v14_315, Y_315 => (if (((8 : Int32)) + x2) ≤ v14_315 then some (v13_315, v14_315, Y_315) else (f_L_at F a3 ((3 : Int32))).bind fun x316003 => (if x316003 = 0 then f_grd v14_315 25 (f_grd v14_315 25 (f_let (Y_315.1, Y_315.2.1, (Y_315.2.2.1, Y_315.2.2.2.1, Y_315.2.2.2.2.1, upd Y_315.2.2.2.2.2.1 v14_315.toNatClampNeg ((0 : Int32)), Y_315.2.2.2.2.2.2)) fun Y316006 => f_L_act_L315 F a3 x2 n (v13_315 + (Y_315.2.2.2.2.2.1 v14_315.toNatClampNeg)) (v14_315 + (1 : Int32)) Y316006)) else some (v13_315, v14_315, Y_315)))
set_option maxRecDepth 100000 in
def f_L_act (F : Nat) (Y : d_A) (a1 : Int32) (a2 : Int32) (a3 : Int32) : Option (Int32 × d_A) := (f_L_at F a2 ((17 : Int32))).bind fun x2 => f_grd ((2 : Int32)) 14 (f_grd ((8 : Int32)) 14 (((if (Y.2.2.2.2.2.2 ((8 : Int32)).toNatClampNeg) = 0 then f_grd ((9 : Int32)) 14 ((if (Y.2.2.2.2.2.2 ((9 : Int32)).toNatClampNeg) = 0 then some ((1 : Int32)) else some ((0 : Int32)))) else some ((0 : Int32)))).bind fun j3 => (if ((3 : Int32)) ≤ a1 then (if a1 = ((3 : Int32)) then (f_L_at F a2 ((3 : Int32))).bind fun x295 => f_grd (((3 : Int32)) + x295) 14 (((if x295 = 0 then (f_L_at F a3 ((5 : Int32))).bind fun x303 => some (((2 : Int32)) + x303) else ((if x295 = ((1 : Int32)) then some ((60 : Int32)) else some ((5 : Int32)))).bind fun j298 => (f_L_at F a3 j298).bind fun x301 => some (((1 : Int32)) + x301))).bind fun j296 => f_grd (((3 : Int32)) + x295) 14 (f_let (Y.1, Y.2.1, (Y.2.2.1, Y.2.2.2.1, Y.2.2.2.2.1, Y.2.2.2.2.2.1, upd Y.2.2.2.2.2.2 (((3 : Int32)) + x295).toNatClampNeg j296)) fun Y305 => f_grd (((3 : Int32)) + x295) 14 (f_nt (f_X3_set F Y305.1 x295 (Y305.2.2.2.2.2.2 (((3 : Int32)) + x295).toNatClampNeg)) fun x307 => f_let (x307.2, Y305.2) fun Y309 => (if x307.1 = (Y.2.2.2.2.2.2 (((3 : Int32)) + x295).toNatClampNeg) then some (((1 : Int32), Y309)) else none)))) else (if a1 = ((4 : Int32)) then (f_L_at F a3 ((13 : Int32))).bind fun x276 => (if ((((8 : Int32)) + x2) - ((4 : Int32))) < (((8 : Int32)) + x276) then some (((1 : Int32), Y)) else f_grd (((8 : Int32)) + x2) 25 ((if (Y.2.2.2.2.2.1 (((8 : Int32)) + x2).toNatClampNeg) = 0 then some (((1 : Int32), Y)) else f_grd (((8 : Int32)) + x2) 25 (((if (Y.2.2.2.2.2.1 (((8 : Int32)) + x2).toNatClampNeg) ≤ ((200 : Int32)) then f_grd (((8 : Int32)) + x2) 25 (some (Y.2.2.2.2.2.1 (((8 : Int32)) + x2).toNatClampNeg)) else some ((200 : Int32)))).bind fun j279 => (f_L_at F (a3 >>> (((4 : Int32)) &&& 31)) j279).bind fun x282 => f_grd (((8 : Int32)) + x2) 25 (f_grd (((8 : Int32)) + x2) 25 (f_let (Y.1, Y.2.1, (Y.2.2.1, Y.2.2.2.1, Y.2.2.2.2.1, upd Y.2.2.2.2.2.1 (((8 : Int32)) + x2).toNatClampNeg ((Y.2.2.2.2.2.1 (((8 : Int32)) + x2).toNatClampNeg) - (((1 : Int32)) + x282)), Y.2.2.2.2.2.2)) fun Y284 => f_grd (((8 : Int32)) + x276) 25 (f_grd (((8 : Int32)) + x276) 25 (f_let (Y284.1, Y284.2.1, (Y284.2.2.1, Y284.2.2.2.1, upd Y284.2.2.2.2.1 (((8 : Int32)) + x276).toNatClampNeg ((Y284.2.2.2.2.1 (((8 : Int32)) + x276).toNatClampNeg) + (((1 : Int32)) + x282)), Y284.2.2.2.2.2.1, Y284.2.2.2.2.2.2)) fun Y286 => f_grd ((10 : Int32)) 14 (f_grd ((10 : Int32)) 14 (f_let (Y286.1, Y286.2.1, (Y286.2.2.1, Y286.2.2.2.1, Y286.2.2.2.2.1, Y286.2.2.2.2.2.1, upd Y286.2.2.2.2.2.2 ((10 : Int32)).toNatClampNeg ((Y286.2.2.2.2.2.2 ((10 : Int32)).toNatClampNeg) + (((1 : Int32)) + x282)))) fun Y288 => f_nt (f_X3_recut F Y288.1 (((8 : Int32)) + x2) (((8 : Int32)) + x276) (((1 : Int32)) + x282)) fun x290 => f_let (x290.2, Y288.2) fun Y292 => f_grd (((8 : Int32)) + x2) 25 ((if x290.1 = (Y292.2.2.2.2.2.1 (((8 : Int32)) + x2).toNatClampNeg) then some (((1 : Int32), Y292)) else none)))))))))))) else (if a1 = ((5 : Int32)) then (f_L_act_L315 F a3 x2 F ((0 : Int32)) ((8 : Int32)) Y).bind fun o261 => f_grd ((11 : Int32)) 14 (f_grd ((11 : Int32)) 14 (f_let (o261.2.2.1, o261.2.2.2.1, (o261.2.2.2.2.1, o261.2.2.2.2.2.1, o261.2.2.2.2.2.2.1, o261.2.2.2.2.2.2.2.1, upd o261.2.2.2.2.2.2.2.2 ((11 : Int32)).toNatClampNeg ((o261.2.2.2.2.2.2.2.2 ((11 : Int32)).toNatClampNeg) + o261.1))) fun Y265 => (f_L_at F a3 ((3 : Int32))).bind fun x267 => ((if x267 = 0 then some (((8 : Int32)) + x2) else some ((8 : Int32)))).bind fun j268 => f_nt (f_X3_clearHeap F Y265.1 j268) fun x271 => f_let (x271.2, Y265.2) fun Y273 => (if x271.1 = o261.1 then some (((1 : Int32), Y273)) else none))) else (if a1 = ((6 : Int32)) then f_grd ((9 : Int32)) 14 ((f_L_at F a3 ((3 : Int32))).bind fun x249 => ((if x249 = 0 then some ((1 : Int32)) else some ((0 : Int32)))).bind fun j250 => f_grd ((9 : Int32)) 14 (f_let (Y.1, Y.2.1, (Y.2.2.1, Y.2.2.2.1, Y.2.2.2.2.1, Y.2.2.2.2.2.1, upd Y.2.2.2.2.2.2 ((9 : Int32)).toNatClampNeg j250)) fun Y253 => f_grd ((9 : Int32)) 14 (((if (Y253.2.2.2.2.2.2 ((9 : Int32)).toNatClampNeg) = ((1 : Int32)) then some ((1 : Int32)) else some ((0 : Int32)))).bind fun j254 => (f_X3_cover F Y253.1 j254).bind fun x257 => f_let (x257.2, Y253.2) fun Y259 => (if x257.1 = (Y.2.2.2.2.2.2 ((9 : Int32)).toNatClampNeg) then some (((1 : Int32), Y259)) else none)))) else (if a1 = ((7 : Int32)) then (f_L_at F a3 ((3 : Int32))).bind fun x120 => (if x120 = 0 then (f_L_lying F Y.2.2).bind fun x230 => f_grd ((12 : Int32)) 14 (f_grd ((12 : Int32)) 14 (f_let (Y.1, Y.2.1, (Y.2.2.1, Y.2.2.2.1, Y.2.2.2.2.1, Y.2.2.2.2.2.1, upd Y.2.2.2.2.2.2 ((12 : Int32)).toNatClampNeg ((Y.2.2.2.2.2.2 ((12 : Int32)).toNatClampNeg) + x230))) fun Y232 => (f_L_at F (a2 >>> (((3 : Int32)) &&& 31)) ((31 : Int32))).bind fun x234 => f_grd ((0 : Int32)) 14 (f_let (Y232.1, Y232.2.1, (Y232.2.2.1, Y232.2.2.2.1, Y232.2.2.2.2.1, Y232.2.2.2.2.2.1, upd Y232.2.2.2.2.2.2 ((0 : Int32)).toNatClampNeg (((20 : Int32)) + x234))) fun Y236 => (f_L_at F (a3 >>> (((3 : Int32)) &&& 31)) ((29 : Int32))).bind fun x238 => f_grd ((1 : Int32)) 14 (f_let (Y236.1, Y236.2.1, (Y236.2.2.1, Y236.2.2.2.1, Y236.2.2.2.2.1, Y236.2.2.2.2.2.1, upd Y236.2.2.2.2.2.2 ((1 : Int32)).toNatClampNeg (((2 : Int32)) + x238))) fun Y240 => f_grd ((2 : Int32)) 14 (f_let (Y240.1, Y240.2.1, (Y240.2.2.1, Y240.2.2.2.1, Y240.2.2.2.2.1, Y240.2.2.2.2.2.1, upd Y240.2.2.2.2.2.2 ((2 : Int32)).toNatClampNeg ((0 : Int32)))) fun Y242 => f_grd ((0 : Int32)) 14 (f_grd ((1 : Int32)) 14 (f_nt (f_X3_begin F Y242.1 (Y242.2.2.2.2.2.2 ((0 : Int32)).toNatClampNeg) (Y242.2.2.2.2.2.2 ((1 : Int32)).toNatClampNeg)) fun x244 => f_let (x244.2, Y242.2) fun Y246 => (if x244.1 = x230 then some (((1 : Int32), Y246)) else none)))))))) else (if ((10 : Int32)) ≤ a1 then (if ((13 : Int32)) ≤ a1 then (if ((15 : Int32)) ≤ a1 then (if j3 = 0 then some (((1 : Int32), Y)) else (if 0 ≤ ((Y.2.2.2.2.2.2 ((2 : Int32)).toNatClampNeg) - ((1 : Int32))) then (if ((18 : Int32)) ≤ a1 then f_grd ((2 : Int32)) 14 ((f_L_at F a2 (Y.2.2.2.2.2.2 ((2 : Int32)).toNatClampNeg)).bind fun x129 => (f_L_gap F Y.2.2 x129).bind fun x131 => (if x131 < 0 then some (((1 : Int32), Y)) else f_grd x129 61 (f_grd (Y.2.2.1 x129.toNatClampNeg) 25 ((if (Y.2.2.2.2.1 (Y.2.2.1 x129.toNatClampNeg).toNatClampNeg) = 0 then some (((1 : Int32), Y)) else f_grd ((7 : Int32)) 14 ((if ((3 : Int32)) ≤ (Y.2.2.2.2.2.2 ((7 : Int32)).toNatClampNeg) then f_grd x129 61 (f_grd x129 61 (f_let (Y.1, Y.2.1, (Y.2.2.1, upd Y.2.2.2.1 x129.toNatClampNeg ((Y.2.2.2.1 x129.toNatClampNeg) ||| (((1 : Int32)) <<< (x131 &&& 31))), Y.2.2.2.2.1, Y.2.2.2.2.2.1, Y.2.2.2.2.2.2)) fun Y136 => f_grd x129 61 (f_grd (Y136.2.2.1 x129.toNatClampNeg) 25 (f_grd (Y136.2.2.1 x129.toNatClampNeg) 25 (f_let (Y136.1, Y136.2.1, (Y136.2.2.1, Y136.2.2.2.1, upd Y136.2.2.2.2.1 (Y136.2.2.1 x129.toNatClampNeg).toNatClampNeg ((Y136.2.2.2.2.1 (Y136.2.2.1 x129.toNatClampNeg).toNatClampNeg) - ((1 : Int32))), Y136.2.2.2.2.2.1, Y136.2.2.2.2.2.2)) fun Y138 => f_grd ((7 : Int32)) 14 (f_grd ((7 : Int32)) 14 (f_let (Y138.1, Y138.2.1, (Y138.2.2.1, Y138.2.2.2.1, Y138.2.2.2.2.1, Y138.2.2.2.2.2.1, upd Y138.2.2.2.2.2.2 ((7 : Int32)).toNatClampNeg ((Y138.2.2.2.2.2.2 ((7 : Int32)).toNatClampNeg) - ((3 : Int32))))) fun Y140 => f_nt (f_X3_mend F Y140.1 x129 x131) fun x142 => f_let (x142.2, Y140.2) fun Y144 => f_grd ((7 : Int32)) 14 ((if x142.1 = (Y144.2.2.2.2.2.2 ((7 : Int32)).toNatClampNeg) then some (((1 : Int32), Y144)) else none))))))))) else some (((1 : Int32), Y))))))))) else (f_L_places F Y.2.2 ((Y.2.2.2.2.2.2 ((2 : Int32)).toNatClampNeg) - ((1 : Int32)))).bind fun x147 => f_grd ((Y.2.2.2.2.2.2 ((2 : Int32)).toNatClampNeg) - ((1 : Int32))) 61 ((f_L_ones F (Y.2.2.2.1 ((Y.2.2.2.2.2.2 ((2 : Int32)).toNatClampNeg) - ((1 : Int32))).toNatClampNeg)).bind fun x149 => f_grd ((Y.2.2.2.2.2.2 ((2 : Int32)).toNatClampNeg) - ((1 : Int32))) 61 (f_grd (Y.2.2.1 ((Y.2.2.2.2.2.2 ((2 : Int32)).toNatClampNeg) - ((1 : Int32))).toNatClampNeg) 25 (((if (Y.2.2.2.2.1 (Y.2.2.1 ((Y.2.2.2.2.2.2 ((2 : Int32)).toNatClampNeg) - ((1 : Int32))).toNatClampNeg).toNatClampNeg) ≤ (x147 - x149) then f_grd ((Y.2.2.2.2.2.2 ((2 : Int32)).toNatClampNeg) - ((1 : Int32))) 61 (f_grd (Y.2.2.1 ((Y.2.2.2.2.2.2 ((2 : Int32)).toNatClampNeg) - ((1 : Int32))).toNatClampNeg) 25 (some (Y.2.2.2.2.1 (Y.2.2.1 ((Y.2.2.2.2.2.2 ((2 : Int32)).toNatClampNeg) - ((1 : Int32))).toNatClampNeg).toNatClampNeg))) else some (x147 - x149))).bind fun j150 => f_grd ((7 : Int32)) 14 (((if (Y.2.2.2.2.2.2 ((7 : Int32)).toNatClampNeg) ≤ j150 then f_grd ((7 : Int32)) 14 (some (Y.2.2.2.2.2.2 ((7 : Int32)).toNatClampNeg)) else some (j150))).bind fun j152 => (if j152 = 0 then some (((1 : Int32), Y)) else (f_L_at F a3 j152).bind fun x156 => (f_L_act_L848b F Y x156 F ((0 : Int32)) Y).bind fun o157 => f_grd ((Y.2.2.2.2.2.2 ((2 : Int32)).toNatClampNeg) - ((1 : Int32))) 61 (f_grd (o157.2.2.2.1 ((Y.2.2.2.2.2.2 ((2 : Int32)).toNatClampNeg) - ((1 : Int32))).toNatClampNeg) 25 (f_grd (o157.2.2.2.1 ((Y.2.2.2.2.2.2 ((2 : Int32)).toNatClampNeg) - ((1 : Int32))).toNatClampNeg) 25 (f_let (o157.2.1, o157.2.2.1, (o157.2.2.2.1, o157.2.2.2.2.1, upd o157.2.2.2.2.2.1 (o157.2.2.2.1 ((Y.2.2.2.2.2.2 ((2 : Int32)).toNatClampNeg) - ((1 : Int32))).toNatClampNeg).toNatClampNeg ((o157.2.2.2.2.2.1 (o157.2.2.2.1 ((Y.2.2.2.2.2.2 ((2 : Int32)).toNatClampNeg) - ((1 : Int32))).toNatClampNeg).toNatClampNeg) - (((1 : Int32)) + x156)), o157.2.2.2.2.2.2.1, o157.2.2.2.2.2.2.2)) fun Y161 => f_grd ((7 : Int32)) 14 (f_grd ((7 : Int32)) 14 (f_let (Y161.1, Y161.2.1, (Y161.2.2.1, Y161.2.2.2.1, Y161.2.2.2.2.1, Y161.2.2.2.2.2.1, upd Y161.2.2.2.2.2.2 ((7 : Int32)).toNatClampNeg ((Y161.2.2.2.2.2.2 ((7 : Int32)).toNatClampNeg) - (((1 : Int32)) + x156)))) fun Y163 => f_nt (f_X3_lay F Y163.1 (((1 : Int32)) + x156)) fun x165 => f_let (x165.2, Y163.2) fun Y167 => f_grd ((Y.2.2.2.2.2.2 ((2 : Int32)).toNatClampNeg) - ((1 : Int32))) 61 ((f_L_ones F (Y167.2.2.2.1 ((Y.2.2.2.2.2.2 ((2 : Int32)).toNatClampNeg) - ((1 : Int32))).toNatClampNeg)).bind fun x169 => (if x165.1 = x169 then some (((1 : Int32), Y167)) else none))))))))))))) else some (((1 : Int32), Y)))) else (f_L_works F Y a2 a3).bind fun x172 => f_let x172.2 fun Y174 => f_if (x172.1 = 0 ∨ x172.1 = 1) (some ((x172.1, Y174)))) else (f_L_longest F Y.2.2).bind fun x176 => (f_L_longest F Y.2.2).bind fun x178 => (f_L_at F a2 (x178 - ((7 : Int32)))).bind fun x180 => (if j3 = 0 then some (((1 : Int32), Y)) else (if ((Y.2.2.2.2.2.2 ((2 : Int32)).toNatClampNeg) - ((1 : Int32))) < 0 then f_grd ((2 : Int32)) 14 ((f_L_top F Y.2.2 (Y.2.2.2.2.2.2 ((2 : Int32)).toNatClampNeg)).bind fun x184 => f_grd ((0 : Int32)) 14 ((if x184 < (Y.2.2.2.2.2.2 ((0 : Int32)).toNatClampNeg) then f_grd ((2 : Int32)) 14 (f_grd (Y.2.2.2.2.2.2 ((2 : Int32)).toNatClampNeg) 61 (f_let (Y.1, Y.2.1, (upd Y.2.2.1 (Y.2.2.2.2.2.2 ((2 : Int32)).toNatClampNeg).toNatClampNeg (x176 - x180), Y.2.2.2.1, Y.2.2.2.2.1, Y.2.2.2.2.2.1, Y.2.2.2.2.2.2)) fun Y187 => f_grd ((2 : Int32)) 14 (f_grd (Y187.2.2.2.2.2.2 ((2 : Int32)).toNatClampNeg) 61 (f_let (Y187.1, Y187.2.1, (Y187.2.2.1, upd Y187.2.2.2.1 (Y187.2.2.2.2.2.2 ((2 : Int32)).toNatClampNeg).toNatClampNeg ((0 : Int32)), Y187.2.2.2.2.1, Y187.2.2.2.2.2.1, Y187.2.2.2.2.2.2)) fun Y189 => f_grd ((2 : Int32)) 14 (f_grd ((2 : Int32)) 14 (f_let (Y189.1, Y189.2.1, (Y189.2.2.1, Y189.2.2.2.1, Y189.2.2.2.2.1, Y189.2.2.2.2.2.1, upd Y189.2.2.2.2.2.2 ((2 : Int32)).toNatClampNeg ((Y189.2.2.2.2.2.2 ((2 : Int32)).toNatClampNeg) + ((1 : Int32))))) fun Y191 => f_nt (f_X3_course F Y191.1 (x176 - x180)) fun x193 => f_let (x193.2, Y191.2) fun Y195 => (if x193.1 = (((Y.2.2.2.2.2.2 ((2 : Int32)).toNatClampNeg) - ((1 : Int32))) + ((1 : Int32))) then some (((1 : Int32), Y195)) else none))))))) else some (((1 : Int32), Y))))) else (f_L_gap F Y.2.2 ((Y.2.2.2.2.2.2 ((2 : Int32)).toNatClampNeg) - ((1 : Int32)))).bind fun x198 => (if 0 ≤ x198 then some (((1 : Int32), Y)) else f_grd ((2 : Int32)) 14 ((f_L_top F Y.2.2 (Y.2.2.2.2.2.2 ((2 : Int32)).toNatClampNeg)).bind fun x201 => f_grd ((0 : Int32)) 14 ((if x201 < (Y.2.2.2.2.2.2 ((0 : Int32)).toNatClampNeg) then f_grd ((2 : Int32)) 14 (f_grd (Y.2.2.2.2.2.2 ((2 : Int32)).toNatClampNeg) 61 (f_let (Y.1, Y.2.1, (upd Y.2.2.1 (Y.2.2.2.2.2.2 ((2 : Int32)).toNatClampNeg).toNatClampNeg (x176 - x180), Y.2.2.2.1, Y.2.2.2.2.1, Y.2.2.2.2.2.1, Y.2.2.2.2.2.2)) fun Y204 => f_grd ((2 : Int32)) 14 (f_grd (Y204.2.2.2.2.2.2 ((2 : Int32)).toNatClampNeg) 61 (f_let (Y204.1, Y204.2.1, (Y204.2.2.1, upd Y204.2.2.2.1 (Y204.2.2.2.2.2.2 ((2 : Int32)).toNatClampNeg).toNatClampNeg ((0 : Int32)), Y204.2.2.2.2.1, Y204.2.2.2.2.2.1, Y204.2.2.2.2.2.2)) fun Y206 => f_grd ((2 : Int32)) 14 (f_grd ((2 : Int32)) 14 (f_let (Y206.1, Y206.2.1, (Y206.2.2.1, Y206.2.2.2.1, Y206.2.2.2.2.1, Y206.2.2.2.2.2.1, upd Y206.2.2.2.2.2.2 ((2 : Int32)).toNatClampNeg ((Y206.2.2.2.2.2.2 ((2 : Int32)).toNatClampNeg) + ((1 : Int32))))) fun Y208 => f_nt (f_X3_course F Y208.1 (x176 - x180)) fun x210 => f_let (x210.2, Y208.2) fun Y212 => (if x210.1 = (((Y.2.2.2.2.2.2 ((2 : Int32)).toNatClampNeg) - ((1 : Int32))) + ((1 : Int32))) then some (((1 : Int32), Y212)) else none))))))) else some (((1 : Int32), Y))))))))) else (f_L_at F a2 ((4 : Int32))).bind fun x215 => ((if x215 ≤ ((2 : Int32)) then some (x215) else some ((0 : Int32)))).bind fun j216 => f_nt (f_X3_pass F Y.1 j216) fun x219 => f_let (x219.2, Y.2) fun Y221 => ((if x215 ≤ ((2 : Int32)) then some (x215) else some ((0 : Int32)))).bind fun j222 => (f_L_day F Y221.2.2 j222).bind fun x225 => f_let (Y221.1, Y221.2.1, x225.2) fun Y227 => (if x219.1 = x225.1 then some (((1 : Int32), Y227)) else none))) else (if ((10 : Int32)) ≤ a1 then (if ((13 : Int32)) ≤ a1 then (if ((15 : Int32)) ≤ a1 then (if j3 = 0 then some (((1 : Int32), Y)) else (if 0 ≤ ((Y.2.2.2.2.2.2 ((2 : Int32)).toNatClampNeg) - ((1 : Int32))) then (if ((18 : Int32)) ≤ a1 then f_grd ((2 : Int32)) 14 ((f_L_at F a2 (Y.2.2.2.2.2.2 ((2 : Int32)).toNatClampNeg)).bind fun x19 => (f_L_gap F Y.2.2 x19).bind fun x21 => (if x21 < 0 then some (((1 : Int32), Y)) else f_grd x19 61 (f_grd (Y.2.2.1 x19.toNatClampNeg) 25 ((if (Y.2.2.2.2.1 (Y.2.2.1 x19.toNatClampNeg).toNatClampNeg) = 0 then some (((1 : Int32), Y)) else f_grd ((7 : Int32)) 14 ((if ((3 : Int32)) ≤ (Y.2.2.2.2.2.2 ((7 : Int32)).toNatClampNeg) then f_grd x19 61 (f_grd x19 61 (f_let (Y.1, Y.2.1, (Y.2.2.1, upd Y.2.2.2.1 x19.toNatClampNeg ((Y.2.2.2.1 x19.toNatClampNeg) ||| (((1 : Int32)) <<< (x21 &&& 31))), Y.2.2.2.2.1, Y.2.2.2.2.2.1, Y.2.2.2.2.2.2)) fun Y26 => f_grd x19 61 (f_grd (Y26.2.2.1 x19.toNatClampNeg) 25 (f_grd (Y26.2.2.1 x19.toNatClampNeg) 25 (f_let (Y26.1, Y26.2.1, (Y26.2.2.1, Y26.2.2.2.1, upd Y26.2.2.2.2.1 (Y26.2.2.1 x19.toNatClampNeg).toNatClampNeg ((Y26.2.2.2.2.1 (Y26.2.2.1 x19.toNatClampNeg).toNatClampNeg) - ((1 : Int32))), Y26.2.2.2.2.2.1, Y26.2.2.2.2.2.2)) fun Y28 => f_grd ((7 : Int32)) 14 (f_grd ((7 : Int32)) 14 (f_let (Y28.1, Y28.2.1, (Y28.2.2.1, Y28.2.2.2.1, Y28.2.2.2.2.1, Y28.2.2.2.2.2.1, upd Y28.2.2.2.2.2.2 ((7 : Int32)).toNatClampNeg ((Y28.2.2.2.2.2.2 ((7 : Int32)).toNatClampNeg) - ((3 : Int32))))) fun Y30 => f_nt (f_X3_mend F Y30.1 x19 x21) fun x32 => f_let (x32.2, Y30.2) fun Y34 => f_grd ((7 : Int32)) 14 ((if x32.1 = (Y34.2.2.2.2.2.2 ((7 : Int32)).toNatClampNeg) then some (((1 : Int32), Y34)) else none))))))))) else some (((1 : Int32), Y))))))))) else (f_L_places F Y.2.2 ((Y.2.2.2.2.2.2 ((2 : Int32)).toNatClampNeg) - ((1 : Int32)))).bind fun x37 => f_grd ((Y.2.2.2.2.2.2 ((2 : Int32)).toNatClampNeg) - ((1 : Int32))) 61 ((f_L_ones F (Y.2.2.2.1 ((Y.2.2.2.2.2.2 ((2 : Int32)).toNatClampNeg) - ((1 : Int32))).toNatClampNeg)).bind fun x39 => f_grd ((Y.2.2.2.2.2.2 ((2 : Int32)).toNatClampNeg) - ((1 : Int32))) 61 (f_grd (Y.2.2.1 ((Y.2.2.2.2.2.2 ((2 : Int32)).toNatClampNeg) - ((1 : Int32))).toNatClampNeg) 25 (((if (Y.2.2.2.2.1 (Y.2.2.1 ((Y.2.2.2.2.2.2 ((2 : Int32)).toNatClampNeg) - ((1 : Int32))).toNatClampNeg).toNatClampNeg) ≤ (x37 - x39) then f_grd ((Y.2.2.2.2.2.2 ((2 : Int32)).toNatClampNeg) - ((1 : Int32))) 61 (f_grd (Y.2.2.1 ((Y.2.2.2.2.2.2 ((2 : Int32)).toNatClampNeg) - ((1 : Int32))).toNatClampNeg) 25 (some (Y.2.2.2.2.1 (Y.2.2.1 ((Y.2.2.2.2.2.2 ((2 : Int32)).toNatClampNeg) - ((1 : Int32))).toNatClampNeg).toNatClampNeg))) else some (x37 - x39))).bind fun j40 => f_grd ((7 : Int32)) 14 (((if (Y.2.2.2.2.2.2 ((7 : Int32)).toNatClampNeg) ≤ j40 then f_grd ((7 : Int32)) 14 (some (Y.2.2.2.2.2.2 ((7 : Int32)).toNatClampNeg)) else some (j40))).bind fun j42 => (if j42 = 0 then some (((1 : Int32), Y)) else (f_L_at F a3 j42).bind fun x46 => (f_L_act_L848 F Y x46 F ((0 : Int32)) Y).bind fun o47 => f_grd ((Y.2.2.2.2.2.2 ((2 : Int32)).toNatClampNeg) - ((1 : Int32))) 61 (f_grd (o47.2.2.2.1 ((Y.2.2.2.2.2.2 ((2 : Int32)).toNatClampNeg) - ((1 : Int32))).toNatClampNeg) 25 (f_grd (o47.2.2.2.1 ((Y.2.2.2.2.2.2 ((2 : Int32)).toNatClampNeg) - ((1 : Int32))).toNatClampNeg) 25 (f_let (o47.2.1, o47.2.2.1, (o47.2.2.2.1, o47.2.2.2.2.1, upd o47.2.2.2.2.2.1 (o47.2.2.2.1 ((Y.2.2.2.2.2.2 ((2 : Int32)).toNatClampNeg) - ((1 : Int32))).toNatClampNeg).toNatClampNeg ((o47.2.2.2.2.2.1 (o47.2.2.2.1 ((Y.2.2.2.2.2.2 ((2 : Int32)).toNatClampNeg) - ((1 : Int32))).toNatClampNeg).toNatClampNeg) - (((1 : Int32)) + x46)), o47.2.2.2.2.2.2.1, o47.2.2.2.2.2.2.2)) fun Y51 => f_grd ((7 : Int32)) 14 (f_grd ((7 : Int32)) 14 (f_let (Y51.1, Y51.2.1, (Y51.2.2.1, Y51.2.2.2.1, Y51.2.2.2.2.1, Y51.2.2.2.2.2.1, upd Y51.2.2.2.2.2.2 ((7 : Int32)).toNatClampNeg ((Y51.2.2.2.2.2.2 ((7 : Int32)).toNatClampNeg) - (((1 : Int32)) + x46)))) fun Y53 => f_nt (f_X3_lay F Y53.1 (((1 : Int32)) + x46)) fun x55 => f_let (x55.2, Y53.2) fun Y57 => f_grd ((Y.2.2.2.2.2.2 ((2 : Int32)).toNatClampNeg) - ((1 : Int32))) 61 ((f_L_ones F (Y57.2.2.2.1 ((Y.2.2.2.2.2.2 ((2 : Int32)).toNatClampNeg) - ((1 : Int32))).toNatClampNeg)).bind fun x59 => (if x55.1 = x59 then some (((1 : Int32), Y57)) else none))))))))))))) else some (((1 : Int32), Y)))) else (f_L_works F Y a2 a3).bind fun x62 => f_let x62.2 fun Y64 => f_if (x62.1 = 0 ∨ x62.1 = 1) (some ((x62.1, Y64)))) else (f_L_longest F Y.2.2).bind fun x66 => (f_L_longest F Y.2.2).bind fun x68 => (f_L_at F a2 (x68 - ((7 : Int32)))).bind fun x70 => (if j3 = 0 then some (((1 : Int32), Y)) else (if ((Y.2.2.2.2.2.2 ((2 : Int32)).toNatClampNeg) - ((1 : Int32))) < 0 then f_grd ((2 : Int32)) 14 ((f_L_top F Y.2.2 (Y.2.2.2.2.2.2 ((2 : Int32)).toNatClampNeg)).bind fun x74 => f_grd ((0 : Int32)) 14 ((if x74 < (Y.2.2.2.2.2.2 ((0 : Int32)).toNatClampNeg) then f_grd ((2 : Int32)) 14 (f_grd (Y.2.2.2.2.2.2 ((2 : Int32)).toNatClampNeg) 61 (f_let (Y.1, Y.2.1, (upd Y.2.2.1 (Y.2.2.2.2.2.2 ((2 : Int32)).toNatClampNeg).toNatClampNeg (x66 - x70), Y.2.2.2.1, Y.2.2.2.2.1, Y.2.2.2.2.2.1, Y.2.2.2.2.2.2)) fun Y77 => f_grd ((2 : Int32)) 14 (f_grd (Y77.2.2.2.2.2.2 ((2 : Int32)).toNatClampNeg) 61 (f_let (Y77.1, Y77.2.1, (Y77.2.2.1, upd Y77.2.2.2.1 (Y77.2.2.2.2.2.2 ((2 : Int32)).toNatClampNeg).toNatClampNeg ((0 : Int32)), Y77.2.2.2.2.1, Y77.2.2.2.2.2.1, Y77.2.2.2.2.2.2)) fun Y79 => f_grd ((2 : Int32)) 14 (f_grd ((2 : Int32)) 14 (f_let (Y79.1, Y79.2.1, (Y79.2.2.1, Y79.2.2.2.1, Y79.2.2.2.2.1, Y79.2.2.2.2.2.1, upd Y79.2.2.2.2.2.2 ((2 : Int32)).toNatClampNeg ((Y79.2.2.2.2.2.2 ((2 : Int32)).toNatClampNeg) + ((1 : Int32))))) fun Y81 => f_nt (f_X3_course F Y81.1 (x66 - x70)) fun x83 => f_let (x83.2, Y81.2) fun Y85 => (if x83.1 = (((Y.2.2.2.2.2.2 ((2 : Int32)).toNatClampNeg) - ((1 : Int32))) + ((1 : Int32))) then some (((1 : Int32), Y85)) else none))))))) else some (((1 : Int32), Y))))) else (f_L_gap F Y.2.2 ((Y.2.2.2.2.2.2 ((2 : Int32)).toNatClampNeg) - ((1 : Int32)))).bind fun x88 => (if 0 ≤ x88 then some (((1 : Int32), Y)) else f_grd ((2 : Int32)) 14 ((f_L_top F Y.2.2 (Y.2.2.2.2.2.2 ((2 : Int32)).toNatClampNeg)).bind fun x91 => f_grd ((0 : Int32)) 14 ((if x91 < (Y.2.2.2.2.2.2 ((0 : Int32)).toNatClampNeg) then f_grd ((2 : Int32)) 14 (f_grd (Y.2.2.2.2.2.2 ((2 : Int32)).toNatClampNeg) 61 (f_let (Y.1, Y.2.1, (upd Y.2.2.1 (Y.2.2.2.2.2.2 ((2 : Int32)).toNatClampNeg).toNatClampNeg (x66 - x70), Y.2.2.2.1, Y.2.2.2.2.1, Y.2.2.2.2.2.1, Y.2.2.2.2.2.2)) fun Y94 => f_grd ((2 : Int32)) 14 (f_grd (Y94.2.2.2.2.2.2 ((2 : Int32)).toNatClampNeg) 61 (f_let (Y94.1, Y94.2.1, (Y94.2.2.1, upd Y94.2.2.2.1 (Y94.2.2.2.2.2.2 ((2 : Int32)).toNatClampNeg).toNatClampNeg ((0 : Int32)), Y94.2.2.2.2.1, Y94.2.2.2.2.2.1, Y94.2.2.2.2.2.2)) fun Y96 => f_grd ((2 : Int32)) 14 (f_grd ((2 : Int32)) 14 (f_let (Y96.1, Y96.2.1, (Y96.2.2.1, Y96.2.2.2.1, Y96.2.2.2.2.1, Y96.2.2.2.2.2.1, upd Y96.2.2.2.2.2.2 ((2 : Int32)).toNatClampNeg ((Y96.2.2.2.2.2.2 ((2 : Int32)).toNatClampNeg) + ((1 : Int32))))) fun Y98 => f_nt (f_X3_course F Y98.1 (x66 - x70)) fun x100 => f_let (x100.2, Y98.2) fun Y102 => (if x100.1 = (((Y.2.2.2.2.2.2 ((2 : Int32)).toNatClampNeg) - ((1 : Int32))) + ((1 : Int32))) then some (((1 : Int32), Y102)) else none))))))) else some (((1 : Int32), Y))))))))) else (f_L_at F a2 ((4 : Int32))).bind fun x105 => ((if x105 ≤ ((2 : Int32)) then some (x105) else some ((0 : Int32)))).bind fun j106 => f_nt (f_X3_pass F Y.1 j106) fun x109 => f_let (x109.2, Y.2) fun Y111 => ((if x105 ≤ ((2 : Int32)) then some (x105) else some ((0 : Int32)))).bind fun j112 => (f_L_day F Y111.2.2 j112).bind fun x115 => f_let (Y111.1, Y111.2.1, x115.2) fun Y117 => (if x109.1 = x115.1 then some (((1 : Int32), Y117)) else none))))))) else (f_L_at F a3 ((60 : Int32))).bind fun x312 => f_nt (f_X3_buy F Y.1 (((8 : Int32)) + x2) (((1 : Int32)) + x312) (a3 - a2)) fun x314 => f_let (x314.2, Y.2) fun Y316 => (f_L_at F a3 ((60 : Int32))).bind fun x318 => (f_L_bought F Y316 (((8 : Int32)) + x2) (((1 : Int32)) + x318) (a3 - a2)).bind fun x320 => f_let x320.2 fun Y322 => (if x314.1 = x320.1 then some (((1 : Int32), Y322)) else none))))
set_option maxHeartbeats 4000000 in
set_option maxRecDepth 100000 in
theorem l_L_act_L848 {p : Program} {l : Launch} {e : Env} {s : State} {m : MethodId} {args : Array Value} {below : List Frame} {meth : Method} {c : Code} {Q : State → Prop} {g : a_G} (F : Nat) {h : List va_E} (Y : d_A) (x46 : Int32) : ∀ (n : Nat) (v16_848 : Int32) (Y_848 : d_A) (o : Int32 × d_A), f_L_act_L848 F Y x46 n v16_848 Y_848 = some o → (∀ e9 : Int32 × d_A, o = e9 → ∀ h1, d_al h1 e9.2 → d_fl h h1 → a_W p l e (a_rm 7 170) s m args below meth c Q RL cL_act 17 g 0 0 none 880 [(0, .ref 0), (4, .ref 55), (5, .ref 56), (6, .ref 57), (9, .ref 60), (11, .int ((Y.2.2.2.2.2.2 ((2 : Int32)).toNatClampNeg) - ((1 : Int32)))), (15, .int (((1 : Int32)) + x46))] [] h1) → ∀ h1, d_al h1 Y_848 → d_fl h h1 → a_W p l e (a_rm 7 170) s m args below meth c Q RL cL_act 17 g 0 0 none 848 [(0, .ref 0), (4, .ref 55), (5, .ref 56), (6, .ref 57), (9, .ref 60), (11, .int ((Y.2.2.2.2.2.2 ((2 : Int32)).toNatClampNeg) - ((1 : Int32)))), (15, .int (((1 : Int32)) + x46)), (16, .int v16_848)] [] h1 := by
  intro n
  induction n with
  | zero => intro v16_848 Y_848 o hf; exact nomatch (show (none : Option (Int32 × d_A)) = some o from hf)
  | succ n ih =>
    intro v16_848 Y_848 o hf hX0 h1 hz hfr
    rw [f_L_act_L848] at hf
    refine a_iload (pc' := 850) 7 dL_act_848 rfl rfl ?_
    refine a_iload (pc' := 852) 6 dL_act_850 rfl rfl ?_
    refine a_icmp_ge (pc' := 855) 880 dL_act_852 (by decide) rfl (fun k849001 => ?_) (fun k849001 => ?_)
    · replace hf := (if_pos k849001).symm.trans hf
      cases hf
      refine a_sub [0, 1, 2, 3, 4, 5, 6] rfl ?_
      exact hX0 _ rfl _ hz hfr
    · replace hf := (if_neg k849001).symm.trans hf
      refine a_aload (pc' := 857) 2 dL_act_855 rfl rfl ?_
      refine a_iload (pc' := 859) 5 dL_act_857 rfl rfl ?_
      refine a_dup2 (pc' := 860) dL_act_859 rfl rfl rfl ?_
      obtain ⟨hg, hf⟩ := f_grd_x hf
      refine b_iald (pc' := 861) hz.2.2.2.2.1 hg dL_act_860 rfl ?_
      refine a_iconst (pc' := 862) (v := (1 : Int32)) dL_act_861 rfl (by decide) ?_
      refine a_iload (pc' := 864) 5 dL_act_862 rfl rfl ?_
      refine a_aload (pc' := 866) 2 dL_act_864 rfl rfl ?_
      refine a_aload (pc' := 868) 4 dL_act_866 rfl rfl ?_
      obtain ⟨x849003, e849002, hf⟩ := Option.bind_eq_some_iff.mp hf
      refine k_L_38 (pc' := 871) (c_L_gap l g F hz.2.2 e849002) ⟨Nat.le_of_ble_eq_true rfl, Nat.le_of_ble_eq_true rfl⟩ (Nat.le_of_ble_eq_true rfl) dL_act_868 rfl ?_
      refine a_ishl (pc' := 872) dL_act_871 rfl ?_
      refine a_ior (pc' := 873) dL_act_872 rfl ?_
      obtain ⟨hg, hf⟩ := f_grd_x hf
      refine b_iast (pc' := 874) hz.2.2.2.2.1 hg dL_act_873 rfl (fun h849004 hz1 hfr1 => ?_)
      obtain ⟨hz1, hfr1⟩ := d_lw_s1 hz.2.2 hz1 hfr1
      have hz2 := d_al_w hz hz1 hfr1
      obtain ⟨Y849005, hf, hz⟩ := f_let_x (P := fun w => d_al h849004 w) hf hz2
      replace hfr : d_fl h h849004 := Eq.trans hfr1.1 hfr
      refine a_iinc (pc' := 877) (v := v16_848 + (1 : Int32)) (ls' := [(16, .int (v16_848 + (1 : Int32))), (0, .ref 0), (4, .ref 55), (5, .ref 56), (6, .ref 57), (9, .ref 60), (11, .int ((Y.2.2.2.2.2.2 ((2 : Int32)).toNatClampNeg) - ((1 : Int32)))), (15, .int (((1 : Int32)) + x46))]) 7 dL_act_874 rfl (by rfl) (by decide) rfl rfl ?_
      refine a_goto 848 dL_act_877 (by decide) ?_
      refine a_sub [1, 2, 3, 4, 5, 6, 7, 0] rfl ?_
      exact ih _ _ _ hf hX0 _ hz hfr
set_option maxHeartbeats 4000000 in
set_option maxRecDepth 100000 in
theorem l_L_act_L848b {p : Program} {l : Launch} {e : Env} {s : State} {m : MethodId} {args : Array Value} {below : List Frame} {meth : Method} {c : Code} {Q : State → Prop} {g : a_G} (F : Nat) {h : List va_E} (Y : d_A) (x156 : Int32) : ∀ (n : Nat) (v16_848 : Int32) (Y_848 : d_A) (o : Int32 × d_A), f_L_act_L848b F Y x156 n v16_848 Y_848 = some o → (∀ e9 : Int32 × d_A, o = e9 → ∀ h1, d_al h1 e9.2 → d_fl h h1 → a_W p l e (a_rm 7 170) s m args below meth c Q RL cL_act 17 g 0 0 none 880 [(0, .ref 0), (4, .ref 55), (5, .ref 56), (6, .ref 57), (9, .ref 60), (11, .int ((Y.2.2.2.2.2.2 ((2 : Int32)).toNatClampNeg) - ((1 : Int32)))), (15, .int (((1 : Int32)) + x156))] [] h1) → ∀ h1, d_al h1 Y_848 → d_fl h h1 → a_W p l e (a_rm 7 170) s m args below meth c Q RL cL_act 17 g 0 0 none 848 [(0, .ref 0), (4, .ref 55), (5, .ref 56), (6, .ref 57), (9, .ref 60), (11, .int ((Y.2.2.2.2.2.2 ((2 : Int32)).toNatClampNeg) - ((1 : Int32)))), (15, .int (((1 : Int32)) + x156)), (16, .int v16_848)] [] h1 := by
  intro n
  induction n with
  | zero => intro v16_848 Y_848 o hf; exact nomatch (show (none : Option (Int32 × d_A)) = some o from hf)
  | succ n ih =>
    intro v16_848 Y_848 o hf hX0 h1 hz hfr
    rw [f_L_act_L848b] at hf
    refine a_iload (pc' := 850) 7 dL_act_848 rfl rfl ?_
    refine a_iload (pc' := 852) 6 dL_act_850 rfl rfl ?_
    refine a_icmp_ge (pc' := 855) 880 dL_act_852 (by decide) rfl (fun k849001 => ?_) (fun k849001 => ?_)
    · replace hf := (if_pos k849001).symm.trans hf
      cases hf
      refine a_sub [0, 1, 2, 3, 4, 5, 6] rfl ?_
      exact hX0 _ rfl _ hz hfr
    · replace hf := (if_neg k849001).symm.trans hf
      refine a_aload (pc' := 857) 2 dL_act_855 rfl rfl ?_
      refine a_iload (pc' := 859) 5 dL_act_857 rfl rfl ?_
      refine a_dup2 (pc' := 860) dL_act_859 rfl rfl rfl ?_
      obtain ⟨hg, hf⟩ := f_grd_x hf
      refine b_iald (pc' := 861) hz.2.2.2.2.1 hg dL_act_860 rfl ?_
      refine a_iconst (pc' := 862) (v := (1 : Int32)) dL_act_861 rfl (by decide) ?_
      refine a_iload (pc' := 864) 5 dL_act_862 rfl rfl ?_
      refine a_aload (pc' := 866) 2 dL_act_864 rfl rfl ?_
      refine a_aload (pc' := 868) 4 dL_act_866 rfl rfl ?_
      obtain ⟨x849003, e849002, hf⟩ := Option.bind_eq_some_iff.mp hf
      refine k_L_38 (pc' := 871) (c_L_gap l g F hz.2.2 e849002) ⟨Nat.le_of_ble_eq_true rfl, Nat.le_of_ble_eq_true rfl⟩ (Nat.le_of_ble_eq_true rfl) dL_act_868 rfl ?_
      refine a_ishl (pc' := 872) dL_act_871 rfl ?_
      refine a_ior (pc' := 873) dL_act_872 rfl ?_
      obtain ⟨hg, hf⟩ := f_grd_x hf
      refine b_iast (pc' := 874) hz.2.2.2.2.1 hg dL_act_873 rfl (fun h849004 hz1 hfr1 => ?_)
      obtain ⟨hz1, hfr1⟩ := d_lw_s1 hz.2.2 hz1 hfr1
      have hz2 := d_al_w hz hz1 hfr1
      obtain ⟨Y849005, hf, hz⟩ := f_let_x (P := fun w => d_al h849004 w) hf hz2
      replace hfr : d_fl h h849004 := Eq.trans hfr1.1 hfr
      refine a_iinc (pc' := 877) (v := v16_848 + (1 : Int32)) (ls' := [(16, .int (v16_848 + (1 : Int32))), (0, .ref 0), (4, .ref 55), (5, .ref 56), (6, .ref 57), (9, .ref 60), (11, .int ((Y.2.2.2.2.2.2 ((2 : Int32)).toNatClampNeg) - ((1 : Int32)))), (15, .int (((1 : Int32)) + x156))]) 7 dL_act_874 rfl (by rfl) (by decide) rfl rfl ?_
      refine a_goto 848 dL_act_877 (by decide) ?_
      refine a_sub [1, 2, 3, 4, 5, 6, 7, 0] rfl ?_
      exact ih _ _ _ hf hX0 _ hz hfr
set_option maxHeartbeats 4000000 in
set_option maxRecDepth 100000 in
theorem l_L_act_L315 {p : Program} {l : Launch} {e : Env} {s : State} {m : MethodId} {args : Array Value} {below : List Frame} {meth : Method} {c : Code} {Q : State → Prop} {g : a_G} (F : Nat) {h : List va_E} (a3 : Int32) (x2 : Int32) : ∀ (n : Nat) (v13_315 : Int32) (v14_315 : Int32) (Y_315 : d_A) (o : Int32 × Int32 × d_A), f_L_act_L315 F a3 x2 n v13_315 v14_315 Y_315 = some o → (∀ e9 : Int32 × Int32 × d_A, o = e9 → ∀ h1, d_al h1 e9.2.2 → d_fl h h1 → a_W p l e (a_rm 7 170) s m args below meth c Q RL cL_act 17 g 0 0 none 352 [(0, .ref 0), (3, .int a3), (9, .ref 60), (10, .int (((8 : Int32)) + x2)), (13, .int e9.1)] [] h1) → ∀ h1, d_al h1 Y_315 → d_fl h h1 → a_W p l e (a_rm 7 170) s m args below meth c Q RL cL_act 17 g 0 0 none 315 [(0, .ref 0), (3, .int a3), (7, .ref 58), (9, .ref 60), (10, .int (((8 : Int32)) + x2)), (13, .int v13_315), (14, .int v14_315)] [] h1 := by
  intro n
  induction n with
  | zero => intro v13_315 v14_315 Y_315 o hf; exact nomatch (show (none : Option (Int32 × Int32 × d_A)) = some o from hf)
  | succ n ih =>
    intro v13_315 v14_315 Y_315 o hf hX0 h1 hz hfr
    rw [f_L_act_L315] at hf
    refine a_iload (pc' := 317) 6 dL_act_315 rfl rfl ?_
    refine a_iload (pc' := 319) 4 dL_act_317 rfl rfl ?_
    refine a_icmp_ge (pc' := 322) 352 dL_act_319 (by decide) rfl (fun k316001 => ?_) (fun k316001 => ?_)
    · replace hf := (if_pos k316001).symm.trans hf
      cases hf
      refine a_sub [0, 1, 3, 4, 5] rfl ?_
      exact hX0 _ rfl _ hz hfr
    · replace hf := (if_neg k316001).symm.trans hf
      refine a_iload_n (pc' := 323) 1 dL_act_322 rfl rfl rfl ?_
      refine a_iconst (pc' := 324) (v := (3 : Int32)) dL_act_323 rfl (by decide) ?_
      obtain ⟨x316003, e316002, hf⟩ := Option.bind_eq_some_iff.mp hf
      refine k_L_45 (pc' := 327) (c_L_at l g F e316002) ⟨Nat.le_of_ble_eq_true rfl, Nat.le_of_ble_eq_true rfl⟩ (Nat.le_of_ble_eq_true rfl) dL_act_324 rfl ?_
      refine a_if_ne (pc' := 330) 352 dL_act_327 (by decide) rfl (fun k316004 => ?_) (fun k316004 => ?_)
      · replace hf := (if_neg k316004).symm.trans hf
        cases hf
        refine a_sub [0, 1, 3, 4, 5] rfl ?_
        exact hX0 _ rfl _ hz hfr
      · replace hf := (if_pos k316004).symm.trans hf
        refine a_iload (pc' := 332) 5 dL_act_330 rfl rfl ?_
        refine a_aload (pc' := 334) 2 dL_act_332 rfl rfl ?_
        refine a_iload (pc' := 336) 6 dL_act_334 rfl rfl ?_
        obtain ⟨hg, hf⟩ := f_grd_x hf
        refine b_iald (pc' := 337) hz.2.2.2.2.2.2.1 hg dL_act_336 rfl ?_
        refine a_iadd (pc' := 338) dL_act_337 rfl ?_
        refine a_istore (pc' := 340) (ls' := [(13, .int (v13_315 + (Y_315.2.2.2.2.2.1 v14_315.toNatClampNeg))), (0, .ref 0), (3, .int a3), (7, .ref 58), (9, .ref 60), (10, .int (((8 : Int32)) + x2)), (14, .int v14_315)]) dL_act_338 (by decide) rfl rfl ?_
        refine a_aload (pc' := 342) 3 dL_act_340 rfl rfl ?_
        refine a_iload (pc' := 344) 6 dL_act_342 rfl rfl ?_
        refine a_iconst (pc' := 345) (v := (0 : Int32)) dL_act_344 rfl (by decide) ?_
        obtain ⟨hg, hf⟩ := f_grd_x hf
        refine b_iast (pc' := 346) hz.2.2.2.2.2.2.1 hg dL_act_345 rfl (fun h316005 hz1 hfr1 => ?_)
        obtain ⟨hz1, hfr1⟩ := d_lw_s3 hz.2.2 hz1 hfr1
        have hz2 := d_al_w hz hz1 hfr1
        obtain ⟨Y316006, hf, hz⟩ := f_let_x (P := fun w => d_al h316005 w) hf hz2
        replace hfr : d_fl h h316005 := Eq.trans hfr1.1 hfr
        refine a_iinc (pc' := 349) (v := v14_315 + (1 : Int32)) (ls' := [(14, .int (v14_315 + (1 : Int32))), (13, .int (v13_315 + (Y_315.2.2.2.2.2.1 v14_315.toNatClampNeg))), (0, .ref 0), (3, .int a3), (7, .ref 58), (9, .ref 60), (10, .int (((8 : Int32)) + x2))]) 6 dL_act_346 rfl (by rfl) (by decide) rfl rfl ?_
        refine a_goto 315 dL_act_349 (by decide) ?_
        refine a_sub [2, 3, 4, 5, 6, 1, 0] rfl ?_
        exact ih _ _ _ _ hf hX0 _ hz hfr
set_option maxHeartbeats 4000000 in
set_option maxRecDepth 100000 in
theorem c_L_act (l : Launch) (g : a_G) (F : Nat) {h : List va_E} {Y : d_A} {a1 : Int32} {a2 : Int32} {a3 : Int32} (hz : d_al h Y) {out : Int32 × d_A} (hf : f_L_act F Y a1 a2 a3 = some out) : a_CT l g yL_act cL_act 17 (some .boolean) (a_rm 7 170) [.ref 0, .int a1, .int a2, .int a3, .ref 55, .ref 56, .ref 57, .ref 58, .ref 59, .ref 60] h none none (fun r h' => r = some (.int out.1) ∧ d_al h' out.2 ∧ d_fl h h') := by
  refine a_enter ⟨by decide, rfl, Nat.le_of_ble_eq_true rfl⟩ (fun p e s m args below meth c hr hin => ?_)
  unfold f_L_act at hf
  have hfr : d_fl h h := rfl
  refine a_sub (ls' := [(0, .ref 0), (1, .int a1), (2, .int a2), (3, .int a3), (4, .ref 55), (5, .ref 56), (6, .ref 57), (7, .ref 58), (8, .ref 59), (9, .ref 60)]) [0, 1, 2, 3, 4, 5, 6, 7, 8, 9] rfl ?_
  refine a_bipush (pc' := 2) (v := (8 : Int32)) dL_act_0 rfl (by decide) ?_
  refine a_iload_n (pc' := 3) 2 dL_act_2 rfl rfl rfl ?_
  refine a_bipush (pc' := 5) (v := (17 : Int32)) dL_act_3 rfl (by decide) ?_
  obtain ⟨x2, e1, hf⟩ := Option.bind_eq_some_iff.mp hf
  refine k_L_45 (pc' := 8) (c_L_at l g F e1) ⟨Nat.le_of_ble_eq_true rfl, Nat.le_of_ble_eq_true rfl⟩ (Nat.le_of_ble_eq_true rfl) dL_act_5 rfl ?_
  refine a_iadd (pc' := 9) dL_act_8 rfl ?_
  refine a_istore (pc' := 11) (ls' := [(10, .int (((8 : Int32)) + x2)), (0, .ref 0), (1, .int a1), (2, .int a2), (3, .int a3), (4, .ref 55), (5, .ref 56), (6, .ref 57), (7, .ref 58), (8, .ref 59), (9, .ref 60)]) dL_act_9 (by decide) rfl rfl ?_
  refine a_aload (pc' := 13) 10 dL_act_11 rfl rfl ?_
  refine a_iconst (pc' := 14) (v := (2 : Int32)) dL_act_13 rfl (by decide) ?_
  obtain ⟨hg, hf⟩ := f_grd_x hf
  refine b_iald (pc' := 15) hz.2.2.2.2.2.2.2 hg dL_act_14 rfl ?_
  refine a_iconst (pc' := 16) (v := (1 : Int32)) dL_act_15 rfl (by decide) ?_
  refine a_isub (pc' := 17) dL_act_16 rfl ?_
  refine a_istore (pc' := 19) (ls' := [(11, .int ((Y.2.2.2.2.2.2 ((2 : Int32)).toNatClampNeg) - ((1 : Int32)))), (10, .int (((8 : Int32)) + x2)), (0, .ref 0), (1, .int a1), (2, .int a2), (3, .int a3), (4, .ref 55), (5, .ref 56), (6, .ref 57), (7, .ref 58), (8, .ref 59), (9, .ref 60)]) dL_act_17 (by decide) rfl rfl ?_
  refine a_aload (pc' := 21) 11 dL_act_19 rfl rfl ?_
  refine a_bipush (pc' := 23) (v := (8 : Int32)) dL_act_21 rfl (by decide) ?_
  obtain ⟨hg, hf⟩ := f_grd_x hf
  refine b_iald (pc' := 24) hz.2.2.2.2.2.2.2 hg dL_act_23 rfl ?_
  refine a_jn (st2 := []) hf 40 (fun j3 ej3 hf => ?_) (fun j3 hf Jj3 => ?_)
  · refine a_istore (pc' := 42) (ls' := [(12, .int j3), (11, .int ((Y.2.2.2.2.2.2 ((2 : Int32)).toNatClampNeg) - ((1 : Int32)))), (10, .int (((8 : Int32)) + x2)), (0, .ref 0), (1, .int a1), (2, .int a2), (3, .int a3), (4, .ref 55), (5, .ref 56), (6, .ref 57), (7, .ref 58), (8, .ref 59), (9, .ref 60)]) dL_act_40 (by decide) rfl rfl ?_
    refine a_iload_n (pc' := 43) 4 dL_act_42 rfl rfl rfl ?_
    refine a_iconst (pc' := 44) (v := (3 : Int32)) dL_act_43 rfl (by decide) ?_
    refine a_icmp_ge (pc' := 47) 97 dL_act_44 (by decide) rfl (fun k6 => ?_) (fun k6 => ?_)
    · replace hf := (if_pos k6).symm.trans hf
      refine a_iload_n (pc' := 98) 4 dL_act_97 rfl rfl rfl ?_
      refine a_iconst (pc' := 99) (v := (3 : Int32)) dL_act_98 rfl (by decide) ?_
      refine a_icmp_ne (pc' := 102) 182 dL_act_99 (by decide) rfl (fun k7 => ?_) (fun k7 => ?_)
      · replace hf := (if_neg k7).symm.trans hf
        refine a_iload_n (pc' := 183) 4 dL_act_182 rfl rfl rfl ?_
        refine a_iconst (pc' := 184) (v := (4 : Int32)) dL_act_183 rfl (by decide) ?_
        refine a_icmp_ne (pc' := 187) 303 dL_act_184 (by decide) rfl (fun k8 => ?_) (fun k8 => ?_)
        · replace hf := (if_neg k8).symm.trans hf
          refine a_iload_n (pc' := 304) 4 dL_act_303 rfl rfl rfl ?_
          refine a_iconst (pc' := 305) (v := (5 : Int32)) dL_act_304 rfl (by decide) ?_
          refine a_icmp_ne (pc' := 308) 392 dL_act_305 (by decide) rfl (fun k9 => ?_) (fun k9 => ?_)
          · replace hf := (if_neg k9).symm.trans hf
            refine a_iload_n (pc' := 393) 4 dL_act_392 rfl rfl rfl ?_
            refine a_bipush (pc' := 395) (v := (6 : Int32)) dL_act_393 rfl (by decide) ?_
            refine a_icmp_ne (pc' := 398) 452 dL_act_395 (by decide) rfl (fun k10 => ?_) (fun k10 => ?_)
            · replace hf := (if_neg k10).symm.trans hf
              refine a_iload_n (pc' := 453) 4 dL_act_452 rfl rfl rfl ?_
              refine a_bipush (pc' := 455) (v := (7 : Int32)) dL_act_453 rfl (by decide) ?_
              refine a_icmp_ne (pc' := 458) 542 dL_act_455 (by decide) rfl (fun k11 => ?_) (fun k11 => ?_)
              · replace hf := (if_neg k11).symm.trans hf
                refine a_iload_n (pc' := 543) 4 dL_act_542 rfl rfl rfl ?_
                refine a_bipush (pc' := 545) (v := (10 : Int32)) dL_act_543 rfl (by decide) ?_
                refine a_icmp_ge (pc' := 548) 603 dL_act_545 (by decide) rfl (fun k12 => ?_) (fun k12 => ?_)
                · replace hf := (if_pos k12).symm.trans hf
                  refine a_iload_n (pc' := 604) 4 dL_act_603 rfl rfl rfl ?_
                  refine a_bipush (pc' := 606) (v := (13 : Int32)) dL_act_604 rfl (by decide) ?_
                  refine a_icmp_ge (pc' := 609) 719 dL_act_606 (by decide) rfl (fun k13 => ?_) (fun k13 => ?_)
                  · replace hf := (if_pos k13).symm.trans hf
                    refine a_iload_n (pc' := 720) 4 dL_act_719 rfl rfl rfl ?_
                    refine a_bipush (pc' := 722) (v := (15 : Int32)) dL_act_720 rfl (by decide) ?_
                    refine a_icmp_ge (pc' := 725) 742 dL_act_722 (by decide) rfl (fun k14 => ?_) (fun k14 => ?_)
                    · replace hf := (if_pos k14).symm.trans hf
                      refine a_iload (pc' := 744) 0 dL_act_742 rfl rfl ?_
                      refine a_if_eq (pc' := 747) 752 dL_act_744 (by decide) rfl (fun k15 => ?_) (fun k15 => ?_)
                      · replace hf := (if_pos k15).symm.trans hf
                        refine a_iconst (pc' := 753) (v := (1 : Int32)) dL_act_752 rfl (by decide) ?_
                        cases hf
                        exact a_zret hr rfl ⟨rfl, hz, hfr⟩ dL_act_753
                      · replace hf := (if_neg k15).symm.trans hf
                        refine a_iload (pc' := 749) 1 dL_act_747 rfl rfl ?_
                        refine a_if_ge (pc' := 752) 754 dL_act_749 (by decide) rfl (fun k16 => ?_) (fun k16 => ?_)
                        · replace hf := (if_pos k16).symm.trans hf
                          refine a_iload_n (pc' := 755) 4 dL_act_754 rfl rfl rfl ?_
                          refine a_bipush (pc' := 757) (v := (18 : Int32)) dL_act_755 rfl (by decide) ?_
                          refine a_icmp_ge (pc' := 760) 926 dL_act_757 (by decide) rfl (fun k17 => ?_) (fun k17 => ?_)
                          · replace hf := (if_pos k17).symm.trans hf
                            refine a_iload_n (pc' := 927) 5 dL_act_926 rfl rfl rfl ?_
                            refine a_aload (pc' := 929) 12 dL_act_927 rfl rfl ?_
                            refine a_iconst (pc' := 930) (v := (2 : Int32)) dL_act_929 rfl (by decide) ?_
                            obtain ⟨hg, hf⟩ := f_grd_x hf
                            refine b_iald (pc' := 931) hz.2.2.2.2.2.2.2 hg dL_act_930 rfl ?_
                            obtain ⟨x19, e18, hf⟩ := Option.bind_eq_some_iff.mp hf
                            refine k_L_45 (pc' := 934) (c_L_at l g F e18) ⟨Nat.le_of_ble_eq_true rfl, Nat.le_of_ble_eq_true rfl⟩ (Nat.le_of_ble_eq_true rfl) dL_act_931 rfl ?_
                            refine a_istore (pc' := 936) (ls' := [(13, .int x19), (12, .int j3), (11, .int ((Y.2.2.2.2.2.2 ((2 : Int32)).toNatClampNeg) - ((1 : Int32)))), (10, .int (((8 : Int32)) + x2)), (0, .ref 0), (1, .int a1), (2, .int a2), (3, .int a3), (4, .ref 55), (5, .ref 56), (6, .ref 57), (7, .ref 58), (8, .ref 59), (9, .ref 60)]) dL_act_934 (by decide) rfl rfl ?_
                            refine a_iload (pc' := 938) 0 dL_act_936 rfl rfl ?_
                            refine a_aload (pc' := 940) 9 dL_act_938 rfl rfl ?_
                            refine a_aload (pc' := 942) 13 dL_act_940 rfl rfl ?_
                            obtain ⟨x21, e20, hf⟩ := Option.bind_eq_some_iff.mp hf
                            refine k_L_38 (pc' := 945) (c_L_gap l g F hz.2.2 e20) ⟨Nat.le_of_ble_eq_true rfl, Nat.le_of_ble_eq_true rfl⟩ (Nat.le_of_ble_eq_true rfl) dL_act_942 rfl ?_
                            refine a_istore (pc' := 947) (ls' := [(14, .int x21), (13, .int x19), (12, .int j3), (11, .int ((Y.2.2.2.2.2.2 ((2 : Int32)).toNatClampNeg) - ((1 : Int32)))), (10, .int (((8 : Int32)) + x2)), (0, .ref 0), (1, .int a1), (2, .int a2), (3, .int a3), (4, .ref 55), (5, .ref 56), (6, .ref 57), (7, .ref 58), (8, .ref 59), (9, .ref 60)]) dL_act_945 (by decide) rfl rfl ?_
                            refine a_iload (pc' := 949) 0 dL_act_947 rfl rfl ?_
                            refine a_if_lt (pc' := 952) 972 dL_act_949 (by decide) rfl (fun k22 => ?_) (fun k22 => ?_)
                            · replace hf := (if_pos k22).symm.trans hf
                              refine a_iconst (pc' := 973) (v := (1 : Int32)) dL_act_972 rfl (by decide) ?_
                              cases hf
                              exact a_zret hr rfl ⟨rfl, hz, hfr⟩ dL_act_973
                            · replace hf := (if_neg k22).symm.trans hf
                              refine a_aload (pc' := 954) 11 dL_act_952 rfl rfl ?_
                              refine a_aload (pc' := 956) 9 dL_act_954 rfl rfl ?_
                              refine a_iload (pc' := 958) 1 dL_act_956 rfl rfl ?_
                              obtain ⟨hg, hf⟩ := f_grd_x hf
                              refine b_iald (pc' := 959) hz.2.2.2.1 hg dL_act_958 rfl ?_
                              obtain ⟨hg, hf⟩ := f_grd_x hf
                              refine b_iald (pc' := 960) hz.2.2.2.2.2.1 hg dL_act_959 rfl ?_
                              refine a_if_eq (pc' := 963) 972 dL_act_960 (by decide) rfl (fun k23 => ?_) (fun k23 => ?_)
                              · replace hf := (if_pos k23).symm.trans hf
                                refine a_iconst (pc' := 973) (v := (1 : Int32)) dL_act_972 rfl (by decide) ?_
                                cases hf
                                exact a_zret hr rfl ⟨rfl, hz, hfr⟩ dL_act_973
                              · replace hf := (if_neg k23).symm.trans hf
                                refine a_aload (pc' := 965) 14 dL_act_963 rfl rfl ?_
                                refine a_bipush (pc' := 967) (v := (7 : Int32)) dL_act_965 rfl (by decide) ?_
                                obtain ⟨hg, hf⟩ := f_grd_x hf
                                refine b_iald (pc' := 968) hz.2.2.2.2.2.2.2 hg dL_act_967 rfl ?_
                                refine a_iconst (pc' := 969) (v := (3 : Int32)) dL_act_968 rfl (by decide) ?_
                                refine a_icmp_ge (pc' := 972) 974 dL_act_969 (by decide) rfl (fun k24 => ?_) (fun k24 => ?_)
                                · replace hf := (if_pos k24).symm.trans hf
                                  refine a_aload (pc' := 976) 10 dL_act_974 rfl rfl ?_
                                  refine a_iload (pc' := 978) 1 dL_act_976 rfl rfl ?_
                                  refine a_dup2 (pc' := 979) dL_act_978 rfl rfl rfl ?_
                                  obtain ⟨hg, hf⟩ := f_grd_x hf
                                  refine b_iald (pc' := 980) hz.2.2.2.2.1 hg dL_act_979 rfl ?_
                                  refine a_iconst (pc' := 981) (v := (1 : Int32)) dL_act_980 rfl (by decide) ?_
                                  refine a_iload (pc' := 983) 0 dL_act_981 rfl rfl ?_
                                  refine a_ishl (pc' := 984) dL_act_983 rfl ?_
                                  refine a_ior (pc' := 985) dL_act_984 rfl ?_
                                  obtain ⟨hg, hf⟩ := f_grd_x hf
                                  refine b_iast (pc' := 986) hz.2.2.2.2.1 hg dL_act_985 rfl (fun h25 hz1 hfr1 => ?_)
                                  obtain ⟨hz1, hfr1⟩ := d_lw_s1 hz.2.2 hz1 hfr1
                                  have hz2 := d_al_w hz hz1 hfr1
                                  obtain ⟨Y26, hf, hz⟩ := f_let_x (P := fun w => d_al h25 w) hf hz2
                                  replace hfr : d_fl h h25 := Eq.trans hfr1.1 hfr
                                  refine a_aload (pc' := 988) 11 dL_act_986 rfl rfl ?_
                                  refine a_aload (pc' := 990) 9 dL_act_988 rfl rfl ?_
                                  refine a_iload (pc' := 992) 1 dL_act_990 rfl rfl ?_
                                  obtain ⟨hg, hf⟩ := f_grd_x hf
                                  refine b_iald (pc' := 993) hz.2.2.2.1 hg dL_act_992 rfl ?_
                                  refine a_dup2 (pc' := 994) dL_act_993 rfl rfl rfl ?_
                                  obtain ⟨hg, hf⟩ := f_grd_x hf
                                  refine b_iald (pc' := 995) hz.2.2.2.2.2.1 hg dL_act_994 rfl ?_
                                  refine a_iconst (pc' := 996) (v := (1 : Int32)) dL_act_995 rfl (by decide) ?_
                                  refine a_isub (pc' := 997) dL_act_996 rfl ?_
                                  obtain ⟨hg, hf⟩ := f_grd_x hf
                                  refine b_iast (pc' := 998) hz.2.2.2.2.2.1 hg dL_act_997 rfl (fun h27 hz1 hfr1 => ?_)
                                  obtain ⟨hz1, hfr1⟩ := d_lw_s2 hz.2.2 hz1 hfr1
                                  have hz2 := d_al_w hz hz1 hfr1
                                  obtain ⟨Y28, hf, hz⟩ := f_let_x (P := fun w => d_al h27 w) hf hz2
                                  replace hfr : d_fl h h27 := Eq.trans hfr1.1 hfr
                                  refine a_aload (pc' := 1000) 14 dL_act_998 rfl rfl ?_
                                  refine a_bipush (pc' := 1002) (v := (7 : Int32)) dL_act_1000 rfl (by decide) ?_
                                  refine a_dup2 (pc' := 1003) dL_act_1002 rfl rfl rfl ?_
                                  obtain ⟨hg, hf⟩ := f_grd_x hf
                                  refine b_iald (pc' := 1004) hz.2.2.2.2.2.2.2 hg dL_act_1003 rfl ?_
                                  refine a_iconst (pc' := 1005) (v := (3 : Int32)) dL_act_1004 rfl (by decide) ?_
                                  refine a_isub (pc' := 1006) dL_act_1005 rfl ?_
                                  obtain ⟨hg, hf⟩ := f_grd_x hf
                                  refine b_iast (pc' := 1007) hz.2.2.2.2.2.2.2 hg dL_act_1006 rfl (fun h29 hz1 hfr1 => ?_)
                                  obtain ⟨hz1, hfr1⟩ := d_lw_s4 hz.2.2 hz1 hfr1
                                  have hz2 := d_al_w hz hz1 hfr1
                                  obtain ⟨Y30, hf, hz⟩ := f_let_x (P := fun w => d_al h29 w) hf hz2
                                  replace hfr : d_fl h h29 := Eq.trans hfr1.1 hfr
                                  refine a_aload_n (pc' := 1008) 5 dL_act_1007 rfl rfl rfl ?_
                                  refine a_iload (pc' := 1010) 1 dL_act_1008 rfl rfl ?_
                                  refine a_iload (pc' := 1012) 0 dL_act_1010 rfl rfl ?_
                                  obtain ⟨x32, e31, hf⟩ := f_nx hf
                                  refine k_L_155 (pc' := 1015) (c_X3_mend l g F hz.1 e31) ⟨Nat.le_of_ble_eq_true rfl, Nat.le_of_ble_eq_true rfl⟩ hz.1.1 (Nat.le_of_ble_eq_true rfl) dL_act_1012 rfl (fun h33 hq => ?_)
                                  obtain ⟨hz1, hfr1⟩ := hq
                                  have hz2 := d_al_c hz hz1 hfr1
                                  obtain ⟨Y34, hf, hz⟩ := f_let_x (P := fun w => d_al h33 w) hf hz2
                                  replace hfr : d_fl h h33 := Eq.trans hfr1.1 hfr
                                  refine a_aload (pc' := 1017) 14 dL_act_1015 rfl rfl ?_
                                  refine a_bipush (pc' := 1019) (v := (7 : Int32)) dL_act_1017 rfl (by decide) ?_
                                  obtain ⟨hg, hf⟩ := f_grd_x hf
                                  refine b_iald (pc' := 1020) hz.2.2.2.2.2.2.2 hg dL_act_1019 rfl ?_
                                  refine a_icmp_ne (pc' := 1023) 1027 dL_act_1020 (by decide) rfl (fun k35 => ?_) (fun k35 => ?_)
                                  · replace hf := (if_neg k35).symm.trans hf
                                    refine a_iconst (pc' := 1028) (v := (0 : Int32)) dL_act_1027 rfl (by decide) ?_
                                    cases hf
                                  · replace hf := (if_pos k35).symm.trans hf
                                    refine a_iconst (pc' := 1024) (v := (1 : Int32)) dL_act_1023 rfl (by decide) ?_
                                    refine a_goto 1028 dL_act_1024 (by decide) ?_
                                    cases hf
                                    exact a_zret hr rfl ⟨rfl, hz, hfr⟩ dL_act_1028
                                · replace hf := (if_neg k24).symm.trans hf
                                  refine a_iconst (pc' := 973) (v := (1 : Int32)) dL_act_972 rfl (by decide) ?_
                                  cases hf
                                  exact a_zret hr rfl ⟨rfl, hz, hfr⟩ dL_act_973
                          · replace hf := (if_neg k17).symm.trans hf
                            refine a_iload (pc' := 762) 1 dL_act_760 rfl rfl ?_
                            refine a_aload (pc' := 764) 12 dL_act_762 rfl rfl ?_
                            obtain ⟨x37, e36, hf⟩ := Option.bind_eq_some_iff.mp hf
                            refine k_L_8 (pc' := 767) (c_L_places l g F hz.2.2 e36) ⟨Nat.le_of_ble_eq_true rfl, Nat.le_of_ble_eq_true rfl⟩ (Nat.le_of_ble_eq_true rfl) dL_act_764 rfl ?_
                            refine a_aload (pc' := 769) 8 dL_act_767 rfl rfl ?_
                            refine a_iload (pc' := 771) 1 dL_act_769 rfl rfl ?_
                            obtain ⟨hg, hf⟩ := f_grd_x hf
                            refine b_iald (pc' := 772) hz.2.2.2.2.1 hg dL_act_771 rfl ?_
                            obtain ⟨x39, e38, hf⟩ := Option.bind_eq_some_iff.mp hf
                            refine k_L_15 (pc' := 775) (c_L_ones l g F e38) ⟨Nat.le_of_ble_eq_true rfl, Nat.le_of_ble_eq_true rfl⟩ (Nat.le_of_ble_eq_true rfl) dL_act_772 rfl ?_
                            refine a_isub (pc' := 776) dL_act_775 rfl ?_
                            refine a_istore (pc' := 778) (ls' := [(13, .int (x37 - x39)), (12, .int j3), (11, .int ((Y.2.2.2.2.2.2 ((2 : Int32)).toNatClampNeg) - ((1 : Int32)))), (10, .int (((8 : Int32)) + x2)), (0, .ref 0), (1, .int a1), (2, .int a2), (3, .int a3), (4, .ref 55), (5, .ref 56), (6, .ref 57), (7, .ref 58), (8, .ref 59), (9, .ref 60)]) dL_act_776 (by decide) rfl rfl ?_
                            refine a_iload (pc' := 780) 0 dL_act_778 rfl rfl ?_
                            refine a_aload (pc' := 782) 10 dL_act_780 rfl rfl ?_
                            refine a_aload (pc' := 784) 8 dL_act_782 rfl rfl ?_
                            refine a_iload (pc' := 786) 2 dL_act_784 rfl rfl ?_
                            obtain ⟨hg, hf⟩ := f_grd_x hf
                            refine b_iald (pc' := 787) hz.2.2.2.1 hg dL_act_786 rfl ?_
                            obtain ⟨hg, hf⟩ := f_grd_x hf
                            refine b_iald (pc' := 788) hz.2.2.2.2.2.1 hg dL_act_787 rfl ?_
                            refine a_jn (st2 := []) hf 804 (fun j40 ej40 hf => ?_) (fun j40 hf Jj40 => ?_)
                            · refine a_istore (pc' := 806) (ls' := [(14, .int j40), (13, .int (x37 - x39)), (12, .int j3), (11, .int ((Y.2.2.2.2.2.2 ((2 : Int32)).toNatClampNeg) - ((1 : Int32)))), (10, .int (((8 : Int32)) + x2)), (0, .ref 0), (1, .int a1), (2, .int a2), (3, .int a3), (4, .ref 55), (5, .ref 56), (6, .ref 57), (7, .ref 58), (8, .ref 59), (9, .ref 60)]) dL_act_804 (by decide) rfl rfl ?_
                              refine a_iload (pc' := 808) 0 dL_act_806 rfl rfl ?_
                              refine a_aload (pc' := 810) 14 dL_act_808 rfl rfl ?_
                              refine a_bipush (pc' := 812) (v := (7 : Int32)) dL_act_810 rfl (by decide) ?_
                              obtain ⟨hg, hf⟩ := f_grd_x hf
                              refine b_iald (pc' := 813) hz.2.2.2.2.2.2.2 hg dL_act_812 rfl ?_
                              refine a_jn (st2 := []) hf 826 (fun j42 ej42 hf => ?_) (fun j42 hf Jj42 => ?_)
                              · refine a_istore (pc' := 828) (ls' := [(14, .int j42), (13, .int (x37 - x39)), (12, .int j3), (11, .int ((Y.2.2.2.2.2.2 ((2 : Int32)).toNatClampNeg) - ((1 : Int32)))), (10, .int (((8 : Int32)) + x2)), (0, .ref 0), (1, .int a1), (2, .int a2), (3, .int a3), (4, .ref 55), (5, .ref 56), (6, .ref 57), (7, .ref 58), (8, .ref 59), (9, .ref 60)]) dL_act_826 (by decide) rfl rfl ?_
                                refine a_iload (pc' := 830) 0 dL_act_828 rfl rfl ?_
                                refine a_if_ne (pc' := 833) 835 dL_act_830 (by decide) rfl (fun k44 => ?_) (fun k44 => ?_)
                                · replace hf := (if_neg k44).symm.trans hf
                                  refine a_iconst (pc' := 836) (v := (1 : Int32)) dL_act_835 rfl (by decide) ?_
                                  refine a_iload_n (pc' := 837) 8 dL_act_836 rfl rfl rfl ?_
                                  refine a_iload (pc' := 839) 0 dL_act_837 rfl rfl ?_
                                  obtain ⟨x46, e45, hf⟩ := Option.bind_eq_some_iff.mp hf
                                  refine k_L_45 (pc' := 842) (c_L_at l g F e45) ⟨Nat.le_of_ble_eq_true rfl, Nat.le_of_ble_eq_true rfl⟩ (Nat.le_of_ble_eq_true rfl) dL_act_839 rfl ?_
                                  refine a_iadd (pc' := 843) dL_act_842 rfl ?_
                                  refine a_istore (pc' := 845) (ls' := [(15, .int (((1 : Int32)) + x46)), (14, .int j42), (13, .int (x37 - x39)), (12, .int j3), (11, .int ((Y.2.2.2.2.2.2 ((2 : Int32)).toNatClampNeg) - ((1 : Int32)))), (10, .int (((8 : Int32)) + x2)), (0, .ref 0), (1, .int a1), (2, .int a2), (3, .int a3), (4, .ref 55), (5, .ref 56), (6, .ref 57), (7, .ref 58), (8, .ref 59), (9, .ref 60)]) dL_act_843 (by decide) rfl rfl ?_
                                  refine a_iconst (pc' := 846) (v := (0 : Int32)) dL_act_845 rfl (by decide) ?_
                                  refine a_istore (pc' := 848) (ls' := [(16, .int ((0 : Int32))), (15, .int (((1 : Int32)) + x46)), (14, .int j42), (13, .int (x37 - x39)), (12, .int j3), (11, .int ((Y.2.2.2.2.2.2 ((2 : Int32)).toNatClampNeg) - ((1 : Int32)))), (10, .int (((8 : Int32)) + x2)), (0, .ref 0), (1, .int a1), (2, .int a2), (3, .int a3), (4, .ref 55), (5, .ref 56), (6, .ref 57), (7, .ref 58), (8, .ref 59), (9, .ref 60)]) dL_act_846 (by decide) rfl rfl ?_
                                  obtain ⟨o47, e48, hf⟩ := Option.bind_eq_some_iff.mp hf
                                  refine a_sub [7, 11, 12, 13, 16, 5, 1, 0] rfl ?_
                                  refine l_L_act_L848 F Y x46  F _ _ o47 e48 (fun e9 he9 h49 hz hfr => ?_) _ hz hfr
                                  subst he9
                                  refine a_aload (pc' := 882) 3 dL_act_880 rfl rfl ?_
                                  refine a_aload (pc' := 884) 1 dL_act_882 rfl rfl ?_
                                  refine a_iload (pc' := 886) 5 dL_act_884 rfl rfl ?_
                                  obtain ⟨hg, hf⟩ := f_grd_x hf
                                  refine b_iald (pc' := 887) hz.2.2.2.1 hg dL_act_886 rfl ?_
                                  refine a_dup2 (pc' := 888) dL_act_887 rfl rfl rfl ?_
                                  obtain ⟨hg, hf⟩ := f_grd_x hf
                                  refine b_iald (pc' := 889) hz.2.2.2.2.2.1 hg dL_act_888 rfl ?_
                                  refine a_iload (pc' := 891) 6 dL_act_889 rfl rfl ?_
                                  refine a_isub (pc' := 892) dL_act_891 rfl ?_
                                  obtain ⟨hg, hf⟩ := f_grd_x hf
                                  refine b_iast (pc' := 893) hz.2.2.2.2.2.1 hg dL_act_892 rfl (fun h50 hz1 hfr1 => ?_)
                                  obtain ⟨hz1, hfr1⟩ := d_lw_s2 hz.2.2 hz1 hfr1
                                  have hz2 := d_al_w hz hz1 hfr1
                                  obtain ⟨Y51, hf, hz⟩ := f_let_x (P := fun w => d_al h50 w) hf hz2
                                  replace hfr : d_fl h h50 := Eq.trans hfr1.1 hfr
                                  refine a_aload (pc' := 895) 4 dL_act_893 rfl rfl ?_
                                  refine a_bipush (pc' := 897) (v := (7 : Int32)) dL_act_895 rfl (by decide) ?_
                                  refine a_dup2 (pc' := 898) dL_act_897 rfl rfl rfl ?_
                                  obtain ⟨hg, hf⟩ := f_grd_x hf
                                  refine b_iald (pc' := 899) hz.2.2.2.2.2.2.2 hg dL_act_898 rfl ?_
                                  refine a_iload (pc' := 901) 6 dL_act_899 rfl rfl ?_
                                  refine a_isub (pc' := 902) dL_act_901 rfl ?_
                                  obtain ⟨hg, hf⟩ := f_grd_x hf
                                  refine b_iast (pc' := 903) hz.2.2.2.2.2.2.2 hg dL_act_902 rfl (fun h52 hz1 hfr1 => ?_)
                                  obtain ⟨hz1, hfr1⟩ := d_lw_s4 hz.2.2 hz1 hfr1
                                  have hz2 := d_al_w hz hz1 hfr1
                                  obtain ⟨Y53, hf, hz⟩ := f_let_x (P := fun w => d_al h52 w) hf hz2
                                  replace hfr : d_fl h h52 := Eq.trans hfr1.1 hfr
                                  refine a_aload_n (pc' := 904) 0 dL_act_903 rfl rfl rfl ?_
                                  refine a_iload (pc' := 906) 6 dL_act_904 rfl rfl ?_
                                  obtain ⟨x55, e54, hf⟩ := f_nx hf
                                  refine k_L_152 (pc' := 909) (c_X3_lay l g F hz.1 e54) ⟨Nat.le_of_ble_eq_true rfl, Nat.le_of_ble_eq_true rfl⟩ hz.1.1 (Nat.le_of_ble_eq_true rfl) dL_act_906 rfl (fun h56 hq => ?_)
                                  obtain ⟨hz1, hfr1⟩ := hq
                                  have hz2 := d_al_c hz hz1 hfr1
                                  obtain ⟨Y57, hf, hz⟩ := f_let_x (P := fun w => d_al h56 w) hf hz2
                                  replace hfr : d_fl h h56 := Eq.trans hfr1.1 hfr
                                  refine a_aload (pc' := 911) 2 dL_act_909 rfl rfl ?_
                                  refine a_iload (pc' := 913) 5 dL_act_911 rfl rfl ?_
                                  obtain ⟨hg, hf⟩ := f_grd_x hf
                                  refine b_iald (pc' := 914) hz.2.2.2.2.1 hg dL_act_913 rfl ?_
                                  obtain ⟨x59, e58, hf⟩ := Option.bind_eq_some_iff.mp hf
                                  refine k_L_15 (pc' := 917) (c_L_ones l g F e58) ⟨Nat.le_of_ble_eq_true rfl, Nat.le_of_ble_eq_true rfl⟩ (Nat.le_of_ble_eq_true rfl) dL_act_914 rfl ?_
                                  refine a_icmp_ne (pc' := 920) 924 dL_act_917 (by decide) rfl (fun k60 => ?_) (fun k60 => ?_)
                                  · replace hf := (if_neg k60).symm.trans hf
                                    refine a_iconst (pc' := 925) (v := (0 : Int32)) dL_act_924 rfl (by decide) ?_
                                    cases hf
                                  · replace hf := (if_pos k60).symm.trans hf
                                    refine a_iconst (pc' := 921) (v := (1 : Int32)) dL_act_920 rfl (by decide) ?_
                                    refine a_goto 925 dL_act_921 (by decide) ?_
                                    cases hf
                                    exact a_zret hr rfl ⟨rfl, hz, hfr⟩ dL_act_925
                                · replace hf := (if_pos k44).symm.trans hf
                                  refine a_iconst (pc' := 834) (v := (1 : Int32)) dL_act_833 rfl (by decide) ?_
                                  cases hf
                                  exact a_zret hr rfl ⟨rfl, hz, hfr⟩ dL_act_834
                              · refine a_icmp_ge (pc' := 816) 821 dL_act_813 (by decide) rfl (fun k43 => ?_) (fun k43 => ?_)
                                · replace hf := (if_pos k43).symm.trans hf
                                  refine a_aload (pc' := 823) 14 dL_act_821 rfl rfl ?_
                                  refine a_bipush (pc' := 825) (v := (7 : Int32)) dL_act_823 rfl (by decide) ?_
                                  obtain ⟨hg, hf⟩ := f_grd_x hf
                                  refine b_iald (pc' := 826) hz.2.2.2.2.2.2.2 hg dL_act_825 rfl ?_
                                  cases hf
                                  exact Jj42
                                · replace hf := (if_neg k43).symm.trans hf
                                  refine a_iload (pc' := 818) 0 dL_act_816 rfl rfl ?_
                                  refine a_goto 826 dL_act_818 (by decide) ?_
                                  cases hf
                                  exact Jj42
                            · refine a_icmp_ge (pc' := 791) 796 dL_act_788 (by decide) rfl (fun k41 => ?_) (fun k41 => ?_)
                              · replace hf := (if_pos k41).symm.trans hf
                                refine a_aload (pc' := 798) 10 dL_act_796 rfl rfl ?_
                                refine a_aload (pc' := 800) 8 dL_act_798 rfl rfl ?_
                                refine a_iload (pc' := 802) 2 dL_act_800 rfl rfl ?_
                                obtain ⟨hg, hf⟩ := f_grd_x hf
                                refine b_iald (pc' := 803) hz.2.2.2.1 hg dL_act_802 rfl ?_
                                obtain ⟨hg, hf⟩ := f_grd_x hf
                                refine b_iald (pc' := 804) hz.2.2.2.2.2.1 hg dL_act_803 rfl ?_
                                cases hf
                                exact Jj40
                              · replace hf := (if_neg k41).symm.trans hf
                                refine a_iload (pc' := 793) 0 dL_act_791 rfl rfl ?_
                                refine a_goto 804 dL_act_793 (by decide) ?_
                                cases hf
                                exact Jj40
                        · replace hf := (if_neg k16).symm.trans hf
                          refine a_iconst (pc' := 753) (v := (1 : Int32)) dL_act_752 rfl (by decide) ?_
                          cases hf
                          exact a_zret hr rfl ⟨rfl, hz, hfr⟩ dL_act_753
                    · replace hf := (if_neg k14).symm.trans hf
                      refine a_aload_n (pc' := 726) 3 dL_act_725 rfl rfl rfl ?_
                      refine a_iload_n (pc' := 727) 5 dL_act_726 rfl rfl rfl ?_
                      refine a_iload_n (pc' := 728) 6 dL_act_727 rfl rfl rfl ?_
                      refine a_aload (pc' := 730) 7 dL_act_728 rfl rfl ?_
                      refine a_aload (pc' := 732) 8 dL_act_730 rfl rfl ?_
                      refine a_aload (pc' := 734) 9 dL_act_732 rfl rfl ?_
                      refine a_aload (pc' := 736) 10 dL_act_734 rfl rfl ?_
                      refine a_aload (pc' := 738) 12 dL_act_736 rfl rfl ?_
                      obtain ⟨x62, e61, hf⟩ := Option.bind_eq_some_iff.mp hf
                      refine k_L_148 (pc' := 741) (c_L_works l g F hz e61) ⟨Nat.le_of_ble_eq_true rfl, Nat.le_of_ble_eq_true rfl⟩ (Nat.le_of_ble_eq_true rfl) dL_act_738 rfl (fun h63 hq => ?_)
                      obtain ⟨hz1, hfr1⟩ := hq
                      obtain ⟨Y64, hf, hz⟩ := f_let_x (P := fun w => d_al h63 w) hf hz1
                      replace hfr : d_fl h h63 := Eq.trans hfr1 hfr
                      obtain ⟨hg, hf⟩ := f_if_x hf
                      cases hf
                      exact a_zret hr (b_bool hg) ⟨rfl, hz, hfr⟩ dL_act_741
                  · replace hf := (if_neg k13).symm.trans hf
                    refine a_aload (pc' := 611) 7 dL_act_609 rfl rfl ?_
                    refine a_aload (pc' := 613) 12 dL_act_611 rfl rfl ?_
                    obtain ⟨x66, e65, hf⟩ := Option.bind_eq_some_iff.mp hf
                    refine k_L_34 (pc' := 616) (c_L_longest l g F hz.2.2 e65) ⟨Nat.le_of_ble_eq_true rfl, Nat.le_of_ble_eq_true rfl⟩ (Nat.le_of_ble_eq_true rfl) dL_act_613 rfl ?_
                    refine a_iload_n (pc' := 617) 5 dL_act_616 rfl rfl rfl ?_
                    refine a_aload (pc' := 619) 7 dL_act_617 rfl rfl ?_
                    refine a_aload (pc' := 621) 12 dL_act_619 rfl rfl ?_
                    obtain ⟨x68, e67, hf⟩ := Option.bind_eq_some_iff.mp hf
                    refine k_L_34 (pc' := 624) (c_L_longest l g F hz.2.2 e67) ⟨Nat.le_of_ble_eq_true rfl, Nat.le_of_ble_eq_true rfl⟩ (Nat.le_of_ble_eq_true rfl) dL_act_621 rfl ?_
                    refine a_bipush (pc' := 626) (v := (7 : Int32)) dL_act_624 rfl (by decide) ?_
                    refine a_isub (pc' := 627) dL_act_626 rfl ?_
                    obtain ⟨x70, e69, hf⟩ := Option.bind_eq_some_iff.mp hf
                    refine k_L_45 (pc' := 630) (c_L_at l g F e69) ⟨Nat.le_of_ble_eq_true rfl, Nat.le_of_ble_eq_true rfl⟩ (Nat.le_of_ble_eq_true rfl) dL_act_627 rfl ?_
                    refine a_isub (pc' := 631) dL_act_630 rfl ?_
                    refine a_istore (pc' := 633) (ls' := [(13, .int (x66 - x70)), (12, .int j3), (11, .int ((Y.2.2.2.2.2.2 ((2 : Int32)).toNatClampNeg) - ((1 : Int32)))), (10, .int (((8 : Int32)) + x2)), (0, .ref 0), (1, .int a1), (2, .int a2), (3, .int a3), (4, .ref 55), (5, .ref 56), (6, .ref 57), (7, .ref 58), (8, .ref 59), (9, .ref 60)]) dL_act_631 (by decide) rfl rfl ?_
                    refine a_iload (pc' := 635) 1 dL_act_633 rfl rfl ?_
                    refine a_if_eq (pc' := 638) 673 dL_act_635 (by decide) rfl (fun k71 => ?_) (fun k71 => ?_)
                    · replace hf := (if_pos k71).symm.trans hf
                      refine a_iconst (pc' := 674) (v := (1 : Int32)) dL_act_673 rfl (by decide) ?_
                      cases hf
                      exact a_zret hr rfl ⟨rfl, hz, hfr⟩ dL_act_674
                    · replace hf := (if_neg k71).symm.trans hf
                      refine a_iload (pc' := 640) 2 dL_act_638 rfl rfl ?_
                      refine a_if_lt (pc' := 643) 655 dL_act_640 (by decide) rfl (fun k72 => ?_) (fun k72 => ?_)
                      · replace hf := (if_pos k72).symm.trans hf
                        refine a_aload (pc' := 657) 13 dL_act_655 rfl rfl ?_
                        refine a_iconst (pc' := 658) (v := (2 : Int32)) dL_act_657 rfl (by decide) ?_
                        obtain ⟨hg, hf⟩ := f_grd_x hf
                        refine b_iald (pc' := 659) hz.2.2.2.2.2.2.2 hg dL_act_658 rfl ?_
                        refine a_aload (pc' := 661) 8 dL_act_659 rfl rfl ?_
                        refine a_aload (pc' := 663) 13 dL_act_661 rfl rfl ?_
                        obtain ⟨x74, e73, hf⟩ := Option.bind_eq_some_iff.mp hf
                        refine k_L_19 (pc' := 666) (c_L_top l g F hz.2.2 e73) ⟨Nat.le_of_ble_eq_true rfl, Nat.le_of_ble_eq_true rfl⟩ (Nat.le_of_ble_eq_true rfl) dL_act_663 rfl ?_
                        refine a_aload (pc' := 668) 13 dL_act_666 rfl rfl ?_
                        refine a_iconst (pc' := 669) (v := (0 : Int32)) dL_act_668 rfl (by decide) ?_
                        obtain ⟨hg, hf⟩ := f_grd_x hf
                        refine b_iald (pc' := 670) hz.2.2.2.2.2.2.2 hg dL_act_669 rfl ?_
                        refine a_icmp_lt (pc' := 673) 675 dL_act_670 (by decide) rfl (fun k75 => ?_) (fun k75 => ?_)
                        · replace hf := (if_pos k75).symm.trans hf
                          refine a_aload (pc' := 677) 8 dL_act_675 rfl rfl ?_
                          refine a_aload (pc' := 679) 13 dL_act_677 rfl rfl ?_
                          refine a_iconst (pc' := 680) (v := (2 : Int32)) dL_act_679 rfl (by decide) ?_
                          obtain ⟨hg, hf⟩ := f_grd_x hf
                          refine b_iald (pc' := 681) hz.2.2.2.2.2.2.2 hg dL_act_680 rfl ?_
                          refine a_iload (pc' := 683) 0 dL_act_681 rfl rfl ?_
                          obtain ⟨hg, hf⟩ := f_grd_x hf
                          refine b_iast (pc' := 684) hz.2.2.2.1 hg dL_act_683 rfl (fun h76 hz1 hfr1 => ?_)
                          obtain ⟨hz1, hfr1⟩ := d_lw_s0 hz.2.2 hz1 hfr1
                          have hz2 := d_al_w hz hz1 hfr1
                          obtain ⟨Y77, hf, hz⟩ := f_let_x (P := fun w => d_al h76 w) hf hz2
                          replace hfr : d_fl h h76 := Eq.trans hfr1.1 hfr
                          refine a_aload (pc' := 686) 9 dL_act_684 rfl rfl ?_
                          refine a_aload (pc' := 688) 13 dL_act_686 rfl rfl ?_
                          refine a_iconst (pc' := 689) (v := (2 : Int32)) dL_act_688 rfl (by decide) ?_
                          obtain ⟨hg, hf⟩ := f_grd_x hf
                          refine b_iald (pc' := 690) hz.2.2.2.2.2.2.2 hg dL_act_689 rfl ?_
                          refine a_iconst (pc' := 691) (v := (0 : Int32)) dL_act_690 rfl (by decide) ?_
                          obtain ⟨hg, hf⟩ := f_grd_x hf
                          refine b_iast (pc' := 692) hz.2.2.2.2.1 hg dL_act_691 rfl (fun h78 hz1 hfr1 => ?_)
                          obtain ⟨hz1, hfr1⟩ := d_lw_s1 hz.2.2 hz1 hfr1
                          have hz2 := d_al_w hz hz1 hfr1
                          obtain ⟨Y79, hf, hz⟩ := f_let_x (P := fun w => d_al h78 w) hf hz2
                          replace hfr : d_fl h h78 := Eq.trans hfr1.1 hfr
                          refine a_aload (pc' := 694) 13 dL_act_692 rfl rfl ?_
                          refine a_iconst (pc' := 695) (v := (2 : Int32)) dL_act_694 rfl (by decide) ?_
                          refine a_dup2 (pc' := 696) dL_act_695 rfl rfl rfl ?_
                          obtain ⟨hg, hf⟩ := f_grd_x hf
                          refine b_iald (pc' := 697) hz.2.2.2.2.2.2.2 hg dL_act_696 rfl ?_
                          refine a_iconst (pc' := 698) (v := (1 : Int32)) dL_act_697 rfl (by decide) ?_
                          refine a_iadd (pc' := 699) dL_act_698 rfl ?_
                          obtain ⟨hg, hf⟩ := f_grd_x hf
                          refine b_iast (pc' := 700) hz.2.2.2.2.2.2.2 hg dL_act_699 rfl (fun h80 hz1 hfr1 => ?_)
                          obtain ⟨hz1, hfr1⟩ := d_lw_s4 hz.2.2 hz1 hfr1
                          have hz2 := d_al_w hz hz1 hfr1
                          obtain ⟨Y81, hf, hz⟩ := f_let_x (P := fun w => d_al h80 w) hf hz2
                          replace hfr : d_fl h h80 := Eq.trans hfr1.1 hfr
                          refine a_aload_n (pc' := 701) 4 dL_act_700 rfl rfl rfl ?_
                          refine a_iload (pc' := 703) 0 dL_act_701 rfl rfl ?_
                          obtain ⟨x83, e82, hf⟩ := f_nx hf
                          refine k_L_145 (pc' := 706) (c_X3_course l g F hz.1 e82) ⟨Nat.le_of_ble_eq_true rfl, Nat.le_of_ble_eq_true rfl⟩ hz.1.1 (Nat.le_of_ble_eq_true rfl) dL_act_703 rfl (fun h84 hq => ?_)
                          obtain ⟨hz1, hfr1⟩ := hq
                          have hz2 := d_al_c hz hz1 hfr1
                          obtain ⟨Y85, hf, hz⟩ := f_let_x (P := fun w => d_al h84 w) hf hz2
                          replace hfr : d_fl h h84 := Eq.trans hfr1.1 hfr
                          refine a_iload (pc' := 708) 2 dL_act_706 rfl rfl ?_
                          refine a_iconst (pc' := 709) (v := (1 : Int32)) dL_act_708 rfl (by decide) ?_
                          refine a_iadd (pc' := 710) dL_act_709 rfl ?_
                          refine a_icmp_ne (pc' := 713) 717 dL_act_710 (by decide) rfl (fun k86 => ?_) (fun k86 => ?_)
                          · replace hf := (if_neg k86).symm.trans hf
                            refine a_iconst (pc' := 718) (v := (0 : Int32)) dL_act_717 rfl (by decide) ?_
                            cases hf
                          · replace hf := (if_pos k86).symm.trans hf
                            refine a_iconst (pc' := 714) (v := (1 : Int32)) dL_act_713 rfl (by decide) ?_
                            refine a_goto 718 dL_act_714 (by decide) ?_
                            cases hf
                            exact a_zret hr rfl ⟨rfl, hz, hfr⟩ dL_act_718
                        · replace hf := (if_neg k75).symm.trans hf
                          refine a_iconst (pc' := 674) (v := (1 : Int32)) dL_act_673 rfl (by decide) ?_
                          cases hf
                          exact a_zret hr rfl ⟨rfl, hz, hfr⟩ dL_act_674
                      · replace hf := (if_neg k72).symm.trans hf
                        refine a_iload (pc' := 645) 2 dL_act_643 rfl rfl ?_
                        refine a_aload (pc' := 647) 9 dL_act_645 rfl rfl ?_
                        refine a_aload (pc' := 649) 13 dL_act_647 rfl rfl ?_
                        obtain ⟨x88, e87, hf⟩ := Option.bind_eq_some_iff.mp hf
                        refine k_L_38 (pc' := 652) (c_L_gap l g F hz.2.2 e87) ⟨Nat.le_of_ble_eq_true rfl, Nat.le_of_ble_eq_true rfl⟩ (Nat.le_of_ble_eq_true rfl) dL_act_649 rfl ?_
                        refine a_if_ge (pc' := 655) 673 dL_act_652 (by decide) rfl (fun k89 => ?_) (fun k89 => ?_)
                        · replace hf := (if_pos k89).symm.trans hf
                          refine a_iconst (pc' := 674) (v := (1 : Int32)) dL_act_673 rfl (by decide) ?_
                          cases hf
                          exact a_zret hr rfl ⟨rfl, hz, hfr⟩ dL_act_674
                        · replace hf := (if_neg k89).symm.trans hf
                          refine a_aload (pc' := 657) 13 dL_act_655 rfl rfl ?_
                          refine a_iconst (pc' := 658) (v := (2 : Int32)) dL_act_657 rfl (by decide) ?_
                          obtain ⟨hg, hf⟩ := f_grd_x hf
                          refine b_iald (pc' := 659) hz.2.2.2.2.2.2.2 hg dL_act_658 rfl ?_
                          refine a_aload (pc' := 661) 8 dL_act_659 rfl rfl ?_
                          refine a_aload (pc' := 663) 13 dL_act_661 rfl rfl ?_
                          obtain ⟨x91, e90, hf⟩ := Option.bind_eq_some_iff.mp hf
                          refine k_L_19 (pc' := 666) (c_L_top l g F hz.2.2 e90) ⟨Nat.le_of_ble_eq_true rfl, Nat.le_of_ble_eq_true rfl⟩ (Nat.le_of_ble_eq_true rfl) dL_act_663 rfl ?_
                          refine a_aload (pc' := 668) 13 dL_act_666 rfl rfl ?_
                          refine a_iconst (pc' := 669) (v := (0 : Int32)) dL_act_668 rfl (by decide) ?_
                          obtain ⟨hg, hf⟩ := f_grd_x hf
                          refine b_iald (pc' := 670) hz.2.2.2.2.2.2.2 hg dL_act_669 rfl ?_
                          refine a_icmp_lt (pc' := 673) 675 dL_act_670 (by decide) rfl (fun k92 => ?_) (fun k92 => ?_)
                          · replace hf := (if_pos k92).symm.trans hf
                            refine a_aload (pc' := 677) 8 dL_act_675 rfl rfl ?_
                            refine a_aload (pc' := 679) 13 dL_act_677 rfl rfl ?_
                            refine a_iconst (pc' := 680) (v := (2 : Int32)) dL_act_679 rfl (by decide) ?_
                            obtain ⟨hg, hf⟩ := f_grd_x hf
                            refine b_iald (pc' := 681) hz.2.2.2.2.2.2.2 hg dL_act_680 rfl ?_
                            refine a_iload (pc' := 683) 0 dL_act_681 rfl rfl ?_
                            obtain ⟨hg, hf⟩ := f_grd_x hf
                            refine b_iast (pc' := 684) hz.2.2.2.1 hg dL_act_683 rfl (fun h93 hz1 hfr1 => ?_)
                            obtain ⟨hz1, hfr1⟩ := d_lw_s0 hz.2.2 hz1 hfr1
                            have hz2 := d_al_w hz hz1 hfr1
                            obtain ⟨Y94, hf, hz⟩ := f_let_x (P := fun w => d_al h93 w) hf hz2
                            replace hfr : d_fl h h93 := Eq.trans hfr1.1 hfr
                            refine a_aload (pc' := 686) 9 dL_act_684 rfl rfl ?_
                            refine a_aload (pc' := 688) 13 dL_act_686 rfl rfl ?_
                            refine a_iconst (pc' := 689) (v := (2 : Int32)) dL_act_688 rfl (by decide) ?_
                            obtain ⟨hg, hf⟩ := f_grd_x hf
                            refine b_iald (pc' := 690) hz.2.2.2.2.2.2.2 hg dL_act_689 rfl ?_
                            refine a_iconst (pc' := 691) (v := (0 : Int32)) dL_act_690 rfl (by decide) ?_
                            obtain ⟨hg, hf⟩ := f_grd_x hf
                            refine b_iast (pc' := 692) hz.2.2.2.2.1 hg dL_act_691 rfl (fun h95 hz1 hfr1 => ?_)
                            obtain ⟨hz1, hfr1⟩ := d_lw_s1 hz.2.2 hz1 hfr1
                            have hz2 := d_al_w hz hz1 hfr1
                            obtain ⟨Y96, hf, hz⟩ := f_let_x (P := fun w => d_al h95 w) hf hz2
                            replace hfr : d_fl h h95 := Eq.trans hfr1.1 hfr
                            refine a_aload (pc' := 694) 13 dL_act_692 rfl rfl ?_
                            refine a_iconst (pc' := 695) (v := (2 : Int32)) dL_act_694 rfl (by decide) ?_
                            refine a_dup2 (pc' := 696) dL_act_695 rfl rfl rfl ?_
                            obtain ⟨hg, hf⟩ := f_grd_x hf
                            refine b_iald (pc' := 697) hz.2.2.2.2.2.2.2 hg dL_act_696 rfl ?_
                            refine a_iconst (pc' := 698) (v := (1 : Int32)) dL_act_697 rfl (by decide) ?_
                            refine a_iadd (pc' := 699) dL_act_698 rfl ?_
                            obtain ⟨hg, hf⟩ := f_grd_x hf
                            refine b_iast (pc' := 700) hz.2.2.2.2.2.2.2 hg dL_act_699 rfl (fun h97 hz1 hfr1 => ?_)
                            obtain ⟨hz1, hfr1⟩ := d_lw_s4 hz.2.2 hz1 hfr1
                            have hz2 := d_al_w hz hz1 hfr1
                            obtain ⟨Y98, hf, hz⟩ := f_let_x (P := fun w => d_al h97 w) hf hz2
                            replace hfr : d_fl h h97 := Eq.trans hfr1.1 hfr
                            refine a_aload_n (pc' := 701) 4 dL_act_700 rfl rfl rfl ?_
                            refine a_iload (pc' := 703) 0 dL_act_701 rfl rfl ?_
                            obtain ⟨x100, e99, hf⟩ := f_nx hf
                            refine k_L_145 (pc' := 706) (c_X3_course l g F hz.1 e99) ⟨Nat.le_of_ble_eq_true rfl, Nat.le_of_ble_eq_true rfl⟩ hz.1.1 (Nat.le_of_ble_eq_true rfl) dL_act_703 rfl (fun h101 hq => ?_)
                            obtain ⟨hz1, hfr1⟩ := hq
                            have hz2 := d_al_c hz hz1 hfr1
                            obtain ⟨Y102, hf, hz⟩ := f_let_x (P := fun w => d_al h101 w) hf hz2
                            replace hfr : d_fl h h101 := Eq.trans hfr1.1 hfr
                            refine a_iload (pc' := 708) 2 dL_act_706 rfl rfl ?_
                            refine a_iconst (pc' := 709) (v := (1 : Int32)) dL_act_708 rfl (by decide) ?_
                            refine a_iadd (pc' := 710) dL_act_709 rfl ?_
                            refine a_icmp_ne (pc' := 713) 717 dL_act_710 (by decide) rfl (fun k103 => ?_) (fun k103 => ?_)
                            · replace hf := (if_neg k103).symm.trans hf
                              refine a_iconst (pc' := 718) (v := (0 : Int32)) dL_act_717 rfl (by decide) ?_
                              cases hf
                            · replace hf := (if_pos k103).symm.trans hf
                              refine a_iconst (pc' := 714) (v := (1 : Int32)) dL_act_713 rfl (by decide) ?_
                              refine a_goto 718 dL_act_714 (by decide) ?_
                              cases hf
                              exact a_zret hr rfl ⟨rfl, hz, hfr⟩ dL_act_718
                          · replace hf := (if_neg k92).symm.trans hf
                            refine a_iconst (pc' := 674) (v := (1 : Int32)) dL_act_673 rfl (by decide) ?_
                            cases hf
                            exact a_zret hr rfl ⟨rfl, hz, hfr⟩ dL_act_674
                · replace hf := (if_neg k12).symm.trans hf
                  refine a_iload_n (pc' := 549) 5 dL_act_548 rfl rfl rfl ?_
                  refine a_iconst (pc' := 550) (v := (4 : Int32)) dL_act_549 rfl (by decide) ?_
                  obtain ⟨x105, e104, hf⟩ := Option.bind_eq_some_iff.mp hf
                  refine k_L_45 (pc' := 553) (c_L_at l g F e104) ⟨Nat.le_of_ble_eq_true rfl, Nat.le_of_ble_eq_true rfl⟩ (Nat.le_of_ble_eq_true rfl) dL_act_550 rfl ?_
                  refine a_istore (pc' := 555) (ls' := [(13, .int x105), (12, .int j3), (11, .int ((Y.2.2.2.2.2.2 ((2 : Int32)).toNatClampNeg) - ((1 : Int32)))), (10, .int (((8 : Int32)) + x2)), (0, .ref 0), (1, .int a1), (2, .int a2), (3, .int a3), (4, .ref 55), (5, .ref 56), (6, .ref 57), (7, .ref 58), (8, .ref 59), (9, .ref 60)]) dL_act_553 (by decide) rfl rfl ?_
                  refine a_aload_n (pc' := 556) 4 dL_act_555 rfl rfl rfl ?_
                  refine a_iload (pc' := 558) 0 dL_act_556 rfl rfl ?_
                  refine a_iconst (pc' := 559) (v := (2 : Int32)) dL_act_558 rfl (by decide) ?_
                  refine a_jn (st2 := [.ref 0]) hf 568 (fun j106 ej106 hf => ?_) (fun j106 hf Jj106 => ?_)
                  · obtain ⟨x109, e108, hf⟩ := f_nx hf
                    refine k_L_142 (pc' := 571) (c_X3_pass l g F hz.1 e108) ⟨Nat.le_of_ble_eq_true rfl, Nat.le_of_ble_eq_true rfl⟩ hz.1.1 (Nat.le_of_ble_eq_true rfl) dL_act_568 rfl (fun h110 hq => ?_)
                    obtain ⟨hz1, hfr1⟩ := hq
                    have hz2 := d_al_c hz hz1 hfr1
                    obtain ⟨Y111, hf, hz⟩ := f_let_x (P := fun w => d_al h110 w) hf hz2
                    replace hfr : d_fl h h110 := Eq.trans hfr1.1 hfr
                    refine a_iload (pc' := 573) 0 dL_act_571 rfl rfl ?_
                    refine a_iconst (pc' := 574) (v := (2 : Int32)) dL_act_573 rfl (by decide) ?_
                    refine a_jn (st2 := [.int x109.1]) hf 583 (fun j112 ej112 hf => ?_) (fun j112 hf Jj112 => ?_)
                    · refine a_aload (pc' := 585) 8 dL_act_583 rfl rfl ?_
                      refine a_aload (pc' := 587) 9 dL_act_585 rfl rfl ?_
                      refine a_aload (pc' := 589) 11 dL_act_587 rfl rfl ?_
                      refine a_aload (pc' := 591) 13 dL_act_589 rfl rfl ?_
                      obtain ⟨x115, e114, hf⟩ := Option.bind_eq_some_iff.mp hf
                      refine k_L_96 (pc' := 594) (c_L_day l g F hz.2.2 e114) ⟨Nat.le_of_ble_eq_true rfl, Nat.le_of_ble_eq_true rfl⟩ (Nat.le_of_ble_eq_true rfl) dL_act_591 rfl (fun h116 hq => ?_)
                      obtain ⟨hz1, hfr1⟩ := hq
                      have hz2 := d_al_w hz hz1 hfr1
                      obtain ⟨Y117, hf, hz⟩ := f_let_x (P := fun w => d_al h116 w) hf hz2
                      replace hfr : d_fl h h116 := Eq.trans hfr1.1 hfr
                      refine a_icmp_ne (pc' := 597) 601 dL_act_594 (by decide) rfl (fun k118 => ?_) (fun k118 => ?_)
                      · replace hf := (if_neg k118).symm.trans hf
                        refine a_iconst (pc' := 602) (v := (0 : Int32)) dL_act_601 rfl (by decide) ?_
                        cases hf
                      · replace hf := (if_pos k118).symm.trans hf
                        refine a_iconst (pc' := 598) (v := (1 : Int32)) dL_act_597 rfl (by decide) ?_
                        refine a_goto 602 dL_act_598 (by decide) ?_
                        cases hf
                        exact a_zret hr rfl ⟨rfl, hz, hfr⟩ dL_act_602
                    · refine a_icmp_le (pc' := 577) 581 dL_act_574 (by decide) rfl (fun k113 => ?_) (fun k113 => ?_)
                      · replace hf := (if_pos k113).symm.trans hf
                        refine a_iload (pc' := 583) 0 dL_act_581 rfl rfl ?_
                        cases hf
                        exact Jj112
                      · replace hf := (if_neg k113).symm.trans hf
                        refine a_iconst (pc' := 578) (v := (0 : Int32)) dL_act_577 rfl (by decide) ?_
                        refine a_goto 583 dL_act_578 (by decide) ?_
                        cases hf
                        exact Jj112
                  · refine a_icmp_le (pc' := 562) 566 dL_act_559 (by decide) rfl (fun k107 => ?_) (fun k107 => ?_)
                    · replace hf := (if_pos k107).symm.trans hf
                      refine a_iload (pc' := 568) 0 dL_act_566 rfl rfl ?_
                      cases hf
                      exact Jj106
                    · replace hf := (if_neg k107).symm.trans hf
                      refine a_iconst (pc' := 563) (v := (0 : Int32)) dL_act_562 rfl (by decide) ?_
                      refine a_goto 568 dL_act_563 (by decide) ?_
                      cases hf
                      exact Jj106
              · replace hf := (if_pos k11).symm.trans hf
                refine a_iload_n (pc' := 459) 6 dL_act_458 rfl rfl rfl ?_
                refine a_iconst (pc' := 460) (v := (3 : Int32)) dL_act_459 rfl (by decide) ?_
                obtain ⟨x120, e119, hf⟩ := Option.bind_eq_some_iff.mp hf
                refine k_L_45 (pc' := 463) (c_L_at l g F e119) ⟨Nat.le_of_ble_eq_true rfl, Nat.le_of_ble_eq_true rfl⟩ (Nat.le_of_ble_eq_true rfl) dL_act_460 rfl ?_
                refine a_if_ne (pc' := 466) 542 dL_act_463 (by decide) rfl (fun k121 => ?_) (fun k121 => ?_)
                · replace hf := (if_neg k121).symm.trans hf
                  refine a_iload_n (pc' := 543) 4 dL_act_542 rfl rfl rfl ?_
                  refine a_bipush (pc' := 545) (v := (10 : Int32)) dL_act_543 rfl (by decide) ?_
                  refine a_icmp_ge (pc' := 548) 603 dL_act_545 (by decide) rfl (fun k122 => ?_) (fun k122 => ?_)
                  · replace hf := (if_pos k122).symm.trans hf
                    refine a_iload_n (pc' := 604) 4 dL_act_603 rfl rfl rfl ?_
                    refine a_bipush (pc' := 606) (v := (13 : Int32)) dL_act_604 rfl (by decide) ?_
                    refine a_icmp_ge (pc' := 609) 719 dL_act_606 (by decide) rfl (fun k123 => ?_) (fun k123 => ?_)
                    · replace hf := (if_pos k123).symm.trans hf
                      refine a_iload_n (pc' := 720) 4 dL_act_719 rfl rfl rfl ?_
                      refine a_bipush (pc' := 722) (v := (15 : Int32)) dL_act_720 rfl (by decide) ?_
                      refine a_icmp_ge (pc' := 725) 742 dL_act_722 (by decide) rfl (fun k124 => ?_) (fun k124 => ?_)
                      · replace hf := (if_pos k124).symm.trans hf
                        refine a_iload (pc' := 744) 0 dL_act_742 rfl rfl ?_
                        refine a_if_eq (pc' := 747) 752 dL_act_744 (by decide) rfl (fun k125 => ?_) (fun k125 => ?_)
                        · replace hf := (if_pos k125).symm.trans hf
                          refine a_iconst (pc' := 753) (v := (1 : Int32)) dL_act_752 rfl (by decide) ?_
                          cases hf
                          exact a_zret hr rfl ⟨rfl, hz, hfr⟩ dL_act_753
                        · replace hf := (if_neg k125).symm.trans hf
                          refine a_iload (pc' := 749) 1 dL_act_747 rfl rfl ?_
                          refine a_if_ge (pc' := 752) 754 dL_act_749 (by decide) rfl (fun k126 => ?_) (fun k126 => ?_)
                          · replace hf := (if_pos k126).symm.trans hf
                            refine a_iload_n (pc' := 755) 4 dL_act_754 rfl rfl rfl ?_
                            refine a_bipush (pc' := 757) (v := (18 : Int32)) dL_act_755 rfl (by decide) ?_
                            refine a_icmp_ge (pc' := 760) 926 dL_act_757 (by decide) rfl (fun k127 => ?_) (fun k127 => ?_)
                            · replace hf := (if_pos k127).symm.trans hf
                              refine a_iload_n (pc' := 927) 5 dL_act_926 rfl rfl rfl ?_
                              refine a_aload (pc' := 929) 12 dL_act_927 rfl rfl ?_
                              refine a_iconst (pc' := 930) (v := (2 : Int32)) dL_act_929 rfl (by decide) ?_
                              obtain ⟨hg, hf⟩ := f_grd_x hf
                              refine b_iald (pc' := 931) hz.2.2.2.2.2.2.2 hg dL_act_930 rfl ?_
                              obtain ⟨x129, e128, hf⟩ := Option.bind_eq_some_iff.mp hf
                              refine k_L_45 (pc' := 934) (c_L_at l g F e128) ⟨Nat.le_of_ble_eq_true rfl, Nat.le_of_ble_eq_true rfl⟩ (Nat.le_of_ble_eq_true rfl) dL_act_931 rfl ?_
                              refine a_istore (pc' := 936) (ls' := [(13, .int x129), (12, .int j3), (11, .int ((Y.2.2.2.2.2.2 ((2 : Int32)).toNatClampNeg) - ((1 : Int32)))), (10, .int (((8 : Int32)) + x2)), (0, .ref 0), (1, .int a1), (2, .int a2), (3, .int a3), (4, .ref 55), (5, .ref 56), (6, .ref 57), (7, .ref 58), (8, .ref 59), (9, .ref 60)]) dL_act_934 (by decide) rfl rfl ?_
                              refine a_iload (pc' := 938) 0 dL_act_936 rfl rfl ?_
                              refine a_aload (pc' := 940) 9 dL_act_938 rfl rfl ?_
                              refine a_aload (pc' := 942) 13 dL_act_940 rfl rfl ?_
                              obtain ⟨x131, e130, hf⟩ := Option.bind_eq_some_iff.mp hf
                              refine k_L_38 (pc' := 945) (c_L_gap l g F hz.2.2 e130) ⟨Nat.le_of_ble_eq_true rfl, Nat.le_of_ble_eq_true rfl⟩ (Nat.le_of_ble_eq_true rfl) dL_act_942 rfl ?_
                              refine a_istore (pc' := 947) (ls' := [(14, .int x131), (13, .int x129), (12, .int j3), (11, .int ((Y.2.2.2.2.2.2 ((2 : Int32)).toNatClampNeg) - ((1 : Int32)))), (10, .int (((8 : Int32)) + x2)), (0, .ref 0), (1, .int a1), (2, .int a2), (3, .int a3), (4, .ref 55), (5, .ref 56), (6, .ref 57), (7, .ref 58), (8, .ref 59), (9, .ref 60)]) dL_act_945 (by decide) rfl rfl ?_
                              refine a_iload (pc' := 949) 0 dL_act_947 rfl rfl ?_
                              refine a_if_lt (pc' := 952) 972 dL_act_949 (by decide) rfl (fun k132 => ?_) (fun k132 => ?_)
                              · replace hf := (if_pos k132).symm.trans hf
                                refine a_iconst (pc' := 973) (v := (1 : Int32)) dL_act_972 rfl (by decide) ?_
                                cases hf
                                exact a_zret hr rfl ⟨rfl, hz, hfr⟩ dL_act_973
                              · replace hf := (if_neg k132).symm.trans hf
                                refine a_aload (pc' := 954) 11 dL_act_952 rfl rfl ?_
                                refine a_aload (pc' := 956) 9 dL_act_954 rfl rfl ?_
                                refine a_iload (pc' := 958) 1 dL_act_956 rfl rfl ?_
                                obtain ⟨hg, hf⟩ := f_grd_x hf
                                refine b_iald (pc' := 959) hz.2.2.2.1 hg dL_act_958 rfl ?_
                                obtain ⟨hg, hf⟩ := f_grd_x hf
                                refine b_iald (pc' := 960) hz.2.2.2.2.2.1 hg dL_act_959 rfl ?_
                                refine a_if_eq (pc' := 963) 972 dL_act_960 (by decide) rfl (fun k133 => ?_) (fun k133 => ?_)
                                · replace hf := (if_pos k133).symm.trans hf
                                  refine a_iconst (pc' := 973) (v := (1 : Int32)) dL_act_972 rfl (by decide) ?_
                                  cases hf
                                  exact a_zret hr rfl ⟨rfl, hz, hfr⟩ dL_act_973
                                · replace hf := (if_neg k133).symm.trans hf
                                  refine a_aload (pc' := 965) 14 dL_act_963 rfl rfl ?_
                                  refine a_bipush (pc' := 967) (v := (7 : Int32)) dL_act_965 rfl (by decide) ?_
                                  obtain ⟨hg, hf⟩ := f_grd_x hf
                                  refine b_iald (pc' := 968) hz.2.2.2.2.2.2.2 hg dL_act_967 rfl ?_
                                  refine a_iconst (pc' := 969) (v := (3 : Int32)) dL_act_968 rfl (by decide) ?_
                                  refine a_icmp_ge (pc' := 972) 974 dL_act_969 (by decide) rfl (fun k134 => ?_) (fun k134 => ?_)
                                  · replace hf := (if_pos k134).symm.trans hf
                                    refine a_aload (pc' := 976) 10 dL_act_974 rfl rfl ?_
                                    refine a_iload (pc' := 978) 1 dL_act_976 rfl rfl ?_
                                    refine a_dup2 (pc' := 979) dL_act_978 rfl rfl rfl ?_
                                    obtain ⟨hg, hf⟩ := f_grd_x hf
                                    refine b_iald (pc' := 980) hz.2.2.2.2.1 hg dL_act_979 rfl ?_
                                    refine a_iconst (pc' := 981) (v := (1 : Int32)) dL_act_980 rfl (by decide) ?_
                                    refine a_iload (pc' := 983) 0 dL_act_981 rfl rfl ?_
                                    refine a_ishl (pc' := 984) dL_act_983 rfl ?_
                                    refine a_ior (pc' := 985) dL_act_984 rfl ?_
                                    obtain ⟨hg, hf⟩ := f_grd_x hf
                                    refine b_iast (pc' := 986) hz.2.2.2.2.1 hg dL_act_985 rfl (fun h135 hz1 hfr1 => ?_)
                                    obtain ⟨hz1, hfr1⟩ := d_lw_s1 hz.2.2 hz1 hfr1
                                    have hz2 := d_al_w hz hz1 hfr1
                                    obtain ⟨Y136, hf, hz⟩ := f_let_x (P := fun w => d_al h135 w) hf hz2
                                    replace hfr : d_fl h h135 := Eq.trans hfr1.1 hfr
                                    refine a_aload (pc' := 988) 11 dL_act_986 rfl rfl ?_
                                    refine a_aload (pc' := 990) 9 dL_act_988 rfl rfl ?_
                                    refine a_iload (pc' := 992) 1 dL_act_990 rfl rfl ?_
                                    obtain ⟨hg, hf⟩ := f_grd_x hf
                                    refine b_iald (pc' := 993) hz.2.2.2.1 hg dL_act_992 rfl ?_
                                    refine a_dup2 (pc' := 994) dL_act_993 rfl rfl rfl ?_
                                    obtain ⟨hg, hf⟩ := f_grd_x hf
                                    refine b_iald (pc' := 995) hz.2.2.2.2.2.1 hg dL_act_994 rfl ?_
                                    refine a_iconst (pc' := 996) (v := (1 : Int32)) dL_act_995 rfl (by decide) ?_
                                    refine a_isub (pc' := 997) dL_act_996 rfl ?_
                                    obtain ⟨hg, hf⟩ := f_grd_x hf
                                    refine b_iast (pc' := 998) hz.2.2.2.2.2.1 hg dL_act_997 rfl (fun h137 hz1 hfr1 => ?_)
                                    obtain ⟨hz1, hfr1⟩ := d_lw_s2 hz.2.2 hz1 hfr1
                                    have hz2 := d_al_w hz hz1 hfr1
                                    obtain ⟨Y138, hf, hz⟩ := f_let_x (P := fun w => d_al h137 w) hf hz2
                                    replace hfr : d_fl h h137 := Eq.trans hfr1.1 hfr
                                    refine a_aload (pc' := 1000) 14 dL_act_998 rfl rfl ?_
                                    refine a_bipush (pc' := 1002) (v := (7 : Int32)) dL_act_1000 rfl (by decide) ?_
                                    refine a_dup2 (pc' := 1003) dL_act_1002 rfl rfl rfl ?_
                                    obtain ⟨hg, hf⟩ := f_grd_x hf
                                    refine b_iald (pc' := 1004) hz.2.2.2.2.2.2.2 hg dL_act_1003 rfl ?_
                                    refine a_iconst (pc' := 1005) (v := (3 : Int32)) dL_act_1004 rfl (by decide) ?_
                                    refine a_isub (pc' := 1006) dL_act_1005 rfl ?_
                                    obtain ⟨hg, hf⟩ := f_grd_x hf
                                    refine b_iast (pc' := 1007) hz.2.2.2.2.2.2.2 hg dL_act_1006 rfl (fun h139 hz1 hfr1 => ?_)
                                    obtain ⟨hz1, hfr1⟩ := d_lw_s4 hz.2.2 hz1 hfr1
                                    have hz2 := d_al_w hz hz1 hfr1
                                    obtain ⟨Y140, hf, hz⟩ := f_let_x (P := fun w => d_al h139 w) hf hz2
                                    replace hfr : d_fl h h139 := Eq.trans hfr1.1 hfr
                                    refine a_aload_n (pc' := 1008) 5 dL_act_1007 rfl rfl rfl ?_
                                    refine a_iload (pc' := 1010) 1 dL_act_1008 rfl rfl ?_
                                    refine a_iload (pc' := 1012) 0 dL_act_1010 rfl rfl ?_
                                    obtain ⟨x142, e141, hf⟩ := f_nx hf
                                    refine k_L_155 (pc' := 1015) (c_X3_mend l g F hz.1 e141) ⟨Nat.le_of_ble_eq_true rfl, Nat.le_of_ble_eq_true rfl⟩ hz.1.1 (Nat.le_of_ble_eq_true rfl) dL_act_1012 rfl (fun h143 hq => ?_)
                                    obtain ⟨hz1, hfr1⟩ := hq
                                    have hz2 := d_al_c hz hz1 hfr1
                                    obtain ⟨Y144, hf, hz⟩ := f_let_x (P := fun w => d_al h143 w) hf hz2
                                    replace hfr : d_fl h h143 := Eq.trans hfr1.1 hfr
                                    refine a_aload (pc' := 1017) 14 dL_act_1015 rfl rfl ?_
                                    refine a_bipush (pc' := 1019) (v := (7 : Int32)) dL_act_1017 rfl (by decide) ?_
                                    obtain ⟨hg, hf⟩ := f_grd_x hf
                                    refine b_iald (pc' := 1020) hz.2.2.2.2.2.2.2 hg dL_act_1019 rfl ?_
                                    refine a_icmp_ne (pc' := 1023) 1027 dL_act_1020 (by decide) rfl (fun k145 => ?_) (fun k145 => ?_)
                                    · replace hf := (if_neg k145).symm.trans hf
                                      refine a_iconst (pc' := 1028) (v := (0 : Int32)) dL_act_1027 rfl (by decide) ?_
                                      cases hf
                                    · replace hf := (if_pos k145).symm.trans hf
                                      refine a_iconst (pc' := 1024) (v := (1 : Int32)) dL_act_1023 rfl (by decide) ?_
                                      refine a_goto 1028 dL_act_1024 (by decide) ?_
                                      cases hf
                                      exact a_zret hr rfl ⟨rfl, hz, hfr⟩ dL_act_1028
                                  · replace hf := (if_neg k134).symm.trans hf
                                    refine a_iconst (pc' := 973) (v := (1 : Int32)) dL_act_972 rfl (by decide) ?_
                                    cases hf
                                    exact a_zret hr rfl ⟨rfl, hz, hfr⟩ dL_act_973
                            · replace hf := (if_neg k127).symm.trans hf
                              refine a_iload (pc' := 762) 1 dL_act_760 rfl rfl ?_
                              refine a_aload (pc' := 764) 12 dL_act_762 rfl rfl ?_
                              obtain ⟨x147, e146, hf⟩ := Option.bind_eq_some_iff.mp hf
                              refine k_L_8 (pc' := 767) (c_L_places l g F hz.2.2 e146) ⟨Nat.le_of_ble_eq_true rfl, Nat.le_of_ble_eq_true rfl⟩ (Nat.le_of_ble_eq_true rfl) dL_act_764 rfl ?_
                              refine a_aload (pc' := 769) 8 dL_act_767 rfl rfl ?_
                              refine a_iload (pc' := 771) 1 dL_act_769 rfl rfl ?_
                              obtain ⟨hg, hf⟩ := f_grd_x hf
                              refine b_iald (pc' := 772) hz.2.2.2.2.1 hg dL_act_771 rfl ?_
                              obtain ⟨x149, e148, hf⟩ := Option.bind_eq_some_iff.mp hf
                              refine k_L_15 (pc' := 775) (c_L_ones l g F e148) ⟨Nat.le_of_ble_eq_true rfl, Nat.le_of_ble_eq_true rfl⟩ (Nat.le_of_ble_eq_true rfl) dL_act_772 rfl ?_
                              refine a_isub (pc' := 776) dL_act_775 rfl ?_
                              refine a_istore (pc' := 778) (ls' := [(13, .int (x147 - x149)), (12, .int j3), (11, .int ((Y.2.2.2.2.2.2 ((2 : Int32)).toNatClampNeg) - ((1 : Int32)))), (10, .int (((8 : Int32)) + x2)), (0, .ref 0), (1, .int a1), (2, .int a2), (3, .int a3), (4, .ref 55), (5, .ref 56), (6, .ref 57), (7, .ref 58), (8, .ref 59), (9, .ref 60)]) dL_act_776 (by decide) rfl rfl ?_
                              refine a_iload (pc' := 780) 0 dL_act_778 rfl rfl ?_
                              refine a_aload (pc' := 782) 10 dL_act_780 rfl rfl ?_
                              refine a_aload (pc' := 784) 8 dL_act_782 rfl rfl ?_
                              refine a_iload (pc' := 786) 2 dL_act_784 rfl rfl ?_
                              obtain ⟨hg, hf⟩ := f_grd_x hf
                              refine b_iald (pc' := 787) hz.2.2.2.1 hg dL_act_786 rfl ?_
                              obtain ⟨hg, hf⟩ := f_grd_x hf
                              refine b_iald (pc' := 788) hz.2.2.2.2.2.1 hg dL_act_787 rfl ?_
                              refine a_jn (st2 := []) hf 804 (fun j150 ej150 hf => ?_) (fun j150 hf Jj150 => ?_)
                              · refine a_istore (pc' := 806) (ls' := [(14, .int j150), (13, .int (x147 - x149)), (12, .int j3), (11, .int ((Y.2.2.2.2.2.2 ((2 : Int32)).toNatClampNeg) - ((1 : Int32)))), (10, .int (((8 : Int32)) + x2)), (0, .ref 0), (1, .int a1), (2, .int a2), (3, .int a3), (4, .ref 55), (5, .ref 56), (6, .ref 57), (7, .ref 58), (8, .ref 59), (9, .ref 60)]) dL_act_804 (by decide) rfl rfl ?_
                                refine a_iload (pc' := 808) 0 dL_act_806 rfl rfl ?_
                                refine a_aload (pc' := 810) 14 dL_act_808 rfl rfl ?_
                                refine a_bipush (pc' := 812) (v := (7 : Int32)) dL_act_810 rfl (by decide) ?_
                                obtain ⟨hg, hf⟩ := f_grd_x hf
                                refine b_iald (pc' := 813) hz.2.2.2.2.2.2.2 hg dL_act_812 rfl ?_
                                refine a_jn (st2 := []) hf 826 (fun j152 ej152 hf => ?_) (fun j152 hf Jj152 => ?_)
                                · refine a_istore (pc' := 828) (ls' := [(14, .int j152), (13, .int (x147 - x149)), (12, .int j3), (11, .int ((Y.2.2.2.2.2.2 ((2 : Int32)).toNatClampNeg) - ((1 : Int32)))), (10, .int (((8 : Int32)) + x2)), (0, .ref 0), (1, .int a1), (2, .int a2), (3, .int a3), (4, .ref 55), (5, .ref 56), (6, .ref 57), (7, .ref 58), (8, .ref 59), (9, .ref 60)]) dL_act_826 (by decide) rfl rfl ?_
                                  refine a_iload (pc' := 830) 0 dL_act_828 rfl rfl ?_
                                  refine a_if_ne (pc' := 833) 835 dL_act_830 (by decide) rfl (fun k154 => ?_) (fun k154 => ?_)
                                  · replace hf := (if_neg k154).symm.trans hf
                                    refine a_iconst (pc' := 836) (v := (1 : Int32)) dL_act_835 rfl (by decide) ?_
                                    refine a_iload_n (pc' := 837) 8 dL_act_836 rfl rfl rfl ?_
                                    refine a_iload (pc' := 839) 0 dL_act_837 rfl rfl ?_
                                    obtain ⟨x156, e155, hf⟩ := Option.bind_eq_some_iff.mp hf
                                    refine k_L_45 (pc' := 842) (c_L_at l g F e155) ⟨Nat.le_of_ble_eq_true rfl, Nat.le_of_ble_eq_true rfl⟩ (Nat.le_of_ble_eq_true rfl) dL_act_839 rfl ?_
                                    refine a_iadd (pc' := 843) dL_act_842 rfl ?_
                                    refine a_istore (pc' := 845) (ls' := [(15, .int (((1 : Int32)) + x156)), (14, .int j152), (13, .int (x147 - x149)), (12, .int j3), (11, .int ((Y.2.2.2.2.2.2 ((2 : Int32)).toNatClampNeg) - ((1 : Int32)))), (10, .int (((8 : Int32)) + x2)), (0, .ref 0), (1, .int a1), (2, .int a2), (3, .int a3), (4, .ref 55), (5, .ref 56), (6, .ref 57), (7, .ref 58), (8, .ref 59), (9, .ref 60)]) dL_act_843 (by decide) rfl rfl ?_
                                    refine a_iconst (pc' := 846) (v := (0 : Int32)) dL_act_845 rfl (by decide) ?_
                                    refine a_istore (pc' := 848) (ls' := [(16, .int ((0 : Int32))), (15, .int (((1 : Int32)) + x156)), (14, .int j152), (13, .int (x147 - x149)), (12, .int j3), (11, .int ((Y.2.2.2.2.2.2 ((2 : Int32)).toNatClampNeg) - ((1 : Int32)))), (10, .int (((8 : Int32)) + x2)), (0, .ref 0), (1, .int a1), (2, .int a2), (3, .int a3), (4, .ref 55), (5, .ref 56), (6, .ref 57), (7, .ref 58), (8, .ref 59), (9, .ref 60)]) dL_act_846 (by decide) rfl rfl ?_
                                    obtain ⟨o157, e158, hf⟩ := Option.bind_eq_some_iff.mp hf
                                    refine a_sub [7, 11, 12, 13, 16, 5, 1, 0] rfl ?_
                                    refine l_L_act_L848b F Y x156  F _ _ o157 e158 (fun e9 he9 h159 hz hfr => ?_) _ hz hfr
                                    subst he9
                                    refine a_aload (pc' := 882) 3 dL_act_880 rfl rfl ?_
                                    refine a_aload (pc' := 884) 1 dL_act_882 rfl rfl ?_
                                    refine a_iload (pc' := 886) 5 dL_act_884 rfl rfl ?_
                                    obtain ⟨hg, hf⟩ := f_grd_x hf
                                    refine b_iald (pc' := 887) hz.2.2.2.1 hg dL_act_886 rfl ?_
                                    refine a_dup2 (pc' := 888) dL_act_887 rfl rfl rfl ?_
                                    obtain ⟨hg, hf⟩ := f_grd_x hf
                                    refine b_iald (pc' := 889) hz.2.2.2.2.2.1 hg dL_act_888 rfl ?_
                                    refine a_iload (pc' := 891) 6 dL_act_889 rfl rfl ?_
                                    refine a_isub (pc' := 892) dL_act_891 rfl ?_
                                    obtain ⟨hg, hf⟩ := f_grd_x hf
                                    refine b_iast (pc' := 893) hz.2.2.2.2.2.1 hg dL_act_892 rfl (fun h160 hz1 hfr1 => ?_)
                                    obtain ⟨hz1, hfr1⟩ := d_lw_s2 hz.2.2 hz1 hfr1
                                    have hz2 := d_al_w hz hz1 hfr1
                                    obtain ⟨Y161, hf, hz⟩ := f_let_x (P := fun w => d_al h160 w) hf hz2
                                    replace hfr : d_fl h h160 := Eq.trans hfr1.1 hfr
                                    refine a_aload (pc' := 895) 4 dL_act_893 rfl rfl ?_
                                    refine a_bipush (pc' := 897) (v := (7 : Int32)) dL_act_895 rfl (by decide) ?_
                                    refine a_dup2 (pc' := 898) dL_act_897 rfl rfl rfl ?_
                                    obtain ⟨hg, hf⟩ := f_grd_x hf
                                    refine b_iald (pc' := 899) hz.2.2.2.2.2.2.2 hg dL_act_898 rfl ?_
                                    refine a_iload (pc' := 901) 6 dL_act_899 rfl rfl ?_
                                    refine a_isub (pc' := 902) dL_act_901 rfl ?_
                                    obtain ⟨hg, hf⟩ := f_grd_x hf
                                    refine b_iast (pc' := 903) hz.2.2.2.2.2.2.2 hg dL_act_902 rfl (fun h162 hz1 hfr1 => ?_)
                                    obtain ⟨hz1, hfr1⟩ := d_lw_s4 hz.2.2 hz1 hfr1
                                    have hz2 := d_al_w hz hz1 hfr1
                                    obtain ⟨Y163, hf, hz⟩ := f_let_x (P := fun w => d_al h162 w) hf hz2
                                    replace hfr : d_fl h h162 := Eq.trans hfr1.1 hfr
                                    refine a_aload_n (pc' := 904) 0 dL_act_903 rfl rfl rfl ?_
                                    refine a_iload (pc' := 906) 6 dL_act_904 rfl rfl ?_
                                    obtain ⟨x165, e164, hf⟩ := f_nx hf
                                    refine k_L_152 (pc' := 909) (c_X3_lay l g F hz.1 e164) ⟨Nat.le_of_ble_eq_true rfl, Nat.le_of_ble_eq_true rfl⟩ hz.1.1 (Nat.le_of_ble_eq_true rfl) dL_act_906 rfl (fun h166 hq => ?_)
                                    obtain ⟨hz1, hfr1⟩ := hq
                                    have hz2 := d_al_c hz hz1 hfr1
                                    obtain ⟨Y167, hf, hz⟩ := f_let_x (P := fun w => d_al h166 w) hf hz2
                                    replace hfr : d_fl h h166 := Eq.trans hfr1.1 hfr
                                    refine a_aload (pc' := 911) 2 dL_act_909 rfl rfl ?_
                                    refine a_iload (pc' := 913) 5 dL_act_911 rfl rfl ?_
                                    obtain ⟨hg, hf⟩ := f_grd_x hf
                                    refine b_iald (pc' := 914) hz.2.2.2.2.1 hg dL_act_913 rfl ?_
                                    obtain ⟨x169, e168, hf⟩ := Option.bind_eq_some_iff.mp hf
                                    refine k_L_15 (pc' := 917) (c_L_ones l g F e168) ⟨Nat.le_of_ble_eq_true rfl, Nat.le_of_ble_eq_true rfl⟩ (Nat.le_of_ble_eq_true rfl) dL_act_914 rfl ?_
                                    refine a_icmp_ne (pc' := 920) 924 dL_act_917 (by decide) rfl (fun k170 => ?_) (fun k170 => ?_)
                                    · replace hf := (if_neg k170).symm.trans hf
                                      refine a_iconst (pc' := 925) (v := (0 : Int32)) dL_act_924 rfl (by decide) ?_
                                      cases hf
                                    · replace hf := (if_pos k170).symm.trans hf
                                      refine a_iconst (pc' := 921) (v := (1 : Int32)) dL_act_920 rfl (by decide) ?_
                                      refine a_goto 925 dL_act_921 (by decide) ?_
                                      cases hf
                                      exact a_zret hr rfl ⟨rfl, hz, hfr⟩ dL_act_925
                                  · replace hf := (if_pos k154).symm.trans hf
                                    refine a_iconst (pc' := 834) (v := (1 : Int32)) dL_act_833 rfl (by decide) ?_
                                    cases hf
                                    exact a_zret hr rfl ⟨rfl, hz, hfr⟩ dL_act_834
                                · refine a_icmp_ge (pc' := 816) 821 dL_act_813 (by decide) rfl (fun k153 => ?_) (fun k153 => ?_)
                                  · replace hf := (if_pos k153).symm.trans hf
                                    refine a_aload (pc' := 823) 14 dL_act_821 rfl rfl ?_
                                    refine a_bipush (pc' := 825) (v := (7 : Int32)) dL_act_823 rfl (by decide) ?_
                                    obtain ⟨hg, hf⟩ := f_grd_x hf
                                    refine b_iald (pc' := 826) hz.2.2.2.2.2.2.2 hg dL_act_825 rfl ?_
                                    cases hf
                                    exact Jj152
                                  · replace hf := (if_neg k153).symm.trans hf
                                    refine a_iload (pc' := 818) 0 dL_act_816 rfl rfl ?_
                                    refine a_goto 826 dL_act_818 (by decide) ?_
                                    cases hf
                                    exact Jj152
                              · refine a_icmp_ge (pc' := 791) 796 dL_act_788 (by decide) rfl (fun k151 => ?_) (fun k151 => ?_)
                                · replace hf := (if_pos k151).symm.trans hf
                                  refine a_aload (pc' := 798) 10 dL_act_796 rfl rfl ?_
                                  refine a_aload (pc' := 800) 8 dL_act_798 rfl rfl ?_
                                  refine a_iload (pc' := 802) 2 dL_act_800 rfl rfl ?_
                                  obtain ⟨hg, hf⟩ := f_grd_x hf
                                  refine b_iald (pc' := 803) hz.2.2.2.1 hg dL_act_802 rfl ?_
                                  obtain ⟨hg, hf⟩ := f_grd_x hf
                                  refine b_iald (pc' := 804) hz.2.2.2.2.2.1 hg dL_act_803 rfl ?_
                                  cases hf
                                  exact Jj150
                                · replace hf := (if_neg k151).symm.trans hf
                                  refine a_iload (pc' := 793) 0 dL_act_791 rfl rfl ?_
                                  refine a_goto 804 dL_act_793 (by decide) ?_
                                  cases hf
                                  exact Jj150
                          · replace hf := (if_neg k126).symm.trans hf
                            refine a_iconst (pc' := 753) (v := (1 : Int32)) dL_act_752 rfl (by decide) ?_
                            cases hf
                            exact a_zret hr rfl ⟨rfl, hz, hfr⟩ dL_act_753
                      · replace hf := (if_neg k124).symm.trans hf
                        refine a_aload_n (pc' := 726) 3 dL_act_725 rfl rfl rfl ?_
                        refine a_iload_n (pc' := 727) 5 dL_act_726 rfl rfl rfl ?_
                        refine a_iload_n (pc' := 728) 6 dL_act_727 rfl rfl rfl ?_
                        refine a_aload (pc' := 730) 7 dL_act_728 rfl rfl ?_
                        refine a_aload (pc' := 732) 8 dL_act_730 rfl rfl ?_
                        refine a_aload (pc' := 734) 9 dL_act_732 rfl rfl ?_
                        refine a_aload (pc' := 736) 10 dL_act_734 rfl rfl ?_
                        refine a_aload (pc' := 738) 12 dL_act_736 rfl rfl ?_
                        obtain ⟨x172, e171, hf⟩ := Option.bind_eq_some_iff.mp hf
                        refine k_L_148 (pc' := 741) (c_L_works l g F hz e171) ⟨Nat.le_of_ble_eq_true rfl, Nat.le_of_ble_eq_true rfl⟩ (Nat.le_of_ble_eq_true rfl) dL_act_738 rfl (fun h173 hq => ?_)
                        obtain ⟨hz1, hfr1⟩ := hq
                        obtain ⟨Y174, hf, hz⟩ := f_let_x (P := fun w => d_al h173 w) hf hz1
                        replace hfr : d_fl h h173 := Eq.trans hfr1 hfr
                        obtain ⟨hg, hf⟩ := f_if_x hf
                        cases hf
                        exact a_zret hr (b_bool hg) ⟨rfl, hz, hfr⟩ dL_act_741
                    · replace hf := (if_neg k123).symm.trans hf
                      refine a_aload (pc' := 611) 7 dL_act_609 rfl rfl ?_
                      refine a_aload (pc' := 613) 12 dL_act_611 rfl rfl ?_
                      obtain ⟨x176, e175, hf⟩ := Option.bind_eq_some_iff.mp hf
                      refine k_L_34 (pc' := 616) (c_L_longest l g F hz.2.2 e175) ⟨Nat.le_of_ble_eq_true rfl, Nat.le_of_ble_eq_true rfl⟩ (Nat.le_of_ble_eq_true rfl) dL_act_613 rfl ?_
                      refine a_iload_n (pc' := 617) 5 dL_act_616 rfl rfl rfl ?_
                      refine a_aload (pc' := 619) 7 dL_act_617 rfl rfl ?_
                      refine a_aload (pc' := 621) 12 dL_act_619 rfl rfl ?_
                      obtain ⟨x178, e177, hf⟩ := Option.bind_eq_some_iff.mp hf
                      refine k_L_34 (pc' := 624) (c_L_longest l g F hz.2.2 e177) ⟨Nat.le_of_ble_eq_true rfl, Nat.le_of_ble_eq_true rfl⟩ (Nat.le_of_ble_eq_true rfl) dL_act_621 rfl ?_
                      refine a_bipush (pc' := 626) (v := (7 : Int32)) dL_act_624 rfl (by decide) ?_
                      refine a_isub (pc' := 627) dL_act_626 rfl ?_
                      obtain ⟨x180, e179, hf⟩ := Option.bind_eq_some_iff.mp hf
                      refine k_L_45 (pc' := 630) (c_L_at l g F e179) ⟨Nat.le_of_ble_eq_true rfl, Nat.le_of_ble_eq_true rfl⟩ (Nat.le_of_ble_eq_true rfl) dL_act_627 rfl ?_
                      refine a_isub (pc' := 631) dL_act_630 rfl ?_
                      refine a_istore (pc' := 633) (ls' := [(13, .int (x176 - x180)), (12, .int j3), (11, .int ((Y.2.2.2.2.2.2 ((2 : Int32)).toNatClampNeg) - ((1 : Int32)))), (10, .int (((8 : Int32)) + x2)), (0, .ref 0), (1, .int a1), (2, .int a2), (3, .int a3), (4, .ref 55), (5, .ref 56), (6, .ref 57), (7, .ref 58), (8, .ref 59), (9, .ref 60)]) dL_act_631 (by decide) rfl rfl ?_
                      refine a_iload (pc' := 635) 1 dL_act_633 rfl rfl ?_
                      refine a_if_eq (pc' := 638) 673 dL_act_635 (by decide) rfl (fun k181 => ?_) (fun k181 => ?_)
                      · replace hf := (if_pos k181).symm.trans hf
                        refine a_iconst (pc' := 674) (v := (1 : Int32)) dL_act_673 rfl (by decide) ?_
                        cases hf
                        exact a_zret hr rfl ⟨rfl, hz, hfr⟩ dL_act_674
                      · replace hf := (if_neg k181).symm.trans hf
                        refine a_iload (pc' := 640) 2 dL_act_638 rfl rfl ?_
                        refine a_if_lt (pc' := 643) 655 dL_act_640 (by decide) rfl (fun k182 => ?_) (fun k182 => ?_)
                        · replace hf := (if_pos k182).symm.trans hf
                          refine a_aload (pc' := 657) 13 dL_act_655 rfl rfl ?_
                          refine a_iconst (pc' := 658) (v := (2 : Int32)) dL_act_657 rfl (by decide) ?_
                          obtain ⟨hg, hf⟩ := f_grd_x hf
                          refine b_iald (pc' := 659) hz.2.2.2.2.2.2.2 hg dL_act_658 rfl ?_
                          refine a_aload (pc' := 661) 8 dL_act_659 rfl rfl ?_
                          refine a_aload (pc' := 663) 13 dL_act_661 rfl rfl ?_
                          obtain ⟨x184, e183, hf⟩ := Option.bind_eq_some_iff.mp hf
                          refine k_L_19 (pc' := 666) (c_L_top l g F hz.2.2 e183) ⟨Nat.le_of_ble_eq_true rfl, Nat.le_of_ble_eq_true rfl⟩ (Nat.le_of_ble_eq_true rfl) dL_act_663 rfl ?_
                          refine a_aload (pc' := 668) 13 dL_act_666 rfl rfl ?_
                          refine a_iconst (pc' := 669) (v := (0 : Int32)) dL_act_668 rfl (by decide) ?_
                          obtain ⟨hg, hf⟩ := f_grd_x hf
                          refine b_iald (pc' := 670) hz.2.2.2.2.2.2.2 hg dL_act_669 rfl ?_
                          refine a_icmp_lt (pc' := 673) 675 dL_act_670 (by decide) rfl (fun k185 => ?_) (fun k185 => ?_)
                          · replace hf := (if_pos k185).symm.trans hf
                            refine a_aload (pc' := 677) 8 dL_act_675 rfl rfl ?_
                            refine a_aload (pc' := 679) 13 dL_act_677 rfl rfl ?_
                            refine a_iconst (pc' := 680) (v := (2 : Int32)) dL_act_679 rfl (by decide) ?_
                            obtain ⟨hg, hf⟩ := f_grd_x hf
                            refine b_iald (pc' := 681) hz.2.2.2.2.2.2.2 hg dL_act_680 rfl ?_
                            refine a_iload (pc' := 683) 0 dL_act_681 rfl rfl ?_
                            obtain ⟨hg, hf⟩ := f_grd_x hf
                            refine b_iast (pc' := 684) hz.2.2.2.1 hg dL_act_683 rfl (fun h186 hz1 hfr1 => ?_)
                            obtain ⟨hz1, hfr1⟩ := d_lw_s0 hz.2.2 hz1 hfr1
                            have hz2 := d_al_w hz hz1 hfr1
                            obtain ⟨Y187, hf, hz⟩ := f_let_x (P := fun w => d_al h186 w) hf hz2
                            replace hfr : d_fl h h186 := Eq.trans hfr1.1 hfr
                            refine a_aload (pc' := 686) 9 dL_act_684 rfl rfl ?_
                            refine a_aload (pc' := 688) 13 dL_act_686 rfl rfl ?_
                            refine a_iconst (pc' := 689) (v := (2 : Int32)) dL_act_688 rfl (by decide) ?_
                            obtain ⟨hg, hf⟩ := f_grd_x hf
                            refine b_iald (pc' := 690) hz.2.2.2.2.2.2.2 hg dL_act_689 rfl ?_
                            refine a_iconst (pc' := 691) (v := (0 : Int32)) dL_act_690 rfl (by decide) ?_
                            obtain ⟨hg, hf⟩ := f_grd_x hf
                            refine b_iast (pc' := 692) hz.2.2.2.2.1 hg dL_act_691 rfl (fun h188 hz1 hfr1 => ?_)
                            obtain ⟨hz1, hfr1⟩ := d_lw_s1 hz.2.2 hz1 hfr1
                            have hz2 := d_al_w hz hz1 hfr1
                            obtain ⟨Y189, hf, hz⟩ := f_let_x (P := fun w => d_al h188 w) hf hz2
                            replace hfr : d_fl h h188 := Eq.trans hfr1.1 hfr
                            refine a_aload (pc' := 694) 13 dL_act_692 rfl rfl ?_
                            refine a_iconst (pc' := 695) (v := (2 : Int32)) dL_act_694 rfl (by decide) ?_
                            refine a_dup2 (pc' := 696) dL_act_695 rfl rfl rfl ?_
                            obtain ⟨hg, hf⟩ := f_grd_x hf
                            refine b_iald (pc' := 697) hz.2.2.2.2.2.2.2 hg dL_act_696 rfl ?_
                            refine a_iconst (pc' := 698) (v := (1 : Int32)) dL_act_697 rfl (by decide) ?_
                            refine a_iadd (pc' := 699) dL_act_698 rfl ?_
                            obtain ⟨hg, hf⟩ := f_grd_x hf
                            refine b_iast (pc' := 700) hz.2.2.2.2.2.2.2 hg dL_act_699 rfl (fun h190 hz1 hfr1 => ?_)
                            obtain ⟨hz1, hfr1⟩ := d_lw_s4 hz.2.2 hz1 hfr1
                            have hz2 := d_al_w hz hz1 hfr1
                            obtain ⟨Y191, hf, hz⟩ := f_let_x (P := fun w => d_al h190 w) hf hz2
                            replace hfr : d_fl h h190 := Eq.trans hfr1.1 hfr
                            refine a_aload_n (pc' := 701) 4 dL_act_700 rfl rfl rfl ?_
                            refine a_iload (pc' := 703) 0 dL_act_701 rfl rfl ?_
                            obtain ⟨x193, e192, hf⟩ := f_nx hf
                            refine k_L_145 (pc' := 706) (c_X3_course l g F hz.1 e192) ⟨Nat.le_of_ble_eq_true rfl, Nat.le_of_ble_eq_true rfl⟩ hz.1.1 (Nat.le_of_ble_eq_true rfl) dL_act_703 rfl (fun h194 hq => ?_)
                            obtain ⟨hz1, hfr1⟩ := hq
                            have hz2 := d_al_c hz hz1 hfr1
                            obtain ⟨Y195, hf, hz⟩ := f_let_x (P := fun w => d_al h194 w) hf hz2
                            replace hfr : d_fl h h194 := Eq.trans hfr1.1 hfr
                            refine a_iload (pc' := 708) 2 dL_act_706 rfl rfl ?_
                            refine a_iconst (pc' := 709) (v := (1 : Int32)) dL_act_708 rfl (by decide) ?_
                            refine a_iadd (pc' := 710) dL_act_709 rfl ?_
                            refine a_icmp_ne (pc' := 713) 717 dL_act_710 (by decide) rfl (fun k196 => ?_) (fun k196 => ?_)
                            · replace hf := (if_neg k196).symm.trans hf
                              refine a_iconst (pc' := 718) (v := (0 : Int32)) dL_act_717 rfl (by decide) ?_
                              cases hf
                            · replace hf := (if_pos k196).symm.trans hf
                              refine a_iconst (pc' := 714) (v := (1 : Int32)) dL_act_713 rfl (by decide) ?_
                              refine a_goto 718 dL_act_714 (by decide) ?_
                              cases hf
                              exact a_zret hr rfl ⟨rfl, hz, hfr⟩ dL_act_718
                          · replace hf := (if_neg k185).symm.trans hf
                            refine a_iconst (pc' := 674) (v := (1 : Int32)) dL_act_673 rfl (by decide) ?_
                            cases hf
                            exact a_zret hr rfl ⟨rfl, hz, hfr⟩ dL_act_674
                        · replace hf := (if_neg k182).symm.trans hf
                          refine a_iload (pc' := 645) 2 dL_act_643 rfl rfl ?_
                          refine a_aload (pc' := 647) 9 dL_act_645 rfl rfl ?_
                          refine a_aload (pc' := 649) 13 dL_act_647 rfl rfl ?_
                          obtain ⟨x198, e197, hf⟩ := Option.bind_eq_some_iff.mp hf
                          refine k_L_38 (pc' := 652) (c_L_gap l g F hz.2.2 e197) ⟨Nat.le_of_ble_eq_true rfl, Nat.le_of_ble_eq_true rfl⟩ (Nat.le_of_ble_eq_true rfl) dL_act_649 rfl ?_
                          refine a_if_ge (pc' := 655) 673 dL_act_652 (by decide) rfl (fun k199 => ?_) (fun k199 => ?_)
                          · replace hf := (if_pos k199).symm.trans hf
                            refine a_iconst (pc' := 674) (v := (1 : Int32)) dL_act_673 rfl (by decide) ?_
                            cases hf
                            exact a_zret hr rfl ⟨rfl, hz, hfr⟩ dL_act_674
                          · replace hf := (if_neg k199).symm.trans hf
                            refine a_aload (pc' := 657) 13 dL_act_655 rfl rfl ?_
                            refine a_iconst (pc' := 658) (v := (2 : Int32)) dL_act_657 rfl (by decide) ?_
                            obtain ⟨hg, hf⟩ := f_grd_x hf
                            refine b_iald (pc' := 659) hz.2.2.2.2.2.2.2 hg dL_act_658 rfl ?_
                            refine a_aload (pc' := 661) 8 dL_act_659 rfl rfl ?_
                            refine a_aload (pc' := 663) 13 dL_act_661 rfl rfl ?_
                            obtain ⟨x201, e200, hf⟩ := Option.bind_eq_some_iff.mp hf
                            refine k_L_19 (pc' := 666) (c_L_top l g F hz.2.2 e200) ⟨Nat.le_of_ble_eq_true rfl, Nat.le_of_ble_eq_true rfl⟩ (Nat.le_of_ble_eq_true rfl) dL_act_663 rfl ?_
                            refine a_aload (pc' := 668) 13 dL_act_666 rfl rfl ?_
                            refine a_iconst (pc' := 669) (v := (0 : Int32)) dL_act_668 rfl (by decide) ?_
                            obtain ⟨hg, hf⟩ := f_grd_x hf
                            refine b_iald (pc' := 670) hz.2.2.2.2.2.2.2 hg dL_act_669 rfl ?_
                            refine a_icmp_lt (pc' := 673) 675 dL_act_670 (by decide) rfl (fun k202 => ?_) (fun k202 => ?_)
                            · replace hf := (if_pos k202).symm.trans hf
                              refine a_aload (pc' := 677) 8 dL_act_675 rfl rfl ?_
                              refine a_aload (pc' := 679) 13 dL_act_677 rfl rfl ?_
                              refine a_iconst (pc' := 680) (v := (2 : Int32)) dL_act_679 rfl (by decide) ?_
                              obtain ⟨hg, hf⟩ := f_grd_x hf
                              refine b_iald (pc' := 681) hz.2.2.2.2.2.2.2 hg dL_act_680 rfl ?_
                              refine a_iload (pc' := 683) 0 dL_act_681 rfl rfl ?_
                              obtain ⟨hg, hf⟩ := f_grd_x hf
                              refine b_iast (pc' := 684) hz.2.2.2.1 hg dL_act_683 rfl (fun h203 hz1 hfr1 => ?_)
                              obtain ⟨hz1, hfr1⟩ := d_lw_s0 hz.2.2 hz1 hfr1
                              have hz2 := d_al_w hz hz1 hfr1
                              obtain ⟨Y204, hf, hz⟩ := f_let_x (P := fun w => d_al h203 w) hf hz2
                              replace hfr : d_fl h h203 := Eq.trans hfr1.1 hfr
                              refine a_aload (pc' := 686) 9 dL_act_684 rfl rfl ?_
                              refine a_aload (pc' := 688) 13 dL_act_686 rfl rfl ?_
                              refine a_iconst (pc' := 689) (v := (2 : Int32)) dL_act_688 rfl (by decide) ?_
                              obtain ⟨hg, hf⟩ := f_grd_x hf
                              refine b_iald (pc' := 690) hz.2.2.2.2.2.2.2 hg dL_act_689 rfl ?_
                              refine a_iconst (pc' := 691) (v := (0 : Int32)) dL_act_690 rfl (by decide) ?_
                              obtain ⟨hg, hf⟩ := f_grd_x hf
                              refine b_iast (pc' := 692) hz.2.2.2.2.1 hg dL_act_691 rfl (fun h205 hz1 hfr1 => ?_)
                              obtain ⟨hz1, hfr1⟩ := d_lw_s1 hz.2.2 hz1 hfr1
                              have hz2 := d_al_w hz hz1 hfr1
                              obtain ⟨Y206, hf, hz⟩ := f_let_x (P := fun w => d_al h205 w) hf hz2
                              replace hfr : d_fl h h205 := Eq.trans hfr1.1 hfr
                              refine a_aload (pc' := 694) 13 dL_act_692 rfl rfl ?_
                              refine a_iconst (pc' := 695) (v := (2 : Int32)) dL_act_694 rfl (by decide) ?_
                              refine a_dup2 (pc' := 696) dL_act_695 rfl rfl rfl ?_
                              obtain ⟨hg, hf⟩ := f_grd_x hf
                              refine b_iald (pc' := 697) hz.2.2.2.2.2.2.2 hg dL_act_696 rfl ?_
                              refine a_iconst (pc' := 698) (v := (1 : Int32)) dL_act_697 rfl (by decide) ?_
                              refine a_iadd (pc' := 699) dL_act_698 rfl ?_
                              obtain ⟨hg, hf⟩ := f_grd_x hf
                              refine b_iast (pc' := 700) hz.2.2.2.2.2.2.2 hg dL_act_699 rfl (fun h207 hz1 hfr1 => ?_)
                              obtain ⟨hz1, hfr1⟩ := d_lw_s4 hz.2.2 hz1 hfr1
                              have hz2 := d_al_w hz hz1 hfr1
                              obtain ⟨Y208, hf, hz⟩ := f_let_x (P := fun w => d_al h207 w) hf hz2
                              replace hfr : d_fl h h207 := Eq.trans hfr1.1 hfr
                              refine a_aload_n (pc' := 701) 4 dL_act_700 rfl rfl rfl ?_
                              refine a_iload (pc' := 703) 0 dL_act_701 rfl rfl ?_
                              obtain ⟨x210, e209, hf⟩ := f_nx hf
                              refine k_L_145 (pc' := 706) (c_X3_course l g F hz.1 e209) ⟨Nat.le_of_ble_eq_true rfl, Nat.le_of_ble_eq_true rfl⟩ hz.1.1 (Nat.le_of_ble_eq_true rfl) dL_act_703 rfl (fun h211 hq => ?_)
                              obtain ⟨hz1, hfr1⟩ := hq
                              have hz2 := d_al_c hz hz1 hfr1
                              obtain ⟨Y212, hf, hz⟩ := f_let_x (P := fun w => d_al h211 w) hf hz2
                              replace hfr : d_fl h h211 := Eq.trans hfr1.1 hfr
                              refine a_iload (pc' := 708) 2 dL_act_706 rfl rfl ?_
                              refine a_iconst (pc' := 709) (v := (1 : Int32)) dL_act_708 rfl (by decide) ?_
                              refine a_iadd (pc' := 710) dL_act_709 rfl ?_
                              refine a_icmp_ne (pc' := 713) 717 dL_act_710 (by decide) rfl (fun k213 => ?_) (fun k213 => ?_)
                              · replace hf := (if_neg k213).symm.trans hf
                                refine a_iconst (pc' := 718) (v := (0 : Int32)) dL_act_717 rfl (by decide) ?_
                                cases hf
                              · replace hf := (if_pos k213).symm.trans hf
                                refine a_iconst (pc' := 714) (v := (1 : Int32)) dL_act_713 rfl (by decide) ?_
                                refine a_goto 718 dL_act_714 (by decide) ?_
                                cases hf
                                exact a_zret hr rfl ⟨rfl, hz, hfr⟩ dL_act_718
                            · replace hf := (if_neg k202).symm.trans hf
                              refine a_iconst (pc' := 674) (v := (1 : Int32)) dL_act_673 rfl (by decide) ?_
                              cases hf
                              exact a_zret hr rfl ⟨rfl, hz, hfr⟩ dL_act_674
                  · replace hf := (if_neg k122).symm.trans hf
                    refine a_iload_n (pc' := 549) 5 dL_act_548 rfl rfl rfl ?_
                    refine a_iconst (pc' := 550) (v := (4 : Int32)) dL_act_549 rfl (by decide) ?_
                    obtain ⟨x215, e214, hf⟩ := Option.bind_eq_some_iff.mp hf
                    refine k_L_45 (pc' := 553) (c_L_at l g F e214) ⟨Nat.le_of_ble_eq_true rfl, Nat.le_of_ble_eq_true rfl⟩ (Nat.le_of_ble_eq_true rfl) dL_act_550 rfl ?_
                    refine a_istore (pc' := 555) (ls' := [(13, .int x215), (12, .int j3), (11, .int ((Y.2.2.2.2.2.2 ((2 : Int32)).toNatClampNeg) - ((1 : Int32)))), (10, .int (((8 : Int32)) + x2)), (0, .ref 0), (1, .int a1), (2, .int a2), (3, .int a3), (4, .ref 55), (5, .ref 56), (6, .ref 57), (7, .ref 58), (8, .ref 59), (9, .ref 60)]) dL_act_553 (by decide) rfl rfl ?_
                    refine a_aload_n (pc' := 556) 4 dL_act_555 rfl rfl rfl ?_
                    refine a_iload (pc' := 558) 0 dL_act_556 rfl rfl ?_
                    refine a_iconst (pc' := 559) (v := (2 : Int32)) dL_act_558 rfl (by decide) ?_
                    refine a_jn (st2 := [.ref 0]) hf 568 (fun j216 ej216 hf => ?_) (fun j216 hf Jj216 => ?_)
                    · obtain ⟨x219, e218, hf⟩ := f_nx hf
                      refine k_L_142 (pc' := 571) (c_X3_pass l g F hz.1 e218) ⟨Nat.le_of_ble_eq_true rfl, Nat.le_of_ble_eq_true rfl⟩ hz.1.1 (Nat.le_of_ble_eq_true rfl) dL_act_568 rfl (fun h220 hq => ?_)
                      obtain ⟨hz1, hfr1⟩ := hq
                      have hz2 := d_al_c hz hz1 hfr1
                      obtain ⟨Y221, hf, hz⟩ := f_let_x (P := fun w => d_al h220 w) hf hz2
                      replace hfr : d_fl h h220 := Eq.trans hfr1.1 hfr
                      refine a_iload (pc' := 573) 0 dL_act_571 rfl rfl ?_
                      refine a_iconst (pc' := 574) (v := (2 : Int32)) dL_act_573 rfl (by decide) ?_
                      refine a_jn (st2 := [.int x219.1]) hf 583 (fun j222 ej222 hf => ?_) (fun j222 hf Jj222 => ?_)
                      · refine a_aload (pc' := 585) 8 dL_act_583 rfl rfl ?_
                        refine a_aload (pc' := 587) 9 dL_act_585 rfl rfl ?_
                        refine a_aload (pc' := 589) 11 dL_act_587 rfl rfl ?_
                        refine a_aload (pc' := 591) 13 dL_act_589 rfl rfl ?_
                        obtain ⟨x225, e224, hf⟩ := Option.bind_eq_some_iff.mp hf
                        refine k_L_96 (pc' := 594) (c_L_day l g F hz.2.2 e224) ⟨Nat.le_of_ble_eq_true rfl, Nat.le_of_ble_eq_true rfl⟩ (Nat.le_of_ble_eq_true rfl) dL_act_591 rfl (fun h226 hq => ?_)
                        obtain ⟨hz1, hfr1⟩ := hq
                        have hz2 := d_al_w hz hz1 hfr1
                        obtain ⟨Y227, hf, hz⟩ := f_let_x (P := fun w => d_al h226 w) hf hz2
                        replace hfr : d_fl h h226 := Eq.trans hfr1.1 hfr
                        refine a_icmp_ne (pc' := 597) 601 dL_act_594 (by decide) rfl (fun k228 => ?_) (fun k228 => ?_)
                        · replace hf := (if_neg k228).symm.trans hf
                          refine a_iconst (pc' := 602) (v := (0 : Int32)) dL_act_601 rfl (by decide) ?_
                          cases hf
                        · replace hf := (if_pos k228).symm.trans hf
                          refine a_iconst (pc' := 598) (v := (1 : Int32)) dL_act_597 rfl (by decide) ?_
                          refine a_goto 602 dL_act_598 (by decide) ?_
                          cases hf
                          exact a_zret hr rfl ⟨rfl, hz, hfr⟩ dL_act_602
                      · refine a_icmp_le (pc' := 577) 581 dL_act_574 (by decide) rfl (fun k223 => ?_) (fun k223 => ?_)
                        · replace hf := (if_pos k223).symm.trans hf
                          refine a_iload (pc' := 583) 0 dL_act_581 rfl rfl ?_
                          cases hf
                          exact Jj222
                        · replace hf := (if_neg k223).symm.trans hf
                          refine a_iconst (pc' := 578) (v := (0 : Int32)) dL_act_577 rfl (by decide) ?_
                          refine a_goto 583 dL_act_578 (by decide) ?_
                          cases hf
                          exact Jj222
                    · refine a_icmp_le (pc' := 562) 566 dL_act_559 (by decide) rfl (fun k217 => ?_) (fun k217 => ?_)
                      · replace hf := (if_pos k217).symm.trans hf
                        refine a_iload (pc' := 568) 0 dL_act_566 rfl rfl ?_
                        cases hf
                        exact Jj216
                      · replace hf := (if_neg k217).symm.trans hf
                        refine a_iconst (pc' := 563) (v := (0 : Int32)) dL_act_562 rfl (by decide) ?_
                        refine a_goto 568 dL_act_563 (by decide) ?_
                        cases hf
                        exact Jj216
                · replace hf := (if_pos k121).symm.trans hf
                  refine a_aload (pc' := 468) 8 dL_act_466 rfl rfl ?_
                  refine a_aload (pc' := 470) 12 dL_act_468 rfl rfl ?_
                  obtain ⟨x230, e229, hf⟩ := Option.bind_eq_some_iff.mp hf
                  refine k_L_68 (pc' := 473) (c_L_lying l g F hz.2.2 e229) ⟨Nat.le_of_ble_eq_true rfl, Nat.le_of_ble_eq_true rfl⟩ (Nat.le_of_ble_eq_true rfl) dL_act_470 rfl ?_
                  refine a_istore (pc' := 475) (ls' := [(13, .int x230), (12, .int j3), (11, .int ((Y.2.2.2.2.2.2 ((2 : Int32)).toNatClampNeg) - ((1 : Int32)))), (10, .int (((8 : Int32)) + x2)), (0, .ref 0), (1, .int a1), (2, .int a2), (3, .int a3), (4, .ref 55), (5, .ref 56), (6, .ref 57), (7, .ref 58), (8, .ref 59), (9, .ref 60)]) dL_act_473 (by decide) rfl rfl ?_
                  refine a_aload (pc' := 477) 13 dL_act_475 rfl rfl ?_
                  refine a_bipush (pc' := 479) (v := (12 : Int32)) dL_act_477 rfl (by decide) ?_
                  refine a_dup2 (pc' := 480) dL_act_479 rfl rfl rfl ?_
                  obtain ⟨hg, hf⟩ := f_grd_x hf
                  refine b_iald (pc' := 481) hz.2.2.2.2.2.2.2 hg dL_act_480 rfl ?_
                  refine a_iload (pc' := 483) 0 dL_act_481 rfl rfl ?_
                  refine a_iadd (pc' := 484) dL_act_483 rfl ?_
                  obtain ⟨hg, hf⟩ := f_grd_x hf
                  refine b_iast (pc' := 485) hz.2.2.2.2.2.2.2 hg dL_act_484 rfl (fun h231 hz1 hfr1 => ?_)
                  obtain ⟨hz1, hfr1⟩ := d_lw_s4 hz.2.2 hz1 hfr1
                  have hz2 := d_al_w hz hz1 hfr1
                  obtain ⟨Y232, hf, hz⟩ := f_let_x (P := fun w => d_al h231 w) hf hz2
                  replace hfr : d_fl h h231 := Eq.trans hfr1.1 hfr
                  refine a_aload (pc' := 487) 13 dL_act_485 rfl rfl ?_
                  refine a_iconst (pc' := 488) (v := (0 : Int32)) dL_act_487 rfl (by decide) ?_
                  refine a_bipush (pc' := 490) (v := (20 : Int32)) dL_act_488 rfl (by decide) ?_
                  refine a_iload_n (pc' := 491) 6 dL_act_490 rfl rfl rfl ?_
                  refine a_iconst (pc' := 492) (v := (3 : Int32)) dL_act_491 rfl (by decide) ?_
                  refine a_ishr (pc' := 493) dL_act_492 rfl ?_
                  refine a_bipush (pc' := 495) (v := (31 : Int32)) dL_act_493 rfl (by decide) ?_
                  obtain ⟨x234, e233, hf⟩ := Option.bind_eq_some_iff.mp hf
                  refine k_L_45 (pc' := 498) (c_L_at l g F e233) ⟨Nat.le_of_ble_eq_true rfl, Nat.le_of_ble_eq_true rfl⟩ (Nat.le_of_ble_eq_true rfl) dL_act_495 rfl ?_
                  refine a_iadd (pc' := 499) dL_act_498 rfl ?_
                  obtain ⟨hg, hf⟩ := f_grd_x hf
                  refine b_iast (pc' := 500) hz.2.2.2.2.2.2.2 hg dL_act_499 rfl (fun h235 hz1 hfr1 => ?_)
                  obtain ⟨hz1, hfr1⟩ := d_lw_s4 hz.2.2 hz1 hfr1
                  have hz2 := d_al_w hz hz1 hfr1
                  obtain ⟨Y236, hf, hz⟩ := f_let_x (P := fun w => d_al h235 w) hf hz2
                  replace hfr : d_fl h h235 := Eq.trans hfr1.1 hfr
                  refine a_aload (pc' := 502) 13 dL_act_500 rfl rfl ?_
                  refine a_iconst (pc' := 503) (v := (1 : Int32)) dL_act_502 rfl (by decide) ?_
                  refine a_iconst (pc' := 504) (v := (2 : Int32)) dL_act_503 rfl (by decide) ?_
                  refine a_iload_n (pc' := 505) 7 dL_act_504 rfl rfl rfl ?_
                  refine a_iconst (pc' := 506) (v := (3 : Int32)) dL_act_505 rfl (by decide) ?_
                  refine a_ishr (pc' := 507) dL_act_506 rfl ?_
                  refine a_bipush (pc' := 509) (v := (29 : Int32)) dL_act_507 rfl (by decide) ?_
                  obtain ⟨x238, e237, hf⟩ := Option.bind_eq_some_iff.mp hf
                  refine k_L_45 (pc' := 512) (c_L_at l g F e237) ⟨Nat.le_of_ble_eq_true rfl, Nat.le_of_ble_eq_true rfl⟩ (Nat.le_of_ble_eq_true rfl) dL_act_509 rfl ?_
                  refine a_iadd (pc' := 513) dL_act_512 rfl ?_
                  obtain ⟨hg, hf⟩ := f_grd_x hf
                  refine b_iast (pc' := 514) hz.2.2.2.2.2.2.2 hg dL_act_513 rfl (fun h239 hz1 hfr1 => ?_)
                  obtain ⟨hz1, hfr1⟩ := d_lw_s4 hz.2.2 hz1 hfr1
                  have hz2 := d_al_w hz hz1 hfr1
                  obtain ⟨Y240, hf, hz⟩ := f_let_x (P := fun w => d_al h239 w) hf hz2
                  replace hfr : d_fl h h239 := Eq.trans hfr1.1 hfr
                  refine a_aload (pc' := 516) 13 dL_act_514 rfl rfl ?_
                  refine a_iconst (pc' := 517) (v := (2 : Int32)) dL_act_516 rfl (by decide) ?_
                  refine a_iconst (pc' := 518) (v := (0 : Int32)) dL_act_517 rfl (by decide) ?_
                  obtain ⟨hg, hf⟩ := f_grd_x hf
                  refine b_iast (pc' := 519) hz.2.2.2.2.2.2.2 hg dL_act_518 rfl (fun h241 hz1 hfr1 => ?_)
                  obtain ⟨hz1, hfr1⟩ := d_lw_s4 hz.2.2 hz1 hfr1
                  have hz2 := d_al_w hz hz1 hfr1
                  obtain ⟨Y242, hf, hz⟩ := f_let_x (P := fun w => d_al h241 w) hf hz2
                  replace hfr : d_fl h h241 := Eq.trans hfr1.1 hfr
                  refine a_aload_n (pc' := 520) 4 dL_act_519 rfl rfl rfl ?_
                  refine a_aload (pc' := 522) 13 dL_act_520 rfl rfl ?_
                  refine a_iconst (pc' := 523) (v := (0 : Int32)) dL_act_522 rfl (by decide) ?_
                  obtain ⟨hg, hf⟩ := f_grd_x hf
                  refine b_iald (pc' := 524) hz.2.2.2.2.2.2.2 hg dL_act_523 rfl ?_
                  refine a_aload (pc' := 526) 13 dL_act_524 rfl rfl ?_
                  refine a_iconst (pc' := 527) (v := (1 : Int32)) dL_act_526 rfl (by decide) ?_
                  obtain ⟨hg, hf⟩ := f_grd_x hf
                  refine b_iald (pc' := 528) hz.2.2.2.2.2.2.2 hg dL_act_527 rfl ?_
                  obtain ⟨x244, e243, hf⟩ := f_nx hf
                  refine k_L_139 (pc' := 531) (c_X3_begin l g F hz.1 e243) ⟨Nat.le_of_ble_eq_true rfl, Nat.le_of_ble_eq_true rfl⟩ hz.1.1 (Nat.le_of_ble_eq_true rfl) dL_act_528 rfl (fun h245 hq => ?_)
                  obtain ⟨hz1, hfr1⟩ := hq
                  have hz2 := d_al_c hz hz1 hfr1
                  obtain ⟨Y246, hf, hz⟩ := f_let_x (P := fun w => d_al h245 w) hf hz2
                  replace hfr : d_fl h h245 := Eq.trans hfr1.1 hfr
                  refine a_iload (pc' := 533) 0 dL_act_531 rfl rfl ?_
                  refine a_icmp_ne (pc' := 536) 540 dL_act_533 (by decide) rfl (fun k247 => ?_) (fun k247 => ?_)
                  · replace hf := (if_neg k247).symm.trans hf
                    refine a_iconst (pc' := 541) (v := (0 : Int32)) dL_act_540 rfl (by decide) ?_
                    cases hf
                  · replace hf := (if_pos k247).symm.trans hf
                    refine a_iconst (pc' := 537) (v := (1 : Int32)) dL_act_536 rfl (by decide) ?_
                    refine a_goto 541 dL_act_537 (by decide) ?_
                    cases hf
                    exact a_zret hr rfl ⟨rfl, hz, hfr⟩ dL_act_541
            · replace hf := (if_pos k10).symm.trans hf
              refine a_aload (pc' := 400) 12 dL_act_398 rfl rfl ?_
              refine a_bipush (pc' := 402) (v := (9 : Int32)) dL_act_400 rfl (by decide) ?_
              obtain ⟨hg, hf⟩ := f_grd_x hf
              refine b_iald (pc' := 403) hz.2.2.2.2.2.2.2 hg dL_act_402 rfl ?_
              refine a_istore (pc' := 405) (ls' := [(13, .int (Y.2.2.2.2.2.2 ((9 : Int32)).toNatClampNeg)), (12, .int j3), (11, .int ((Y.2.2.2.2.2.2 ((2 : Int32)).toNatClampNeg) - ((1 : Int32)))), (10, .int (((8 : Int32)) + x2)), (0, .ref 0), (1, .int a1), (2, .int a2), (3, .int a3), (4, .ref 55), (5, .ref 56), (6, .ref 57), (7, .ref 58), (8, .ref 59), (9, .ref 60)]) dL_act_403 (by decide) rfl rfl ?_
              refine a_aload (pc' := 407) 13 dL_act_405 rfl rfl ?_
              refine a_bipush (pc' := 409) (v := (9 : Int32)) dL_act_407 rfl (by decide) ?_
              refine a_iload_n (pc' := 410) 7 dL_act_409 rfl rfl rfl ?_
              refine a_iconst (pc' := 411) (v := (3 : Int32)) dL_act_410 rfl (by decide) ?_
              obtain ⟨x249, e248, hf⟩ := Option.bind_eq_some_iff.mp hf
              refine k_L_45 (pc' := 414) (c_L_at l g F e248) ⟨Nat.le_of_ble_eq_true rfl, Nat.le_of_ble_eq_true rfl⟩ (Nat.le_of_ble_eq_true rfl) dL_act_411 rfl ?_
              refine a_jn (st2 := [.int ((9 : Int32)), .ref 60]) hf 422 (fun j250 ej250 hf => ?_) (fun j250 hf Jj250 => ?_)
              · obtain ⟨hg, hf⟩ := f_grd_x hf
                refine b_iast (pc' := 423) hz.2.2.2.2.2.2.2 hg dL_act_422 rfl (fun h252 hz1 hfr1 => ?_)
                obtain ⟨hz1, hfr1⟩ := d_lw_s4 hz.2.2 hz1 hfr1
                have hz2 := d_al_w hz hz1 hfr1
                obtain ⟨Y253, hf, hz⟩ := f_let_x (P := fun w => d_al h252 w) hf hz2
                replace hfr : d_fl h h252 := Eq.trans hfr1.1 hfr
                refine a_aload_n (pc' := 424) 4 dL_act_423 rfl rfl rfl ?_
                refine a_aload (pc' := 426) 13 dL_act_424 rfl rfl ?_
                refine a_bipush (pc' := 428) (v := (9 : Int32)) dL_act_426 rfl (by decide) ?_
                obtain ⟨hg, hf⟩ := f_grd_x hf
                refine b_iald (pc' := 429) hz.2.2.2.2.2.2.2 hg dL_act_428 rfl ?_
                refine a_iconst (pc' := 430) (v := (1 : Int32)) dL_act_429 rfl (by decide) ?_
                refine a_jn (st2 := [.ref 0]) hf 438 (fun j254 ej254 hf => ?_) (fun j254 hf Jj254 => ?_)
                · obtain ⟨x257, e256, hf⟩ := Option.bind_eq_some_iff.mp hf
                  refine k_L_135 (pc' := 441) (c_X3_cover l g F hz.1 e256) ⟨Nat.le_of_ble_eq_true rfl, Nat.le_of_ble_eq_true rfl⟩ hz.1.1 (Nat.le_of_ble_eq_true rfl) dL_act_438 rfl (fun h258 hq => ?_)
                  obtain ⟨hz1, hfr1⟩ := hq
                  have hz2 := d_al_c hz hz1 hfr1
                  obtain ⟨Y259, hf, hz⟩ := f_let_x (P := fun w => d_al h258 w) hf hz2
                  replace hfr : d_fl h h258 := Eq.trans hfr1.1 hfr
                  refine a_iload (pc' := 443) 0 dL_act_441 rfl rfl ?_
                  refine a_icmp_ne (pc' := 446) 450 dL_act_443 (by decide) rfl (fun k260 => ?_) (fun k260 => ?_)
                  · replace hf := (if_neg k260).symm.trans hf
                    refine a_iconst (pc' := 451) (v := (0 : Int32)) dL_act_450 rfl (by decide) ?_
                    cases hf
                  · replace hf := (if_pos k260).symm.trans hf
                    refine a_iconst (pc' := 447) (v := (1 : Int32)) dL_act_446 rfl (by decide) ?_
                    refine a_goto 451 dL_act_447 (by decide) ?_
                    cases hf
                    exact a_zret hr rfl ⟨rfl, hz, hfr⟩ dL_act_451
                · refine a_icmp_ne (pc' := 433) 437 dL_act_430 (by decide) rfl (fun k255 => ?_) (fun k255 => ?_)
                  · replace hf := (if_neg k255).symm.trans hf
                    refine a_iconst (pc' := 438) (v := (0 : Int32)) dL_act_437 rfl (by decide) ?_
                    cases hf
                    exact Jj254
                  · replace hf := (if_pos k255).symm.trans hf
                    refine a_iconst (pc' := 434) (v := (1 : Int32)) dL_act_433 rfl (by decide) ?_
                    refine a_goto 438 dL_act_434 (by decide) ?_
                    cases hf
                    exact Jj254
              · refine a_if_ne (pc' := 417) 421 dL_act_414 (by decide) rfl (fun k251 => ?_) (fun k251 => ?_)
                · replace hf := (if_neg k251).symm.trans hf
                  refine a_iconst (pc' := 422) (v := (0 : Int32)) dL_act_421 rfl (by decide) ?_
                  cases hf
                  exact Jj250
                · replace hf := (if_pos k251).symm.trans hf
                  refine a_iconst (pc' := 418) (v := (1 : Int32)) dL_act_417 rfl (by decide) ?_
                  refine a_goto 422 dL_act_418 (by decide) ?_
                  cases hf
                  exact Jj250
          · replace hf := (if_pos k9).symm.trans hf
            refine a_iconst (pc' := 309) (v := (0 : Int32)) dL_act_308 rfl (by decide) ?_
            refine a_istore (pc' := 311) (ls' := [(13, .int ((0 : Int32))), (12, .int j3), (11, .int ((Y.2.2.2.2.2.2 ((2 : Int32)).toNatClampNeg) - ((1 : Int32)))), (10, .int (((8 : Int32)) + x2)), (0, .ref 0), (1, .int a1), (2, .int a2), (3, .int a3), (4, .ref 55), (5, .ref 56), (6, .ref 57), (7, .ref 58), (8, .ref 59), (9, .ref 60)]) dL_act_309 (by decide) rfl rfl ?_
            refine a_bipush (pc' := 313) (v := (8 : Int32)) dL_act_311 rfl (by decide) ?_
            refine a_istore (pc' := 315) (ls' := [(14, .int ((8 : Int32))), (13, .int ((0 : Int32))), (12, .int j3), (11, .int ((Y.2.2.2.2.2.2 ((2 : Int32)).toNatClampNeg) - ((1 : Int32)))), (10, .int (((8 : Int32)) + x2)), (0, .ref 0), (1, .int a1), (2, .int a2), (3, .int a3), (4, .ref 55), (5, .ref 56), (6, .ref 57), (7, .ref 58), (8, .ref 59), (9, .ref 60)]) dL_act_313 (by decide) rfl rfl ?_
            obtain ⟨o261, e262, hf⟩ := Option.bind_eq_some_iff.mp hf
            refine a_sub [5, 8, 12, 14, 4, 1, 0] rfl ?_
            refine l_L_act_L315 F a3 x2  F _ _ _ o261 e262 (fun e9 he9 h263 hz hfr => ?_) _ hz hfr
            subst he9
            refine a_aload (pc' := 354) 2 dL_act_352 rfl rfl ?_
            refine a_bipush (pc' := 356) (v := (11 : Int32)) dL_act_354 rfl (by decide) ?_
            refine a_dup2 (pc' := 357) dL_act_356 rfl rfl rfl ?_
            obtain ⟨hg, hf⟩ := f_grd_x hf
            refine b_iald (pc' := 358) hz.2.2.2.2.2.2.2 hg dL_act_357 rfl ?_
            refine a_iload (pc' := 360) 4 dL_act_358 rfl rfl ?_
            refine a_iadd (pc' := 361) dL_act_360 rfl ?_
            obtain ⟨hg, hf⟩ := f_grd_x hf
            refine b_iast (pc' := 362) hz.2.2.2.2.2.2.2 hg dL_act_361 rfl (fun h264 hz1 hfr1 => ?_)
            obtain ⟨hz1, hfr1⟩ := d_lw_s4 hz.2.2 hz1 hfr1
            have hz2 := d_al_w hz hz1 hfr1
            obtain ⟨Y265, hf, hz⟩ := f_let_x (P := fun w => d_al h264 w) hf hz2
            replace hfr : d_fl h h264 := Eq.trans hfr1.1 hfr
            refine a_aload_n (pc' := 363) 0 dL_act_362 rfl rfl rfl ?_
            refine a_iload_n (pc' := 364) 1 dL_act_363 rfl rfl rfl ?_
            refine a_iconst (pc' := 365) (v := (3 : Int32)) dL_act_364 rfl (by decide) ?_
            obtain ⟨x267, e266, hf⟩ := Option.bind_eq_some_iff.mp hf
            refine k_L_45 (pc' := 368) (c_L_at l g F e266) ⟨Nat.le_of_ble_eq_true rfl, Nat.le_of_ble_eq_true rfl⟩ (Nat.le_of_ble_eq_true rfl) dL_act_365 rfl ?_
            refine a_jn (st2 := [.ref 0]) hf 378 (fun j268 ej268 hf => ?_) (fun j268 hf Jj268 => ?_)
            · obtain ⟨x271, e270, hf⟩ := f_nx hf
              refine k_L_132 (pc' := 381) (c_X3_clearHeap l g F hz.1 e270) ⟨Nat.le_of_ble_eq_true rfl, Nat.le_of_ble_eq_true rfl⟩ hz.1.1 (Nat.le_of_ble_eq_true rfl) dL_act_378 rfl (fun h272 hq => ?_)
              obtain ⟨hz1, hfr1⟩ := hq
              have hz2 := d_al_c hz hz1 hfr1
              obtain ⟨Y273, hf, hz⟩ := f_let_x (P := fun w => d_al h272 w) hf hz2
              replace hfr : d_fl h h272 := Eq.trans hfr1.1 hfr
              refine a_iload (pc' := 383) 4 dL_act_381 rfl rfl ?_
              refine a_icmp_ne (pc' := 386) 390 dL_act_383 (by decide) rfl (fun k274 => ?_) (fun k274 => ?_)
              · replace hf := (if_neg k274).symm.trans hf
                refine a_iconst (pc' := 391) (v := (0 : Int32)) dL_act_390 rfl (by decide) ?_
                cases hf
              · replace hf := (if_pos k274).symm.trans hf
                refine a_iconst (pc' := 387) (v := (1 : Int32)) dL_act_386 rfl (by decide) ?_
                refine a_goto 391 dL_act_387 (by decide) ?_
                cases hf
                exact a_zret hr rfl ⟨rfl, hz, hfr⟩ dL_act_391
            · refine a_if_ne (pc' := 371) 376 dL_act_368 (by decide) rfl (fun k269 => ?_) (fun k269 => ?_)
              · replace hf := (if_neg k269).symm.trans hf
                refine a_bipush (pc' := 378) (v := (8 : Int32)) dL_act_376 rfl (by decide) ?_
                cases hf
                exact Jj268
              · replace hf := (if_pos k269).symm.trans hf
                refine a_iload (pc' := 373) 3 dL_act_371 rfl rfl ?_
                refine a_goto 378 dL_act_373 (by decide) ?_
                cases hf
                exact Jj268
        · replace hf := (if_pos k8).symm.trans hf
          refine a_bipush (pc' := 189) (v := (8 : Int32)) dL_act_187 rfl (by decide) ?_
          refine a_iload_n (pc' := 190) 6 dL_act_189 rfl rfl rfl ?_
          refine a_bipush (pc' := 192) (v := (13 : Int32)) dL_act_190 rfl (by decide) ?_
          obtain ⟨x276, e275, hf⟩ := Option.bind_eq_some_iff.mp hf
          refine k_L_45 (pc' := 195) (c_L_at l g F e275) ⟨Nat.le_of_ble_eq_true rfl, Nat.le_of_ble_eq_true rfl⟩ (Nat.le_of_ble_eq_true rfl) dL_act_192 rfl ?_
          refine a_iadd (pc' := 196) dL_act_195 rfl ?_
          refine a_istore (pc' := 198) (ls' := [(13, .int (((8 : Int32)) + x276)), (12, .int j3), (11, .int ((Y.2.2.2.2.2.2 ((2 : Int32)).toNatClampNeg) - ((1 : Int32)))), (10, .int (((8 : Int32)) + x2)), (0, .ref 0), (1, .int a1), (2, .int a2), (3, .int a3), (4, .ref 55), (5, .ref 56), (6, .ref 57), (7, .ref 58), (8, .ref 59), (9, .ref 60)]) dL_act_196 (by decide) rfl rfl ?_
          refine a_iload (pc' := 200) 0 dL_act_198 rfl rfl ?_
          refine a_iload (pc' := 202) 3 dL_act_200 rfl rfl ?_
          refine a_iconst (pc' := 203) (v := (4 : Int32)) dL_act_202 rfl (by decide) ?_
          refine a_isub (pc' := 204) dL_act_203 rfl ?_
          refine a_icmp_gt (pc' := 207) 215 dL_act_204 (by decide) rfl (fun k277 => ?_) (fun k277 => ?_)
          · replace hf := (if_pos k277).symm.trans hf
            refine a_iconst (pc' := 216) (v := (1 : Int32)) dL_act_215 rfl (by decide) ?_
            cases hf
            exact a_zret hr rfl ⟨rfl, hz, hfr⟩ dL_act_216
          · replace hf := (if_neg k277).symm.trans hf
            refine a_aload (pc' := 209) 11 dL_act_207 rfl rfl ?_
            refine a_iload (pc' := 211) 3 dL_act_209 rfl rfl ?_
            obtain ⟨hg, hf⟩ := f_grd_x hf
            refine b_iald (pc' := 212) hz.2.2.2.2.2.2.1 hg dL_act_211 rfl ?_
            refine a_if_ne (pc' := 215) 217 dL_act_212 (by decide) rfl (fun k278 => ?_) (fun k278 => ?_)
            · replace hf := (if_neg k278).symm.trans hf
              refine a_iconst (pc' := 218) (v := (1 : Int32)) dL_act_217 rfl (by decide) ?_
              refine a_iload_n (pc' := 219) 7 dL_act_218 rfl rfl rfl ?_
              refine a_iconst (pc' := 220) (v := (4 : Int32)) dL_act_219 rfl (by decide) ?_
              refine a_ishr (pc' := 221) dL_act_220 rfl ?_
              refine a_aload (pc' := 223) 11 dL_act_221 rfl rfl ?_
              refine a_iload (pc' := 225) 3 dL_act_223 rfl rfl ?_
              obtain ⟨hg, hf⟩ := f_grd_x hf
              refine b_iald (pc' := 226) hz.2.2.2.2.2.2.1 hg dL_act_225 rfl ?_
              refine a_sipush (pc' := 229) (v := (200 : Int32)) dL_act_226 rfl (by decide) ?_
              refine a_jn (st2 := [.int (a3 >>> (((4 : Int32)) &&& 31)), .int ((1 : Int32))]) hf 243 (fun j279 ej279 hf => ?_) (fun j279 hf Jj279 => ?_)
              · obtain ⟨x282, e281, hf⟩ := Option.bind_eq_some_iff.mp hf
                refine k_L_45 (pc' := 246) (c_L_at l g F e281) ⟨Nat.le_of_ble_eq_true rfl, Nat.le_of_ble_eq_true rfl⟩ (Nat.le_of_ble_eq_true rfl) dL_act_243 rfl ?_
                refine a_iadd (pc' := 247) dL_act_246 rfl ?_
                refine a_istore (pc' := 249) (ls' := [(14, .int (((1 : Int32)) + x282)), (13, .int (((8 : Int32)) + x276)), (12, .int j3), (11, .int ((Y.2.2.2.2.2.2 ((2 : Int32)).toNatClampNeg) - ((1 : Int32)))), (10, .int (((8 : Int32)) + x2)), (0, .ref 0), (1, .int a1), (2, .int a2), (3, .int a3), (4, .ref 55), (5, .ref 56), (6, .ref 57), (7, .ref 58), (8, .ref 59), (9, .ref 60)]) dL_act_247 (by decide) rfl rfl ?_
                refine a_aload (pc' := 251) 12 dL_act_249 rfl rfl ?_
                refine a_iload (pc' := 253) 4 dL_act_251 rfl rfl ?_
                refine a_dup2 (pc' := 254) dL_act_253 rfl rfl rfl ?_
                obtain ⟨hg, hf⟩ := f_grd_x hf
                refine b_iald (pc' := 255) hz.2.2.2.2.2.2.1 hg dL_act_254 rfl ?_
                refine a_iload (pc' := 257) 0 dL_act_255 rfl rfl ?_
                refine a_isub (pc' := 258) dL_act_257 rfl ?_
                obtain ⟨hg, hf⟩ := f_grd_x hf
                refine b_iast (pc' := 259) hz.2.2.2.2.2.2.1 hg dL_act_258 rfl (fun h283 hz1 hfr1 => ?_)
                obtain ⟨hz1, hfr1⟩ := d_lw_s3 hz.2.2 hz1 hfr1
                have hz2 := d_al_w hz hz1 hfr1
                obtain ⟨Y284, hf, hz⟩ := f_let_x (P := fun w => d_al h283 w) hf hz2
                replace hfr : d_fl h h283 := Eq.trans hfr1.1 hfr
                refine a_aload (pc' := 261) 11 dL_act_259 rfl rfl ?_
                refine a_iload (pc' := 263) 1 dL_act_261 rfl rfl ?_
                refine a_dup2 (pc' := 264) dL_act_263 rfl rfl rfl ?_
                obtain ⟨hg, hf⟩ := f_grd_x hf
                refine b_iald (pc' := 265) hz.2.2.2.2.2.1 hg dL_act_264 rfl ?_
                refine a_iload (pc' := 267) 0 dL_act_265 rfl rfl ?_
                refine a_iadd (pc' := 268) dL_act_267 rfl ?_
                obtain ⟨hg, hf⟩ := f_grd_x hf
                refine b_iast (pc' := 269) hz.2.2.2.2.2.1 hg dL_act_268 rfl (fun h285 hz1 hfr1 => ?_)
                obtain ⟨hz1, hfr1⟩ := d_lw_s2 hz.2.2 hz1 hfr1
                have hz2 := d_al_w hz hz1 hfr1
                obtain ⟨Y286, hf, hz⟩ := f_let_x (P := fun w => d_al h285 w) hf hz2
                replace hfr : d_fl h h285 := Eq.trans hfr1.1 hfr
                refine a_aload (pc' := 271) 14 dL_act_269 rfl rfl ?_
                refine a_bipush (pc' := 273) (v := (10 : Int32)) dL_act_271 rfl (by decide) ?_
                refine a_dup2 (pc' := 274) dL_act_273 rfl rfl rfl ?_
                obtain ⟨hg, hf⟩ := f_grd_x hf
                refine b_iald (pc' := 275) hz.2.2.2.2.2.2.2 hg dL_act_274 rfl ?_
                refine a_iload (pc' := 277) 0 dL_act_275 rfl rfl ?_
                refine a_iadd (pc' := 278) dL_act_277 rfl ?_
                obtain ⟨hg, hf⟩ := f_grd_x hf
                refine b_iast (pc' := 279) hz.2.2.2.2.2.2.2 hg dL_act_278 rfl (fun h287 hz1 hfr1 => ?_)
                obtain ⟨hz1, hfr1⟩ := d_lw_s4 hz.2.2 hz1 hfr1
                have hz2 := d_al_w hz hz1 hfr1
                obtain ⟨Y288, hf, hz⟩ := f_let_x (P := fun w => d_al h287 w) hf hz2
                replace hfr : d_fl h h287 := Eq.trans hfr1.1 hfr
                refine a_aload_n (pc' := 280) 5 dL_act_279 rfl rfl rfl ?_
                refine a_iload (pc' := 282) 4 dL_act_280 rfl rfl ?_
                refine a_iload (pc' := 284) 1 dL_act_282 rfl rfl ?_
                refine a_iload (pc' := 286) 0 dL_act_284 rfl rfl ?_
                obtain ⟨x290, e289, hf⟩ := f_nx hf
                refine k_L_129 (pc' := 289) (c_X3_recut l g F hz.1 e289) ⟨Nat.le_of_ble_eq_true rfl, Nat.le_of_ble_eq_true rfl⟩ hz.1.1 (Nat.le_of_ble_eq_true rfl) dL_act_286 rfl (fun h291 hq => ?_)
                obtain ⟨hz1, hfr1⟩ := hq
                have hz2 := d_al_c hz hz1 hfr1
                obtain ⟨Y292, hf, hz⟩ := f_let_x (P := fun w => d_al h291 w) hf hz2
                replace hfr : d_fl h h291 := Eq.trans hfr1.1 hfr
                refine a_aload (pc' := 291) 12 dL_act_289 rfl rfl ?_
                refine a_iload (pc' := 293) 4 dL_act_291 rfl rfl ?_
                obtain ⟨hg, hf⟩ := f_grd_x hf
                refine b_iald (pc' := 294) hz.2.2.2.2.2.2.1 hg dL_act_293 rfl ?_
                refine a_icmp_ne (pc' := 297) 301 dL_act_294 (by decide) rfl (fun k293 => ?_) (fun k293 => ?_)
                · replace hf := (if_neg k293).symm.trans hf
                  refine a_iconst (pc' := 302) (v := (0 : Int32)) dL_act_301 rfl (by decide) ?_
                  cases hf
                · replace hf := (if_pos k293).symm.trans hf
                  refine a_iconst (pc' := 298) (v := (1 : Int32)) dL_act_297 rfl (by decide) ?_
                  refine a_goto 302 dL_act_298 (by decide) ?_
                  cases hf
                  exact a_zret hr rfl ⟨rfl, hz, hfr⟩ dL_act_302
              · refine a_icmp_le (pc' := 232) 238 dL_act_229 (by decide) rfl (fun k280 => ?_) (fun k280 => ?_)
                · replace hf := (if_pos k280).symm.trans hf
                  refine a_aload (pc' := 240) 11 dL_act_238 rfl rfl ?_
                  refine a_iload (pc' := 242) 3 dL_act_240 rfl rfl ?_
                  obtain ⟨hg, hf⟩ := f_grd_x hf
                  refine b_iald (pc' := 243) hz.2.2.2.2.2.2.1 hg dL_act_242 rfl ?_
                  cases hf
                  exact Jj279
                · replace hf := (if_neg k280).symm.trans hf
                  refine a_sipush (pc' := 235) (v := (200 : Int32)) dL_act_232 rfl (by decide) ?_
                  refine a_goto 243 dL_act_235 (by decide) ?_
                  cases hf
                  exact Jj279
            · replace hf := (if_pos k278).symm.trans hf
              refine a_iconst (pc' := 216) (v := (1 : Int32)) dL_act_215 rfl (by decide) ?_
              cases hf
              exact a_zret hr rfl ⟨rfl, hz, hfr⟩ dL_act_216
      · replace hf := (if_pos k7).symm.trans hf
        refine a_iload_n (pc' := 103) 5 dL_act_102 rfl rfl rfl ?_
        refine a_iconst (pc' := 104) (v := (3 : Int32)) dL_act_103 rfl (by decide) ?_
        obtain ⟨x295, e294, hf⟩ := Option.bind_eq_some_iff.mp hf
        refine k_L_45 (pc' := 107) (c_L_at l g F e294) ⟨Nat.le_of_ble_eq_true rfl, Nat.le_of_ble_eq_true rfl⟩ (Nat.le_of_ble_eq_true rfl) dL_act_104 rfl ?_
        refine a_istore (pc' := 109) (ls' := [(13, .int x295), (12, .int j3), (11, .int ((Y.2.2.2.2.2.2 ((2 : Int32)).toNatClampNeg) - ((1 : Int32)))), (10, .int (((8 : Int32)) + x2)), (0, .ref 0), (1, .int a1), (2, .int a2), (3, .int a3), (4, .ref 55), (5, .ref 56), (6, .ref 57), (7, .ref 58), (8, .ref 59), (9, .ref 60)]) dL_act_107 (by decide) rfl rfl ?_
        refine a_aload (pc' := 111) 13 dL_act_109 rfl rfl ?_
        refine a_iconst (pc' := 112) (v := (3 : Int32)) dL_act_111 rfl (by decide) ?_
        refine a_iload (pc' := 114) 0 dL_act_112 rfl rfl ?_
        refine a_iadd (pc' := 115) dL_act_114 rfl ?_
        obtain ⟨hg, hf⟩ := f_grd_x hf
        refine b_iald (pc' := 116) hz.2.2.2.2.2.2.2 hg dL_act_115 rfl ?_
        refine a_istore (pc' := 118) (ls' := [(14, .int (Y.2.2.2.2.2.2 (((3 : Int32)) + x295).toNatClampNeg)), (13, .int x295), (12, .int j3), (11, .int ((Y.2.2.2.2.2.2 ((2 : Int32)).toNatClampNeg) - ((1 : Int32)))), (10, .int (((8 : Int32)) + x2)), (0, .ref 0), (1, .int a1), (2, .int a2), (3, .int a3), (4, .ref 55), (5, .ref 56), (6, .ref 57), (7, .ref 58), (8, .ref 59), (9, .ref 60)]) dL_act_116 (by decide) rfl rfl ?_
        refine a_aload (pc' := 120) 14 dL_act_118 rfl rfl ?_
        refine a_iconst (pc' := 121) (v := (3 : Int32)) dL_act_120 rfl (by decide) ?_
        refine a_iload (pc' := 123) 1 dL_act_121 rfl rfl ?_
        refine a_iadd (pc' := 124) dL_act_123 rfl ?_
        refine a_iload (pc' := 126) 1 dL_act_124 rfl rfl ?_
        refine a_jn (st2 := [.int (((3 : Int32)) + x295), .ref 60]) hf 157 (fun j296 ej296 hf => ?_) (fun j296 hf Jj296 => ?_)
        · obtain ⟨hg, hf⟩ := f_grd_x hf
          refine b_iast (pc' := 158) hz.2.2.2.2.2.2.2 hg dL_act_157 rfl (fun h304 hz1 hfr1 => ?_)
          obtain ⟨hz1, hfr1⟩ := d_lw_s4 hz.2.2 hz1 hfr1
          have hz2 := d_al_w hz hz1 hfr1
          obtain ⟨Y305, hf, hz⟩ := f_let_x (P := fun w => d_al h304 w) hf hz2
          replace hfr : d_fl h h304 := Eq.trans hfr1.1 hfr
          refine a_aload_n (pc' := 159) 5 dL_act_158 rfl rfl rfl ?_
          refine a_iload (pc' := 161) 1 dL_act_159 rfl rfl ?_
          refine a_aload (pc' := 163) 14 dL_act_161 rfl rfl ?_
          refine a_iconst (pc' := 164) (v := (3 : Int32)) dL_act_163 rfl (by decide) ?_
          refine a_iload (pc' := 166) 1 dL_act_164 rfl rfl ?_
          refine a_iadd (pc' := 167) dL_act_166 rfl ?_
          obtain ⟨hg, hf⟩ := f_grd_x hf
          refine b_iald (pc' := 168) hz.2.2.2.2.2.2.2 hg dL_act_167 rfl ?_
          obtain ⟨x307, e306, hf⟩ := f_nx hf
          refine k_L_126 (pc' := 171) (c_X3_set l g F hz.1 e306) ⟨Nat.le_of_ble_eq_true rfl, Nat.le_of_ble_eq_true rfl⟩ hz.1.1 (Nat.le_of_ble_eq_true rfl) dL_act_168 rfl (fun h308 hq => ?_)
          obtain ⟨hz1, hfr1⟩ := hq
          have hz2 := d_al_c hz hz1 hfr1
          obtain ⟨Y309, hf, hz⟩ := f_let_x (P := fun w => d_al h308 w) hf hz2
          replace hfr : d_fl h h308 := Eq.trans hfr1.1 hfr
          refine a_iload (pc' := 173) 0 dL_act_171 rfl rfl ?_
          refine a_icmp_ne (pc' := 176) 180 dL_act_173 (by decide) rfl (fun k310 => ?_) (fun k310 => ?_)
          · replace hf := (if_neg k310).symm.trans hf
            refine a_iconst (pc' := 181) (v := (0 : Int32)) dL_act_180 rfl (by decide) ?_
            cases hf
          · replace hf := (if_pos k310).symm.trans hf
            refine a_iconst (pc' := 177) (v := (1 : Int32)) dL_act_176 rfl (by decide) ?_
            refine a_goto 181 dL_act_177 (by decide) ?_
            cases hf
            exact a_zret hr rfl ⟨rfl, hz, hfr⟩ dL_act_181
        · refine a_if_ne (pc' := 129) 139 dL_act_126 (by decide) rfl (fun k297 => ?_) (fun k297 => ?_)
          · replace hf := (if_neg k297).symm.trans hf
            refine a_iconst (pc' := 140) (v := (1 : Int32)) dL_act_139 rfl (by decide) ?_
            refine a_iload_n (pc' := 141) 8 dL_act_140 rfl rfl rfl ?_
            refine a_iload (pc' := 143) 1 dL_act_141 rfl rfl ?_
            refine a_iconst (pc' := 144) (v := (1 : Int32)) dL_act_143 rfl (by decide) ?_
            refine a_jn (st2 := [.int a3, .int ((1 : Int32)), .int (((3 : Int32)) + x295), .ref 60]) hf 153 (fun j298 ej298 hf => ?_) (fun j298 hf Jj298 => ?_)
            · obtain ⟨x301, e300, hf⟩ := Option.bind_eq_some_iff.mp hf
              refine k_L_45 (pc' := 156) (c_L_at l g F e300) ⟨Nat.le_of_ble_eq_true rfl, Nat.le_of_ble_eq_true rfl⟩ (Nat.le_of_ble_eq_true rfl) dL_act_153 rfl ?_
              refine a_iadd (pc' := 157) dL_act_156 rfl ?_
              cases hf
              exact Jj296
            · refine a_icmp_ne (pc' := 147) 152 dL_act_144 (by decide) rfl (fun k299 => ?_) (fun k299 => ?_)
              · replace hf := (if_neg k299).symm.trans hf
                refine a_iconst (pc' := 153) (v := (5 : Int32)) dL_act_152 rfl (by decide) ?_
                cases hf
                exact Jj298
              · replace hf := (if_pos k299).symm.trans hf
                refine a_bipush (pc' := 149) (v := (60 : Int32)) dL_act_147 rfl (by decide) ?_
                refine a_goto 153 dL_act_149 (by decide) ?_
                cases hf
                exact Jj298
          · replace hf := (if_pos k297).symm.trans hf
            refine a_iconst (pc' := 130) (v := (2 : Int32)) dL_act_129 rfl (by decide) ?_
            refine a_iload_n (pc' := 131) 8 dL_act_130 rfl rfl rfl ?_
            refine a_iconst (pc' := 132) (v := (5 : Int32)) dL_act_131 rfl (by decide) ?_
            obtain ⟨x303, e302, hf⟩ := Option.bind_eq_some_iff.mp hf
            refine k_L_45 (pc' := 135) (c_L_at l g F e302) ⟨Nat.le_of_ble_eq_true rfl, Nat.le_of_ble_eq_true rfl⟩ (Nat.le_of_ble_eq_true rfl) dL_act_132 rfl ?_
            refine a_iadd (pc' := 136) dL_act_135 rfl ?_
            refine a_goto 157 dL_act_136 (by decide) ?_
            cases hf
            exact Jj296
    · replace hf := (if_neg k6).symm.trans hf
      refine a_aload_n (pc' := 48) 3 dL_act_47 rfl rfl rfl ?_
      refine a_iload (pc' := 50) 2 dL_act_48 rfl rfl ?_
      refine a_iconst (pc' := 51) (v := (1 : Int32)) dL_act_50 rfl (by decide) ?_
      refine a_iload_n (pc' := 52) 6 dL_act_51 rfl rfl rfl ?_
      refine a_bipush (pc' := 54) (v := (60 : Int32)) dL_act_52 rfl (by decide) ?_
      obtain ⟨x312, e311, hf⟩ := Option.bind_eq_some_iff.mp hf
      refine k_L_45 (pc' := 57) (c_L_at l g F e311) ⟨Nat.le_of_ble_eq_true rfl, Nat.le_of_ble_eq_true rfl⟩ (Nat.le_of_ble_eq_true rfl) dL_act_54 rfl ?_
      refine a_iadd (pc' := 58) dL_act_57 rfl ?_
      refine a_iload_n (pc' := 59) 6 dL_act_58 rfl rfl rfl ?_
      refine a_iload_n (pc' := 60) 5 dL_act_59 rfl rfl rfl ?_
      refine a_isub (pc' := 61) dL_act_60 rfl ?_
      obtain ⟨x314, e313, hf⟩ := f_nx hf
      refine k_L_118 (pc' := 64) (c_X3_buy l g F hz.1 e313) ⟨Nat.le_of_ble_eq_true rfl, Nat.le_of_ble_eq_true rfl⟩ hz.1.1 (Nat.le_of_ble_eq_true rfl) dL_act_61 rfl (fun h315 hq => ?_)
      obtain ⟨hz1, hfr1⟩ := hq
      have hz2 := d_al_c hz hz1 hfr1
      obtain ⟨Y316, hf, hz⟩ := f_let_x (P := fun w => d_al h315 w) hf hz2
      replace hfr : d_fl h h315 := Eq.trans hfr1.1 hfr
      refine a_iload (pc' := 66) 2 dL_act_64 rfl rfl ?_
      refine a_iconst (pc' := 67) (v := (1 : Int32)) dL_act_66 rfl (by decide) ?_
      refine a_iload_n (pc' := 68) 6 dL_act_67 rfl rfl rfl ?_
      refine a_bipush (pc' := 70) (v := (60 : Int32)) dL_act_68 rfl (by decide) ?_
      obtain ⟨x318, e317, hf⟩ := Option.bind_eq_some_iff.mp hf
      refine k_L_45 (pc' := 73) (c_L_at l g F e317) ⟨Nat.le_of_ble_eq_true rfl, Nat.le_of_ble_eq_true rfl⟩ (Nat.le_of_ble_eq_true rfl) dL_act_70 rfl ?_
      refine a_iadd (pc' := 74) dL_act_73 rfl ?_
      refine a_iload_n (pc' := 75) 6 dL_act_74 rfl rfl rfl ?_
      refine a_iload_n (pc' := 76) 5 dL_act_75 rfl rfl rfl ?_
      refine a_isub (pc' := 77) dL_act_76 rfl ?_
      refine a_aload (pc' := 79) 9 dL_act_77 rfl rfl ?_
      refine a_aload (pc' := 81) 10 dL_act_79 rfl rfl ?_
      refine a_aload (pc' := 83) 11 dL_act_81 rfl rfl ?_
      refine a_aload (pc' := 85) 12 dL_act_83 rfl rfl ?_
      obtain ⟨x320, e319, hf⟩ := Option.bind_eq_some_iff.mp hf
      refine k_L_122 (pc' := 88) (c_L_bought l g F hz e319) ⟨Nat.le_of_ble_eq_true rfl, Nat.le_of_ble_eq_true rfl⟩ (Nat.le_of_ble_eq_true rfl) dL_act_85 rfl (fun h321 hq => ?_)
      obtain ⟨hz1, hfr1⟩ := hq
      obtain ⟨Y322, hf, hz⟩ := f_let_x (P := fun w => d_al h321 w) hf hz1
      replace hfr : d_fl h h321 := Eq.trans hfr1 hfr
      refine a_icmp_ne (pc' := 91) 95 dL_act_88 (by decide) rfl (fun k323 => ?_) (fun k323 => ?_)
      · replace hf := (if_neg k323).symm.trans hf
        refine a_iconst (pc' := 96) (v := (0 : Int32)) dL_act_95 rfl (by decide) ?_
        cases hf
      · replace hf := (if_pos k323).symm.trans hf
        refine a_iconst (pc' := 92) (v := (1 : Int32)) dL_act_91 rfl (by decide) ?_
        refine a_goto 96 dL_act_92 (by decide) ?_
        cases hf
        exact a_zret hr rfl ⟨rfl, hz, hfr⟩ dL_act_96
  · refine a_if_ne (pc' := 27) 39 dL_act_24 (by decide) rfl (fun k4 => ?_) (fun k4 => ?_)
    · replace hf := (if_neg k4).symm.trans hf
      refine a_iconst (pc' := 40) (v := (0 : Int32)) dL_act_39 rfl (by decide) ?_
      cases hf
      exact Jj3
    · replace hf := (if_pos k4).symm.trans hf
      refine a_aload (pc' := 29) 11 dL_act_27 rfl rfl ?_
      refine a_bipush (pc' := 31) (v := (9 : Int32)) dL_act_29 rfl (by decide) ?_
      obtain ⟨hg, hf⟩ := f_grd_x hf
      refine b_iald (pc' := 32) hz.2.2.2.2.2.2.2 hg dL_act_31 rfl ?_
      refine a_if_ne (pc' := 35) 39 dL_act_32 (by decide) rfl (fun k5 => ?_) (fun k5 => ?_)
      · replace hf := (if_neg k5).symm.trans hf
        refine a_iconst (pc' := 40) (v := (0 : Int32)) dL_act_39 rfl (by decide) ?_
        cases hf
        exact Jj3
      · replace hf := (if_pos k5).symm.trans hf
        refine a_iconst (pc' := 36) (v := (1 : Int32)) dL_act_35 rfl (by decide) ?_
        refine a_goto 40 dL_act_36 (by decide) ?_
        cases hf
        exact Jj3
