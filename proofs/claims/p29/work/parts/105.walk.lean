/-! SlateRoofLaw.courses(LSlateRoof;II[I[I[I)Z -/
set_option maxRecDepth 100000 in
def f_L_courses_L18 (F : Nat) (Y : d_A) (a1 : Int32) : Nat → Int32 → Int32 → Option (Int32 × Int32)
  | 0, _, _ => none
  | n + 1, v7_18, v8_18 => (f_L_places F Y.2.2 a1).bind fun x19002 => (if x19002 ≤ v8_18 then some (v7_18, v8_18) else f_grd a1 61 (((if (((Y.2.2.2.1 a1.toNatClampNeg) >>> (v8_18 &&& 31)) &&& ((1 : Int32))) = 0 then some (v8_18) else some (v7_18))).bind fun j19004 => f_L_courses_L18 F Y a1 n j19004 (v8_18 + (1 : Int32))))
set_option maxRecDepth 100000 in
def f_L_courses (F : Nat) (Y : d_A) (a1 : Int32) (a2 : Int32) : Option (Int32) := (f_L_places F Y.2.2 a1).bind fun x2 => (f_L_at F a2 x2).bind fun x4 => (f_L_courses_L18 F Y a1 F ((-1 : Int32)) ((0 : Int32))).bind fun o5 => f_nt (f_X3_courseOf F Y.1 a1 ((0 : Int32))) fun x8 => f_grd a1 61 ((if x8 = (Y.2.2.1 a1.toNatClampNeg) then f_nt (f_X3_courseOf F Y.1 a1 ((1 : Int32))) fun x11 => (f_L_places F Y.2.2 a1).bind fun x13 => (if x11 = x13 then f_nt (f_X3_courseOf F Y.1 a1 ((2 : Int32))) fun x16 => f_grd a1 61 ((f_L_ones F (Y.2.2.2.1 a1.toNatClampNeg)).bind fun x18 => (if x16 = x18 then f_nt (f_X3_courseOf F Y.1 a1 ((3 : Int32))) fun x21 => f_grd a1 61 (f_grd ((3 : Int32)) 14 ((if x21 = (((Y.2.2.1 a1.toNatClampNeg) - (Y.2.2.2.2.2.2 ((3 : Int32)).toNatClampNeg)) / ((2 : Int32))) then f_nt (f_X3_courseOf F Y.1 a1 ((4 : Int32))) fun x24 => (f_L_top F Y.2.2 (a1 + ((1 : Int32)))).bind fun x26 => (if x24 = x26 then f_nt (f_X3_courseOf F Y.1 a1 ((5 : Int32))) fun x29 => (f_L_gap F Y.2.2 a1).bind fun x31 => (if x29 = x31 then f_nt (f_X3_courseOf F Y.1 a1 ((6 : Int32))) fun x34 => (if x34 = o5.1 then f_nt (f_X3_lies F Y.1 a1 x4) fun x37 => f_grd a1 61 (((if (((Y.2.2.2.1 a1.toNatClampNeg) >>> (x4 &&& 31)) &&& ((1 : Int32))) = ((1 : Int32)) then some ((1 : Int32)) else some ((0 : Int32)))).bind fun j38 => (if x37 = j38 then some ((1 : Int32)) else none)) else none) else none) else none) else none))) else none)) else none) else none))
set_option maxHeartbeats 4000000 in
set_option maxRecDepth 100000 in
theorem l_L_courses_L18 {p : Program} {l : Launch} {e : Env} {s : State} {m : MethodId} {args : Array Value} {below : List Frame} {meth : Method} {c : Code} {Q : State → Prop} {g : a_G} (F : Nat) {h : List va_E} (Y : d_A) (a1 : Int32) (x4 : Int32) (hz : d_al h Y) : ∀ (n : Nat) (v7_18 : Int32) (v8_18 : Int32) (o : Int32 × Int32), f_L_courses_L18 F Y a1 n v7_18 v8_18 = some o → (∀ e9 : Int32 × Int32, o = e9 → a_W p l e (a_rm 4 88) s m args below meth c Q RL cL_courses 9 g 0 0 none 56 [(0, .ref 0), (1, .int a1), (3, .ref 55), (4, .ref 56), (5, .ref 60), (6, .int x4), (7, .int e9.1)] [] h) → a_W p l e (a_rm 4 88) s m args below meth c Q RL cL_courses 9 g 0 0 none 18 [(0, .ref 0), (1, .int a1), (3, .ref 55), (4, .ref 56), (5, .ref 60), (6, .int x4), (7, .int v7_18), (8, .int v8_18)] [] h := by
  intro n
  induction n with
  | zero => intro v7_18 v8_18 o hf; exact nomatch (show (none : Option (Int32 × Int32)) = some o from hf)
  | succ n ih =>
    intro v7_18 v8_18 o hf hX0
    rw [f_L_courses_L18] at hf
    refine a_iload (pc' := 20) 7 dL_courses_18 rfl rfl ?_
    refine a_iload_n (pc' := 21) 1 dL_courses_20 rfl rfl rfl ?_
    refine a_aload (pc' := 23) 4 dL_courses_21 rfl rfl ?_
    obtain ⟨x19002, e19001, hf⟩ := Option.bind_eq_some_iff.mp hf
    refine k_L_8 (pc' := 26) (c_L_places l g F hz.2.2 e19001) ⟨Nat.le_of_ble_eq_true rfl, Nat.le_of_ble_eq_true rfl⟩ (Nat.le_of_ble_eq_true rfl) dL_courses_23 rfl ?_
    refine a_icmp_ge (pc' := 29) 56 dL_courses_26 (by decide) rfl (fun k19003 => ?_) (fun k19003 => ?_)
    · replace hf := (if_pos k19003).symm.trans hf
      cases hf
      refine a_sub [0, 1, 2, 3, 4, 5, 6] rfl ?_
      exact hX0 _ rfl
    · replace hf := (if_neg k19003).symm.trans hf
      refine a_aload (pc' := 31) 3 dL_courses_29 rfl rfl ?_
      refine a_iload_n (pc' := 32) 1 dL_courses_31 rfl rfl rfl ?_
      obtain ⟨hg, hf⟩ := f_grd_x hf
      refine b_iald (pc' := 33) hz.2.2.2.2.1 hg dL_courses_32 rfl ?_
      refine a_iload (pc' := 35) 7 dL_courses_33 rfl rfl ?_
      refine a_ishr (pc' := 36) dL_courses_35 rfl ?_
      refine a_iconst (pc' := 37) (v := (1 : Int32)) dL_courses_36 rfl (by decide) ?_
      refine a_iand (pc' := 38) dL_courses_37 rfl ?_
      refine a_jn (st2 := []) hf 48 (fun j19004 ej19004 hf => ?_) (fun j19004 hf Jj19004 => ?_)
      · refine a_istore (pc' := 50) (ls' := [(7, .int j19004), (0, .ref 0), (1, .int a1), (3, .ref 55), (4, .ref 56), (5, .ref 60), (6, .int x4), (8, .int v8_18)]) dL_courses_48 (by decide) rfl rfl ?_
        refine a_iinc (pc' := 53) (v := v8_18 + (1 : Int32)) (ls' := [(8, .int (v8_18 + (1 : Int32))), (7, .int j19004), (0, .ref 0), (1, .int a1), (3, .ref 55), (4, .ref 56), (5, .ref 60), (6, .int x4)]) 7 dL_courses_50 rfl (by rfl) (by decide) rfl rfl ?_
        refine a_goto 18 dL_courses_53 (by decide) ?_
        refine a_sub [2, 3, 4, 5, 6, 7, 1, 0] rfl ?_
        exact ih _ _ _ hf hX0
      · refine a_if_ne (pc' := 41) 46 dL_courses_38 (by decide) rfl (fun k19005 => ?_) (fun k19005 => ?_)
        · replace hf := (if_neg k19005).symm.trans hf
          refine a_iload (pc' := 48) 6 dL_courses_46 rfl rfl ?_
          cases hf
          exact Jj19004
        · replace hf := (if_pos k19005).symm.trans hf
          refine a_iload (pc' := 43) 7 dL_courses_41 rfl rfl ?_
          refine a_goto 48 dL_courses_43 (by decide) ?_
          cases hf
          exact Jj19004
set_option maxHeartbeats 4000000 in
set_option maxRecDepth 100000 in
theorem c_L_courses (l : Launch) (g : a_G) (F : Nat) {h : List va_E} {Y : d_A} {a1 : Int32} {a2 : Int32} (hz : d_al h Y) {out : Int32} (hf : f_L_courses F Y a1 a2 = some out) : a_CT l g yL_courses cL_courses 9 (some .boolean) (a_rm 4 88) [.ref 0, .int a1, .int a2, .ref 55, .ref 56, .ref 60] h none none (fun r h' => r = some (.int out) ∧ h' = h) := by
  refine a_enter ⟨by decide, rfl, Nat.le_of_ble_eq_true rfl⟩ (fun p e s m args below meth c hr hin => ?_)
  unfold f_L_courses at hf
  refine a_sub (ls' := [(0, .ref 0), (1, .int a1), (2, .int a2), (3, .ref 55), (4, .ref 56), (5, .ref 60)]) [0, 1, 2, 3, 4, 5] rfl ?_
  refine a_iload_n (pc' := 1) 2 dL_courses_0 rfl rfl rfl ?_
  refine a_iload_n (pc' := 2) 1 dL_courses_1 rfl rfl rfl ?_
  refine a_aload (pc' := 4) 5 dL_courses_2 rfl rfl ?_
  obtain ⟨x2, e1, hf⟩ := Option.bind_eq_some_iff.mp hf
  refine k_L_8 (pc' := 7) (c_L_places l g F hz.2.2 e1) ⟨Nat.le_of_ble_eq_true rfl, Nat.le_of_ble_eq_true rfl⟩ (Nat.le_of_ble_eq_true rfl) dL_courses_4 rfl ?_
  obtain ⟨x4, e3, hf⟩ := Option.bind_eq_some_iff.mp hf
  refine k_L_45 (pc' := 10) (c_L_at l g F e3) ⟨Nat.le_of_ble_eq_true rfl, Nat.le_of_ble_eq_true rfl⟩ (Nat.le_of_ble_eq_true rfl) dL_courses_7 rfl ?_
  refine a_istore (pc' := 12) (ls' := [(6, .int x4), (0, .ref 0), (1, .int a1), (2, .int a2), (3, .ref 55), (4, .ref 56), (5, .ref 60)]) dL_courses_10 (by decide) rfl rfl ?_
  refine a_iconst (pc' := 13) (v := (-1 : Int32)) dL_courses_12 rfl (by decide) ?_
  refine a_istore (pc' := 15) (ls' := [(7, .int ((-1 : Int32))), (6, .int x4), (0, .ref 0), (1, .int a1), (2, .int a2), (3, .ref 55), (4, .ref 56), (5, .ref 60)]) dL_courses_13 (by decide) rfl rfl ?_
  refine a_iconst (pc' := 16) (v := (0 : Int32)) dL_courses_15 rfl (by decide) ?_
  refine a_istore (pc' := 18) (ls' := [(8, .int ((0 : Int32))), (7, .int ((-1 : Int32))), (6, .int x4), (0, .ref 0), (1, .int a1), (2, .int a2), (3, .ref 55), (4, .ref 56), (5, .ref 60)]) dL_courses_16 (by decide) rfl rfl ?_
  obtain ⟨o5, e6, hf⟩ := Option.bind_eq_some_iff.mp hf
  refine a_sub [3, 4, 6, 7, 8, 2, 1, 0] rfl ?_
  refine l_L_courses_L18 F Y a1 x4 hz F _ _ o5 e6 (fun e9 he9 => ?_)
  subst he9
  refine a_aload_n (pc' := 57) 0 dL_courses_56 rfl rfl rfl ?_
  refine a_iload_n (pc' := 58) 1 dL_courses_57 rfl rfl rfl ?_
  refine a_iconst (pc' := 59) (v := (0 : Int32)) dL_courses_58 rfl (by decide) ?_
  obtain ⟨x8, e7, hf⟩ := f_nx hf
  refine k_L_49 (pc' := 62) (c_X3_courseOf l g F hz.1 e7) ⟨Nat.le_of_ble_eq_true rfl, Nat.le_of_ble_eq_true rfl⟩ hz.1.1 (Nat.le_of_ble_eq_true rfl) dL_courses_59 rfl ?_
  refine a_aload_n (pc' := 63) 2 dL_courses_62 rfl rfl rfl ?_
  refine a_iload_n (pc' := 64) 1 dL_courses_63 rfl rfl rfl ?_
  obtain ⟨hg, hf⟩ := f_grd_x hf
  refine b_iald (pc' := 65) hz.2.2.2.1 hg dL_courses_64 rfl ?_
  refine a_icmp_ne (pc' := 68) 136 dL_courses_65 (by decide) rfl (fun k9 => ?_) (fun k9 => ?_)
  · replace hf := (if_neg k9).symm.trans hf
    refine a_iconst (pc' := 137) (v := (0 : Int32)) dL_courses_136 rfl (by decide) ?_
    cases hf
  · replace hf := (if_pos k9).symm.trans hf
    refine a_aload_n (pc' := 69) 0 dL_courses_68 rfl rfl rfl ?_
    refine a_iload_n (pc' := 70) 1 dL_courses_69 rfl rfl rfl ?_
    refine a_iconst (pc' := 71) (v := (1 : Int32)) dL_courses_70 rfl (by decide) ?_
    obtain ⟨x11, e10, hf⟩ := f_nx hf
    refine k_L_49 (pc' := 74) (c_X3_courseOf l g F hz.1 e10) ⟨Nat.le_of_ble_eq_true rfl, Nat.le_of_ble_eq_true rfl⟩ hz.1.1 (Nat.le_of_ble_eq_true rfl) dL_courses_71 rfl ?_
    refine a_iload_n (pc' := 75) 1 dL_courses_74 rfl rfl rfl ?_
    refine a_aload (pc' := 77) 4 dL_courses_75 rfl rfl ?_
    obtain ⟨x13, e12, hf⟩ := Option.bind_eq_some_iff.mp hf
    refine k_L_8 (pc' := 80) (c_L_places l g F hz.2.2 e12) ⟨Nat.le_of_ble_eq_true rfl, Nat.le_of_ble_eq_true rfl⟩ (Nat.le_of_ble_eq_true rfl) dL_courses_77 rfl ?_
    refine a_icmp_ne (pc' := 83) 136 dL_courses_80 (by decide) rfl (fun k14 => ?_) (fun k14 => ?_)
    · replace hf := (if_neg k14).symm.trans hf
      refine a_iconst (pc' := 137) (v := (0 : Int32)) dL_courses_136 rfl (by decide) ?_
      cases hf
    · replace hf := (if_pos k14).symm.trans hf
      refine a_aload_n (pc' := 84) 0 dL_courses_83 rfl rfl rfl ?_
      refine a_iload_n (pc' := 85) 1 dL_courses_84 rfl rfl rfl ?_
      refine a_iconst (pc' := 86) (v := (2 : Int32)) dL_courses_85 rfl (by decide) ?_
      obtain ⟨x16, e15, hf⟩ := f_nx hf
      refine k_L_49 (pc' := 89) (c_X3_courseOf l g F hz.1 e15) ⟨Nat.le_of_ble_eq_true rfl, Nat.le_of_ble_eq_true rfl⟩ hz.1.1 (Nat.le_of_ble_eq_true rfl) dL_courses_86 rfl ?_
      refine a_aload (pc' := 91) 3 dL_courses_89 rfl rfl ?_
      refine a_iload_n (pc' := 92) 1 dL_courses_91 rfl rfl rfl ?_
      obtain ⟨hg, hf⟩ := f_grd_x hf
      refine b_iald (pc' := 93) hz.2.2.2.2.1 hg dL_courses_92 rfl ?_
      obtain ⟨x18, e17, hf⟩ := Option.bind_eq_some_iff.mp hf
      refine k_L_15 (pc' := 96) (c_L_ones l g F e17) ⟨Nat.le_of_ble_eq_true rfl, Nat.le_of_ble_eq_true rfl⟩ (Nat.le_of_ble_eq_true rfl) dL_courses_93 rfl ?_
      refine a_icmp_ne (pc' := 99) 136 dL_courses_96 (by decide) rfl (fun k19 => ?_) (fun k19 => ?_)
      · replace hf := (if_neg k19).symm.trans hf
        refine a_iconst (pc' := 137) (v := (0 : Int32)) dL_courses_136 rfl (by decide) ?_
        cases hf
      · replace hf := (if_pos k19).symm.trans hf
        refine a_aload_n (pc' := 100) 0 dL_courses_99 rfl rfl rfl ?_
        refine a_iload_n (pc' := 101) 1 dL_courses_100 rfl rfl rfl ?_
        refine a_iconst (pc' := 102) (v := (3 : Int32)) dL_courses_101 rfl (by decide) ?_
        obtain ⟨x21, e20, hf⟩ := f_nx hf
        refine k_L_49 (pc' := 105) (c_X3_courseOf l g F hz.1 e20) ⟨Nat.le_of_ble_eq_true rfl, Nat.le_of_ble_eq_true rfl⟩ hz.1.1 (Nat.le_of_ble_eq_true rfl) dL_courses_102 rfl ?_
        refine a_aload_n (pc' := 106) 2 dL_courses_105 rfl rfl rfl ?_
        refine a_iload_n (pc' := 107) 1 dL_courses_106 rfl rfl rfl ?_
        obtain ⟨hg, hf⟩ := f_grd_x hf
        refine b_iald (pc' := 108) hz.2.2.2.1 hg dL_courses_107 rfl ?_
        refine a_aload (pc' := 110) 4 dL_courses_108 rfl rfl ?_
        refine a_iconst (pc' := 111) (v := (3 : Int32)) dL_courses_110 rfl (by decide) ?_
        obtain ⟨hg, hf⟩ := f_grd_x hf
        refine b_iald (pc' := 112) hz.2.2.2.2.2.2.2 hg dL_courses_111 rfl ?_
        refine a_isub (pc' := 113) dL_courses_112 rfl ?_
        refine a_iconst (pc' := 114) (v := (2 : Int32)) dL_courses_113 rfl (by decide) ?_
        refine a_idiv (pc' := 115) dL_courses_114 rfl (by decide) ?_
        refine a_icmp_ne (pc' := 118) 136 dL_courses_115 (by decide) rfl (fun k22 => ?_) (fun k22 => ?_)
        · replace hf := (if_neg k22).symm.trans hf
          refine a_iconst (pc' := 137) (v := (0 : Int32)) dL_courses_136 rfl (by decide) ?_
          cases hf
        · replace hf := (if_pos k22).symm.trans hf
          refine a_aload_n (pc' := 119) 0 dL_courses_118 rfl rfl rfl ?_
          refine a_iload_n (pc' := 120) 1 dL_courses_119 rfl rfl rfl ?_
          refine a_iconst (pc' := 121) (v := (4 : Int32)) dL_courses_120 rfl (by decide) ?_
          obtain ⟨x24, e23, hf⟩ := f_nx hf
          refine k_L_49 (pc' := 124) (c_X3_courseOf l g F hz.1 e23) ⟨Nat.le_of_ble_eq_true rfl, Nat.le_of_ble_eq_true rfl⟩ hz.1.1 (Nat.le_of_ble_eq_true rfl) dL_courses_121 rfl ?_
          refine a_iload_n (pc' := 125) 1 dL_courses_124 rfl rfl rfl ?_
          refine a_iconst (pc' := 126) (v := (1 : Int32)) dL_courses_125 rfl (by decide) ?_
          refine a_iadd (pc' := 127) dL_courses_126 rfl ?_
          refine a_aload_n (pc' := 128) 2 dL_courses_127 rfl rfl rfl ?_
          refine a_aload (pc' := 130) 4 dL_courses_128 rfl rfl ?_
          obtain ⟨x26, e25, hf⟩ := Option.bind_eq_some_iff.mp hf
          refine k_L_19 (pc' := 133) (c_L_top l g F hz.2.2 e25) ⟨Nat.le_of_ble_eq_true rfl, Nat.le_of_ble_eq_true rfl⟩ (Nat.le_of_ble_eq_true rfl) dL_courses_130 rfl ?_
          refine a_icmp_eq (pc' := 136) 138 dL_courses_133 (by decide) rfl (fun k27 => ?_) (fun k27 => ?_)
          · replace hf := (if_pos k27).symm.trans hf
            refine a_aload_n (pc' := 139) 0 dL_courses_138 rfl rfl rfl ?_
            refine a_iload_n (pc' := 140) 1 dL_courses_139 rfl rfl rfl ?_
            refine a_iconst (pc' := 141) (v := (5 : Int32)) dL_courses_140 rfl (by decide) ?_
            obtain ⟨x29, e28, hf⟩ := f_nx hf
            refine k_L_49 (pc' := 144) (c_X3_courseOf l g F hz.1 e28) ⟨Nat.le_of_ble_eq_true rfl, Nat.le_of_ble_eq_true rfl⟩ hz.1.1 (Nat.le_of_ble_eq_true rfl) dL_courses_141 rfl ?_
            refine a_iload_n (pc' := 145) 1 dL_courses_144 rfl rfl rfl ?_
            refine a_aload (pc' := 147) 3 dL_courses_145 rfl rfl ?_
            refine a_aload (pc' := 149) 4 dL_courses_147 rfl rfl ?_
            obtain ⟨x31, e30, hf⟩ := Option.bind_eq_some_iff.mp hf
            refine k_L_38 (pc' := 152) (c_L_gap l g F hz.2.2 e30) ⟨Nat.le_of_ble_eq_true rfl, Nat.le_of_ble_eq_true rfl⟩ (Nat.le_of_ble_eq_true rfl) dL_courses_149 rfl ?_
            refine a_icmp_ne (pc' := 155) 199 dL_courses_152 (by decide) rfl (fun k32 => ?_) (fun k32 => ?_)
            · replace hf := (if_neg k32).symm.trans hf
              refine a_iconst (pc' := 200) (v := (0 : Int32)) dL_courses_199 rfl (by decide) ?_
              cases hf
            · replace hf := (if_pos k32).symm.trans hf
              refine a_aload_n (pc' := 156) 0 dL_courses_155 rfl rfl rfl ?_
              refine a_iload_n (pc' := 157) 1 dL_courses_156 rfl rfl rfl ?_
              refine a_bipush (pc' := 159) (v := (6 : Int32)) dL_courses_157 rfl (by decide) ?_
              obtain ⟨x34, e33, hf⟩ := f_nx hf
              refine k_L_49 (pc' := 162) (c_X3_courseOf l g F hz.1 e33) ⟨Nat.le_of_ble_eq_true rfl, Nat.le_of_ble_eq_true rfl⟩ hz.1.1 (Nat.le_of_ble_eq_true rfl) dL_courses_159 rfl ?_
              refine a_iload (pc' := 164) 6 dL_courses_162 rfl rfl ?_
              refine a_icmp_ne (pc' := 167) 199 dL_courses_164 (by decide) rfl (fun k35 => ?_) (fun k35 => ?_)
              · replace hf := (if_neg k35).symm.trans hf
                refine a_iconst (pc' := 200) (v := (0 : Int32)) dL_courses_199 rfl (by decide) ?_
                cases hf
              · replace hf := (if_pos k35).symm.trans hf
                refine a_aload_n (pc' := 168) 0 dL_courses_167 rfl rfl rfl ?_
                refine a_iload_n (pc' := 169) 1 dL_courses_168 rfl rfl rfl ?_
                refine a_iload (pc' := 171) 5 dL_courses_169 rfl rfl ?_
                obtain ⟨x37, e36, hf⟩ := f_nx hf
                refine k_L_54 (pc' := 174) (c_X3_lies l g F hz.1 e36) ⟨Nat.le_of_ble_eq_true rfl, Nat.le_of_ble_eq_true rfl⟩ hz.1.1 (Nat.le_of_ble_eq_true rfl) dL_courses_171 rfl ?_
                refine a_aload (pc' := 176) 3 dL_courses_174 rfl rfl ?_
                refine a_iload_n (pc' := 177) 1 dL_courses_176 rfl rfl rfl ?_
                obtain ⟨hg, hf⟩ := f_grd_x hf
                refine b_iald (pc' := 178) hz.2.2.2.2.1 hg dL_courses_177 rfl ?_
                refine a_iload (pc' := 180) 5 dL_courses_178 rfl rfl ?_
                refine a_ishr (pc' := 181) dL_courses_180 rfl ?_
                refine a_iconst (pc' := 182) (v := (1 : Int32)) dL_courses_181 rfl (by decide) ?_
                refine a_iand (pc' := 183) dL_courses_182 rfl ?_
                refine a_iconst (pc' := 184) (v := (1 : Int32)) dL_courses_183 rfl (by decide) ?_
                refine a_jn (st2 := [.int x37]) hf 192 (fun j38 ej38 hf => ?_) (fun j38 hf Jj38 => ?_)
                · refine a_icmp_ne (pc' := 195) 199 dL_courses_192 (by decide) rfl (fun k40 => ?_) (fun k40 => ?_)
                  · replace hf := (if_neg k40).symm.trans hf
                    refine a_iconst (pc' := 200) (v := (0 : Int32)) dL_courses_199 rfl (by decide) ?_
                    cases hf
                  · replace hf := (if_pos k40).symm.trans hf
                    refine a_iconst (pc' := 196) (v := (1 : Int32)) dL_courses_195 rfl (by decide) ?_
                    refine a_goto 200 dL_courses_196 (by decide) ?_
                    cases hf
                    exact a_zret hr rfl ⟨rfl, rfl⟩ dL_courses_200
                · refine a_icmp_ne (pc' := 187) 191 dL_courses_184 (by decide) rfl (fun k39 => ?_) (fun k39 => ?_)
                  · replace hf := (if_neg k39).symm.trans hf
                    refine a_iconst (pc' := 192) (v := (0 : Int32)) dL_courses_191 rfl (by decide) ?_
                    cases hf
                    exact Jj38
                  · replace hf := (if_pos k39).symm.trans hf
                    refine a_iconst (pc' := 188) (v := (1 : Int32)) dL_courses_187 rfl (by decide) ?_
                    refine a_goto 192 dL_courses_188 (by decide) ?_
                    cases hf
                    exact Jj38
          · replace hf := (if_neg k27).symm.trans hf
            refine a_iconst (pc' := 137) (v := (0 : Int32)) dL_courses_136 rfl (by decide) ?_
            cases hf
/-! SlateRoofLaw.told(LSlateRoof;I[I[I[I[I[I[I)Z -/
set_option maxRecDepth 100000 in
def f_L_told_L6 (F : Nat) (Y : d_A) : Nat → Int32 → Int32 → Option (Int32 × Int32)
  | 0, _, _ => none
  | n + 1, v8_6, v9_6 => f_grd ((2 : Int32)) 14 ((if (Y.2.2.2.2.2.2 ((2 : Int32)).toNatClampNeg) ≤ v9_6 then some (v8_6, v9_6) else (f_L_places F Y.2.2 v9_6).bind fun x7003 => f_grd v9_6 61 ((f_L_ones F (Y.2.2.2.1 v9_6.toNatClampNeg)).bind fun x7005 => f_L_told_L6 F Y n (v8_6 + (x7003 - x7005)) (v9_6 + (1 : Int32)))))
set_option maxRecDepth 100000 in
def f_L_told_L44 (F : Nat) (Y : d_A) (a1 : Int32) : Nat → Int32 → Option ((Int32) ⊕ (Int32))
  | 0, _ => none
  | n + 1, v9_44 => (if ((3 : Int32)) ≤ v9_44 then some (.inl (v9_44)) else f_grd ((2 : Int32)) 14 ((if (Y.2.2.2.2.2.2 ((2 : Int32)).toNatClampNeg) ≤ 0 then some (.inl (v9_44)) else f_grd ((2 : Int32)) 14 ((f_L_at F ((a1 >>> ((((3 : Int32)) * v9_44) &&& 31)) + v9_44) (Y.2.2.2.2.2.2 ((2 : Int32)).toNatClampNeg)).bind fun x45004 => (f_L_courses F Y x45004 (a1 >>> (v9_44 &&& 31))).bind fun x45006 => (if x45006 = 0 then some (.inr ((v9_44))) else f_L_told_L44 F Y a1 n (v9_44 + (1 : Int32)))))))
set_option maxRecDepth 100000 in
def f_L_told_L115 (F : Nat) (Y : d_A) (x7 : Int32) : Nat → Int32 → Int32 → Option (Int32 × Int32)
  | 0, _, _ => none
  | n + 1, v10_115, v11_115 => f_grd ((2 : Int32)) 14 ((if (Y.2.2.2.2.2.2 ((2 : Int32)).toNatClampNeg) ≤ v11_115 then some (v10_115, v11_115) else f_grd v11_115 61 (((if (Y.2.2.1 v11_115.toNatClampNeg) = (((8 : Int32)) + x7) then f_grd v11_115 61 ((f_L_ones F (Y.2.2.2.1 v11_115.toNatClampNeg)).bind fun x116005 => some (x116005)) else some ((0 : Int32)))).bind fun j116002 => f_L_told_L115 F Y x7 n (v10_115 + j116002) (v11_115 + (1 : Int32)))))
set_option maxRecDepth 100000 in
def f_L_told_L340 (F : Nat) (Y : d_A) : Nat → Int32 → Option ((Int32) ⊕ (Int32))
  | 0, _ => none
  | n + 1, v11_340 => (if ((4 : Int32)) ≤ v11_340 then some (.inl (v11_340)) else f_nt (f_X3_count F Y.1 (((7 : Int32)) + v11_340)) fun x341003 => f_grd (((6 : Int32)) + v11_340) 14 ((if x341003 = (Y.2.2.2.2.2.2 (((6 : Int32)) + v11_340).toNatClampNeg) then f_nt (f_X3_count F Y.1 (((14 : Int32)) + v11_340)) fun x341006 => f_grd (((10 : Int32)) + v11_340) 14 ((if x341006 = (Y.2.2.2.2.2.2 (((10 : Int32)) + v11_340).toNatClampNeg) then f_L_told_L340 F Y n (v11_340 + (1 : Int32)) else some (.inr ((v11_340))))) else some (.inr ((v11_340))))))
set_option maxRecDepth 100000 in
def f_L_told_L397 (F : Nat) (Y : d_A) : Nat → Int32 → Option ((Int32) ⊕ (Int32))
  | 0, _ => none
  | n + 1, v11_397 => (if ((3 : Int32)) ≤ v11_397 then some (.inl (v11_397)) else f_nt (f_X3_setting F Y.1 v11_397) fun x398003 => f_grd (((3 : Int32)) + v11_397) 14 ((if x398003 = (Y.2.2.2.2.2.2 (((3 : Int32)) + v11_397).toNatClampNeg) then f_L_told_L397 F Y n (v11_397 + (1 : Int32)) else some (.inr ((v11_397))))))
set_option maxRecDepth 100000 in
def f_L_told (F : Nat) (Y : d_A) (a1 : Int32) : Option (Int32) := (f_L_told_L6 F Y F ((0 : Int32)) ((0 : Int32))).bind fun o1 => (f_L_told_L44 F Y a1 F ((0 : Int32))).bind (fun w9 => Sum.elim (fun w5 => (f_L_at F (a1 >>> (((2 : Int32)) &&& 31)) ((17 : Int32))).bind fun x7 => (f_L_told_L115 F Y x7 F ((0 : Int32)) ((0 : Int32))).bind fun o8 => f_nt (f_X3_slates F Y.1 (((8 : Int32)) + x7) ((0 : Int32))) fun x11 => f_grd (((8 : Int32)) + x7) 25 ((if x11 = (Y.2.2.2.2.1 (((8 : Int32)) + x7).toNatClampNeg) then f_nt (f_X3_slates F Y.1 (((8 : Int32)) + x7) ((1 : Int32))) fun x14 => f_grd (((8 : Int32)) + x7) 25 ((if x14 = (Y.2.2.2.2.2.1 (((8 : Int32)) + x7).toNatClampNeg) then f_nt (f_X3_slates F Y.1 (((8 : Int32)) + x7) ((2 : Int32))) fun x17 => (if x17 = o8.1 then f_nt (f_X3_slates F Y.1 (((8 : Int32)) + x7) ((3 : Int32))) fun x20 => f_grd (((8 : Int32)) + x7) 25 ((if x20 = (Y.2.1 (((8 : Int32)) + x7).toNatClampNeg) then f_nt (f_X3_slates F Y.1 (((8 : Int32)) + x7) ((4 : Int32))) fun x23 => (if x23 = (((((8 : Int32)) + x7) * (((8 : Int32)) + x7)) / ((16 : Int32))) then f_nt (f_X3_count F Y.1 ((0 : Int32))) fun x26 => f_grd ((0 : Int32)) 14 ((if x26 = (Y.2.2.2.2.2.2 ((0 : Int32)).toNatClampNeg) then f_nt (f_X3_count F Y.1 ((1 : Int32))) fun x29 => f_grd ((1 : Int32)) 14 ((if x29 = (Y.2.2.2.2.2.2 ((1 : Int32)).toNatClampNeg) then f_nt (f_X3_count F Y.1 ((2 : Int32))) fun x32 => f_grd ((2 : Int32)) 14 ((if x32 = (Y.2.2.2.2.2.2 ((2 : Int32)).toNatClampNeg) then f_nt (f_X3_count F Y.1 ((3 : Int32))) fun x35 => f_grd ((2 : Int32)) 14 ((f_L_top F Y.2.2 (Y.2.2.2.2.2.2 ((2 : Int32)).toNatClampNeg)).bind fun x37 => (if x35 = x37 then f_nt (f_X3_count F Y.1 ((4 : Int32))) fun x40 => (f_L_lying F Y.2.2).bind fun x42 => (if x40 = x42 then f_nt (f_X3_count F Y.1 ((5 : Int32))) fun x45 => (if x45 = o1.1 then f_nt (f_X3_count F Y.1 ((6 : Int32))) fun x48 => ((if x48 = ((1 : Int32)) then some ((1 : Int32)) else some ((0 : Int32)))).bind fun j49 => (f_L_done F Y.2.2).bind fun x52 => (if j49 = x52 then (f_L_told_L340 F Y F ((0 : Int32))).bind (fun w9 => Sum.elim (fun w56 => (f_L_told_L397 F Y F ((0 : Int32))).bind (fun w9 => Sum.elim (fun w59 => (f_L_lying F Y.2.2).bind fun x61 => f_grd ((12 : Int32)) 14 (f_nt (f_X3_count F Y.1 ((11 : Int32))) fun x63 => (f_L_all F 25 Y.2.1).bind fun x65 => (if x63 = x65 then f_nt (f_X3_count F Y.1 ((12 : Int32))) fun x68 => (f_L_all F 25 Y.2.2.2.2.1).bind fun x70 => (if x68 = x70 then f_nt (f_X3_count F Y.1 ((13 : Int32))) fun x73 => (f_L_all F 25 Y.2.2.2.2.2.1).bind fun x75 => (if x73 = x75 then (f_X3_meanPrice F Y.1).bind fun x78 => (if (x61 + (Y.2.2.2.2.2.2 ((12 : Int32)).toNatClampNeg)) = 0 then (if (Op.cmpValue (FP.dcmp x78 FP.dconst0) .l) = 0 then some ((1 : Int32)) else none) else f_grd ((13 : Int32)) 14 (f_if (isNaN64 (FP.dmul FP.dconst1 (FP.i2d (Y.2.2.2.2.2.2 ((13 : Int32)).toNatClampNeg))) = false) (f_if (isNaN64 (FP.ddiv (FP.dmul FP.dconst1 (FP.i2d (Y.2.2.2.2.2.2 ((13 : Int32)).toNatClampNeg))) (FP.i2d (x61 + (Y.2.2.2.2.2.2 ((12 : Int32)).toNatClampNeg)))) = false) ((if (Op.cmpValue (FP.dcmp x78 (FP.ddiv (FP.dmul FP.dconst1 (FP.i2d (Y.2.2.2.2.2.2 ((13 : Int32)).toNatClampNeg))) (FP.i2d (x61 + (Y.2.2.2.2.2.2 ((12 : Int32)).toNatClampNeg))))) .l) = 0 then some ((1 : Int32)) else none))))) else none) else none) else none))) (fun w82 => none) w9)) (fun w83 => none) w9) else none) else none) else none) else none)) else none)) else none)) else none)) else none) else none)) else none) else none)) else none))) (fun w84 => none) w9)
set_option maxHeartbeats 4000000 in
set_option maxRecDepth 100000 in
theorem l_L_told_L6 {p : Program} {l : Launch} {e : Env} {s : State} {m : MethodId} {args : Array Value} {below : List Frame} {meth : Method} {c : Code} {Q : State → Prop} {g : a_G} (F : Nat) {h : List va_E} (Y : d_A) (a1 : Int32) (hz : d_al h Y) : ∀ (n : Nat) (v8_6 : Int32) (v9_6 : Int32) (o : Int32 × Int32), f_L_told_L6 F Y n v8_6 v9_6 = some o → (∀ e9 : Int32 × Int32, o = e9 → a_W p l e (a_rm 5 116) s m args below meth c Q RL cL_told 12 g 0 0 none 41 [(0, .ref 0), (1, .int a1), (2, .ref 55), (3, .ref 56), (4, .ref 57), (5, .ref 58), (6, .ref 59), (7, .ref 60), (8, .int e9.1)] [] h) → a_W p l e (a_rm 5 116) s m args below meth c Q RL cL_told 12 g 0 0 none 6 [(0, .ref 0), (1, .int a1), (2, .ref 55), (3, .ref 56), (4, .ref 57), (5, .ref 58), (6, .ref 59), (7, .ref 60), (8, .int v8_6), (9, .int v9_6)] [] h := by
  intro n
  induction n with
  | zero => intro v8_6 v9_6 o hf; exact nomatch (show (none : Option (Int32 × Int32)) = some o from hf)
  | succ n ih =>
    intro v8_6 v9_6 o hf hX0
    rw [f_L_told_L6] at hf
    refine a_iload (pc' := 8) 9 dL_told_6 rfl rfl ?_
    refine a_aload (pc' := 10) 7 dL_told_8 rfl rfl ?_
    refine a_iconst (pc' := 11) (v := (2 : Int32)) dL_told_10 rfl (by decide) ?_
    obtain ⟨hg, hf⟩ := f_grd_x hf
    refine b_iald (pc' := 12) hz.2.2.2.2.2.2.2 hg dL_told_11 rfl ?_
    refine a_icmp_ge (pc' := 15) 41 dL_told_12 (by decide) rfl (fun k7001 => ?_) (fun k7001 => ?_)
    · replace hf := (if_pos k7001).symm.trans hf
      cases hf
      refine a_sub [0, 1, 2, 3, 4, 5, 6, 7, 8] rfl ?_
      exact hX0 _ rfl
    · replace hf := (if_neg k7001).symm.trans hf
      refine a_iload (pc' := 17) 8 dL_told_15 rfl rfl ?_
      refine a_iload (pc' := 19) 9 dL_told_17 rfl rfl ?_
      refine a_aload (pc' := 21) 7 dL_told_19 rfl rfl ?_
      obtain ⟨x7003, e7002, hf⟩ := Option.bind_eq_some_iff.mp hf
      refine k_L_8 (pc' := 24) (c_L_places l g F hz.2.2 e7002) ⟨Nat.le_of_ble_eq_true rfl, Nat.le_of_ble_eq_true rfl⟩ (Nat.le_of_ble_eq_true rfl) dL_told_21 rfl ?_
      refine a_aload_n (pc' := 25) 3 dL_told_24 rfl rfl rfl ?_
      refine a_iload (pc' := 27) 9 dL_told_25 rfl rfl ?_
      obtain ⟨hg, hf⟩ := f_grd_x hf
      refine b_iald (pc' := 28) hz.2.2.2.2.1 hg dL_told_27 rfl ?_
      obtain ⟨x7005, e7004, hf⟩ := Option.bind_eq_some_iff.mp hf
      refine k_L_15 (pc' := 31) (c_L_ones l g F e7004) ⟨Nat.le_of_ble_eq_true rfl, Nat.le_of_ble_eq_true rfl⟩ (Nat.le_of_ble_eq_true rfl) dL_told_28 rfl ?_
      refine a_isub (pc' := 32) dL_told_31 rfl ?_
      refine a_iadd (pc' := 33) dL_told_32 rfl ?_
      refine a_istore (pc' := 35) (ls' := [(8, .int (v8_6 + (x7003 - x7005))), (0, .ref 0), (1, .int a1), (2, .ref 55), (3, .ref 56), (4, .ref 57), (5, .ref 58), (6, .ref 59), (7, .ref 60), (9, .int v9_6)]) dL_told_33 (by decide) rfl rfl ?_
      refine a_iinc (pc' := 38) (v := v9_6 + (1 : Int32)) (ls' := [(9, .int (v9_6 + (1 : Int32))), (8, .int (v8_6 + (x7003 - x7005))), (0, .ref 0), (1, .int a1), (2, .ref 55), (3, .ref 56), (4, .ref 57), (5, .ref 58), (6, .ref 59), (7, .ref 60)]) 9 dL_told_35 rfl (by rfl) (by decide) rfl rfl ?_
      refine a_goto 6 dL_told_38 (by decide) ?_
      refine a_sub [2, 3, 4, 5, 6, 7, 8, 9, 1, 0] rfl ?_
      exact ih _ _ _ hf hX0
set_option maxHeartbeats 4000000 in
set_option maxRecDepth 100000 in
theorem l_L_told_L44 {p : Program} {l : Launch} {e : Env} {s : State} {m : MethodId} {args : Array Value} {below : List Frame} {meth : Method} {c : Code} {Q : State → Prop} {g : a_G} (F : Nat) {h : List va_E} (Y : d_A) (a1 : Int32) (o1 : Int32 × Int32) (hz : d_al h Y) : ∀ (n : Nat) (v9_44 : Int32) (o : (Int32) ⊕ (Int32)), f_L_told_L44 F Y a1 n v9_44 = some o → (∀ e9 : Int32, o = .inl e9 → a_W p l e (a_rm 5 116) s m args below meth c Q RL cL_told 12 g 0 0 none 96 [(0, .ref 0), (1, .int a1), (2, .ref 55), (3, .ref 56), (4, .ref 57), (5, .ref 58), (6, .ref 59), (7, .ref 60), (8, .int o1.1)] [] h) → (∀ e9 : Int32, o = .inr (e9) → a_W p l e (a_rm 5 116) s m args below meth c Q RL cL_told 12 g 0 0 none 88 [] [] h) → a_W p l e (a_rm 5 116) s m args below meth c Q RL cL_told 12 g 0 0 none 44 [(0, .ref 0), (1, .int a1), (2, .ref 55), (3, .ref 56), (4, .ref 57), (5, .ref 58), (6, .ref 59), (7, .ref 60), (8, .int o1.1), (9, .int v9_44)] [] h := by
  intro n
  induction n with
  | zero => intro v9_44 o hf; exact nomatch (show (none : Option ((Int32) ⊕ (Int32))) = some o from hf)
  | succ n ih =>
    intro v9_44 o hf hX0 hX1
    rw [f_L_told_L44] at hf
    refine a_iload (pc' := 46) 9 dL_told_44 rfl rfl ?_
    refine a_iconst (pc' := 47) (v := (3 : Int32)) dL_told_46 rfl (by decide) ?_
    refine a_icmp_ge (pc' := 50) 96 dL_told_47 (by decide) rfl (fun k45001 => ?_) (fun k45001 => ?_)
    · replace hf := (if_pos k45001).symm.trans hf
      cases hf
      refine a_sub [0, 1, 2, 3, 4, 5, 6, 7, 8] rfl ?_
      exact hX0 _ rfl
    · replace hf := (if_neg k45001).symm.trans hf
      refine a_aload (pc' := 52) 7 dL_told_50 rfl rfl ?_
      refine a_iconst (pc' := 53) (v := (2 : Int32)) dL_told_52 rfl (by decide) ?_
      obtain ⟨hg, hf⟩ := f_grd_x hf
      refine b_iald (pc' := 54) hz.2.2.2.2.2.2.2 hg dL_told_53 rfl ?_
      refine a_if_le (pc' := 57) 96 dL_told_54 (by decide) rfl (fun k45002 => ?_) (fun k45002 => ?_)
      · replace hf := (if_pos k45002).symm.trans hf
        cases hf
        refine a_sub [0, 1, 2, 3, 4, 5, 6, 7, 8] rfl ?_
        exact hX0 _ rfl
      · replace hf := (if_neg k45002).symm.trans hf
        refine a_aload_n (pc' := 58) 0 dL_told_57 rfl rfl rfl ?_
        refine a_iload_n (pc' := 59) 1 dL_told_58 rfl rfl rfl ?_
        refine a_iconst (pc' := 60) (v := (3 : Int32)) dL_told_59 rfl (by decide) ?_
        refine a_iload (pc' := 62) 9 dL_told_60 rfl rfl ?_
        refine a_imul (pc' := 63) dL_told_62 rfl ?_
        refine a_ishr (pc' := 64) dL_told_63 rfl ?_
        refine a_iload (pc' := 66) 9 dL_told_64 rfl rfl ?_
        refine a_iadd (pc' := 67) dL_told_66 rfl ?_
        refine a_aload (pc' := 69) 7 dL_told_67 rfl rfl ?_
        refine a_iconst (pc' := 70) (v := (2 : Int32)) dL_told_69 rfl (by decide) ?_
        obtain ⟨hg, hf⟩ := f_grd_x hf
        refine b_iald (pc' := 71) hz.2.2.2.2.2.2.2 hg dL_told_70 rfl ?_
        obtain ⟨x45004, e45003, hf⟩ := Option.bind_eq_some_iff.mp hf
        refine k_L_45 (pc' := 74) (c_L_at l g F e45003) ⟨Nat.le_of_ble_eq_true rfl, Nat.le_of_ble_eq_true rfl⟩ (Nat.le_of_ble_eq_true rfl) dL_told_71 rfl ?_
        refine a_iload_n (pc' := 75) 1 dL_told_74 rfl rfl rfl ?_
        refine a_iload (pc' := 77) 9 dL_told_75 rfl rfl ?_
        refine a_ishr (pc' := 78) dL_told_77 rfl ?_
        refine a_aload_n (pc' := 79) 2 dL_told_78 rfl rfl rfl ?_
        refine a_aload_n (pc' := 80) 3 dL_told_79 rfl rfl rfl ?_
        refine a_aload (pc' := 82) 7 dL_told_80 rfl rfl ?_
        obtain ⟨x45006, e45005, hf⟩ := Option.bind_eq_some_iff.mp hf
        refine k_L_58 (pc' := 85) (c_L_courses l g F hz e45005) ⟨Nat.le_of_ble_eq_true rfl, Nat.le_of_ble_eq_true rfl⟩ (Nat.le_of_ble_eq_true rfl) dL_told_82 rfl ?_
        refine a_if_ne (pc' := 88) 90 dL_told_85 (by decide) rfl (fun k45007 => ?_) (fun k45007 => ?_)
        · replace hf := (if_neg k45007).symm.trans hf
          refine a_iinc (pc' := 93) (v := v9_44 + (1 : Int32)) (ls' := [(9, .int (v9_44 + (1 : Int32))), (0, .ref 0), (1, .int a1), (2, .ref 55), (3, .ref 56), (4, .ref 57), (5, .ref 58), (6, .ref 59), (7, .ref 60), (8, .int o1.1)]) 9 dL_told_90 rfl (by rfl) (by decide) rfl rfl ?_
          refine a_goto 44 dL_told_93 (by decide) ?_
          refine a_sub [1, 2, 3, 4, 5, 6, 7, 8, 9, 0] rfl ?_
          exact ih _ _ hf hX0 hX1
        · replace hf := (if_pos k45007).symm.trans hf
          cases hf
          refine a_sub [] rfl ?_
          exact hX1 _ rfl
set_option maxHeartbeats 4000000 in
set_option maxRecDepth 100000 in
theorem l_L_told_L115 {p : Program} {l : Launch} {e : Env} {s : State} {m : MethodId} {args : Array Value} {below : List Frame} {meth : Method} {c : Code} {Q : State → Prop} {g : a_G} (F : Nat) {h : List va_E} (Y : d_A) (o1 : Int32 × Int32) (x7 : Int32) (hz : d_al h Y) : ∀ (n : Nat) (v10_115 : Int32) (v11_115 : Int32) (o : Int32 × Int32), f_L_told_L115 F Y x7 n v10_115 v11_115 = some o → (∀ e9 : Int32 × Int32, o = e9 → a_W p l e (a_rm 5 116) s m args below meth c Q RL cL_told 12 g 0 0 none 155 [(0, .ref 0), (2, .ref 55), (3, .ref 56), (4, .ref 57), (5, .ref 58), (6, .ref 59), (7, .ref 60), (8, .int o1.1), (9, .int (((8 : Int32)) + x7)), (10, .int e9.1)] [] h) → a_W p l e (a_rm 5 116) s m args below meth c Q RL cL_told 12 g 0 0 none 115 [(0, .ref 0), (2, .ref 55), (3, .ref 56), (4, .ref 57), (5, .ref 58), (6, .ref 59), (7, .ref 60), (8, .int o1.1), (9, .int (((8 : Int32)) + x7)), (10, .int v10_115), (11, .int v11_115)] [] h := by
  intro n
  induction n with
  | zero => intro v10_115 v11_115 o hf; exact nomatch (show (none : Option (Int32 × Int32)) = some o from hf)
  | succ n ih =>
    intro v10_115 v11_115 o hf hX0
    rw [f_L_told_L115] at hf
    refine a_iload (pc' := 117) 10 dL_told_115 rfl rfl ?_
    refine a_aload (pc' := 119) 6 dL_told_117 rfl rfl ?_
    refine a_iconst (pc' := 120) (v := (2 : Int32)) dL_told_119 rfl (by decide) ?_
    obtain ⟨hg, hf⟩ := f_grd_x hf
    refine b_iald (pc' := 121) hz.2.2.2.2.2.2.2 hg dL_told_120 rfl ?_
    refine a_icmp_ge (pc' := 124) 155 dL_told_121 (by decide) rfl (fun k116001 => ?_) (fun k116001 => ?_)
    · replace hf := (if_pos k116001).symm.trans hf
      cases hf
      refine a_sub [0, 1, 2, 3, 4, 5, 6, 7, 8, 9] rfl ?_
      exact hX0 _ rfl
    · replace hf := (if_neg k116001).symm.trans hf
      refine a_iload (pc' := 126) 9 dL_told_124 rfl rfl ?_
      refine a_aload_n (pc' := 127) 1 dL_told_126 rfl rfl rfl ?_
      refine a_iload (pc' := 129) 10 dL_told_127 rfl rfl ?_
      obtain ⟨hg, hf⟩ := f_grd_x hf
      refine b_iald (pc' := 130) hz.2.2.2.1 hg dL_told_129 rfl ?_
      refine a_iload (pc' := 132) 8 dL_told_130 rfl rfl ?_
      refine a_jn (st2 := [.int v10_115]) hf 146 (fun j116002 ej116002 hf => ?_) (fun j116002 hf Jj116002 => ?_)
      · refine a_iadd (pc' := 147) dL_told_146 rfl ?_
        refine a_istore (pc' := 149) (ls' := [(10, .int (v10_115 + j116002)), (0, .ref 0), (2, .ref 55), (3, .ref 56), (4, .ref 57), (5, .ref 58), (6, .ref 59), (7, .ref 60), (8, .int o1.1), (9, .int (((8 : Int32)) + x7)), (11, .int v11_115)]) dL_told_147 (by decide) rfl rfl ?_
        refine a_iinc (pc' := 152) (v := v11_115 + (1 : Int32)) (ls' := [(11, .int (v11_115 + (1 : Int32))), (10, .int (v10_115 + j116002)), (0, .ref 0), (2, .ref 55), (3, .ref 56), (4, .ref 57), (5, .ref 58), (6, .ref 59), (7, .ref 60), (8, .int o1.1), (9, .int (((8 : Int32)) + x7))]) 10 dL_told_149 rfl (by rfl) (by decide) rfl rfl ?_
        refine a_goto 115 dL_told_152 (by decide) ?_
        refine a_sub [2, 3, 4, 5, 6, 7, 8, 9, 10, 1, 0] rfl ?_
        exact ih _ _ _ hf hX0
      · refine a_icmp_ne (pc' := 135) 145 dL_told_132 (by decide) rfl (fun k116003 => ?_) (fun k116003 => ?_)
        · replace hf := (if_neg k116003).symm.trans hf
          refine a_iconst (pc' := 146) (v := (0 : Int32)) dL_told_145 rfl (by decide) ?_
          cases hf
          exact Jj116002
        · replace hf := (if_pos k116003).symm.trans hf
          refine a_aload_n (pc' := 136) 2 dL_told_135 rfl rfl rfl ?_
          refine a_iload (pc' := 138) 10 dL_told_136 rfl rfl ?_
          obtain ⟨hg, hf⟩ := f_grd_x hf
          refine b_iald (pc' := 139) hz.2.2.2.2.1 hg dL_told_138 rfl ?_
          obtain ⟨x116005, e116004, hf⟩ := Option.bind_eq_some_iff.mp hf
          refine k_L_15 (pc' := 142) (c_L_ones l g F e116004) ⟨Nat.le_of_ble_eq_true rfl, Nat.le_of_ble_eq_true rfl⟩ (Nat.le_of_ble_eq_true rfl) dL_told_139 rfl ?_
          refine a_goto 146 dL_told_142 (by decide) ?_
          cases hf
          exact Jj116002
set_option maxHeartbeats 4000000 in
set_option maxRecDepth 100000 in
theorem l_L_told_L340 {p : Program} {l : Launch} {e : Env} {s : State} {m : MethodId} {args : Array Value} {below : List Frame} {meth : Method} {c : Code} {Q : State → Prop} {g : a_G} (F : Nat) {h : List va_E} (Y : d_A) (hz : d_al h Y) : ∀ (n : Nat) (v11_340 : Int32) (o : (Int32) ⊕ (Int32)), f_L_told_L340 F Y n v11_340 = some o → (∀ e9 : Int32, o = .inl e9 → a_W p l e (a_rm 5 116) s m args below meth c Q RL cL_told 12 g 0 0 none 394 [(0, .ref 0), (3, .ref 56), (4, .ref 57), (5, .ref 58), (6, .ref 59), (7, .ref 60)] [] h) → (∀ e9 : Int32, o = .inr (e9) → a_W p l e (a_rm 5 116) s m args below meth c Q RL cL_told 12 g 0 0 none 386 [] [] h) → a_W p l e (a_rm 5 116) s m args below meth c Q RL cL_told 12 g 0 0 none 340 [(0, .ref 0), (3, .ref 56), (4, .ref 57), (5, .ref 58), (6, .ref 59), (7, .ref 60), (11, .int v11_340)] [] h := by
  intro n
  induction n with
  | zero => intro v11_340 o hf; exact nomatch (show (none : Option ((Int32) ⊕ (Int32))) = some o from hf)
  | succ n ih =>
    intro v11_340 o hf hX0 hX1
    rw [f_L_told_L340] at hf
    refine a_iload (pc' := 342) 6 dL_told_340 rfl rfl ?_
    refine a_iconst (pc' := 343) (v := (4 : Int32)) dL_told_342 rfl (by decide) ?_
    refine a_icmp_ge (pc' := 346) 394 dL_told_343 (by decide) rfl (fun k341001 => ?_) (fun k341001 => ?_)
    · replace hf := (if_pos k341001).symm.trans hf
      cases hf
      refine a_sub [0, 1, 2, 3, 4, 5] rfl ?_
      exact hX0 _ rfl
    · replace hf := (if_neg k341001).symm.trans hf
      refine a_aload_n (pc' := 347) 0 dL_told_346 rfl rfl rfl ?_
      refine a_bipush (pc' := 349) (v := (7 : Int32)) dL_told_347 rfl (by decide) ?_
      refine a_iload (pc' := 351) 6 dL_told_349 rfl rfl ?_
      refine a_iadd (pc' := 352) dL_told_351 rfl ?_
      obtain ⟨x341003, e341002, hf⟩ := f_nx hf
      refine k_L_65 (pc' := 355) (c_X3_count l g F hz.1 e341002) ⟨Nat.le_of_ble_eq_true rfl, Nat.le_of_ble_eq_true rfl⟩ hz.1.1 (Nat.le_of_ble_eq_true rfl) dL_told_352 rfl ?_
      refine a_aload (pc' := 357) 5 dL_told_355 rfl rfl ?_
      refine a_bipush (pc' := 359) (v := (6 : Int32)) dL_told_357 rfl (by decide) ?_
      refine a_iload (pc' := 361) 6 dL_told_359 rfl rfl ?_
      refine a_iadd (pc' := 362) dL_told_361 rfl ?_
      obtain ⟨hg, hf⟩ := f_grd_x hf
      refine b_iald (pc' := 363) hz.2.2.2.2.2.2.2 hg dL_told_362 rfl ?_
      refine a_icmp_ne (pc' := 366) 386 dL_told_363 (by decide) rfl (fun k341004 => ?_) (fun k341004 => ?_)
      · replace hf := (if_neg k341004).symm.trans hf
        cases hf
        refine a_sub [] rfl ?_
        exact hX1 _ rfl
      · replace hf := (if_pos k341004).symm.trans hf
        refine a_aload_n (pc' := 367) 0 dL_told_366 rfl rfl rfl ?_
        refine a_bipush (pc' := 369) (v := (14 : Int32)) dL_told_367 rfl (by decide) ?_
        refine a_iload (pc' := 371) 6 dL_told_369 rfl rfl ?_
        refine a_iadd (pc' := 372) dL_told_371 rfl ?_
        obtain ⟨x341006, e341005, hf⟩ := f_nx hf
        refine k_L_65 (pc' := 375) (c_X3_count l g F hz.1 e341005) ⟨Nat.le_of_ble_eq_true rfl, Nat.le_of_ble_eq_true rfl⟩ hz.1.1 (Nat.le_of_ble_eq_true rfl) dL_told_372 rfl ?_
        refine a_aload (pc' := 377) 5 dL_told_375 rfl rfl ?_
        refine a_bipush (pc' := 379) (v := (10 : Int32)) dL_told_377 rfl (by decide) ?_
        refine a_iload (pc' := 381) 6 dL_told_379 rfl rfl ?_
        refine a_iadd (pc' := 382) dL_told_381 rfl ?_
        obtain ⟨hg, hf⟩ := f_grd_x hf
        refine b_iald (pc' := 383) hz.2.2.2.2.2.2.2 hg dL_told_382 rfl ?_
        refine a_icmp_eq (pc' := 386) 388 dL_told_383 (by decide) rfl (fun k341007 => ?_) (fun k341007 => ?_)
        · replace hf := (if_pos k341007).symm.trans hf
          refine a_iinc (pc' := 391) (v := v11_340 + (1 : Int32)) (ls' := [(11, .int (v11_340 + (1 : Int32))), (0, .ref 0), (3, .ref 56), (4, .ref 57), (5, .ref 58), (6, .ref 59), (7, .ref 60)]) 6 dL_told_388 rfl (by rfl) (by decide) rfl rfl ?_
          refine a_goto 340 dL_told_391 (by decide) ?_
          refine a_sub [1, 2, 3, 4, 5, 6, 0] rfl ?_
          exact ih _ _ hf hX0 hX1
        · replace hf := (if_neg k341007).symm.trans hf
          cases hf
          refine a_sub [] rfl ?_
          exact hX1 _ rfl
set_option maxHeartbeats 4000000 in
set_option maxRecDepth 100000 in
theorem l_L_told_L397 {p : Program} {l : Launch} {e : Env} {s : State} {m : MethodId} {args : Array Value} {below : List Frame} {meth : Method} {c : Code} {Q : State → Prop} {g : a_G} (F : Nat) {h : List va_E} (Y : d_A) (hz : d_al h Y) : ∀ (n : Nat) (v11_397 : Int32) (o : (Int32) ⊕ (Int32)), f_L_told_L397 F Y n v11_397 = some o → (∀ e9 : Int32, o = .inl e9 → a_W p l e (a_rm 5 116) s m args below meth c Q RL cL_told 12 g 0 0 none 427 [(0, .ref 0), (3, .ref 56), (4, .ref 57), (5, .ref 58), (6, .ref 59), (7, .ref 60)] [] h) → (∀ e9 : Int32, o = .inr (e9) → a_W p l e (a_rm 5 116) s m args below meth c Q RL cL_told 12 g 0 0 none 419 [] [] h) → a_W p l e (a_rm 5 116) s m args below meth c Q RL cL_told 12 g 0 0 none 397 [(0, .ref 0), (3, .ref 56), (4, .ref 57), (5, .ref 58), (6, .ref 59), (7, .ref 60), (11, .int v11_397)] [] h := by
  intro n
  induction n with
  | zero => intro v11_397 o hf; exact nomatch (show (none : Option ((Int32) ⊕ (Int32))) = some o from hf)
  | succ n ih =>
    intro v11_397 o hf hX0 hX1
    rw [f_L_told_L397] at hf
    refine a_iload (pc' := 399) 6 dL_told_397 rfl rfl ?_
    refine a_iconst (pc' := 400) (v := (3 : Int32)) dL_told_399 rfl (by decide) ?_
    refine a_icmp_ge (pc' := 403) 427 dL_told_400 (by decide) rfl (fun k398001 => ?_) (fun k398001 => ?_)
    · replace hf := (if_pos k398001).symm.trans hf
      cases hf
      refine a_sub [0, 1, 2, 3, 4, 5] rfl ?_
      exact hX0 _ rfl
    · replace hf := (if_neg k398001).symm.trans hf
      refine a_aload_n (pc' := 404) 0 dL_told_403 rfl rfl rfl ?_
      refine a_iload (pc' := 406) 6 dL_told_404 rfl rfl ?_
      obtain ⟨x398003, e398002, hf⟩ := f_nx hf
      refine k_L_71 (pc' := 409) (c_X3_setting l g F hz.1 e398002) ⟨Nat.le_of_ble_eq_true rfl, Nat.le_of_ble_eq_true rfl⟩ hz.1.1 (Nat.le_of_ble_eq_true rfl) dL_told_406 rfl ?_
      refine a_aload (pc' := 411) 5 dL_told_409 rfl rfl ?_
      refine a_iconst (pc' := 412) (v := (3 : Int32)) dL_told_411 rfl (by decide) ?_
      refine a_iload (pc' := 414) 6 dL_told_412 rfl rfl ?_
      refine a_iadd (pc' := 415) dL_told_414 rfl ?_
      obtain ⟨hg, hf⟩ := f_grd_x hf
      refine b_iald (pc' := 416) hz.2.2.2.2.2.2.2 hg dL_told_415 rfl ?_
      refine a_icmp_eq (pc' := 419) 421 dL_told_416 (by decide) rfl (fun k398004 => ?_) (fun k398004 => ?_)
      · replace hf := (if_pos k398004).symm.trans hf
        refine a_iinc (pc' := 424) (v := v11_397 + (1 : Int32)) (ls' := [(11, .int (v11_397 + (1 : Int32))), (0, .ref 0), (3, .ref 56), (4, .ref 57), (5, .ref 58), (6, .ref 59), (7, .ref 60)]) 6 dL_told_421 rfl (by rfl) (by decide) rfl rfl ?_
        refine a_goto 397 dL_told_424 (by decide) ?_
        refine a_sub [1, 2, 3, 4, 5, 6, 0] rfl ?_
        exact ih _ _ hf hX0 hX1
      · replace hf := (if_neg k398004).symm.trans hf
        cases hf
        refine a_sub [] rfl ?_
        exact hX1 _ rfl
set_option maxHeartbeats 4000000 in
set_option maxRecDepth 100000 in
theorem c_L_told (l : Launch) (g : a_G) (F : Nat) {h : List va_E} {Y : d_A} {a1 : Int32} (hz : d_al h Y) {out : Int32} (hf : f_L_told F Y a1 = some out) : a_CT l g yL_told cL_told 12 (some .boolean) (a_rm 5 116) [.ref 0, .int a1, .ref 55, .ref 56, .ref 57, .ref 58, .ref 59, .ref 60] h none none (fun r h' => r = some (.int out) ∧ h' = h) := by
  refine a_enter ⟨by decide, rfl, Nat.le_of_ble_eq_true rfl⟩ (fun p e s m args below meth c hr hin => ?_)
  unfold f_L_told at hf
  refine a_sub (ls' := [(0, .ref 0), (1, .int a1), (2, .ref 55), (3, .ref 56), (4, .ref 57), (5, .ref 58), (6, .ref 59), (7, .ref 60)]) [0, 1, 2, 3, 4, 5, 6, 7] rfl ?_
  refine a_iconst (pc' := 1) (v := (0 : Int32)) dL_told_0 rfl (by decide) ?_
  refine a_istore (pc' := 3) (ls' := [(8, .int ((0 : Int32))), (0, .ref 0), (1, .int a1), (2, .ref 55), (3, .ref 56), (4, .ref 57), (5, .ref 58), (6, .ref 59), (7, .ref 60)]) dL_told_1 (by decide) rfl rfl ?_
  refine a_iconst (pc' := 4) (v := (0 : Int32)) dL_told_3 rfl (by decide) ?_
  refine a_istore (pc' := 6) (ls' := [(9, .int ((0 : Int32))), (8, .int ((0 : Int32))), (0, .ref 0), (1, .int a1), (2, .ref 55), (3, .ref 56), (4, .ref 57), (5, .ref 58), (6, .ref 59), (7, .ref 60)]) dL_told_4 (by decide) rfl rfl ?_
  obtain ⟨o1, e2, hf⟩ := Option.bind_eq_some_iff.mp hf
  refine a_sub [2, 3, 4, 5, 6, 7, 8, 9, 1, 0] rfl ?_
  refine l_L_told_L6 F Y a1 hz F _ _ o1 e2 (fun e9 he9 => ?_)
  subst he9
  refine a_iconst (pc' := 42) (v := (0 : Int32)) dL_told_41 rfl (by decide) ?_
  refine a_istore (pc' := 44) (ls' := [(9, .int ((0 : Int32))), (0, .ref 0), (1, .int a1), (2, .ref 55), (3, .ref 56), (4, .ref 57), (5, .ref 58), (6, .ref 59), (7, .ref 60), (8, .int o1.1)]) dL_told_42 (by decide) rfl rfl ?_
  obtain ⟨o3, e4, hf⟩ := Option.bind_eq_some_iff.mp hf
  refine a_sub [1, 2, 3, 4, 5, 6, 7, 8, 9, 0] rfl ?_
  refine l_L_told_L44 F Y a1 o1 hz F _ o3 e4 (fun w5 he9 => ?_) (fun w84 he9 => ?_)
  · subst he9
    simp only [Sum.elim_inl, Sum.elim_inr] at hf
    refine a_bipush (pc' := 98) (v := (8 : Int32)) dL_told_96 rfl (by decide) ?_
    refine a_iload_n (pc' := 99) 1 dL_told_98 rfl rfl rfl ?_
    refine a_iconst (pc' := 100) (v := (2 : Int32)) dL_told_99 rfl (by decide) ?_
    refine a_ishr (pc' := 101) dL_told_100 rfl ?_
    refine a_bipush (pc' := 103) (v := (17 : Int32)) dL_told_101 rfl (by decide) ?_
    obtain ⟨x7, e6, hf⟩ := Option.bind_eq_some_iff.mp hf
    refine k_L_45 (pc' := 106) (c_L_at l g F e6) ⟨Nat.le_of_ble_eq_true rfl, Nat.le_of_ble_eq_true rfl⟩ (Nat.le_of_ble_eq_true rfl) dL_told_103 rfl ?_
    refine a_iadd (pc' := 107) dL_told_106 rfl ?_
    refine a_istore (pc' := 109) (ls' := [(9, .int (((8 : Int32)) + x7)), (0, .ref 0), (1, .int a1), (2, .ref 55), (3, .ref 56), (4, .ref 57), (5, .ref 58), (6, .ref 59), (7, .ref 60), (8, .int o1.1)]) dL_told_107 (by decide) rfl rfl ?_
    refine a_iconst (pc' := 110) (v := (0 : Int32)) dL_told_109 rfl (by decide) ?_
    refine a_istore (pc' := 112) (ls' := [(10, .int ((0 : Int32))), (9, .int (((8 : Int32)) + x7)), (0, .ref 0), (1, .int a1), (2, .ref 55), (3, .ref 56), (4, .ref 57), (5, .ref 58), (6, .ref 59), (7, .ref 60), (8, .int o1.1)]) dL_told_110 (by decide) rfl rfl ?_
    refine a_iconst (pc' := 113) (v := (0 : Int32)) dL_told_112 rfl (by decide) ?_
    refine a_istore (pc' := 115) (ls' := [(11, .int ((0 : Int32))), (10, .int ((0 : Int32))), (9, .int (((8 : Int32)) + x7)), (0, .ref 0), (1, .int a1), (2, .ref 55), (3, .ref 56), (4, .ref 57), (5, .ref 58), (6, .ref 59), (7, .ref 60), (8, .int o1.1)]) dL_told_113 (by decide) rfl rfl ?_
    obtain ⟨o8, e9, hf⟩ := Option.bind_eq_some_iff.mp hf
    refine a_sub [3, 5, 6, 7, 8, 9, 10, 11, 2, 1, 0] rfl ?_
    refine l_L_told_L115 F Y o1 x7 hz F _ _ o8 e9 (fun e9 he9 => ?_)
    subst he9
    refine a_aload_n (pc' := 156) 0 dL_told_155 rfl rfl rfl ?_
    refine a_iload (pc' := 158) 8 dL_told_156 rfl rfl ?_
    refine a_iconst (pc' := 159) (v := (0 : Int32)) dL_told_158 rfl (by decide) ?_
    obtain ⟨x11, e10, hf⟩ := f_nx hf
    refine k_L_62 (pc' := 162) (c_X3_slates l g F hz.1 e10) ⟨Nat.le_of_ble_eq_true rfl, Nat.le_of_ble_eq_true rfl⟩ hz.1.1 (Nat.le_of_ble_eq_true rfl) dL_told_159 rfl ?_
    refine a_aload (pc' := 164) 3 dL_told_162 rfl rfl ?_
    refine a_iload (pc' := 166) 8 dL_told_164 rfl rfl ?_
    obtain ⟨hg, hf⟩ := f_grd_x hf
    refine b_iald (pc' := 167) hz.2.2.2.2.2.1 hg dL_told_166 rfl ?_
    refine a_icmp_ne (pc' := 170) 230 dL_told_167 (by decide) rfl (fun k12 => ?_) (fun k12 => ?_)
    · replace hf := (if_neg k12).symm.trans hf
      refine a_iconst (pc' := 231) (v := (0 : Int32)) dL_told_230 rfl (by decide) ?_
      cases hf
    · replace hf := (if_pos k12).symm.trans hf
      refine a_aload_n (pc' := 171) 0 dL_told_170 rfl rfl rfl ?_
      refine a_iload (pc' := 173) 8 dL_told_171 rfl rfl ?_
      refine a_iconst (pc' := 174) (v := (1 : Int32)) dL_told_173 rfl (by decide) ?_
      obtain ⟨x14, e13, hf⟩ := f_nx hf
      refine k_L_62 (pc' := 177) (c_X3_slates l g F hz.1 e13) ⟨Nat.le_of_ble_eq_true rfl, Nat.le_of_ble_eq_true rfl⟩ hz.1.1 (Nat.le_of_ble_eq_true rfl) dL_told_174 rfl ?_
      refine a_aload (pc' := 179) 4 dL_told_177 rfl rfl ?_
      refine a_iload (pc' := 181) 8 dL_told_179 rfl rfl ?_
      obtain ⟨hg, hf⟩ := f_grd_x hf
      refine b_iald (pc' := 182) hz.2.2.2.2.2.2.1 hg dL_told_181 rfl ?_
      refine a_icmp_ne (pc' := 185) 230 dL_told_182 (by decide) rfl (fun k15 => ?_) (fun k15 => ?_)
      · replace hf := (if_neg k15).symm.trans hf
        refine a_iconst (pc' := 231) (v := (0 : Int32)) dL_told_230 rfl (by decide) ?_
        cases hf
      · replace hf := (if_pos k15).symm.trans hf
        refine a_aload_n (pc' := 186) 0 dL_told_185 rfl rfl rfl ?_
        refine a_iload (pc' := 188) 8 dL_told_186 rfl rfl ?_
        refine a_iconst (pc' := 189) (v := (2 : Int32)) dL_told_188 rfl (by decide) ?_
        obtain ⟨x17, e16, hf⟩ := f_nx hf
        refine k_L_62 (pc' := 192) (c_X3_slates l g F hz.1 e16) ⟨Nat.le_of_ble_eq_true rfl, Nat.le_of_ble_eq_true rfl⟩ hz.1.1 (Nat.le_of_ble_eq_true rfl) dL_told_189 rfl ?_
        refine a_iload (pc' := 194) 9 dL_told_192 rfl rfl ?_
        refine a_icmp_ne (pc' := 197) 230 dL_told_194 (by decide) rfl (fun k18 => ?_) (fun k18 => ?_)
        · replace hf := (if_neg k18).symm.trans hf
          refine a_iconst (pc' := 231) (v := (0 : Int32)) dL_told_230 rfl (by decide) ?_
          cases hf
        · replace hf := (if_pos k18).symm.trans hf
          refine a_aload_n (pc' := 198) 0 dL_told_197 rfl rfl rfl ?_
          refine a_iload (pc' := 200) 8 dL_told_198 rfl rfl ?_
          refine a_iconst (pc' := 201) (v := (3 : Int32)) dL_told_200 rfl (by decide) ?_
          obtain ⟨x20, e19, hf⟩ := f_nx hf
          refine k_L_62 (pc' := 204) (c_X3_slates l g F hz.1 e19) ⟨Nat.le_of_ble_eq_true rfl, Nat.le_of_ble_eq_true rfl⟩ hz.1.1 (Nat.le_of_ble_eq_true rfl) dL_told_201 rfl ?_
          refine a_aload (pc' := 206) 5 dL_told_204 rfl rfl ?_
          refine a_iload (pc' := 208) 8 dL_told_206 rfl rfl ?_
          obtain ⟨hg, hf⟩ := f_grd_x hf
          refine b_iald (pc' := 209) hz.2.1 hg dL_told_208 rfl ?_
          refine a_icmp_ne (pc' := 212) 230 dL_told_209 (by decide) rfl (fun k21 => ?_) (fun k21 => ?_)
          · replace hf := (if_neg k21).symm.trans hf
            refine a_iconst (pc' := 231) (v := (0 : Int32)) dL_told_230 rfl (by decide) ?_
            cases hf
          · replace hf := (if_pos k21).symm.trans hf
            refine a_aload_n (pc' := 213) 0 dL_told_212 rfl rfl rfl ?_
            refine a_iload (pc' := 215) 8 dL_told_213 rfl rfl ?_
            refine a_iconst (pc' := 216) (v := (4 : Int32)) dL_told_215 rfl (by decide) ?_
            obtain ⟨x23, e22, hf⟩ := f_nx hf
            refine k_L_62 (pc' := 219) (c_X3_slates l g F hz.1 e22) ⟨Nat.le_of_ble_eq_true rfl, Nat.le_of_ble_eq_true rfl⟩ hz.1.1 (Nat.le_of_ble_eq_true rfl) dL_told_216 rfl ?_
            refine a_iload (pc' := 221) 8 dL_told_219 rfl rfl ?_
            refine a_iload (pc' := 223) 8 dL_told_221 rfl rfl ?_
            refine a_imul (pc' := 224) dL_told_223 rfl ?_
            refine a_bipush (pc' := 226) (v := (16 : Int32)) dL_told_224 rfl (by decide) ?_
            refine a_idiv (pc' := 227) dL_told_226 rfl (by decide) ?_
            refine a_icmp_eq (pc' := 230) 232 dL_told_227 (by decide) rfl (fun k24 => ?_) (fun k24 => ?_)
            · replace hf := (if_pos k24).symm.trans hf
              refine a_aload_n (pc' := 233) 0 dL_told_232 rfl rfl rfl ?_
              refine a_iconst (pc' := 234) (v := (0 : Int32)) dL_told_233 rfl (by decide) ?_
              obtain ⟨x26, e25, hf⟩ := f_nx hf
              refine k_L_65 (pc' := 237) (c_X3_count l g F hz.1 e25) ⟨Nat.le_of_ble_eq_true rfl, Nat.le_of_ble_eq_true rfl⟩ hz.1.1 (Nat.le_of_ble_eq_true rfl) dL_told_234 rfl ?_
              refine a_aload (pc' := 239) 6 dL_told_237 rfl rfl ?_
              refine a_iconst (pc' := 240) (v := (0 : Int32)) dL_told_239 rfl (by decide) ?_
              obtain ⟨hg, hf⟩ := f_grd_x hf
              refine b_iald (pc' := 241) hz.2.2.2.2.2.2.2 hg dL_told_240 rfl ?_
              refine a_icmp_ne (pc' := 244) 335 dL_told_241 (by decide) rfl (fun k27 => ?_) (fun k27 => ?_)
              · replace hf := (if_neg k27).symm.trans hf
                refine a_iconst (pc' := 336) (v := (0 : Int32)) dL_told_335 rfl (by decide) ?_
                cases hf
              · replace hf := (if_pos k27).symm.trans hf
                refine a_aload_n (pc' := 245) 0 dL_told_244 rfl rfl rfl ?_
                refine a_iconst (pc' := 246) (v := (1 : Int32)) dL_told_245 rfl (by decide) ?_
                obtain ⟨x29, e28, hf⟩ := f_nx hf
                refine k_L_65 (pc' := 249) (c_X3_count l g F hz.1 e28) ⟨Nat.le_of_ble_eq_true rfl, Nat.le_of_ble_eq_true rfl⟩ hz.1.1 (Nat.le_of_ble_eq_true rfl) dL_told_246 rfl ?_
                refine a_aload (pc' := 251) 6 dL_told_249 rfl rfl ?_
                refine a_iconst (pc' := 252) (v := (1 : Int32)) dL_told_251 rfl (by decide) ?_
                obtain ⟨hg, hf⟩ := f_grd_x hf
                refine b_iald (pc' := 253) hz.2.2.2.2.2.2.2 hg dL_told_252 rfl ?_
                refine a_icmp_ne (pc' := 256) 335 dL_told_253 (by decide) rfl (fun k30 => ?_) (fun k30 => ?_)
                · replace hf := (if_neg k30).symm.trans hf
                  refine a_iconst (pc' := 336) (v := (0 : Int32)) dL_told_335 rfl (by decide) ?_
                  cases hf
                · replace hf := (if_pos k30).symm.trans hf
                  refine a_aload_n (pc' := 257) 0 dL_told_256 rfl rfl rfl ?_
                  refine a_iconst (pc' := 258) (v := (2 : Int32)) dL_told_257 rfl (by decide) ?_
                  obtain ⟨x32, e31, hf⟩ := f_nx hf
                  refine k_L_65 (pc' := 261) (c_X3_count l g F hz.1 e31) ⟨Nat.le_of_ble_eq_true rfl, Nat.le_of_ble_eq_true rfl⟩ hz.1.1 (Nat.le_of_ble_eq_true rfl) dL_told_258 rfl ?_
                  refine a_aload (pc' := 263) 6 dL_told_261 rfl rfl ?_
                  refine a_iconst (pc' := 264) (v := (2 : Int32)) dL_told_263 rfl (by decide) ?_
                  obtain ⟨hg, hf⟩ := f_grd_x hf
                  refine b_iald (pc' := 265) hz.2.2.2.2.2.2.2 hg dL_told_264 rfl ?_
                  refine a_icmp_ne (pc' := 268) 335 dL_told_265 (by decide) rfl (fun k33 => ?_) (fun k33 => ?_)
                  · replace hf := (if_neg k33).symm.trans hf
                    refine a_iconst (pc' := 336) (v := (0 : Int32)) dL_told_335 rfl (by decide) ?_
                    cases hf
                  · replace hf := (if_pos k33).symm.trans hf
                    refine a_aload_n (pc' := 269) 0 dL_told_268 rfl rfl rfl ?_
                    refine a_iconst (pc' := 270) (v := (3 : Int32)) dL_told_269 rfl (by decide) ?_
                    obtain ⟨x35, e34, hf⟩ := f_nx hf
                    refine k_L_65 (pc' := 273) (c_X3_count l g F hz.1 e34) ⟨Nat.le_of_ble_eq_true rfl, Nat.le_of_ble_eq_true rfl⟩ hz.1.1 (Nat.le_of_ble_eq_true rfl) dL_told_270 rfl ?_
                    refine a_aload (pc' := 275) 6 dL_told_273 rfl rfl ?_
                    refine a_iconst (pc' := 276) (v := (2 : Int32)) dL_told_275 rfl (by decide) ?_
                    obtain ⟨hg, hf⟩ := f_grd_x hf
                    refine b_iald (pc' := 277) hz.2.2.2.2.2.2.2 hg dL_told_276 rfl ?_
                    refine a_aload_n (pc' := 278) 1 dL_told_277 rfl rfl rfl ?_
                    refine a_aload (pc' := 280) 6 dL_told_278 rfl rfl ?_
                    obtain ⟨x37, e36, hf⟩ := Option.bind_eq_some_iff.mp hf
                    refine k_L_19 (pc' := 283) (c_L_top l g F hz.2.2 e36) ⟨Nat.le_of_ble_eq_true rfl, Nat.le_of_ble_eq_true rfl⟩ (Nat.le_of_ble_eq_true rfl) dL_told_280 rfl ?_
                    refine a_icmp_ne (pc' := 286) 335 dL_told_283 (by decide) rfl (fun k38 => ?_) (fun k38 => ?_)
                    · replace hf := (if_neg k38).symm.trans hf
                      refine a_iconst (pc' := 336) (v := (0 : Int32)) dL_told_335 rfl (by decide) ?_
                      cases hf
                    · replace hf := (if_pos k38).symm.trans hf
                      refine a_aload_n (pc' := 287) 0 dL_told_286 rfl rfl rfl ?_
                      refine a_iconst (pc' := 288) (v := (4 : Int32)) dL_told_287 rfl (by decide) ?_
                      obtain ⟨x40, e39, hf⟩ := f_nx hf
                      refine k_L_65 (pc' := 291) (c_X3_count l g F hz.1 e39) ⟨Nat.le_of_ble_eq_true rfl, Nat.le_of_ble_eq_true rfl⟩ hz.1.1 (Nat.le_of_ble_eq_true rfl) dL_told_288 rfl ?_
                      refine a_aload_n (pc' := 292) 2 dL_told_291 rfl rfl rfl ?_
                      refine a_aload (pc' := 294) 6 dL_told_292 rfl rfl ?_
                      obtain ⟨x42, e41, hf⟩ := Option.bind_eq_some_iff.mp hf
                      refine k_L_68 (pc' := 297) (c_L_lying l g F hz.2.2 e41) ⟨Nat.le_of_ble_eq_true rfl, Nat.le_of_ble_eq_true rfl⟩ (Nat.le_of_ble_eq_true rfl) dL_told_294 rfl ?_
                      refine a_icmp_ne (pc' := 300) 335 dL_told_297 (by decide) rfl (fun k43 => ?_) (fun k43 => ?_)
                      · replace hf := (if_neg k43).symm.trans hf
                        refine a_iconst (pc' := 336) (v := (0 : Int32)) dL_told_335 rfl (by decide) ?_
                        cases hf
                      · replace hf := (if_pos k43).symm.trans hf
                        refine a_aload_n (pc' := 301) 0 dL_told_300 rfl rfl rfl ?_
                        refine a_iconst (pc' := 302) (v := (5 : Int32)) dL_told_301 rfl (by decide) ?_
                        obtain ⟨x45, e44, hf⟩ := f_nx hf
                        refine k_L_65 (pc' := 305) (c_X3_count l g F hz.1 e44) ⟨Nat.le_of_ble_eq_true rfl, Nat.le_of_ble_eq_true rfl⟩ hz.1.1 (Nat.le_of_ble_eq_true rfl) dL_told_302 rfl ?_
                        refine a_iload (pc' := 307) 7 dL_told_305 rfl rfl ?_
                        refine a_icmp_ne (pc' := 310) 335 dL_told_307 (by decide) rfl (fun k46 => ?_) (fun k46 => ?_)
                        · replace hf := (if_neg k46).symm.trans hf
                          refine a_iconst (pc' := 336) (v := (0 : Int32)) dL_told_335 rfl (by decide) ?_
                          cases hf
                        · replace hf := (if_pos k46).symm.trans hf
                          refine a_aload_n (pc' := 311) 0 dL_told_310 rfl rfl rfl ?_
                          refine a_bipush (pc' := 313) (v := (6 : Int32)) dL_told_311 rfl (by decide) ?_
                          obtain ⟨x48, e47, hf⟩ := f_nx hf
                          refine k_L_65 (pc' := 316) (c_X3_count l g F hz.1 e47) ⟨Nat.le_of_ble_eq_true rfl, Nat.le_of_ble_eq_true rfl⟩ hz.1.1 (Nat.le_of_ble_eq_true rfl) dL_told_313 rfl ?_
                          refine a_iconst (pc' := 317) (v := (1 : Int32)) dL_told_316 rfl (by decide) ?_
                          refine a_jn (st2 := []) hf 325 (fun j49 ej49 hf => ?_) (fun j49 hf Jj49 => ?_)
                          · refine a_aload_n (pc' := 326) 1 dL_told_325 rfl rfl rfl ?_
                            refine a_aload_n (pc' := 327) 2 dL_told_326 rfl rfl rfl ?_
                            refine a_aload (pc' := 329) 6 dL_told_327 rfl rfl ?_
                            obtain ⟨x52, e51, hf⟩ := Option.bind_eq_some_iff.mp hf
                            refine k_L_26 (pc' := 332) (c_L_done l g F hz.2.2 e51) ⟨Nat.le_of_ble_eq_true rfl, Nat.le_of_ble_eq_true rfl⟩ (Nat.le_of_ble_eq_true rfl) dL_told_329 rfl ?_
                            refine a_icmp_eq (pc' := 335) 337 dL_told_332 (by decide) rfl (fun k53 => ?_) (fun k53 => ?_)
                            · replace hf := (if_pos k53).symm.trans hf
                              refine a_iconst (pc' := 338) (v := (0 : Int32)) dL_told_337 rfl (by decide) ?_
                              refine a_istore (pc' := 340) (ls' := [(11, .int ((0 : Int32))), (0, .ref 0), (2, .ref 55), (3, .ref 56), (4, .ref 57), (5, .ref 58), (6, .ref 59), (7, .ref 60), (8, .int o1.1), (9, .int (((8 : Int32)) + x7)), (10, .int o8.1)]) dL_told_338 (by decide) rfl rfl ?_
                              obtain ⟨o54, e55, hf⟩ := Option.bind_eq_some_iff.mp hf
                              refine a_sub [1, 3, 4, 5, 6, 7, 0] rfl ?_
                              refine l_L_told_L340 F Y hz F _ o54 e55 (fun w56 he9 => ?_) (fun w83 he9 => ?_)
                              · subst he9
                                simp only [Sum.elim_inl, Sum.elim_inr] at hf
                                refine a_iconst (pc' := 395) (v := (0 : Int32)) dL_told_394 rfl (by decide) ?_
                                refine a_istore (pc' := 397) (ls' := [(11, .int ((0 : Int32))), (0, .ref 0), (3, .ref 56), (4, .ref 57), (5, .ref 58), (6, .ref 59), (7, .ref 60)]) dL_told_395 (by decide) rfl rfl ?_
                                obtain ⟨o57, e58, hf⟩ := Option.bind_eq_some_iff.mp hf
                                refine a_sub [1, 2, 3, 4, 5, 6, 0] rfl ?_
                                refine l_L_told_L397 F Y hz F _ o57 e58 (fun w59 he9 => ?_) (fun w82 he9 => ?_)
                                · subst he9
                                  simp only [Sum.elim_inl, Sum.elim_inr] at hf
                                  refine a_aload_n (pc' := 428) 1 dL_told_427 rfl rfl rfl ?_
                                  refine a_aload (pc' := 430) 5 dL_told_428 rfl rfl ?_
                                  obtain ⟨x61, e60, hf⟩ := Option.bind_eq_some_iff.mp hf
                                  refine k_L_68 (pc' := 433) (c_L_lying l g F hz.2.2 e60) ⟨Nat.le_of_ble_eq_true rfl, Nat.le_of_ble_eq_true rfl⟩ (Nat.le_of_ble_eq_true rfl) dL_told_430 rfl ?_
                                  refine a_aload (pc' := 435) 5 dL_told_433 rfl rfl ?_
                                  refine a_bipush (pc' := 437) (v := (12 : Int32)) dL_told_435 rfl (by decide) ?_
                                  obtain ⟨hg, hf⟩ := f_grd_x hf
                                  refine b_iald (pc' := 438) hz.2.2.2.2.2.2.2 hg dL_told_437 rfl ?_
                                  refine a_iadd (pc' := 439) dL_told_438 rfl ?_
                                  refine a_istore (pc' := 441) (ls' := [(11, .int (x61 + (Y.2.2.2.2.2.2 ((12 : Int32)).toNatClampNeg))), (0, .ref 0), (3, .ref 56), (4, .ref 57), (5, .ref 58), (6, .ref 59), (7, .ref 60)]) dL_told_439 (by decide) rfl rfl ?_
                                  refine a_aload_n (pc' := 442) 1 dL_told_441 rfl rfl rfl ?_
                                  refine a_bipush (pc' := 444) (v := (11 : Int32)) dL_told_442 rfl (by decide) ?_
                                  obtain ⟨x63, e62, hf⟩ := f_nx hf
                                  refine k_L_65 (pc' := 447) (c_X3_count l g F hz.1 e62) ⟨Nat.le_of_ble_eq_true rfl, Nat.le_of_ble_eq_true rfl⟩ hz.1.1 (Nat.le_of_ble_eq_true rfl) dL_told_444 rfl ?_
                                  refine a_aload (pc' := 449) 5 dL_told_447 rfl rfl ?_
                                  obtain ⟨x65, e64, hf⟩ := Option.bind_eq_some_iff.mp hf
                                  refine k_L_74 (pc' := 452) (c_L_all l g F hz.2.1 e64) ⟨Nat.le_of_ble_eq_true rfl, Nat.le_of_ble_eq_true rfl⟩ (Nat.le_of_ble_eq_true rfl) dL_told_449 rfl ?_
                                  refine a_icmp_ne (pc' := 455) 516 dL_told_452 (by decide) rfl (fun k66 => ?_) (fun k66 => ?_)
                                  · replace hf := (if_neg k66).symm.trans hf
                                    refine a_iconst (pc' := 517) (v := (0 : Int32)) dL_told_516 rfl (by decide) ?_
                                    cases hf
                                  · replace hf := (if_pos k66).symm.trans hf
                                    refine a_aload_n (pc' := 456) 1 dL_told_455 rfl rfl rfl ?_
                                    refine a_bipush (pc' := 458) (v := (12 : Int32)) dL_told_456 rfl (by decide) ?_
                                    obtain ⟨x68, e67, hf⟩ := f_nx hf
                                    refine k_L_65 (pc' := 461) (c_X3_count l g F hz.1 e67) ⟨Nat.le_of_ble_eq_true rfl, Nat.le_of_ble_eq_true rfl⟩ hz.1.1 (Nat.le_of_ble_eq_true rfl) dL_told_458 rfl ?_
                                    refine a_aload (pc' := 463) 3 dL_told_461 rfl rfl ?_
                                    obtain ⟨x70, e69, hf⟩ := Option.bind_eq_some_iff.mp hf
                                    refine k_L_74 (pc' := 466) (c_L_all l g F hz.2.2.2.2.2.1 e69) ⟨Nat.le_of_ble_eq_true rfl, Nat.le_of_ble_eq_true rfl⟩ (Nat.le_of_ble_eq_true rfl) dL_told_463 rfl ?_
                                    refine a_icmp_ne (pc' := 469) 516 dL_told_466 (by decide) rfl (fun k71 => ?_) (fun k71 => ?_)
                                    · replace hf := (if_neg k71).symm.trans hf
                                      refine a_iconst (pc' := 517) (v := (0 : Int32)) dL_told_516 rfl (by decide) ?_
                                      cases hf
                                    · replace hf := (if_pos k71).symm.trans hf
                                      refine a_aload_n (pc' := 470) 1 dL_told_469 rfl rfl rfl ?_
                                      refine a_bipush (pc' := 472) (v := (13 : Int32)) dL_told_470 rfl (by decide) ?_
                                      obtain ⟨x73, e72, hf⟩ := f_nx hf
                                      refine k_L_65 (pc' := 475) (c_X3_count l g F hz.1 e72) ⟨Nat.le_of_ble_eq_true rfl, Nat.le_of_ble_eq_true rfl⟩ hz.1.1 (Nat.le_of_ble_eq_true rfl) dL_told_472 rfl ?_
                                      refine a_aload (pc' := 477) 4 dL_told_475 rfl rfl ?_
                                      obtain ⟨x75, e74, hf⟩ := Option.bind_eq_some_iff.mp hf
                                      refine k_L_74 (pc' := 480) (c_L_all l g F hz.2.2.2.2.2.2.1 e74) ⟨Nat.le_of_ble_eq_true rfl, Nat.le_of_ble_eq_true rfl⟩ (Nat.le_of_ble_eq_true rfl) dL_told_477 rfl ?_
                                      refine a_icmp_ne (pc' := 483) 516 dL_told_480 (by decide) rfl (fun k76 => ?_) (fun k76 => ?_)
                                      · replace hf := (if_neg k76).symm.trans hf
                                        refine a_iconst (pc' := 517) (v := (0 : Int32)) dL_told_516 rfl (by decide) ?_
                                        cases hf
                                      · replace hf := (if_pos k76).symm.trans hf
                                        refine a_aload_n (pc' := 484) 1 dL_told_483 rfl rfl rfl ?_
                                        obtain ⟨x78, e77, hf⟩ := Option.bind_eq_some_iff.mp hf
                                        refine k_L_78 (pc' := 487) (c_X3_meanPrice l g F hz.1 e77) ⟨Nat.le_of_ble_eq_true rfl, Nat.le_of_ble_eq_true rfl⟩ hz.1.1 (Nat.le_of_ble_eq_true rfl) dL_told_484 rfl ?_
                                        refine a_iload (pc' := 489) 0 dL_told_487 rfl rfl ?_
                                        refine a_if_ne (pc' := 492) 496 dL_told_489 (by decide) rfl (fun k79 => ?_) (fun k79 => ?_)
                                        · replace hf := (if_neg k79).symm.trans hf
                                          refine a_dconst1 (pc' := 497) dL_told_496 rfl ?_
                                          refine a_aload (pc' := 499) 6 dL_told_497 rfl rfl ?_
                                          refine a_bipush (pc' := 501) (v := (13 : Int32)) dL_told_499 rfl (by decide) ?_
                                          obtain ⟨hg, hf⟩ := f_grd_x hf
                                          refine b_iald (pc' := 502) hz.2.2.2.2.2.2.2 hg dL_told_501 rfl ?_
                                          refine a_i2d (pc' := 503) dL_told_502 rfl ?_
                                          obtain ⟨hg, hf⟩ := f_if_x hf
                                          refine a_dmul (pc' := 504) dL_told_503 rfl (f_nn hg) ?_
                                          refine a_iload (pc' := 506) 0 dL_told_504 rfl rfl ?_
                                          refine a_i2d (pc' := 507) dL_told_506 rfl ?_
                                          obtain ⟨hg, hf⟩ := f_if_x hf
                                          refine a_ddiv (pc' := 508) dL_told_507 rfl (f_nn hg) ?_
                                          refine a_dcmp (pc' := 509) dL_told_508 rfl ?_
                                          refine a_if_ne (pc' := 512) 516 dL_told_509 (by decide) rfl (fun k80 => ?_) (fun k80 => ?_)
                                          · replace hf := (if_neg k80).symm.trans hf
                                            refine a_iconst (pc' := 517) (v := (0 : Int32)) dL_told_516 rfl (by decide) ?_
                                            cases hf
                                          · replace hf := (if_pos k80).symm.trans hf
                                            refine a_iconst (pc' := 513) (v := (1 : Int32)) dL_told_512 rfl (by decide) ?_
                                            refine a_goto 517 dL_told_513 (by decide) ?_
                                            cases hf
                                            exact a_zret hr rfl ⟨rfl, rfl⟩ dL_told_517
                                        · replace hf := (if_pos k79).symm.trans hf
                                          refine a_dconst0 (pc' := 493) dL_told_492 rfl ?_
                                          refine a_goto 508 dL_told_493 (by decide) ?_
                                          refine a_dcmp (pc' := 509) dL_told_508 rfl ?_
                                          refine a_if_ne (pc' := 512) 516 dL_told_509 (by decide) rfl (fun k81 => ?_) (fun k81 => ?_)
                                          · replace hf := (if_neg k81).symm.trans hf
                                            refine a_iconst (pc' := 517) (v := (0 : Int32)) dL_told_516 rfl (by decide) ?_
                                            cases hf
                                          · replace hf := (if_pos k81).symm.trans hf
                                            refine a_iconst (pc' := 513) (v := (1 : Int32)) dL_told_512 rfl (by decide) ?_
                                            refine a_goto 517 dL_told_513 (by decide) ?_
                                            cases hf
                                            exact a_zret hr rfl ⟨rfl, rfl⟩ dL_told_517
                                · subst he9
                                  simp only [Sum.elim_inl, Sum.elim_inr] at hf
                                  refine a_iconst (pc' := 420) (v := (0 : Int32)) dL_told_419 rfl (by decide) ?_
                                  cases hf
                              · subst he9
                                simp only [Sum.elim_inl, Sum.elim_inr] at hf
                                refine a_iconst (pc' := 387) (v := (0 : Int32)) dL_told_386 rfl (by decide) ?_
                                cases hf
                            · replace hf := (if_neg k53).symm.trans hf
                              refine a_iconst (pc' := 336) (v := (0 : Int32)) dL_told_335 rfl (by decide) ?_
                              cases hf
                          · refine a_icmp_ne (pc' := 320) 324 dL_told_317 (by decide) rfl (fun k50 => ?_) (fun k50 => ?_)
                            · replace hf := (if_neg k50).symm.trans hf
                              refine a_iconst (pc' := 325) (v := (0 : Int32)) dL_told_324 rfl (by decide) ?_
                              cases hf
                              exact Jj49
                            · replace hf := (if_pos k50).symm.trans hf
                              refine a_iconst (pc' := 321) (v := (1 : Int32)) dL_told_320 rfl (by decide) ?_
                              refine a_goto 325 dL_told_321 (by decide) ?_
                              cases hf
                              exact Jj49
            · replace hf := (if_neg k24).symm.trans hf
              refine a_iconst (pc' := 231) (v := (0 : Int32)) dL_told_230 rfl (by decide) ?_
              cases hf
  · subst he9
    simp only [Sum.elim_inl, Sum.elim_inr] at hf
    refine a_iconst (pc' := 89) (v := (0 : Int32)) dL_told_88 rfl (by decide) ?_
    cases hf
/-! SlateRoofLaw.toTop(II[I[I)I -/
set_option maxRecDepth 100000 in
def f_L_toTop_L16 (F : Nat) (u : d_W) (a1 : Int32) : Nat → Int32 → Int32 → Int32 → Option (Int32 × Int32 × Int32)
  | 0, _, _, _ => none
  | n + 1, v4_16, v5_16, v6_16 => f_grd ((0 : Int32)) 14 ((if (u.2.2.2.2 ((0 : Int32)).toNatClampNeg) ≤ v6_16 then some (v4_16, v5_16, v6_16) else f_grd ((2 : Int32)) 14 ((f_L_places F u ((u.2.2.2.2 ((2 : Int32)).toNatClampNeg) + v4_16)).bind fun x17003 => f_grd ((3 : Int32)) 14 (f_L_toTop_L16 F u a1 n (v4_16 + (1 : Int32)) (v5_16 + x17003) (v6_16 + ((a1 - (u.2.2.2.2 ((3 : Int32)).toNatClampNeg)) / ((2 : Int32))))))))
set_option maxRecDepth 100000 in
def f_L_toTop (F : Nat) (u : d_W) (a1 : Int32) (a2 : Int32) : Option (Int32) := f_grd ((2 : Int32)) 14 ((f_L_top F u (u.2.2.2.2 ((2 : Int32)).toNatClampNeg)).bind fun x2 => (f_L_toTop_L16 F u a1 F ((0 : Int32)) ((0 : Int32)) x2).bind fun o3 => (if a2 = 0 then some (o3.1) else some (o3.2.1)))
set_option maxHeartbeats 4000000 in
set_option maxRecDepth 100000 in
theorem l_L_toTop_L16 {p : Program} {l : Launch} {e : Env} {s : State} {m : MethodId} {args : Array Value} {below : List Frame} {meth : Method} {c : Code} {Q : State → Prop} {g : a_G} (F : Nat) {h : List va_E} {P : d_P} (u : d_W) (a1 : Int32) (a2 : Int32) (hz : d_lw h P u) : ∀ (n : Nat) (v4_16 : Int32) (v5_16 : Int32) (v6_16 : Int32) (o : Int32 × Int32 × Int32), f_L_toTop_L16 F u a1 n v4_16 v5_16 v6_16 = some o → (∀ e9 : Int32 × Int32 × Int32, o = e9 → a_W p l e (a_rm 1 24) s m args below meth c Q RL cL_toTop 7 g 0 0 none 57 [(1, .int a2), (4, .int e9.1), (5, .int e9.2.1)] [] h) → a_W p l e (a_rm 1 24) s m args below meth c Q RL cL_toTop 7 g 0 0 none 16 [(0, .int a1), (1, .int a2), (3, .ref P.2.2.2.2), (4, .int v4_16), (5, .int v5_16), (6, .int v6_16)] [] h := by
  intro n
  induction n with
  | zero => intro v4_16 v5_16 v6_16 o hf; exact nomatch (show (none : Option (Int32 × Int32 × Int32)) = some o from hf)
  | succ n ih =>
    intro v4_16 v5_16 v6_16 o hf hX0
    rw [f_L_toTop_L16] at hf
    refine a_iload (pc' := 18) 5 dL_toTop_16 rfl rfl ?_
    refine a_aload_n (pc' := 19) 2 dL_toTop_18 rfl rfl rfl ?_
    refine a_iconst (pc' := 20) (v := (0 : Int32)) dL_toTop_19 rfl (by decide) ?_
    obtain ⟨hg, hf⟩ := f_grd_x hf
    refine b_iald (pc' := 21) hz.2.2.2.2.2 hg dL_toTop_20 rfl ?_
    refine a_icmp_ge (pc' := 24) 57 dL_toTop_21 (by decide) rfl (fun k17001 => ?_) (fun k17001 => ?_)
    · replace hf := (if_pos k17001).symm.trans hf
      cases hf
      refine a_sub [1, 3, 4] rfl ?_
      exact hX0 _ rfl
    · replace hf := (if_neg k17001).symm.trans hf
      refine a_iload (pc' := 26) 4 dL_toTop_24 rfl rfl ?_
      refine a_aload_n (pc' := 27) 2 dL_toTop_26 rfl rfl rfl ?_
      refine a_iconst (pc' := 28) (v := (2 : Int32)) dL_toTop_27 rfl (by decide) ?_
      obtain ⟨hg, hf⟩ := f_grd_x hf
      refine b_iald (pc' := 29) hz.2.2.2.2.2 hg dL_toTop_28 rfl ?_
      refine a_iload (pc' := 31) 3 dL_toTop_29 rfl rfl ?_
      refine a_iadd (pc' := 32) dL_toTop_31 rfl ?_
      refine a_aload_n (pc' := 33) 2 dL_toTop_32 rfl rfl rfl ?_
      obtain ⟨x17003, e17002, hf⟩ := Option.bind_eq_some_iff.mp hf
      refine k_L_8 (pc' := 36) (c_L_places l g F hz e17002) ⟨Nat.le_of_ble_eq_true rfl, Nat.le_of_ble_eq_true rfl⟩ (Nat.le_of_ble_eq_true rfl) dL_toTop_33 rfl ?_
      refine a_iadd (pc' := 37) dL_toTop_36 rfl ?_
      refine a_istore (pc' := 39) (ls' := [(5, .int (v5_16 + x17003)), (0, .int a1), (1, .int a2), (3, .ref P.2.2.2.2), (4, .int v4_16), (6, .int v6_16)]) dL_toTop_37 (by decide) rfl rfl ?_
      refine a_iinc (pc' := 42) (v := v4_16 + (1 : Int32)) (ls' := [(4, .int (v4_16 + (1 : Int32))), (5, .int (v5_16 + x17003)), (0, .int a1), (1, .int a2), (3, .ref P.2.2.2.2), (6, .int v6_16)]) 4 dL_toTop_39 rfl (by rfl) (by decide) rfl rfl ?_
      refine a_iload (pc' := 44) 5 dL_toTop_42 rfl rfl ?_
      refine a_iload_n (pc' := 45) 2 dL_toTop_44 rfl rfl rfl ?_
      refine a_aload_n (pc' := 46) 4 dL_toTop_45 rfl rfl rfl ?_
      refine a_iconst (pc' := 47) (v := (3 : Int32)) dL_toTop_46 rfl (by decide) ?_
      obtain ⟨hg, hf⟩ := f_grd_x hf
      refine b_iald (pc' := 48) hz.2.2.2.2.2 hg dL_toTop_47 rfl ?_
      refine a_isub (pc' := 49) dL_toTop_48 rfl ?_
      refine a_iconst (pc' := 50) (v := (2 : Int32)) dL_toTop_49 rfl (by decide) ?_
      refine a_idiv (pc' := 51) dL_toTop_50 rfl (by decide) ?_
      refine a_iadd (pc' := 52) dL_toTop_51 rfl ?_
      refine a_istore (pc' := 54) (ls' := [(6, .int (v6_16 + ((a1 - (u.2.2.2.2 ((3 : Int32)).toNatClampNeg)) / ((2 : Int32))))), (4, .int (v4_16 + (1 : Int32))), (5, .int (v5_16 + x17003)), (0, .int a1), (1, .int a2), (3, .ref P.2.2.2.2)]) dL_toTop_52 (by decide) rfl rfl ?_
      refine a_goto 16 dL_toTop_54 (by decide) ?_
      refine a_sub [3, 4, 5, 1, 2, 0] rfl ?_
      exact ih _ _ _ _ hf hX0
set_option maxHeartbeats 4000000 in
set_option maxRecDepth 100000 in
theorem c_L_toTop (l : Launch) (g : a_G) (F : Nat) {h : List va_E} {P : d_P} {u : d_W} {a1 : Int32} {a2 : Int32} (hz : d_lw h P u) {out : Int32} (hf : f_L_toTop F u a1 a2 = some out) : a_CT l g yL_toTop cL_toTop 7 (some .int) (a_rm 1 24) [.int a1, .int a2, .ref P.1, .ref P.2.2.2.2] h none none (fun r h' => r = some (.int out) ∧ h' = h) := by
  refine a_enter ⟨by decide, rfl, Nat.le_of_ble_eq_true rfl⟩ (fun p e s m args below meth c hr hin => ?_)
  unfold f_L_toTop at hf
  refine a_sub (ls' := [(0, .int a1), (1, .int a2), (2, .ref P.1), (3, .ref P.2.2.2.2)]) [0, 1, 2, 3] rfl ?_
  refine a_iconst (pc' := 1) (v := (0 : Int32)) dL_toTop_0 rfl (by decide) ?_
  refine a_istore (pc' := 3) (ls' := [(4, .int ((0 : Int32))), (0, .int a1), (1, .int a2), (2, .ref P.1), (3, .ref P.2.2.2.2)]) dL_toTop_1 (by decide) rfl rfl ?_
  refine a_iconst (pc' := 4) (v := (0 : Int32)) dL_toTop_3 rfl (by decide) ?_
  refine a_istore (pc' := 6) (ls' := [(5, .int ((0 : Int32))), (4, .int ((0 : Int32))), (0, .int a1), (1, .int a2), (2, .ref P.1), (3, .ref P.2.2.2.2)]) dL_toTop_4 (by decide) rfl rfl ?_
  refine a_aload_n (pc' := 7) 5 dL_toTop_6 rfl rfl rfl ?_
  refine a_iconst (pc' := 8) (v := (2 : Int32)) dL_toTop_7 rfl (by decide) ?_
  obtain ⟨hg, hf⟩ := f_grd_x hf
  refine b_iald (pc' := 9) hz.2.2.2.2.2 hg dL_toTop_8 rfl ?_
  refine a_aload_n (pc' := 10) 4 dL_toTop_9 rfl rfl rfl ?_
  refine a_aload_n (pc' := 11) 5 dL_toTop_10 rfl rfl rfl ?_
  obtain ⟨x2, e1, hf⟩ := Option.bind_eq_some_iff.mp hf
  refine k_L_19 (pc' := 14) (c_L_top l g F hz e1) ⟨Nat.le_of_ble_eq_true rfl, Nat.le_of_ble_eq_true rfl⟩ (Nat.le_of_ble_eq_true rfl) dL_toTop_11 rfl ?_
  refine a_istore (pc' := 16) (ls' := [(6, .int x2), (5, .int ((0 : Int32))), (4, .int ((0 : Int32))), (0, .int a1), (1, .int a2), (2, .ref P.1), (3, .ref P.2.2.2.2)]) dL_toTop_14 (by decide) rfl rfl ?_
  obtain ⟨o3, e4, hf⟩ := Option.bind_eq_some_iff.mp hf
  refine a_sub [3, 4, 6, 2, 1, 0] rfl ?_
  refine l_L_toTop_L16 F u a1 a2 hz F _ _ _ o3 e4 (fun e9 he9 => ?_)
  subst he9
  refine a_iload_n (pc' := 58) 0 dL_toTop_57 rfl rfl rfl ?_
  refine a_if_ne (pc' := 61) 66 dL_toTop_58 (by decide) rfl (fun k5 => ?_) (fun k5 => ?_)
  · replace hf := (if_neg k5).symm.trans hf
    refine a_iload (pc' := 68) 2 dL_toTop_66 rfl rfl ?_
    cases hf
    exact a_iret hr ⟨rfl, rfl⟩ dL_toTop_68
  · replace hf := (if_pos k5).symm.trans hf
    refine a_iload (pc' := 63) 1 dL_toTop_61 rfl rfl ?_
    refine a_goto 68 dL_toTop_63 (by decide) ?_
    cases hf
    exact a_iret hr ⟨rfl, rfl⟩ dL_toTop_68
/-! SlateRoofLaw.ahead(LSlateRoof;I[I[I[I[I[I)Z -/
set_option maxRecDepth 100000 in
def f_L_ahead_L98 (F : Nat) (Y : d_A) : Nat → Int32 → Int32 → Option (Int32 × Int32)
  | 0, _, _ => none
  | n + 1, v9_98, v10_98 => (if v10_98 ≤ ((7 : Int32)) then some (v9_98, v10_98) else f_grd ((2 : Int32)) 14 ((f_L_top F Y.2.2 (Y.2.2.2.2.2.2 ((2 : Int32)).toNatClampNeg)).bind fun x99003 => f_grd ((0 : Int32)) 14 ((if (Y.2.2.2.2.2.2 ((0 : Int32)).toNatClampNeg) ≤ x99003 then some (v9_98, v10_98) else (if v9_98 < 0 then f_L_ahead_L98 F Y n v10_98 (v10_98 + (-1 : Int32)) else (f_L_toTop F Y.2.2 v10_98 ((1 : Int32))).bind fun x99007 => (f_L_toTop F Y.2.2 v9_98 ((1 : Int32))).bind fun x99009 => (if (x99009 * ((v9_98 * v9_98) / ((16 : Int32)))) ≤ (x99007 * ((v10_98 * v10_98) / ((16 : Int32)))) then f_L_ahead_L98 F Y n v9_98 (v10_98 + (-1 : Int32)) else f_L_ahead_L98 F Y n v10_98 (v10_98 + (-1 : Int32))))))))
set_option maxRecDepth 100000 in
def f_L_ahead_L259 (F : Nat)  : Nat → Int32 → d_X → Option (Int32 × d_X)
  | 0, _, _ => none
  | n + 1, v15_259, Z_259 => (if ((201 : Int32)) ≤ v15_259 then some (v15_259, Z_259) else (f_L_done F Z_259.2).bind fun x260003 => (if x260003 = 0 then (f_L_day F Z_259.2 ((0 : Int32))).bind fun x260006 => f_let (Z_259.1, x260006.2) fun Z260008 => (f_L_slaters F Z260008.2).bind fun x260010 => f_let (Z260008.1, x260010.2) fun Z260012 => f_L_ahead_L259 F  n (v15_259 + (1 : Int32)) Z260012 else some (v15_259, Z_259)))
set_option maxRecDepth 100000 in
def f_L_ahead_L356 (F : Nat)  : Nat → Int32 → d_X → Option (Int32 × d_X)
  | 0, _, _ => none
  | n + 1, v16_356, Z_356 => f_grd ((2 : Int32)) 14 ((f_L_top F Z_356.2 (Z_356.2.2.2.2.2 ((2 : Int32)).toNatClampNeg)).bind fun x357002 => f_grd ((0 : Int32)) 14 ((if (Z_356.2.2.2.2.2 ((0 : Int32)).toNatClampNeg) ≤ x357002 then some (v16_356, Z_356) else (f_L_next F Z_356.2).bind fun x357005 => (if x357005 ≤ 0 then some (v16_356, Z_356) else (f_L_next F Z_356.2).bind fun x357008 => f_grd x357008 25 (f_grd ((2 : Int32)) 14 ((f_L_places F Z_356.2 (Z_356.2.2.2.2.2 ((2 : Int32)).toNatClampNeg)).bind fun x357010 => f_grd x357008 25 (f_let (Z_356.1, (Z_356.2.1, Z_356.2.2.1, upd Z_356.2.2.2.1 x357008.toNatClampNeg ((Z_356.2.2.2.1 x357008.toNatClampNeg) - x357010), Z_356.2.2.2.2.1, Z_356.2.2.2.2.2)) fun Z357012 => f_grd ((2 : Int32)) 14 (f_grd (Z357012.2.2.2.2.2 ((2 : Int32)).toNatClampNeg) 61 (f_let (Z357012.1, (upd Z357012.2.1 (Z357012.2.2.2.2.2 ((2 : Int32)).toNatClampNeg).toNatClampNeg x357008, Z357012.2.2.1, Z357012.2.2.2.1, Z357012.2.2.2.2.1, Z357012.2.2.2.2.2)) fun Z357014 => f_grd ((2 : Int32)) 14 (f_grd ((2 : Int32)) 14 (f_let (Z357014.1, (Z357014.2.1, Z357014.2.2.1, Z357014.2.2.2.1, Z357014.2.2.2.2.1, upd Z357014.2.2.2.2.2 ((2 : Int32)).toNatClampNeg ((Z357014.2.2.2.2.2 ((2 : Int32)).toNatClampNeg) + ((1 : Int32))))) fun Z357016 => f_L_ahead_L356 F  n x357008 Z357016)))))))))))
set_option maxRecDepth 100000 in
def f_L_ahead (F : Nat) (Y : d_A) (a1 : Int32) : Option (Int32 × d_A) := (f_L_at F a1 ((17 : Int32))).bind fun x2 => (f_L_longest F Y.2.2).bind fun x4 => ((if x4 < (((8 : Int32)) + x2) then some ((0 : Int32)) else some ((1 : Int32)))).bind fun j5 => f_nt (f_X3_toTop F Y.1 (((8 : Int32)) + x2) ((0 : Int32))) fun x8 => ((if j5 = 0 then some ((-1 : Int32)) else (f_L_toTop F Y.2.2 (((8 : Int32)) + x2) ((0 : Int32))).bind fun x12 => some (x12))).bind fun j9 => (if x8 = j9 then f_nt (f_X3_toTop F Y.1 (((8 : Int32)) + x2) ((1 : Int32))) fun x15 => ((if j5 = 0 then some ((-1 : Int32)) else (f_L_toTop F Y.2.2 (((8 : Int32)) + x2) ((1 : Int32))).bind fun x19 => some (x19))).bind fun j16 => (if x15 = j16 then (f_L_longest F Y.2.2).bind fun x22 => (f_L_ahead_L98 F Y F ((-1 : Int32)) x22).bind fun o23 => (f_X3_bestLength F Y.1).bind fun x26 => (if x26 = o23.1 then f_let (Y, d_w0) fun Z28 => f_let (Z28.1, (Z28.1.2.2.1, Z28.2.2.1, Z28.2.2.2.1, Z28.2.2.2.2.1, Z28.2.2.2.2.2)) fun Z30 => f_let (Z30.1, (Z30.2.1, Z30.1.2.2.2.1, Z30.2.2.2.1, Z30.2.2.2.2.1, Z30.2.2.2.2.2)) fun Z32 => f_let (Z32.1, (Z32.2.1, Z32.2.2.1, Z32.1.2.2.2.2.1, Z32.2.2.2.2.1, Z32.2.2.2.2.2)) fun Z34 => f_let (Z34.1, (Z34.2.1, Z34.2.2.1, Z34.2.2.2.1, Z34.1.2.2.2.2.2.1, Z34.2.2.2.2.2)) fun Z36 => f_let (Z36.1, (Z36.2.1, Z36.2.2.1, Z36.2.2.2.1, Z36.2.2.2.2.1, Z36.1.2.2.2.2.2.2)) fun Z38 => f_grd ((9 : Int32)) 14 (f_let (Z38.1, (Z38.2.1, Z38.2.2.1, Z38.2.2.2.1, Z38.2.2.2.2.1, upd Z38.2.2.2.2.2 ((9 : Int32)).toNatClampNeg ((0 : Int32)))) fun Z40 => (f_L_ahead_L259 F F ((0 : Int32)) Z40).bind fun o41 => (f_X3_dryDays F o41.2.1.1).bind fun x45 => f_let ((x45.2, o41.2.1.2), o41.2.2) fun Z47 => ((if o41.1 ≤ ((200 : Int32)) then some (o41.1) else some ((-1 : Int32)))).bind fun j48 => (if x45.1 = j48 then f_let (Z47.1, (Z47.1.2.2.1, Z47.2.2.1, Z47.2.2.2.1, Z47.2.2.2.2.1, Z47.2.2.2.2.2)) fun Z52 => f_let (Z52.1, (Z52.2.1, Z52.2.2.1, Z52.1.2.2.2.2.1, Z52.2.2.2.2.1, Z52.2.2.2.2.2)) fun Z54 => f_let (Z54.1, (Z54.2.1, Z54.2.2.1, Z54.2.2.2.1, Z54.2.2.2.2.1, Z54.1.2.2.2.2.2.2)) fun Z56 => (f_L_ahead_L356 F F ((-1 : Int32)) Z56).bind fun o57 => f_nt (f_X3_reach F o57.2.1.1 ((0 : Int32))) fun x61 => f_let ((x61.2, o57.2.1.2), o57.2.2) fun Z63 => f_grd ((2 : Int32)) 14 (f_grd ((2 : Int32)) 14 ((if x61.1 = ((Z63.2.2.2.2.2 ((2 : Int32)).toNatClampNeg) - (Z63.1.2.2.2.2.2.2 ((2 : Int32)).toNatClampNeg)) then f_nt (f_X3_reach F Z63.1.1 ((1 : Int32))) fun x66 => f_let ((x66.2, Z63.1.2), Z63.2) fun Z68 => f_grd ((2 : Int32)) 14 ((f_L_top F Z68.2 (Z68.2.2.2.2.2 ((2 : Int32)).toNatClampNeg)).bind fun x70 => (if x66.1 = x70 then f_nt (f_X3_reach F Z68.1.1 ((2 : Int32))) fun x73 => f_let ((x73.2, Z68.1.2), Z68.2) fun Z75 => (f_L_all F 25 Z75.2.2.2.1).bind fun x77 => (if x73.1 = x77 then f_nt (f_X3_reach F Z75.1.1 ((3 : Int32))) fun x80 => f_let ((x80.2, Z75.1.2), Z75.2) fun Z82 => (if x80.1 = o57.1 then some ((1, Z82.1)) else none) else none) else none)) else none))) else none)) else none) else none) else none)
set_option maxHeartbeats 4000000 in
set_option maxRecDepth 100000 in
theorem l_L_ahead_L98 {p : Program} {l : Launch} {e : Env} {s : State} {m : MethodId} {args : Array Value} {below : List Frame} {meth : Method} {c : Code} {Q : State → Prop} {g : a_G} (F : Nat) {h : List va_E} (Y : d_A) (hz : d_al h Y) : ∀ (n : Nat) (v9_98 : Int32) (v10_98 : Int32) (o : Int32 × Int32), f_L_ahead_L98 F Y n v9_98 v10_98 = some o → (∀ e9 : Int32 × Int32, o = e9 → a_W p l e (a_r5 6 133) s m args below meth c Q RL cL_ahead 17 g 0 0 none 176 [(0, .ref 0), (2, .ref 55), (3, .ref 56), (4, .ref 57), (5, .ref 58), (6, .ref 60), (9, .int e9.1)] [] h) → a_W p l e (a_r5 6 133) s m args below meth c Q RL cL_ahead 17 g 0 0 none 98 [(0, .ref 0), (2, .ref 55), (3, .ref 56), (4, .ref 57), (5, .ref 58), (6, .ref 60), (9, .int v9_98), (10, .int v10_98)] [] h := by
  intro n
  induction n with
  | zero => intro v9_98 v10_98 o hf; exact nomatch (show (none : Option (Int32 × Int32)) = some o from hf)
  | succ n ih =>
    intro v9_98 v10_98 o hf hX0
    rw [f_L_ahead_L98] at hf
    refine a_iload (pc' := 100) 7 dL_ahead_98 rfl rfl ?_
    refine a_bipush (pc' := 102) (v := (7 : Int32)) dL_ahead_100 rfl (by decide) ?_
    refine a_icmp_le (pc' := 105) 176 dL_ahead_102 (by decide) rfl (fun k99001 => ?_) (fun k99001 => ?_)
    · replace hf := (if_pos k99001).symm.trans hf
      cases hf
      refine a_sub [0, 1, 2, 3, 4, 5, 6] rfl ?_
      exact hX0 _ rfl
    · replace hf := (if_neg k99001).symm.trans hf
      refine a_aload (pc' := 107) 5 dL_ahead_105 rfl rfl ?_
      refine a_iconst (pc' := 108) (v := (2 : Int32)) dL_ahead_107 rfl (by decide) ?_
      obtain ⟨hg, hf⟩ := f_grd_x hf
      refine b_iald (pc' := 109) hz.2.2.2.2.2.2.2 hg dL_ahead_108 rfl ?_
      refine a_aload_n (pc' := 110) 1 dL_ahead_109 rfl rfl rfl ?_
      refine a_aload (pc' := 112) 5 dL_ahead_110 rfl rfl ?_
      obtain ⟨x99003, e99002, hf⟩ := Option.bind_eq_some_iff.mp hf
      refine k_L_19 (pc' := 115) (c_L_top l g F hz.2.2 e99002) ⟨Nat.le_of_ble_eq_true rfl, Nat.le_of_ble_eq_true rfl⟩ (Nat.le_of_ble_eq_true rfl) dL_ahead_112 rfl ?_
      refine a_aload (pc' := 117) 5 dL_ahead_115 rfl rfl ?_
      refine a_iconst (pc' := 118) (v := (0 : Int32)) dL_ahead_117 rfl (by decide) ?_
      obtain ⟨hg, hf⟩ := f_grd_x hf
      refine b_iald (pc' := 119) hz.2.2.2.2.2.2.2 hg dL_ahead_118 rfl ?_
      refine a_icmp_ge (pc' := 122) 176 dL_ahead_119 (by decide) rfl (fun k99004 => ?_) (fun k99004 => ?_)
      · replace hf := (if_pos k99004).symm.trans hf
        cases hf
        refine a_sub [0, 1, 2, 3, 4, 5, 6] rfl ?_
        exact hX0 _ rfl
      · replace hf := (if_neg k99004).symm.trans hf
        refine a_iload (pc' := 124) 6 dL_ahead_122 rfl rfl ?_
        refine a_if_lt (pc' := 127) 166 dL_ahead_124 (by decide) rfl (fun k99005 => ?_) (fun k99005 => ?_)
        · replace hf := (if_pos k99005).symm.trans hf
          refine a_iload (pc' := 168) 7 dL_ahead_166 rfl rfl ?_
          refine a_istore (pc' := 170) (ls' := [(9, .int v10_98), (0, .ref 0), (2, .ref 55), (3, .ref 56), (4, .ref 57), (5, .ref 58), (6, .ref 60), (10, .int v10_98)]) dL_ahead_168 (by decide) rfl rfl ?_
          refine a_iinc (pc' := 173) (v := v10_98 + (-1 : Int32)) (ls' := [(10, .int (v10_98 + (-1 : Int32))), (9, .int v10_98), (0, .ref 0), (2, .ref 55), (3, .ref 56), (4, .ref 57), (5, .ref 58), (6, .ref 60)]) 7 dL_ahead_170 rfl (by rfl) (by decide) rfl rfl ?_
          refine a_goto 98 dL_ahead_173 (by decide) ?_
          refine a_sub [2, 3, 4, 5, 6, 7, 1, 0] rfl ?_
          exact ih _ _ _ hf hX0
        · replace hf := (if_neg k99005).symm.trans hf
          refine a_iload (pc' := 129) 7 dL_ahead_127 rfl rfl ?_
          refine a_iconst (pc' := 130) (v := (1 : Int32)) dL_ahead_129 rfl (by decide) ?_
          refine a_aload_n (pc' := 131) 1 dL_ahead_130 rfl rfl rfl ?_
          refine a_aload (pc' := 133) 5 dL_ahead_131 rfl rfl ?_
          obtain ⟨x99007, e99006, hf⟩ := Option.bind_eq_some_iff.mp hf
          refine k_L_85 (pc' := 136) (c_L_toTop l g F hz.2.2 e99006) ⟨Nat.le_of_ble_eq_true rfl, Nat.le_of_ble_eq_true rfl⟩ (Nat.le_of_ble_eq_true rfl) dL_ahead_133 rfl ?_
          refine a_iload (pc' := 138) 7 dL_ahead_136 rfl rfl ?_
          refine a_iload (pc' := 140) 7 dL_ahead_138 rfl rfl ?_
          refine a_imul (pc' := 141) dL_ahead_140 rfl ?_
          refine a_bipush (pc' := 143) (v := (16 : Int32)) dL_ahead_141 rfl (by decide) ?_
          refine a_idiv (pc' := 144) dL_ahead_143 rfl (by decide) ?_
          refine a_imul (pc' := 145) dL_ahead_144 rfl ?_
          refine a_iload (pc' := 147) 6 dL_ahead_145 rfl rfl ?_
          refine a_iconst (pc' := 148) (v := (1 : Int32)) dL_ahead_147 rfl (by decide) ?_
          refine a_aload_n (pc' := 149) 1 dL_ahead_148 rfl rfl rfl ?_
          refine a_aload (pc' := 151) 5 dL_ahead_149 rfl rfl ?_
          obtain ⟨x99009, e99008, hf⟩ := Option.bind_eq_some_iff.mp hf
          refine k_L_85 (pc' := 154) (c_L_toTop l g F hz.2.2 e99008) ⟨Nat.le_of_ble_eq_true rfl, Nat.le_of_ble_eq_true rfl⟩ (Nat.le_of_ble_eq_true rfl) dL_ahead_151 rfl ?_
          refine a_iload (pc' := 156) 6 dL_ahead_154 rfl rfl ?_
          refine a_iload (pc' := 158) 6 dL_ahead_156 rfl rfl ?_
          refine a_imul (pc' := 159) dL_ahead_158 rfl ?_
          refine a_bipush (pc' := 161) (v := (16 : Int32)) dL_ahead_159 rfl (by decide) ?_
          refine a_idiv (pc' := 162) dL_ahead_161 rfl (by decide) ?_
          refine a_imul (pc' := 163) dL_ahead_162 rfl ?_
          refine a_icmp_ge (pc' := 166) 170 dL_ahead_163 (by decide) rfl (fun k99010 => ?_) (fun k99010 => ?_)
          · replace hf := (if_pos k99010).symm.trans hf
            refine a_iinc (pc' := 173) (v := v10_98 + (-1 : Int32)) (ls' := [(10, .int (v10_98 + (-1 : Int32))), (0, .ref 0), (2, .ref 55), (3, .ref 56), (4, .ref 57), (5, .ref 58), (6, .ref 60), (9, .int v9_98)]) 7 dL_ahead_170 rfl (by rfl) (by decide) rfl rfl ?_
            refine a_goto 98 dL_ahead_173 (by decide) ?_
            refine a_sub [1, 2, 3, 4, 5, 6, 7, 0] rfl ?_
            exact ih _ _ _ hf hX0
          · replace hf := (if_neg k99010).symm.trans hf
            refine a_iload (pc' := 168) 7 dL_ahead_166 rfl rfl ?_
            refine a_istore (pc' := 170) (ls' := [(9, .int v10_98), (0, .ref 0), (2, .ref 55), (3, .ref 56), (4, .ref 57), (5, .ref 58), (6, .ref 60), (10, .int v10_98)]) dL_ahead_168 (by decide) rfl rfl ?_
            refine a_iinc (pc' := 173) (v := v10_98 + (-1 : Int32)) (ls' := [(10, .int (v10_98 + (-1 : Int32))), (9, .int v10_98), (0, .ref 0), (2, .ref 55), (3, .ref 56), (4, .ref 57), (5, .ref 58), (6, .ref 60)]) 7 dL_ahead_170 rfl (by rfl) (by decide) rfl rfl ?_
            refine a_goto 98 dL_ahead_173 (by decide) ?_
            refine a_sub [2, 3, 4, 5, 6, 7, 1, 0] rfl ?_
            exact ih _ _ _ hf hX0
set_option maxHeartbeats 4000000 in
set_option maxRecDepth 100000 in
theorem l_L_ahead_L259 {p : Program} {l : Launch} {e : Env} {s : State} {m : MethodId} {args : Array Value} {below : List Frame} {meth : Method} {c : Code} {Q : State → Prop} {g : a_G} (F : Nat) {h : List va_E} {b : Nat}  : ∀ (n : Nat) (v15_259 : Int32) (Z_259 : d_X) (o : Int32 × d_X), f_L_ahead_L259 F  n v15_259 Z_259 = some o → (∀ e9 : Int32 × d_X, o = e9 → ∀ h1, d_bl h1 b e9.2 → d_fl h h1 → a_W p l e (a_r5 6 133) s m args below meth c Q RL cL_ahead 17 g 5 186 none 310 [(0, .ref 0), (2, .ref 55), (4, .ref 57), (6, .ref 60), (10, .ref (b + 0)), (12, .ref (b + 2)), (14, .ref (b + 4)), (15, .int e9.1)] [] h1) → ∀ h1, d_bl h1 b Z_259 → d_fl h h1 → a_W p l e (a_r5 6 133) s m args below meth c Q RL cL_ahead 17 g 5 186 none 259 [(0, .ref 0), (2, .ref 55), (4, .ref 57), (6, .ref 60), (10, .ref (b + 0)), (11, .ref (b + 1)), (12, .ref (b + 2)), (13, .ref (b + 3)), (14, .ref (b + 4)), (15, .int v15_259)] [] h1 := by
  intro n
  induction n with
  | zero => intro v15_259 Z_259 o hf; exact nomatch (show (none : Option (Int32 × d_X)) = some o from hf)
  | succ n ih =>
    intro v15_259 Z_259 o hf hX0 h1 hz hfr
    rw [f_L_ahead_L259] at hf
    refine a_iload (pc' := 261) 9 dL_ahead_259 rfl rfl ?_
    refine a_sipush (pc' := 264) (v := (201 : Int32)) dL_ahead_261 rfl (by decide) ?_
    refine a_icmp_ge (pc' := 267) 310 dL_ahead_264 (by decide) rfl (fun k260001 => ?_) (fun k260001 => ?_)
    · replace hf := (if_pos k260001).symm.trans hf
      cases hf
      refine a_sub [0, 1, 2, 3, 4, 6, 8, 9] rfl ?_
      exact hX0 _ rfl _ hz hfr
    · replace hf := (if_neg k260001).symm.trans hf
      refine a_aload (pc' := 269) 4 dL_ahead_267 rfl rfl ?_
      refine a_aload (pc' := 271) 5 dL_ahead_269 rfl rfl ?_
      refine a_aload (pc' := 273) 8 dL_ahead_271 rfl rfl ?_
      obtain ⟨x260003, e260002, hf⟩ := Option.bind_eq_some_iff.mp hf
      refine k_L_26 (pc' := 276) (c_L_done l g F hz.2.1 e260002) ⟨Nat.le_of_ble_eq_true rfl, Nat.le_of_ble_eq_true rfl⟩ (Nat.le_of_ble_eq_true rfl) dL_ahead_273 rfl ?_
      refine a_if_ne (pc' := 279) 310 dL_ahead_276 (by decide) rfl (fun k260004 => ?_) (fun k260004 => ?_)
      · replace hf := (if_neg k260004).symm.trans hf
        cases hf
        refine a_sub [0, 1, 2, 3, 4, 6, 8, 9] rfl ?_
        exact hX0 _ rfl _ hz hfr
      · replace hf := (if_pos k260004).symm.trans hf
        refine a_iconst (pc' := 280) (v := (0 : Int32)) dL_ahead_279 rfl (by decide) ?_
        refine a_aload (pc' := 282) 4 dL_ahead_280 rfl rfl ?_
        refine a_aload (pc' := 284) 5 dL_ahead_282 rfl rfl ?_
        refine a_aload (pc' := 286) 7 dL_ahead_284 rfl rfl ?_
        refine a_aload (pc' := 288) 8 dL_ahead_286 rfl rfl ?_
        obtain ⟨x260006, e260005, hf⟩ := Option.bind_eq_some_iff.mp hf
        refine k_L_96 (pc' := 291) (c_L_day l g F hz.2.1 e260005) ⟨Nat.le_of_ble_eq_true rfl, Nat.le_of_ble_eq_true rfl⟩ (Nat.le_of_ble_eq_true rfl) dL_ahead_288 rfl (fun h260007 hq => ?_)
        obtain ⟨hz1, hfr1⟩ := hq
        have hz2 := d_bl_p hz hz1 hfr1
        obtain ⟨Z260008, hf, hz⟩ := f_let_x (P := fun w => d_bl h260007 b w) hf hz2
        replace hfr : d_fl h h260007 := Eq.trans hfr1.1 hfr
        refine a_pop (pc' := 292) dL_ahead_291 rfl rfl ?_
        refine a_aload (pc' := 294) 4 dL_ahead_292 rfl rfl ?_
        refine a_aload (pc' := 296) 5 dL_ahead_294 rfl rfl ?_
        refine a_aload (pc' := 298) 6 dL_ahead_296 rfl rfl ?_
        refine a_aload (pc' := 300) 8 dL_ahead_298 rfl rfl ?_
        obtain ⟨x260010, e260009, hf⟩ := Option.bind_eq_some_iff.mp hf
        refine k_L_100 (pc' := 303) (c_L_slaters l g F hz.2.1 e260009) ⟨Nat.le_of_ble_eq_true rfl, Nat.le_of_ble_eq_true rfl⟩ (Nat.le_of_ble_eq_true rfl) dL_ahead_300 rfl (fun h260011 hq => ?_)
        obtain ⟨hz1, hfr1⟩ := hq
        have hz2 := d_bl_p hz hz1 hfr1
        obtain ⟨Z260012, hf, hz⟩ := f_let_x (P := fun w => d_bl h260011 b w) hf hz2
        replace hfr : d_fl h h260011 := Eq.trans hfr1.1 hfr
        refine a_pop (pc' := 304) dL_ahead_303 rfl rfl ?_
        refine a_iinc (pc' := 307) (v := v15_259 + (1 : Int32)) (ls' := [(15, .int (v15_259 + (1 : Int32))), (0, .ref 0), (2, .ref 55), (4, .ref 57), (6, .ref 60), (10, .ref (b + 0)), (11, .ref (b + 1)), (12, .ref (b + 2)), (13, .ref (b + 3)), (14, .ref (b + 4))]) 9 dL_ahead_304 rfl (by rfl) (by decide) rfl rfl ?_
        refine a_goto 259 dL_ahead_307 (by decide) ?_
        refine a_sub [1, 2, 3, 4, 5, 6, 7, 8, 9, 0] rfl ?_
        exact ih _ _ _ hf hX0 _ hz hfr
set_option maxHeartbeats 4000000 in
set_option maxRecDepth 100000 in
theorem l_L_ahead_L356 {p : Program} {l : Launch} {e : Env} {s : State} {m : MethodId} {args : Array Value} {below : List Frame} {meth : Method} {c : Code} {Q : State → Prop} {g : a_G} (F : Nat) {h : List va_E} {b : Nat}  : ∀ (n : Nat) (v16_356 : Int32) (Z_356 : d_X) (o : Int32 × d_X), f_L_ahead_L356 F  n v16_356 Z_356 = some o → (∀ e9 : Int32 × d_X, o = e9 → ∀ h1, d_bl h1 b e9.2 → d_fl h h1 → a_W p l e (a_r5 6 133) s m args below meth c Q RL cL_ahead 17 g 5 186 none 434 [(0, .ref 0), (6, .ref 60), (10, .ref (b + 0)), (12, .ref (b + 2)), (14, .ref (b + 4)), (16, .int e9.1)] [] h1) → ∀ h1, d_bl h1 b Z_356 → d_fl h h1 → a_W p l e (a_r5 6 133) s m args below meth c Q RL cL_ahead 17 g 5 186 none 356 [(0, .ref 0), (6, .ref 60), (10, .ref (b + 0)), (12, .ref (b + 2)), (14, .ref (b + 4)), (16, .int v16_356)] [] h1 := by
  intro n
  induction n with
  | zero => intro v16_356 Z_356 o hf; exact nomatch (show (none : Option (Int32 × d_X)) = some o from hf)
  | succ n ih =>
    intro v16_356 Z_356 o hf hX0 h1 hz hfr
    rw [f_L_ahead_L356] at hf
    refine a_aload (pc' := 358) 4 dL_ahead_356 rfl rfl ?_
    refine a_iconst (pc' := 359) (v := (2 : Int32)) dL_ahead_358 rfl (by decide) ?_
    obtain ⟨hg, hf⟩ := f_grd_x hf
    refine b_iald (pc' := 360) hz.2.1.2.2.2.2.2 hg dL_ahead_359 rfl ?_
    refine a_aload (pc' := 362) 2 dL_ahead_360 rfl rfl ?_
    refine a_aload (pc' := 364) 4 dL_ahead_362 rfl rfl ?_
    obtain ⟨x357002, e357001, hf⟩ := Option.bind_eq_some_iff.mp hf
    refine k_L_19 (pc' := 367) (c_L_top l g F hz.2.1 e357001) ⟨Nat.le_of_ble_eq_true rfl, Nat.le_of_ble_eq_true rfl⟩ (Nat.le_of_ble_eq_true rfl) dL_ahead_364 rfl ?_
    refine a_aload (pc' := 369) 4 dL_ahead_367 rfl rfl ?_
    refine a_iconst (pc' := 370) (v := (0 : Int32)) dL_ahead_369 rfl (by decide) ?_
    obtain ⟨hg, hf⟩ := f_grd_x hf
    refine b_iald (pc' := 371) hz.2.1.2.2.2.2.2 hg dL_ahead_370 rfl ?_
    refine a_icmp_ge (pc' := 374) 434 dL_ahead_371 (by decide) rfl (fun k357003 => ?_) (fun k357003 => ?_)
    · replace hf := (if_pos k357003).symm.trans hf
      cases hf
      exact hX0 _ rfl _ hz hfr
    · replace hf := (if_neg k357003).symm.trans hf
      refine a_aload (pc' := 376) 3 dL_ahead_374 rfl rfl ?_
      refine a_aload (pc' := 378) 2 dL_ahead_376 rfl rfl ?_
      refine a_aload (pc' := 380) 4 dL_ahead_378 rfl rfl ?_
      obtain ⟨x357005, e357004, hf⟩ := Option.bind_eq_some_iff.mp hf
      refine k_L_41 (pc' := 383) (c_L_next l g F hz.2.1 e357004) ⟨Nat.le_of_ble_eq_true rfl, Nat.le_of_ble_eq_true rfl⟩ (Nat.le_of_ble_eq_true rfl) dL_ahead_380 rfl ?_
      refine a_if_le (pc' := 386) 434 dL_ahead_383 (by decide) rfl (fun k357006 => ?_) (fun k357006 => ?_)
      · replace hf := (if_pos k357006).symm.trans hf
        cases hf
        exact hX0 _ rfl _ hz hfr
      · replace hf := (if_neg k357006).symm.trans hf
        refine a_aload (pc' := 388) 3 dL_ahead_386 rfl rfl ?_
        refine a_aload (pc' := 390) 2 dL_ahead_388 rfl rfl ?_
        refine a_aload (pc' := 392) 4 dL_ahead_390 rfl rfl ?_
        obtain ⟨x357008, e357007, hf⟩ := Option.bind_eq_some_iff.mp hf
        refine k_L_41 (pc' := 395) (c_L_next l g F hz.2.1 e357007) ⟨Nat.le_of_ble_eq_true rfl, Nat.le_of_ble_eq_true rfl⟩ (Nat.le_of_ble_eq_true rfl) dL_ahead_392 rfl ?_
        refine a_istore (pc' := 397) (ls' := [(16, .int x357008), (0, .ref 0), (6, .ref 60), (10, .ref (b + 0)), (12, .ref (b + 2)), (14, .ref (b + 4))]) dL_ahead_395 (by decide) rfl rfl ?_
        refine a_aload (pc' := 399) 4 dL_ahead_397 rfl rfl ?_
        refine a_iload (pc' := 401) 0 dL_ahead_399 rfl rfl ?_
        refine a_dup2 (pc' := 402) dL_ahead_401 rfl rfl rfl ?_
        obtain ⟨hg, hf⟩ := f_grd_x hf
        refine b_iald (pc' := 403) hz.2.1.2.2.2.1 hg dL_ahead_402 rfl ?_
        refine a_aload (pc' := 405) 5 dL_ahead_403 rfl rfl ?_
        refine a_iconst (pc' := 406) (v := (2 : Int32)) dL_ahead_405 rfl (by decide) ?_
        obtain ⟨hg, hf⟩ := f_grd_x hf
        refine b_iald (pc' := 407) hz.2.1.2.2.2.2.2 hg dL_ahead_406 rfl ?_
        refine a_aload (pc' := 409) 5 dL_ahead_407 rfl rfl ?_
        obtain ⟨x357010, e357009, hf⟩ := Option.bind_eq_some_iff.mp hf
        refine k_L_8 (pc' := 412) (c_L_places l g F hz.2.1 e357009) ⟨Nat.le_of_ble_eq_true rfl, Nat.le_of_ble_eq_true rfl⟩ (Nat.le_of_ble_eq_true rfl) dL_ahead_409 rfl ?_
        refine a_isub (pc' := 413) dL_ahead_412 rfl ?_
        obtain ⟨hg, hf⟩ := f_grd_x hf
        refine b_iast (pc' := 414) hz.2.1.2.2.2.1 hg dL_ahead_413 rfl (fun h357011 hz1 hfr1 => ?_)
        obtain ⟨hz1, hfr1⟩ := d_lw_s2 hz.2.1 hz1 hfr1
        have hz2 := d_bl_p hz hz1 hfr1
        obtain ⟨Z357012, hf, hz⟩ := f_let_x (P := fun w => d_bl h357011 b w) hf hz2
        replace hfr : d_fl h h357011 := Eq.trans hfr1.1 hfr
        refine a_aload (pc' := 416) 3 dL_ahead_414 rfl rfl ?_
        refine a_aload (pc' := 418) 5 dL_ahead_416 rfl rfl ?_
        refine a_iconst (pc' := 419) (v := (2 : Int32)) dL_ahead_418 rfl (by decide) ?_
        obtain ⟨hg, hf⟩ := f_grd_x hf
        refine b_iald (pc' := 420) hz.2.1.2.2.2.2.2 hg dL_ahead_419 rfl ?_
        refine a_iload (pc' := 422) 0 dL_ahead_420 rfl rfl ?_
        obtain ⟨hg, hf⟩ := f_grd_x hf
        refine b_iast (pc' := 423) hz.2.1.2.1 hg dL_ahead_422 rfl (fun h357013 hz1 hfr1 => ?_)
        obtain ⟨hz1, hfr1⟩ := d_lw_s0 hz.2.1 hz1 hfr1
        have hz2 := d_bl_p hz hz1 hfr1
        obtain ⟨Z357014, hf, hz⟩ := f_let_x (P := fun w => d_bl h357013 b w) hf hz2
        replace hfr : d_fl h h357013 := Eq.trans hfr1.1 hfr
        refine a_aload (pc' := 425) 5 dL_ahead_423 rfl rfl ?_
        refine a_iconst (pc' := 426) (v := (2 : Int32)) dL_ahead_425 rfl (by decide) ?_
        refine a_dup2 (pc' := 427) dL_ahead_426 rfl rfl rfl ?_
        obtain ⟨hg, hf⟩ := f_grd_x hf
        refine b_iald (pc' := 428) hz.2.1.2.2.2.2.2 hg dL_ahead_427 rfl ?_
        refine a_iconst (pc' := 429) (v := (1 : Int32)) dL_ahead_428 rfl (by decide) ?_
        refine a_iadd (pc' := 430) dL_ahead_429 rfl ?_
        obtain ⟨hg, hf⟩ := f_grd_x hf
        refine b_iast (pc' := 431) hz.2.1.2.2.2.2.2 hg dL_ahead_430 rfl (fun h357015 hz1 hfr1 => ?_)
        obtain ⟨hz1, hfr1⟩ := d_lw_s4 hz.2.1 hz1 hfr1
        have hz2 := d_bl_p hz hz1 hfr1
        obtain ⟨Z357016, hf, hz⟩ := f_let_x (P := fun w => d_bl h357015 b w) hf hz2
        replace hfr : d_fl h h357015 := Eq.trans hfr1.1 hfr
        refine a_goto 356 dL_ahead_431 (by decide) ?_
        refine a_sub [1, 2, 3, 4, 5, 0] rfl ?_
        exact ih _ _ _ hf hX0 _ hz hfr
set_option maxHeartbeats 4000000 in
set_option maxRecDepth 100000 in
theorem c_L_ahead (l : Launch) (g : a_G) (F : Nat) {h : List va_E} {Y : d_A} {a1 : Int32} (hz : d_al h Y) (hlh : h.length ≤ 900) {out : Int32 × d_A} (hf : f_L_ahead F Y a1 = some out) : a_CT l g yL_ahead cL_ahead 17 (some .boolean) (a_r5 6 133) [.ref 0, .int a1, .ref 55, .ref 56, .ref 57, .ref 58, .ref 60] h (some h.length) (some (h.length + 5)) (fun r h' => r = some (.int out.1) ∧ d_al h' out.2 ∧ h'.length = h.length + 5) := by
  refine a_enterS ⟨by decide, rfl, Nat.le_of_ble_eq_true rfl⟩ (fun p e s m args below meth c hr hs0 => ?_)
  replace hs0 := hs0 _ rfl
  refine a_forget ?_
  unfold f_L_ahead at hf
  have hfr : d_fl h h := rfl
  refine a_sub (ls' := [(0, .ref 0), (1, .int a1), (2, .ref 55), (3, .ref 56), (4, .ref 57), (5, .ref 58), (6, .ref 60)]) [0, 1, 2, 3, 4, 5, 6] rfl ?_
  refine a_bipush (pc' := 2) (v := (8 : Int32)) dL_ahead_0 rfl (by decide) ?_
  refine a_iload_n (pc' := 3) 1 dL_ahead_2 rfl rfl rfl ?_
  refine a_bipush (pc' := 5) (v := (17 : Int32)) dL_ahead_3 rfl (by decide) ?_
  obtain ⟨x2, e1, hf⟩ := Option.bind_eq_some_iff.mp hf
  refine k_L_45 (pc' := 8) (c_L_at l g F e1) ⟨Nat.le_of_ble_eq_true rfl, Nat.le_of_ble_eq_true rfl⟩ (Nat.le_of_ble_eq_true rfl) dL_ahead_5 rfl ?_
  refine a_iadd (pc' := 9) dL_ahead_8 rfl ?_
  refine a_istore (pc' := 11) (ls' := [(7, .int (((8 : Int32)) + x2)), (0, .ref 0), (1, .int a1), (2, .ref 55), (3, .ref 56), (4, .ref 57), (5, .ref 58), (6, .ref 60)]) dL_ahead_9 (by decide) rfl rfl ?_
  refine a_iload (pc' := 13) 0 dL_ahead_11 rfl rfl ?_
  refine a_aload_n (pc' := 14) 3 dL_ahead_13 rfl rfl rfl ?_
  refine a_aload (pc' := 16) 7 dL_ahead_14 rfl rfl ?_
  obtain ⟨x4, e3, hf⟩ := Option.bind_eq_some_iff.mp hf
  refine k_L_34 (pc' := 19) (c_L_longest l g F hz.2.2 e3) ⟨Nat.le_of_ble_eq_true rfl, Nat.le_of_ble_eq_true rfl⟩ (Nat.le_of_ble_eq_true rfl) dL_ahead_16 rfl ?_
  refine a_jn (st2 := []) hf 27 (fun j5 ej5 hf => ?_) (fun j5 hf Jj5 => ?_)
  · refine a_istore (pc' := 29) (ls' := [(8, .int j5), (7, .int (((8 : Int32)) + x2)), (0, .ref 0), (1, .int a1), (2, .ref 55), (3, .ref 56), (4, .ref 57), (5, .ref 58), (6, .ref 60)]) dL_ahead_27 (by decide) rfl rfl ?_
    refine a_aload_n (pc' := 30) 2 dL_ahead_29 rfl rfl rfl ?_
    refine a_iload (pc' := 32) 1 dL_ahead_30 rfl rfl ?_
    refine a_iconst (pc' := 33) (v := (0 : Int32)) dL_ahead_32 rfl (by decide) ?_
    obtain ⟨x8, e7, hf⟩ := f_nx hf
    refine k_L_82 (pc' := 36) (c_X3_toTop l g F hz.1 e7) ⟨Nat.le_of_ble_eq_true rfl, Nat.le_of_ble_eq_true rfl⟩ hz.1.1 (Nat.le_of_ble_eq_true rfl) dL_ahead_33 rfl ?_
    refine a_iload (pc' := 38) 0 dL_ahead_36 rfl rfl ?_
    refine a_jn (st2 := [.int x8]) hf 54 (fun j9 ej9 hf => ?_) (fun j9 hf Jj9 => ?_)
    · refine a_icmp_ne (pc' := 57) 85 dL_ahead_54 (by decide) rfl (fun k13 => ?_) (fun k13 => ?_)
      · replace hf := (if_neg k13).symm.trans hf
        refine a_iconst (pc' := 86) (v := (0 : Int32)) dL_ahead_85 rfl (by decide) ?_
        cases hf
      · replace hf := (if_pos k13).symm.trans hf
        refine a_aload_n (pc' := 58) 2 dL_ahead_57 rfl rfl rfl ?_
        refine a_iload (pc' := 60) 1 dL_ahead_58 rfl rfl ?_
        refine a_iconst (pc' := 61) (v := (1 : Int32)) dL_ahead_60 rfl (by decide) ?_
        obtain ⟨x15, e14, hf⟩ := f_nx hf
        refine k_L_82 (pc' := 64) (c_X3_toTop l g F hz.1 e14) ⟨Nat.le_of_ble_eq_true rfl, Nat.le_of_ble_eq_true rfl⟩ hz.1.1 (Nat.le_of_ble_eq_true rfl) dL_ahead_61 rfl ?_
        refine a_iload (pc' := 66) 0 dL_ahead_64 rfl rfl ?_
        refine a_jn (st2 := [.int x15]) hf 82 (fun j16 ej16 hf => ?_) (fun j16 hf Jj16 => ?_)
        · refine a_icmp_eq (pc' := 85) 87 dL_ahead_82 (by decide) rfl (fun k20 => ?_) (fun k20 => ?_)
          · replace hf := (if_pos k20).symm.trans hf
            refine a_iconst (pc' := 88) (v := (-1 : Int32)) dL_ahead_87 rfl (by decide) ?_
            refine a_istore (pc' := 90) (ls' := [(9, .int ((-1 : Int32))), (8, .int j5), (7, .int (((8 : Int32)) + x2)), (0, .ref 0), (1, .int a1), (2, .ref 55), (3, .ref 56), (4, .ref 57), (5, .ref 58), (6, .ref 60)]) dL_ahead_88 (by decide) rfl rfl ?_
            refine a_aload_n (pc' := 91) 5 dL_ahead_90 rfl rfl rfl ?_
            refine a_aload (pc' := 93) 9 dL_ahead_91 rfl rfl ?_
            obtain ⟨x22, e21, hf⟩ := Option.bind_eq_some_iff.mp hf
            refine k_L_34 (pc' := 96) (c_L_longest l g F hz.2.2 e21) ⟨Nat.le_of_ble_eq_true rfl, Nat.le_of_ble_eq_true rfl⟩ (Nat.le_of_ble_eq_true rfl) dL_ahead_93 rfl ?_
            refine a_istore (pc' := 98) (ls' := [(10, .int x22), (9, .int ((-1 : Int32))), (8, .int j5), (7, .int (((8 : Int32)) + x2)), (0, .ref 0), (1, .int a1), (2, .ref 55), (3, .ref 56), (4, .ref 57), (5, .ref 58), (6, .ref 60)]) dL_ahead_96 (by decide) rfl rfl ?_
            obtain ⟨o23, e24, hf⟩ := Option.bind_eq_some_iff.mp hf
            refine a_sub [4, 6, 7, 8, 9, 10, 1, 0] rfl ?_
            refine l_L_ahead_L98 F Y hz F _ _ o23 e24 (fun e9 he9 => ?_)
            subst he9
            refine a_aload_n (pc' := 177) 0 dL_ahead_176 rfl rfl rfl ?_
            obtain ⟨x26, e25, hf⟩ := Option.bind_eq_some_iff.mp hf
            refine k_L_88 (pc' := 180) (c_X3_bestLength l g F hz.1 e25) ⟨Nat.le_of_ble_eq_true rfl, Nat.le_of_ble_eq_true rfl⟩ hz.1.1 (Nat.le_of_ble_eq_true rfl) dL_ahead_177 rfl ?_
            refine a_iload (pc' := 182) 6 dL_ahead_180 rfl rfl ?_
            refine a_icmp_eq (pc' := 185) 187 dL_ahead_182 (by decide) rfl (fun k27 => ?_) (fun k27 => ?_)
            · replace hf := (if_pos k27).symm.trans hf
              refine a_bipush (pc' := 189) (v := (61 : Int32)) dL_ahead_187 rfl (by decide) ?_
              have hb0 : h.length = h.length + 0 := hfr
              refine a_resz hs0 hb0 (by have := d_al_len hz; omega) (by omega) ?_
              refine a_newarr (pc' := 191) (atype := .int) (kd := 0) (N := 61) (a0 := (61, .inl (fun _ => 0))) rfl (by decide) (fun _ => rfl) (a_in1 101 rfl rfl) (by decide) (by decide) (by decide) (by rw [hb0]; omega) dL_ahead_189 rfl (Nat.le_of_ble_eq_true rfl) (Nat.le_of_ble_eq_true rfl) ?_
              refine a_top (v := .ref (h.length + 0)) (congrArg Value.ref hb0) ?_
              have hb1 : (h ++ [d_ai 61]).length = h.length + 1 := d_app_len hb0
              refine a_astore (pc' := 193) (ls' := [(10, .ref (h.length + 0)), (0, .ref 0), (2, .ref 55), (3, .ref 56), (4, .ref 57), (5, .ref 58), (6, .ref 60), (9, .int o23.1)]) dL_ahead_191 (by decide) rfl rfl ?_
              refine a_bipush (pc' := 195) (v := (61 : Int32)) dL_ahead_193 rfl (by decide) ?_
              refine a_seq (k := (h ++ [d_ai 61]).length) (by rw [hb1, hb0]) ?_
              refine a_newarr (pc' := 197) (atype := .int) (kd := 0) (N := 61) (a0 := (61, .inl (fun _ => 0))) rfl (by decide) (fun _ => rfl) (a_in1 101 rfl rfl) (by decide) (by decide) (by decide) (by rw [hb1]; omega) dL_ahead_195 rfl (Nat.le_of_ble_eq_true rfl) (Nat.le_of_ble_eq_true rfl) ?_
              refine a_top (v := .ref (h.length + 1)) (congrArg Value.ref hb1) ?_
              have hb2 : (h ++ [d_ai 61] ++ [d_ai 61]).length = h.length + 2 := d_app_len hb1
              refine a_astore (pc' := 199) (ls' := [(11, .ref (h.length + 1)), (10, .ref (h.length + 0)), (0, .ref 0), (2, .ref 55), (3, .ref 56), (4, .ref 57), (5, .ref 58), (6, .ref 60), (9, .int o23.1)]) dL_ahead_197 (by decide) rfl rfl ?_
              refine a_bipush (pc' := 201) (v := (25 : Int32)) dL_ahead_199 rfl (by decide) ?_
              refine a_seq (k := (h ++ [d_ai 61] ++ [d_ai 61]).length) (by rw [hb2, hb1]) ?_
              refine a_newarr (pc' := 203) (atype := .int) (kd := 0) (N := 25) (a0 := (25, .inl (fun _ => 0))) rfl (by decide) (fun _ => rfl) (a_in1 101 rfl rfl) (by decide) (by decide) (by decide) (by rw [hb2]; omega) dL_ahead_201 rfl (Nat.le_of_ble_eq_true rfl) (Nat.le_of_ble_eq_true rfl) ?_
              refine a_top (v := .ref (h.length + 2)) (congrArg Value.ref hb2) ?_
              have hb3 : (h ++ [d_ai 61] ++ [d_ai 61] ++ [d_ai 25]).length = h.length + 3 := d_app_len hb2
              refine a_astore (pc' := 205) (ls' := [(12, .ref (h.length + 2)), (11, .ref (h.length + 1)), (10, .ref (h.length + 0)), (0, .ref 0), (2, .ref 55), (3, .ref 56), (4, .ref 57), (5, .ref 58), (6, .ref 60), (9, .int o23.1)]) dL_ahead_203 (by decide) rfl rfl ?_
              refine a_bipush (pc' := 207) (v := (25 : Int32)) dL_ahead_205 rfl (by decide) ?_
              refine a_seq (k := (h ++ [d_ai 61] ++ [d_ai 61] ++ [d_ai 25]).length) (by rw [hb3, hb2]) ?_
              refine a_newarr (pc' := 209) (atype := .int) (kd := 0) (N := 25) (a0 := (25, .inl (fun _ => 0))) rfl (by decide) (fun _ => rfl) (a_in1 101 rfl rfl) (by decide) (by decide) (by decide) (by rw [hb3]; omega) dL_ahead_207 rfl (Nat.le_of_ble_eq_true rfl) (Nat.le_of_ble_eq_true rfl) ?_
              refine a_top (v := .ref (h.length + 3)) (congrArg Value.ref hb3) ?_
              have hb4 : (h ++ [d_ai 61] ++ [d_ai 61] ++ [d_ai 25] ++ [d_ai 25]).length = h.length + 4 := d_app_len hb3
              refine a_astore (pc' := 211) (ls' := [(13, .ref (h.length + 3)), (12, .ref (h.length + 2)), (11, .ref (h.length + 1)), (10, .ref (h.length + 0)), (0, .ref 0), (2, .ref 55), (3, .ref 56), (4, .ref 57), (5, .ref 58), (6, .ref 60), (9, .int o23.1)]) dL_ahead_209 (by decide) rfl rfl ?_
              refine a_bipush (pc' := 213) (v := (14 : Int32)) dL_ahead_211 rfl (by decide) ?_
              refine a_seq (k := (h ++ [d_ai 61] ++ [d_ai 61] ++ [d_ai 25] ++ [d_ai 25]).length) (by rw [hb4, hb3]) ?_
              refine a_newarr (pc' := 215) (atype := .int) (kd := 0) (N := 14) (a0 := (14, .inl (fun _ => 0))) rfl (by decide) (fun _ => rfl) (a_in1 101 rfl rfl) (by decide) (by decide) (by decide) (by rw [hb4]; omega) dL_ahead_213 rfl (Nat.le_of_ble_eq_true rfl) (Nat.le_of_ble_eq_true rfl) ?_
              refine a_top (v := .ref (h.length + 4)) (congrArg Value.ref hb4) ?_
              have hb5 : (h ++ [d_ai 61] ++ [d_ai 61] ++ [d_ai 25] ++ [d_ai 25] ++ [d_ai 14]).length = h.length + 5 := d_app_len hb4
              refine a_astore (pc' := 217) (ls' := [(14, .ref (h.length + 4)), (13, .ref (h.length + 3)), (12, .ref (h.length + 2)), (11, .ref (h.length + 1)), (10, .ref (h.length + 0)), (0, .ref 0), (2, .ref 55), (3, .ref 56), (4, .ref 57), (5, .ref 58), (6, .ref 60), (9, .int o23.1)]) dL_ahead_215 (by decide) rfl rfl ?_
              refine a_widen (k := 5) (n := 186) (by decide) (by decide) ?_
              obtain ⟨h9, e9, hl9, hz⟩ : ∃ h9, (h ++ [d_ai 61] ++ [d_ai 61] ++ [d_ai 25] ++ [d_ai 25] ++ [d_ai 14]) = h9 ∧ h9.length = h.length + 5 ∧ d_bl h9 h.length (Y, d_w0) := ⟨_, rfl, hb5, d_bl_new hb0 hz⟩
              refine a_heq e9 ?_
              have hfr : d_fl h9 h9 := rfl
              refine a_forget ?_
              obtain ⟨Z28, hf, hz⟩ := f_let_x (P := fun w => d_bl h9 h.length w) hf hz
              refine a_aload (pc' := 219) 4 dL_ahead_217 rfl rfl ?_
              refine a_aload_n (pc' := 220) 6 dL_ahead_219 rfl rfl rfl ?_
              refine k_L_92 (pc' := 223) (c_L_same l g (by decide) (d_bl_ne hz (by decide)) hz.2.1.2.1 hz.1.2.2.2.1) ⟨Nat.le_of_ble_eq_true rfl, Nat.le_of_ble_eq_true rfl⟩ (Nat.le_of_ble_eq_true rfl) dL_ahead_220 rfl (fun h29 hq => ?_)
              obtain ⟨hz1, hfr1⟩ := hq
              obtain ⟨hz1, hfr1⟩ := d_lw_s0 hz.2.1 hz1 hfr1
              have hz2 := d_bl_p hz hz1 hfr1
              obtain ⟨Z30, hf, hz⟩ := f_let_x (P := fun w => d_bl h29 h.length w) hf hz2
              replace hfr : d_fl h9 h29 := Eq.trans hfr1.1 hfr
              refine a_aload (pc' := 225) 3 dL_ahead_223 rfl rfl ?_
              refine a_aload_n (pc' := 226) 7 dL_ahead_225 rfl rfl rfl ?_
              refine k_L_92 (pc' := 229) (c_L_same l g (by decide) (d_bl_ne hz (by decide)) hz.2.1.2.2.1 hz.1.2.2.2.2.1) ⟨Nat.le_of_ble_eq_true rfl, Nat.le_of_ble_eq_true rfl⟩ (Nat.le_of_ble_eq_true rfl) dL_ahead_226 rfl (fun h31 hq => ?_)
              obtain ⟨hz1, hfr1⟩ := hq
              obtain ⟨hz1, hfr1⟩ := d_lw_s1 hz.2.1 hz1 hfr1
              have hz2 := d_bl_p hz hz1 hfr1
              obtain ⟨Z32, hf, hz⟩ := f_let_x (P := fun w => d_bl h31 h.length w) hf hz2
              replace hfr : d_fl h9 h31 := Eq.trans hfr1.1 hfr
              refine a_aload (pc' := 231) 2 dL_ahead_229 rfl rfl ?_
              refine a_aload (pc' := 233) 8 dL_ahead_231 rfl rfl ?_
              refine k_L_92 (pc' := 236) (c_L_same l g (by decide) (d_bl_ne hz (by decide)) hz.2.1.2.2.2.1 hz.1.2.2.2.2.2.1) ⟨Nat.le_of_ble_eq_true rfl, Nat.le_of_ble_eq_true rfl⟩ (Nat.le_of_ble_eq_true rfl) dL_ahead_233 rfl (fun h33 hq => ?_)
              obtain ⟨hz1, hfr1⟩ := hq
              obtain ⟨hz1, hfr1⟩ := d_lw_s2 hz.2.1 hz1 hfr1
              have hz2 := d_bl_p hz hz1 hfr1
              obtain ⟨Z34, hf, hz⟩ := f_let_x (P := fun w => d_bl h33 h.length w) hf hz2
              replace hfr : d_fl h9 h33 := Eq.trans hfr1.1 hfr
              refine a_aload (pc' := 238) 1 dL_ahead_236 rfl rfl ?_
              refine a_aload (pc' := 240) 9 dL_ahead_238 rfl rfl ?_
              refine k_L_92 (pc' := 243) (c_L_same l g (by decide) (d_bl_ne hz (by decide)) hz.2.1.2.2.2.2.1 hz.1.2.2.2.2.2.2.1) ⟨Nat.le_of_ble_eq_true rfl, Nat.le_of_ble_eq_true rfl⟩ (Nat.le_of_ble_eq_true rfl) dL_ahead_240 rfl (fun h35 hq => ?_)
              obtain ⟨hz1, hfr1⟩ := hq
              obtain ⟨hz1, hfr1⟩ := d_lw_s3 hz.2.1 hz1 hfr1
              have hz2 := d_bl_p hz hz1 hfr1
              obtain ⟨Z36, hf, hz⟩ := f_let_x (P := fun w => d_bl h35 h.length w) hf hz2
              replace hfr : d_fl h9 h35 := Eq.trans hfr1.1 hfr
              refine a_aload (pc' := 245) 0 dL_ahead_243 rfl rfl ?_
              refine a_aload (pc' := 247) 10 dL_ahead_245 rfl rfl ?_
              refine k_L_92 (pc' := 250) (c_L_same l g (by decide) (d_bl_ne hz (by decide)) hz.2.1.2.2.2.2.2 hz.1.2.2.2.2.2.2.2) ⟨Nat.le_of_ble_eq_true rfl, Nat.le_of_ble_eq_true rfl⟩ (Nat.le_of_ble_eq_true rfl) dL_ahead_247 rfl (fun h37 hq => ?_)
              obtain ⟨hz1, hfr1⟩ := hq
              obtain ⟨hz1, hfr1⟩ := d_lw_s4 hz.2.1 hz1 hfr1
              have hz2 := d_bl_p hz hz1 hfr1
              obtain ⟨Z38, hf, hz⟩ := f_let_x (P := fun w => d_bl h37 h.length w) hf hz2
              replace hfr : d_fl h9 h37 := Eq.trans hfr1.1 hfr
              refine a_aload (pc' := 252) 0 dL_ahead_250 rfl rfl ?_
              refine a_bipush (pc' := 254) (v := (9 : Int32)) dL_ahead_252 rfl (by decide) ?_
              refine a_iconst (pc' := 255) (v := (0 : Int32)) dL_ahead_254 rfl (by decide) ?_
              obtain ⟨hg, hf⟩ := f_grd_x hf
              refine b_iast (pc' := 256) hz.2.1.2.2.2.2.2 hg dL_ahead_255 rfl (fun h39 hz1 hfr1 => ?_)
              obtain ⟨hz1, hfr1⟩ := d_lw_s4 hz.2.1 hz1 hfr1
              have hz2 := d_bl_p hz hz1 hfr1
              obtain ⟨Z40, hf, hz⟩ := f_let_x (P := fun w => d_bl h39 h.length w) hf hz2
              replace hfr : d_fl h9 h39 := Eq.trans hfr1.1 hfr
              refine a_iconst (pc' := 257) (v := (0 : Int32)) dL_ahead_256 rfl (by decide) ?_
              refine a_istore (pc' := 259) (ls' := [(15, .int ((0 : Int32))), (14, .ref (h.length + 4)), (13, .ref (h.length + 3)), (12, .ref (h.length + 2)), (11, .ref (h.length + 1)), (10, .ref (h.length + 0)), (0, .ref 0), (2, .ref 55), (3, .ref 56), (4, .ref 57), (5, .ref 58), (6, .ref 60), (9, .int o23.1)]) dL_ahead_257 (by decide) rfl rfl ?_
              obtain ⟨o41, e42, hf⟩ := Option.bind_eq_some_iff.mp hf
              refine a_sub [6, 7, 9, 11, 5, 4, 3, 2, 1, 0] rfl ?_
              refine l_L_ahead_L259 F   F _ _ o41 e42 (fun e9 he9 h43 hz hfr => ?_) _ hz hfr
              subst he9
              refine a_aload_n (pc' := 311) 0 dL_ahead_310 rfl rfl rfl ?_
              obtain ⟨x45, e44, hf⟩ := Option.bind_eq_some_iff.mp hf
              refine k_L_104 (pc' := 314) (c_X3_dryDays l g F hz.1.1 e44) ⟨Nat.le_of_ble_eq_true rfl, Nat.le_of_ble_eq_true rfl⟩ hz.1.1.1 (Nat.le_of_ble_eq_true rfl) dL_ahead_311 rfl (fun h46 hq => ?_)
              obtain ⟨hz1, hfr1⟩ := hq
              have hz2 := d_bl_c hz hz1 hfr1
              obtain ⟨Z47, hf, hz⟩ := f_let_x (P := fun w => d_bl h46 h.length w) hf hz2
              replace hfr : d_fl h9 h46 := Eq.trans hfr1.1 hfr
              refine a_iload (pc' := 316) 7 dL_ahead_314 rfl rfl ?_
              refine a_sipush (pc' := 319) (v := (200 : Int32)) dL_ahead_316 rfl (by decide) ?_
              refine a_jn (st2 := [.int x45.1]) hf 328 (fun j48 ej48 hf => ?_) (fun j48 hf Jj48 => ?_)
              · refine a_icmp_eq (pc' := 331) 333 dL_ahead_328 (by decide) rfl (fun k50 => ?_) (fun k50 => ?_)
                · replace hf := (if_pos k50).symm.trans hf
                  refine a_aload (pc' := 335) 4 dL_ahead_333 rfl rfl ?_
                  refine a_aload_n (pc' := 336) 1 dL_ahead_335 rfl rfl rfl ?_
                  refine k_L_92 (pc' := 339) (c_L_same l g (by decide) (d_bl_ne hz (by decide)) hz.2.1.2.1 hz.1.2.2.2.1) ⟨Nat.le_of_ble_eq_true rfl, Nat.le_of_ble_eq_true rfl⟩ (Nat.le_of_ble_eq_true rfl) dL_ahead_336 rfl (fun h51 hq => ?_)
                  obtain ⟨hz1, hfr1⟩ := hq
                  obtain ⟨hz1, hfr1⟩ := d_lw_s0 hz.2.1 hz1 hfr1
                  have hz2 := d_bl_p hz hz1 hfr1
                  obtain ⟨Z52, hf, hz⟩ := f_let_x (P := fun w => d_bl h51 h.length w) hf hz2
                  replace hfr : d_fl h9 h51 := Eq.trans hfr1.1 hfr
                  refine a_aload (pc' := 341) 5 dL_ahead_339 rfl rfl ?_
                  refine a_aload (pc' := 343) 2 dL_ahead_341 rfl rfl ?_
                  refine k_L_92 (pc' := 346) (c_L_same l g (by decide) (d_bl_ne hz (by decide)) hz.2.1.2.2.2.1 hz.1.2.2.2.2.2.1) ⟨Nat.le_of_ble_eq_true rfl, Nat.le_of_ble_eq_true rfl⟩ (Nat.le_of_ble_eq_true rfl) dL_ahead_343 rfl (fun h53 hq => ?_)
                  obtain ⟨hz1, hfr1⟩ := hq
                  obtain ⟨hz1, hfr1⟩ := d_lw_s2 hz.2.1 hz1 hfr1
                  have hz2 := d_bl_p hz hz1 hfr1
                  obtain ⟨Z54, hf, hz⟩ := f_let_x (P := fun w => d_bl h53 h.length w) hf hz2
                  replace hfr : d_fl h9 h53 := Eq.trans hfr1.1 hfr
                  refine a_aload (pc' := 348) 6 dL_ahead_346 rfl rfl ?_
                  refine a_aload (pc' := 350) 3 dL_ahead_348 rfl rfl ?_
                  refine k_L_92 (pc' := 353) (c_L_same l g (by decide) (d_bl_ne hz (by decide)) hz.2.1.2.2.2.2.2 hz.1.2.2.2.2.2.2.2) ⟨Nat.le_of_ble_eq_true rfl, Nat.le_of_ble_eq_true rfl⟩ (Nat.le_of_ble_eq_true rfl) dL_ahead_350 rfl (fun h55 hq => ?_)
                  obtain ⟨hz1, hfr1⟩ := hq
                  obtain ⟨hz1, hfr1⟩ := d_lw_s4 hz.2.1 hz1 hfr1
                  have hz2 := d_bl_p hz hz1 hfr1
                  obtain ⟨Z56, hf, hz⟩ := f_let_x (P := fun w => d_bl h55 h.length w) hf hz2
                  replace hfr : d_fl h9 h55 := Eq.trans hfr1.1 hfr
                  refine a_iconst (pc' := 354) (v := (-1 : Int32)) dL_ahead_353 rfl (by decide) ?_
                  refine a_istore (pc' := 356) (ls' := [(16, .int ((-1 : Int32))), (0, .ref 0), (2, .ref 55), (4, .ref 57), (6, .ref 60), (10, .ref (h.length + 0)), (12, .ref (h.length + 2)), (14, .ref (h.length + 4)), (15, .int o41.1)]) dL_ahead_354 (by decide) rfl rfl ?_
                  obtain ⟨o57, e58, hf⟩ := Option.bind_eq_some_iff.mp hf
                  refine a_sub [1, 4, 5, 6, 7, 0] rfl ?_
                  refine l_L_ahead_L356 F   F _ _ o57 e58 (fun e9 he9 h59 hz hfr => ?_) _ hz hfr
                  subst he9
                  refine a_aload_n (pc' := 435) 0 dL_ahead_434 rfl rfl rfl ?_
                  refine a_iconst (pc' := 436) (v := (0 : Int32)) dL_ahead_435 rfl (by decide) ?_
                  obtain ⟨x61, e60, hf⟩ := f_nx hf
                  refine k_L_107 (pc' := 439) (c_X3_reach l g F hz.1.1 e60) ⟨Nat.le_of_ble_eq_true rfl, Nat.le_of_ble_eq_true rfl⟩ hz.1.1.1 (Nat.le_of_ble_eq_true rfl) dL_ahead_436 rfl (fun h62 hq => ?_)
                  obtain ⟨hz1, hfr1⟩ := hq
                  have hz2 := d_bl_c hz hz1 hfr1
                  obtain ⟨Z63, hf, hz⟩ := f_let_x (P := fun w => d_bl h62 h.length w) hf hz2
                  replace hfr : d_fl h9 h62 := Eq.trans hfr1.1 hfr
                  refine a_aload (pc' := 441) 4 dL_ahead_439 rfl rfl ?_
                  refine a_iconst (pc' := 442) (v := (2 : Int32)) dL_ahead_441 rfl (by decide) ?_
                  obtain ⟨hg, hf⟩ := f_grd_x hf
                  refine b_iald (pc' := 443) hz.2.1.2.2.2.2.2 hg dL_ahead_442 rfl ?_
                  refine a_aload (pc' := 445) 1 dL_ahead_443 rfl rfl ?_
                  refine a_iconst (pc' := 446) (v := (2 : Int32)) dL_ahead_445 rfl (by decide) ?_
                  obtain ⟨hg, hf⟩ := f_grd_x hf
                  refine b_iald (pc' := 447) hz.1.2.2.2.2.2.2.2 hg dL_ahead_446 rfl ?_
                  refine a_isub (pc' := 448) dL_ahead_447 rfl ?_
                  refine a_icmp_ne (pc' := 451) 497 dL_ahead_448 (by decide) rfl (fun k64 => ?_) (fun k64 => ?_)
                  · replace hf := (if_neg k64).symm.trans hf
                    refine a_iconst (pc' := 498) (v := (0 : Int32)) dL_ahead_497 rfl (by decide) ?_
                    cases hf
                  · replace hf := (if_pos k64).symm.trans hf
                    refine a_aload_n (pc' := 452) 0 dL_ahead_451 rfl rfl rfl ?_
                    refine a_iconst (pc' := 453) (v := (1 : Int32)) dL_ahead_452 rfl (by decide) ?_
                    obtain ⟨x66, e65, hf⟩ := f_nx hf
                    refine k_L_107 (pc' := 456) (c_X3_reach l g F hz.1.1 e65) ⟨Nat.le_of_ble_eq_true rfl, Nat.le_of_ble_eq_true rfl⟩ hz.1.1.1 (Nat.le_of_ble_eq_true rfl) dL_ahead_453 rfl (fun h67 hq => ?_)
                    obtain ⟨hz1, hfr1⟩ := hq
                    have hz2 := d_bl_c hz hz1 hfr1
                    obtain ⟨Z68, hf, hz⟩ := f_let_x (P := fun w => d_bl h67 h.length w) hf hz2
                    replace hfr : d_fl h9 h67 := Eq.trans hfr1.1 hfr
                    refine a_aload (pc' := 458) 4 dL_ahead_456 rfl rfl ?_
                    refine a_iconst (pc' := 459) (v := (2 : Int32)) dL_ahead_458 rfl (by decide) ?_
                    obtain ⟨hg, hf⟩ := f_grd_x hf
                    refine b_iald (pc' := 460) hz.2.1.2.2.2.2.2 hg dL_ahead_459 rfl ?_
                    refine a_aload (pc' := 462) 2 dL_ahead_460 rfl rfl ?_
                    refine a_aload (pc' := 464) 4 dL_ahead_462 rfl rfl ?_
                    obtain ⟨x70, e69, hf⟩ := Option.bind_eq_some_iff.mp hf
                    refine k_L_19 (pc' := 467) (c_L_top l g F hz.2.1 e69) ⟨Nat.le_of_ble_eq_true rfl, Nat.le_of_ble_eq_true rfl⟩ (Nat.le_of_ble_eq_true rfl) dL_ahead_464 rfl ?_
                    refine a_icmp_ne (pc' := 470) 497 dL_ahead_467 (by decide) rfl (fun k71 => ?_) (fun k71 => ?_)
                    · replace hf := (if_neg k71).symm.trans hf
                      refine a_iconst (pc' := 498) (v := (0 : Int32)) dL_ahead_497 rfl (by decide) ?_
                      cases hf
                    · replace hf := (if_pos k71).symm.trans hf
                      refine a_aload_n (pc' := 471) 0 dL_ahead_470 rfl rfl rfl ?_
                      refine a_iconst (pc' := 472) (v := (2 : Int32)) dL_ahead_471 rfl (by decide) ?_
                      obtain ⟨x73, e72, hf⟩ := f_nx hf
                      refine k_L_107 (pc' := 475) (c_X3_reach l g F hz.1.1 e72) ⟨Nat.le_of_ble_eq_true rfl, Nat.le_of_ble_eq_true rfl⟩ hz.1.1.1 (Nat.le_of_ble_eq_true rfl) dL_ahead_472 rfl (fun h74 hq => ?_)
                      obtain ⟨hz1, hfr1⟩ := hq
                      have hz2 := d_bl_c hz hz1 hfr1
                      obtain ⟨Z75, hf, hz⟩ := f_let_x (P := fun w => d_bl h74 h.length w) hf hz2
                      replace hfr : d_fl h9 h74 := Eq.trans hfr1.1 hfr
                      refine a_aload (pc' := 477) 3 dL_ahead_475 rfl rfl ?_
                      obtain ⟨x77, e76, hf⟩ := Option.bind_eq_some_iff.mp hf
                      refine k_L_74 (pc' := 480) (c_L_all l g F hz.2.1.2.2.2.1 e76) ⟨Nat.le_of_ble_eq_true rfl, Nat.le_of_ble_eq_true rfl⟩ (Nat.le_of_ble_eq_true rfl) dL_ahead_477 rfl ?_
                      refine a_icmp_ne (pc' := 483) 497 dL_ahead_480 (by decide) rfl (fun k78 => ?_) (fun k78 => ?_)
                      · replace hf := (if_neg k78).symm.trans hf
                        refine a_iconst (pc' := 498) (v := (0 : Int32)) dL_ahead_497 rfl (by decide) ?_
                        cases hf
                      · replace hf := (if_pos k78).symm.trans hf
                        refine a_aload_n (pc' := 484) 0 dL_ahead_483 rfl rfl rfl ?_
                        refine a_iconst (pc' := 485) (v := (3 : Int32)) dL_ahead_484 rfl (by decide) ?_
                        obtain ⟨x80, e79, hf⟩ := f_nx hf
                        refine k_L_107 (pc' := 488) (c_X3_reach l g F hz.1.1 e79) ⟨Nat.le_of_ble_eq_true rfl, Nat.le_of_ble_eq_true rfl⟩ hz.1.1.1 (Nat.le_of_ble_eq_true rfl) dL_ahead_485 rfl (fun h81 hq => ?_)
                        obtain ⟨hz1, hfr1⟩ := hq
                        have hz2 := d_bl_c hz hz1 hfr1
                        obtain ⟨Z82, hf, hz⟩ := f_let_x (P := fun w => d_bl h81 h.length w) hf hz2
                        replace hfr : d_fl h9 h81 := Eq.trans hfr1.1 hfr
                        refine a_iload (pc' := 490) 5 dL_ahead_488 rfl rfl ?_
                        refine a_icmp_ne (pc' := 493) 497 dL_ahead_490 (by decide) rfl (fun k83 => ?_) (fun k83 => ?_)
                        · replace hf := (if_neg k83).symm.trans hf
                          refine a_iconst (pc' := 498) (v := (0 : Int32)) dL_ahead_497 rfl (by decide) ?_
                          cases hf
                        · replace hf := (if_pos k83).symm.trans hf
                          refine a_iconst (pc' := 494) (v := (1 : Int32)) dL_ahead_493 rfl (by decide) ?_
                          refine a_goto 498 dL_ahead_494 (by decide) ?_
                          cases hf
                          refine a_resz hs0 (by rw [hfr, hl9]) (by rw [hfr, hl9]; omega) (by rw [hfr, hl9]; omega) ?_
                          refine a_seq (k := h.length + 5) (by rw [hfr, hl9]) ?_
                          exact a_zret hr rfl ⟨rfl, hz.1, Eq.trans hfr hl9⟩ dL_ahead_498
                · replace hf := (if_neg k50).symm.trans hf
                  refine a_iconst (pc' := 332) (v := (0 : Int32)) dL_ahead_331 rfl (by decide) ?_
                  cases hf
              · refine a_icmp_le (pc' := 322) 326 dL_ahead_319 (by decide) rfl (fun k49 => ?_) (fun k49 => ?_)
                · replace hf := (if_pos k49).symm.trans hf
                  refine a_iload (pc' := 328) 7 dL_ahead_326 rfl rfl ?_
                  cases hf
                  exact Jj48
                · replace hf := (if_neg k49).symm.trans hf
                  refine a_iconst (pc' := 323) (v := (-1 : Int32)) dL_ahead_322 rfl (by decide) ?_
                  refine a_goto 328 dL_ahead_323 (by decide) ?_
                  cases hf
                  exact Jj48
            · replace hf := (if_neg k27).symm.trans hf
              refine a_iconst (pc' := 186) (v := (0 : Int32)) dL_ahead_185 rfl (by decide) ?_
              cases hf
          · replace hf := (if_neg k20).symm.trans hf
            refine a_iconst (pc' := 86) (v := (0 : Int32)) dL_ahead_85 rfl (by decide) ?_
            cases hf
        · refine a_if_eq (pc' := 69) 81 dL_ahead_66 (by decide) rfl (fun k17 => ?_) (fun k17 => ?_)
          · replace hf := (if_pos k17).symm.trans hf
            refine a_iconst (pc' := 82) (v := (-1 : Int32)) dL_ahead_81 rfl (by decide) ?_
            cases hf
            exact Jj16
          · replace hf := (if_neg k17).symm.trans hf
            refine a_iload (pc' := 71) 1 dL_ahead_69 rfl rfl ?_
            refine a_iconst (pc' := 72) (v := (1 : Int32)) dL_ahead_71 rfl (by decide) ?_
            refine a_aload_n (pc' := 73) 4 dL_ahead_72 rfl rfl rfl ?_
            refine a_aload (pc' := 75) 8 dL_ahead_73 rfl rfl ?_
            obtain ⟨x19, e18, hf⟩ := Option.bind_eq_some_iff.mp hf
            refine k_L_85 (pc' := 78) (c_L_toTop l g F hz.2.2 e18) ⟨Nat.le_of_ble_eq_true rfl, Nat.le_of_ble_eq_true rfl⟩ (Nat.le_of_ble_eq_true rfl) dL_ahead_75 rfl ?_
            refine a_goto 82 dL_ahead_78 (by decide) ?_
            cases hf
            exact Jj16
    · refine a_if_eq (pc' := 41) 53 dL_ahead_38 (by decide) rfl (fun k10 => ?_) (fun k10 => ?_)
      · replace hf := (if_pos k10).symm.trans hf
        refine a_iconst (pc' := 54) (v := (-1 : Int32)) dL_ahead_53 rfl (by decide) ?_
        cases hf
        exact Jj9
      · replace hf := (if_neg k10).symm.trans hf
        refine a_iload (pc' := 43) 1 dL_ahead_41 rfl rfl ?_
        refine a_iconst (pc' := 44) (v := (0 : Int32)) dL_ahead_43 rfl (by decide) ?_
        refine a_aload_n (pc' := 45) 4 dL_ahead_44 rfl rfl rfl ?_
        refine a_aload (pc' := 47) 8 dL_ahead_45 rfl rfl ?_
        obtain ⟨x12, e11, hf⟩ := Option.bind_eq_some_iff.mp hf
        refine k_L_85 (pc' := 50) (c_L_toTop l g F hz.2.2 e11) ⟨Nat.le_of_ble_eq_true rfl, Nat.le_of_ble_eq_true rfl⟩ (Nat.le_of_ble_eq_true rfl) dL_ahead_47 rfl ?_
        refine a_goto 54 dL_ahead_50 (by decide) ?_
        cases hf
        exact Jj9
  · refine a_icmp_gt (pc' := 22) 26 dL_ahead_19 (by decide) rfl (fun k6 => ?_) (fun k6 => ?_)
    · replace hf := (if_pos k6).symm.trans hf
      refine a_iconst (pc' := 27) (v := (0 : Int32)) dL_ahead_26 rfl (by decide) ?_
      cases hf
      exact Jj5
    · replace hf := (if_neg k6).symm.trans hf
      refine a_iconst (pc' := 23) (v := (1 : Int32)) dL_ahead_22 rfl (by decide) ?_
      refine a_goto 27 dL_ahead_23 (by decide) ?_
      cases hf
      exact Jj5
/-! SlateRoofLaw.bought(III[I[I[I[I)I -/
set_option maxRecDepth 100000 in
def f_L_bought_L9 (F : Nat) (a2 : Int32) : Nat → Int32 → Int32 → Int32 → Option (Int32 × Int32 × Int32)
  | 0, _, _, _ => none
  | n + 1, v7_9, v8_9, v9_9 => (if a2 ≤ v9_9 then some (v7_9, v8_9, v9_9) else (if ((((((v7_9 * ((1103515245 : Int32))) + ((12345 : Int32))).toUInt32 >>> (((16 : Int32)).toUInt32 &&& Int32.toUInt32 31)).toInt32) - ((((v7_9 * ((1103515245 : Int32))) + ((12345 : Int32))).toUInt32 >>> (((16 : Int32)).toUInt32 &&& Int32.toUInt32 31)).toInt32) / ((32768 : Int32)) * ((32768 : Int32))) - (((((v7_9 * ((1103515245 : Int32))) + ((12345 : Int32))).toUInt32 >>> (((16 : Int32)).toUInt32 &&& Int32.toUInt32 31)).toInt32) - ((((v7_9 * ((1103515245 : Int32))) + ((12345 : Int32))).toUInt32 >>> (((16 : Int32)).toUInt32 &&& Int32.toUInt32 31)).toInt32) / ((32768 : Int32)) * ((32768 : Int32))) / ((10 : Int32)) * ((10 : Int32))) = 0 then f_L_bought_L9 F a2 n ((v7_9 * ((1103515245 : Int32))) + ((12345 : Int32))) (v8_9 + (1 : Int32)) (v9_9 + (1 : Int32)) else f_L_bought_L9 F a2 n ((v7_9 * ((1103515245 : Int32))) + ((12345 : Int32))) v8_9 (v9_9 + (1 : Int32))))
set_option maxRecDepth 100000 in
def f_L_bought (F : Nat) (Y : d_A) (a1 : Int32) (a2 : Int32) (a3 : Int32) : Option (Int32 × d_A) := (f_L_bought_L9 F a2 F a3 ((0 : Int32)) ((0 : Int32))).bind fun o1 => f_grd a1 25 (f_grd a1 25 (f_let (Y.1, Y.2.1, (Y.2.2.1, Y.2.2.2.1, upd Y.2.2.2.2.1 a1.toNatClampNeg ((Y.2.2.2.2.1 a1.toNatClampNeg) + (a2 - o1.2.1)), Y.2.2.2.2.2.1, Y.2.2.2.2.2.2)) fun Y4 => f_grd a1 25 (f_grd a1 25 (f_let (Y4.1, Y4.2.1, (Y4.2.2.1, Y4.2.2.2.1, Y4.2.2.2.2.1, upd Y4.2.2.2.2.2.1 a1.toNatClampNeg ((Y4.2.2.2.2.2.1 a1.toNatClampNeg) + o1.2.1), Y4.2.2.2.2.2.2)) fun Y6 => f_grd a1 25 (f_grd a1 25 (f_let (Y6.1, upd Y6.2.1 a1.toNatClampNeg ((Y6.2.1 a1.toNatClampNeg) + a2), Y6.2.2) fun Y8 => f_grd ((13 : Int32)) 14 (f_grd ((13 : Int32)) 14 (f_let (Y8.1, Y8.2.1, (Y8.2.2.1, Y8.2.2.2.1, Y8.2.2.2.2.1, Y8.2.2.2.2.2.1, upd Y8.2.2.2.2.2.2 ((13 : Int32)).toNatClampNeg ((Y8.2.2.2.2.2.2 ((13 : Int32)).toNatClampNeg) + (a2 * ((a1 * a1) / ((16 : Int32))))))) fun Y10 => some ((o1.2.1, Y10))))))))))
set_option maxHeartbeats 4000000 in
set_option maxRecDepth 100000 in
theorem l_L_bought_L9 {p : Program} {l : Launch} {e : Env} {s : State} {m : MethodId} {args : Array Value} {below : List Frame} {meth : Method} {c : Code} {Q : State → Prop} {g : a_G} (F : Nat) {h : List va_E} (Y : d_A) (a1 : Int32) (a2 : Int32) (hz : d_al h Y) : ∀ (n : Nat) (v7_9 : Int32) (v8_9 : Int32) (v9_9 : Int32) (o : Int32 × Int32 × Int32), f_L_bought_L9 F a2 n v7_9 v8_9 v9_9 = some o → (∀ e9 : Int32 × Int32 × Int32, o = e9 → a_W p l e (a_rm 0 0) s m args below meth c Q RL cL_bought 10 g 0 0 none 49 [(0, .int a1), (1, .int a2), (3, .ref 57), (4, .ref 58), (5, .ref 59), (6, .ref 60), (8, .int e9.2.1)] [] h) → a_W p l e (a_rm 0 0) s m args below meth c Q RL cL_bought 10 g 0 0 none 9 [(0, .int a1), (1, .int a2), (3, .ref 57), (4, .ref 58), (5, .ref 59), (6, .ref 60), (7, .int v7_9), (8, .int v8_9), (9, .int v9_9)] [] h := by
  intro n
  induction n with
  | zero => intro v7_9 v8_9 v9_9 o hf; exact nomatch (show (none : Option (Int32 × Int32 × Int32)) = some o from hf)
  | succ n ih =>
    intro v7_9 v8_9 v9_9 o hf hX0
    rw [f_L_bought_L9] at hf
    refine a_iload (pc' := 11) 8 dL_bought_9 rfl rfl ?_
    refine a_iload_n (pc' := 12) 1 dL_bought_11 rfl rfl rfl ?_
    refine a_icmp_ge (pc' := 15) 49 dL_bought_12 (by decide) rfl (fun k10001 => ?_) (fun k10001 => ?_)
    · replace hf := (if_pos k10001).symm.trans hf
      cases hf
      refine a_sub [0, 1, 2, 3, 4, 5, 7] rfl ?_
      exact hX0 _ rfl
    · replace hf := (if_neg k10001).symm.trans hf
      refine a_iload (pc' := 17) 6 dL_bought_15 rfl rfl ?_
      refine a_ldc (pc' := 19) (v := (1103515245 : Int32)) (a_in3 102 rfl rfl) dL_bought_17 rfl ?_
      refine a_imul (pc' := 20) dL_bought_19 rfl ?_
      refine a_sipush (pc' := 23) (v := (12345 : Int32)) dL_bought_20 rfl (by decide) ?_
      refine a_iadd (pc' := 24) dL_bought_23 rfl ?_
      refine a_istore (pc' := 26) (ls' := [(7, .int ((v7_9 * ((1103515245 : Int32))) + ((12345 : Int32)))), (0, .int a1), (1, .int a2), (3, .ref 57), (4, .ref 58), (5, .ref 59), (6, .ref 60), (8, .int v8_9), (9, .int v9_9)]) dL_bought_24 (by decide) rfl rfl ?_
      refine a_iload (pc' := 28) 0 dL_bought_26 rfl rfl ?_
      refine a_bipush (pc' := 30) (v := (16 : Int32)) dL_bought_28 rfl (by decide) ?_
      refine a_iushr (pc' := 31) dL_bought_30 rfl ?_
      refine a_ldc (pc' := 33) (v := (32768 : Int32)) (a_in3 103 rfl rfl) dL_bought_31 rfl ?_
      refine a_irem (pc' := 34) dL_bought_33 rfl (by decide) ?_
      refine a_bipush (pc' := 36) (v := (10 : Int32)) dL_bought_34 rfl (by decide) ?_
      refine a_irem (pc' := 37) dL_bought_36 rfl (by decide) ?_
      refine a_if_ne (pc' := 40) 43 dL_bought_37 (by decide) rfl (fun k10002 => ?_) (fun k10002 => ?_)
      · replace hf := (if_neg k10002).symm.trans hf
        refine a_iinc (pc' := 46) (v := v9_9 + (1 : Int32)) (ls' := [(9, .int (v9_9 + (1 : Int32))), (7, .int ((v7_9 * ((1103515245 : Int32))) + ((12345 : Int32)))), (0, .int a1), (1, .int a2), (3, .ref 57), (4, .ref 58), (5, .ref 59), (6, .ref 60), (8, .int v8_9)]) 8 dL_bought_43 rfl (by rfl) (by decide) rfl rfl ?_
        refine a_goto 9 dL_bought_46 (by decide) ?_
        refine a_sub [2, 3, 4, 5, 6, 7, 1, 8, 0] rfl ?_
        exact ih _ _ _ _ hf hX0
      · replace hf := (if_pos k10002).symm.trans hf
        refine a_iinc (pc' := 43) (v := v8_9 + (1 : Int32)) (ls' := [(8, .int (v8_9 + (1 : Int32))), (7, .int ((v7_9 * ((1103515245 : Int32))) + ((12345 : Int32)))), (0, .int a1), (1, .int a2), (3, .ref 57), (4, .ref 58), (5, .ref 59), (6, .ref 60), (9, .int v9_9)]) 7 dL_bought_40 rfl (by rfl) (by decide) rfl rfl ?_
        refine a_iinc (pc' := 46) (v := v9_9 + (1 : Int32)) (ls' := [(9, .int (v9_9 + (1 : Int32))), (8, .int (v8_9 + (1 : Int32))), (7, .int ((v7_9 * ((1103515245 : Int32))) + ((12345 : Int32)))), (0, .int a1), (1, .int a2), (3, .ref 57), (4, .ref 58), (5, .ref 59), (6, .ref 60)]) 8 dL_bought_43 rfl (by rfl) (by decide) rfl rfl ?_
        refine a_goto 9 dL_bought_46 (by decide) ?_
        refine a_sub [3, 4, 5, 6, 7, 8, 2, 1, 0] rfl ?_
        exact ih _ _ _ _ hf hX0
set_option maxHeartbeats 4000000 in
set_option maxRecDepth 100000 in
theorem c_L_bought (l : Launch) (g : a_G) (F : Nat) {h : List va_E} {Y : d_A} {a1 : Int32} {a2 : Int32} {a3 : Int32} (hz : d_al h Y) {out : Int32 × d_A} (hf : f_L_bought F Y a1 a2 a3 = some out) : a_CT l g yL_bought cL_bought 10 (some .int) (a_rm 0 0) [.int a1, .int a2, .int a3, .ref 57, .ref 58, .ref 59, .ref 60] h none none (fun r h' => r = some (.int out.1) ∧ d_al h' out.2 ∧ d_fl h h') := by
  refine a_enter ⟨by decide, rfl, Nat.le_of_ble_eq_true rfl⟩ (fun p e s m args below meth c hr hin => ?_)
  unfold f_L_bought at hf
  have hfr : d_fl h h := rfl
  refine a_sub (ls' := [(0, .int a1), (1, .int a2), (2, .int a3), (3, .ref 57), (4, .ref 58), (5, .ref 59), (6, .ref 60)]) [0, 1, 2, 3, 4, 5, 6] rfl ?_
  refine a_iload_n (pc' := 1) 2 dL_bought_0 rfl rfl rfl ?_
  refine a_istore (pc' := 3) (ls' := [(7, .int a3), (0, .int a1), (1, .int a2), (2, .int a3), (3, .ref 57), (4, .ref 58), (5, .ref 59), (6, .ref 60)]) dL_bought_1 (by decide) rfl rfl ?_
  refine a_iconst (pc' := 4) (v := (0 : Int32)) dL_bought_3 rfl (by decide) ?_
  refine a_istore (pc' := 6) (ls' := [(8, .int ((0 : Int32))), (7, .int a3), (0, .int a1), (1, .int a2), (2, .int a3), (3, .ref 57), (4, .ref 58), (5, .ref 59), (6, .ref 60)]) dL_bought_4 (by decide) rfl rfl ?_
  refine a_iconst (pc' := 7) (v := (0 : Int32)) dL_bought_6 rfl (by decide) ?_
  refine a_istore (pc' := 9) (ls' := [(9, .int ((0 : Int32))), (8, .int ((0 : Int32))), (7, .int a3), (0, .int a1), (1, .int a2), (2, .int a3), (3, .ref 57), (4, .ref 58), (5, .ref 59), (6, .ref 60)]) dL_bought_7 (by decide) rfl rfl ?_
  obtain ⟨o1, e2, hf⟩ := Option.bind_eq_some_iff.mp hf
  refine a_sub [3, 4, 6, 7, 8, 9, 2, 1, 0] rfl ?_
  refine l_L_bought_L9 F Y a1 a2 hz F _ _ _ o1 e2 (fun e9 he9 => ?_)
  subst he9
  refine a_aload_n (pc' := 50) 2 dL_bought_49 rfl rfl rfl ?_
  refine a_iload_n (pc' := 51) 0 dL_bought_50 rfl rfl rfl ?_
  refine a_dup2 (pc' := 52) dL_bought_51 rfl rfl rfl ?_
  obtain ⟨hg, hf⟩ := f_grd_x hf
  refine b_iald (pc' := 53) hz.2.2.2.2.2.1 hg dL_bought_52 rfl ?_
  refine a_iload_n (pc' := 54) 1 dL_bought_53 rfl rfl rfl ?_
  refine a_iload (pc' := 56) 6 dL_bought_54 rfl rfl ?_
  refine a_isub (pc' := 57) dL_bought_56 rfl ?_
  refine a_iadd (pc' := 58) dL_bought_57 rfl ?_
  obtain ⟨hg, hf⟩ := f_grd_x hf
  refine b_iast (pc' := 59) hz.2.2.2.2.2.1 hg dL_bought_58 rfl (fun h3 hz1 hfr1 => ?_)
  obtain ⟨hz1, hfr1⟩ := d_lw_s2 hz.2.2 hz1 hfr1
  have hz2 := d_al_w hz hz1 hfr1
  obtain ⟨Y4, hf, hz⟩ := f_let_x (P := fun w => d_al h3 w) hf hz2
  replace hfr : d_fl h h3 := Eq.trans hfr1.1 hfr
  refine a_aload (pc' := 61) 3 dL_bought_59 rfl rfl ?_
  refine a_iload_n (pc' := 62) 0 dL_bought_61 rfl rfl rfl ?_
  refine a_dup2 (pc' := 63) dL_bought_62 rfl rfl rfl ?_
  obtain ⟨hg, hf⟩ := f_grd_x hf
  refine b_iald (pc' := 64) hz.2.2.2.2.2.2.1 hg dL_bought_63 rfl ?_
  refine a_iload (pc' := 66) 6 dL_bought_64 rfl rfl ?_
  refine a_iadd (pc' := 67) dL_bought_66 rfl ?_
  obtain ⟨hg, hf⟩ := f_grd_x hf
  refine b_iast (pc' := 68) hz.2.2.2.2.2.2.1 hg dL_bought_67 rfl (fun h5 hz1 hfr1 => ?_)
  obtain ⟨hz1, hfr1⟩ := d_lw_s3 hz.2.2 hz1 hfr1
  have hz2 := d_al_w hz hz1 hfr1
  obtain ⟨Y6, hf, hz⟩ := f_let_x (P := fun w => d_al h5 w) hf hz2
  replace hfr : d_fl h h5 := Eq.trans hfr1.1 hfr
  refine a_aload (pc' := 70) 4 dL_bought_68 rfl rfl ?_
  refine a_iload_n (pc' := 71) 0 dL_bought_70 rfl rfl rfl ?_
  refine a_dup2 (pc' := 72) dL_bought_71 rfl rfl rfl ?_
  obtain ⟨hg, hf⟩ := f_grd_x hf
  refine b_iald (pc' := 73) hz.2.1 hg dL_bought_72 rfl ?_
  refine a_iload_n (pc' := 74) 1 dL_bought_73 rfl rfl rfl ?_
  refine a_iadd (pc' := 75) dL_bought_74 rfl ?_
  obtain ⟨hg, hf⟩ := f_grd_x hf
  refine b_iast (pc' := 76) hz.2.1 hg dL_bought_75 rfl (fun h7 hz1 hfr1 => ?_)
  have hz2 := d_al_e hz hz1 hfr1
  obtain ⟨Y8, hf, hz⟩ := f_let_x (P := fun w => d_al h7 w) hf hz2
  replace hfr : d_fl h h7 := Eq.trans hfr1.1 hfr
  refine a_aload (pc' := 78) 5 dL_bought_76 rfl rfl ?_
  refine a_bipush (pc' := 80) (v := (13 : Int32)) dL_bought_78 rfl (by decide) ?_
  refine a_dup2 (pc' := 81) dL_bought_80 rfl rfl rfl ?_
  obtain ⟨hg, hf⟩ := f_grd_x hf
  refine b_iald (pc' := 82) hz.2.2.2.2.2.2.2 hg dL_bought_81 rfl ?_
  refine a_iload_n (pc' := 83) 1 dL_bought_82 rfl rfl rfl ?_
  refine a_iload_n (pc' := 84) 0 dL_bought_83 rfl rfl rfl ?_
  refine a_iload_n (pc' := 85) 0 dL_bought_84 rfl rfl rfl ?_
  refine a_imul (pc' := 86) dL_bought_85 rfl ?_
  refine a_bipush (pc' := 88) (v := (16 : Int32)) dL_bought_86 rfl (by decide) ?_
  refine a_idiv (pc' := 89) dL_bought_88 rfl (by decide) ?_
  refine a_imul (pc' := 90) dL_bought_89 rfl ?_
  refine a_iadd (pc' := 91) dL_bought_90 rfl ?_
  obtain ⟨hg, hf⟩ := f_grd_x hf
  refine b_iast (pc' := 92) hz.2.2.2.2.2.2.2 hg dL_bought_91 rfl (fun h9 hz1 hfr1 => ?_)
  obtain ⟨hz1, hfr1⟩ := d_lw_s4 hz.2.2 hz1 hfr1
  have hz2 := d_al_w hz hz1 hfr1
  obtain ⟨Y10, hf, hz⟩ := f_let_x (P := fun w => d_al h9 w) hf hz2
  replace hfr : d_fl h h9 := Eq.trans hfr1.1 hfr
  refine a_iload (pc' := 94) 6 dL_bought_92 rfl rfl ?_
  cases hf
  exact a_iret hr ⟨rfl, hz, hfr⟩ dL_bought_94
