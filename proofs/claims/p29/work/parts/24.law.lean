/-! the law's own body -/
theorem a_lawret {p : Program} {l : Launch} {e : Env} {s : State} {m : MethodId} {below : List Frame} {meth : Method} {c : Code} {b : Nat} {nL : Nat} {g : a_G} {cells slots : Nat} {sz : Option Nat} {pc : Nat} {ls : List (Nat × Value)} {h : List va_E} (hr : meth.sig.returnType = ret) (hB : s.heap.size ≤ a_B g) (hc : cells ≤ 600130) (hs : slots ≤ 7301080) (hd : decode code pc = .ok (.ireturn, 1)) : a_W p l e room_1 s m #[Value.ref b] below meth c (lw_Z below #[Value.ref b] s) RL code nL g cells slots sz pc ls [.int 1] h := by
  intro F H locs lsC hP hS hz hl
  refine va_forget (fun q hq => Nat.le_trans hB (hS.2.2 q hq)) ?_
  refine W.widen hc hs ?_
  exact lw_ret (d0 := s.drawn) (Drawn.sameBut.refl s.drawn lw_cs) F.1 F.2.1 hr F.2.2.2.2.2.1 hd
section AL8
variable {p : Program} {l : Launch} {e : Env} {R : Room} {s : State} {m : MethodId} {args : Array Value} {below : List Frame} {meth : Method} {c : Code} {Q : State → Prop} {cc : ByteArray} {nL : Nat} {g : a_G} {cells slots : Nat} {sz : Option Nat} {pc pc' : Nat} {ls : List (Nat × Value)} {st : List Value} {h : List va_E}
theorem k_ahead {v x : Int32} {P : List va_E → Prop} (hM : a_CT l g yL_ahead cL_ahead 17 (some .boolean) (a_r5 6 133) [.ref 0, .int x, .ref 55, .ref 56, .ref 57, .ref 58, .ref 60] h (some h.length) (some (h.length + 5)) (fun r h' => r = some (.int v) ∧ P h')) (hR : 6 + 1 ≤ R.frames ∧ 8 + (17 + 11) + 133 ≤ R.locals) (hcs : cells + 5 ≤ R.cells ∧ slots + 186 ≤ R.slots) (hcat : (st.map fun v => v.category).sum ≤ 8) (hd : decode cc pc = .ok (.invokestatic 163, 3)) (hp : pc + 3 = pc') (kk : ∀ h', P h' → a_W p l e R s m args below meth c Q RL cc nL g (cells + 5) (slots + 186) (some (h.length + 5)) pc' ls (.int v :: st) h') : a_W p l e R s m args below meth c Q RL cc nL g cells slots (some h.length) pc ls (.ref 60 :: .ref 58 :: .ref 57 :: .ref 56 :: .ref 55 :: .int x :: .ref 0 :: st) h := a_callS (n := 7) (As := [.ref 0, .int x, .ref 55, .ref 56, .ref 57, .ref 58, .ref 60]) hM (by intro w hw; simp only [List.mem_cons, List.not_mem_nil, or_false] at hw; rcases hw with rfl | rfl | rfl; exact (a_in2 187 rfl rfl); exact (a_in2 188 rfl rfl); exact (a_in1 0 rfl rfl)) (a_in2 189 rfl rfl) ⟨by decide, by decide, by decide⟩ rfl hR hcs hcat hd hp (fun r h' hq => by obtain ⟨rfl, hq⟩ := hq; exact kk h' hq)
end AL8
section AL9
variable {p : Program} {l : Launch} {e : Env} {R : Room} {s : State} {m : MethodId} {args : Array Value} {below : List Frame} {meth : Method} {c : Code} {Q : State → Prop} {cc : ByteArray} {nL : Nat} {g : a_G} {cells slots : Nat} {sz : Option Nat} {pc pc' : Nat} {ls : List (Nat × Value)} {st : List Value} {h : List va_E}
theorem k_L_159 {y0 y1 y2 y3 y4 y5 y6 y7 : Value} {v : Int32} (hM : a_CT l g yL_told cL_told 12 (some .boolean) (a_rm 5 116) [y0, y1, y2, y3, y4, y5, y6, y7] h sz none (fun r h' => r = some (.int v) ∧ h' = h)) (hR : 5 + 1 ≤ R.frames ∧ 8 + (12 + 11) + 116 ≤ R.locals) (hcat : (st.map fun v => v.category).sum ≤ 8) (hd : decode cc pc = .ok (.invokestatic 159, 3)) (hp : pc + 3 = pc') (kk : a_W p l e R s m args below meth c Q RL cc nL g cells slots none pc' ls (.int v :: st) h) (hcs : cells ≤ R.cells ∧ slots ≤ R.slots := by exact ⟨Nat.le_of_ble_eq_true rfl, Nat.le_of_ble_eq_true rfl⟩) : a_W p l e R s m args below meth c Q RL cc nL g cells slots sz pc ls (y7 :: y6 :: y5 :: y4 :: y3 :: y2 :: y1 :: y0 :: st) h := a_callS (n := 8) (As := [y0, y1, y2, y3, y4, y5, y6, y7]) hM (by intro w hw; simp only [List.mem_cons, List.not_mem_nil, or_false] at hw; rcases hw with rfl | rfl | rfl; exact (a_in2 76 rfl rfl); exact (a_in2 77 rfl rfl); exact (a_in1 0 rfl rfl)) (a_in2 78 rfl rfl) ⟨by decide, by decide, by decide⟩ rfl hR hcs hcat hd hp (fun r h' hq => by obtain ⟨rfl, hq⟩ := hq; subst hq; exact kk)
theorem k_L_167 {y0 y1 : Value} {v : Int32} (hM : a_CT l g yL_cell cL_cell 2 (some .int) (a_rm 0 0) [y0, y1] h sz none (fun r h' => r = some (.int v) ∧ h' = h)) (hR : 0 + 1 ≤ R.frames ∧ 8 + (2 + 11) + 0 ≤ R.locals) (hcat : (st.map fun v => v.category).sum ≤ 8) (hd : decode cc pc = .ok (.invokestatic 167, 3)) (hp : pc + 3 = pc') (kk : a_W p l e R s m args below meth c Q RL cc nL g cells slots none pc' ls (.int v :: st) h) (hcs : cells ≤ R.cells ∧ slots ≤ R.slots := by exact ⟨Nat.le_of_ble_eq_true rfl, Nat.le_of_ble_eq_true rfl⟩) : a_W p l e R s m args below meth c Q RL cc nL g cells slots sz pc ls (y1 :: y0 :: st) h := a_callS (n := 2) (As := [y0, y1]) hM (by intro w hw; simp only [List.mem_cons, List.not_mem_nil, or_false] at hw; rcases hw with rfl | rfl | rfl; exact (a_in2 69 rfl rfl); exact (a_in2 70 rfl rfl); exact (a_in1 0 rfl rfl)) (a_in2 71 rfl rfl) ⟨by decide, by decide, by decide⟩ rfl hR hcs hcat hd hp (fun r h' hq => by obtain ⟨rfl, hq⟩ := hq; subst hq; exact kk)
theorem k_L_171 {y0 y1 y2 y3 y4 y5 y6 y7 y8 y9 : Value} {v : Int32} {P : List va_E → Prop} (hM : a_CT l g yL_act cL_act 17 (some .boolean) (a_rm 7 170) [y0, y1, y2, y3, y4, y5, y6, y7, y8, y9] h sz none (fun r h' => r = some (.int v) ∧ P h')) (hR : 7 + 1 ≤ R.frames ∧ 8 + (17 + 11) + 170 ≤ R.locals) (hcat : (st.map fun v => v.category).sum ≤ 8) (hd : decode cc pc = .ok (.invokestatic 171, 3)) (hp : pc + 3 = pc') (kk : ∀ h', P h' → a_W p l e R s m args below meth c Q RL cc nL g cells slots none pc' ls (.int v :: st) h') (hcs : cells ≤ R.cells ∧ slots ≤ R.slots := by exact ⟨Nat.le_of_ble_eq_true rfl, Nat.le_of_ble_eq_true rfl⟩) : a_W p l e R s m args below meth c Q RL cc nL g cells slots sz pc ls (y9 :: y8 :: y7 :: y6 :: y5 :: y4 :: y3 :: y2 :: y1 :: y0 :: st) h := a_callS (n := 10) (As := [y0, y1, y2, y3, y4, y5, y6, y7, y8, y9]) hM (by intro w hw; simp only [List.mem_cons, List.not_mem_nil, or_false] at hw; rcases hw with rfl | rfl | rfl; exact (a_in3 70 rfl rfl); exact (a_in3 71 rfl rfl); exact (a_in1 0 rfl rfl)) (a_in3 72 rfl rfl) ⟨by decide, by decide, by decide⟩ rfl hR hcs hcat hd hp (fun r h' hq => by obtain ⟨rfl, hq⟩ := hq; exact kk h' hq)
end AL9
set_option maxRecDepth 100000 in
def f_law_L (F L : Nat) (xs : Nat → Int32) : Nat → Int32 → d_A → Option Int32
  | 0, _, _ => none
  | n + 1, v8, Y => (if ((26 : Int32)) ≤ v8 then f_nt (f_X3_count F Y.1 ((18 : Int32))) fun x3 => (if x3 ≤ 0 then none else some 1) else (f_L_cell F L xs (((2 : Int32)) * v8)).bind fun x6 => (f_L_cell F L xs ((((2 : Int32)) * v8) + ((1 : Int32)))).bind fun x8 => ((if ((3 : Int32)) ≤ v8 then (if v8 = ((3 : Int32)) then some ((11 : Int32)) else (if v8 = ((4 : Int32)) then some ((15 : Int32)) else (f_L_at F ((x6 &&& ((2147483647 : Int32))) >>> (((13 : Int32)) &&& 31)) ((20 : Int32))).bind fun x14 => some (x14))) else some ((0 : Int32)))).bind fun j9 => (f_L_act F Y j9 (x6 &&& ((2147483647 : Int32))) (x8 &&& ((2147483647 : Int32)))).bind fun x16 => f_let x16.2 fun Y18 => (if x16.1 = 0 then none else (f_L_told F Y18 ((x8 &&& ((2147483647 : Int32))) >>> (((2 : Int32)) &&& 31))).bind fun x21 => (if x21 = 0 then none else (if (v8 - v8 / ((5 : Int32)) * ((5 : Int32))) = ((4 : Int32)) then (f_L_ahead F Y18 ((x6 &&& ((2147483647 : Int32))) >>> (((3 : Int32)) &&& 31))).bind fun x25 => f_let x25.2 fun Y27 => (if x25.1 = 0 then none else f_law_L F L xs n (v8 + (1 : Int32)) Y27) else f_law_L F L xs n (v8 + (1 : Int32)) Y18))))
set_option maxRecDepth 100000 in
def f_law (F L : Nat) (xs : Nat → Int32) (Y : d_A) : Option Int32 := f_grd ((0 : Int32)) 14 (f_let (Y.1, Y.2.1, (Y.2.2.1, Y.2.2.2.1, Y.2.2.2.2.1, Y.2.2.2.2.2.1, upd Y.2.2.2.2.2.2 ((0 : Int32)).toNatClampNeg ((50 : Int32)))) fun Y2 => f_grd ((1 : Int32)) 14 (f_let (Y2.1, Y2.2.1, (Y2.2.2.1, Y2.2.2.2.1, Y2.2.2.2.2.1, Y2.2.2.2.2.2.1, upd Y2.2.2.2.2.2.2 ((1 : Int32)).toNatClampNeg ((6 : Int32)))) fun Y4 => f_grd ((3 : Int32)) 14 (f_let (Y4.1, Y4.2.1, (Y4.2.2.1, Y4.2.2.2.1, Y4.2.2.2.2.1, Y4.2.2.2.2.2.1, upd Y4.2.2.2.2.2.2 ((3 : Int32)).toNatClampNeg ((4 : Int32)))) fun Y6 => f_grd ((4 : Int32)) 14 (f_let (Y6.1, Y6.2.1, (Y6.2.2.1, Y6.2.2.2.1, Y6.2.2.2.2.1, Y6.2.2.2.2.2.1, upd Y6.2.2.2.2.2.2 ((4 : Int32)).toNatClampNeg ((20 : Int32)))) fun Y8 => f_grd ((5 : Int32)) 14 (f_let (Y8.1, Y8.2.1, (Y8.2.2.1, Y8.2.2.2.1, Y8.2.2.2.2.1, Y8.2.2.2.2.2.1, upd Y8.2.2.2.2.2.2 ((5 : Int32)).toNatClampNeg ((2 : Int32)))) fun Y10 => f_grd ((7 : Int32)) 14 (f_let (Y10.1, Y10.2.1, (Y10.2.2.1, Y10.2.2.2.1, Y10.2.2.2.2.1, Y10.2.2.2.2.2.1, upd Y10.2.2.2.2.2.2 ((7 : Int32)).toNatClampNeg ((20 : Int32)))) fun Y12 => f_nt (f_X3_begin F Y12.1 ((50 : Int32)) ((6 : Int32))) fun x14 => f_let (x14.2, Y12.2) fun Y16 => (if x14.1 = 0 then (f_L_told F Y16 ((5 : Int32))).bind fun x19 => (if x19 = 0 then none else (f_L_ahead F Y16 ((9 : Int32))).bind fun x22 => f_let x22.2 fun Y24 => (if x22.1 = 0 then none else f_law_L F L xs 27 ((0 : Int32)) Y24)) else none)))))))
set_option maxHeartbeats 4000000 in
set_option maxRecDepth 100000 in
theorem l_law {p : Program} {l : Launch} {e : Env} {s : State} {m : MethodId} {below : List Frame} {meth : Method} {c : Code} {b0 : Nat} {g : a_G} (F : Nat) {L : Nat} {xs : Nat → Int32} (hr : meth.sig.returnType = ret) (hB : s.heap.size = a_B g) (hsc : a_SC g L xs) : ∀ (n : Nat) (v8 : Int32) (Y : d_A) (k0 sl : Nat), f_law_L F L xs n v8 Y = some 1 → k0 + 5 * n ≤ 900 → sl + 186 * n ≤ 100000 → ∀ h, d_al h Y → h.length = k0 → a_W p l e room_1 s m #[Value.ref b0] below meth c (lw_Z below #[Value.ref b0] s) RL code 12 g k0 sl none 128 [(0, .ref 1002), (1, .ref 0), (2, .ref 55), (3, .ref 56), (4, .ref 57), (5, .ref 58), (6, .ref 59), (7, .ref 60), (8, .int v8)] [] h := by
  intro n
  induction n with
  | zero => intro v8 Y k0 sl hf; exact nomatch (show (none : Option Int32) = some 1 from hf)
  | succ n ih =>
    intro v8 Y k0 sl hf hk hsl h hz hlen
    have hfr : d_fl h h := rfl
    have hs0 : s.heap.size = a_B g + 0 := hB
    rw [f_law_L] at hf
    refine a_iload (pc' := 130) 8 dL_law_128 rfl rfl ?_
    refine a_bipush (pc' := 132) (v := (26 : Int32)) dL_law_130 rfl (by decide) ?_
    refine a_icmp_ge (pc' := 135) 288 dL_law_132 (by decide) rfl (fun k1 => ?_) (fun k1 => ?_)
    · replace hf := (if_pos k1).symm.trans hf
      refine a_aload_n (pc' := 289) 1 dL_law_288 rfl rfl rfl ?_
      refine a_bipush (pc' := 291) (v := (18 : Int32)) dL_law_289 rfl (by decide) ?_
      obtain ⟨x3, e2, hf⟩ := f_nx hf
      refine k_L_65 (hcs := ⟨by show k0 ≤ 600130; omega, by show sl ≤ 7301080; omega⟩) (pc' := 294) (c_X3_count l g F hz.1 e2) ⟨Nat.le_of_ble_eq_true rfl, Nat.le_of_ble_eq_true rfl⟩ hz.1.1 (Nat.le_of_ble_eq_true rfl) dL_law_291 rfl ?_
      refine a_if_le (pc' := 297) 301 dL_law_294 (by decide) rfl (fun k4 => ?_) (fun k4 => ?_)
      · replace hf := (if_pos k4).symm.trans hf
        refine a_iconst (pc' := 302) (v := (0 : Int32)) dL_law_301 rfl (by decide) ?_
        cases hf
      · replace hf := (if_neg k4).symm.trans hf
        refine a_iconst (pc' := 298) (v := (1 : Int32)) dL_law_297 rfl (by decide) ?_
        refine a_goto 302 dL_law_298 (by decide) ?_
        exact a_lawret hr (Nat.le_of_eq hB) (by omega) (by omega) dL_law_302
    · replace hf := (if_neg k1).symm.trans hf
      refine a_aload_n (pc' := 136) 0 dL_law_135 rfl rfl rfl ?_
      refine a_iconst (pc' := 137) (v := (2 : Int32)) dL_law_136 rfl (by decide) ?_
      refine a_iload (pc' := 139) 8 dL_law_137 rfl rfl ?_
      refine a_imul (pc' := 140) dL_law_139 rfl ?_
      obtain ⟨x6, e5, hf⟩ := Option.bind_eq_some_iff.mp hf
      refine k_L_167 (hcs := ⟨by show k0 ≤ 600130; omega, by show sl ≤ 7301080; omega⟩) (pc' := 143) (c_L_cell l g F hsc e5) ⟨Nat.le_of_ble_eq_true rfl, Nat.le_of_ble_eq_true rfl⟩ (Nat.le_of_ble_eq_true rfl) dL_law_140 rfl ?_
      refine a_ldc (pc' := 145) (v := (2147483647 : Int32)) (a_in2 170 rfl rfl) dL_law_143 rfl ?_
      refine a_iand (pc' := 146) dL_law_145 rfl ?_
      refine a_istore (pc' := 148) (ls' := [(9, .int (x6 &&& ((2147483647 : Int32)))), (0, .ref 1002), (1, .ref 0), (2, .ref 55), (3, .ref 56), (4, .ref 57), (5, .ref 58), (6, .ref 59), (7, .ref 60), (8, .int v8)]) dL_law_146 (by decide) rfl rfl ?_
      refine a_aload_n (pc' := 149) 1 dL_law_148 rfl rfl rfl ?_
      refine a_iconst (pc' := 150) (v := (2 : Int32)) dL_law_149 rfl (by decide) ?_
      refine a_iload (pc' := 152) 9 dL_law_150 rfl rfl ?_
      refine a_imul (pc' := 153) dL_law_152 rfl ?_
      refine a_iconst (pc' := 154) (v := (1 : Int32)) dL_law_153 rfl (by decide) ?_
      refine a_iadd (pc' := 155) dL_law_154 rfl ?_
      obtain ⟨x8, e7, hf⟩ := Option.bind_eq_some_iff.mp hf
      refine k_L_167 (hcs := ⟨by show k0 ≤ 600130; omega, by show sl ≤ 7301080; omega⟩) (pc' := 158) (c_L_cell l g F hsc e7) ⟨Nat.le_of_ble_eq_true rfl, Nat.le_of_ble_eq_true rfl⟩ (Nat.le_of_ble_eq_true rfl) dL_law_155 rfl ?_
      refine a_ldc (pc' := 160) (v := (2147483647 : Int32)) (a_in2 170 rfl rfl) dL_law_158 rfl ?_
      refine a_iand (pc' := 161) dL_law_160 rfl ?_
      refine a_istore (pc' := 163) (ls' := [(10, .int (x8 &&& ((2147483647 : Int32)))), (9, .int (x6 &&& ((2147483647 : Int32)))), (0, .ref 1002), (1, .ref 0), (2, .ref 55), (3, .ref 56), (4, .ref 57), (5, .ref 58), (6, .ref 59), (7, .ref 60), (8, .int v8)]) dL_law_161 (by decide) rfl rfl ?_
      refine a_iload (pc' := 165) 10 dL_law_163 rfl rfl ?_
      refine a_iconst (pc' := 166) (v := (3 : Int32)) dL_law_165 rfl (by decide) ?_
      refine a_jn (st2 := []) hf 205 (fun j9 ej9 hf => ?_) (fun j9 hf Jj9 => ?_)
      · refine a_istore (pc' := 207) (ls' := [(11, .int j9), (10, .int (x8 &&& ((2147483647 : Int32)))), (9, .int (x6 &&& ((2147483647 : Int32)))), (0, .ref 1002), (1, .ref 0), (2, .ref 55), (3, .ref 56), (4, .ref 57), (5, .ref 58), (6, .ref 59), (7, .ref 60), (8, .int v8)]) dL_law_205 (by decide) rfl rfl ?_
        refine a_aload_n (pc' := 208) 4 dL_law_207 rfl rfl rfl ?_
        refine a_iload (pc' := 210) 0 dL_law_208 rfl rfl ?_
        refine a_iload (pc' := 212) 2 dL_law_210 rfl rfl ?_
        refine a_iload (pc' := 214) 1 dL_law_212 rfl rfl ?_
        refine a_aload_n (pc' := 215) 5 dL_law_214 rfl rfl rfl ?_
        refine a_aload_n (pc' := 216) 6 dL_law_215 rfl rfl rfl ?_
        refine a_aload (pc' := 218) 7 dL_law_216 rfl rfl ?_
        refine a_aload (pc' := 220) 8 dL_law_218 rfl rfl ?_
        refine a_aload (pc' := 222) 9 dL_law_220 rfl rfl ?_
        refine a_aload (pc' := 224) 10 dL_law_222 rfl rfl ?_
        obtain ⟨x16, e15, hf⟩ := Option.bind_eq_some_iff.mp hf
        refine k_L_171 (hcs := ⟨by show k0 ≤ 600130; omega, by show sl ≤ 7301080; omega⟩) (pc' := 227) (c_L_act l g F hz e15) ⟨Nat.le_of_ble_eq_true rfl, Nat.le_of_ble_eq_true rfl⟩ (Nat.le_of_ble_eq_true rfl) dL_law_224 rfl (fun h17 hq => ?_)
        obtain ⟨hz1, hfr1⟩ := hq
        obtain ⟨Y18, hf, hz⟩ := f_let_x (P := fun w => d_al h17 w) hf hz1
        replace hfr : d_fl h h17 := Eq.trans hfr1 hfr
        refine a_if_eq (pc' := 230) 251 dL_law_227 (by decide) rfl (fun k19 => ?_) (fun k19 => ?_)
        · replace hf := (if_pos k19).symm.trans hf
          refine a_iconst (pc' := 252) (v := (0 : Int32)) dL_law_251 rfl (by decide) ?_
          cases hf
        · replace hf := (if_neg k19).symm.trans hf
          refine a_aload_n (pc' := 231) 4 dL_law_230 rfl rfl rfl ?_
          refine a_iload (pc' := 233) 1 dL_law_231 rfl rfl ?_
          refine a_iconst (pc' := 234) (v := (2 : Int32)) dL_law_233 rfl (by decide) ?_
          refine a_ishr (pc' := 235) dL_law_234 rfl ?_
          refine a_aload_n (pc' := 236) 5 dL_law_235 rfl rfl rfl ?_
          refine a_aload_n (pc' := 237) 6 dL_law_236 rfl rfl rfl ?_
          refine a_aload (pc' := 239) 7 dL_law_237 rfl rfl ?_
          refine a_aload (pc' := 241) 8 dL_law_239 rfl rfl ?_
          refine a_aload (pc' := 243) 9 dL_law_241 rfl rfl ?_
          refine a_aload (pc' := 245) 10 dL_law_243 rfl rfl ?_
          obtain ⟨x21, e20, hf⟩ := Option.bind_eq_some_iff.mp hf
          refine k_L_159 (hcs := ⟨by show k0 ≤ 600130; omega, by show sl ≤ 7301080; omega⟩) (pc' := 248) (c_L_told l g F hz e20) ⟨Nat.le_of_ble_eq_true rfl, Nat.le_of_ble_eq_true rfl⟩ (Nat.le_of_ble_eq_true rfl) dL_law_245 rfl ?_
          refine a_if_ne (pc' := 251) 253 dL_law_248 (by decide) rfl (fun k22 => ?_) (fun k22 => ?_)
          · replace hf := (if_neg k22).symm.trans hf
            refine a_iload (pc' := 255) 11 dL_law_253 rfl rfl ?_
            refine a_iconst (pc' := 256) (v := (5 : Int32)) dL_law_255 rfl (by decide) ?_
            refine a_irem (pc' := 257) dL_law_256 rfl (by decide) ?_
            refine a_iconst (pc' := 258) (v := (4 : Int32)) dL_law_257 rfl (by decide) ?_
            refine a_icmp_ne (pc' := 261) 282 dL_law_258 (by decide) rfl (fun k23 => ?_) (fun k23 => ?_)
            · replace hf := (if_neg k23).symm.trans hf
              refine a_iinc (pc' := 285) (v := v8 + (1 : Int32)) (ls' := [(8, .int (v8 + (1 : Int32))), (11, .int j9), (10, .int (x8 &&& ((2147483647 : Int32)))), (9, .int (x6 &&& ((2147483647 : Int32)))), (0, .ref 1002), (1, .ref 0), (2, .ref 55), (3, .ref 56), (4, .ref 57), (5, .ref 58), (6, .ref 59), (7, .ref 60)]) 11 dL_law_282 rfl (by rfl) (by decide) rfl rfl ?_
              refine a_goto 128 dL_law_285 (by decide) ?_
              refine a_sub (ls' := [(0, .ref 1002), (1, .ref 0), (2, .ref 55), (3, .ref 56), (4, .ref 57), (5, .ref 58), (6, .ref 59), (7, .ref 60), (8, .int (v8 + (1 : Int32)))]) [4, 5, 6, 7, 8, 9, 10, 11, 0] rfl ?_
              exact ih _ _ _ _ hf (by omega) (by omega) _ hz (by rw [hfr, hlen])
            · replace hf := (if_pos k23).symm.trans hf
              refine a_aload_n (pc' := 262) 4 dL_law_261 rfl rfl rfl ?_
              refine a_iload (pc' := 264) 2 dL_law_262 rfl rfl ?_
              refine a_iconst (pc' := 265) (v := (3 : Int32)) dL_law_264 rfl (by decide) ?_
              refine a_ishr (pc' := 266) dL_law_265 rfl ?_
              refine a_aload_n (pc' := 267) 5 dL_law_266 rfl rfl rfl ?_
              refine a_aload_n (pc' := 268) 6 dL_law_267 rfl rfl rfl ?_
              refine a_aload (pc' := 270) 7 dL_law_268 rfl rfl ?_
              refine a_aload (pc' := 272) 8 dL_law_270 rfl rfl ?_
              refine a_aload (pc' := 274) 10 dL_law_272 rfl rfl ?_
              obtain ⟨x25, e24, hf⟩ := Option.bind_eq_some_iff.mp hf
              have hlh26 := d_al_len hz
              refine a_resz (n0 := 0) (k0 := k0) hs0 (by rw [hfr, hlen]; omega) (by omega) (by rw [hfr, hlen]; omega) ?_
              refine k_ahead (pc' := 277) (c_L_ahead l g F hz (by rw [hfr, hlen]; omega) e24) ⟨Nat.le_of_ble_eq_true rfl, Nat.le_of_ble_eq_true rfl⟩ ⟨by show k0 + 5 ≤ 600130; omega, by show sl + 186 ≤ 7301080; omega⟩ (Nat.le_of_ble_eq_true rfl) dL_law_274 rfl (fun h26 hq => ?_)
              obtain ⟨hz1, hl9⟩ := hq
              replace hlen : h26.length = k0 + 5 := by rw [hl9, hfr, hlen]
              have hfr : d_fl h26 h26 := rfl
              obtain ⟨Y27, hf, hz⟩ := f_let_x (P := fun w => d_al h26 w) hf hz1
              refine a_forget ?_
              refine a_if_ne (pc' := 280) 282 dL_law_277 (by decide) rfl (fun k28 => ?_) (fun k28 => ?_)
              · replace hf := (if_neg k28).symm.trans hf
                refine a_iinc (pc' := 285) (v := v8 + (1 : Int32)) (ls' := [(8, .int (v8 + (1 : Int32))), (11, .int j9), (10, .int (x8 &&& ((2147483647 : Int32)))), (9, .int (x6 &&& ((2147483647 : Int32)))), (0, .ref 1002), (1, .ref 0), (2, .ref 55), (3, .ref 56), (4, .ref 57), (5, .ref 58), (6, .ref 59), (7, .ref 60)]) 11 dL_law_282 rfl (by rfl) (by decide) rfl rfl ?_
                refine a_goto 128 dL_law_285 (by decide) ?_
                refine a_sub (ls' := [(0, .ref 1002), (1, .ref 0), (2, .ref 55), (3, .ref 56), (4, .ref 57), (5, .ref 58), (6, .ref 59), (7, .ref 60), (8, .int (v8 + (1 : Int32)))]) [4, 5, 6, 7, 8, 9, 10, 11, 0] rfl ?_
                exact ih _ _ _ _ hf (by omega) (by omega) _ hz (by rw [hfr, hlen])
              · replace hf := (if_pos k28).symm.trans hf
                refine a_iconst (pc' := 281) (v := (0 : Int32)) dL_law_280 rfl (by decide) ?_
                cases hf
          · replace hf := (if_pos k22).symm.trans hf
            refine a_iconst (pc' := 252) (v := (0 : Int32)) dL_law_251 rfl (by decide) ?_
            cases hf
      · refine a_icmp_ge (pc' := 169) 173 dL_law_166 (by decide) rfl (fun k10 => ?_) (fun k10 => ?_)
        · replace hf := (if_pos k10).symm.trans hf
          refine a_iload (pc' := 175) 10 dL_law_173 rfl rfl ?_
          refine a_iconst (pc' := 176) (v := (3 : Int32)) dL_law_175 rfl (by decide) ?_
          refine a_icmp_ne (pc' := 179) 184 dL_law_176 (by decide) rfl (fun k11 => ?_) (fun k11 => ?_)
          · replace hf := (if_neg k11).symm.trans hf
            refine a_iload (pc' := 186) 10 dL_law_184 rfl rfl ?_
            refine a_iconst (pc' := 187) (v := (4 : Int32)) dL_law_186 rfl (by decide) ?_
            refine a_icmp_ne (pc' := 190) 195 dL_law_187 (by decide) rfl (fun k12 => ?_) (fun k12 => ?_)
            · replace hf := (if_neg k12).symm.trans hf
              refine a_iload (pc' := 197) 1 dL_law_195 rfl rfl ?_
              refine a_bipush (pc' := 199) (v := (13 : Int32)) dL_law_197 rfl (by decide) ?_
              refine a_ishr (pc' := 200) dL_law_199 rfl ?_
              refine a_bipush (pc' := 202) (v := (20 : Int32)) dL_law_200 rfl (by decide) ?_
              obtain ⟨x14, e13, hf⟩ := Option.bind_eq_some_iff.mp hf
              refine k_L_45 (hcs := ⟨by show k0 ≤ 600130; omega, by show sl ≤ 7301080; omega⟩) (pc' := 205) (c_L_at l g F e13) ⟨Nat.le_of_ble_eq_true rfl, Nat.le_of_ble_eq_true rfl⟩ (Nat.le_of_ble_eq_true rfl) dL_law_202 rfl ?_
              cases hf
              exact Jj9
            · replace hf := (if_pos k12).symm.trans hf
              refine a_bipush (pc' := 192) (v := (15 : Int32)) dL_law_190 rfl (by decide) ?_
              refine a_goto 205 dL_law_192 (by decide) ?_
              cases hf
              exact Jj9
          · replace hf := (if_pos k11).symm.trans hf
            refine a_bipush (pc' := 181) (v := (11 : Int32)) dL_law_179 rfl (by decide) ?_
            refine a_goto 205 dL_law_181 (by decide) ?_
            cases hf
            exact Jj9
        · replace hf := (if_neg k10).symm.trans hf
          refine a_iconst (pc' := 170) (v := (0 : Int32)) dL_law_169 rfl (by decide) ?_
          refine a_goto 205 dL_law_170 (by decide) ?_
          cases hf
          exact Jj9
set_option maxHeartbeats 4000000 in
set_option maxRecDepth 100000 in
theorem l_entry {p : Program} {l : Launch} {e : Env} {s : State} {m : MethodId} {below : List Frame} {meth : Method} {c : Code} {b0 : Nat} {g : a_G} (F : Nat) {L : Nat} {xs : Nat → Int32} (hr : meth.sig.returnType = ret) (hB : s.heap.size = a_B g) (hsc : a_SC g L xs) (Y : d_A) (k0 sl : Nat) (hf : f_law F L xs Y = some 1) (hk : k0 + 5 * 28 ≤ 900) (hsl : sl + 186 * 28 ≤ 100000) (h : List va_E) (hz : d_al h Y) (hlen : h.length = k0) : a_W p l e room_1 s m #[Value.ref b0] below meth c (lw_Z below #[Value.ref b0] s) RL code 12 g k0 sl none 42 [(0, .ref 1002), (1, .ref 0), (2, .ref 55), (3, .ref 56), (4, .ref 57), (5, .ref 58), (6, .ref 59), (7, .ref 60)] [] h := by
  have hfr : d_fl h h := rfl
  have hs0 : s.heap.size = a_B g + 0 := hB
  unfold f_law at hf
  refine a_aload (pc' := 44) 7 dL_law_42 rfl rfl ?_
  refine a_iconst (pc' := 45) (v := (0 : Int32)) dL_law_44 rfl (by decide) ?_
  refine a_bipush (pc' := 47) (v := (50 : Int32)) dL_law_45 rfl (by decide) ?_
  obtain ⟨hg, hf⟩ := f_grd_x hf
  refine b_iast (pc' := 48) hz.2.2.2.2.2.2.2 hg dL_law_47 rfl (fun h1 hz1 hfr1 => ?_)
  obtain ⟨hz1, hfr1⟩ := d_lw_s4 hz.2.2 hz1 hfr1
  have hz2 := d_al_w hz hz1 hfr1
  obtain ⟨Y2, hf, hz⟩ := f_let_x (P := fun w => d_al h1 w) hf hz2
  replace hfr : d_fl h h1 := Eq.trans hfr1.1 hfr
  refine a_aload (pc' := 50) 7 dL_law_48 rfl rfl ?_
  refine a_iconst (pc' := 51) (v := (1 : Int32)) dL_law_50 rfl (by decide) ?_
  refine a_bipush (pc' := 53) (v := (6 : Int32)) dL_law_51 rfl (by decide) ?_
  obtain ⟨hg, hf⟩ := f_grd_x hf
  refine b_iast (pc' := 54) hz.2.2.2.2.2.2.2 hg dL_law_53 rfl (fun h3 hz1 hfr1 => ?_)
  obtain ⟨hz1, hfr1⟩ := d_lw_s4 hz.2.2 hz1 hfr1
  have hz2 := d_al_w hz hz1 hfr1
  obtain ⟨Y4, hf, hz⟩ := f_let_x (P := fun w => d_al h3 w) hf hz2
  replace hfr : d_fl h h3 := Eq.trans hfr1.1 hfr
  refine a_aload (pc' := 56) 7 dL_law_54 rfl rfl ?_
  refine a_iconst (pc' := 57) (v := (3 : Int32)) dL_law_56 rfl (by decide) ?_
  refine a_iconst (pc' := 58) (v := (4 : Int32)) dL_law_57 rfl (by decide) ?_
  obtain ⟨hg, hf⟩ := f_grd_x hf
  refine b_iast (pc' := 59) hz.2.2.2.2.2.2.2 hg dL_law_58 rfl (fun h5 hz1 hfr1 => ?_)
  obtain ⟨hz1, hfr1⟩ := d_lw_s4 hz.2.2 hz1 hfr1
  have hz2 := d_al_w hz hz1 hfr1
  obtain ⟨Y6, hf, hz⟩ := f_let_x (P := fun w => d_al h5 w) hf hz2
  replace hfr : d_fl h h5 := Eq.trans hfr1.1 hfr
  refine a_aload (pc' := 61) 7 dL_law_59 rfl rfl ?_
  refine a_iconst (pc' := 62) (v := (4 : Int32)) dL_law_61 rfl (by decide) ?_
  refine a_bipush (pc' := 64) (v := (20 : Int32)) dL_law_62 rfl (by decide) ?_
  obtain ⟨hg, hf⟩ := f_grd_x hf
  refine b_iast (pc' := 65) hz.2.2.2.2.2.2.2 hg dL_law_64 rfl (fun h7 hz1 hfr1 => ?_)
  obtain ⟨hz1, hfr1⟩ := d_lw_s4 hz.2.2 hz1 hfr1
  have hz2 := d_al_w hz hz1 hfr1
  obtain ⟨Y8, hf, hz⟩ := f_let_x (P := fun w => d_al h7 w) hf hz2
  replace hfr : d_fl h h7 := Eq.trans hfr1.1 hfr
  refine a_aload (pc' := 67) 7 dL_law_65 rfl rfl ?_
  refine a_iconst (pc' := 68) (v := (5 : Int32)) dL_law_67 rfl (by decide) ?_
  refine a_iconst (pc' := 69) (v := (2 : Int32)) dL_law_68 rfl (by decide) ?_
  obtain ⟨hg, hf⟩ := f_grd_x hf
  refine b_iast (pc' := 70) hz.2.2.2.2.2.2.2 hg dL_law_69 rfl (fun h9 hz1 hfr1 => ?_)
  obtain ⟨hz1, hfr1⟩ := d_lw_s4 hz.2.2 hz1 hfr1
  have hz2 := d_al_w hz hz1 hfr1
  obtain ⟨Y10, hf, hz⟩ := f_let_x (P := fun w => d_al h9 w) hf hz2
  replace hfr : d_fl h h9 := Eq.trans hfr1.1 hfr
  refine a_aload (pc' := 72) 7 dL_law_70 rfl rfl ?_
  refine a_bipush (pc' := 74) (v := (7 : Int32)) dL_law_72 rfl (by decide) ?_
  refine a_bipush (pc' := 76) (v := (20 : Int32)) dL_law_74 rfl (by decide) ?_
  obtain ⟨hg, hf⟩ := f_grd_x hf
  refine b_iast (pc' := 77) hz.2.2.2.2.2.2.2 hg dL_law_76 rfl (fun h11 hz1 hfr1 => ?_)
  obtain ⟨hz1, hfr1⟩ := d_lw_s4 hz.2.2 hz1 hfr1
  have hz2 := d_al_w hz hz1 hfr1
  obtain ⟨Y12, hf, hz⟩ := f_let_x (P := fun w => d_al h11 w) hf hz2
  replace hfr : d_fl h h11 := Eq.trans hfr1.1 hfr
  refine a_aload_n (pc' := 78) 1 dL_law_77 rfl rfl rfl ?_
  refine a_bipush (pc' := 80) (v := (50 : Int32)) dL_law_78 rfl (by decide) ?_
  refine a_bipush (pc' := 82) (v := (6 : Int32)) dL_law_80 rfl (by decide) ?_
  obtain ⟨x14, e13, hf⟩ := f_nx hf
  refine k_L_139 (hcs := ⟨by show k0 ≤ 600130; omega, by show sl ≤ 7301080; omega⟩) (pc' := 85) (c_X3_begin l g F hz.1 e13) ⟨Nat.le_of_ble_eq_true rfl, Nat.le_of_ble_eq_true rfl⟩ hz.1.1 (Nat.le_of_ble_eq_true rfl) dL_law_82 rfl (fun h15 hq => ?_)
  obtain ⟨hz1, hfr1⟩ := hq
  have hz2 := d_al_c hz hz1 hfr1
  obtain ⟨Y16, hf, hz⟩ := f_let_x (P := fun w => d_al h15 w) hf hz2
  replace hfr : d_fl h h15 := Eq.trans hfr1.1 hfr
  refine a_if_ne (pc' := 88) 123 dL_law_85 (by decide) rfl (fun k17 => ?_) (fun k17 => ?_)
  · replace hf := (if_neg k17).symm.trans hf
    refine a_iconst (pc' := 124) (v := (0 : Int32)) dL_law_123 rfl (by decide) ?_
    cases hf
  · replace hf := (if_pos k17).symm.trans hf
    refine a_aload_n (pc' := 89) 1 dL_law_88 rfl rfl rfl ?_
    refine a_iconst (pc' := 90) (v := (5 : Int32)) dL_law_89 rfl (by decide) ?_
    refine a_aload_n (pc' := 91) 2 dL_law_90 rfl rfl rfl ?_
    refine a_aload_n (pc' := 92) 3 dL_law_91 rfl rfl rfl ?_
    refine a_aload (pc' := 94) 4 dL_law_92 rfl rfl ?_
    refine a_aload (pc' := 96) 5 dL_law_94 rfl rfl ?_
    refine a_aload (pc' := 98) 6 dL_law_96 rfl rfl ?_
    refine a_aload (pc' := 100) 7 dL_law_98 rfl rfl ?_
    obtain ⟨x19, e18, hf⟩ := Option.bind_eq_some_iff.mp hf
    refine k_L_159 (hcs := ⟨by show k0 ≤ 600130; omega, by show sl ≤ 7301080; omega⟩) (pc' := 103) (c_L_told l g F hz e18) ⟨Nat.le_of_ble_eq_true rfl, Nat.le_of_ble_eq_true rfl⟩ (Nat.le_of_ble_eq_true rfl) dL_law_100 rfl ?_
    refine a_if_eq (pc' := 106) 123 dL_law_103 (by decide) rfl (fun k20 => ?_) (fun k20 => ?_)
    · replace hf := (if_pos k20).symm.trans hf
      refine a_iconst (pc' := 124) (v := (0 : Int32)) dL_law_123 rfl (by decide) ?_
      cases hf
    · replace hf := (if_neg k20).symm.trans hf
      refine a_aload_n (pc' := 107) 1 dL_law_106 rfl rfl rfl ?_
      refine a_bipush (pc' := 109) (v := (9 : Int32)) dL_law_107 rfl (by decide) ?_
      refine a_aload_n (pc' := 110) 2 dL_law_109 rfl rfl rfl ?_
      refine a_aload_n (pc' := 111) 3 dL_law_110 rfl rfl rfl ?_
      refine a_aload (pc' := 113) 4 dL_law_111 rfl rfl ?_
      refine a_aload (pc' := 115) 5 dL_law_113 rfl rfl ?_
      refine a_aload (pc' := 117) 7 dL_law_115 rfl rfl ?_
      obtain ⟨x22, e21, hf⟩ := Option.bind_eq_some_iff.mp hf
      have hlh23 := d_al_len hz
      refine a_resz (n0 := 0) (k0 := k0) hs0 (by rw [hfr, hlen]; omega) (by omega) (by rw [hfr, hlen]; omega) ?_
      refine k_ahead (pc' := 120) (c_L_ahead l g F hz (by rw [hfr, hlen]; omega) e21) ⟨Nat.le_of_ble_eq_true rfl, Nat.le_of_ble_eq_true rfl⟩ ⟨by show k0 + 5 ≤ 600130; omega, by show sl + 186 ≤ 7301080; omega⟩ (Nat.le_of_ble_eq_true rfl) dL_law_117 rfl (fun h23 hq => ?_)
      obtain ⟨hz1, hl9⟩ := hq
      replace hlen : h23.length = k0 + 5 := by rw [hl9, hfr, hlen]
      have hfr : d_fl h23 h23 := rfl
      obtain ⟨Y24, hf, hz⟩ := f_let_x (P := fun w => d_al h23 w) hf hz1
      refine a_forget ?_
      refine a_if_ne (pc' := 123) 125 dL_law_120 (by decide) rfl (fun k25 => ?_) (fun k25 => ?_)
      · replace hf := (if_neg k25).symm.trans hf
        refine a_iconst (pc' := 126) (v := (0 : Int32)) dL_law_125 rfl (by decide) ?_
        refine a_istore (pc' := 128) (ls' := [(8, .int ((0 : Int32))), (0, .ref 1002), (1, .ref 0), (2, .ref 55), (3, .ref 56), (4, .ref 57), (5, .ref 58), (6, .ref 59), (7, .ref 60)]) dL_law_126 (by decide) rfl rfl ?_
        refine a_sub (ls' := [(0, .ref 1002), (1, .ref 0), (2, .ref 55), (3, .ref 56), (4, .ref 57), (5, .ref 58), (6, .ref 59), (7, .ref 60), (8, .int ((0 : Int32)))]) [1, 2, 3, 4, 5, 6, 7, 8, 0] rfl ?_
        exact l_law F hr hB hsc 27 _ _ _ _ hf (by omega) (by omega) _ hz (by rw [hfr, hlen])
      · replace hf := (if_pos k25).symm.trans hf
        refine a_iconst (pc' := 124) (v := (0 : Int32)) dL_law_123 rfl (by decide) ?_
        cases hf
