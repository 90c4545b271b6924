/-! the law's loop -/
def a_SC (g : a_G) (s : State) (b L : Nat) (xs : Nat → Int32) : Prop := a_ad g 1002 = b ∧ b < a_B g ∧ va_X b L xs s s.heap
section AS
variable {p : Program} {l : Launch} {e : Env} {R : Room} {s : State} {m : MethodId} {args : Array Value} {below : List Frame} {meth : Method} {c : Code} {Q : State → Prop} {own : String} {cc : ByteArray} {nL : Nat} {g : a_G} {cells slots : Nat} {sz : Option Nat} {pc pc' : Nat} {ls : List (Nat × Value)} {st : List Value} {h : List va_E}
theorem b_sld {b L : Nat} {xs : Nat → Int32} {x : Int32} (hsc : a_SC g s b L xs) (hi : vp_in x L) (hd : decode cc pc = .ok (.iaload, 1)) (hp : pc + 1 = pc') (kk : a_W p l e R s m args below meth c Q own cc nL g cells slots sz pc' ls (.int (xs x.toNatClampNeg) :: st) h) : a_W p l e R s m args below meth c Q own cc nL g cells slots sz pc ls (.int x :: .ref 1002 :: st) h := by
  intro F H locs lsC hP hS hz hl
  subst hp
  have hE := F.2.2.2.2.2.2
  obtain ⟨had, hb, hX⟩ := hsc
  subst had
  exact va_sld F.1 F.2.1 hX (Nat.lt_of_lt_of_le hb hE.2.2.1) (Nat.not_le.mpr hb) hS hi hd (kk F H locs lsC hP hS hz hl)
theorem b_slen {b L : Nat} {xs : Nat → Int32} (hsc : a_SC g s b L xs) (hd : decode cc pc = .ok (.arraylength, 1)) (hp : pc + 1 = pc') (kk : a_W p l e R s m args below meth c Q own cc nL g cells slots sz pc' ls (.int (Int32.ofNat L) :: st) h) : a_W p l e R s m args below meth c Q own cc nL g cells slots sz pc ls (.ref 1002 :: st) h := by
  intro F H locs lsC hP hS hz hl
  subst hp
  have hE := F.2.2.2.2.2.2
  obtain ⟨had, hb, hX⟩ := hsc
  subst had
  exact va_slen F.1 F.2.1 hX (Nat.lt_of_lt_of_le hb hE.2.2.1) (Nat.not_le.mpr hb) hS hd (kk F H locs lsC hP hS hz hl)
end AS
theorem a_lawret {p : Program} {l : Launch} {e : Env} {s : State} {m : MethodId} {below : List Frame} {meth : Method} {c : Code} {b : Nat} {nL : Nat} {g : a_G} {cells slots : Nat} {sz : Option Nat} {pc : Nat} {ls : List (Nat × Value)} {h : List va_E} (hr : meth.sig.returnType = ret) (hB : s.heap.size ≤ a_B g) (hc : cells ≤ 601024) (hs : slots ≤ 7293034) (hd : decode code pc = .ok (.ireturn, 1)) : a_W p l e room_1 s m #[Value.ref b] below meth c (lw_Z below #[Value.ref b] s) RL code nL g cells slots sz pc ls [.int 1] h := by
  intro F H locs lsC hP hS hz hl
  refine va_forget (fun q hq => Nat.le_trans hB (hS.2.2 q hq)) ?_
  refine W.widen hc hs ?_
  exact lw_ret (d0 := s.drawn) (Drawn.sameBut.refl s.drawn lw_cs) F.1 F.2.1 hr F.2.2.2.2.2.1 hd
section AL9
variable {p : Program} {l : Launch} {e : Env} {R : Room} {s : State} {m : MethodId} {args : Array Value} {below : List Frame} {meth : Method} {c : Code} {Q : State → Prop} {cc : ByteArray} {nL : Nat} {g : a_G} {cells slots : Nat} {sz : Option Nat} {pc pc' : Nat} {ls : List (Nat × Value)} {st : List Value} {h : List va_E}
theorem k_L_86 {i : Nat} {fs : List Value} {y0 y1 : Value} {v : Int32} {P : List va_E → Prop} (hM : a_CT l g yX4_begin cX4_begin 4 (some .int) (a_rm 3 67) (.ref i :: [y0, y1]) h sz none (fun r h' => r = some (.int v) ∧ P h')) (hR : 3 + 1 ≤ R.frames ∧ 8 + (4 + 11) + 67 ≤ R.locals) (he : h[i]? = some (.inr (4, fs))) (hcat : (st.map fun v => v.category).sum ≤ 8) (hd : decode cc pc = .ok (.invokevirtual 86, 3)) (hp : pc + 3 = pc') (kk : ∀ h', P h' → a_W p l e R s m args below meth c Q RL cc nL g cells slots none pc' ls (.int v :: st) h') (hcs : cells ≤ R.cells ∧ slots ≤ R.slots := by exact ⟨Nat.le_of_ble_eq_true rfl, Nat.le_of_ble_eq_true rfl⟩) : a_W p l e R s m args below meth c Q RL cc nL g cells slots sz pc ls (y1 :: y0 :: .ref i :: st) h := a_callV (n := 2) (ci := 4) (C := RX4) (T := TX4) (N := 14) (As := [y0, y1]) hM (by intro w hw; simp only [List.mem_cons, List.not_mem_nil, or_false] at hw; rcases hw with rfl | rfl | rfl | rfl; exact (a_in4 55 rfl rfl); exact (a_in4 56 rfl rfl); exact (a_in4 57 rfl rfl); exact (a_in1 5 rfl rfl)) (a_in4 58 rfl rfl) ⟨rfl, by decide, by decide, by decide⟩ rfl rfl hR hcs he hcat hd hp (fun r h' hq => by obtain ⟨rfl, hq⟩ := hq; exact kk h' hq)
theorem k_L_87 {i : Nat} {fs : List Value} {v : Int32} (hM : a_CT l g yX4_thrown cX4_thrown 1 (some .int) (a_rm 0 0) (.ref i :: []) h sz none (fun r h' => r = some (.int v) ∧ h' = h)) (hR : 0 + 1 ≤ R.frames ∧ 8 + (1 + 11) + 0 ≤ R.locals) (he : h[i]? = some (.inr (4, fs))) (hcat : (st.map fun v => v.category).sum ≤ 8) (hd : decode cc pc = .ok (.invokevirtual 87, 3)) (hp : pc + 3 = pc') (kk : a_W p l e R s m args below meth c Q RL cc nL g cells slots none pc' ls (.int v :: st) h) (hcs : cells ≤ R.cells ∧ slots ≤ R.slots := by exact ⟨Nat.le_of_ble_eq_true rfl, Nat.le_of_ble_eq_true rfl⟩) : a_W p l e R s m args below meth c Q RL cc nL g cells slots sz pc ls (.ref i :: st) h := a_callV (n := 0) (ci := 4) (C := RX4) (T := TX4) (N := 14) (As := []) hM (by intro w hw; simp only [List.mem_cons, List.not_mem_nil, or_false] at hw; rcases hw with rfl | rfl | rfl | rfl; exact (a_in4 51 rfl rfl); exact (a_in4 52 rfl rfl); exact (a_in4 53 rfl rfl); exact (a_in1 5 rfl rfl)) (a_in4 54 rfl rfl) ⟨rfl, by decide, by decide, by decide⟩ rfl rfl hR hcs he hcat hd hp (fun r h' hq => by obtain ⟨rfl, hq⟩ := hq; subst hq; exact kk)
theorem k_L_92 {i : Nat} {fs : List Value} {y0 y1 : Value} {v : Int32} {P : List va_E → Prop} (hM : a_CT l g yX4_set cX4_set 5 (some .int) (a_rm 1 22) (.ref i :: [y0, y1]) h sz none (fun r h' => r = some (.int v) ∧ P h')) (hR : 1 + 1 ≤ R.frames ∧ 8 + (5 + 11) + 22 ≤ R.locals) (he : h[i]? = some (.inr (4, fs))) (hcat : (st.map fun v => v.category).sum ≤ 8) (hd : decode cc pc = .ok (.invokevirtual 92, 3)) (hp : pc + 3 = pc') (kk : ∀ h', P h' → a_W p l e R s m args below meth c Q RL cc nL g cells slots none pc' ls (.int v :: st) h') (hcs : cells ≤ R.cells ∧ slots ≤ R.slots := by exact ⟨Nat.le_of_ble_eq_true rfl, Nat.le_of_ble_eq_true rfl⟩) : a_W p l e R s m args below meth c Q RL cc nL g cells slots sz pc ls (y1 :: y0 :: .ref i :: st) h := a_callV (n := 2) (ci := 4) (C := RX4) (T := TX4) (N := 14) (As := [y0, y1]) hM (by intro w hw; simp only [List.mem_cons, List.not_mem_nil, or_false] at hw; rcases hw with rfl | rfl | rfl | rfl; exact (a_in4 86 rfl rfl); exact (a_in4 87 rfl rfl); exact (a_in4 88 rfl rfl); exact (a_in1 5 rfl rfl)) (a_in4 89 rfl rfl) ⟨rfl, by decide, by decide, by decide⟩ rfl rfl hR hcs he hcat hd hp (fun r h' hq => by obtain ⟨rfl, hq⟩ := hq; exact kk h' hq)
theorem k_L_96 {i : Nat} {fs : List Value} {y0 y1 y2 : Value} {v : Int32} {P : List va_E → Prop} (hM : a_CT l g yX4_buy cX4_buy 7 (some .int) (a_rm 2 42) (.ref i :: [y0, y1, y2]) h sz none (fun r h' => r = some (.int v) ∧ P h')) (hR : 2 + 1 ≤ R.frames ∧ 8 + (7 + 11) + 42 ≤ R.locals) (he : h[i]? = some (.inr (4, fs))) (hcat : (st.map fun v => v.category).sum ≤ 8) (hd : decode cc pc = .ok (.invokevirtual 96, 3)) (hp : pc + 3 = pc') (kk : ∀ h', P h' → a_W p l e R s m args below meth c Q RL cc nL g cells slots none pc' ls (.int v :: st) h') (hcs : cells ≤ R.cells ∧ slots ≤ R.slots := by exact ⟨Nat.le_of_ble_eq_true rfl, Nat.le_of_ble_eq_true rfl⟩) : a_W p l e R s m args below meth c Q RL cc nL g cells slots sz pc ls (y2 :: y1 :: y0 :: .ref i :: st) h := a_callV (n := 3) (ci := 4) (C := RX4) (T := TX4) (N := 14) (As := [y0, y1, y2]) hM (by intro w hw; simp only [List.mem_cons, List.not_mem_nil, or_false] at hw; rcases hw with rfl | rfl | rfl | rfl; exact (a_in4 90 rfl rfl); exact (a_in4 91 rfl rfl); exact (a_in4 92 rfl rfl); exact (a_in1 5 rfl rfl)) (a_in4 93 rfl rfl) ⟨rfl, by decide, by decide, by decide⟩ rfl rfl hR hcs he hcat hd hp (fun r h' hq => by obtain ⟨rfl, hq⟩ := hq; exact kk h' hq)
theorem k_L_99 {i : Nat} {fs : List Value} {y0 y1 y2 : Value} {v : Int32} {P : List va_E → Prop} (hM : a_CT l g yX4_recut cX4_recut 4 (some .int) (a_rm 2 42) (.ref i :: [y0, y1, y2]) h sz none (fun r h' => r = some (.int v) ∧ P h')) (hR : 2 + 1 ≤ R.frames ∧ 8 + (4 + 11) + 42 ≤ R.locals) (he : h[i]? = some (.inr (4, fs))) (hcat : (st.map fun v => v.category).sum ≤ 8) (hd : decode cc pc = .ok (.invokevirtual 99, 3)) (hp : pc + 3 = pc') (kk : ∀ h', P h' → a_W p l e R s m args below meth c Q RL cc nL g cells slots none pc' ls (.int v :: st) h') (hcs : cells ≤ R.cells ∧ slots ≤ R.slots := by exact ⟨Nat.le_of_ble_eq_true rfl, Nat.le_of_ble_eq_true rfl⟩) : a_W p l e R s m args below meth c Q RL cc nL g cells slots sz pc ls (y2 :: y1 :: y0 :: .ref i :: st) h := a_callV (n := 3) (ci := 4) (C := RX4) (T := TX4) (N := 14) (As := [y0, y1, y2]) hM (by intro w hw; simp only [List.mem_cons, List.not_mem_nil, or_false] at hw; rcases hw with rfl | rfl | rfl | rfl; exact (a_in4 105 rfl rfl); exact (a_in4 106 rfl rfl); exact (a_in4 107 rfl rfl); exact (a_in1 5 rfl rfl)) (a_in4 108 rfl rfl) ⟨rfl, by decide, by decide, by decide⟩ rfl rfl hR hcs he hcat hd hp (fun r h' hq => by obtain ⟨rfl, hq⟩ := hq; exact kk h' hq)
theorem k_L_103 {i : Nat} {fs : List Value} {y0 : Value} {v : Int32} {P : List va_E → Prop} (hM : a_CT l g yX4_clearHeap cX4_clearHeap 4 (some .int) (a_rm 1 22) (.ref i :: [y0]) h sz none (fun r h' => r = some (.int v) ∧ P h')) (hR : 1 + 1 ≤ R.frames ∧ 8 + (4 + 11) + 22 ≤ R.locals) (he : h[i]? = some (.inr (4, fs))) (hcat : (st.map fun v => v.category).sum ≤ 8) (hd : decode cc pc = .ok (.invokevirtual 103, 3)) (hp : pc + 3 = pc') (kk : ∀ h', P h' → a_W p l e R s m args below meth c Q RL cc nL g cells slots none pc' ls (.int v :: st) h') (hcs : cells ≤ R.cells ∧ slots ≤ R.slots := by exact ⟨Nat.le_of_ble_eq_true rfl, Nat.le_of_ble_eq_true rfl⟩) : a_W p l e R s m args below meth c Q RL cc nL g cells slots sz pc ls (y0 :: .ref i :: st) h := a_callV (n := 1) (ci := 4) (C := RX4) (T := TX4) (N := 14) (As := [y0]) hM (by intro w hw; simp only [List.mem_cons, List.not_mem_nil, or_false] at hw; rcases hw with rfl | rfl | rfl | rfl; exact (a_in4 109 rfl rfl); exact (a_in4 110 rfl rfl); exact (a_in4 111 rfl rfl); exact (a_in1 5 rfl rfl)) (a_in4 112 rfl rfl) ⟨rfl, by decide, by decide, by decide⟩ rfl rfl hR hcs he hcat hd hp (fun r h' hq => by obtain ⟨rfl, hq⟩ := hq; exact kk h' hq)
theorem k_L_106 {i : Nat} {fs : List Value} {y0 : Value} {v : Int32} {P : List va_E → Prop} (hM : a_CT l g yX4_course cX4_course 3 (some .int) (a_rm 3 64) (.ref i :: [y0]) h sz none (fun r h' => r = some (.int v) ∧ P h')) (hR : 3 + 1 ≤ R.frames ∧ 8 + (3 + 11) + 64 ≤ R.locals) (he : h[i]? = some (.inr (4, fs))) (hcat : (st.map fun v => v.category).sum ≤ 8) (hd : decode cc pc = .ok (.invokevirtual 106, 3)) (hp : pc + 3 = pc') (kk : ∀ h', P h' → a_W p l e R s m args below meth c Q RL cc nL g cells slots none pc' ls (.int v :: st) h') (hcs : cells ≤ R.cells ∧ slots ≤ R.slots := by exact ⟨Nat.le_of_ble_eq_true rfl, Nat.le_of_ble_eq_true rfl⟩) : a_W p l e R s m args below meth c Q RL cc nL g cells slots sz pc ls (y0 :: .ref i :: st) h := a_callV (n := 1) (ci := 4) (C := RX4) (T := TX4) (N := 14) (As := [y0]) hM (by intro w hw; simp only [List.mem_cons, List.not_mem_nil, or_false] at hw; rcases hw with rfl | rfl | rfl | rfl; exact (a_in4 113 rfl rfl); exact (a_in4 114 rfl rfl); exact (a_in4 115 rfl rfl); exact (a_in1 5 rfl rfl)) (a_in4 116 rfl rfl) ⟨rfl, by decide, by decide, by decide⟩ rfl rfl hR hcs he hcat hd hp (fun r h' hq => by obtain ⟨rfl, hq⟩ := hq; exact kk h' hq)
theorem k_L_109 {i : Nat} {fs : List Value} {y0 : Value} {v : Int32} {P : List va_E → Prop} (hM : a_CT l g yX4_lay cX4_lay 4 (some .int) (a_rm 2 45) (.ref i :: [y0]) h sz none (fun r h' => r = some (.int v) ∧ P h')) (hR : 2 + 1 ≤ R.frames ∧ 8 + (4 + 11) + 45 ≤ R.locals) (he : h[i]? = some (.inr (4, fs))) (hcat : (st.map fun v => v.category).sum ≤ 8) (hd : decode cc pc = .ok (.invokevirtual 109, 3)) (hp : pc + 3 = pc') (kk : ∀ h', P h' → a_W p l e R s m args below meth c Q RL cc nL g cells slots none pc' ls (.int v :: st) h') (hcs : cells ≤ R.cells ∧ slots ≤ R.slots := by exact ⟨Nat.le_of_ble_eq_true rfl, Nat.le_of_ble_eq_true rfl⟩) : a_W p l e R s m args below meth c Q RL cc nL g cells slots sz pc ls (y0 :: .ref i :: st) h := a_callV (n := 1) (ci := 4) (C := RX4) (T := TX4) (N := 14) (As := [y0]) hM (by intro w hw; simp only [List.mem_cons, List.not_mem_nil, or_false] at hw; rcases hw with rfl | rfl | rfl | rfl; exact (a_in4 149 rfl rfl); exact (a_in4 150 rfl rfl); exact (a_in4 151 rfl rfl); exact (a_in1 5 rfl rfl)) (a_in4 152 rfl rfl) ⟨rfl, by decide, by decide, by decide⟩ rfl rfl hR hcs he hcat hd hp (fun r h' hq => by obtain ⟨rfl, hq⟩ := hq; exact kk h' hq)
theorem k_L_112 {i : Nat} {fs : List Value} {y0 y1 : Value} {v : Int32} {P : List va_E → Prop} (hM : a_CT l g yX4_mend cX4_mend 3 (some .int) (a_rm 2 44) (.ref i :: [y0, y1]) h sz none (fun r h' => r = some (.int v) ∧ P h')) (hR : 2 + 1 ≤ R.frames ∧ 8 + (3 + 11) + 44 ≤ R.locals) (he : h[i]? = some (.inr (4, fs))) (hcat : (st.map fun v => v.category).sum ≤ 8) (hd : decode cc pc = .ok (.invokevirtual 112, 3)) (hp : pc + 3 = pc') (kk : ∀ h', P h' → a_W p l e R s m args below meth c Q RL cc nL g cells slots none pc' ls (.int v :: st) h') (hcs : cells ≤ R.cells ∧ slots ≤ R.slots := by exact ⟨Nat.le_of_ble_eq_true rfl, Nat.le_of_ble_eq_true rfl⟩) : a_W p l e R s m args below meth c Q RL cc nL g cells slots sz pc ls (y1 :: y0 :: .ref i :: st) h := a_callV (n := 2) (ci := 4) (C := RX4) (T := TX4) (N := 14) (As := [y0, y1]) hM (by intro w hw; simp only [List.mem_cons, List.not_mem_nil, or_false] at hw; rcases hw with rfl | rfl | rfl | rfl; exact (a_in4 157 rfl rfl); exact (a_in4 158 rfl rfl); exact (a_in4 159 rfl rfl); exact (a_in1 5 rfl rfl)) (a_in4 160 rfl rfl) ⟨rfl, by decide, by decide, by decide⟩ rfl rfl hR hcs he hcat hd hp (fun r h' hq => by obtain ⟨rfl, hq⟩ := hq; exact kk h' hq)
theorem k_L_113 {i : Nat} {fs : List Value} {y0 : Value} {v : Int32} {P : List va_E → Prop} (hM : a_CT l g yX3_cover cX3_cover 3 (some .int) (a_rm 4 104) (.ref i :: [y0]) h sz none (fun r h' => r = some (.int v) ∧ P h')) (hR : 4 + 1 ≤ R.frames ∧ 8 + (3 + 11) + 104 ≤ R.locals) (he : h[i]? = some (.inr (3, fs))) (hcat : (st.map fun v => v.category).sum ≤ 8) (hd : decode cc pc = .ok (.invokevirtual 113, 3)) (hp : pc + 3 = pc') (kk : ∀ h', P h' → a_W p l e R s m args below meth c Q RL cc nL g cells slots none pc' ls (.int v :: st) h') (hcs : cells ≤ R.cells ∧ slots ≤ R.slots := by exact ⟨Nat.le_of_ble_eq_true rfl, Nat.le_of_ble_eq_true rfl⟩) : a_W p l e R s m args below meth c Q RL cc nL g cells slots sz pc ls (y0 :: .ref i :: st) h := a_callV (n := 1) (ci := 3) (C := RX3) (T := TX3) (N := 4) (As := [y0]) hM (by intro w hw; simp only [List.mem_cons, List.not_mem_nil, or_false] at hw; rcases hw with rfl | rfl | rfl | rfl; exact (a_in1 164 rfl rfl); exact (a_in1 165 rfl rfl); exact (a_in1 166 rfl rfl); exact (a_in1 1 rfl rfl)) (a_in1 167 rfl rfl) ⟨rfl, by decide, by decide, by decide⟩ rfl rfl hR hcs he hcat hd hp (fun r h' hq => by obtain ⟨rfl, hq⟩ := hq; exact kk h' hq)
theorem k_L_117 {i : Nat} {fs : List Value} {y0 : Value} {v : Int32} {P : List va_E → Prop} (hM : a_CT l g yX4_cover cX4_cover 3 (some .int) (a_rm 1 21) (.ref i :: [y0]) h sz none (fun r h' => r = some (.int v) ∧ P h')) (hR : 1 + 1 ≤ R.frames ∧ 8 + (3 + 11) + 21 ≤ R.locals) (he : h[i]? = some (.inr (4, fs))) (hcat : (st.map fun v => v.category).sum ≤ 8) (hd : decode cc pc = .ok (.invokevirtual 117, 3)) (hp : pc + 3 = pc') (kk : ∀ h', P h' → a_W p l e R s m args below meth c Q RL cc nL g cells slots none pc' ls (.int v :: st) h') (hcs : cells ≤ R.cells ∧ slots ≤ R.slots := by exact ⟨Nat.le_of_ble_eq_true rfl, Nat.le_of_ble_eq_true rfl⟩) : a_W p l e R s m args below meth c Q RL cc nL g cells slots sz pc ls (y0 :: .ref i :: st) h := a_callV (n := 1) (ci := 4) (C := RX4) (T := TX4) (N := 14) (As := [y0]) hM (by intro w hw; simp only [List.mem_cons, List.not_mem_nil, or_false] at hw; rcases hw with rfl | rfl | rfl | rfl; exact (a_in4 169 rfl rfl); exact (a_in4 170 rfl rfl); exact (a_in4 171 rfl rfl); exact (a_in1 5 rfl rfl)) (a_in4 172 rfl rfl) ⟨rfl, by decide, by decide, by decide⟩ rfl rfl hR hcs he hcat hd hp (fun r h' hq => by obtain ⟨rfl, hq⟩ := hq; exact kk h' hq)
theorem k_L_120 {i : Nat} {fs : List Value} {y0 : Value} {v : Int32} {P : List va_E → Prop} (hM : a_CT l g yX4_pass cX4_pass 2 (some .int) (a_rm 5 110) (.ref i :: [y0]) h sz none (fun r h' => r = some (.int v) ∧ P h')) (hR : 5 + 1 ≤ R.frames ∧ 8 + (2 + 11) + 110 ≤ R.locals) (he : h[i]? = some (.inr (4, fs))) (hcat : (st.map fun v => v.category).sum ≤ 8) (hd : decode cc pc = .ok (.invokevirtual 120, 3)) (hp : pc + 3 = pc') (kk : ∀ h', P h' → a_W p l e R s m args below meth c Q RL cc nL g cells slots none pc' ls (.int v :: st) h') (hcs : cells ≤ R.cells ∧ slots ≤ R.slots := by exact ⟨Nat.le_of_ble_eq_true rfl, Nat.le_of_ble_eq_true rfl⟩) : a_W p l e R s m args below meth c Q RL cc nL g cells slots sz pc ls (y0 :: .ref i :: st) h := a_callV (n := 1) (ci := 4) (C := RX4) (T := TX4) (N := 14) (As := [y0]) hM (by intro w hw; simp only [List.mem_cons, List.not_mem_nil, or_false] at hw; rcases hw with rfl | rfl | rfl | rfl; exact (a_in4 173 rfl rfl); exact (a_in4 174 rfl rfl); exact (a_in4 175 rfl rfl); exact (a_in1 5 rfl rfl)) (a_in4 176 rfl rfl) ⟨rfl, by decide, by decide, by decide⟩ rfl rfl hR hcs he hcat hd hp (fun r h' hq => by obtain ⟨rfl, hq⟩ := hq; exact kk h' hq)
theorem k_L_123 {i : Nat} {fs : List Value} {y0 : Value} {v : Int32} {P : List va_E → Prop} (hM : a_CT l g yX4_append cX4_append 2 (some .int) (a_rm 1 22) (.ref i :: [y0]) h sz none (fun r h' => r = some (.int v) ∧ P h')) (hR : 1 + 1 ≤ R.frames ∧ 8 + (2 + 11) + 22 ≤ R.locals) (he : h[i]? = some (.inr (4, fs))) (hcat : (st.map fun v => v.category).sum ≤ 8) (hd : decode cc pc = .ok (.invokevirtual 123, 3)) (hp : pc + 3 = pc') (kk : ∀ h', P h' → a_W p l e R s m args below meth c Q RL cc nL g cells slots none pc' ls (.int v :: st) h') (hcs : cells ≤ R.cells ∧ slots ≤ R.slots := by exact ⟨Nat.le_of_ble_eq_true rfl, Nat.le_of_ble_eq_true rfl⟩) : a_W p l e R s m args below meth c Q RL cc nL g cells slots sz pc ls (y0 :: .ref i :: st) h := a_callV (n := 1) (ci := 4) (C := RX4) (T := TX4) (N := 14) (As := [y0]) hM (by intro w hw; simp only [List.mem_cons, List.not_mem_nil, or_false] at hw; rcases hw with rfl | rfl | rfl | rfl; exact (a_in4 193 rfl rfl); exact (a_in4 194 rfl rfl); exact (a_in4 195 rfl rfl); exact (a_in1 5 rfl rfl)) (a_in4 196 rfl rfl) ⟨rfl, by decide, by decide, by decide⟩ rfl rfl hR hcs he hcat hd hp (fun r h' hq => by obtain ⟨rfl, hq⟩ := hq; exact kk h' hq)
theorem k_L_124 {i : Nat} {fs : List Value} {v : Int32} {P : List va_E → Prop} (hM : a_CT l g yX3_clearBuffer cX3_clearBuffer 2 (some .int) (a_rm 0 0) (.ref i :: []) h sz none (fun r h' => r = some (.int v) ∧ P h')) (hR : 0 + 1 ≤ R.frames ∧ 8 + (2 + 11) + 0 ≤ R.locals) (he : h[i]? = some (.inr (3, fs))) (hcat : (st.map fun v => v.category).sum ≤ 8) (hd : decode cc pc = .ok (.invokevirtual 124, 3)) (hp : pc + 3 = pc') (kk : ∀ h', P h' → a_W p l e R s m args below meth c Q RL cc nL g cells slots none pc' ls (.int v :: st) h') (hcs : cells ≤ R.cells ∧ slots ≤ R.slots := by exact ⟨Nat.le_of_ble_eq_true rfl, Nat.le_of_ble_eq_true rfl⟩) : a_W p l e R s m args below meth c Q RL cc nL g cells slots sz pc ls (.ref i :: st) h := a_callV (n := 0) (ci := 3) (C := RX3) (T := TX3) (N := 4) (As := []) hM (by intro w hw; simp only [List.mem_cons, List.not_mem_nil, or_false] at hw; rcases hw with rfl | rfl | rfl | rfl; exact (a_in1 189 rfl rfl); exact (a_in1 190 rfl rfl); exact (a_in1 191 rfl rfl); exact (a_in1 1 rfl rfl)) (a_in1 192 rfl rfl) ⟨rfl, by decide, by decide, by decide⟩ rfl rfl hR hcs he hcat hd hp (fun r h' hq => by obtain ⟨rfl, hq⟩ := hq; exact kk h' hq)
theorem k_L_127 {i : Nat} {fs : List Value} {v : Int32} {P : List va_E → Prop} (hM : a_CT l g yX4_clearBuffer cX4_clearBuffer 2 (some .int) (a_rm 0 0) (.ref i :: []) h sz none (fun r h' => r = some (.int v) ∧ P h')) (hR : 0 + 1 ≤ R.frames ∧ 8 + (2 + 11) + 0 ≤ R.locals) (he : h[i]? = some (.inr (4, fs))) (hcat : (st.map fun v => v.category).sum ≤ 8) (hd : decode cc pc = .ok (.invokevirtual 127, 3)) (hp : pc + 3 = pc') (kk : ∀ h', P h' → a_W p l e R s m args below meth c Q RL cc nL g cells slots none pc' ls (.int v :: st) h') (hcs : cells ≤ R.cells ∧ slots ≤ R.slots := by exact ⟨Nat.le_of_ble_eq_true rfl, Nat.le_of_ble_eq_true rfl⟩) : a_W p l e R s m args below meth c Q RL cc nL g cells slots sz pc ls (.ref i :: st) h := a_callV (n := 0) (ci := 4) (C := RX4) (T := TX4) (N := 14) (As := []) hM (by intro w hw; simp only [List.mem_cons, List.not_mem_nil, or_false] at hw; rcases hw with rfl | rfl | rfl | rfl; exact (a_in4 197 rfl rfl); exact (a_in4 198 rfl rfl); exact (a_in4 199 rfl rfl); exact (a_in1 5 rfl rfl)) (a_in4 200 rfl rfl) ⟨rfl, by decide, by decide, by decide⟩ rfl rfl hR hcs he hcat hd hp (fun r h' hq => by obtain ⟨rfl, hq⟩ := hq; exact kk h' hq)
theorem k_L_128 {i : Nat} {fs : List Value} {v : Int32} (hM : a_CT l g yX3_firstError cX3_firstError 1 (some .int) (a_rm 3 63) (.ref i :: []) h sz none (fun r h' => r = some (.int v) ∧ h' = h)) (hR : 3 + 1 ≤ R.frames ∧ 8 + (1 + 11) + 63 ≤ R.locals) (he : h[i]? = some (.inr (3, fs))) (hcat : (st.map fun v => v.category).sum ≤ 8) (hd : decode cc pc = .ok (.invokevirtual 128, 3)) (hp : pc + 3 = pc') (kk : a_W p l e R s m args below meth c Q RL cc nL g cells slots none pc' ls (.int v :: st) h) (hcs : cells ≤ R.cells ∧ slots ≤ R.slots := by exact ⟨Nat.le_of_ble_eq_true rfl, Nat.le_of_ble_eq_true rfl⟩) : a_W p l e R s m args below meth c Q RL cc nL g cells slots sz pc ls (.ref i :: st) h := a_callV (n := 0) (ci := 3) (C := RX3) (T := TX3) (N := 4) (As := []) hM (by intro w hw; simp only [List.mem_cons, List.not_mem_nil, or_false] at hw; rcases hw with rfl | rfl | rfl | rfl; exact (a_in1 193 rfl rfl); exact (a_in1 194 rfl rfl); exact (a_in1 195 rfl rfl); exact (a_in1 1 rfl rfl)) (a_in1 196 rfl rfl) ⟨rfl, by decide, by decide, by decide⟩ rfl rfl hR hcs he hcat hd hp (fun r h' hq => by obtain ⟨rfl, hq⟩ := hq; subst hq; exact kk)
theorem k_L_131 {i : Nat} {fs : List Value} {v : Int32} {P : List va_E → Prop} (hM : a_CT l g yX4_firstError cX4_firstError 1 (some .int) (a_rm 2 50) (.ref i :: []) h sz none (fun r h' => r = some (.int v) ∧ P h')) (hR : 2 + 1 ≤ R.frames ∧ 8 + (1 + 11) + 50 ≤ R.locals) (he : h[i]? = some (.inr (4, fs))) (hcat : (st.map fun v => v.category).sum ≤ 8) (hd : decode cc pc = .ok (.invokevirtual 131, 3)) (hp : pc + 3 = pc') (kk : ∀ h', P h' → a_W p l e R s m args below meth c Q RL cc nL g cells slots none pc' ls (.int v :: st) h') (hcs : cells ≤ R.cells ∧ slots ≤ R.slots := by exact ⟨Nat.le_of_ble_eq_true rfl, Nat.le_of_ble_eq_true rfl⟩) : a_W p l e R s m args below meth c Q RL cc nL g cells slots sz pc ls (.ref i :: st) h := a_callV (n := 0) (ci := 4) (C := RX4) (T := TX4) (N := 14) (As := []) hM (by intro w hw; simp only [List.mem_cons, List.not_mem_nil, or_false] at hw; rcases hw with rfl | rfl | rfl | rfl; exact (a_in4 201 rfl rfl); exact (a_in4 202 rfl rfl); exact (a_in4 203 rfl rfl); exact (a_in1 5 rfl rfl)) (a_in4 204 rfl rfl) ⟨rfl, by decide, by decide, by decide⟩ rfl rfl hR hcs he hcat hd hp (fun r h' hq => by obtain ⟨rfl, hq⟩ := hq; exact kk h' hq)
theorem k_L_135 {i : Nat} {fs : List Value} {v : Int32} {P : List va_E → Prop} (hM : a_CT l g yX4_work cX4_work 3 (some .int) (a_rm 6 133) (.ref i :: []) h sz none (fun r h' => r = some (.int v) ∧ P h')) (hR : 6 + 1 ≤ R.frames ∧ 8 + (3 + 11) + 133 ≤ R.locals) (he : h[i]? = some (.inr (4, fs))) (hcat : (st.map fun v => v.category).sum ≤ 8) (hd : decode cc pc = .ok (.invokevirtual 135, 3)) (hp : pc + 3 = pc') (kk : ∀ h', P h' → a_W p l e R s m args below meth c Q RL cc nL g cells slots none pc' ls (.int v :: st) h') (hcs : cells ≤ R.cells ∧ slots ≤ R.slots := by exact ⟨Nat.le_of_ble_eq_true rfl, Nat.le_of_ble_eq_true rfl⟩) : a_W p l e R s m args below meth c Q RL cc nL g cells slots sz pc ls (.ref i :: st) h := a_callV (n := 0) (ci := 4) (C := RX4) (T := TX4) (N := 14) (As := []) hM (by intro w hw; simp only [List.mem_cons, List.not_mem_nil, or_false] at hw; rcases hw with rfl | rfl | rfl | rfl; exact (a_in4 213 rfl rfl); exact (a_in4 214 rfl rfl); exact (a_in4 215 rfl rfl); exact (a_in1 5 rfl rfl)) (a_in4 216 rfl rfl) ⟨rfl, by decide, by decide, by decide⟩ rfl rfl hR hcs he hcat hd hp (fun r h' hq => by obtain ⟨rfl, hq⟩ := hq; exact kk h' hq)
theorem k_L_138 {i : Nat} {fs : List Value} {v : Int32} {P : List va_E → Prop} (hM : a_CT l g yX4_undo cX4_undo 2 (some .int) (a_rm 1 21) (.ref i :: []) h sz none (fun r h' => r = some (.int v) ∧ P h')) (hR : 1 + 1 ≤ R.frames ∧ 8 + (2 + 11) + 21 ≤ R.locals) (he : h[i]? = some (.inr (4, fs))) (hcat : (st.map fun v => v.category).sum ≤ 8) (hd : decode cc pc = .ok (.invokevirtual 138, 3)) (hp : pc + 3 = pc') (kk : ∀ h', P h' → a_W p l e R s m args below meth c Q RL cc nL g cells slots none pc' ls (.int v :: st) h') (hcs : cells ≤ R.cells ∧ slots ≤ R.slots := by exact ⟨Nat.le_of_ble_eq_true rfl, Nat.le_of_ble_eq_true rfl⟩) : a_W p l e R s m args below meth c Q RL cc nL g cells slots sz pc ls (.ref i :: st) h := a_callV (n := 0) (ci := 4) (C := RX4) (T := TX4) (N := 14) (As := []) hM (by intro w hw; simp only [List.mem_cons, List.not_mem_nil, or_false] at hw; rcases hw with rfl | rfl | rfl | rfl; exact (a_in4 233 rfl rfl); exact (a_in4 234 rfl rfl); exact (a_in4 235 rfl rfl); exact (a_in1 5 rfl rfl)) (a_in4 236 rfl rfl) ⟨rfl, by decide, by decide, by decide⟩ rfl rfl hR hcs he hcat hd hp (fun r h' hq => by obtain ⟨rfl, hq⟩ := hq; exact kk h' hq)
theorem k_L_141 {i : Nat} {fs : List Value} {y0 y1 : Value} {v : Int32} {P : List va_E → Prop} (hM : a_CT l g yX4_courseOf cX4_courseOf 3 (some .int) (a_rm 3 67) (.ref i :: [y0, y1]) h sz none (fun r h' => r = some (.int v) ∧ P h')) (hR : 3 + 1 ≤ R.frames ∧ 8 + (3 + 11) + 67 ≤ R.locals) (he : h[i]? = some (.inr (4, fs))) (hcat : (st.map fun v => v.category).sum ≤ 8) (hd : decode cc pc = .ok (.invokevirtual 141, 3)) (hp : pc + 3 = pc') (kk : ∀ h', P h' → a_W p l e R s m args below meth c Q RL cc nL g cells slots none pc' ls (.int v :: st) h') (hcs : cells ≤ R.cells ∧ slots ≤ R.slots := by exact ⟨Nat.le_of_ble_eq_true rfl, Nat.le_of_ble_eq_true rfl⟩) : a_W p l e R s m args below meth c Q RL cc nL g cells slots sz pc ls (y1 :: y0 :: .ref i :: st) h := a_callV (n := 2) (ci := 4) (C := RX4) (T := TX4) (N := 14) (As := [y0, y1]) hM (by intro w hw; simp only [List.mem_cons, List.not_mem_nil, or_false] at hw; rcases hw with rfl | rfl | rfl | rfl; exact (a_in4 237 rfl rfl); exact (a_in4 238 rfl rfl); exact (a_in4 239 rfl rfl); exact (a_in1 5 rfl rfl)) (a_in5 0 rfl rfl) ⟨rfl, by decide, by decide, by decide⟩ rfl rfl hR hcs he hcat hd hp (fun r h' hq => by obtain ⟨rfl, hq⟩ := hq; exact kk h' hq)
theorem k_L_144 {i : Nat} {fs : List Value} {y0 y1 : Value} {v : Int32} {P : List va_E → Prop} (hM : a_CT l g yX4_lies cX4_lies 3 (some .boolean) (a_rm 2 44) (.ref i :: [y0, y1]) h sz none (fun r h' => r = some (.int v) ∧ P h')) (hR : 2 + 1 ≤ R.frames ∧ 8 + (3 + 11) + 44 ≤ R.locals) (he : h[i]? = some (.inr (4, fs))) (hcat : (st.map fun v => v.category).sum ≤ 8) (hd : decode cc pc = .ok (.invokevirtual 144, 3)) (hp : pc + 3 = pc') (kk : ∀ h', P h' → a_W p l e R s m args below meth c Q RL cc nL g cells slots none pc' ls (.int v :: st) h') (hcs : cells ≤ R.cells ∧ slots ≤ R.slots := by exact ⟨Nat.le_of_ble_eq_true rfl, Nat.le_of_ble_eq_true rfl⟩) : a_W p l e R s m args below meth c Q RL cc nL g cells slots sz pc ls (y1 :: y0 :: .ref i :: st) h := a_callV (n := 2) (ci := 4) (C := RX4) (T := TX4) (N := 14) (As := [y0, y1]) hM (by intro w hw; simp only [List.mem_cons, List.not_mem_nil, or_false] at hw; rcases hw with rfl | rfl | rfl | rfl; exact (a_in5 9 rfl rfl); exact (a_in5 10 rfl rfl); exact (a_in5 11 rfl rfl); exact (a_in1 5 rfl rfl)) (a_in5 12 rfl rfl) ⟨rfl, by decide, by decide, by decide⟩ rfl rfl hR hcs he hcat hd hp (fun r h' hq => by obtain ⟨rfl, hq⟩ := hq; exact kk h' hq)
theorem k_L_147 {i : Nat} {fs : List Value} {y0 y1 : Value} {v : Int32} {P : List va_E → Prop} (hM : a_CT l g yX4_slates cX4_slates 3 (some .int) (a_rm 4 90) (.ref i :: [y0, y1]) h sz none (fun r h' => r = some (.int v) ∧ P h')) (hR : 4 + 1 ≤ R.frames ∧ 8 + (3 + 11) + 90 ≤ R.locals) (he : h[i]? = some (.inr (4, fs))) (hcat : (st.map fun v => v.category).sum ≤ 8) (hd : decode cc pc = .ok (.invokevirtual 147, 3)) (hp : pc + 3 = pc') (kk : ∀ h', P h' → a_W p l e R s m args below meth c Q RL cc nL g cells slots none pc' ls (.int v :: st) h') (hcs : cells ≤ R.cells ∧ slots ≤ R.slots := by exact ⟨Nat.le_of_ble_eq_true rfl, Nat.le_of_ble_eq_true rfl⟩) : a_W p l e R s m args below meth c Q RL cc nL g cells slots sz pc ls (y1 :: y0 :: .ref i :: st) h := a_callV (n := 2) (ci := 4) (C := RX4) (T := TX4) (N := 14) (As := [y0, y1]) hM (by intro w hw; simp only [List.mem_cons, List.not_mem_nil, or_false] at hw; rcases hw with rfl | rfl | rfl | rfl; exact (a_in5 13 rfl rfl); exact (a_in5 14 rfl rfl); exact (a_in5 15 rfl rfl); exact (a_in1 5 rfl rfl)) (a_in5 16 rfl rfl) ⟨rfl, by decide, by decide, by decide⟩ rfl rfl hR hcs he hcat hd hp (fun r h' hq => by obtain ⟨rfl, hq⟩ := hq; exact kk h' hq)
theorem k_L_150 {i : Nat} {fs : List Value} {y0 : Value} {v : Int32} {P : List va_E → Prop} (hM : a_CT l g yX4_count cX4_count 2 (some .int) (a_rm 5 108) (.ref i :: [y0]) h sz none (fun r h' => r = some (.int v) ∧ P h')) (hR : 5 + 1 ≤ R.frames ∧ 8 + (2 + 11) + 108 ≤ R.locals) (he : h[i]? = some (.inr (4, fs))) (hcat : (st.map fun v => v.category).sum ≤ 8) (hd : decode cc pc = .ok (.invokevirtual 150, 3)) (hp : pc + 3 = pc') (kk : ∀ h', P h' → a_W p l e R s m args below meth c Q RL cc nL g cells slots none pc' ls (.int v :: st) h') (hcs : cells ≤ R.cells ∧ slots ≤ R.slots := by exact ⟨Nat.le_of_ble_eq_true rfl, Nat.le_of_ble_eq_true rfl⟩) : a_W p l e R s m args below meth c Q RL cc nL g cells slots sz pc ls (y0 :: .ref i :: st) h := a_callV (n := 1) (ci := 4) (C := RX4) (T := TX4) (N := 14) (As := [y0]) hM (by intro w hw; simp only [List.mem_cons, List.not_mem_nil, or_false] at hw; rcases hw with rfl | rfl | rfl | rfl; exact (a_in5 25 rfl rfl); exact (a_in5 26 rfl rfl); exact (a_in5 27 rfl rfl); exact (a_in1 5 rfl rfl)) (a_in5 28 rfl rfl) ⟨rfl, by decide, by decide, by decide⟩ rfl rfl hR hcs he hcat hd hp (fun r h' hq => by obtain ⟨rfl, hq⟩ := hq; exact kk h' hq)
theorem k_L_153 {i : Nat} {fs : List Value} {y0 : Value} {v : Int32} {P : List va_E → Prop} (hM : a_CT l g yX4_setting cX4_setting 2 (some .int) (a_rm 1 22) (.ref i :: [y0]) h sz none (fun r h' => r = some (.int v) ∧ P h')) (hR : 1 + 1 ≤ R.frames ∧ 8 + (2 + 11) + 22 ≤ R.locals) (he : h[i]? = some (.inr (4, fs))) (hcat : (st.map fun v => v.category).sum ≤ 8) (hd : decode cc pc = .ok (.invokevirtual 153, 3)) (hp : pc + 3 = pc') (kk : ∀ h', P h' → a_W p l e R s m args below meth c Q RL cc nL g cells slots none pc' ls (.int v :: st) h') (hcs : cells ≤ R.cells ∧ slots ≤ R.slots := by exact ⟨Nat.le_of_ble_eq_true rfl, Nat.le_of_ble_eq_true rfl⟩) : a_W p l e R s m args below meth c Q RL cc nL g cells slots sz pc ls (y0 :: .ref i :: st) h := a_callV (n := 1) (ci := 4) (C := RX4) (T := TX4) (N := 14) (As := [y0]) hM (by intro w hw; simp only [List.mem_cons, List.not_mem_nil, or_false] at hw; rcases hw with rfl | rfl | rfl | rfl; exact (a_in5 33 rfl rfl); exact (a_in5 34 rfl rfl); exact (a_in5 35 rfl rfl); exact (a_in1 5 rfl rfl)) (a_in5 36 rfl rfl) ⟨rfl, by decide, by decide, by decide⟩ rfl rfl hR hcs he hcat hd hp (fun r h' hq => by obtain ⟨rfl, hq⟩ := hq; exact kk h' hq)
theorem k_L_156 {i : Nat} {fs : List Value} {y0 y1 : Value} {v : Int32} {P : List va_E → Prop} (hM : a_CT l g yX4_toTop cX4_toTop 3 (some .int) (a_rm 4 89) (.ref i :: [y0, y1]) h sz none (fun r h' => r = some (.int v) ∧ P h')) (hR : 4 + 1 ≤ R.frames ∧ 8 + (3 + 11) + 89 ≤ R.locals) (he : h[i]? = some (.inr (4, fs))) (hcat : (st.map fun v => v.category).sum ≤ 8) (hd : decode cc pc = .ok (.invokevirtual 156, 3)) (hp : pc + 3 = pc') (kk : ∀ h', P h' → a_W p l e R s m args below meth c Q RL cc nL g cells slots none pc' ls (.int v :: st) h') (hcs : cells ≤ R.cells ∧ slots ≤ R.slots := by exact ⟨Nat.le_of_ble_eq_true rfl, Nat.le_of_ble_eq_true rfl⟩) : a_W p l e R s m args below meth c Q RL cc nL g cells slots sz pc ls (y1 :: y0 :: .ref i :: st) h := a_callV (n := 2) (ci := 4) (C := RX4) (T := TX4) (N := 14) (As := [y0, y1]) hM (by intro w hw; simp only [List.mem_cons, List.not_mem_nil, or_false] at hw; rcases hw with rfl | rfl | rfl | rfl; exact (a_in5 37 rfl rfl); exact (a_in5 38 rfl rfl); exact (a_in5 39 rfl rfl); exact (a_in1 5 rfl rfl)) (a_in5 40 rfl rfl) ⟨rfl, by decide, by decide, by decide⟩ rfl rfl hR hcs he hcat hd hp (fun r h' hq => by obtain ⟨rfl, hq⟩ := hq; exact kk h' hq)
theorem k_L_159 {i : Nat} {fs : List Value} {y0 : Value} {v : Int32} {P : List va_E → Prop} (hM : a_CT l g yX4_reach cX4_reach 2 (some .int) (a_rm 4 87) (.ref i :: [y0]) h sz none (fun r h' => r = some (.int v) ∧ P h')) (hR : 4 + 1 ≤ R.frames ∧ 8 + (2 + 11) + 87 ≤ R.locals) (he : h[i]? = some (.inr (4, fs))) (hcat : (st.map fun v => v.category).sum ≤ 8) (hd : decode cc pc = .ok (.invokevirtual 159, 3)) (hp : pc + 3 = pc') (kk : ∀ h', P h' → a_W p l e R s m args below meth c Q RL cc nL g cells slots none pc' ls (.int v :: st) h') (hcs : cells ≤ R.cells ∧ slots ≤ R.slots := by exact ⟨Nat.le_of_ble_eq_true rfl, Nat.le_of_ble_eq_true rfl⟩) : a_W p l e R s m args below meth c Q RL cc nL g cells slots sz pc ls (y0 :: .ref i :: st) h := a_callV (n := 1) (ci := 4) (C := RX4) (T := TX4) (N := 14) (As := [y0]) hM (by intro w hw; simp only [List.mem_cons, List.not_mem_nil, or_false] at hw; rcases hw with rfl | rfl | rfl | rfl; exact (a_in5 45 rfl rfl); exact (a_in5 46 rfl rfl); exact (a_in5 47 rfl rfl); exact (a_in1 5 rfl rfl)) (a_in5 48 rfl rfl) ⟨rfl, by decide, by decide, by decide⟩ rfl rfl hR hcs he hcat hd hp (fun r h' hq => by obtain ⟨rfl, hq⟩ := hq; exact kk h' hq)
theorem k_L_160 {i : Nat} {fs : List Value} {v : Int32} {P : List va_E → Prop} (hM : a_CT l g yX3_dryDays cX3_dryDays 3 (some .int) (a_rm 5 111) (.ref i :: []) h sz none (fun r h' => r = some (.int v) ∧ P h')) (hR : 5 + 1 ≤ R.frames ∧ 8 + (3 + 11) + 111 ≤ R.locals) (he : h[i]? = some (.inr (3, fs))) (hcat : (st.map fun v => v.category).sum ≤ 8) (hd : decode cc pc = .ok (.invokevirtual 160, 3)) (hp : pc + 3 = pc') (kk : ∀ h', P h' → a_W p l e R s m args below meth c Q RL cc nL g cells slots none pc' ls (.int v :: st) h') (hcs : cells ≤ R.cells ∧ slots ≤ R.slots := by exact ⟨Nat.le_of_ble_eq_true rfl, Nat.le_of_ble_eq_true rfl⟩) : a_W p l e R s m args below meth c Q RL cc nL g cells slots sz pc ls (.ref i :: st) h := a_callV (n := 0) (ci := 3) (C := RX3) (T := TX3) (N := 4) (As := []) hM (by intro w hw; simp only [List.mem_cons, List.not_mem_nil, or_false] at hw; rcases hw with rfl | rfl | rfl | rfl; exact (a_in1 214 rfl rfl); exact (a_in1 215 rfl rfl); exact (a_in1 216 rfl rfl); exact (a_in1 1 rfl rfl)) (a_in1 217 rfl rfl) ⟨rfl, by decide, by decide, by decide⟩ rfl rfl hR hcs he hcat hd hp (fun r h' hq => by obtain ⟨rfl, hq⟩ := hq; exact kk h' hq)
theorem k_L_163 {i : Nat} {fs : List Value} {v : Int32} {P : List va_E → Prop} (hM : a_CT l g yX4_dryDays cX4_dryDays 1 (some .int) (a_rm 7 154) (.ref i :: []) h sz none (fun r h' => r = some (.int v) ∧ P h')) (hR : 7 + 1 ≤ R.frames ∧ 8 + (1 + 11) + 154 ≤ R.locals) (he : h[i]? = some (.inr (4, fs))) (hcat : (st.map fun v => v.category).sum ≤ 8) (hd : decode cc pc = .ok (.invokevirtual 163, 3)) (hp : pc + 3 = pc') (kk : ∀ h', P h' → a_W p l e R s m args below meth c Q RL cc nL g cells slots none pc' ls (.int v :: st) h') (hcs : cells ≤ R.cells ∧ slots ≤ R.slots := by exact ⟨Nat.le_of_ble_eq_true rfl, Nat.le_of_ble_eq_true rfl⟩) : a_W p l e R s m args below meth c Q RL cc nL g cells slots sz pc ls (.ref i :: st) h := a_callV (n := 0) (ci := 4) (C := RX4) (T := TX4) (N := 14) (As := []) hM (by intro w hw; simp only [List.mem_cons, List.not_mem_nil, or_false] at hw; rcases hw with rfl | rfl | rfl | rfl; exact (a_in5 61 rfl rfl); exact (a_in5 62 rfl rfl); exact (a_in5 63 rfl rfl); exact (a_in1 5 rfl rfl)) (a_in5 64 rfl rfl) ⟨rfl, by decide, by decide, by decide⟩ rfl rfl hR hcs he hcat hd hp (fun r h' hq => by obtain ⟨rfl, hq⟩ := hq; exact kk h' hq)
theorem k_L_164 {i : Nat} {fs : List Value} {v : Int32} (hM : a_CT l g yX3_bestLength cX3_bestLength 5 (some .int) (a_rm 3 67) (.ref i :: []) h sz none (fun r h' => r = some (.int v) ∧ h' = h)) (hR : 3 + 1 ≤ R.frames ∧ 8 + (5 + 11) + 67 ≤ R.locals) (he : h[i]? = some (.inr (3, fs))) (hcat : (st.map fun v => v.category).sum ≤ 8) (hd : decode cc pc = .ok (.invokevirtual 164, 3)) (hp : pc + 3 = pc') (kk : a_W p l e R s m args below meth c Q RL cc nL g cells slots none pc' ls (.int v :: st) h) (hcs : cells ≤ R.cells ∧ slots ≤ R.slots := by exact ⟨Nat.le_of_ble_eq_true rfl, Nat.le_of_ble_eq_true rfl⟩) : a_W p l e R s m args below meth c Q RL cc nL g cells slots sz pc ls (.ref i :: st) h := a_callV (n := 0) (ci := 3) (C := RX3) (T := TX3) (N := 4) (As := []) hM (by intro w hw; simp only [List.mem_cons, List.not_mem_nil, or_false] at hw; rcases hw with rfl | rfl | rfl | rfl; exact (a_in2 97 rfl rfl); exact (a_in2 98 rfl rfl); exact (a_in2 99 rfl rfl); exact (a_in1 1 rfl rfl)) (a_in2 100 rfl rfl) ⟨rfl, by decide, by decide, by decide⟩ rfl rfl hR hcs he hcat hd hp (fun r h' hq => by obtain ⟨rfl, hq⟩ := hq; subst hq; exact kk)
theorem k_L_167 {i : Nat} {fs : List Value} {v : Int32} {P : List va_E → Prop} (hM : a_CT l g yX4_bestLength cX4_bestLength 1 (some .int) (a_rm 5 113) (.ref i :: []) h sz none (fun r h' => r = some (.int v) ∧ P h')) (hR : 5 + 1 ≤ R.frames ∧ 8 + (1 + 11) + 113 ≤ R.locals) (he : h[i]? = some (.inr (4, fs))) (hcat : (st.map fun v => v.category).sum ≤ 8) (hd : decode cc pc = .ok (.invokevirtual 167, 3)) (hp : pc + 3 = pc') (kk : ∀ h', P h' → a_W p l e R s m args below meth c Q RL cc nL g cells slots none pc' ls (.int v :: st) h') (hcs : cells ≤ R.cells ∧ slots ≤ R.slots := by exact ⟨Nat.le_of_ble_eq_true rfl, Nat.le_of_ble_eq_true rfl⟩) : a_W p l e R s m args below meth c Q RL cc nL g cells slots sz pc ls (.ref i :: st) h := a_callV (n := 0) (ci := 4) (C := RX4) (T := TX4) (N := 14) (As := []) hM (by intro w hw; simp only [List.mem_cons, List.not_mem_nil, or_false] at hw; rcases hw with rfl | rfl | rfl | rfl; exact (a_in5 69 rfl rfl); exact (a_in5 70 rfl rfl); exact (a_in5 71 rfl rfl); exact (a_in1 5 rfl rfl)) (a_in5 72 rfl rfl) ⟨rfl, by decide, by decide, by decide⟩ rfl rfl hR hcs he hcat hd hp (fun r h' hq => by obtain ⟨rfl, hq⟩ := hq; exact kk h' hq)
theorem k_L_168 {i : Nat} {fs : List Value} {v : UInt64} (hM : a_CT l g yX3_meanPrice cX3_meanPrice 2 (some .double) (a_rm 3 64) (.ref i :: []) h sz none (fun r h' => r = some (.double v) ∧ h' = h)) (hR : 3 + 1 ≤ R.frames ∧ 8 + (2 + 11) + 64 ≤ R.locals) (he : h[i]? = some (.inr (3, fs))) (hcat : (st.map fun v => v.category).sum ≤ 8) (hd : decode cc pc = .ok (.invokevirtual 168, 3)) (hp : pc + 3 = pc') (kk : a_W p l e R s m args below meth c Q RL cc nL g cells slots none pc' ls (.double v :: st) h) (hcs : cells ≤ R.cells ∧ slots ≤ R.slots := by exact ⟨Nat.le_of_ble_eq_true rfl, Nat.le_of_ble_eq_true rfl⟩) : a_W p l e R s m args below meth c Q RL cc nL g cells slots sz pc ls (.ref i :: st) h := a_callV (n := 0) (ci := 3) (C := RX3) (T := TX3) (N := 4) (As := []) hM (by intro w hw; simp only [List.mem_cons, List.not_mem_nil, or_false] at hw; rcases hw with rfl | rfl | rfl | rfl; exact (a_in2 114 rfl rfl); exact (a_in2 115 rfl rfl); exact (a_in2 116 rfl rfl); exact (a_in1 1 rfl rfl)) (a_in2 117 rfl rfl) ⟨rfl, by decide, by decide, by decide⟩ rfl rfl hR hcs he hcat hd hp (fun r h' hq => by obtain ⟨rfl, hq⟩ := hq; subst hq; exact kk)
theorem k_L_172 {i : Nat} {fs : List Value} {v : UInt64} {P : List va_E → Prop} (hM : a_CT l g yX4_meanPrice cX4_meanPrice 1 (some .double) (a_rm 4 88) (.ref i :: []) h sz none (fun r h' => r = some (.double v) ∧ P h')) (hR : 4 + 1 ≤ R.frames ∧ 8 + (1 + 11) + 88 ≤ R.locals) (he : h[i]? = some (.inr (4, fs))) (hcat : (st.map fun v => v.category).sum ≤ 8) (hd : decode cc pc = .ok (.invokevirtual 172, 3)) (hp : pc + 3 = pc') (kk : ∀ h', P h' → a_W p l e R s m args below meth c Q RL cc nL g cells slots none pc' ls (.double v :: st) h') (hcs : cells ≤ R.cells ∧ slots ≤ R.slots := by exact ⟨Nat.le_of_ble_eq_true rfl, Nat.le_of_ble_eq_true rfl⟩) : a_W p l e R s m args below meth c Q RL cc nL g cells slots sz pc ls (.ref i :: st) h := a_callV (n := 0) (ci := 4) (C := RX4) (T := TX4) (N := 14) (As := []) hM (by intro w hw; simp only [List.mem_cons, List.not_mem_nil, or_false] at hw; rcases hw with rfl | rfl | rfl | rfl; exact (a_in5 77 rfl rfl); exact (a_in5 78 rfl rfl); exact (a_in5 79 rfl rfl); exact (a_in1 5 rfl rfl)) (a_in5 80 rfl rfl) ⟨rfl, by decide, by decide, by decide⟩ rfl rfl hR hcs he hcat hd hp (fun r h' hq => by obtain ⟨rfl, hq⟩ := hq; exact kk h' hq)
theorem k_L_173 {i : Nat} {fs : List Value} {v : Int64} {P : List va_E → Prop} (hM : a_CT l g yX3_digest cX3_digest 4 (some .long) (a_rm 8 133) (.ref i :: []) h sz none (fun r h' => r = some (.long v) ∧ P h')) (hR : 8 + 1 ≤ R.frames ∧ 8 + (4 + 11) + 133 ≤ R.locals) (he : h[i]? = some (.inr (3, fs))) (hcat : (st.map fun v => v.category).sum ≤ 8) (hd : decode cc pc = .ok (.invokevirtual 173, 3)) (hp : pc + 3 = pc') (kk : ∀ h', P h' → a_W p l e R s m args below meth c Q RL cc nL g cells slots none pc' ls (.long v :: st) h') (hcs : cells ≤ R.cells ∧ slots ≤ R.slots := by exact ⟨Nat.le_of_ble_eq_true rfl, Nat.le_of_ble_eq_true rfl⟩) : a_W p l e R s m args below meth c Q RL cc nL g cells slots sz pc ls (.ref i :: st) h := a_callV (n := 0) (ci := 3) (C := RX3) (T := TX3) (N := 4) (As := []) hM (by intro w hw; simp only [List.mem_cons, List.not_mem_nil, or_false] at hw; rcases hw with rfl | rfl | rfl | rfl; exact (a_in2 122 rfl rfl); exact (a_in2 123 rfl rfl); exact (a_in2 124 rfl rfl); exact (a_in1 1 rfl rfl)) (a_in2 125 rfl rfl) ⟨rfl, by decide, by decide, by decide⟩ rfl rfl hR hcs he hcat hd hp (fun r h' hq => by obtain ⟨rfl, hq⟩ := hq; exact kk h' hq)
theorem k_L_177 {i : Nat} {fs : List Value} {v : Int64} {P : List va_E → Prop} (hM : a_CT l g yX4_digest cX4_digest 3 (some .long) (a_rm 7 154) (.ref i :: []) h sz none (fun r h' => r = some (.long v) ∧ P h')) (hR : 7 + 1 ≤ R.frames ∧ 8 + (3 + 11) + 154 ≤ R.locals) (he : h[i]? = some (.inr (4, fs))) (hcat : (st.map fun v => v.category).sum ≤ 8) (hd : decode cc pc = .ok (.invokevirtual 177, 3)) (hp : pc + 3 = pc') (kk : ∀ h', P h' → a_W p l e R s m args below meth c Q RL cc nL g cells slots none pc' ls (.long v :: st) h') (hcs : cells ≤ R.cells ∧ slots ≤ R.slots := by exact ⟨Nat.le_of_ble_eq_true rfl, Nat.le_of_ble_eq_true rfl⟩) : a_W p l e R s m args below meth c Q RL cc nL g cells slots sz pc ls (.ref i :: st) h := a_callV (n := 0) (ci := 4) (C := RX4) (T := TX4) (N := 14) (As := []) hM (by intro w hw; simp only [List.mem_cons, List.not_mem_nil, or_false] at hw; rcases hw with rfl | rfl | rfl | rfl; exact (a_in5 85 rfl rfl); exact (a_in5 86 rfl rfl); exact (a_in5 87 rfl rfl); exact (a_in1 5 rfl rfl)) (a_in5 88 rfl rfl) ⟨rfl, by decide, by decide, by decide⟩ rfl rfl hR hcs he hcat hd hp (fun r h' hq => by obtain ⟨rfl, hq⟩ := hq; exact kk h' hq)
end AL9
theorem b_tout26_0 {x : Int32} (h0 : ¬ x = 0) (h1 : ¬ x = 1) (h2 : ¬ x = 2) (h3 : ¬ x = 3) (h4 : ¬ x = 4) (h5 : ¬ x = 5) (h6 : ¬ x = 6) (h7 : ¬ x = 7) (h8 : ¬ x = 8) (h9 : ¬ x = 9) (h10 : ¬ x = 10) (h11 : ¬ x = 11) (h12 : ¬ x = 12) (h13 : ¬ x = 13) (h14 : ¬ x = 14) (h15 : ¬ x = 15) (h16 : ¬ x = 16) (h17 : ¬ x = 17) (h18 : ¬ x = 18) (h19 : ¬ x = 19) (h20 : ¬ x = 20) (h21 : ¬ x = 21) (h22 : ¬ x = 22) (h23 : ¬ x = 23) (h24 : ¬ x = 24) (h25 : ¬ x = 25) : x.toInt < 0 ∨ 25 < x.toInt := by
  have i0 := b_ne (k := 0) h0
  have i1 := b_ne (k := 1) h1
  have i2 := b_ne (k := 2) h2
  have i3 := b_ne (k := 3) h3
  have i4 := b_ne (k := 4) h4
  have i5 := b_ne (k := 5) h5
  have i6 := b_ne (k := 6) h6
  have i7 := b_ne (k := 7) h7
  have i8 := b_ne (k := 8) h8
  have i9 := b_ne (k := 9) h9
  have i10 := b_ne (k := 10) h10
  have i11 := b_ne (k := 11) h11
  have i12 := b_ne (k := 12) h12
  have i13 := b_ne (k := 13) h13
  have i14 := b_ne (k := 14) h14
  have i15 := b_ne (k := 15) h15
  have i16 := b_ne (k := 16) h16
  have i17 := b_ne (k := 17) h17
  have i18 := b_ne (k := 18) h18
  have i19 := b_ne (k := 19) h19
  have i20 := b_ne (k := 20) h20
  have i21 := b_ne (k := 21) h21
  have i22 := b_ne (k := 22) h22
  have i23 := b_ne (k := 23) h23
  have i24 := b_ne (k := 24) h24
  have i25 := b_ne (k := 25) h25
  omega
set_option maxRecDepth 100000 in
def f_law_L (F L : Nat) (xs : Nat → Int32) : Nat → Int32 → d_C → d_M → Int64 → Option Int32
  | 0, _, _, _, _ => none
  | n + 1, i, q, M, v => (if ((Int32.ofNat L) - ((4 : Int32))) < i then some 1 else f_grd i L ((if ((xs i.toNatClampNeg) &&& ((31 : Int32))) = (0 : Int32) then f_grd (i + ((1 : Int32))) L (f_grd (i + ((2 : Int32))) L ((f_L_begin F q v (xs (i + ((1 : Int32))).toNatClampNeg) (xs (i + ((2 : Int32))).toNatClampNeg)).bind fun x4 => f_grd (i + ((1 : Int32))) L (f_grd (i + ((2 : Int32))) L ((f_X4_begin F M (xs (i + ((1 : Int32))).toNatClampNeg) (xs (i + ((2 : Int32))).toNatClampNeg)).bind fun x7 => f_let x7.2 fun M9 => (f_X4_thrown F M9).bind fun x11 => (if x11 = x4.1 then (if x4.1 = 0 then (if (lg_cmp x4.2.2 x7.1.toInt64) = 0 then f_law_L F L xs n (i + (4 : Int32)) x4.2.1 M9 x4.2.2 else some 0) else f_law_L F L xs n (i + (4 : Int32)) x4.2.1 M9 x4.2.2) else some 0))))) else (if ((xs i.toNatClampNeg) &&& ((31 : Int32))) = (1 : Int32) then f_grd (i + ((1 : Int32))) L (f_grd (i + ((2 : Int32))) L ((f_L_set F q v (xs (i + ((1 : Int32))).toNatClampNeg) (xs (i + ((2 : Int32))).toNatClampNeg)).bind fun x17 => f_grd (i + ((1 : Int32))) L (f_grd (i + ((2 : Int32))) L ((f_X4_set F M (xs (i + ((1 : Int32))).toNatClampNeg) (xs (i + ((2 : Int32))).toNatClampNeg)).bind fun x20 => f_let x20.2 fun M22 => (f_X4_thrown F M22).bind fun x24 => (if x24 = x17.1 then (if x17.1 = 0 then (if (lg_cmp x17.2.2 x20.1.toInt64) = 0 then f_law_L F L xs n (i + (4 : Int32)) x17.2.1 M22 x17.2.2 else some 0) else f_law_L F L xs n (i + (4 : Int32)) x17.2.1 M22 x17.2.2) else some 0))))) else (if ((xs i.toNatClampNeg) &&& ((31 : Int32))) = (2 : Int32) then f_grd (i + ((1 : Int32))) L (f_grd (i + ((2 : Int32))) L (f_grd (i + ((3 : Int32))) L ((f_L_buy F q v (xs (i + ((1 : Int32))).toNatClampNeg) (xs (i + ((2 : Int32))).toNatClampNeg) (xs (i + ((3 : Int32))).toNatClampNeg)).bind fun x30 => f_grd (i + ((1 : Int32))) L (f_grd (i + ((2 : Int32))) L (f_grd (i + ((3 : Int32))) L ((f_X4_buy F M (xs (i + ((1 : Int32))).toNatClampNeg) (xs (i + ((2 : Int32))).toNatClampNeg) (xs (i + ((3 : Int32))).toNatClampNeg)).bind fun x33 => f_let x33.2 fun M35 => (f_X4_thrown F M35).bind fun x37 => (if x37 = x30.1 then (if x30.1 = 0 then (if (lg_cmp x30.2.2 x33.1.toInt64) = 0 then f_law_L F L xs n (i + (4 : Int32)) x30.2.1 M35 x30.2.2 else some 0) else f_law_L F L xs n (i + (4 : Int32)) x30.2.1 M35 x30.2.2) else some 0))))))) else (if ((xs i.toNatClampNeg) &&& ((31 : Int32))) = (3 : Int32) then f_grd (i + ((1 : Int32))) L (f_grd (i + ((2 : Int32))) L (f_grd (i + ((3 : Int32))) L ((f_L_recut F q v (xs (i + ((1 : Int32))).toNatClampNeg) (xs (i + ((2 : Int32))).toNatClampNeg) (xs (i + ((3 : Int32))).toNatClampNeg)).bind fun x43 => f_grd (i + ((1 : Int32))) L (f_grd (i + ((2 : Int32))) L (f_grd (i + ((3 : Int32))) L ((f_X4_recut F M (xs (i + ((1 : Int32))).toNatClampNeg) (xs (i + ((2 : Int32))).toNatClampNeg) (xs (i + ((3 : Int32))).toNatClampNeg)).bind fun x46 => f_let x46.2 fun M48 => (f_X4_thrown F M48).bind fun x50 => (if x50 = x43.1 then (if x43.1 = 0 then (if (lg_cmp x43.2.2 x46.1.toInt64) = 0 then f_law_L F L xs n (i + (4 : Int32)) x43.2.1 M48 x43.2.2 else some 0) else f_law_L F L xs n (i + (4 : Int32)) x43.2.1 M48 x43.2.2) else some 0))))))) else (if ((xs i.toNatClampNeg) &&& ((31 : Int32))) = (4 : Int32) then f_grd (i + ((1 : Int32))) L ((f_L_clearHeap F q v (xs (i + ((1 : Int32))).toNatClampNeg)).bind fun x56 => f_grd (i + ((1 : Int32))) L ((f_X4_clearHeap F M (xs (i + ((1 : Int32))).toNatClampNeg)).bind fun x59 => f_let x59.2 fun M61 => (f_X4_thrown F M61).bind fun x63 => (if x63 = x56.1 then (if x56.1 = 0 then (if (lg_cmp x56.2.2 x59.1.toInt64) = 0 then f_law_L F L xs n (i + (4 : Int32)) x56.2.1 M61 x56.2.2 else some 0) else f_law_L F L xs n (i + (4 : Int32)) x56.2.1 M61 x56.2.2) else some 0))) else (if ((xs i.toNatClampNeg) &&& ((31 : Int32))) = (5 : Int32) then f_grd (i + ((1 : Int32))) L ((f_L_course F q v (xs (i + ((1 : Int32))).toNatClampNeg)).bind fun x69 => f_grd (i + ((1 : Int32))) L ((f_X4_course F M (xs (i + ((1 : Int32))).toNatClampNeg)).bind fun x72 => f_let x72.2 fun M74 => (f_X4_thrown F M74).bind fun x76 => (if x76 = x69.1 then (if x69.1 = 0 then (if (lg_cmp x69.2.2 x72.1.toInt64) = 0 then f_law_L F L xs n (i + (4 : Int32)) x69.2.1 M74 x69.2.2 else some 0) else f_law_L F L xs n (i + (4 : Int32)) x69.2.1 M74 x69.2.2) else some 0))) else (if ((xs i.toNatClampNeg) &&& ((31 : Int32))) = (6 : Int32) then f_grd (i + ((1 : Int32))) L ((f_L_lay F q v (xs (i + ((1 : Int32))).toNatClampNeg)).bind fun x82 => f_grd (i + ((1 : Int32))) L ((f_X4_lay F M (xs (i + ((1 : Int32))).toNatClampNeg)).bind fun x85 => f_let x85.2 fun M87 => (f_X4_thrown F M87).bind fun x89 => (if x89 = x82.1 then (if x82.1 = 0 then (if (lg_cmp x82.2.2 x85.1.toInt64) = 0 then f_law_L F L xs n (i + (4 : Int32)) x82.2.1 M87 x82.2.2 else some 0) else f_law_L F L xs n (i + (4 : Int32)) x82.2.1 M87 x82.2.2) else some 0))) else (if ((xs i.toNatClampNeg) &&& ((31 : Int32))) = (7 : Int32) then f_grd (i + ((1 : Int32))) L (f_grd (i + ((2 : Int32))) L ((f_L_mend F q v (xs (i + ((1 : Int32))).toNatClampNeg) (xs (i + ((2 : Int32))).toNatClampNeg)).bind fun x95 => f_grd (i + ((1 : Int32))) L (f_grd (i + ((2 : Int32))) L ((f_X4_mend F M (xs (i + ((1 : Int32))).toNatClampNeg) (xs (i + ((2 : Int32))).toNatClampNeg)).bind fun x98 => f_let x98.2 fun M100 => (f_X4_thrown F M100).bind fun x102 => (if x102 = x95.1 then (if x95.1 = 0 then (if (lg_cmp x95.2.2 x98.1.toInt64) = 0 then f_law_L F L xs n (i + (4 : Int32)) x95.2.1 M100 x95.2.2 else some 0) else f_law_L F L xs n (i + (4 : Int32)) x95.2.1 M100 x95.2.2) else some 0))))) else (if ((xs i.toNatClampNeg) &&& ((31 : Int32))) = (8 : Int32) then f_grd (i + ((1 : Int32))) L ((if (xs (i + ((1 : Int32))).toNatClampNeg) = 0 then (f_X3_cover F q ((0 : Int32))).bind fun x109 => f_let x109.2 fun q111 => f_grd (i + ((1 : Int32))) L ((if (xs (i + ((1 : Int32))).toNatClampNeg) = 0 then (f_X4_cover F M ((0 : Int32))).bind fun x114 => f_let x114.2 fun M116 => (if x109.1 = x114.1 then f_law_L F L xs n (i + (4 : Int32)) q111 M116 v else some 0) else (f_X4_cover F M ((1 : Int32))).bind fun x119 => f_let x119.2 fun M121 => (if x109.1 = x119.1 then f_law_L F L xs n (i + (4 : Int32)) q111 M121 v else some 0))) else (f_X3_cover F q ((1 : Int32))).bind fun x124 => f_let x124.2 fun q126 => f_grd (i + ((1 : Int32))) L ((if (xs (i + ((1 : Int32))).toNatClampNeg) = 0 then (f_X4_cover F M ((0 : Int32))).bind fun x129 => f_let x129.2 fun M131 => (if x124.1 = x129.1 then f_law_L F L xs n (i + (4 : Int32)) q126 M131 v else some 0) else (f_X4_cover F M ((1 : Int32))).bind fun x134 => f_let x134.2 fun M136 => (if x124.1 = x134.1 then f_law_L F L xs n (i + (4 : Int32)) q126 M136 v else some 0))))) else (if ((xs i.toNatClampNeg) &&& ((31 : Int32))) = (9 : Int32) then f_grd (i + ((1 : Int32))) L ((f_L_pass F q v (xs (i + ((1 : Int32))).toNatClampNeg)).bind fun x140 => f_grd (i + ((1 : Int32))) L ((f_X4_pass F M (xs (i + ((1 : Int32))).toNatClampNeg)).bind fun x143 => f_let x143.2 fun M145 => (f_X4_thrown F M145).bind fun x147 => (if x147 = x140.1 then (if x140.1 = 0 then (if (lg_cmp x140.2.2 x143.1.toInt64) = 0 then f_law_L F L xs n (i + (4 : Int32)) x140.2.1 M145 x140.2.2 else some 0) else f_law_L F L xs n (i + (4 : Int32)) x140.2.1 M145 x140.2.2) else some 0))) else (if ((xs i.toNatClampNeg) &&& ((31 : Int32))) = (10 : Int32) then f_grd (i + ((1 : Int32))) L ((f_L_append F q v (xs (i + ((1 : Int32))).toNatClampNeg)).bind fun x153 => f_grd (i + ((1 : Int32))) L ((f_X4_append F M (xs (i + ((1 : Int32))).toNatClampNeg)).bind fun x156 => f_let x156.2 fun M158 => (f_X4_thrown F M158).bind fun x160 => (if x160 = x153.1 then (if x153.1 = 0 then (if (lg_cmp x153.2.2 x156.1.toInt64) = 0 then f_law_L F L xs n (i + (4 : Int32)) x153.2.1 M158 x153.2.2 else some 0) else f_law_L F L xs n (i + (4 : Int32)) x153.2.1 M158 x153.2.2) else some 0))) else (if ((xs i.toNatClampNeg) &&& ((31 : Int32))) = (11 : Int32) then (f_X3_clearBuffer F q).bind fun x166 => f_let x166.2 fun q168 => (f_X4_clearBuffer F M).bind fun x170 => f_let x170.2 fun M172 => (if x166.1 = x170.1 then f_law_L F L xs n (i + (4 : Int32)) q168 M172 v else some 0) else (if ((xs i.toNatClampNeg) &&& ((31 : Int32))) = (12 : Int32) then (f_X3_firstError F q).bind fun x176 => (f_X4_firstError F M).bind fun x178 => f_let x178.2 fun M180 => (if x176 = x178.1 then f_law_L F L xs n (i + (4 : Int32)) q M180 v else some 0) else (if ((xs i.toNatClampNeg) &&& ((31 : Int32))) = (13 : Int32) then (f_L_work F q v ).bind fun x184 => (f_X4_work F M).bind fun x187 => f_let x187.2 fun M189 => (f_X4_thrown F M189).bind fun x191 => (if x191 = x184.1 then (if x184.1 = 0 then (if (lg_cmp x184.2.2 x187.1.toInt64) = 0 then f_law_L F L xs n (i + (4 : Int32)) x184.2.1 M189 x184.2.2 else some 0) else f_law_L F L xs n (i + (4 : Int32)) x184.2.1 M189 x184.2.2) else some 0) else (if ((xs i.toNatClampNeg) &&& ((31 : Int32))) = (14 : Int32) then (f_L_undo F q v ).bind fun x197 => (f_X4_undo F M).bind fun x200 => f_let x200.2 fun M202 => (f_X4_thrown F M202).bind fun x204 => (if x204 = x197.1 then (if x197.1 = 0 then (if (lg_cmp x197.2.2 x200.1.toInt64) = 0 then f_law_L F L xs n (i + (4 : Int32)) x197.2.1 M202 x197.2.2 else some 0) else f_law_L F L xs n (i + (4 : Int32)) x197.2.1 M202 x197.2.2) else some 0) else (if ((xs i.toNatClampNeg) &&& ((31 : Int32))) = (15 : Int32) then f_grd (i + ((1 : Int32))) L (f_grd (i + ((2 : Int32))) L ((f_L_courseOf F q v (xs (i + ((1 : Int32))).toNatClampNeg) (xs (i + ((2 : Int32))).toNatClampNeg)).bind fun x210 => f_grd (i + ((1 : Int32))) L (f_grd (i + ((2 : Int32))) L ((f_X4_courseOf F M (xs (i + ((1 : Int32))).toNatClampNeg) (xs (i + ((2 : Int32))).toNatClampNeg)).bind fun x213 => f_let x213.2 fun M215 => (f_X4_thrown F M215).bind fun x217 => (if x217 = x210.1 then (if x210.1 = 0 then (if (lg_cmp x210.2.2 x213.1.toInt64) = 0 then f_law_L F L xs n (i + (4 : Int32)) x210.2.1 M215 x210.2.2 else some 0) else f_law_L F L xs n (i + (4 : Int32)) x210.2.1 M215 x210.2.2) else some 0))))) else (if ((xs i.toNatClampNeg) &&& ((31 : Int32))) = (16 : Int32) then f_grd (i + ((1 : Int32))) L (f_grd (i + ((2 : Int32))) L ((f_L_lies F q v (xs (i + ((1 : Int32))).toNatClampNeg) (xs (i + ((2 : Int32))).toNatClampNeg)).bind fun x223 => f_grd (i + ((1 : Int32))) L (f_grd (i + ((2 : Int32))) L ((f_X4_lies F M (xs (i + ((1 : Int32))).toNatClampNeg) (xs (i + ((2 : Int32))).toNatClampNeg)).bind fun x226 => f_let x226.2 fun M228 => (f_X4_thrown F M228).bind fun x230 => (if x230 = x223.1 then (if x223.1 = 0 then (if x226.1 = 0 then (if (lg_cmp x223.2.2 ((0 : Int64))) = 0 then f_law_L F L xs n (i + (4 : Int32)) x223.2.1 M228 x223.2.2 else some 0) else (if (lg_cmp x223.2.2 ((1 : Int64))) = 0 then f_law_L F L xs n (i + (4 : Int32)) x223.2.1 M228 x223.2.2 else some 0)) else f_law_L F L xs n (i + (4 : Int32)) x223.2.1 M228 x223.2.2) else some 0))))) else (if ((xs i.toNatClampNeg) &&& ((31 : Int32))) = (17 : Int32) then f_grd (i + ((1 : Int32))) L (f_grd (i + ((2 : Int32))) L ((f_L_slates F q v (xs (i + ((1 : Int32))).toNatClampNeg) (xs (i + ((2 : Int32))).toNatClampNeg)).bind fun x238 => f_grd (i + ((1 : Int32))) L (f_grd (i + ((2 : Int32))) L ((f_X4_slates F M (xs (i + ((1 : Int32))).toNatClampNeg) (xs (i + ((2 : Int32))).toNatClampNeg)).bind fun x241 => f_let x241.2 fun M243 => (f_X4_thrown F M243).bind fun x245 => (if x245 = x238.1 then (if x238.1 = 0 then (if (lg_cmp x238.2.2 x241.1.toInt64) = 0 then f_law_L F L xs n (i + (4 : Int32)) x238.2.1 M243 x238.2.2 else some 0) else f_law_L F L xs n (i + (4 : Int32)) x238.2.1 M243 x238.2.2) else some 0))))) else (if ((xs i.toNatClampNeg) &&& ((31 : Int32))) = (18 : Int32) then f_grd (i + ((1 : Int32))) L ((f_L_count F q v (xs (i + ((1 : Int32))).toNatClampNeg)).bind fun x251 => f_grd (i + ((1 : Int32))) L ((f_X4_count F M (xs (i + ((1 : Int32))).toNatClampNeg)).bind fun x254 => f_let x254.2 fun M256 => (f_X4_thrown F M256).bind fun x258 => (if x258 = x251.1 then (if x251.1 = 0 then (if (lg_cmp x251.2.2 x254.1.toInt64) = 0 then f_law_L F L xs n (i + (4 : Int32)) x251.2.1 M256 x251.2.2 else some 0) else f_law_L F L xs n (i + (4 : Int32)) x251.2.1 M256 x251.2.2) else some 0))) else (if ((xs i.toNatClampNeg) &&& ((31 : Int32))) = (19 : Int32) then f_grd (i + ((1 : Int32))) L ((f_L_setting F q v (xs (i + ((1 : Int32))).toNatClampNeg)).bind fun x264 => f_grd (i + ((1 : Int32))) L ((f_X4_setting F M (xs (i + ((1 : Int32))).toNatClampNeg)).bind fun x267 => f_let x267.2 fun M269 => (f_X4_thrown F M269).bind fun x271 => (if x271 = x264.1 then (if x264.1 = 0 then (if (lg_cmp x264.2.2 x267.1.toInt64) = 0 then f_law_L F L xs n (i + (4 : Int32)) x264.2.1 M269 x264.2.2 else some 0) else f_law_L F L xs n (i + (4 : Int32)) x264.2.1 M269 x264.2.2) else some 0))) else (if ((xs i.toNatClampNeg) &&& ((31 : Int32))) = (20 : Int32) then f_grd (i + ((1 : Int32))) L (f_grd (i + ((2 : Int32))) L ((f_L_toTop F q v (xs (i + ((1 : Int32))).toNatClampNeg) (xs (i + ((2 : Int32))).toNatClampNeg)).bind fun x277 => f_grd (i + ((1 : Int32))) L (f_grd (i + ((2 : Int32))) L ((f_X4_toTop F M (xs (i + ((1 : Int32))).toNatClampNeg) (xs (i + ((2 : Int32))).toNatClampNeg)).bind fun x280 => f_let x280.2 fun M282 => (f_X4_thrown F M282).bind fun x284 => (if x284 = x277.1 then (if x277.1 = 0 then (if (lg_cmp x277.2.2 x280.1.toInt64) = 0 then f_law_L F L xs n (i + (4 : Int32)) x277.2.1 M282 x277.2.2 else some 0) else f_law_L F L xs n (i + (4 : Int32)) x277.2.1 M282 x277.2.2) else some 0))))) else (if ((xs i.toNatClampNeg) &&& ((31 : Int32))) = (21 : Int32) then f_grd (i + ((1 : Int32))) L ((f_L_reach F q v (xs (i + ((1 : Int32))).toNatClampNeg)).bind fun x290 => f_grd (i + ((1 : Int32))) L ((f_X4_reach F M (xs (i + ((1 : Int32))).toNatClampNeg)).bind fun x293 => f_let x293.2 fun M295 => (f_X4_thrown F M295).bind fun x297 => (if x297 = x290.1 then (if x290.1 = 0 then (if (lg_cmp x290.2.2 x293.1.toInt64) = 0 then f_law_L F L xs n (i + (4 : Int32)) x290.2.1 M295 x290.2.2 else some 0) else f_law_L F L xs n (i + (4 : Int32)) x290.2.1 M295 x290.2.2) else some 0))) else (if ((xs i.toNatClampNeg) &&& ((31 : Int32))) = (22 : Int32) then (f_X3_dryDays F q).bind fun x303 => f_let x303.2 fun q305 => (f_X4_dryDays F M).bind fun x307 => f_let x307.2 fun M309 => (if x303.1 = x307.1 then f_law_L F L xs n (i + (4 : Int32)) q305 M309 v else some 0) else (if ((xs i.toNatClampNeg) &&& ((31 : Int32))) = (23 : Int32) then (f_X3_bestLength F q).bind fun x313 => (f_X4_bestLength F M).bind fun x315 => f_let x315.2 fun M317 => (if x313 = x315.1 then f_law_L F L xs n (i + (4 : Int32)) q M317 v else some 0) else (if ((xs i.toNatClampNeg) &&& ((31 : Int32))) = (24 : Int32) then (f_X3_meanPrice F q).bind fun x321 => (f_X4_meanPrice F M).bind fun x323 => f_let x323.2 fun M325 => (if (Op.cmpValue (FP.dcmp x321 x323.1) .l) = 0 then f_law_L F L xs n (i + (4 : Int32)) q M325 v else (if (Op.cmpValue (FP.dcmp x321 x321) .l) = 0 then some 0 else (if (Op.cmpValue (FP.dcmp x323.1 x323.1) .l) = 0 then some 0 else f_law_L F L xs n (i + (4 : Int32)) q M325 v))) else (if ((xs i.toNatClampNeg) &&& ((31 : Int32))) = (25 : Int32) then (f_X3_digest F q).bind fun x331 => f_let x331.2 fun q333 => (f_X4_digest F M).bind fun x335 => f_let x335.2 fun M337 => (if (lg_cmp x331.1 x335.1) = 0 then f_law_L F L xs n (i + (4 : Int32)) q333 M337 v else some 0) else (f_law_L F L xs n (i + (4 : Int32)) q M v)))))))))))))))))))))))))))))
set_option maxHeartbeats 4000000 in
set_option maxRecDepth 100000 in
theorem l_law {p : Program} {l : Launch} {e : Env} {s : State} {m : MethodId} {below : List Frame} {meth : Method} {c : Code} {g : a_G} (hflags : l.stackTraces = false) (F : Nat) {b L : Nat} {xs : Nat → Int32} (hr : meth.sig.returnType = ret) (hB : s.heap.size ≤ a_B g) (hsc : a_SC g s b L xs) : ∀ (n : Nat) (i : Int32) (q : d_C) (M : d_M) (v : Int64) (cells slots : Nat), f_law_L F L xs n i q M v = some 1 → cells + n ≤ 800 → slots + 6 * n ≤ 10000 → ∀ h1, d_all h1 q M v → a_W p l e room_1 s m #[Value.ref b] below meth c (lw_Z below #[Value.ref b] s) RL code 9 g cells slots none 23 [(0, .ref 1002), (1, .ref 0), (2, .ref 55), (3, .ref 61), (4, .int i)] [] h1 := by
  intro n
  induction n with
  | zero => intro i q M v cells slots hf; exact nomatch (show (none : Option Int32) = some 1 from hf)
  | succ n ih =>
    intro i q M v cells slots hf hc hs h1 hz
    rw [f_law_L] at hf
    refine a_iload (pc' := 25) 4 dL_law_23 rfl rfl ?_
    refine a_aload_n (pc' := 26) 0 dL_law_25 rfl rfl rfl ?_
    refine b_slen (pc' := 27) hsc dL_law_26 rfl ?_
    refine a_iconst (pc' := 28) (v := (4 : Int32)) dL_law_27 rfl (by decide) ?_
    refine a_isub (pc' := 29) dL_law_28 rfl ?_
    refine a_icmp_gt (pc' := 32) 1489 dL_law_29 (by decide) rfl (fun k1 => ?_) (fun k1 => ?_)
    · replace hf := (if_pos k1).symm.trans hf
      refine a_iconst (pc' := 1490) (v := (1 : Int32)) dL_law_1489 rfl (by decide) ?_
      exact a_lawret hr hB (by omega) (by omega) dL_law_1490
    · replace hf := (if_neg k1).symm.trans hf
      refine a_aload_n (pc' := 33) 0 dL_law_32 rfl rfl rfl ?_
      refine a_iload (pc' := 35) 4 dL_law_33 rfl rfl ?_
      obtain ⟨hg, hf⟩ := f_grd_x hf
      refine b_sld (pc' := 36) hsc hg dL_law_35 rfl ?_
      refine a_bipush (pc' := 38) (v := (31 : Int32)) dL_law_36 rfl (by decide) ?_
      refine a_iand (pc' := 39) dL_law_38 rfl ?_
      by_cases k2 : ((xs i.toNatClampNeg) &&& ((31 : Int32))) = (0 : Int32)
      · replace hf := (if_pos k2).symm.trans hf
        refine b_top k2 ?_
        refine a_tableIn (off := 117) 156 dL_law_39 (by decide) (by decide) rfl (by decide) ?_
        refine a_aload_n (pc' := 157) 1 dL_law_156 rfl rfl rfl ?_
        refine a_aload_n (pc' := 158) 0 dL_law_157 rfl rfl rfl ?_
        refine a_iload (pc' := 160) 4 dL_law_158 rfl rfl ?_
        refine a_iconst (pc' := 161) (v := (1 : Int32)) dL_law_160 rfl (by decide) ?_
        refine a_iadd (pc' := 162) dL_law_161 rfl ?_
        obtain ⟨hg, hf⟩ := f_grd_x hf
        refine b_sld (pc' := 163) hsc hg dL_law_162 rfl ?_
        refine a_aload_n (pc' := 164) 0 dL_law_163 rfl rfl rfl ?_
        refine a_iload (pc' := 166) 4 dL_law_164 rfl rfl ?_
        refine a_iconst (pc' := 167) (v := (2 : Int32)) dL_law_166 rfl (by decide) ?_
        refine a_iadd (pc' := 168) dL_law_167 rfl ?_
        obtain ⟨hg, hf⟩ := f_grd_x hf
        refine b_sld (pc' := 169) hsc hg dL_law_168 rfl ?_
        refine a_aload_n (pc' := 170) 3 dL_law_169 rfl rfl rfl ?_
        obtain ⟨x4, e3, hf⟩ := Option.bind_eq_some_iff.mp hf
        refine a_callSW (pc' := 173) (n := 4) (As := [.ref 0, .int (xs (i + ((1 : Int32))).toNatClampNeg), .int (xs (i + ((2 : Int32))).toNatClampNeg), .ref 61]) (c_L_begin l g F hflags hz e3) (by intro w hw; simp only [List.mem_cons, List.not_mem_nil, or_false] at hw; rcases hw with rfl | rfl | rfl; exact (a_in3 55 rfl rfl); exact (a_in3 56 rfl rfl); exact (a_in1 0 rfl rfl)) (a_in3 57 rfl rfl) ⟨by decide, by decide, by decide⟩ rfl ⟨Nat.le_of_ble_eq_true rfl, Nat.le_of_ble_eq_true rfl⟩ ⟨by show cells + 1 ≤ 601024; omega, by show slots + 6 ≤ 7293034; omega⟩ (Nat.le_of_ble_eq_true rfl) dL_law_170 rfl (fun r9 h5 hq => ?_)
        obtain ⟨rfl, hz⟩ := hq
        refine a_istore (pc' := 175) (ls' := [(5, .int x4.1), (0, .ref 1002), (1, .ref 0), (2, .ref 55), (3, .ref 61), (4, .int i)]) dL_law_173 (by decide) rfl rfl ?_
        refine a_aload_n (pc' := 176) 3 dL_law_175 rfl rfl rfl ?_
        refine a_aload_n (pc' := 177) 1 dL_law_176 rfl rfl rfl ?_
        refine a_iload (pc' := 179) 5 dL_law_177 rfl rfl ?_
        refine a_iconst (pc' := 180) (v := (1 : Int32)) dL_law_179 rfl (by decide) ?_
        refine a_iadd (pc' := 181) dL_law_180 rfl ?_
        obtain ⟨hg, hf⟩ := f_grd_x hf
        refine b_sld (pc' := 182) hsc hg dL_law_181 rfl ?_
        refine a_aload_n (pc' := 183) 1 dL_law_182 rfl rfl rfl ?_
        refine a_iload (pc' := 185) 5 dL_law_183 rfl rfl ?_
        refine a_iconst (pc' := 186) (v := (2 : Int32)) dL_law_185 rfl (by decide) ?_
        refine a_iadd (pc' := 187) dL_law_186 rfl ?_
        obtain ⟨hg, hf⟩ := f_grd_x hf
        refine b_sld (pc' := 188) hsc hg dL_law_187 rfl ?_
        obtain ⟨x7, e6, hf⟩ := Option.bind_eq_some_iff.mp hf
        refine k_L_86 (hcs := ⟨by first | (show cells ≤ 601024; omega) | (show cells + 1 ≤ 601024; omega), by first | (show slots ≤ 7293034; omega) | (show slots + 6 ≤ 7293034; omega)⟩) (pc' := 191) (c_X4_begin l g F hz.2.1 e6) ⟨Nat.le_of_ble_eq_true rfl, Nat.le_of_ble_eq_true rfl⟩ hz.2.1.1 (Nat.le_of_ble_eq_true rfl) dL_law_188 rfl (fun h8 hq => ?_)
        obtain ⟨hz1, hfr1⟩ := hq
        have hz2 := d_all_m hz hz1 hfr1
        obtain ⟨M9, hf, hz⟩ := f_let_x (P := fun w => d_all h8 x4.2.1 w x4.2.2) hf hz2
        refine a_istore (pc' := 193) (ls' := [(6, .int x7.1), (5, .int x4.1), (0, .ref 1002), (1, .ref 0), (2, .ref 55), (3, .ref 61), (4, .int i)]) dL_law_191 (by decide) rfl rfl ?_
        refine a_aload_n (pc' := 194) 4 dL_law_193 rfl rfl rfl ?_
        obtain ⟨x11, e10, hf⟩ := Option.bind_eq_some_iff.mp hf
        refine k_L_87 (hcs := ⟨by first | (show cells ≤ 601024; omega) | (show cells + 1 ≤ 601024; omega), by first | (show slots ≤ 7293034; omega) | (show slots + 6 ≤ 7293034; omega)⟩) (pc' := 197) (c_X4_thrown l g F hz.2.1 e10) ⟨Nat.le_of_ble_eq_true rfl, Nat.le_of_ble_eq_true rfl⟩ hz.2.1.1 (Nat.le_of_ble_eq_true rfl) dL_law_194 rfl ?_
        refine a_iload (pc' := 199) 1 dL_law_197 rfl rfl ?_
        refine a_icmp_eq (pc' := 202) 204 dL_law_199 (by decide) rfl (fun k12 => ?_) (fun k12 => ?_)
        · replace hf := (if_pos k12).symm.trans hf
          refine a_iload (pc' := 206) 1 dL_law_204 rfl rfl ?_
          refine a_if_ne (pc' := 209) 221 dL_law_206 (by decide) rfl (fun k13 => ?_) (fun k13 => ?_)
          · replace hf := (if_neg k13).symm.trans hf
            refine a_goto 1483 dL_law_221 (by decide) ?_
            refine a_iinc (pc' := 1486) (v := i + (4 : Int32)) (ls' := [(4, .int (i + (4 : Int32))), (6, .int x7.1), (5, .int x4.1), (0, .ref 1002), (1, .ref 0), (2, .ref 55), (3, .ref 61)]) 6 dL_law_1483 rfl (by rfl) (by decide) rfl rfl ?_
            refine a_goto 23 dL_law_1486 (by decide) ?_
            refine a_sub (ls' := [(0, .ref 1002), (1, .ref 0), (2, .ref 55), (3, .ref 61), (4, .int (i + (4 : Int32)))]) [3, 4, 5, 6, 0] rfl ?_
            exact ih _ _ _ _ _ _ hf (by show cells + 1 + n ≤ 800; omega) (by show slots + 6 + 6 * n ≤ 10000; omega) _ hz
          · replace hf := (if_pos k13).symm.trans hf
            refine a_aload_n (pc' := 210) 5 dL_law_209 rfl rfl rfl ?_
            refine a_iconst (pc' := 211) (v := (0 : Int32)) dL_law_210 rfl (by decide) ?_
            refine b_lald (pc' := 212) hz dL_law_211 rfl ?_
            refine a_iload (pc' := 214) 0 dL_law_212 rfl rfl ?_
            refine a_i2l (pc' := 215) dL_law_214 rfl ?_
            refine a_lcmp (pc' := 216) dL_law_215 rfl ?_
            refine a_if_eq (pc' := 219) 221 dL_law_216 (by decide) rfl (fun k14 => ?_) (fun k14 => ?_)
            · replace hf := (if_pos k14).symm.trans hf
              refine a_goto 1483 dL_law_221 (by decide) ?_
              refine a_iinc (pc' := 1486) (v := i + (4 : Int32)) (ls' := [(4, .int (i + (4 : Int32))), (6, .int x7.1), (5, .int x4.1), (0, .ref 1002), (1, .ref 0), (2, .ref 55), (3, .ref 61)]) 6 dL_law_1483 rfl (by rfl) (by decide) rfl rfl ?_
              refine a_goto 23 dL_law_1486 (by decide) ?_
              refine a_sub (ls' := [(0, .ref 1002), (1, .ref 0), (2, .ref 55), (3, .ref 61), (4, .int (i + (4 : Int32)))]) [3, 4, 5, 6, 0] rfl ?_
              exact ih _ _ _ _ _ _ hf (by show cells + 1 + n ≤ 800; omega) (by show slots + 6 + 6 * n ≤ 10000; omega) _ hz
            · replace hf := (if_neg k14).symm.trans hf
              exact absurd (Option.some.inj hf) (by decide)
        · replace hf := (if_neg k12).symm.trans hf
          exact absurd (Option.some.inj hf) (by decide)
      · replace hf := (if_neg k2).symm.trans hf
        by_cases k15 : ((xs i.toNatClampNeg) &&& ((31 : Int32))) = (1 : Int32)
        · replace hf := (if_pos k15).symm.trans hf
          refine b_top k15 ?_
          refine a_tableIn (off := 185) 224 dL_law_39 (by decide) (by decide) rfl (by decide) ?_
          refine a_aload_n (pc' := 225) 1 dL_law_224 rfl rfl rfl ?_
          refine a_aload_n (pc' := 226) 0 dL_law_225 rfl rfl rfl ?_
          refine a_iload (pc' := 228) 4 dL_law_226 rfl rfl ?_
          refine a_iconst (pc' := 229) (v := (1 : Int32)) dL_law_228 rfl (by decide) ?_
          refine a_iadd (pc' := 230) dL_law_229 rfl ?_
          obtain ⟨hg, hf⟩ := f_grd_x hf
          refine b_sld (pc' := 231) hsc hg dL_law_230 rfl ?_
          refine a_aload_n (pc' := 232) 0 dL_law_231 rfl rfl rfl ?_
          refine a_iload (pc' := 234) 4 dL_law_232 rfl rfl ?_
          refine a_iconst (pc' := 235) (v := (2 : Int32)) dL_law_234 rfl (by decide) ?_
          refine a_iadd (pc' := 236) dL_law_235 rfl ?_
          obtain ⟨hg, hf⟩ := f_grd_x hf
          refine b_sld (pc' := 237) hsc hg dL_law_236 rfl ?_
          refine a_aload_n (pc' := 238) 3 dL_law_237 rfl rfl rfl ?_
          obtain ⟨x17, e16, hf⟩ := Option.bind_eq_some_iff.mp hf
          refine a_callSW (pc' := 241) (n := 4) (As := [.ref 0, .int (xs (i + ((1 : Int32))).toNatClampNeg), .int (xs (i + ((2 : Int32))).toNatClampNeg), .ref 61]) (c_L_set l g F hflags hz e16) (by intro w hw; simp only [List.mem_cons, List.not_mem_nil, or_false] at hw; rcases hw with rfl | rfl | rfl; exact (a_in3 64 rfl rfl); exact (a_in3 65 rfl rfl); exact (a_in1 0 rfl rfl)) (a_in3 66 rfl rfl) ⟨by decide, by decide, by decide⟩ rfl ⟨Nat.le_of_ble_eq_true rfl, Nat.le_of_ble_eq_true rfl⟩ ⟨by show cells + 1 ≤ 601024; omega, by show slots + 6 ≤ 7293034; omega⟩ (Nat.le_of_ble_eq_true rfl) dL_law_238 rfl (fun r9 h18 hq => ?_)
          obtain ⟨rfl, hz⟩ := hq
          refine a_istore (pc' := 243) (ls' := [(5, .int x17.1), (0, .ref 1002), (1, .ref 0), (2, .ref 55), (3, .ref 61), (4, .int i)]) dL_law_241 (by decide) rfl rfl ?_
          refine a_aload_n (pc' := 244) 3 dL_law_243 rfl rfl rfl ?_
          refine a_aload_n (pc' := 245) 1 dL_law_244 rfl rfl rfl ?_
          refine a_iload (pc' := 247) 5 dL_law_245 rfl rfl ?_
          refine a_iconst (pc' := 248) (v := (1 : Int32)) dL_law_247 rfl (by decide) ?_
          refine a_iadd (pc' := 249) dL_law_248 rfl ?_
          obtain ⟨hg, hf⟩ := f_grd_x hf
          refine b_sld (pc' := 250) hsc hg dL_law_249 rfl ?_
          refine a_aload_n (pc' := 251) 1 dL_law_250 rfl rfl rfl ?_
          refine a_iload (pc' := 253) 5 dL_law_251 rfl rfl ?_
          refine a_iconst (pc' := 254) (v := (2 : Int32)) dL_law_253 rfl (by decide) ?_
          refine a_iadd (pc' := 255) dL_law_254 rfl ?_
          obtain ⟨hg, hf⟩ := f_grd_x hf
          refine b_sld (pc' := 256) hsc hg dL_law_255 rfl ?_
          obtain ⟨x20, e19, hf⟩ := Option.bind_eq_some_iff.mp hf
          refine k_L_92 (hcs := ⟨by first | (show cells ≤ 601024; omega) | (show cells + 1 ≤ 601024; omega), by first | (show slots ≤ 7293034; omega) | (show slots + 6 ≤ 7293034; omega)⟩) (pc' := 259) (c_X4_set l g F hz.2.1 e19) ⟨Nat.le_of_ble_eq_true rfl, Nat.le_of_ble_eq_true rfl⟩ hz.2.1.1 (Nat.le_of_ble_eq_true rfl) dL_law_256 rfl (fun h21 hq => ?_)
          obtain ⟨hz1, hfr1⟩ := hq
          have hz2 := d_all_m hz hz1 hfr1
          obtain ⟨M22, hf, hz⟩ := f_let_x (P := fun w => d_all h21 x17.2.1 w x17.2.2) hf hz2
          refine a_istore (pc' := 261) (ls' := [(6, .int x20.1), (5, .int x17.1), (0, .ref 1002), (1, .ref 0), (2, .ref 55), (3, .ref 61), (4, .int i)]) dL_law_259 (by decide) rfl rfl ?_
          refine a_aload_n (pc' := 262) 4 dL_law_261 rfl rfl rfl ?_
          obtain ⟨x24, e23, hf⟩ := Option.bind_eq_some_iff.mp hf
          refine k_L_87 (hcs := ⟨by first | (show cells ≤ 601024; omega) | (show cells + 1 ≤ 601024; omega), by first | (show slots ≤ 7293034; omega) | (show slots + 6 ≤ 7293034; omega)⟩) (pc' := 265) (c_X4_thrown l g F hz.2.1 e23) ⟨Nat.le_of_ble_eq_true rfl, Nat.le_of_ble_eq_true rfl⟩ hz.2.1.1 (Nat.le_of_ble_eq_true rfl) dL_law_262 rfl ?_
          refine a_iload (pc' := 267) 1 dL_law_265 rfl rfl ?_
          refine a_icmp_eq (pc' := 270) 272 dL_law_267 (by decide) rfl (fun k25 => ?_) (fun k25 => ?_)
          · replace hf := (if_pos k25).symm.trans hf
            refine a_iload (pc' := 274) 1 dL_law_272 rfl rfl ?_
            refine a_if_ne (pc' := 277) 289 dL_law_274 (by decide) rfl (fun k26 => ?_) (fun k26 => ?_)
            · replace hf := (if_neg k26).symm.trans hf
              refine a_goto 1483 dL_law_289 (by decide) ?_
              refine a_iinc (pc' := 1486) (v := i + (4 : Int32)) (ls' := [(4, .int (i + (4 : Int32))), (6, .int x20.1), (5, .int x17.1), (0, .ref 1002), (1, .ref 0), (2, .ref 55), (3, .ref 61)]) 6 dL_law_1483 rfl (by rfl) (by decide) rfl rfl ?_
              refine a_goto 23 dL_law_1486 (by decide) ?_
              refine a_sub (ls' := [(0, .ref 1002), (1, .ref 0), (2, .ref 55), (3, .ref 61), (4, .int (i + (4 : Int32)))]) [3, 4, 5, 6, 0] rfl ?_
              exact ih _ _ _ _ _ _ hf (by show cells + 1 + n ≤ 800; omega) (by show slots + 6 + 6 * n ≤ 10000; omega) _ hz
            · replace hf := (if_pos k26).symm.trans hf
              refine a_aload_n (pc' := 278) 5 dL_law_277 rfl rfl rfl ?_
              refine a_iconst (pc' := 279) (v := (0 : Int32)) dL_law_278 rfl (by decide) ?_
              refine b_lald (pc' := 280) hz dL_law_279 rfl ?_
              refine a_iload (pc' := 282) 0 dL_law_280 rfl rfl ?_
              refine a_i2l (pc' := 283) dL_law_282 rfl ?_
              refine a_lcmp (pc' := 284) dL_law_283 rfl ?_
              refine a_if_eq (pc' := 287) 289 dL_law_284 (by decide) rfl (fun k27 => ?_) (fun k27 => ?_)
              · replace hf := (if_pos k27).symm.trans hf
                refine a_goto 1483 dL_law_289 (by decide) ?_
                refine a_iinc (pc' := 1486) (v := i + (4 : Int32)) (ls' := [(4, .int (i + (4 : Int32))), (6, .int x20.1), (5, .int x17.1), (0, .ref 1002), (1, .ref 0), (2, .ref 55), (3, .ref 61)]) 6 dL_law_1483 rfl (by rfl) (by decide) rfl rfl ?_
                refine a_goto 23 dL_law_1486 (by decide) ?_
                refine a_sub (ls' := [(0, .ref 1002), (1, .ref 0), (2, .ref 55), (3, .ref 61), (4, .int (i + (4 : Int32)))]) [3, 4, 5, 6, 0] rfl ?_
                exact ih _ _ _ _ _ _ hf (by show cells + 1 + n ≤ 800; omega) (by show slots + 6 + 6 * n ≤ 10000; omega) _ hz
              · replace hf := (if_neg k27).symm.trans hf
                exact absurd (Option.some.inj hf) (by decide)
          · replace hf := (if_neg k25).symm.trans hf
            exact absurd (Option.some.inj hf) (by decide)
        · replace hf := (if_neg k15).symm.trans hf
          by_cases k28 : ((xs i.toNatClampNeg) &&& ((31 : Int32))) = (2 : Int32)
          · replace hf := (if_pos k28).symm.trans hf
            refine b_top k28 ?_
            refine a_tableIn (off := 253) 292 dL_law_39 (by decide) (by decide) rfl (by decide) ?_
            refine a_aload_n (pc' := 293) 1 dL_law_292 rfl rfl rfl ?_
            refine a_aload_n (pc' := 294) 0 dL_law_293 rfl rfl rfl ?_
            refine a_iload (pc' := 296) 4 dL_law_294 rfl rfl ?_
            refine a_iconst (pc' := 297) (v := (1 : Int32)) dL_law_296 rfl (by decide) ?_
            refine a_iadd (pc' := 298) dL_law_297 rfl ?_
            obtain ⟨hg, hf⟩ := f_grd_x hf
            refine b_sld (pc' := 299) hsc hg dL_law_298 rfl ?_
            refine a_aload_n (pc' := 300) 0 dL_law_299 rfl rfl rfl ?_
            refine a_iload (pc' := 302) 4 dL_law_300 rfl rfl ?_
            refine a_iconst (pc' := 303) (v := (2 : Int32)) dL_law_302 rfl (by decide) ?_
            refine a_iadd (pc' := 304) dL_law_303 rfl ?_
            obtain ⟨hg, hf⟩ := f_grd_x hf
            refine b_sld (pc' := 305) hsc hg dL_law_304 rfl ?_
            refine a_aload_n (pc' := 306) 0 dL_law_305 rfl rfl rfl ?_
            refine a_iload (pc' := 308) 4 dL_law_306 rfl rfl ?_
            refine a_iconst (pc' := 309) (v := (3 : Int32)) dL_law_308 rfl (by decide) ?_
            refine a_iadd (pc' := 310) dL_law_309 rfl ?_
            obtain ⟨hg, hf⟩ := f_grd_x hf
            refine b_sld (pc' := 311) hsc hg dL_law_310 rfl ?_
            refine a_aload_n (pc' := 312) 3 dL_law_311 rfl rfl rfl ?_
            obtain ⟨x30, e29, hf⟩ := Option.bind_eq_some_iff.mp hf
            refine a_callSW (pc' := 315) (n := 5) (As := [.ref 0, .int (xs (i + ((1 : Int32))).toNatClampNeg), .int (xs (i + ((2 : Int32))).toNatClampNeg), .int (xs (i + ((3 : Int32))).toNatClampNeg), .ref 61]) (c_L_buy l g F hflags hz e29) (by intro w hw; simp only [List.mem_cons, List.not_mem_nil, or_false] at hw; rcases hw with rfl | rfl | rfl; exact (a_in3 81 rfl rfl); exact (a_in3 82 rfl rfl); exact (a_in1 0 rfl rfl)) (a_in3 83 rfl rfl) ⟨by decide, by decide, by decide⟩ rfl ⟨Nat.le_of_ble_eq_true rfl, Nat.le_of_ble_eq_true rfl⟩ ⟨by show cells + 1 ≤ 601024; omega, by show slots + 6 ≤ 7293034; omega⟩ (Nat.le_of_ble_eq_true rfl) dL_law_312 rfl (fun r9 h31 hq => ?_)
            obtain ⟨rfl, hz⟩ := hq
            refine a_istore (pc' := 317) (ls' := [(5, .int x30.1), (0, .ref 1002), (1, .ref 0), (2, .ref 55), (3, .ref 61), (4, .int i)]) dL_law_315 (by decide) rfl rfl ?_
            refine a_aload_n (pc' := 318) 3 dL_law_317 rfl rfl rfl ?_
            refine a_aload_n (pc' := 319) 1 dL_law_318 rfl rfl rfl ?_
            refine a_iload (pc' := 321) 5 dL_law_319 rfl rfl ?_
            refine a_iconst (pc' := 322) (v := (1 : Int32)) dL_law_321 rfl (by decide) ?_
            refine a_iadd (pc' := 323) dL_law_322 rfl ?_
            obtain ⟨hg, hf⟩ := f_grd_x hf
            refine b_sld (pc' := 324) hsc hg dL_law_323 rfl ?_
            refine a_aload_n (pc' := 325) 1 dL_law_324 rfl rfl rfl ?_
            refine a_iload (pc' := 327) 5 dL_law_325 rfl rfl ?_
            refine a_iconst (pc' := 328) (v := (2 : Int32)) dL_law_327 rfl (by decide) ?_
            refine a_iadd (pc' := 329) dL_law_328 rfl ?_
            obtain ⟨hg, hf⟩ := f_grd_x hf
            refine b_sld (pc' := 330) hsc hg dL_law_329 rfl ?_
            refine a_aload_n (pc' := 331) 1 dL_law_330 rfl rfl rfl ?_
            refine a_iload (pc' := 333) 5 dL_law_331 rfl rfl ?_
            refine a_iconst (pc' := 334) (v := (3 : Int32)) dL_law_333 rfl (by decide) ?_
            refine a_iadd (pc' := 335) dL_law_334 rfl ?_
            obtain ⟨hg, hf⟩ := f_grd_x hf
            refine b_sld (pc' := 336) hsc hg dL_law_335 rfl ?_
            obtain ⟨x33, e32, hf⟩ := Option.bind_eq_some_iff.mp hf
            refine k_L_96 (hcs := ⟨by first | (show cells ≤ 601024; omega) | (show cells + 1 ≤ 601024; omega), by first | (show slots ≤ 7293034; omega) | (show slots + 6 ≤ 7293034; omega)⟩) (pc' := 339) (c_X4_buy l g F hz.2.1 e32) ⟨Nat.le_of_ble_eq_true rfl, Nat.le_of_ble_eq_true rfl⟩ hz.2.1.1 (Nat.le_of_ble_eq_true rfl) dL_law_336 rfl (fun h34 hq => ?_)
            obtain ⟨hz1, hfr1⟩ := hq
            have hz2 := d_all_m hz hz1 hfr1
            obtain ⟨M35, hf, hz⟩ := f_let_x (P := fun w => d_all h34 x30.2.1 w x30.2.2) hf hz2
            refine a_istore (pc' := 341) (ls' := [(6, .int x33.1), (5, .int x30.1), (0, .ref 1002), (1, .ref 0), (2, .ref 55), (3, .ref 61), (4, .int i)]) dL_law_339 (by decide) rfl rfl ?_
            refine a_aload_n (pc' := 342) 4 dL_law_341 rfl rfl rfl ?_
            obtain ⟨x37, e36, hf⟩ := Option.bind_eq_some_iff.mp hf
            refine k_L_87 (hcs := ⟨by first | (show cells ≤ 601024; omega) | (show cells + 1 ≤ 601024; omega), by first | (show slots ≤ 7293034; omega) | (show slots + 6 ≤ 7293034; omega)⟩) (pc' := 345) (c_X4_thrown l g F hz.2.1 e36) ⟨Nat.le_of_ble_eq_true rfl, Nat.le_of_ble_eq_true rfl⟩ hz.2.1.1 (Nat.le_of_ble_eq_true rfl) dL_law_342 rfl ?_
            refine a_iload (pc' := 347) 1 dL_law_345 rfl rfl ?_
            refine a_icmp_eq (pc' := 350) 352 dL_law_347 (by decide) rfl (fun k38 => ?_) (fun k38 => ?_)
            · replace hf := (if_pos k38).symm.trans hf
              refine a_iload (pc' := 354) 1 dL_law_352 rfl rfl ?_
              refine a_if_ne (pc' := 357) 369 dL_law_354 (by decide) rfl (fun k39 => ?_) (fun k39 => ?_)
              · replace hf := (if_neg k39).symm.trans hf
                refine a_goto 1483 dL_law_369 (by decide) ?_
                refine a_iinc (pc' := 1486) (v := i + (4 : Int32)) (ls' := [(4, .int (i + (4 : Int32))), (6, .int x33.1), (5, .int x30.1), (0, .ref 1002), (1, .ref 0), (2, .ref 55), (3, .ref 61)]) 6 dL_law_1483 rfl (by rfl) (by decide) rfl rfl ?_
                refine a_goto 23 dL_law_1486 (by decide) ?_
                refine a_sub (ls' := [(0, .ref 1002), (1, .ref 0), (2, .ref 55), (3, .ref 61), (4, .int (i + (4 : Int32)))]) [3, 4, 5, 6, 0] rfl ?_
                exact ih _ _ _ _ _ _ hf (by show cells + 1 + n ≤ 800; omega) (by show slots + 6 + 6 * n ≤ 10000; omega) _ hz
              · replace hf := (if_pos k39).symm.trans hf
                refine a_aload_n (pc' := 358) 5 dL_law_357 rfl rfl rfl ?_
                refine a_iconst (pc' := 359) (v := (0 : Int32)) dL_law_358 rfl (by decide) ?_
                refine b_lald (pc' := 360) hz dL_law_359 rfl ?_
                refine a_iload (pc' := 362) 0 dL_law_360 rfl rfl ?_
                refine a_i2l (pc' := 363) dL_law_362 rfl ?_
                refine a_lcmp (pc' := 364) dL_law_363 rfl ?_
                refine a_if_eq (pc' := 367) 369 dL_law_364 (by decide) rfl (fun k40 => ?_) (fun k40 => ?_)
                · replace hf := (if_pos k40).symm.trans hf
                  refine a_goto 1483 dL_law_369 (by decide) ?_
                  refine a_iinc (pc' := 1486) (v := i + (4 : Int32)) (ls' := [(4, .int (i + (4 : Int32))), (6, .int x33.1), (5, .int x30.1), (0, .ref 1002), (1, .ref 0), (2, .ref 55), (3, .ref 61)]) 6 dL_law_1483 rfl (by rfl) (by decide) rfl rfl ?_
                  refine a_goto 23 dL_law_1486 (by decide) ?_
                  refine a_sub (ls' := [(0, .ref 1002), (1, .ref 0), (2, .ref 55), (3, .ref 61), (4, .int (i + (4 : Int32)))]) [3, 4, 5, 6, 0] rfl ?_
                  exact ih _ _ _ _ _ _ hf (by show cells + 1 + n ≤ 800; omega) (by show slots + 6 + 6 * n ≤ 10000; omega) _ hz
                · replace hf := (if_neg k40).symm.trans hf
                  exact absurd (Option.some.inj hf) (by decide)
            · replace hf := (if_neg k38).symm.trans hf
              exact absurd (Option.some.inj hf) (by decide)
          · replace hf := (if_neg k28).symm.trans hf
            by_cases k41 : ((xs i.toNatClampNeg) &&& ((31 : Int32))) = (3 : Int32)
            · replace hf := (if_pos k41).symm.trans hf
              refine b_top k41 ?_
              refine a_tableIn (off := 333) 372 dL_law_39 (by decide) (by decide) rfl (by decide) ?_
              refine a_aload_n (pc' := 373) 1 dL_law_372 rfl rfl rfl ?_
              refine a_aload_n (pc' := 374) 0 dL_law_373 rfl rfl rfl ?_
              refine a_iload (pc' := 376) 4 dL_law_374 rfl rfl ?_
              refine a_iconst (pc' := 377) (v := (1 : Int32)) dL_law_376 rfl (by decide) ?_
              refine a_iadd (pc' := 378) dL_law_377 rfl ?_
              obtain ⟨hg, hf⟩ := f_grd_x hf
              refine b_sld (pc' := 379) hsc hg dL_law_378 rfl ?_
              refine a_aload_n (pc' := 380) 0 dL_law_379 rfl rfl rfl ?_
              refine a_iload (pc' := 382) 4 dL_law_380 rfl rfl ?_
              refine a_iconst (pc' := 383) (v := (2 : Int32)) dL_law_382 rfl (by decide) ?_
              refine a_iadd (pc' := 384) dL_law_383 rfl ?_
              obtain ⟨hg, hf⟩ := f_grd_x hf
              refine b_sld (pc' := 385) hsc hg dL_law_384 rfl ?_
              refine a_aload_n (pc' := 386) 0 dL_law_385 rfl rfl rfl ?_
              refine a_iload (pc' := 388) 4 dL_law_386 rfl rfl ?_
              refine a_iconst (pc' := 389) (v := (3 : Int32)) dL_law_388 rfl (by decide) ?_
              refine a_iadd (pc' := 390) dL_law_389 rfl ?_
              obtain ⟨hg, hf⟩ := f_grd_x hf
              refine b_sld (pc' := 391) hsc hg dL_law_390 rfl ?_
              refine a_aload_n (pc' := 392) 3 dL_law_391 rfl rfl rfl ?_
              obtain ⟨x43, e42, hf⟩ := Option.bind_eq_some_iff.mp hf
              refine a_callSW (pc' := 395) (n := 5) (As := [.ref 0, .int (xs (i + ((1 : Int32))).toNatClampNeg), .int (xs (i + ((2 : Int32))).toNatClampNeg), .int (xs (i + ((3 : Int32))).toNatClampNeg), .ref 61]) (c_L_recut l g F hflags hz e42) (by intro w hw; simp only [List.mem_cons, List.not_mem_nil, or_false] at hw; rcases hw with rfl | rfl | rfl; exact (a_in3 111 rfl rfl); exact (a_in3 112 rfl rfl); exact (a_in1 0 rfl rfl)) (a_in3 113 rfl rfl) ⟨by decide, by decide, by decide⟩ rfl ⟨Nat.le_of_ble_eq_true rfl, Nat.le_of_ble_eq_true rfl⟩ ⟨by show cells + 1 ≤ 601024; omega, by show slots + 6 ≤ 7293034; omega⟩ (Nat.le_of_ble_eq_true rfl) dL_law_392 rfl (fun r9 h44 hq => ?_)
              obtain ⟨rfl, hz⟩ := hq
              refine a_istore (pc' := 397) (ls' := [(5, .int x43.1), (0, .ref 1002), (1, .ref 0), (2, .ref 55), (3, .ref 61), (4, .int i)]) dL_law_395 (by decide) rfl rfl ?_
              refine a_aload_n (pc' := 398) 3 dL_law_397 rfl rfl rfl ?_
              refine a_aload_n (pc' := 399) 1 dL_law_398 rfl rfl rfl ?_
              refine a_iload (pc' := 401) 5 dL_law_399 rfl rfl ?_
              refine a_iconst (pc' := 402) (v := (1 : Int32)) dL_law_401 rfl (by decide) ?_
              refine a_iadd (pc' := 403) dL_law_402 rfl ?_
              obtain ⟨hg, hf⟩ := f_grd_x hf
              refine b_sld (pc' := 404) hsc hg dL_law_403 rfl ?_
              refine a_aload_n (pc' := 405) 1 dL_law_404 rfl rfl rfl ?_
              refine a_iload (pc' := 407) 5 dL_law_405 rfl rfl ?_
              refine a_iconst (pc' := 408) (v := (2 : Int32)) dL_law_407 rfl (by decide) ?_
              refine a_iadd (pc' := 409) dL_law_408 rfl ?_
              obtain ⟨hg, hf⟩ := f_grd_x hf
              refine b_sld (pc' := 410) hsc hg dL_law_409 rfl ?_
              refine a_aload_n (pc' := 411) 1 dL_law_410 rfl rfl rfl ?_
              refine a_iload (pc' := 413) 5 dL_law_411 rfl rfl ?_
              refine a_iconst (pc' := 414) (v := (3 : Int32)) dL_law_413 rfl (by decide) ?_
              refine a_iadd (pc' := 415) dL_law_414 rfl ?_
              obtain ⟨hg, hf⟩ := f_grd_x hf
              refine b_sld (pc' := 416) hsc hg dL_law_415 rfl ?_
              obtain ⟨x46, e45, hf⟩ := Option.bind_eq_some_iff.mp hf
              refine k_L_99 (hcs := ⟨by first | (show cells ≤ 601024; omega) | (show cells + 1 ≤ 601024; omega), by first | (show slots ≤ 7293034; omega) | (show slots + 6 ≤ 7293034; omega)⟩) (pc' := 419) (c_X4_recut l g F hz.2.1 e45) ⟨Nat.le_of_ble_eq_true rfl, Nat.le_of_ble_eq_true rfl⟩ hz.2.1.1 (Nat.le_of_ble_eq_true rfl) dL_law_416 rfl (fun h47 hq => ?_)
              obtain ⟨hz1, hfr1⟩ := hq
              have hz2 := d_all_m hz hz1 hfr1
              obtain ⟨M48, hf, hz⟩ := f_let_x (P := fun w => d_all h47 x43.2.1 w x43.2.2) hf hz2
              refine a_istore (pc' := 421) (ls' := [(6, .int x46.1), (5, .int x43.1), (0, .ref 1002), (1, .ref 0), (2, .ref 55), (3, .ref 61), (4, .int i)]) dL_law_419 (by decide) rfl rfl ?_
              refine a_aload_n (pc' := 422) 4 dL_law_421 rfl rfl rfl ?_
              obtain ⟨x50, e49, hf⟩ := Option.bind_eq_some_iff.mp hf
              refine k_L_87 (hcs := ⟨by first | (show cells ≤ 601024; omega) | (show cells + 1 ≤ 601024; omega), by first | (show slots ≤ 7293034; omega) | (show slots + 6 ≤ 7293034; omega)⟩) (pc' := 425) (c_X4_thrown l g F hz.2.1 e49) ⟨Nat.le_of_ble_eq_true rfl, Nat.le_of_ble_eq_true rfl⟩ hz.2.1.1 (Nat.le_of_ble_eq_true rfl) dL_law_422 rfl ?_
              refine a_iload (pc' := 427) 1 dL_law_425 rfl rfl ?_
              refine a_icmp_eq (pc' := 430) 432 dL_law_427 (by decide) rfl (fun k51 => ?_) (fun k51 => ?_)
              · replace hf := (if_pos k51).symm.trans hf
                refine a_iload (pc' := 434) 1 dL_law_432 rfl rfl ?_
                refine a_if_ne (pc' := 437) 449 dL_law_434 (by decide) rfl (fun k52 => ?_) (fun k52 => ?_)
                · replace hf := (if_neg k52).symm.trans hf
                  refine a_goto 1483 dL_law_449 (by decide) ?_
                  refine a_iinc (pc' := 1486) (v := i + (4 : Int32)) (ls' := [(4, .int (i + (4 : Int32))), (6, .int x46.1), (5, .int x43.1), (0, .ref 1002), (1, .ref 0), (2, .ref 55), (3, .ref 61)]) 6 dL_law_1483 rfl (by rfl) (by decide) rfl rfl ?_
                  refine a_goto 23 dL_law_1486 (by decide) ?_
                  refine a_sub (ls' := [(0, .ref 1002), (1, .ref 0), (2, .ref 55), (3, .ref 61), (4, .int (i + (4 : Int32)))]) [3, 4, 5, 6, 0] rfl ?_
                  exact ih _ _ _ _ _ _ hf (by show cells + 1 + n ≤ 800; omega) (by show slots + 6 + 6 * n ≤ 10000; omega) _ hz
                · replace hf := (if_pos k52).symm.trans hf
                  refine a_aload_n (pc' := 438) 5 dL_law_437 rfl rfl rfl ?_
                  refine a_iconst (pc' := 439) (v := (0 : Int32)) dL_law_438 rfl (by decide) ?_
                  refine b_lald (pc' := 440) hz dL_law_439 rfl ?_
                  refine a_iload (pc' := 442) 0 dL_law_440 rfl rfl ?_
                  refine a_i2l (pc' := 443) dL_law_442 rfl ?_
                  refine a_lcmp (pc' := 444) dL_law_443 rfl ?_
                  refine a_if_eq (pc' := 447) 449 dL_law_444 (by decide) rfl (fun k53 => ?_) (fun k53 => ?_)
                  · replace hf := (if_pos k53).symm.trans hf
                    refine a_goto 1483 dL_law_449 (by decide) ?_
                    refine a_iinc (pc' := 1486) (v := i + (4 : Int32)) (ls' := [(4, .int (i + (4 : Int32))), (6, .int x46.1), (5, .int x43.1), (0, .ref 1002), (1, .ref 0), (2, .ref 55), (3, .ref 61)]) 6 dL_law_1483 rfl (by rfl) (by decide) rfl rfl ?_
                    refine a_goto 23 dL_law_1486 (by decide) ?_
                    refine a_sub (ls' := [(0, .ref 1002), (1, .ref 0), (2, .ref 55), (3, .ref 61), (4, .int (i + (4 : Int32)))]) [3, 4, 5, 6, 0] rfl ?_
                    exact ih _ _ _ _ _ _ hf (by show cells + 1 + n ≤ 800; omega) (by show slots + 6 + 6 * n ≤ 10000; omega) _ hz
                  · replace hf := (if_neg k53).symm.trans hf
                    exact absurd (Option.some.inj hf) (by decide)
              · replace hf := (if_neg k51).symm.trans hf
                exact absurd (Option.some.inj hf) (by decide)
            · replace hf := (if_neg k41).symm.trans hf
              by_cases k54 : ((xs i.toNatClampNeg) &&& ((31 : Int32))) = (4 : Int32)
              · replace hf := (if_pos k54).symm.trans hf
                refine b_top k54 ?_
                refine a_tableIn (off := 413) 452 dL_law_39 (by decide) (by decide) rfl (by decide) ?_
                refine a_aload_n (pc' := 453) 1 dL_law_452 rfl rfl rfl ?_
                refine a_aload_n (pc' := 454) 0 dL_law_453 rfl rfl rfl ?_
                refine a_iload (pc' := 456) 4 dL_law_454 rfl rfl ?_
                refine a_iconst (pc' := 457) (v := (1 : Int32)) dL_law_456 rfl (by decide) ?_
                refine a_iadd (pc' := 458) dL_law_457 rfl ?_
                obtain ⟨hg, hf⟩ := f_grd_x hf
                refine b_sld (pc' := 459) hsc hg dL_law_458 rfl ?_
                refine a_aload_n (pc' := 460) 3 dL_law_459 rfl rfl rfl ?_
                obtain ⟨x56, e55, hf⟩ := Option.bind_eq_some_iff.mp hf
                refine a_callSW (pc' := 463) (n := 3) (As := [.ref 0, .int (xs (i + ((1 : Int32))).toNatClampNeg), .ref 61]) (c_L_clearHeap l g F hflags hz e55) (by intro w hw; simp only [List.mem_cons, List.not_mem_nil, or_false] at hw; rcases hw with rfl | rfl | rfl; exact (a_in3 120 rfl rfl); exact (a_in3 121 rfl rfl); exact (a_in1 0 rfl rfl)) (a_in3 122 rfl rfl) ⟨by decide, by decide, by decide⟩ rfl ⟨Nat.le_of_ble_eq_true rfl, Nat.le_of_ble_eq_true rfl⟩ ⟨by show cells + 1 ≤ 601024; omega, by show slots + 6 ≤ 7293034; omega⟩ (Nat.le_of_ble_eq_true rfl) dL_law_460 rfl (fun r9 h57 hq => ?_)
                obtain ⟨rfl, hz⟩ := hq
                refine a_istore (pc' := 465) (ls' := [(5, .int x56.1), (0, .ref 1002), (1, .ref 0), (2, .ref 55), (3, .ref 61), (4, .int i)]) dL_law_463 (by decide) rfl rfl ?_
                refine a_aload_n (pc' := 466) 3 dL_law_465 rfl rfl rfl ?_
                refine a_aload_n (pc' := 467) 1 dL_law_466 rfl rfl rfl ?_
                refine a_iload (pc' := 469) 5 dL_law_467 rfl rfl ?_
                refine a_iconst (pc' := 470) (v := (1 : Int32)) dL_law_469 rfl (by decide) ?_
                refine a_iadd (pc' := 471) dL_law_470 rfl ?_
                obtain ⟨hg, hf⟩ := f_grd_x hf
                refine b_sld (pc' := 472) hsc hg dL_law_471 rfl ?_
                obtain ⟨x59, e58, hf⟩ := Option.bind_eq_some_iff.mp hf
                refine k_L_103 (hcs := ⟨by first | (show cells ≤ 601024; omega) | (show cells + 1 ≤ 601024; omega), by first | (show slots ≤ 7293034; omega) | (show slots + 6 ≤ 7293034; omega)⟩) (pc' := 475) (c_X4_clearHeap l g F hz.2.1 e58) ⟨Nat.le_of_ble_eq_true rfl, Nat.le_of_ble_eq_true rfl⟩ hz.2.1.1 (Nat.le_of_ble_eq_true rfl) dL_law_472 rfl (fun h60 hq => ?_)
                obtain ⟨hz1, hfr1⟩ := hq
                have hz2 := d_all_m hz hz1 hfr1
                obtain ⟨M61, hf, hz⟩ := f_let_x (P := fun w => d_all h60 x56.2.1 w x56.2.2) hf hz2
                refine a_istore (pc' := 477) (ls' := [(6, .int x59.1), (5, .int x56.1), (0, .ref 1002), (1, .ref 0), (2, .ref 55), (3, .ref 61), (4, .int i)]) dL_law_475 (by decide) rfl rfl ?_
                refine a_aload_n (pc' := 478) 4 dL_law_477 rfl rfl rfl ?_
                obtain ⟨x63, e62, hf⟩ := Option.bind_eq_some_iff.mp hf
                refine k_L_87 (hcs := ⟨by first | (show cells ≤ 601024; omega) | (show cells + 1 ≤ 601024; omega), by first | (show slots ≤ 7293034; omega) | (show slots + 6 ≤ 7293034; omega)⟩) (pc' := 481) (c_X4_thrown l g F hz.2.1 e62) ⟨Nat.le_of_ble_eq_true rfl, Nat.le_of_ble_eq_true rfl⟩ hz.2.1.1 (Nat.le_of_ble_eq_true rfl) dL_law_478 rfl ?_
                refine a_iload (pc' := 483) 1 dL_law_481 rfl rfl ?_
                refine a_icmp_eq (pc' := 486) 488 dL_law_483 (by decide) rfl (fun k64 => ?_) (fun k64 => ?_)
                · replace hf := (if_pos k64).symm.trans hf
                  refine a_iload (pc' := 490) 1 dL_law_488 rfl rfl ?_
                  refine a_if_ne (pc' := 493) 505 dL_law_490 (by decide) rfl (fun k65 => ?_) (fun k65 => ?_)
                  · replace hf := (if_neg k65).symm.trans hf
                    refine a_goto 1483 dL_law_505 (by decide) ?_
                    refine a_iinc (pc' := 1486) (v := i + (4 : Int32)) (ls' := [(4, .int (i + (4 : Int32))), (6, .int x59.1), (5, .int x56.1), (0, .ref 1002), (1, .ref 0), (2, .ref 55), (3, .ref 61)]) 6 dL_law_1483 rfl (by rfl) (by decide) rfl rfl ?_
                    refine a_goto 23 dL_law_1486 (by decide) ?_
                    refine a_sub (ls' := [(0, .ref 1002), (1, .ref 0), (2, .ref 55), (3, .ref 61), (4, .int (i + (4 : Int32)))]) [3, 4, 5, 6, 0] rfl ?_
                    exact ih _ _ _ _ _ _ hf (by show cells + 1 + n ≤ 800; omega) (by show slots + 6 + 6 * n ≤ 10000; omega) _ hz
                  · replace hf := (if_pos k65).symm.trans hf
                    refine a_aload_n (pc' := 494) 5 dL_law_493 rfl rfl rfl ?_
                    refine a_iconst (pc' := 495) (v := (0 : Int32)) dL_law_494 rfl (by decide) ?_
                    refine b_lald (pc' := 496) hz dL_law_495 rfl ?_
                    refine a_iload (pc' := 498) 0 dL_law_496 rfl rfl ?_
                    refine a_i2l (pc' := 499) dL_law_498 rfl ?_
                    refine a_lcmp (pc' := 500) dL_law_499 rfl ?_
                    refine a_if_eq (pc' := 503) 505 dL_law_500 (by decide) rfl (fun k66 => ?_) (fun k66 => ?_)
                    · replace hf := (if_pos k66).symm.trans hf
                      refine a_goto 1483 dL_law_505 (by decide) ?_
                      refine a_iinc (pc' := 1486) (v := i + (4 : Int32)) (ls' := [(4, .int (i + (4 : Int32))), (6, .int x59.1), (5, .int x56.1), (0, .ref 1002), (1, .ref 0), (2, .ref 55), (3, .ref 61)]) 6 dL_law_1483 rfl (by rfl) (by decide) rfl rfl ?_
                      refine a_goto 23 dL_law_1486 (by decide) ?_
                      refine a_sub (ls' := [(0, .ref 1002), (1, .ref 0), (2, .ref 55), (3, .ref 61), (4, .int (i + (4 : Int32)))]) [3, 4, 5, 6, 0] rfl ?_
                      exact ih _ _ _ _ _ _ hf (by show cells + 1 + n ≤ 800; omega) (by show slots + 6 + 6 * n ≤ 10000; omega) _ hz
                    · replace hf := (if_neg k66).symm.trans hf
                      exact absurd (Option.some.inj hf) (by decide)
                · replace hf := (if_neg k64).symm.trans hf
                  exact absurd (Option.some.inj hf) (by decide)
              · replace hf := (if_neg k54).symm.trans hf
                by_cases k67 : ((xs i.toNatClampNeg) &&& ((31 : Int32))) = (5 : Int32)
                · replace hf := (if_pos k67).symm.trans hf
                  refine b_top k67 ?_
                  refine a_tableIn (off := 469) 508 dL_law_39 (by decide) (by decide) rfl (by decide) ?_
                  refine a_aload_n (pc' := 509) 1 dL_law_508 rfl rfl rfl ?_
                  refine a_aload_n (pc' := 510) 0 dL_law_509 rfl rfl rfl ?_
                  refine a_iload (pc' := 512) 4 dL_law_510 rfl rfl ?_
                  refine a_iconst (pc' := 513) (v := (1 : Int32)) dL_law_512 rfl (by decide) ?_
                  refine a_iadd (pc' := 514) dL_law_513 rfl ?_
                  obtain ⟨hg, hf⟩ := f_grd_x hf
                  refine b_sld (pc' := 515) hsc hg dL_law_514 rfl ?_
                  refine a_aload_n (pc' := 516) 3 dL_law_515 rfl rfl rfl ?_
                  obtain ⟨x69, e68, hf⟩ := Option.bind_eq_some_iff.mp hf
                  refine a_callSW (pc' := 519) (n := 3) (As := [.ref 0, .int (xs (i + ((1 : Int32))).toNatClampNeg), .ref 61]) (c_L_course l g F hflags hz e68) (by intro w hw; simp only [List.mem_cons, List.not_mem_nil, or_false] at hw; rcases hw with rfl | rfl | rfl; exact (a_in3 127 rfl rfl); exact (a_in3 128 rfl rfl); exact (a_in1 0 rfl rfl)) (a_in3 129 rfl rfl) ⟨by decide, by decide, by decide⟩ rfl ⟨Nat.le_of_ble_eq_true rfl, Nat.le_of_ble_eq_true rfl⟩ ⟨by show cells + 1 ≤ 601024; omega, by show slots + 6 ≤ 7293034; omega⟩ (Nat.le_of_ble_eq_true rfl) dL_law_516 rfl (fun r9 h70 hq => ?_)
                  obtain ⟨rfl, hz⟩ := hq
                  refine a_istore (pc' := 521) (ls' := [(5, .int x69.1), (0, .ref 1002), (1, .ref 0), (2, .ref 55), (3, .ref 61), (4, .int i)]) dL_law_519 (by decide) rfl rfl ?_
                  refine a_aload_n (pc' := 522) 3 dL_law_521 rfl rfl rfl ?_
                  refine a_aload_n (pc' := 523) 1 dL_law_522 rfl rfl rfl ?_
                  refine a_iload (pc' := 525) 5 dL_law_523 rfl rfl ?_
                  refine a_iconst (pc' := 526) (v := (1 : Int32)) dL_law_525 rfl (by decide) ?_
                  refine a_iadd (pc' := 527) dL_law_526 rfl ?_
                  obtain ⟨hg, hf⟩ := f_grd_x hf
                  refine b_sld (pc' := 528) hsc hg dL_law_527 rfl ?_
                  obtain ⟨x72, e71, hf⟩ := Option.bind_eq_some_iff.mp hf
                  refine k_L_106 (hcs := ⟨by first | (show cells ≤ 601024; omega) | (show cells + 1 ≤ 601024; omega), by first | (show slots ≤ 7293034; omega) | (show slots + 6 ≤ 7293034; omega)⟩) (pc' := 531) (c_X4_course l g F hz.2.1 e71) ⟨Nat.le_of_ble_eq_true rfl, Nat.le_of_ble_eq_true rfl⟩ hz.2.1.1 (Nat.le_of_ble_eq_true rfl) dL_law_528 rfl (fun h73 hq => ?_)
                  obtain ⟨hz1, hfr1⟩ := hq
                  have hz2 := d_all_m hz hz1 hfr1
                  obtain ⟨M74, hf, hz⟩ := f_let_x (P := fun w => d_all h73 x69.2.1 w x69.2.2) hf hz2
                  refine a_istore (pc' := 533) (ls' := [(6, .int x72.1), (5, .int x69.1), (0, .ref 1002), (1, .ref 0), (2, .ref 55), (3, .ref 61), (4, .int i)]) dL_law_531 (by decide) rfl rfl ?_
                  refine a_aload_n (pc' := 534) 4 dL_law_533 rfl rfl rfl ?_
                  obtain ⟨x76, e75, hf⟩ := Option.bind_eq_some_iff.mp hf
                  refine k_L_87 (hcs := ⟨by first | (show cells ≤ 601024; omega) | (show cells + 1 ≤ 601024; omega), by first | (show slots ≤ 7293034; omega) | (show slots + 6 ≤ 7293034; omega)⟩) (pc' := 537) (c_X4_thrown l g F hz.2.1 e75) ⟨Nat.le_of_ble_eq_true rfl, Nat.le_of_ble_eq_true rfl⟩ hz.2.1.1 (Nat.le_of_ble_eq_true rfl) dL_law_534 rfl ?_
                  refine a_iload (pc' := 539) 1 dL_law_537 rfl rfl ?_
                  refine a_icmp_eq (pc' := 542) 544 dL_law_539 (by decide) rfl (fun k77 => ?_) (fun k77 => ?_)
                  · replace hf := (if_pos k77).symm.trans hf
                    refine a_iload (pc' := 546) 1 dL_law_544 rfl rfl ?_
                    refine a_if_ne (pc' := 549) 561 dL_law_546 (by decide) rfl (fun k78 => ?_) (fun k78 => ?_)
                    · replace hf := (if_neg k78).symm.trans hf
                      refine a_goto 1483 dL_law_561 (by decide) ?_
                      refine a_iinc (pc' := 1486) (v := i + (4 : Int32)) (ls' := [(4, .int (i + (4 : Int32))), (6, .int x72.1), (5, .int x69.1), (0, .ref 1002), (1, .ref 0), (2, .ref 55), (3, .ref 61)]) 6 dL_law_1483 rfl (by rfl) (by decide) rfl rfl ?_
                      refine a_goto 23 dL_law_1486 (by decide) ?_
                      refine a_sub (ls' := [(0, .ref 1002), (1, .ref 0), (2, .ref 55), (3, .ref 61), (4, .int (i + (4 : Int32)))]) [3, 4, 5, 6, 0] rfl ?_
                      exact ih _ _ _ _ _ _ hf (by show cells + 1 + n ≤ 800; omega) (by show slots + 6 + 6 * n ≤ 10000; omega) _ hz
                    · replace hf := (if_pos k78).symm.trans hf
                      refine a_aload_n (pc' := 550) 5 dL_law_549 rfl rfl rfl ?_
                      refine a_iconst (pc' := 551) (v := (0 : Int32)) dL_law_550 rfl (by decide) ?_
                      refine b_lald (pc' := 552) hz dL_law_551 rfl ?_
                      refine a_iload (pc' := 554) 0 dL_law_552 rfl rfl ?_
                      refine a_i2l (pc' := 555) dL_law_554 rfl ?_
                      refine a_lcmp (pc' := 556) dL_law_555 rfl ?_
                      refine a_if_eq (pc' := 559) 561 dL_law_556 (by decide) rfl (fun k79 => ?_) (fun k79 => ?_)
                      · replace hf := (if_pos k79).symm.trans hf
                        refine a_goto 1483 dL_law_561 (by decide) ?_
                        refine a_iinc (pc' := 1486) (v := i + (4 : Int32)) (ls' := [(4, .int (i + (4 : Int32))), (6, .int x72.1), (5, .int x69.1), (0, .ref 1002), (1, .ref 0), (2, .ref 55), (3, .ref 61)]) 6 dL_law_1483 rfl (by rfl) (by decide) rfl rfl ?_
                        refine a_goto 23 dL_law_1486 (by decide) ?_
                        refine a_sub (ls' := [(0, .ref 1002), (1, .ref 0), (2, .ref 55), (3, .ref 61), (4, .int (i + (4 : Int32)))]) [3, 4, 5, 6, 0] rfl ?_
                        exact ih _ _ _ _ _ _ hf (by show cells + 1 + n ≤ 800; omega) (by show slots + 6 + 6 * n ≤ 10000; omega) _ hz
                      · replace hf := (if_neg k79).symm.trans hf
                        exact absurd (Option.some.inj hf) (by decide)
                  · replace hf := (if_neg k77).symm.trans hf
                    exact absurd (Option.some.inj hf) (by decide)
                · replace hf := (if_neg k67).symm.trans hf
                  by_cases k80 : ((xs i.toNatClampNeg) &&& ((31 : Int32))) = (6 : Int32)
                  · replace hf := (if_pos k80).symm.trans hf
                    refine b_top k80 ?_
                    refine a_tableIn (off := 525) 564 dL_law_39 (by decide) (by decide) rfl (by decide) ?_
                    refine a_aload_n (pc' := 565) 1 dL_law_564 rfl rfl rfl ?_
                    refine a_aload_n (pc' := 566) 0 dL_law_565 rfl rfl rfl ?_
                    refine a_iload (pc' := 568) 4 dL_law_566 rfl rfl ?_
                    refine a_iconst (pc' := 569) (v := (1 : Int32)) dL_law_568 rfl (by decide) ?_
                    refine a_iadd (pc' := 570) dL_law_569 rfl ?_
                    obtain ⟨hg, hf⟩ := f_grd_x hf
                    refine b_sld (pc' := 571) hsc hg dL_law_570 rfl ?_
                    refine a_aload_n (pc' := 572) 3 dL_law_571 rfl rfl rfl ?_
                    obtain ⟨x82, e81, hf⟩ := Option.bind_eq_some_iff.mp hf
                    refine a_callSW (pc' := 575) (n := 3) (As := [.ref 0, .int (xs (i + ((1 : Int32))).toNatClampNeg), .ref 61]) (c_L_lay l g F hflags hz e81) (by intro w hw; simp only [List.mem_cons, List.not_mem_nil, or_false] at hw; rcases hw with rfl | rfl | rfl; exact (a_in3 137 rfl rfl); exact (a_in3 138 rfl rfl); exact (a_in1 0 rfl rfl)) (a_in3 139 rfl rfl) ⟨by decide, by decide, by decide⟩ rfl ⟨Nat.le_of_ble_eq_true rfl, Nat.le_of_ble_eq_true rfl⟩ ⟨by show cells + 1 ≤ 601024; omega, by show slots + 6 ≤ 7293034; omega⟩ (Nat.le_of_ble_eq_true rfl) dL_law_572 rfl (fun r9 h83 hq => ?_)
                    obtain ⟨rfl, hz⟩ := hq
                    refine a_istore (pc' := 577) (ls' := [(5, .int x82.1), (0, .ref 1002), (1, .ref 0), (2, .ref 55), (3, .ref 61), (4, .int i)]) dL_law_575 (by decide) rfl rfl ?_
                    refine a_aload_n (pc' := 578) 3 dL_law_577 rfl rfl rfl ?_
                    refine a_aload_n (pc' := 579) 1 dL_law_578 rfl rfl rfl ?_
                    refine a_iload (pc' := 581) 5 dL_law_579 rfl rfl ?_
                    refine a_iconst (pc' := 582) (v := (1 : Int32)) dL_law_581 rfl (by decide) ?_
                    refine a_iadd (pc' := 583) dL_law_582 rfl ?_
                    obtain ⟨hg, hf⟩ := f_grd_x hf
                    refine b_sld (pc' := 584) hsc hg dL_law_583 rfl ?_
                    obtain ⟨x85, e84, hf⟩ := Option.bind_eq_some_iff.mp hf
                    refine k_L_109 (hcs := ⟨by first | (show cells ≤ 601024; omega) | (show cells + 1 ≤ 601024; omega), by first | (show slots ≤ 7293034; omega) | (show slots + 6 ≤ 7293034; omega)⟩) (pc' := 587) (c_X4_lay l g F hz.2.1 e84) ⟨Nat.le_of_ble_eq_true rfl, Nat.le_of_ble_eq_true rfl⟩ hz.2.1.1 (Nat.le_of_ble_eq_true rfl) dL_law_584 rfl (fun h86 hq => ?_)
                    obtain ⟨hz1, hfr1⟩ := hq
                    have hz2 := d_all_m hz hz1 hfr1
                    obtain ⟨M87, hf, hz⟩ := f_let_x (P := fun w => d_all h86 x82.2.1 w x82.2.2) hf hz2
                    refine a_istore (pc' := 589) (ls' := [(6, .int x85.1), (5, .int x82.1), (0, .ref 1002), (1, .ref 0), (2, .ref 55), (3, .ref 61), (4, .int i)]) dL_law_587 (by decide) rfl rfl ?_
                    refine a_aload_n (pc' := 590) 4 dL_law_589 rfl rfl rfl ?_
                    obtain ⟨x89, e88, hf⟩ := Option.bind_eq_some_iff.mp hf
                    refine k_L_87 (hcs := ⟨by first | (show cells ≤ 601024; omega) | (show cells + 1 ≤ 601024; omega), by first | (show slots ≤ 7293034; omega) | (show slots + 6 ≤ 7293034; omega)⟩) (pc' := 593) (c_X4_thrown l g F hz.2.1 e88) ⟨Nat.le_of_ble_eq_true rfl, Nat.le_of_ble_eq_true rfl⟩ hz.2.1.1 (Nat.le_of_ble_eq_true rfl) dL_law_590 rfl ?_
                    refine a_iload (pc' := 595) 1 dL_law_593 rfl rfl ?_
                    refine a_icmp_eq (pc' := 598) 600 dL_law_595 (by decide) rfl (fun k90 => ?_) (fun k90 => ?_)
                    · replace hf := (if_pos k90).symm.trans hf
                      refine a_iload (pc' := 602) 1 dL_law_600 rfl rfl ?_
                      refine a_if_ne (pc' := 605) 617 dL_law_602 (by decide) rfl (fun k91 => ?_) (fun k91 => ?_)
                      · replace hf := (if_neg k91).symm.trans hf
                        refine a_goto 1483 dL_law_617 (by decide) ?_
                        refine a_iinc (pc' := 1486) (v := i + (4 : Int32)) (ls' := [(4, .int (i + (4 : Int32))), (6, .int x85.1), (5, .int x82.1), (0, .ref 1002), (1, .ref 0), (2, .ref 55), (3, .ref 61)]) 6 dL_law_1483 rfl (by rfl) (by decide) rfl rfl ?_
                        refine a_goto 23 dL_law_1486 (by decide) ?_
                        refine a_sub (ls' := [(0, .ref 1002), (1, .ref 0), (2, .ref 55), (3, .ref 61), (4, .int (i + (4 : Int32)))]) [3, 4, 5, 6, 0] rfl ?_
                        exact ih _ _ _ _ _ _ hf (by show cells + 1 + n ≤ 800; omega) (by show slots + 6 + 6 * n ≤ 10000; omega) _ hz
                      · replace hf := (if_pos k91).symm.trans hf
                        refine a_aload_n (pc' := 606) 5 dL_law_605 rfl rfl rfl ?_
                        refine a_iconst (pc' := 607) (v := (0 : Int32)) dL_law_606 rfl (by decide) ?_
                        refine b_lald (pc' := 608) hz dL_law_607 rfl ?_
                        refine a_iload (pc' := 610) 0 dL_law_608 rfl rfl ?_
                        refine a_i2l (pc' := 611) dL_law_610 rfl ?_
                        refine a_lcmp (pc' := 612) dL_law_611 rfl ?_
                        refine a_if_eq (pc' := 615) 617 dL_law_612 (by decide) rfl (fun k92 => ?_) (fun k92 => ?_)
                        · replace hf := (if_pos k92).symm.trans hf
                          refine a_goto 1483 dL_law_617 (by decide) ?_
                          refine a_iinc (pc' := 1486) (v := i + (4 : Int32)) (ls' := [(4, .int (i + (4 : Int32))), (6, .int x85.1), (5, .int x82.1), (0, .ref 1002), (1, .ref 0), (2, .ref 55), (3, .ref 61)]) 6 dL_law_1483 rfl (by rfl) (by decide) rfl rfl ?_
                          refine a_goto 23 dL_law_1486 (by decide) ?_
                          refine a_sub (ls' := [(0, .ref 1002), (1, .ref 0), (2, .ref 55), (3, .ref 61), (4, .int (i + (4 : Int32)))]) [3, 4, 5, 6, 0] rfl ?_
                          exact ih _ _ _ _ _ _ hf (by show cells + 1 + n ≤ 800; omega) (by show slots + 6 + 6 * n ≤ 10000; omega) _ hz
                        · replace hf := (if_neg k92).symm.trans hf
                          exact absurd (Option.some.inj hf) (by decide)
                    · replace hf := (if_neg k90).symm.trans hf
                      exact absurd (Option.some.inj hf) (by decide)
                  · replace hf := (if_neg k80).symm.trans hf
                    by_cases k93 : ((xs i.toNatClampNeg) &&& ((31 : Int32))) = (7 : Int32)
                    · replace hf := (if_pos k93).symm.trans hf
                      refine b_top k93 ?_
                      refine a_tableIn (off := 581) 620 dL_law_39 (by decide) (by decide) rfl (by decide) ?_
                      refine a_aload_n (pc' := 621) 1 dL_law_620 rfl rfl rfl ?_
                      refine a_aload_n (pc' := 622) 0 dL_law_621 rfl rfl rfl ?_
                      refine a_iload (pc' := 624) 4 dL_law_622 rfl rfl ?_
                      refine a_iconst (pc' := 625) (v := (1 : Int32)) dL_law_624 rfl (by decide) ?_
                      refine a_iadd (pc' := 626) dL_law_625 rfl ?_
                      obtain ⟨hg, hf⟩ := f_grd_x hf
                      refine b_sld (pc' := 627) hsc hg dL_law_626 rfl ?_
                      refine a_aload_n (pc' := 628) 0 dL_law_627 rfl rfl rfl ?_
                      refine a_iload (pc' := 630) 4 dL_law_628 rfl rfl ?_
                      refine a_iconst (pc' := 631) (v := (2 : Int32)) dL_law_630 rfl (by decide) ?_
                      refine a_iadd (pc' := 632) dL_law_631 rfl ?_
                      obtain ⟨hg, hf⟩ := f_grd_x hf
                      refine b_sld (pc' := 633) hsc hg dL_law_632 rfl ?_
                      refine a_aload_n (pc' := 634) 3 dL_law_633 rfl rfl rfl ?_
                      obtain ⟨x95, e94, hf⟩ := Option.bind_eq_some_iff.mp hf
                      refine a_callSW (pc' := 637) (n := 4) (As := [.ref 0, .int (xs (i + ((1 : Int32))).toNatClampNeg), .int (xs (i + ((2 : Int32))).toNatClampNeg), .ref 61]) (c_L_mend l g F hflags hz e94) (by intro w hw; simp only [List.mem_cons, List.not_mem_nil, or_false] at hw; rcases hw with rfl | rfl | rfl; exact (a_in3 148 rfl rfl); exact (a_in3 149 rfl rfl); exact (a_in1 0 rfl rfl)) (a_in3 150 rfl rfl) ⟨by decide, by decide, by decide⟩ rfl ⟨Nat.le_of_ble_eq_true rfl, Nat.le_of_ble_eq_true rfl⟩ ⟨by show cells + 1 ≤ 601024; omega, by show slots + 6 ≤ 7293034; omega⟩ (Nat.le_of_ble_eq_true rfl) dL_law_634 rfl (fun r9 h96 hq => ?_)
                      obtain ⟨rfl, hz⟩ := hq
                      refine a_istore (pc' := 639) (ls' := [(5, .int x95.1), (0, .ref 1002), (1, .ref 0), (2, .ref 55), (3, .ref 61), (4, .int i)]) dL_law_637 (by decide) rfl rfl ?_
                      refine a_aload_n (pc' := 640) 3 dL_law_639 rfl rfl rfl ?_
                      refine a_aload_n (pc' := 641) 1 dL_law_640 rfl rfl rfl ?_
                      refine a_iload (pc' := 643) 5 dL_law_641 rfl rfl ?_
                      refine a_iconst (pc' := 644) (v := (1 : Int32)) dL_law_643 rfl (by decide) ?_
                      refine a_iadd (pc' := 645) dL_law_644 rfl ?_
                      obtain ⟨hg, hf⟩ := f_grd_x hf
                      refine b_sld (pc' := 646) hsc hg dL_law_645 rfl ?_
                      refine a_aload_n (pc' := 647) 1 dL_law_646 rfl rfl rfl ?_
                      refine a_iload (pc' := 649) 5 dL_law_647 rfl rfl ?_
                      refine a_iconst (pc' := 650) (v := (2 : Int32)) dL_law_649 rfl (by decide) ?_
                      refine a_iadd (pc' := 651) dL_law_650 rfl ?_
                      obtain ⟨hg, hf⟩ := f_grd_x hf
                      refine b_sld (pc' := 652) hsc hg dL_law_651 rfl ?_
                      obtain ⟨x98, e97, hf⟩ := Option.bind_eq_some_iff.mp hf
                      refine k_L_112 (hcs := ⟨by first | (show cells ≤ 601024; omega) | (show cells + 1 ≤ 601024; omega), by first | (show slots ≤ 7293034; omega) | (show slots + 6 ≤ 7293034; omega)⟩) (pc' := 655) (c_X4_mend l g F hz.2.1 e97) ⟨Nat.le_of_ble_eq_true rfl, Nat.le_of_ble_eq_true rfl⟩ hz.2.1.1 (Nat.le_of_ble_eq_true rfl) dL_law_652 rfl (fun h99 hq => ?_)
                      obtain ⟨hz1, hfr1⟩ := hq
                      have hz2 := d_all_m hz hz1 hfr1
                      obtain ⟨M100, hf, hz⟩ := f_let_x (P := fun w => d_all h99 x95.2.1 w x95.2.2) hf hz2
                      refine a_istore (pc' := 657) (ls' := [(6, .int x98.1), (5, .int x95.1), (0, .ref 1002), (1, .ref 0), (2, .ref 55), (3, .ref 61), (4, .int i)]) dL_law_655 (by decide) rfl rfl ?_
                      refine a_aload_n (pc' := 658) 4 dL_law_657 rfl rfl rfl ?_
                      obtain ⟨x102, e101, hf⟩ := Option.bind_eq_some_iff.mp hf
                      refine k_L_87 (hcs := ⟨by first | (show cells ≤ 601024; omega) | (show cells + 1 ≤ 601024; omega), by first | (show slots ≤ 7293034; omega) | (show slots + 6 ≤ 7293034; omega)⟩) (pc' := 661) (c_X4_thrown l g F hz.2.1 e101) ⟨Nat.le_of_ble_eq_true rfl, Nat.le_of_ble_eq_true rfl⟩ hz.2.1.1 (Nat.le_of_ble_eq_true rfl) dL_law_658 rfl ?_
                      refine a_iload (pc' := 663) 1 dL_law_661 rfl rfl ?_
                      refine a_icmp_eq (pc' := 666) 668 dL_law_663 (by decide) rfl (fun k103 => ?_) (fun k103 => ?_)
                      · replace hf := (if_pos k103).symm.trans hf
                        refine a_iload (pc' := 670) 1 dL_law_668 rfl rfl ?_
                        refine a_if_ne (pc' := 673) 685 dL_law_670 (by decide) rfl (fun k104 => ?_) (fun k104 => ?_)
                        · replace hf := (if_neg k104).symm.trans hf
                          refine a_goto 1483 dL_law_685 (by decide) ?_
                          refine a_iinc (pc' := 1486) (v := i + (4 : Int32)) (ls' := [(4, .int (i + (4 : Int32))), (6, .int x98.1), (5, .int x95.1), (0, .ref 1002), (1, .ref 0), (2, .ref 55), (3, .ref 61)]) 6 dL_law_1483 rfl (by rfl) (by decide) rfl rfl ?_
                          refine a_goto 23 dL_law_1486 (by decide) ?_
                          refine a_sub (ls' := [(0, .ref 1002), (1, .ref 0), (2, .ref 55), (3, .ref 61), (4, .int (i + (4 : Int32)))]) [3, 4, 5, 6, 0] rfl ?_
                          exact ih _ _ _ _ _ _ hf (by show cells + 1 + n ≤ 800; omega) (by show slots + 6 + 6 * n ≤ 10000; omega) _ hz
                        · replace hf := (if_pos k104).symm.trans hf
                          refine a_aload_n (pc' := 674) 5 dL_law_673 rfl rfl rfl ?_
                          refine a_iconst (pc' := 675) (v := (0 : Int32)) dL_law_674 rfl (by decide) ?_
                          refine b_lald (pc' := 676) hz dL_law_675 rfl ?_
                          refine a_iload (pc' := 678) 0 dL_law_676 rfl rfl ?_
                          refine a_i2l (pc' := 679) dL_law_678 rfl ?_
                          refine a_lcmp (pc' := 680) dL_law_679 rfl ?_
                          refine a_if_eq (pc' := 683) 685 dL_law_680 (by decide) rfl (fun k105 => ?_) (fun k105 => ?_)
                          · replace hf := (if_pos k105).symm.trans hf
                            refine a_goto 1483 dL_law_685 (by decide) ?_
                            refine a_iinc (pc' := 1486) (v := i + (4 : Int32)) (ls' := [(4, .int (i + (4 : Int32))), (6, .int x98.1), (5, .int x95.1), (0, .ref 1002), (1, .ref 0), (2, .ref 55), (3, .ref 61)]) 6 dL_law_1483 rfl (by rfl) (by decide) rfl rfl ?_
                            refine a_goto 23 dL_law_1486 (by decide) ?_
                            refine a_sub (ls' := [(0, .ref 1002), (1, .ref 0), (2, .ref 55), (3, .ref 61), (4, .int (i + (4 : Int32)))]) [3, 4, 5, 6, 0] rfl ?_
                            exact ih _ _ _ _ _ _ hf (by show cells + 1 + n ≤ 800; omega) (by show slots + 6 + 6 * n ≤ 10000; omega) _ hz
                          · replace hf := (if_neg k105).symm.trans hf
                            exact absurd (Option.some.inj hf) (by decide)
                      · replace hf := (if_neg k103).symm.trans hf
                        exact absurd (Option.some.inj hf) (by decide)
                    · replace hf := (if_neg k93).symm.trans hf
                      by_cases k106 : ((xs i.toNatClampNeg) &&& ((31 : Int32))) = (8 : Int32)
                      · replace hf := (if_pos k106).symm.trans hf
                        refine b_top k106 ?_
                        refine a_tableIn (off := 649) 688 dL_law_39 (by decide) (by decide) rfl (by decide) ?_
                        refine a_aload_n (pc' := 689) 1 dL_law_688 rfl rfl rfl ?_
                        refine a_aload_n (pc' := 690) 0 dL_law_689 rfl rfl rfl ?_
                        refine a_iload (pc' := 692) 4 dL_law_690 rfl rfl ?_
                        refine a_iconst (pc' := 693) (v := (1 : Int32)) dL_law_692 rfl (by decide) ?_
                        refine a_iadd (pc' := 694) dL_law_693 rfl ?_
                        obtain ⟨hg, hf⟩ := f_grd_x hf
                        refine b_sld (pc' := 695) hsc hg dL_law_694 rfl ?_
                        refine a_if_eq (pc' := 698) 702 dL_law_695 (by decide) rfl (fun k107 => ?_) (fun k107 => ?_)
                        · replace hf := (if_pos k107).symm.trans hf
                          refine a_iconst (pc' := 703) (v := (0 : Int32)) dL_law_702 rfl (by decide) ?_
                          obtain ⟨x109, e108, hf⟩ := Option.bind_eq_some_iff.mp hf
                          refine k_L_113 (hcs := ⟨by first | (show cells ≤ 601024; omega) | (show cells + 1 ≤ 601024; omega), by first | (show slots ≤ 7293034; omega) | (show slots + 6 ≤ 7293034; omega)⟩) (pc' := 706) (c_X3_cover l g F hz.1 e108) ⟨Nat.le_of_ble_eq_true rfl, Nat.le_of_ble_eq_true rfl⟩ hz.1.1 (Nat.le_of_ble_eq_true rfl) dL_law_703 rfl (fun h110 hq => ?_)
                          obtain ⟨hz1, hfr1⟩ := hq
                          have hz2 := d_all_c hz hz1 hfr1
                          obtain ⟨q111, hf, hz⟩ := f_let_x (P := fun w => d_all h110 w M v) hf hz2
                          refine a_aload_n (pc' := 707) 2 dL_law_706 rfl rfl rfl ?_
                          refine a_aload_n (pc' := 708) 0 dL_law_707 rfl rfl rfl ?_
                          refine a_iload (pc' := 710) 4 dL_law_708 rfl rfl ?_
                          refine a_iconst (pc' := 711) (v := (1 : Int32)) dL_law_710 rfl (by decide) ?_
                          refine a_iadd (pc' := 712) dL_law_711 rfl ?_
                          obtain ⟨hg, hf⟩ := f_grd_x hf
                          refine b_sld (pc' := 713) hsc hg dL_law_712 rfl ?_
                          refine a_if_eq (pc' := 716) 720 dL_law_713 (by decide) rfl (fun k112 => ?_) (fun k112 => ?_)
                          · replace hf := (if_pos k112).symm.trans hf
                            refine a_iconst (pc' := 721) (v := (0 : Int32)) dL_law_720 rfl (by decide) ?_
                            obtain ⟨x114, e113, hf⟩ := Option.bind_eq_some_iff.mp hf
                            refine k_L_117 (hcs := ⟨by first | (show cells ≤ 601024; omega) | (show cells + 1 ≤ 601024; omega), by first | (show slots ≤ 7293034; omega) | (show slots + 6 ≤ 7293034; omega)⟩) (pc' := 724) (c_X4_cover l g F hz.2.1 e113) ⟨Nat.le_of_ble_eq_true rfl, Nat.le_of_ble_eq_true rfl⟩ hz.2.1.1 (Nat.le_of_ble_eq_true rfl) dL_law_721 rfl (fun h115 hq => ?_)
                            obtain ⟨hz1, hfr1⟩ := hq
                            have hz2 := d_all_m hz hz1 hfr1
                            obtain ⟨M116, hf, hz⟩ := f_let_x (P := fun w => d_all h115 q111 w v) hf hz2
                            refine a_icmp_eq (pc' := 727) 1483 dL_law_724 (by decide) rfl (fun k117 => ?_) (fun k117 => ?_)
                            · replace hf := (if_pos k117).symm.trans hf
                              refine a_iinc (pc' := 1486) (v := i + (4 : Int32)) (ls' := [(4, .int (i + (4 : Int32))), (0, .ref 1002), (1, .ref 0), (2, .ref 55), (3, .ref 61)]) 4 dL_law_1483 rfl (by rfl) (by decide) rfl rfl ?_
                              refine a_goto 23 dL_law_1486 (by decide) ?_
                              refine a_sub (ls' := [(0, .ref 1002), (1, .ref 0), (2, .ref 55), (3, .ref 61), (4, .int (i + (4 : Int32)))]) [1, 2, 3, 4, 0] rfl ?_
                              exact ih _ _ _ _ _ _ hf (by omega) (by omega) _ hz
                            · replace hf := (if_neg k117).symm.trans hf
                              exact absurd (Option.some.inj hf) (by decide)
                          · replace hf := (if_neg k112).symm.trans hf
                            refine a_iconst (pc' := 717) (v := (1 : Int32)) dL_law_716 rfl (by decide) ?_
                            refine a_goto 721 dL_law_717 (by decide) ?_
                            obtain ⟨x119, e118, hf⟩ := Option.bind_eq_some_iff.mp hf
                            refine k_L_117 (hcs := ⟨by first | (show cells ≤ 601024; omega) | (show cells + 1 ≤ 601024; omega), by first | (show slots ≤ 7293034; omega) | (show slots + 6 ≤ 7293034; omega)⟩) (pc' := 724) (c_X4_cover l g F hz.2.1 e118) ⟨Nat.le_of_ble_eq_true rfl, Nat.le_of_ble_eq_true rfl⟩ hz.2.1.1 (Nat.le_of_ble_eq_true rfl) dL_law_721 rfl (fun h120 hq => ?_)
                            obtain ⟨hz1, hfr1⟩ := hq
                            have hz2 := d_all_m hz hz1 hfr1
                            obtain ⟨M121, hf, hz⟩ := f_let_x (P := fun w => d_all h120 q111 w v) hf hz2
                            refine a_icmp_eq (pc' := 727) 1483 dL_law_724 (by decide) rfl (fun k122 => ?_) (fun k122 => ?_)
                            · replace hf := (if_pos k122).symm.trans hf
                              refine a_iinc (pc' := 1486) (v := i + (4 : Int32)) (ls' := [(4, .int (i + (4 : Int32))), (0, .ref 1002), (1, .ref 0), (2, .ref 55), (3, .ref 61)]) 4 dL_law_1483 rfl (by rfl) (by decide) rfl rfl ?_
                              refine a_goto 23 dL_law_1486 (by decide) ?_
                              refine a_sub (ls' := [(0, .ref 1002), (1, .ref 0), (2, .ref 55), (3, .ref 61), (4, .int (i + (4 : Int32)))]) [1, 2, 3, 4, 0] rfl ?_
                              exact ih _ _ _ _ _ _ hf (by omega) (by omega) _ hz
                            · replace hf := (if_neg k122).symm.trans hf
                              exact absurd (Option.some.inj hf) (by decide)
                        · replace hf := (if_neg k107).symm.trans hf
                          refine a_iconst (pc' := 699) (v := (1 : Int32)) dL_law_698 rfl (by decide) ?_
                          refine a_goto 703 dL_law_699 (by decide) ?_
                          obtain ⟨x124, e123, hf⟩ := Option.bind_eq_some_iff.mp hf
                          refine k_L_113 (hcs := ⟨by first | (show cells ≤ 601024; omega) | (show cells + 1 ≤ 601024; omega), by first | (show slots ≤ 7293034; omega) | (show slots + 6 ≤ 7293034; omega)⟩) (pc' := 706) (c_X3_cover l g F hz.1 e123) ⟨Nat.le_of_ble_eq_true rfl, Nat.le_of_ble_eq_true rfl⟩ hz.1.1 (Nat.le_of_ble_eq_true rfl) dL_law_703 rfl (fun h125 hq => ?_)
                          obtain ⟨hz1, hfr1⟩ := hq
                          have hz2 := d_all_c hz hz1 hfr1
                          obtain ⟨q126, hf, hz⟩ := f_let_x (P := fun w => d_all h125 w M v) hf hz2
                          refine a_aload_n (pc' := 707) 2 dL_law_706 rfl rfl rfl ?_
                          refine a_aload_n (pc' := 708) 0 dL_law_707 rfl rfl rfl ?_
                          refine a_iload (pc' := 710) 4 dL_law_708 rfl rfl ?_
                          refine a_iconst (pc' := 711) (v := (1 : Int32)) dL_law_710 rfl (by decide) ?_
                          refine a_iadd (pc' := 712) dL_law_711 rfl ?_
                          obtain ⟨hg, hf⟩ := f_grd_x hf
                          refine b_sld (pc' := 713) hsc hg dL_law_712 rfl ?_
                          refine a_if_eq (pc' := 716) 720 dL_law_713 (by decide) rfl (fun k127 => ?_) (fun k127 => ?_)
                          · replace hf := (if_pos k127).symm.trans hf
                            refine a_iconst (pc' := 721) (v := (0 : Int32)) dL_law_720 rfl (by decide) ?_
                            obtain ⟨x129, e128, hf⟩ := Option.bind_eq_some_iff.mp hf
                            refine k_L_117 (hcs := ⟨by first | (show cells ≤ 601024; omega) | (show cells + 1 ≤ 601024; omega), by first | (show slots ≤ 7293034; omega) | (show slots + 6 ≤ 7293034; omega)⟩) (pc' := 724) (c_X4_cover l g F hz.2.1 e128) ⟨Nat.le_of_ble_eq_true rfl, Nat.le_of_ble_eq_true rfl⟩ hz.2.1.1 (Nat.le_of_ble_eq_true rfl) dL_law_721 rfl (fun h130 hq => ?_)
                            obtain ⟨hz1, hfr1⟩ := hq
                            have hz2 := d_all_m hz hz1 hfr1
                            obtain ⟨M131, hf, hz⟩ := f_let_x (P := fun w => d_all h130 q126 w v) hf hz2
                            refine a_icmp_eq (pc' := 727) 1483 dL_law_724 (by decide) rfl (fun k132 => ?_) (fun k132 => ?_)
                            · replace hf := (if_pos k132).symm.trans hf
                              refine a_iinc (pc' := 1486) (v := i + (4 : Int32)) (ls' := [(4, .int (i + (4 : Int32))), (0, .ref 1002), (1, .ref 0), (2, .ref 55), (3, .ref 61)]) 4 dL_law_1483 rfl (by rfl) (by decide) rfl rfl ?_
                              refine a_goto 23 dL_law_1486 (by decide) ?_
                              refine a_sub (ls' := [(0, .ref 1002), (1, .ref 0), (2, .ref 55), (3, .ref 61), (4, .int (i + (4 : Int32)))]) [1, 2, 3, 4, 0] rfl ?_
                              exact ih _ _ _ _ _ _ hf (by omega) (by omega) _ hz
                            · replace hf := (if_neg k132).symm.trans hf
                              exact absurd (Option.some.inj hf) (by decide)
                          · replace hf := (if_neg k127).symm.trans hf
                            refine a_iconst (pc' := 717) (v := (1 : Int32)) dL_law_716 rfl (by decide) ?_
                            refine a_goto 721 dL_law_717 (by decide) ?_
                            obtain ⟨x134, e133, hf⟩ := Option.bind_eq_some_iff.mp hf
                            refine k_L_117 (hcs := ⟨by first | (show cells ≤ 601024; omega) | (show cells + 1 ≤ 601024; omega), by first | (show slots ≤ 7293034; omega) | (show slots + 6 ≤ 7293034; omega)⟩) (pc' := 724) (c_X4_cover l g F hz.2.1 e133) ⟨Nat.le_of_ble_eq_true rfl, Nat.le_of_ble_eq_true rfl⟩ hz.2.1.1 (Nat.le_of_ble_eq_true rfl) dL_law_721 rfl (fun h135 hq => ?_)
                            obtain ⟨hz1, hfr1⟩ := hq
                            have hz2 := d_all_m hz hz1 hfr1
                            obtain ⟨M136, hf, hz⟩ := f_let_x (P := fun w => d_all h135 q126 w v) hf hz2
                            refine a_icmp_eq (pc' := 727) 1483 dL_law_724 (by decide) rfl (fun k137 => ?_) (fun k137 => ?_)
                            · replace hf := (if_pos k137).symm.trans hf
                              refine a_iinc (pc' := 1486) (v := i + (4 : Int32)) (ls' := [(4, .int (i + (4 : Int32))), (0, .ref 1002), (1, .ref 0), (2, .ref 55), (3, .ref 61)]) 4 dL_law_1483 rfl (by rfl) (by decide) rfl rfl ?_
                              refine a_goto 23 dL_law_1486 (by decide) ?_
                              refine a_sub (ls' := [(0, .ref 1002), (1, .ref 0), (2, .ref 55), (3, .ref 61), (4, .int (i + (4 : Int32)))]) [1, 2, 3, 4, 0] rfl ?_
                              exact ih _ _ _ _ _ _ hf (by omega) (by omega) _ hz
                            · replace hf := (if_neg k137).symm.trans hf
                              exact absurd (Option.some.inj hf) (by decide)
                      · replace hf := (if_neg k106).symm.trans hf
                        by_cases k138 : ((xs i.toNatClampNeg) &&& ((31 : Int32))) = (9 : Int32)
                        · replace hf := (if_pos k138).symm.trans hf
                          refine b_top k138 ?_
                          refine a_tableIn (off := 690) 729 dL_law_39 (by decide) (by decide) rfl (by decide) ?_
                          refine a_aload_n (pc' := 730) 1 dL_law_729 rfl rfl rfl ?_
                          refine a_aload_n (pc' := 731) 0 dL_law_730 rfl rfl rfl ?_
                          refine a_iload (pc' := 733) 4 dL_law_731 rfl rfl ?_
                          refine a_iconst (pc' := 734) (v := (1 : Int32)) dL_law_733 rfl (by decide) ?_
                          refine a_iadd (pc' := 735) dL_law_734 rfl ?_
                          obtain ⟨hg, hf⟩ := f_grd_x hf
                          refine b_sld (pc' := 736) hsc hg dL_law_735 rfl ?_
                          refine a_aload_n (pc' := 737) 3 dL_law_736 rfl rfl rfl ?_
                          obtain ⟨x140, e139, hf⟩ := Option.bind_eq_some_iff.mp hf
                          refine a_callSW (pc' := 740) (n := 3) (As := [.ref 0, .int (xs (i + ((1 : Int32))).toNatClampNeg), .ref 61]) (c_L_pass l g F hflags hz e139) (by intro w hw; simp only [List.mem_cons, List.not_mem_nil, or_false] at hw; rcases hw with rfl | rfl | rfl; exact (a_in3 159 rfl rfl); exact (a_in3 160 rfl rfl); exact (a_in1 0 rfl rfl)) (a_in3 161 rfl rfl) ⟨by decide, by decide, by decide⟩ rfl ⟨Nat.le_of_ble_eq_true rfl, Nat.le_of_ble_eq_true rfl⟩ ⟨by show cells + 1 ≤ 601024; omega, by show slots + 6 ≤ 7293034; omega⟩ (Nat.le_of_ble_eq_true rfl) dL_law_737 rfl (fun r9 h141 hq => ?_)
                          obtain ⟨rfl, hz⟩ := hq
                          refine a_istore (pc' := 742) (ls' := [(5, .int x140.1), (0, .ref 1002), (1, .ref 0), (2, .ref 55), (3, .ref 61), (4, .int i)]) dL_law_740 (by decide) rfl rfl ?_
                          refine a_aload_n (pc' := 743) 3 dL_law_742 rfl rfl rfl ?_
                          refine a_aload_n (pc' := 744) 1 dL_law_743 rfl rfl rfl ?_
                          refine a_iload (pc' := 746) 5 dL_law_744 rfl rfl ?_
                          refine a_iconst (pc' := 747) (v := (1 : Int32)) dL_law_746 rfl (by decide) ?_
                          refine a_iadd (pc' := 748) dL_law_747 rfl ?_
                          obtain ⟨hg, hf⟩ := f_grd_x hf
                          refine b_sld (pc' := 749) hsc hg dL_law_748 rfl ?_
                          obtain ⟨x143, e142, hf⟩ := Option.bind_eq_some_iff.mp hf
                          refine k_L_120 (hcs := ⟨by first | (show cells ≤ 601024; omega) | (show cells + 1 ≤ 601024; omega), by first | (show slots ≤ 7293034; omega) | (show slots + 6 ≤ 7293034; omega)⟩) (pc' := 752) (c_X4_pass l g F hz.2.1 e142) ⟨Nat.le_of_ble_eq_true rfl, Nat.le_of_ble_eq_true rfl⟩ hz.2.1.1 (Nat.le_of_ble_eq_true rfl) dL_law_749 rfl (fun h144 hq => ?_)
                          obtain ⟨hz1, hfr1⟩ := hq
                          have hz2 := d_all_m hz hz1 hfr1
                          obtain ⟨M145, hf, hz⟩ := f_let_x (P := fun w => d_all h144 x140.2.1 w x140.2.2) hf hz2
                          refine a_istore (pc' := 754) (ls' := [(6, .int x143.1), (5, .int x140.1), (0, .ref 1002), (1, .ref 0), (2, .ref 55), (3, .ref 61), (4, .int i)]) dL_law_752 (by decide) rfl rfl ?_
                          refine a_aload_n (pc' := 755) 4 dL_law_754 rfl rfl rfl ?_
                          obtain ⟨x147, e146, hf⟩ := Option.bind_eq_some_iff.mp hf
                          refine k_L_87 (hcs := ⟨by first | (show cells ≤ 601024; omega) | (show cells + 1 ≤ 601024; omega), by first | (show slots ≤ 7293034; omega) | (show slots + 6 ≤ 7293034; omega)⟩) (pc' := 758) (c_X4_thrown l g F hz.2.1 e146) ⟨Nat.le_of_ble_eq_true rfl, Nat.le_of_ble_eq_true rfl⟩ hz.2.1.1 (Nat.le_of_ble_eq_true rfl) dL_law_755 rfl ?_
                          refine a_iload (pc' := 760) 1 dL_law_758 rfl rfl ?_
                          refine a_icmp_eq (pc' := 763) 765 dL_law_760 (by decide) rfl (fun k148 => ?_) (fun k148 => ?_)
                          · replace hf := (if_pos k148).symm.trans hf
                            refine a_iload (pc' := 767) 1 dL_law_765 rfl rfl ?_
                            refine a_if_ne (pc' := 770) 782 dL_law_767 (by decide) rfl (fun k149 => ?_) (fun k149 => ?_)
                            · replace hf := (if_neg k149).symm.trans hf
                              refine a_goto 1483 dL_law_782 (by decide) ?_
                              refine a_iinc (pc' := 1486) (v := i + (4 : Int32)) (ls' := [(4, .int (i + (4 : Int32))), (6, .int x143.1), (5, .int x140.1), (0, .ref 1002), (1, .ref 0), (2, .ref 55), (3, .ref 61)]) 6 dL_law_1483 rfl (by rfl) (by decide) rfl rfl ?_
                              refine a_goto 23 dL_law_1486 (by decide) ?_
                              refine a_sub (ls' := [(0, .ref 1002), (1, .ref 0), (2, .ref 55), (3, .ref 61), (4, .int (i + (4 : Int32)))]) [3, 4, 5, 6, 0] rfl ?_
                              exact ih _ _ _ _ _ _ hf (by show cells + 1 + n ≤ 800; omega) (by show slots + 6 + 6 * n ≤ 10000; omega) _ hz
                            · replace hf := (if_pos k149).symm.trans hf
                              refine a_aload_n (pc' := 771) 5 dL_law_770 rfl rfl rfl ?_
                              refine a_iconst (pc' := 772) (v := (0 : Int32)) dL_law_771 rfl (by decide) ?_
                              refine b_lald (pc' := 773) hz dL_law_772 rfl ?_
                              refine a_iload (pc' := 775) 0 dL_law_773 rfl rfl ?_
                              refine a_i2l (pc' := 776) dL_law_775 rfl ?_
                              refine a_lcmp (pc' := 777) dL_law_776 rfl ?_
                              refine a_if_eq (pc' := 780) 782 dL_law_777 (by decide) rfl (fun k150 => ?_) (fun k150 => ?_)
                              · replace hf := (if_pos k150).symm.trans hf
                                refine a_goto 1483 dL_law_782 (by decide) ?_
                                refine a_iinc (pc' := 1486) (v := i + (4 : Int32)) (ls' := [(4, .int (i + (4 : Int32))), (6, .int x143.1), (5, .int x140.1), (0, .ref 1002), (1, .ref 0), (2, .ref 55), (3, .ref 61)]) 6 dL_law_1483 rfl (by rfl) (by decide) rfl rfl ?_
                                refine a_goto 23 dL_law_1486 (by decide) ?_
                                refine a_sub (ls' := [(0, .ref 1002), (1, .ref 0), (2, .ref 55), (3, .ref 61), (4, .int (i + (4 : Int32)))]) [3, 4, 5, 6, 0] rfl ?_
                                exact ih _ _ _ _ _ _ hf (by show cells + 1 + n ≤ 800; omega) (by show slots + 6 + 6 * n ≤ 10000; omega) _ hz
                              · replace hf := (if_neg k150).symm.trans hf
                                exact absurd (Option.some.inj hf) (by decide)
                          · replace hf := (if_neg k148).symm.trans hf
                            exact absurd (Option.some.inj hf) (by decide)
                        · replace hf := (if_neg k138).symm.trans hf
                          by_cases k151 : ((xs i.toNatClampNeg) &&& ((31 : Int32))) = (10 : Int32)
                          · replace hf := (if_pos k151).symm.trans hf
                            refine b_top k151 ?_
                            refine a_tableIn (off := 746) 785 dL_law_39 (by decide) (by decide) rfl (by decide) ?_
                            refine a_aload_n (pc' := 786) 1 dL_law_785 rfl rfl rfl ?_
                            refine a_aload_n (pc' := 787) 0 dL_law_786 rfl rfl rfl ?_
                            refine a_iload (pc' := 789) 4 dL_law_787 rfl rfl ?_
                            refine a_iconst (pc' := 790) (v := (1 : Int32)) dL_law_789 rfl (by decide) ?_
                            refine a_iadd (pc' := 791) dL_law_790 rfl ?_
                            obtain ⟨hg, hf⟩ := f_grd_x hf
                            refine b_sld (pc' := 792) hsc hg dL_law_791 rfl ?_
                            refine a_aload_n (pc' := 793) 3 dL_law_792 rfl rfl rfl ?_
                            obtain ⟨x153, e152, hf⟩ := Option.bind_eq_some_iff.mp hf
                            refine a_callSW (pc' := 796) (n := 3) (As := [.ref 0, .int (xs (i + ((1 : Int32))).toNatClampNeg), .ref 61]) (c_L_append l g F hflags hz e152) (by intro w hw; simp only [List.mem_cons, List.not_mem_nil, or_false] at hw; rcases hw with rfl | rfl | rfl; exact (a_in3 168 rfl rfl); exact (a_in3 169 rfl rfl); exact (a_in1 0 rfl rfl)) (a_in3 170 rfl rfl) ⟨by decide, by decide, by decide⟩ rfl ⟨Nat.le_of_ble_eq_true rfl, Nat.le_of_ble_eq_true rfl⟩ ⟨by show cells + 1 ≤ 601024; omega, by show slots + 6 ≤ 7293034; omega⟩ (Nat.le_of_ble_eq_true rfl) dL_law_793 rfl (fun r9 h154 hq => ?_)
                            obtain ⟨rfl, hz⟩ := hq
                            refine a_istore (pc' := 798) (ls' := [(5, .int x153.1), (0, .ref 1002), (1, .ref 0), (2, .ref 55), (3, .ref 61), (4, .int i)]) dL_law_796 (by decide) rfl rfl ?_
                            refine a_aload_n (pc' := 799) 3 dL_law_798 rfl rfl rfl ?_
                            refine a_aload_n (pc' := 800) 1 dL_law_799 rfl rfl rfl ?_
                            refine a_iload (pc' := 802) 5 dL_law_800 rfl rfl ?_
                            refine a_iconst (pc' := 803) (v := (1 : Int32)) dL_law_802 rfl (by decide) ?_
                            refine a_iadd (pc' := 804) dL_law_803 rfl ?_
                            obtain ⟨hg, hf⟩ := f_grd_x hf
                            refine b_sld (pc' := 805) hsc hg dL_law_804 rfl ?_
                            obtain ⟨x156, e155, hf⟩ := Option.bind_eq_some_iff.mp hf
                            refine k_L_123 (hcs := ⟨by first | (show cells ≤ 601024; omega) | (show cells + 1 ≤ 601024; omega), by first | (show slots ≤ 7293034; omega) | (show slots + 6 ≤ 7293034; omega)⟩) (pc' := 808) (c_X4_append l g F hz.2.1 e155) ⟨Nat.le_of_ble_eq_true rfl, Nat.le_of_ble_eq_true rfl⟩ hz.2.1.1 (Nat.le_of_ble_eq_true rfl) dL_law_805 rfl (fun h157 hq => ?_)
                            obtain ⟨hz1, hfr1⟩ := hq
                            have hz2 := d_all_m hz hz1 hfr1
                            obtain ⟨M158, hf, hz⟩ := f_let_x (P := fun w => d_all h157 x153.2.1 w x153.2.2) hf hz2
                            refine a_istore (pc' := 810) (ls' := [(6, .int x156.1), (5, .int x153.1), (0, .ref 1002), (1, .ref 0), (2, .ref 55), (3, .ref 61), (4, .int i)]) dL_law_808 (by decide) rfl rfl ?_
                            refine a_aload_n (pc' := 811) 4 dL_law_810 rfl rfl rfl ?_
                            obtain ⟨x160, e159, hf⟩ := Option.bind_eq_some_iff.mp hf
                            refine k_L_87 (hcs := ⟨by first | (show cells ≤ 601024; omega) | (show cells + 1 ≤ 601024; omega), by first | (show slots ≤ 7293034; omega) | (show slots + 6 ≤ 7293034; omega)⟩) (pc' := 814) (c_X4_thrown l g F hz.2.1 e159) ⟨Nat.le_of_ble_eq_true rfl, Nat.le_of_ble_eq_true rfl⟩ hz.2.1.1 (Nat.le_of_ble_eq_true rfl) dL_law_811 rfl ?_
                            refine a_iload (pc' := 816) 1 dL_law_814 rfl rfl ?_
                            refine a_icmp_eq (pc' := 819) 821 dL_law_816 (by decide) rfl (fun k161 => ?_) (fun k161 => ?_)
                            · replace hf := (if_pos k161).symm.trans hf
                              refine a_iload (pc' := 823) 1 dL_law_821 rfl rfl ?_
                              refine a_if_ne (pc' := 826) 838 dL_law_823 (by decide) rfl (fun k162 => ?_) (fun k162 => ?_)
                              · replace hf := (if_neg k162).symm.trans hf
                                refine a_goto 1483 dL_law_838 (by decide) ?_
                                refine a_iinc (pc' := 1486) (v := i + (4 : Int32)) (ls' := [(4, .int (i + (4 : Int32))), (6, .int x156.1), (5, .int x153.1), (0, .ref 1002), (1, .ref 0), (2, .ref 55), (3, .ref 61)]) 6 dL_law_1483 rfl (by rfl) (by decide) rfl rfl ?_
                                refine a_goto 23 dL_law_1486 (by decide) ?_
                                refine a_sub (ls' := [(0, .ref 1002), (1, .ref 0), (2, .ref 55), (3, .ref 61), (4, .int (i + (4 : Int32)))]) [3, 4, 5, 6, 0] rfl ?_
                                exact ih _ _ _ _ _ _ hf (by show cells + 1 + n ≤ 800; omega) (by show slots + 6 + 6 * n ≤ 10000; omega) _ hz
                              · replace hf := (if_pos k162).symm.trans hf
                                refine a_aload_n (pc' := 827) 5 dL_law_826 rfl rfl rfl ?_
                                refine a_iconst (pc' := 828) (v := (0 : Int32)) dL_law_827 rfl (by decide) ?_
                                refine b_lald (pc' := 829) hz dL_law_828 rfl ?_
                                refine a_iload (pc' := 831) 0 dL_law_829 rfl rfl ?_
                                refine a_i2l (pc' := 832) dL_law_831 rfl ?_
                                refine a_lcmp (pc' := 833) dL_law_832 rfl ?_
                                refine a_if_eq (pc' := 836) 838 dL_law_833 (by decide) rfl (fun k163 => ?_) (fun k163 => ?_)
                                · replace hf := (if_pos k163).symm.trans hf
                                  refine a_goto 1483 dL_law_838 (by decide) ?_
                                  refine a_iinc (pc' := 1486) (v := i + (4 : Int32)) (ls' := [(4, .int (i + (4 : Int32))), (6, .int x156.1), (5, .int x153.1), (0, .ref 1002), (1, .ref 0), (2, .ref 55), (3, .ref 61)]) 6 dL_law_1483 rfl (by rfl) (by decide) rfl rfl ?_
                                  refine a_goto 23 dL_law_1486 (by decide) ?_
                                  refine a_sub (ls' := [(0, .ref 1002), (1, .ref 0), (2, .ref 55), (3, .ref 61), (4, .int (i + (4 : Int32)))]) [3, 4, 5, 6, 0] rfl ?_
                                  exact ih _ _ _ _ _ _ hf (by show cells + 1 + n ≤ 800; omega) (by show slots + 6 + 6 * n ≤ 10000; omega) _ hz
                                · replace hf := (if_neg k163).symm.trans hf
                                  exact absurd (Option.some.inj hf) (by decide)
                            · replace hf := (if_neg k161).symm.trans hf
                              exact absurd (Option.some.inj hf) (by decide)
                          · replace hf := (if_neg k151).symm.trans hf
                            by_cases k164 : ((xs i.toNatClampNeg) &&& ((31 : Int32))) = (11 : Int32)
                            · replace hf := (if_pos k164).symm.trans hf
                              refine b_top k164 ?_
                              refine a_tableIn (off := 802) 841 dL_law_39 (by decide) (by decide) rfl (by decide) ?_
                              refine a_aload_n (pc' := 842) 1 dL_law_841 rfl rfl rfl ?_
                              obtain ⟨x166, e165, hf⟩ := Option.bind_eq_some_iff.mp hf
                              refine k_L_124 (hcs := ⟨by first | (show cells ≤ 601024; omega) | (show cells + 1 ≤ 601024; omega), by first | (show slots ≤ 7293034; omega) | (show slots + 6 ≤ 7293034; omega)⟩) (pc' := 845) (c_X3_clearBuffer l g F hz.1 e165) ⟨Nat.le_of_ble_eq_true rfl, Nat.le_of_ble_eq_true rfl⟩ hz.1.1 (Nat.le_of_ble_eq_true rfl) dL_law_842 rfl (fun h167 hq => ?_)
                              obtain ⟨hz1, hfr1⟩ := hq
                              have hz2 := d_all_c hz hz1 hfr1
                              obtain ⟨q168, hf, hz⟩ := f_let_x (P := fun w => d_all h167 w M v) hf hz2
                              refine a_aload_n (pc' := 846) 2 dL_law_845 rfl rfl rfl ?_
                              obtain ⟨x170, e169, hf⟩ := Option.bind_eq_some_iff.mp hf
                              refine k_L_127 (hcs := ⟨by first | (show cells ≤ 601024; omega) | (show cells + 1 ≤ 601024; omega), by first | (show slots ≤ 7293034; omega) | (show slots + 6 ≤ 7293034; omega)⟩) (pc' := 849) (c_X4_clearBuffer l g F hz.2.1 e169) ⟨Nat.le_of_ble_eq_true rfl, Nat.le_of_ble_eq_true rfl⟩ hz.2.1.1 (Nat.le_of_ble_eq_true rfl) dL_law_846 rfl (fun h171 hq => ?_)
                              obtain ⟨hz1, hfr1⟩ := hq
                              have hz2 := d_all_m hz hz1 hfr1
                              obtain ⟨M172, hf, hz⟩ := f_let_x (P := fun w => d_all h171 q168 w v) hf hz2
                              refine a_icmp_eq (pc' := 852) 1483 dL_law_849 (by decide) rfl (fun k173 => ?_) (fun k173 => ?_)
                              · replace hf := (if_pos k173).symm.trans hf
                                refine a_iinc (pc' := 1486) (v := i + (4 : Int32)) (ls' := [(4, .int (i + (4 : Int32))), (0, .ref 1002), (1, .ref 0), (2, .ref 55), (3, .ref 61)]) 4 dL_law_1483 rfl (by rfl) (by decide) rfl rfl ?_
                                refine a_goto 23 dL_law_1486 (by decide) ?_
                                refine a_sub (ls' := [(0, .ref 1002), (1, .ref 0), (2, .ref 55), (3, .ref 61), (4, .int (i + (4 : Int32)))]) [1, 2, 3, 4, 0] rfl ?_
                                exact ih _ _ _ _ _ _ hf (by omega) (by omega) _ hz
                              · replace hf := (if_neg k173).symm.trans hf
                                exact absurd (Option.some.inj hf) (by decide)
                            · replace hf := (if_neg k164).symm.trans hf
                              by_cases k174 : ((xs i.toNatClampNeg) &&& ((31 : Int32))) = (12 : Int32)
                              · replace hf := (if_pos k174).symm.trans hf
                                refine b_top k174 ?_
                                refine a_tableIn (off := 815) 854 dL_law_39 (by decide) (by decide) rfl (by decide) ?_
                                refine a_aload_n (pc' := 855) 1 dL_law_854 rfl rfl rfl ?_
                                obtain ⟨x176, e175, hf⟩ := Option.bind_eq_some_iff.mp hf
                                refine k_L_128 (hcs := ⟨by first | (show cells ≤ 601024; omega) | (show cells + 1 ≤ 601024; omega), by first | (show slots ≤ 7293034; omega) | (show slots + 6 ≤ 7293034; omega)⟩) (pc' := 858) (c_X3_firstError l g F hz.1 e175) ⟨Nat.le_of_ble_eq_true rfl, Nat.le_of_ble_eq_true rfl⟩ hz.1.1 (Nat.le_of_ble_eq_true rfl) dL_law_855 rfl ?_
                                refine a_aload_n (pc' := 859) 2 dL_law_858 rfl rfl rfl ?_
                                obtain ⟨x178, e177, hf⟩ := Option.bind_eq_some_iff.mp hf
                                refine k_L_131 (hcs := ⟨by first | (show cells ≤ 601024; omega) | (show cells + 1 ≤ 601024; omega), by first | (show slots ≤ 7293034; omega) | (show slots + 6 ≤ 7293034; omega)⟩) (pc' := 862) (c_X4_firstError l g F hz.2.1 e177) ⟨Nat.le_of_ble_eq_true rfl, Nat.le_of_ble_eq_true rfl⟩ hz.2.1.1 (Nat.le_of_ble_eq_true rfl) dL_law_859 rfl (fun h179 hq => ?_)
                                obtain ⟨hz1, hfr1⟩ := hq
                                have hz2 := d_all_m hz hz1 hfr1
                                obtain ⟨M180, hf, hz⟩ := f_let_x (P := fun w => d_all h179 q w v) hf hz2
                                refine a_icmp_eq (pc' := 865) 1483 dL_law_862 (by decide) rfl (fun k181 => ?_) (fun k181 => ?_)
                                · replace hf := (if_pos k181).symm.trans hf
                                  refine a_iinc (pc' := 1486) (v := i + (4 : Int32)) (ls' := [(4, .int (i + (4 : Int32))), (0, .ref 1002), (1, .ref 0), (2, .ref 55), (3, .ref 61)]) 4 dL_law_1483 rfl (by rfl) (by decide) rfl rfl ?_
                                  refine a_goto 23 dL_law_1486 (by decide) ?_
                                  refine a_sub (ls' := [(0, .ref 1002), (1, .ref 0), (2, .ref 55), (3, .ref 61), (4, .int (i + (4 : Int32)))]) [1, 2, 3, 4, 0] rfl ?_
                                  exact ih _ _ _ _ _ _ hf (by omega) (by omega) _ hz
                                · replace hf := (if_neg k181).symm.trans hf
                                  exact absurd (Option.some.inj hf) (by decide)
                              · replace hf := (if_neg k174).symm.trans hf
                                by_cases k182 : ((xs i.toNatClampNeg) &&& ((31 : Int32))) = (13 : Int32)
                                · replace hf := (if_pos k182).symm.trans hf
                                  refine b_top k182 ?_
                                  refine a_tableIn (off := 828) 867 dL_law_39 (by decide) (by decide) rfl (by decide) ?_
                                  refine a_aload_n (pc' := 868) 1 dL_law_867 rfl rfl rfl ?_
                                  refine a_aload_n (pc' := 869) 3 dL_law_868 rfl rfl rfl ?_
                                  obtain ⟨x184, e183, hf⟩ := Option.bind_eq_some_iff.mp hf
                                  refine a_callSW (pc' := 872) (n := 2) (As := [.ref 0, .ref 61]) (c_L_work l g F hflags hz e183) (by intro w hw; simp only [List.mem_cons, List.not_mem_nil, or_false] at hw; rcases hw with rfl | rfl | rfl; exact (a_in3 181 rfl rfl); exact (a_in3 182 rfl rfl); exact (a_in1 0 rfl rfl)) (a_in3 183 rfl rfl) ⟨by decide, by decide, by decide⟩ rfl ⟨Nat.le_of_ble_eq_true rfl, Nat.le_of_ble_eq_true rfl⟩ ⟨by show cells + 1 ≤ 601024; omega, by show slots + 6 ≤ 7293034; omega⟩ (Nat.le_of_ble_eq_true rfl) dL_law_869 rfl (fun r9 h185 hq => ?_)
                                  obtain ⟨rfl, hz⟩ := hq
                                  refine a_istore (pc' := 874) (ls' := [(5, .int x184.1), (0, .ref 1002), (1, .ref 0), (2, .ref 55), (3, .ref 61), (4, .int i)]) dL_law_872 (by decide) rfl rfl ?_
                                  refine a_aload_n (pc' := 875) 3 dL_law_874 rfl rfl rfl ?_
                                  obtain ⟨x187, e186, hf⟩ := Option.bind_eq_some_iff.mp hf
                                  refine k_L_135 (hcs := ⟨by first | (show cells ≤ 601024; omega) | (show cells + 1 ≤ 601024; omega), by first | (show slots ≤ 7293034; omega) | (show slots + 6 ≤ 7293034; omega)⟩) (pc' := 878) (c_X4_work l g F hz.2.1 e186) ⟨Nat.le_of_ble_eq_true rfl, Nat.le_of_ble_eq_true rfl⟩ hz.2.1.1 (Nat.le_of_ble_eq_true rfl) dL_law_875 rfl (fun h188 hq => ?_)
                                  obtain ⟨hz1, hfr1⟩ := hq
                                  have hz2 := d_all_m hz hz1 hfr1
                                  obtain ⟨M189, hf, hz⟩ := f_let_x (P := fun w => d_all h188 x184.2.1 w x184.2.2) hf hz2
                                  refine a_istore (pc' := 880) (ls' := [(6, .int x187.1), (5, .int x184.1), (0, .ref 1002), (1, .ref 0), (2, .ref 55), (3, .ref 61), (4, .int i)]) dL_law_878 (by decide) rfl rfl ?_
                                  refine a_aload_n (pc' := 881) 4 dL_law_880 rfl rfl rfl ?_
                                  obtain ⟨x191, e190, hf⟩ := Option.bind_eq_some_iff.mp hf
                                  refine k_L_87 (hcs := ⟨by first | (show cells ≤ 601024; omega) | (show cells + 1 ≤ 601024; omega), by first | (show slots ≤ 7293034; omega) | (show slots + 6 ≤ 7293034; omega)⟩) (pc' := 884) (c_X4_thrown l g F hz.2.1 e190) ⟨Nat.le_of_ble_eq_true rfl, Nat.le_of_ble_eq_true rfl⟩ hz.2.1.1 (Nat.le_of_ble_eq_true rfl) dL_law_881 rfl ?_
                                  refine a_iload (pc' := 886) 1 dL_law_884 rfl rfl ?_
                                  refine a_icmp_eq (pc' := 889) 891 dL_law_886 (by decide) rfl (fun k192 => ?_) (fun k192 => ?_)
                                  · replace hf := (if_pos k192).symm.trans hf
                                    refine a_iload (pc' := 893) 1 dL_law_891 rfl rfl ?_
                                    refine a_if_ne (pc' := 896) 908 dL_law_893 (by decide) rfl (fun k193 => ?_) (fun k193 => ?_)
                                    · replace hf := (if_neg k193).symm.trans hf
                                      refine a_goto 1483 dL_law_908 (by decide) ?_
                                      refine a_iinc (pc' := 1486) (v := i + (4 : Int32)) (ls' := [(4, .int (i + (4 : Int32))), (6, .int x187.1), (5, .int x184.1), (0, .ref 1002), (1, .ref 0), (2, .ref 55), (3, .ref 61)]) 6 dL_law_1483 rfl (by rfl) (by decide) rfl rfl ?_
                                      refine a_goto 23 dL_law_1486 (by decide) ?_
                                      refine a_sub (ls' := [(0, .ref 1002), (1, .ref 0), (2, .ref 55), (3, .ref 61), (4, .int (i + (4 : Int32)))]) [3, 4, 5, 6, 0] rfl ?_
                                      exact ih _ _ _ _ _ _ hf (by show cells + 1 + n ≤ 800; omega) (by show slots + 6 + 6 * n ≤ 10000; omega) _ hz
                                    · replace hf := (if_pos k193).symm.trans hf
                                      refine a_aload_n (pc' := 897) 5 dL_law_896 rfl rfl rfl ?_
                                      refine a_iconst (pc' := 898) (v := (0 : Int32)) dL_law_897 rfl (by decide) ?_
                                      refine b_lald (pc' := 899) hz dL_law_898 rfl ?_
                                      refine a_iload (pc' := 901) 0 dL_law_899 rfl rfl ?_
                                      refine a_i2l (pc' := 902) dL_law_901 rfl ?_
                                      refine a_lcmp (pc' := 903) dL_law_902 rfl ?_
                                      refine a_if_eq (pc' := 906) 908 dL_law_903 (by decide) rfl (fun k194 => ?_) (fun k194 => ?_)
                                      · replace hf := (if_pos k194).symm.trans hf
                                        refine a_goto 1483 dL_law_908 (by decide) ?_
                                        refine a_iinc (pc' := 1486) (v := i + (4 : Int32)) (ls' := [(4, .int (i + (4 : Int32))), (6, .int x187.1), (5, .int x184.1), (0, .ref 1002), (1, .ref 0), (2, .ref 55), (3, .ref 61)]) 6 dL_law_1483 rfl (by rfl) (by decide) rfl rfl ?_
                                        refine a_goto 23 dL_law_1486 (by decide) ?_
                                        refine a_sub (ls' := [(0, .ref 1002), (1, .ref 0), (2, .ref 55), (3, .ref 61), (4, .int (i + (4 : Int32)))]) [3, 4, 5, 6, 0] rfl ?_
                                        exact ih _ _ _ _ _ _ hf (by show cells + 1 + n ≤ 800; omega) (by show slots + 6 + 6 * n ≤ 10000; omega) _ hz
                                      · replace hf := (if_neg k194).symm.trans hf
                                        exact absurd (Option.some.inj hf) (by decide)
                                  · replace hf := (if_neg k192).symm.trans hf
                                    exact absurd (Option.some.inj hf) (by decide)
                                · replace hf := (if_neg k182).symm.trans hf
                                  by_cases k195 : ((xs i.toNatClampNeg) &&& ((31 : Int32))) = (14 : Int32)
                                  · replace hf := (if_pos k195).symm.trans hf
                                    refine b_top k195 ?_
                                    refine a_tableIn (off := 872) 911 dL_law_39 (by decide) (by decide) rfl (by decide) ?_
                                    refine a_aload_n (pc' := 912) 1 dL_law_911 rfl rfl rfl ?_
                                    refine a_aload_n (pc' := 913) 3 dL_law_912 rfl rfl rfl ?_
                                    obtain ⟨x197, e196, hf⟩ := Option.bind_eq_some_iff.mp hf
                                    refine a_callSW (pc' := 916) (n := 2) (As := [.ref 0, .ref 61]) (c_L_undo l g F hflags hz e196) (by intro w hw; simp only [List.mem_cons, List.not_mem_nil, or_false] at hw; rcases hw with rfl | rfl | rfl; exact (a_in3 199 rfl rfl); exact (a_in3 200 rfl rfl); exact (a_in1 0 rfl rfl)) (a_in3 201 rfl rfl) ⟨by decide, by decide, by decide⟩ rfl ⟨Nat.le_of_ble_eq_true rfl, Nat.le_of_ble_eq_true rfl⟩ ⟨by show cells + 1 ≤ 601024; omega, by show slots + 6 ≤ 7293034; omega⟩ (Nat.le_of_ble_eq_true rfl) dL_law_913 rfl (fun r9 h198 hq => ?_)
                                    obtain ⟨rfl, hz⟩ := hq
                                    refine a_istore (pc' := 918) (ls' := [(5, .int x197.1), (0, .ref 1002), (1, .ref 0), (2, .ref 55), (3, .ref 61), (4, .int i)]) dL_law_916 (by decide) rfl rfl ?_
                                    refine a_aload_n (pc' := 919) 3 dL_law_918 rfl rfl rfl ?_
                                    obtain ⟨x200, e199, hf⟩ := Option.bind_eq_some_iff.mp hf
                                    refine k_L_138 (hcs := ⟨by first | (show cells ≤ 601024; omega) | (show cells + 1 ≤ 601024; omega), by first | (show slots ≤ 7293034; omega) | (show slots + 6 ≤ 7293034; omega)⟩) (pc' := 922) (c_X4_undo l g F hz.2.1 e199) ⟨Nat.le_of_ble_eq_true rfl, Nat.le_of_ble_eq_true rfl⟩ hz.2.1.1 (Nat.le_of_ble_eq_true rfl) dL_law_919 rfl (fun h201 hq => ?_)
                                    obtain ⟨hz1, hfr1⟩ := hq
                                    have hz2 := d_all_m hz hz1 hfr1
                                    obtain ⟨M202, hf, hz⟩ := f_let_x (P := fun w => d_all h201 x197.2.1 w x197.2.2) hf hz2
                                    refine a_istore (pc' := 924) (ls' := [(6, .int x200.1), (5, .int x197.1), (0, .ref 1002), (1, .ref 0), (2, .ref 55), (3, .ref 61), (4, .int i)]) dL_law_922 (by decide) rfl rfl ?_
                                    refine a_aload_n (pc' := 925) 4 dL_law_924 rfl rfl rfl ?_
                                    obtain ⟨x204, e203, hf⟩ := Option.bind_eq_some_iff.mp hf
                                    refine k_L_87 (hcs := ⟨by first | (show cells ≤ 601024; omega) | (show cells + 1 ≤ 601024; omega), by first | (show slots ≤ 7293034; omega) | (show slots + 6 ≤ 7293034; omega)⟩) (pc' := 928) (c_X4_thrown l g F hz.2.1 e203) ⟨Nat.le_of_ble_eq_true rfl, Nat.le_of_ble_eq_true rfl⟩ hz.2.1.1 (Nat.le_of_ble_eq_true rfl) dL_law_925 rfl ?_
                                    refine a_iload (pc' := 930) 1 dL_law_928 rfl rfl ?_
                                    refine a_icmp_eq (pc' := 933) 935 dL_law_930 (by decide) rfl (fun k205 => ?_) (fun k205 => ?_)
                                    · replace hf := (if_pos k205).symm.trans hf
                                      refine a_iload (pc' := 937) 1 dL_law_935 rfl rfl ?_
                                      refine a_if_ne (pc' := 940) 952 dL_law_937 (by decide) rfl (fun k206 => ?_) (fun k206 => ?_)
                                      · replace hf := (if_neg k206).symm.trans hf
                                        refine a_goto 1483 dL_law_952 (by decide) ?_
                                        refine a_iinc (pc' := 1486) (v := i + (4 : Int32)) (ls' := [(4, .int (i + (4 : Int32))), (6, .int x200.1), (5, .int x197.1), (0, .ref 1002), (1, .ref 0), (2, .ref 55), (3, .ref 61)]) 6 dL_law_1483 rfl (by rfl) (by decide) rfl rfl ?_
                                        refine a_goto 23 dL_law_1486 (by decide) ?_
                                        refine a_sub (ls' := [(0, .ref 1002), (1, .ref 0), (2, .ref 55), (3, .ref 61), (4, .int (i + (4 : Int32)))]) [3, 4, 5, 6, 0] rfl ?_
                                        exact ih _ _ _ _ _ _ hf (by show cells + 1 + n ≤ 800; omega) (by show slots + 6 + 6 * n ≤ 10000; omega) _ hz
                                      · replace hf := (if_pos k206).symm.trans hf
                                        refine a_aload_n (pc' := 941) 5 dL_law_940 rfl rfl rfl ?_
                                        refine a_iconst (pc' := 942) (v := (0 : Int32)) dL_law_941 rfl (by decide) ?_
                                        refine b_lald (pc' := 943) hz dL_law_942 rfl ?_
                                        refine a_iload (pc' := 945) 0 dL_law_943 rfl rfl ?_
                                        refine a_i2l (pc' := 946) dL_law_945 rfl ?_
                                        refine a_lcmp (pc' := 947) dL_law_946 rfl ?_
                                        refine a_if_eq (pc' := 950) 952 dL_law_947 (by decide) rfl (fun k207 => ?_) (fun k207 => ?_)
                                        · replace hf := (if_pos k207).symm.trans hf
                                          refine a_goto 1483 dL_law_952 (by decide) ?_
                                          refine a_iinc (pc' := 1486) (v := i + (4 : Int32)) (ls' := [(4, .int (i + (4 : Int32))), (6, .int x200.1), (5, .int x197.1), (0, .ref 1002), (1, .ref 0), (2, .ref 55), (3, .ref 61)]) 6 dL_law_1483 rfl (by rfl) (by decide) rfl rfl ?_
                                          refine a_goto 23 dL_law_1486 (by decide) ?_
                                          refine a_sub (ls' := [(0, .ref 1002), (1, .ref 0), (2, .ref 55), (3, .ref 61), (4, .int (i + (4 : Int32)))]) [3, 4, 5, 6, 0] rfl ?_
                                          exact ih _ _ _ _ _ _ hf (by show cells + 1 + n ≤ 800; omega) (by show slots + 6 + 6 * n ≤ 10000; omega) _ hz
                                        · replace hf := (if_neg k207).symm.trans hf
                                          exact absurd (Option.some.inj hf) (by decide)
                                    · replace hf := (if_neg k205).symm.trans hf
                                      exact absurd (Option.some.inj hf) (by decide)
                                  · replace hf := (if_neg k195).symm.trans hf
                                    by_cases k208 : ((xs i.toNatClampNeg) &&& ((31 : Int32))) = (15 : Int32)
                                    · replace hf := (if_pos k208).symm.trans hf
                                      refine b_top k208 ?_
                                      refine a_tableIn (off := 916) 955 dL_law_39 (by decide) (by decide) rfl (by decide) ?_
                                      refine a_aload_n (pc' := 956) 1 dL_law_955 rfl rfl rfl ?_
                                      refine a_aload_n (pc' := 957) 0 dL_law_956 rfl rfl rfl ?_
                                      refine a_iload (pc' := 959) 4 dL_law_957 rfl rfl ?_
                                      refine a_iconst (pc' := 960) (v := (1 : Int32)) dL_law_959 rfl (by decide) ?_
                                      refine a_iadd (pc' := 961) dL_law_960 rfl ?_
                                      obtain ⟨hg, hf⟩ := f_grd_x hf
                                      refine b_sld (pc' := 962) hsc hg dL_law_961 rfl ?_
                                      refine a_aload_n (pc' := 963) 0 dL_law_962 rfl rfl rfl ?_
                                      refine a_iload (pc' := 965) 4 dL_law_963 rfl rfl ?_
                                      refine a_iconst (pc' := 966) (v := (2 : Int32)) dL_law_965 rfl (by decide) ?_
                                      refine a_iadd (pc' := 967) dL_law_966 rfl ?_
                                      obtain ⟨hg, hf⟩ := f_grd_x hf
                                      refine b_sld (pc' := 968) hsc hg dL_law_967 rfl ?_
                                      refine a_aload_n (pc' := 969) 3 dL_law_968 rfl rfl rfl ?_
                                      obtain ⟨x210, e209, hf⟩ := Option.bind_eq_some_iff.mp hf
                                      refine a_callSW (pc' := 972) (n := 4) (As := [.ref 0, .int (xs (i + ((1 : Int32))).toNatClampNeg), .int (xs (i + ((2 : Int32))).toNatClampNeg), .ref 61]) (c_L_courseOf l g F hflags hz e209) (by intro w hw; simp only [List.mem_cons, List.not_mem_nil, or_false] at hw; rcases hw with rfl | rfl | rfl; exact (a_in3 211 rfl rfl); exact (a_in3 212 rfl rfl); exact (a_in1 0 rfl rfl)) (a_in3 213 rfl rfl) ⟨by decide, by decide, by decide⟩ rfl ⟨Nat.le_of_ble_eq_true rfl, Nat.le_of_ble_eq_true rfl⟩ ⟨by show cells + 1 ≤ 601024; omega, by show slots + 6 ≤ 7293034; omega⟩ (Nat.le_of_ble_eq_true rfl) dL_law_969 rfl (fun r9 h211 hq => ?_)
                                      obtain ⟨rfl, hz⟩ := hq
                                      refine a_istore (pc' := 974) (ls' := [(5, .int x210.1), (0, .ref 1002), (1, .ref 0), (2, .ref 55), (3, .ref 61), (4, .int i)]) dL_law_972 (by decide) rfl rfl ?_
                                      refine a_aload_n (pc' := 975) 3 dL_law_974 rfl rfl rfl ?_
                                      refine a_aload_n (pc' := 976) 1 dL_law_975 rfl rfl rfl ?_
                                      refine a_iload (pc' := 978) 5 dL_law_976 rfl rfl ?_
                                      refine a_iconst (pc' := 979) (v := (1 : Int32)) dL_law_978 rfl (by decide) ?_
                                      refine a_iadd (pc' := 980) dL_law_979 rfl ?_
                                      obtain ⟨hg, hf⟩ := f_grd_x hf
                                      refine b_sld (pc' := 981) hsc hg dL_law_980 rfl ?_
                                      refine a_aload_n (pc' := 982) 1 dL_law_981 rfl rfl rfl ?_
                                      refine a_iload (pc' := 984) 5 dL_law_982 rfl rfl ?_
                                      refine a_iconst (pc' := 985) (v := (2 : Int32)) dL_law_984 rfl (by decide) ?_
                                      refine a_iadd (pc' := 986) dL_law_985 rfl ?_
                                      obtain ⟨hg, hf⟩ := f_grd_x hf
                                      refine b_sld (pc' := 987) hsc hg dL_law_986 rfl ?_
                                      obtain ⟨x213, e212, hf⟩ := Option.bind_eq_some_iff.mp hf
                                      refine k_L_141 (hcs := ⟨by first | (show cells ≤ 601024; omega) | (show cells + 1 ≤ 601024; omega), by first | (show slots ≤ 7293034; omega) | (show slots + 6 ≤ 7293034; omega)⟩) (pc' := 990) (c_X4_courseOf l g F hz.2.1 e212) ⟨Nat.le_of_ble_eq_true rfl, Nat.le_of_ble_eq_true rfl⟩ hz.2.1.1 (Nat.le_of_ble_eq_true rfl) dL_law_987 rfl (fun h214 hq => ?_)
                                      obtain ⟨hz1, hfr1⟩ := hq
                                      have hz2 := d_all_m hz hz1 hfr1
                                      obtain ⟨M215, hf, hz⟩ := f_let_x (P := fun w => d_all h214 x210.2.1 w x210.2.2) hf hz2
                                      refine a_istore (pc' := 992) (ls' := [(6, .int x213.1), (5, .int x210.1), (0, .ref 1002), (1, .ref 0), (2, .ref 55), (3, .ref 61), (4, .int i)]) dL_law_990 (by decide) rfl rfl ?_
                                      refine a_aload_n (pc' := 993) 4 dL_law_992 rfl rfl rfl ?_
                                      obtain ⟨x217, e216, hf⟩ := Option.bind_eq_some_iff.mp hf
                                      refine k_L_87 (hcs := ⟨by first | (show cells ≤ 601024; omega) | (show cells + 1 ≤ 601024; omega), by first | (show slots ≤ 7293034; omega) | (show slots + 6 ≤ 7293034; omega)⟩) (pc' := 996) (c_X4_thrown l g F hz.2.1 e216) ⟨Nat.le_of_ble_eq_true rfl, Nat.le_of_ble_eq_true rfl⟩ hz.2.1.1 (Nat.le_of_ble_eq_true rfl) dL_law_993 rfl ?_
                                      refine a_iload (pc' := 998) 1 dL_law_996 rfl rfl ?_
                                      refine a_icmp_eq (pc' := 1001) 1003 dL_law_998 (by decide) rfl (fun k218 => ?_) (fun k218 => ?_)
                                      · replace hf := (if_pos k218).symm.trans hf
                                        refine a_iload (pc' := 1005) 1 dL_law_1003 rfl rfl ?_
                                        refine a_if_ne (pc' := 1008) 1020 dL_law_1005 (by decide) rfl (fun k219 => ?_) (fun k219 => ?_)
                                        · replace hf := (if_neg k219).symm.trans hf
                                          refine a_goto 1483 dL_law_1020 (by decide) ?_
                                          refine a_iinc (pc' := 1486) (v := i + (4 : Int32)) (ls' := [(4, .int (i + (4 : Int32))), (6, .int x213.1), (5, .int x210.1), (0, .ref 1002), (1, .ref 0), (2, .ref 55), (3, .ref 61)]) 6 dL_law_1483 rfl (by rfl) (by decide) rfl rfl ?_
                                          refine a_goto 23 dL_law_1486 (by decide) ?_
                                          refine a_sub (ls' := [(0, .ref 1002), (1, .ref 0), (2, .ref 55), (3, .ref 61), (4, .int (i + (4 : Int32)))]) [3, 4, 5, 6, 0] rfl ?_
                                          exact ih _ _ _ _ _ _ hf (by show cells + 1 + n ≤ 800; omega) (by show slots + 6 + 6 * n ≤ 10000; omega) _ hz
                                        · replace hf := (if_pos k219).symm.trans hf
                                          refine a_aload_n (pc' := 1009) 5 dL_law_1008 rfl rfl rfl ?_
                                          refine a_iconst (pc' := 1010) (v := (0 : Int32)) dL_law_1009 rfl (by decide) ?_
                                          refine b_lald (pc' := 1011) hz dL_law_1010 rfl ?_
                                          refine a_iload (pc' := 1013) 0 dL_law_1011 rfl rfl ?_
                                          refine a_i2l (pc' := 1014) dL_law_1013 rfl ?_
                                          refine a_lcmp (pc' := 1015) dL_law_1014 rfl ?_
                                          refine a_if_eq (pc' := 1018) 1020 dL_law_1015 (by decide) rfl (fun k220 => ?_) (fun k220 => ?_)
                                          · replace hf := (if_pos k220).symm.trans hf
                                            refine a_goto 1483 dL_law_1020 (by decide) ?_
                                            refine a_iinc (pc' := 1486) (v := i + (4 : Int32)) (ls' := [(4, .int (i + (4 : Int32))), (6, .int x213.1), (5, .int x210.1), (0, .ref 1002), (1, .ref 0), (2, .ref 55), (3, .ref 61)]) 6 dL_law_1483 rfl (by rfl) (by decide) rfl rfl ?_
                                            refine a_goto 23 dL_law_1486 (by decide) ?_
                                            refine a_sub (ls' := [(0, .ref 1002), (1, .ref 0), (2, .ref 55), (3, .ref 61), (4, .int (i + (4 : Int32)))]) [3, 4, 5, 6, 0] rfl ?_
                                            exact ih _ _ _ _ _ _ hf (by show cells + 1 + n ≤ 800; omega) (by show slots + 6 + 6 * n ≤ 10000; omega) _ hz
                                          · replace hf := (if_neg k220).symm.trans hf
                                            exact absurd (Option.some.inj hf) (by decide)
                                      · replace hf := (if_neg k218).symm.trans hf
                                        exact absurd (Option.some.inj hf) (by decide)
                                    · replace hf := (if_neg k208).symm.trans hf
                                      by_cases k221 : ((xs i.toNatClampNeg) &&& ((31 : Int32))) = (16 : Int32)
                                      · replace hf := (if_pos k221).symm.trans hf
                                        refine b_top k221 ?_
                                        refine a_tableIn (off := 984) 1023 dL_law_39 (by decide) (by decide) rfl (by decide) ?_
                                        refine a_aload_n (pc' := 1024) 1 dL_law_1023 rfl rfl rfl ?_
                                        refine a_aload_n (pc' := 1025) 0 dL_law_1024 rfl rfl rfl ?_
                                        refine a_iload (pc' := 1027) 4 dL_law_1025 rfl rfl ?_
                                        refine a_iconst (pc' := 1028) (v := (1 : Int32)) dL_law_1027 rfl (by decide) ?_
                                        refine a_iadd (pc' := 1029) dL_law_1028 rfl ?_
                                        obtain ⟨hg, hf⟩ := f_grd_x hf
                                        refine b_sld (pc' := 1030) hsc hg dL_law_1029 rfl ?_
                                        refine a_aload_n (pc' := 1031) 0 dL_law_1030 rfl rfl rfl ?_
                                        refine a_iload (pc' := 1033) 4 dL_law_1031 rfl rfl ?_
                                        refine a_iconst (pc' := 1034) (v := (2 : Int32)) dL_law_1033 rfl (by decide) ?_
                                        refine a_iadd (pc' := 1035) dL_law_1034 rfl ?_
                                        obtain ⟨hg, hf⟩ := f_grd_x hf
                                        refine b_sld (pc' := 1036) hsc hg dL_law_1035 rfl ?_
                                        refine a_aload_n (pc' := 1037) 3 dL_law_1036 rfl rfl rfl ?_
                                        obtain ⟨x223, e222, hf⟩ := Option.bind_eq_some_iff.mp hf
                                        refine a_callSW (pc' := 1040) (n := 4) (As := [.ref 0, .int (xs (i + ((1 : Int32))).toNatClampNeg), .int (xs (i + ((2 : Int32))).toNatClampNeg), .ref 61]) (c_L_lies l g F hflags hz e222) (by intro w hw; simp only [List.mem_cons, List.not_mem_nil, or_false] at hw; rcases hw with rfl | rfl | rfl; exact (a_in3 215 rfl rfl); exact (a_in3 216 rfl rfl); exact (a_in1 0 rfl rfl)) (a_in3 217 rfl rfl) ⟨by decide, by decide, by decide⟩ rfl ⟨Nat.le_of_ble_eq_true rfl, Nat.le_of_ble_eq_true rfl⟩ ⟨by show cells + 1 ≤ 601024; omega, by show slots + 6 ≤ 7293034; omega⟩ (Nat.le_of_ble_eq_true rfl) dL_law_1037 rfl (fun r9 h224 hq => ?_)
                                        obtain ⟨rfl, hz⟩ := hq
                                        refine a_istore (pc' := 1042) (ls' := [(5, .int x223.1), (0, .ref 1002), (1, .ref 0), (2, .ref 55), (3, .ref 61), (4, .int i)]) dL_law_1040 (by decide) rfl rfl ?_
                                        refine a_aload_n (pc' := 1043) 3 dL_law_1042 rfl rfl rfl ?_
                                        refine a_aload_n (pc' := 1044) 1 dL_law_1043 rfl rfl rfl ?_
                                        refine a_iload (pc' := 1046) 5 dL_law_1044 rfl rfl ?_
                                        refine a_iconst (pc' := 1047) (v := (1 : Int32)) dL_law_1046 rfl (by decide) ?_
                                        refine a_iadd (pc' := 1048) dL_law_1047 rfl ?_
                                        obtain ⟨hg, hf⟩ := f_grd_x hf
                                        refine b_sld (pc' := 1049) hsc hg dL_law_1048 rfl ?_
                                        refine a_aload_n (pc' := 1050) 1 dL_law_1049 rfl rfl rfl ?_
                                        refine a_iload (pc' := 1052) 5 dL_law_1050 rfl rfl ?_
                                        refine a_iconst (pc' := 1053) (v := (2 : Int32)) dL_law_1052 rfl (by decide) ?_
                                        refine a_iadd (pc' := 1054) dL_law_1053 rfl ?_
                                        obtain ⟨hg, hf⟩ := f_grd_x hf
                                        refine b_sld (pc' := 1055) hsc hg dL_law_1054 rfl ?_
                                        obtain ⟨x226, e225, hf⟩ := Option.bind_eq_some_iff.mp hf
                                        refine k_L_144 (hcs := ⟨by first | (show cells ≤ 601024; omega) | (show cells + 1 ≤ 601024; omega), by first | (show slots ≤ 7293034; omega) | (show slots + 6 ≤ 7293034; omega)⟩) (pc' := 1058) (c_X4_lies l g F hz.2.1 e225) ⟨Nat.le_of_ble_eq_true rfl, Nat.le_of_ble_eq_true rfl⟩ hz.2.1.1 (Nat.le_of_ble_eq_true rfl) dL_law_1055 rfl (fun h227 hq => ?_)
                                        obtain ⟨hz1, hfr1⟩ := hq
                                        have hz2 := d_all_m hz hz1 hfr1
                                        obtain ⟨M228, hf, hz⟩ := f_let_x (P := fun w => d_all h227 x223.2.1 w x223.2.2) hf hz2
                                        refine a_istore (pc' := 1060) (ls' := [(6, .int x226.1), (5, .int x223.1), (0, .ref 1002), (1, .ref 0), (2, .ref 55), (3, .ref 61), (4, .int i)]) dL_law_1058 (by decide) rfl rfl ?_
                                        refine a_aload_n (pc' := 1061) 4 dL_law_1060 rfl rfl rfl ?_
                                        obtain ⟨x230, e229, hf⟩ := Option.bind_eq_some_iff.mp hf
                                        refine k_L_87 (hcs := ⟨by first | (show cells ≤ 601024; omega) | (show cells + 1 ≤ 601024; omega), by first | (show slots ≤ 7293034; omega) | (show slots + 6 ≤ 7293034; omega)⟩) (pc' := 1064) (c_X4_thrown l g F hz.2.1 e229) ⟨Nat.le_of_ble_eq_true rfl, Nat.le_of_ble_eq_true rfl⟩ hz.2.1.1 (Nat.le_of_ble_eq_true rfl) dL_law_1061 rfl ?_
                                        refine a_iload (pc' := 1066) 1 dL_law_1064 rfl rfl ?_
                                        refine a_icmp_eq (pc' := 1069) 1071 dL_law_1066 (by decide) rfl (fun k231 => ?_) (fun k231 => ?_)
                                        · replace hf := (if_pos k231).symm.trans hf
                                          refine a_iload (pc' := 1073) 1 dL_law_1071 rfl rfl ?_
                                          refine a_if_ne (pc' := 1076) 1095 dL_law_1073 (by decide) rfl (fun k232 => ?_) (fun k232 => ?_)
                                          · replace hf := (if_neg k232).symm.trans hf
                                            refine a_goto 1483 dL_law_1095 (by decide) ?_
                                            refine a_iinc (pc' := 1486) (v := i + (4 : Int32)) (ls' := [(4, .int (i + (4 : Int32))), (6, .int x226.1), (5, .int x223.1), (0, .ref 1002), (1, .ref 0), (2, .ref 55), (3, .ref 61)]) 6 dL_law_1483 rfl (by rfl) (by decide) rfl rfl ?_
                                            refine a_goto 23 dL_law_1486 (by decide) ?_
                                            refine a_sub (ls' := [(0, .ref 1002), (1, .ref 0), (2, .ref 55), (3, .ref 61), (4, .int (i + (4 : Int32)))]) [3, 4, 5, 6, 0] rfl ?_
                                            exact ih _ _ _ _ _ _ hf (by show cells + 1 + n ≤ 800; omega) (by show slots + 6 + 6 * n ≤ 10000; omega) _ hz
                                          · replace hf := (if_pos k232).symm.trans hf
                                            refine a_aload_n (pc' := 1077) 5 dL_law_1076 rfl rfl rfl ?_
                                            refine a_iconst (pc' := 1078) (v := (0 : Int32)) dL_law_1077 rfl (by decide) ?_
                                            refine b_lald (pc' := 1079) hz dL_law_1078 rfl ?_
                                            refine a_iload (pc' := 1081) 0 dL_law_1079 rfl rfl ?_
                                            refine a_if_eq (pc' := 1084) 1088 dL_law_1081 (by decide) rfl (fun k233 => ?_) (fun k233 => ?_)
                                            · replace hf := (if_pos k233).symm.trans hf
                                              refine a_lconst (pc' := 1089) (v := (0 : Int64)) dL_law_1088 rfl (by decide) ?_
                                              refine a_lcmp (pc' := 1090) dL_law_1089 rfl ?_
                                              refine a_if_eq (pc' := 1093) 1095 dL_law_1090 (by decide) rfl (fun k234 => ?_) (fun k234 => ?_)
                                              · replace hf := (if_pos k234).symm.trans hf
                                                refine a_goto 1483 dL_law_1095 (by decide) ?_
                                                refine a_iinc (pc' := 1486) (v := i + (4 : Int32)) (ls' := [(4, .int (i + (4 : Int32))), (6, .int x226.1), (5, .int x223.1), (0, .ref 1002), (1, .ref 0), (2, .ref 55), (3, .ref 61)]) 6 dL_law_1483 rfl (by rfl) (by decide) rfl rfl ?_
                                                refine a_goto 23 dL_law_1486 (by decide) ?_
                                                refine a_sub (ls' := [(0, .ref 1002), (1, .ref 0), (2, .ref 55), (3, .ref 61), (4, .int (i + (4 : Int32)))]) [3, 4, 5, 6, 0] rfl ?_
                                                exact ih _ _ _ _ _ _ hf (by show cells + 1 + n ≤ 800; omega) (by show slots + 6 + 6 * n ≤ 10000; omega) _ hz
                                              · replace hf := (if_neg k234).symm.trans hf
                                                exact absurd (Option.some.inj hf) (by decide)
                                            · replace hf := (if_neg k233).symm.trans hf
                                              refine a_lconst (pc' := 1085) (v := (1 : Int64)) dL_law_1084 rfl (by decide) ?_
                                              refine a_goto 1089 dL_law_1085 (by decide) ?_
                                              refine a_lcmp (pc' := 1090) dL_law_1089 rfl ?_
                                              refine a_if_eq (pc' := 1093) 1095 dL_law_1090 (by decide) rfl (fun k235 => ?_) (fun k235 => ?_)
                                              · replace hf := (if_pos k235).symm.trans hf
                                                refine a_goto 1483 dL_law_1095 (by decide) ?_
                                                refine a_iinc (pc' := 1486) (v := i + (4 : Int32)) (ls' := [(4, .int (i + (4 : Int32))), (6, .int x226.1), (5, .int x223.1), (0, .ref 1002), (1, .ref 0), (2, .ref 55), (3, .ref 61)]) 6 dL_law_1483 rfl (by rfl) (by decide) rfl rfl ?_
                                                refine a_goto 23 dL_law_1486 (by decide) ?_
                                                refine a_sub (ls' := [(0, .ref 1002), (1, .ref 0), (2, .ref 55), (3, .ref 61), (4, .int (i + (4 : Int32)))]) [3, 4, 5, 6, 0] rfl ?_
                                                exact ih _ _ _ _ _ _ hf (by show cells + 1 + n ≤ 800; omega) (by show slots + 6 + 6 * n ≤ 10000; omega) _ hz
                                              · replace hf := (if_neg k235).symm.trans hf
                                                exact absurd (Option.some.inj hf) (by decide)
                                        · replace hf := (if_neg k231).symm.trans hf
                                          exact absurd (Option.some.inj hf) (by decide)
                                      · replace hf := (if_neg k221).symm.trans hf
                                        by_cases k236 : ((xs i.toNatClampNeg) &&& ((31 : Int32))) = (17 : Int32)
                                        · replace hf := (if_pos k236).symm.trans hf
                                          refine b_top k236 ?_
                                          refine a_tableIn (off := 1059) 1098 dL_law_39 (by decide) (by decide) rfl (by decide) ?_
                                          refine a_aload_n (pc' := 1099) 1 dL_law_1098 rfl rfl rfl ?_
                                          refine a_aload_n (pc' := 1100) 0 dL_law_1099 rfl rfl rfl ?_
                                          refine a_iload (pc' := 1102) 4 dL_law_1100 rfl rfl ?_
                                          refine a_iconst (pc' := 1103) (v := (1 : Int32)) dL_law_1102 rfl (by decide) ?_
                                          refine a_iadd (pc' := 1104) dL_law_1103 rfl ?_
                                          obtain ⟨hg, hf⟩ := f_grd_x hf
                                          refine b_sld (pc' := 1105) hsc hg dL_law_1104 rfl ?_
                                          refine a_aload_n (pc' := 1106) 0 dL_law_1105 rfl rfl rfl ?_
                                          refine a_iload (pc' := 1108) 4 dL_law_1106 rfl rfl ?_
                                          refine a_iconst (pc' := 1109) (v := (2 : Int32)) dL_law_1108 rfl (by decide) ?_
                                          refine a_iadd (pc' := 1110) dL_law_1109 rfl ?_
                                          obtain ⟨hg, hf⟩ := f_grd_x hf
                                          refine b_sld (pc' := 1111) hsc hg dL_law_1110 rfl ?_
                                          refine a_aload_n (pc' := 1112) 3 dL_law_1111 rfl rfl rfl ?_
                                          obtain ⟨x238, e237, hf⟩ := Option.bind_eq_some_iff.mp hf
                                          refine a_callSW (pc' := 1115) (n := 4) (As := [.ref 0, .int (xs (i + ((1 : Int32))).toNatClampNeg), .int (xs (i + ((2 : Int32))).toNatClampNeg), .ref 61]) (c_L_slates l g F hflags hz e237) (by intro w hw; simp only [List.mem_cons, List.not_mem_nil, or_false] at hw; rcases hw with rfl | rfl | rfl; exact (a_in3 222 rfl rfl); exact (a_in3 223 rfl rfl); exact (a_in1 0 rfl rfl)) (a_in3 224 rfl rfl) ⟨by decide, by decide, by decide⟩ rfl ⟨Nat.le_of_ble_eq_true rfl, Nat.le_of_ble_eq_true rfl⟩ ⟨by show cells + 1 ≤ 601024; omega, by show slots + 6 ≤ 7293034; omega⟩ (Nat.le_of_ble_eq_true rfl) dL_law_1112 rfl (fun r9 h239 hq => ?_)
                                          obtain ⟨rfl, hz⟩ := hq
                                          refine a_istore (pc' := 1117) (ls' := [(5, .int x238.1), (0, .ref 1002), (1, .ref 0), (2, .ref 55), (3, .ref 61), (4, .int i)]) dL_law_1115 (by decide) rfl rfl ?_
                                          refine a_aload_n (pc' := 1118) 3 dL_law_1117 rfl rfl rfl ?_
                                          refine a_aload_n (pc' := 1119) 1 dL_law_1118 rfl rfl rfl ?_
                                          refine a_iload (pc' := 1121) 5 dL_law_1119 rfl rfl ?_
                                          refine a_iconst (pc' := 1122) (v := (1 : Int32)) dL_law_1121 rfl (by decide) ?_
                                          refine a_iadd (pc' := 1123) dL_law_1122 rfl ?_
                                          obtain ⟨hg, hf⟩ := f_grd_x hf
                                          refine b_sld (pc' := 1124) hsc hg dL_law_1123 rfl ?_
                                          refine a_aload_n (pc' := 1125) 1 dL_law_1124 rfl rfl rfl ?_
                                          refine a_iload (pc' := 1127) 5 dL_law_1125 rfl rfl ?_
                                          refine a_iconst (pc' := 1128) (v := (2 : Int32)) dL_law_1127 rfl (by decide) ?_
                                          refine a_iadd (pc' := 1129) dL_law_1128 rfl ?_
                                          obtain ⟨hg, hf⟩ := f_grd_x hf
                                          refine b_sld (pc' := 1130) hsc hg dL_law_1129 rfl ?_
                                          obtain ⟨x241, e240, hf⟩ := Option.bind_eq_some_iff.mp hf
                                          refine k_L_147 (hcs := ⟨by first | (show cells ≤ 601024; omega) | (show cells + 1 ≤ 601024; omega), by first | (show slots ≤ 7293034; omega) | (show slots + 6 ≤ 7293034; omega)⟩) (pc' := 1133) (c_X4_slates l g F hz.2.1 e240) ⟨Nat.le_of_ble_eq_true rfl, Nat.le_of_ble_eq_true rfl⟩ hz.2.1.1 (Nat.le_of_ble_eq_true rfl) dL_law_1130 rfl (fun h242 hq => ?_)
                                          obtain ⟨hz1, hfr1⟩ := hq
                                          have hz2 := d_all_m hz hz1 hfr1
                                          obtain ⟨M243, hf, hz⟩ := f_let_x (P := fun w => d_all h242 x238.2.1 w x238.2.2) hf hz2
                                          refine a_istore (pc' := 1135) (ls' := [(6, .int x241.1), (5, .int x238.1), (0, .ref 1002), (1, .ref 0), (2, .ref 55), (3, .ref 61), (4, .int i)]) dL_law_1133 (by decide) rfl rfl ?_
                                          refine a_aload_n (pc' := 1136) 4 dL_law_1135 rfl rfl rfl ?_
                                          obtain ⟨x245, e244, hf⟩ := Option.bind_eq_some_iff.mp hf
                                          refine k_L_87 (hcs := ⟨by first | (show cells ≤ 601024; omega) | (show cells + 1 ≤ 601024; omega), by first | (show slots ≤ 7293034; omega) | (show slots + 6 ≤ 7293034; omega)⟩) (pc' := 1139) (c_X4_thrown l g F hz.2.1 e244) ⟨Nat.le_of_ble_eq_true rfl, Nat.le_of_ble_eq_true rfl⟩ hz.2.1.1 (Nat.le_of_ble_eq_true rfl) dL_law_1136 rfl ?_
                                          refine a_iload (pc' := 1141) 1 dL_law_1139 rfl rfl ?_
                                          refine a_icmp_eq (pc' := 1144) 1146 dL_law_1141 (by decide) rfl (fun k246 => ?_) (fun k246 => ?_)
                                          · replace hf := (if_pos k246).symm.trans hf
                                            refine a_iload (pc' := 1148) 1 dL_law_1146 rfl rfl ?_
                                            refine a_if_ne (pc' := 1151) 1163 dL_law_1148 (by decide) rfl (fun k247 => ?_) (fun k247 => ?_)
                                            · replace hf := (if_neg k247).symm.trans hf
                                              refine a_goto 1483 dL_law_1163 (by decide) ?_
                                              refine a_iinc (pc' := 1486) (v := i + (4 : Int32)) (ls' := [(4, .int (i + (4 : Int32))), (6, .int x241.1), (5, .int x238.1), (0, .ref 1002), (1, .ref 0), (2, .ref 55), (3, .ref 61)]) 6 dL_law_1483 rfl (by rfl) (by decide) rfl rfl ?_
                                              refine a_goto 23 dL_law_1486 (by decide) ?_
                                              refine a_sub (ls' := [(0, .ref 1002), (1, .ref 0), (2, .ref 55), (3, .ref 61), (4, .int (i + (4 : Int32)))]) [3, 4, 5, 6, 0] rfl ?_
                                              exact ih _ _ _ _ _ _ hf (by show cells + 1 + n ≤ 800; omega) (by show slots + 6 + 6 * n ≤ 10000; omega) _ hz
                                            · replace hf := (if_pos k247).symm.trans hf
                                              refine a_aload_n (pc' := 1152) 5 dL_law_1151 rfl rfl rfl ?_
                                              refine a_iconst (pc' := 1153) (v := (0 : Int32)) dL_law_1152 rfl (by decide) ?_
                                              refine b_lald (pc' := 1154) hz dL_law_1153 rfl ?_
                                              refine a_iload (pc' := 1156) 0 dL_law_1154 rfl rfl ?_
                                              refine a_i2l (pc' := 1157) dL_law_1156 rfl ?_
                                              refine a_lcmp (pc' := 1158) dL_law_1157 rfl ?_
                                              refine a_if_eq (pc' := 1161) 1163 dL_law_1158 (by decide) rfl (fun k248 => ?_) (fun k248 => ?_)
                                              · replace hf := (if_pos k248).symm.trans hf
                                                refine a_goto 1483 dL_law_1163 (by decide) ?_
                                                refine a_iinc (pc' := 1486) (v := i + (4 : Int32)) (ls' := [(4, .int (i + (4 : Int32))), (6, .int x241.1), (5, .int x238.1), (0, .ref 1002), (1, .ref 0), (2, .ref 55), (3, .ref 61)]) 6 dL_law_1483 rfl (by rfl) (by decide) rfl rfl ?_
                                                refine a_goto 23 dL_law_1486 (by decide) ?_
                                                refine a_sub (ls' := [(0, .ref 1002), (1, .ref 0), (2, .ref 55), (3, .ref 61), (4, .int (i + (4 : Int32)))]) [3, 4, 5, 6, 0] rfl ?_
                                                exact ih _ _ _ _ _ _ hf (by show cells + 1 + n ≤ 800; omega) (by show slots + 6 + 6 * n ≤ 10000; omega) _ hz
                                              · replace hf := (if_neg k248).symm.trans hf
                                                exact absurd (Option.some.inj hf) (by decide)
                                          · replace hf := (if_neg k246).symm.trans hf
                                            exact absurd (Option.some.inj hf) (by decide)
                                        · replace hf := (if_neg k236).symm.trans hf
                                          by_cases k249 : ((xs i.toNatClampNeg) &&& ((31 : Int32))) = (18 : Int32)
                                          · replace hf := (if_pos k249).symm.trans hf
                                            refine b_top k249 ?_
                                            refine a_tableIn (off := 1127) 1166 dL_law_39 (by decide) (by decide) rfl (by decide) ?_
                                            refine a_aload_n (pc' := 1167) 1 dL_law_1166 rfl rfl rfl ?_
                                            refine a_aload_n (pc' := 1168) 0 dL_law_1167 rfl rfl rfl ?_
                                            refine a_iload (pc' := 1170) 4 dL_law_1168 rfl rfl ?_
                                            refine a_iconst (pc' := 1171) (v := (1 : Int32)) dL_law_1170 rfl (by decide) ?_
                                            refine a_iadd (pc' := 1172) dL_law_1171 rfl ?_
                                            obtain ⟨hg, hf⟩ := f_grd_x hf
                                            refine b_sld (pc' := 1173) hsc hg dL_law_1172 rfl ?_
                                            refine a_aload_n (pc' := 1174) 3 dL_law_1173 rfl rfl rfl ?_
                                            obtain ⟨x251, e250, hf⟩ := Option.bind_eq_some_iff.mp hf
                                            refine a_callSW (pc' := 1177) (n := 3) (As := [.ref 0, .int (xs (i + ((1 : Int32))).toNatClampNeg), .ref 61]) (c_L_count l g F hflags hz e250) (by intro w hw; simp only [List.mem_cons, List.not_mem_nil, or_false] at hw; rcases hw with rfl | rfl | rfl; exact (a_in3 226 rfl rfl); exact (a_in3 227 rfl rfl); exact (a_in1 0 rfl rfl)) (a_in3 228 rfl rfl) ⟨by decide, by decide, by decide⟩ rfl ⟨Nat.le_of_ble_eq_true rfl, Nat.le_of_ble_eq_true rfl⟩ ⟨by show cells + 1 ≤ 601024; omega, by show slots + 6 ≤ 7293034; omega⟩ (Nat.le_of_ble_eq_true rfl) dL_law_1174 rfl (fun r9 h252 hq => ?_)
                                            obtain ⟨rfl, hz⟩ := hq
                                            refine a_istore (pc' := 1179) (ls' := [(5, .int x251.1), (0, .ref 1002), (1, .ref 0), (2, .ref 55), (3, .ref 61), (4, .int i)]) dL_law_1177 (by decide) rfl rfl ?_
                                            refine a_aload_n (pc' := 1180) 3 dL_law_1179 rfl rfl rfl ?_
                                            refine a_aload_n (pc' := 1181) 1 dL_law_1180 rfl rfl rfl ?_
                                            refine a_iload (pc' := 1183) 5 dL_law_1181 rfl rfl ?_
                                            refine a_iconst (pc' := 1184) (v := (1 : Int32)) dL_law_1183 rfl (by decide) ?_
                                            refine a_iadd (pc' := 1185) dL_law_1184 rfl ?_
                                            obtain ⟨hg, hf⟩ := f_grd_x hf
                                            refine b_sld (pc' := 1186) hsc hg dL_law_1185 rfl ?_
                                            obtain ⟨x254, e253, hf⟩ := Option.bind_eq_some_iff.mp hf
                                            refine k_L_150 (hcs := ⟨by first | (show cells ≤ 601024; omega) | (show cells + 1 ≤ 601024; omega), by first | (show slots ≤ 7293034; omega) | (show slots + 6 ≤ 7293034; omega)⟩) (pc' := 1189) (c_X4_count l g F hz.2.1 e253) ⟨Nat.le_of_ble_eq_true rfl, Nat.le_of_ble_eq_true rfl⟩ hz.2.1.1 (Nat.le_of_ble_eq_true rfl) dL_law_1186 rfl (fun h255 hq => ?_)
                                            obtain ⟨hz1, hfr1⟩ := hq
                                            have hz2 := d_all_m hz hz1 hfr1
                                            obtain ⟨M256, hf, hz⟩ := f_let_x (P := fun w => d_all h255 x251.2.1 w x251.2.2) hf hz2
                                            refine a_istore (pc' := 1191) (ls' := [(6, .int x254.1), (5, .int x251.1), (0, .ref 1002), (1, .ref 0), (2, .ref 55), (3, .ref 61), (4, .int i)]) dL_law_1189 (by decide) rfl rfl ?_
                                            refine a_aload_n (pc' := 1192) 4 dL_law_1191 rfl rfl rfl ?_
                                            obtain ⟨x258, e257, hf⟩ := Option.bind_eq_some_iff.mp hf
                                            refine k_L_87 (hcs := ⟨by first | (show cells ≤ 601024; omega) | (show cells + 1 ≤ 601024; omega), by first | (show slots ≤ 7293034; omega) | (show slots + 6 ≤ 7293034; omega)⟩) (pc' := 1195) (c_X4_thrown l g F hz.2.1 e257) ⟨Nat.le_of_ble_eq_true rfl, Nat.le_of_ble_eq_true rfl⟩ hz.2.1.1 (Nat.le_of_ble_eq_true rfl) dL_law_1192 rfl ?_
                                            refine a_iload (pc' := 1197) 1 dL_law_1195 rfl rfl ?_
                                            refine a_icmp_eq (pc' := 1200) 1202 dL_law_1197 (by decide) rfl (fun k259 => ?_) (fun k259 => ?_)
                                            · replace hf := (if_pos k259).symm.trans hf
                                              refine a_iload (pc' := 1204) 1 dL_law_1202 rfl rfl ?_
                                              refine a_if_ne (pc' := 1207) 1219 dL_law_1204 (by decide) rfl (fun k260 => ?_) (fun k260 => ?_)
                                              · replace hf := (if_neg k260).symm.trans hf
                                                refine a_goto 1483 dL_law_1219 (by decide) ?_
                                                refine a_iinc (pc' := 1486) (v := i + (4 : Int32)) (ls' := [(4, .int (i + (4 : Int32))), (6, .int x254.1), (5, .int x251.1), (0, .ref 1002), (1, .ref 0), (2, .ref 55), (3, .ref 61)]) 6 dL_law_1483 rfl (by rfl) (by decide) rfl rfl ?_
                                                refine a_goto 23 dL_law_1486 (by decide) ?_
                                                refine a_sub (ls' := [(0, .ref 1002), (1, .ref 0), (2, .ref 55), (3, .ref 61), (4, .int (i + (4 : Int32)))]) [3, 4, 5, 6, 0] rfl ?_
                                                exact ih _ _ _ _ _ _ hf (by show cells + 1 + n ≤ 800; omega) (by show slots + 6 + 6 * n ≤ 10000; omega) _ hz
                                              · replace hf := (if_pos k260).symm.trans hf
                                                refine a_aload_n (pc' := 1208) 5 dL_law_1207 rfl rfl rfl ?_
                                                refine a_iconst (pc' := 1209) (v := (0 : Int32)) dL_law_1208 rfl (by decide) ?_
                                                refine b_lald (pc' := 1210) hz dL_law_1209 rfl ?_
                                                refine a_iload (pc' := 1212) 0 dL_law_1210 rfl rfl ?_
                                                refine a_i2l (pc' := 1213) dL_law_1212 rfl ?_
                                                refine a_lcmp (pc' := 1214) dL_law_1213 rfl ?_
                                                refine a_if_eq (pc' := 1217) 1219 dL_law_1214 (by decide) rfl (fun k261 => ?_) (fun k261 => ?_)
                                                · replace hf := (if_pos k261).symm.trans hf
                                                  refine a_goto 1483 dL_law_1219 (by decide) ?_
                                                  refine a_iinc (pc' := 1486) (v := i + (4 : Int32)) (ls' := [(4, .int (i + (4 : Int32))), (6, .int x254.1), (5, .int x251.1), (0, .ref 1002), (1, .ref 0), (2, .ref 55), (3, .ref 61)]) 6 dL_law_1483 rfl (by rfl) (by decide) rfl rfl ?_
                                                  refine a_goto 23 dL_law_1486 (by decide) ?_
                                                  refine a_sub (ls' := [(0, .ref 1002), (1, .ref 0), (2, .ref 55), (3, .ref 61), (4, .int (i + (4 : Int32)))]) [3, 4, 5, 6, 0] rfl ?_
                                                  exact ih _ _ _ _ _ _ hf (by show cells + 1 + n ≤ 800; omega) (by show slots + 6 + 6 * n ≤ 10000; omega) _ hz
                                                · replace hf := (if_neg k261).symm.trans hf
                                                  exact absurd (Option.some.inj hf) (by decide)
                                            · replace hf := (if_neg k259).symm.trans hf
                                              exact absurd (Option.some.inj hf) (by decide)
                                          · replace hf := (if_neg k249).symm.trans hf
                                            by_cases k262 : ((xs i.toNatClampNeg) &&& ((31 : Int32))) = (19 : Int32)
                                            · replace hf := (if_pos k262).symm.trans hf
                                              refine b_top k262 ?_
                                              refine a_tableIn (off := 1183) 1222 dL_law_39 (by decide) (by decide) rfl (by decide) ?_
                                              refine a_aload_n (pc' := 1223) 1 dL_law_1222 rfl rfl rfl ?_
                                              refine a_aload_n (pc' := 1224) 0 dL_law_1223 rfl rfl rfl ?_
                                              refine a_iload (pc' := 1226) 4 dL_law_1224 rfl rfl ?_
                                              refine a_iconst (pc' := 1227) (v := (1 : Int32)) dL_law_1226 rfl (by decide) ?_
                                              refine a_iadd (pc' := 1228) dL_law_1227 rfl ?_
                                              obtain ⟨hg, hf⟩ := f_grd_x hf
                                              refine b_sld (pc' := 1229) hsc hg dL_law_1228 rfl ?_
                                              refine a_aload_n (pc' := 1230) 3 dL_law_1229 rfl rfl rfl ?_
                                              obtain ⟨x264, e263, hf⟩ := Option.bind_eq_some_iff.mp hf
                                              refine a_callSW (pc' := 1233) (n := 3) (As := [.ref 0, .int (xs (i + ((1 : Int32))).toNatClampNeg), .ref 61]) (c_L_setting l g F hflags hz e263) (by intro w hw; simp only [List.mem_cons, List.not_mem_nil, or_false] at hw; rcases hw with rfl | rfl | rfl; exact (a_in3 230 rfl rfl); exact (a_in3 231 rfl rfl); exact (a_in1 0 rfl rfl)) (a_in3 232 rfl rfl) ⟨by decide, by decide, by decide⟩ rfl ⟨Nat.le_of_ble_eq_true rfl, Nat.le_of_ble_eq_true rfl⟩ ⟨by show cells + 1 ≤ 601024; omega, by show slots + 6 ≤ 7293034; omega⟩ (Nat.le_of_ble_eq_true rfl) dL_law_1230 rfl (fun r9 h265 hq => ?_)
                                              obtain ⟨rfl, hz⟩ := hq
                                              refine a_istore (pc' := 1235) (ls' := [(5, .int x264.1), (0, .ref 1002), (1, .ref 0), (2, .ref 55), (3, .ref 61), (4, .int i)]) dL_law_1233 (by decide) rfl rfl ?_
                                              refine a_aload_n (pc' := 1236) 3 dL_law_1235 rfl rfl rfl ?_
                                              refine a_aload_n (pc' := 1237) 1 dL_law_1236 rfl rfl rfl ?_
                                              refine a_iload (pc' := 1239) 5 dL_law_1237 rfl rfl ?_
                                              refine a_iconst (pc' := 1240) (v := (1 : Int32)) dL_law_1239 rfl (by decide) ?_
                                              refine a_iadd (pc' := 1241) dL_law_1240 rfl ?_
                                              obtain ⟨hg, hf⟩ := f_grd_x hf
                                              refine b_sld (pc' := 1242) hsc hg dL_law_1241 rfl ?_
                                              obtain ⟨x267, e266, hf⟩ := Option.bind_eq_some_iff.mp hf
                                              refine k_L_153 (hcs := ⟨by first | (show cells ≤ 601024; omega) | (show cells + 1 ≤ 601024; omega), by first | (show slots ≤ 7293034; omega) | (show slots + 6 ≤ 7293034; omega)⟩) (pc' := 1245) (c_X4_setting l g F hz.2.1 e266) ⟨Nat.le_of_ble_eq_true rfl, Nat.le_of_ble_eq_true rfl⟩ hz.2.1.1 (Nat.le_of_ble_eq_true rfl) dL_law_1242 rfl (fun h268 hq => ?_)
                                              obtain ⟨hz1, hfr1⟩ := hq
                                              have hz2 := d_all_m hz hz1 hfr1
                                              obtain ⟨M269, hf, hz⟩ := f_let_x (P := fun w => d_all h268 x264.2.1 w x264.2.2) hf hz2
                                              refine a_istore (pc' := 1247) (ls' := [(6, .int x267.1), (5, .int x264.1), (0, .ref 1002), (1, .ref 0), (2, .ref 55), (3, .ref 61), (4, .int i)]) dL_law_1245 (by decide) rfl rfl ?_
                                              refine a_aload_n (pc' := 1248) 4 dL_law_1247 rfl rfl rfl ?_
                                              obtain ⟨x271, e270, hf⟩ := Option.bind_eq_some_iff.mp hf
                                              refine k_L_87 (hcs := ⟨by first | (show cells ≤ 601024; omega) | (show cells + 1 ≤ 601024; omega), by first | (show slots ≤ 7293034; omega) | (show slots + 6 ≤ 7293034; omega)⟩) (pc' := 1251) (c_X4_thrown l g F hz.2.1 e270) ⟨Nat.le_of_ble_eq_true rfl, Nat.le_of_ble_eq_true rfl⟩ hz.2.1.1 (Nat.le_of_ble_eq_true rfl) dL_law_1248 rfl ?_
                                              refine a_iload (pc' := 1253) 1 dL_law_1251 rfl rfl ?_
                                              refine a_icmp_eq (pc' := 1256) 1258 dL_law_1253 (by decide) rfl (fun k272 => ?_) (fun k272 => ?_)
                                              · replace hf := (if_pos k272).symm.trans hf
                                                refine a_iload (pc' := 1260) 1 dL_law_1258 rfl rfl ?_
                                                refine a_if_ne (pc' := 1263) 1275 dL_law_1260 (by decide) rfl (fun k273 => ?_) (fun k273 => ?_)
                                                · replace hf := (if_neg k273).symm.trans hf
                                                  refine a_goto 1483 dL_law_1275 (by decide) ?_
                                                  refine a_iinc (pc' := 1486) (v := i + (4 : Int32)) (ls' := [(4, .int (i + (4 : Int32))), (6, .int x267.1), (5, .int x264.1), (0, .ref 1002), (1, .ref 0), (2, .ref 55), (3, .ref 61)]) 6 dL_law_1483 rfl (by rfl) (by decide) rfl rfl ?_
                                                  refine a_goto 23 dL_law_1486 (by decide) ?_
                                                  refine a_sub (ls' := [(0, .ref 1002), (1, .ref 0), (2, .ref 55), (3, .ref 61), (4, .int (i + (4 : Int32)))]) [3, 4, 5, 6, 0] rfl ?_
                                                  exact ih _ _ _ _ _ _ hf (by show cells + 1 + n ≤ 800; omega) (by show slots + 6 + 6 * n ≤ 10000; omega) _ hz
                                                · replace hf := (if_pos k273).symm.trans hf
                                                  refine a_aload_n (pc' := 1264) 5 dL_law_1263 rfl rfl rfl ?_
                                                  refine a_iconst (pc' := 1265) (v := (0 : Int32)) dL_law_1264 rfl (by decide) ?_
                                                  refine b_lald (pc' := 1266) hz dL_law_1265 rfl ?_
                                                  refine a_iload (pc' := 1268) 0 dL_law_1266 rfl rfl ?_
                                                  refine a_i2l (pc' := 1269) dL_law_1268 rfl ?_
                                                  refine a_lcmp (pc' := 1270) dL_law_1269 rfl ?_
                                                  refine a_if_eq (pc' := 1273) 1275 dL_law_1270 (by decide) rfl (fun k274 => ?_) (fun k274 => ?_)
                                                  · replace hf := (if_pos k274).symm.trans hf
                                                    refine a_goto 1483 dL_law_1275 (by decide) ?_
                                                    refine a_iinc (pc' := 1486) (v := i + (4 : Int32)) (ls' := [(4, .int (i + (4 : Int32))), (6, .int x267.1), (5, .int x264.1), (0, .ref 1002), (1, .ref 0), (2, .ref 55), (3, .ref 61)]) 6 dL_law_1483 rfl (by rfl) (by decide) rfl rfl ?_
                                                    refine a_goto 23 dL_law_1486 (by decide) ?_
                                                    refine a_sub (ls' := [(0, .ref 1002), (1, .ref 0), (2, .ref 55), (3, .ref 61), (4, .int (i + (4 : Int32)))]) [3, 4, 5, 6, 0] rfl ?_
                                                    exact ih _ _ _ _ _ _ hf (by show cells + 1 + n ≤ 800; omega) (by show slots + 6 + 6 * n ≤ 10000; omega) _ hz
                                                  · replace hf := (if_neg k274).symm.trans hf
                                                    exact absurd (Option.some.inj hf) (by decide)
                                              · replace hf := (if_neg k272).symm.trans hf
                                                exact absurd (Option.some.inj hf) (by decide)
                                            · replace hf := (if_neg k262).symm.trans hf
                                              by_cases k275 : ((xs i.toNatClampNeg) &&& ((31 : Int32))) = (20 : Int32)
                                              · replace hf := (if_pos k275).symm.trans hf
                                                refine b_top k275 ?_
                                                refine a_tableIn (off := 1239) 1278 dL_law_39 (by decide) (by decide) rfl (by decide) ?_
                                                refine a_aload_n (pc' := 1279) 1 dL_law_1278 rfl rfl rfl ?_
                                                refine a_aload_n (pc' := 1280) 0 dL_law_1279 rfl rfl rfl ?_
                                                refine a_iload (pc' := 1282) 4 dL_law_1280 rfl rfl ?_
                                                refine a_iconst (pc' := 1283) (v := (1 : Int32)) dL_law_1282 rfl (by decide) ?_
                                                refine a_iadd (pc' := 1284) dL_law_1283 rfl ?_
                                                obtain ⟨hg, hf⟩ := f_grd_x hf
                                                refine b_sld (pc' := 1285) hsc hg dL_law_1284 rfl ?_
                                                refine a_aload_n (pc' := 1286) 0 dL_law_1285 rfl rfl rfl ?_
                                                refine a_iload (pc' := 1288) 4 dL_law_1286 rfl rfl ?_
                                                refine a_iconst (pc' := 1289) (v := (2 : Int32)) dL_law_1288 rfl (by decide) ?_
                                                refine a_iadd (pc' := 1290) dL_law_1289 rfl ?_
                                                obtain ⟨hg, hf⟩ := f_grd_x hf
                                                refine b_sld (pc' := 1291) hsc hg dL_law_1290 rfl ?_
                                                refine a_aload_n (pc' := 1292) 3 dL_law_1291 rfl rfl rfl ?_
                                                obtain ⟨x277, e276, hf⟩ := Option.bind_eq_some_iff.mp hf
                                                refine a_callSW (pc' := 1295) (n := 4) (As := [.ref 0, .int (xs (i + ((1 : Int32))).toNatClampNeg), .int (xs (i + ((2 : Int32))).toNatClampNeg), .ref 61]) (c_L_toTop l g F hflags hz e276) (by intro w hw; simp only [List.mem_cons, List.not_mem_nil, or_false] at hw; rcases hw with rfl | rfl | rfl; exact (a_in3 234 rfl rfl); exact (a_in3 235 rfl rfl); exact (a_in1 0 rfl rfl)) (a_in3 236 rfl rfl) ⟨by decide, by decide, by decide⟩ rfl ⟨Nat.le_of_ble_eq_true rfl, Nat.le_of_ble_eq_true rfl⟩ ⟨by show cells + 1 ≤ 601024; omega, by show slots + 6 ≤ 7293034; omega⟩ (Nat.le_of_ble_eq_true rfl) dL_law_1292 rfl (fun r9 h278 hq => ?_)
                                                obtain ⟨rfl, hz⟩ := hq
                                                refine a_istore (pc' := 1297) (ls' := [(5, .int x277.1), (0, .ref 1002), (1, .ref 0), (2, .ref 55), (3, .ref 61), (4, .int i)]) dL_law_1295 (by decide) rfl rfl ?_
                                                refine a_aload_n (pc' := 1298) 3 dL_law_1297 rfl rfl rfl ?_
                                                refine a_aload_n (pc' := 1299) 1 dL_law_1298 rfl rfl rfl ?_
                                                refine a_iload (pc' := 1301) 5 dL_law_1299 rfl rfl ?_
                                                refine a_iconst (pc' := 1302) (v := (1 : Int32)) dL_law_1301 rfl (by decide) ?_
                                                refine a_iadd (pc' := 1303) dL_law_1302 rfl ?_
                                                obtain ⟨hg, hf⟩ := f_grd_x hf
                                                refine b_sld (pc' := 1304) hsc hg dL_law_1303 rfl ?_
                                                refine a_aload_n (pc' := 1305) 1 dL_law_1304 rfl rfl rfl ?_
                                                refine a_iload (pc' := 1307) 5 dL_law_1305 rfl rfl ?_
                                                refine a_iconst (pc' := 1308) (v := (2 : Int32)) dL_law_1307 rfl (by decide) ?_
                                                refine a_iadd (pc' := 1309) dL_law_1308 rfl ?_
                                                obtain ⟨hg, hf⟩ := f_grd_x hf
                                                refine b_sld (pc' := 1310) hsc hg dL_law_1309 rfl ?_
                                                obtain ⟨x280, e279, hf⟩ := Option.bind_eq_some_iff.mp hf
                                                refine k_L_156 (hcs := ⟨by first | (show cells ≤ 601024; omega) | (show cells + 1 ≤ 601024; omega), by first | (show slots ≤ 7293034; omega) | (show slots + 6 ≤ 7293034; omega)⟩) (pc' := 1313) (c_X4_toTop l g F hz.2.1 e279) ⟨Nat.le_of_ble_eq_true rfl, Nat.le_of_ble_eq_true rfl⟩ hz.2.1.1 (Nat.le_of_ble_eq_true rfl) dL_law_1310 rfl (fun h281 hq => ?_)
                                                obtain ⟨hz1, hfr1⟩ := hq
                                                have hz2 := d_all_m hz hz1 hfr1
                                                obtain ⟨M282, hf, hz⟩ := f_let_x (P := fun w => d_all h281 x277.2.1 w x277.2.2) hf hz2
                                                refine a_istore (pc' := 1315) (ls' := [(6, .int x280.1), (5, .int x277.1), (0, .ref 1002), (1, .ref 0), (2, .ref 55), (3, .ref 61), (4, .int i)]) dL_law_1313 (by decide) rfl rfl ?_
                                                refine a_aload_n (pc' := 1316) 4 dL_law_1315 rfl rfl rfl ?_
                                                obtain ⟨x284, e283, hf⟩ := Option.bind_eq_some_iff.mp hf
                                                refine k_L_87 (hcs := ⟨by first | (show cells ≤ 601024; omega) | (show cells + 1 ≤ 601024; omega), by first | (show slots ≤ 7293034; omega) | (show slots + 6 ≤ 7293034; omega)⟩) (pc' := 1319) (c_X4_thrown l g F hz.2.1 e283) ⟨Nat.le_of_ble_eq_true rfl, Nat.le_of_ble_eq_true rfl⟩ hz.2.1.1 (Nat.le_of_ble_eq_true rfl) dL_law_1316 rfl ?_
                                                refine a_iload (pc' := 1321) 1 dL_law_1319 rfl rfl ?_
                                                refine a_icmp_eq (pc' := 1324) 1326 dL_law_1321 (by decide) rfl (fun k285 => ?_) (fun k285 => ?_)
                                                · replace hf := (if_pos k285).symm.trans hf
                                                  refine a_iload (pc' := 1328) 1 dL_law_1326 rfl rfl ?_
                                                  refine a_if_ne (pc' := 1331) 1343 dL_law_1328 (by decide) rfl (fun k286 => ?_) (fun k286 => ?_)
                                                  · replace hf := (if_neg k286).symm.trans hf
                                                    refine a_goto 1483 dL_law_1343 (by decide) ?_
                                                    refine a_iinc (pc' := 1486) (v := i + (4 : Int32)) (ls' := [(4, .int (i + (4 : Int32))), (6, .int x280.1), (5, .int x277.1), (0, .ref 1002), (1, .ref 0), (2, .ref 55), (3, .ref 61)]) 6 dL_law_1483 rfl (by rfl) (by decide) rfl rfl ?_
                                                    refine a_goto 23 dL_law_1486 (by decide) ?_
                                                    refine a_sub (ls' := [(0, .ref 1002), (1, .ref 0), (2, .ref 55), (3, .ref 61), (4, .int (i + (4 : Int32)))]) [3, 4, 5, 6, 0] rfl ?_
                                                    exact ih _ _ _ _ _ _ hf (by show cells + 1 + n ≤ 800; omega) (by show slots + 6 + 6 * n ≤ 10000; omega) _ hz
                                                  · replace hf := (if_pos k286).symm.trans hf
                                                    refine a_aload_n (pc' := 1332) 5 dL_law_1331 rfl rfl rfl ?_
                                                    refine a_iconst (pc' := 1333) (v := (0 : Int32)) dL_law_1332 rfl (by decide) ?_
                                                    refine b_lald (pc' := 1334) hz dL_law_1333 rfl ?_
                                                    refine a_iload (pc' := 1336) 0 dL_law_1334 rfl rfl ?_
                                                    refine a_i2l (pc' := 1337) dL_law_1336 rfl ?_
                                                    refine a_lcmp (pc' := 1338) dL_law_1337 rfl ?_
                                                    refine a_if_eq (pc' := 1341) 1343 dL_law_1338 (by decide) rfl (fun k287 => ?_) (fun k287 => ?_)
                                                    · replace hf := (if_pos k287).symm.trans hf
                                                      refine a_goto 1483 dL_law_1343 (by decide) ?_
                                                      refine a_iinc (pc' := 1486) (v := i + (4 : Int32)) (ls' := [(4, .int (i + (4 : Int32))), (6, .int x280.1), (5, .int x277.1), (0, .ref 1002), (1, .ref 0), (2, .ref 55), (3, .ref 61)]) 6 dL_law_1483 rfl (by rfl) (by decide) rfl rfl ?_
                                                      refine a_goto 23 dL_law_1486 (by decide) ?_
                                                      refine a_sub (ls' := [(0, .ref 1002), (1, .ref 0), (2, .ref 55), (3, .ref 61), (4, .int (i + (4 : Int32)))]) [3, 4, 5, 6, 0] rfl ?_
                                                      exact ih _ _ _ _ _ _ hf (by show cells + 1 + n ≤ 800; omega) (by show slots + 6 + 6 * n ≤ 10000; omega) _ hz
                                                    · replace hf := (if_neg k287).symm.trans hf
                                                      exact absurd (Option.some.inj hf) (by decide)
                                                · replace hf := (if_neg k285).symm.trans hf
                                                  exact absurd (Option.some.inj hf) (by decide)
                                              · replace hf := (if_neg k275).symm.trans hf
                                                by_cases k288 : ((xs i.toNatClampNeg) &&& ((31 : Int32))) = (21 : Int32)
                                                · replace hf := (if_pos k288).symm.trans hf
                                                  refine b_top k288 ?_
                                                  refine a_tableIn (off := 1307) 1346 dL_law_39 (by decide) (by decide) rfl (by decide) ?_
                                                  refine a_aload_n (pc' := 1347) 1 dL_law_1346 rfl rfl rfl ?_
                                                  refine a_aload_n (pc' := 1348) 0 dL_law_1347 rfl rfl rfl ?_
                                                  refine a_iload (pc' := 1350) 4 dL_law_1348 rfl rfl ?_
                                                  refine a_iconst (pc' := 1351) (v := (1 : Int32)) dL_law_1350 rfl (by decide) ?_
                                                  refine a_iadd (pc' := 1352) dL_law_1351 rfl ?_
                                                  obtain ⟨hg, hf⟩ := f_grd_x hf
                                                  refine b_sld (pc' := 1353) hsc hg dL_law_1352 rfl ?_
                                                  refine a_aload_n (pc' := 1354) 3 dL_law_1353 rfl rfl rfl ?_
                                                  obtain ⟨x290, e289, hf⟩ := Option.bind_eq_some_iff.mp hf
                                                  refine a_callSW (pc' := 1357) (n := 3) (As := [.ref 0, .int (xs (i + ((1 : Int32))).toNatClampNeg), .ref 61]) (c_L_reach l g F hflags hz e289) (by intro w hw; simp only [List.mem_cons, List.not_mem_nil, or_false] at hw; rcases hw with rfl | rfl | rfl; exact (a_in3 238 rfl rfl); exact (a_in3 239 rfl rfl); exact (a_in1 0 rfl rfl)) (a_in4 0 rfl rfl) ⟨by decide, by decide, by decide⟩ rfl ⟨Nat.le_of_ble_eq_true rfl, Nat.le_of_ble_eq_true rfl⟩ ⟨by show cells + 1 ≤ 601024; omega, by show slots + 6 ≤ 7293034; omega⟩ (Nat.le_of_ble_eq_true rfl) dL_law_1354 rfl (fun r9 h291 hq => ?_)
                                                  obtain ⟨rfl, hz⟩ := hq
                                                  refine a_istore (pc' := 1359) (ls' := [(5, .int x290.1), (0, .ref 1002), (1, .ref 0), (2, .ref 55), (3, .ref 61), (4, .int i)]) dL_law_1357 (by decide) rfl rfl ?_
                                                  refine a_aload_n (pc' := 1360) 3 dL_law_1359 rfl rfl rfl ?_
                                                  refine a_aload_n (pc' := 1361) 1 dL_law_1360 rfl rfl rfl ?_
                                                  refine a_iload (pc' := 1363) 5 dL_law_1361 rfl rfl ?_
                                                  refine a_iconst (pc' := 1364) (v := (1 : Int32)) dL_law_1363 rfl (by decide) ?_
                                                  refine a_iadd (pc' := 1365) dL_law_1364 rfl ?_
                                                  obtain ⟨hg, hf⟩ := f_grd_x hf
                                                  refine b_sld (pc' := 1366) hsc hg dL_law_1365 rfl ?_
                                                  obtain ⟨x293, e292, hf⟩ := Option.bind_eq_some_iff.mp hf
                                                  refine k_L_159 (hcs := ⟨by first | (show cells ≤ 601024; omega) | (show cells + 1 ≤ 601024; omega), by first | (show slots ≤ 7293034; omega) | (show slots + 6 ≤ 7293034; omega)⟩) (pc' := 1369) (c_X4_reach l g F hz.2.1 e292) ⟨Nat.le_of_ble_eq_true rfl, Nat.le_of_ble_eq_true rfl⟩ hz.2.1.1 (Nat.le_of_ble_eq_true rfl) dL_law_1366 rfl (fun h294 hq => ?_)
                                                  obtain ⟨hz1, hfr1⟩ := hq
                                                  have hz2 := d_all_m hz hz1 hfr1
                                                  obtain ⟨M295, hf, hz⟩ := f_let_x (P := fun w => d_all h294 x290.2.1 w x290.2.2) hf hz2
                                                  refine a_istore (pc' := 1371) (ls' := [(6, .int x293.1), (5, .int x290.1), (0, .ref 1002), (1, .ref 0), (2, .ref 55), (3, .ref 61), (4, .int i)]) dL_law_1369 (by decide) rfl rfl ?_
                                                  refine a_aload_n (pc' := 1372) 4 dL_law_1371 rfl rfl rfl ?_
                                                  obtain ⟨x297, e296, hf⟩ := Option.bind_eq_some_iff.mp hf
                                                  refine k_L_87 (hcs := ⟨by first | (show cells ≤ 601024; omega) | (show cells + 1 ≤ 601024; omega), by first | (show slots ≤ 7293034; omega) | (show slots + 6 ≤ 7293034; omega)⟩) (pc' := 1375) (c_X4_thrown l g F hz.2.1 e296) ⟨Nat.le_of_ble_eq_true rfl, Nat.le_of_ble_eq_true rfl⟩ hz.2.1.1 (Nat.le_of_ble_eq_true rfl) dL_law_1372 rfl ?_
                                                  refine a_iload (pc' := 1377) 1 dL_law_1375 rfl rfl ?_
                                                  refine a_icmp_eq (pc' := 1380) 1382 dL_law_1377 (by decide) rfl (fun k298 => ?_) (fun k298 => ?_)
                                                  · replace hf := (if_pos k298).symm.trans hf
                                                    refine a_iload (pc' := 1384) 1 dL_law_1382 rfl rfl ?_
                                                    refine a_if_ne (pc' := 1387) 1399 dL_law_1384 (by decide) rfl (fun k299 => ?_) (fun k299 => ?_)
                                                    · replace hf := (if_neg k299).symm.trans hf
                                                      refine a_goto 1483 dL_law_1399 (by decide) ?_
                                                      refine a_iinc (pc' := 1486) (v := i + (4 : Int32)) (ls' := [(4, .int (i + (4 : Int32))), (6, .int x293.1), (5, .int x290.1), (0, .ref 1002), (1, .ref 0), (2, .ref 55), (3, .ref 61)]) 6 dL_law_1483 rfl (by rfl) (by decide) rfl rfl ?_
                                                      refine a_goto 23 dL_law_1486 (by decide) ?_
                                                      refine a_sub (ls' := [(0, .ref 1002), (1, .ref 0), (2, .ref 55), (3, .ref 61), (4, .int (i + (4 : Int32)))]) [3, 4, 5, 6, 0] rfl ?_
                                                      exact ih _ _ _ _ _ _ hf (by show cells + 1 + n ≤ 800; omega) (by show slots + 6 + 6 * n ≤ 10000; omega) _ hz
                                                    · replace hf := (if_pos k299).symm.trans hf
                                                      refine a_aload_n (pc' := 1388) 5 dL_law_1387 rfl rfl rfl ?_
                                                      refine a_iconst (pc' := 1389) (v := (0 : Int32)) dL_law_1388 rfl (by decide) ?_
                                                      refine b_lald (pc' := 1390) hz dL_law_1389 rfl ?_
                                                      refine a_iload (pc' := 1392) 0 dL_law_1390 rfl rfl ?_
                                                      refine a_i2l (pc' := 1393) dL_law_1392 rfl ?_
                                                      refine a_lcmp (pc' := 1394) dL_law_1393 rfl ?_
                                                      refine a_if_eq (pc' := 1397) 1399 dL_law_1394 (by decide) rfl (fun k300 => ?_) (fun k300 => ?_)
                                                      · replace hf := (if_pos k300).symm.trans hf
                                                        refine a_goto 1483 dL_law_1399 (by decide) ?_
                                                        refine a_iinc (pc' := 1486) (v := i + (4 : Int32)) (ls' := [(4, .int (i + (4 : Int32))), (6, .int x293.1), (5, .int x290.1), (0, .ref 1002), (1, .ref 0), (2, .ref 55), (3, .ref 61)]) 6 dL_law_1483 rfl (by rfl) (by decide) rfl rfl ?_
                                                        refine a_goto 23 dL_law_1486 (by decide) ?_
                                                        refine a_sub (ls' := [(0, .ref 1002), (1, .ref 0), (2, .ref 55), (3, .ref 61), (4, .int (i + (4 : Int32)))]) [3, 4, 5, 6, 0] rfl ?_
                                                        exact ih _ _ _ _ _ _ hf (by show cells + 1 + n ≤ 800; omega) (by show slots + 6 + 6 * n ≤ 10000; omega) _ hz
                                                      · replace hf := (if_neg k300).symm.trans hf
                                                        exact absurd (Option.some.inj hf) (by decide)
                                                  · replace hf := (if_neg k298).symm.trans hf
                                                    exact absurd (Option.some.inj hf) (by decide)
                                                · replace hf := (if_neg k288).symm.trans hf
                                                  by_cases k301 : ((xs i.toNatClampNeg) &&& ((31 : Int32))) = (22 : Int32)
                                                  · replace hf := (if_pos k301).symm.trans hf
                                                    refine b_top k301 ?_
                                                    refine a_tableIn (off := 1363) 1402 dL_law_39 (by decide) (by decide) rfl (by decide) ?_
                                                    refine a_aload_n (pc' := 1403) 1 dL_law_1402 rfl rfl rfl ?_
                                                    obtain ⟨x303, e302, hf⟩ := Option.bind_eq_some_iff.mp hf
                                                    refine k_L_160 (hcs := ⟨by first | (show cells ≤ 601024; omega) | (show cells + 1 ≤ 601024; omega), by first | (show slots ≤ 7293034; omega) | (show slots + 6 ≤ 7293034; omega)⟩) (pc' := 1406) (c_X3_dryDays l g F hz.1 e302) ⟨Nat.le_of_ble_eq_true rfl, Nat.le_of_ble_eq_true rfl⟩ hz.1.1 (Nat.le_of_ble_eq_true rfl) dL_law_1403 rfl (fun h304 hq => ?_)
                                                    obtain ⟨hz1, hfr1⟩ := hq
                                                    have hz2 := d_all_c hz hz1 hfr1
                                                    obtain ⟨q305, hf, hz⟩ := f_let_x (P := fun w => d_all h304 w M v) hf hz2
                                                    refine a_aload_n (pc' := 1407) 2 dL_law_1406 rfl rfl rfl ?_
                                                    obtain ⟨x307, e306, hf⟩ := Option.bind_eq_some_iff.mp hf
                                                    refine k_L_163 (hcs := ⟨by first | (show cells ≤ 601024; omega) | (show cells + 1 ≤ 601024; omega), by first | (show slots ≤ 7293034; omega) | (show slots + 6 ≤ 7293034; omega)⟩) (pc' := 1410) (c_X4_dryDays l g F hz.2.1 e306) ⟨Nat.le_of_ble_eq_true rfl, Nat.le_of_ble_eq_true rfl⟩ hz.2.1.1 (Nat.le_of_ble_eq_true rfl) dL_law_1407 rfl (fun h308 hq => ?_)
                                                    obtain ⟨hz1, hfr1⟩ := hq
                                                    have hz2 := d_all_m hz hz1 hfr1
                                                    obtain ⟨M309, hf, hz⟩ := f_let_x (P := fun w => d_all h308 q305 w v) hf hz2
                                                    refine a_icmp_eq (pc' := 1413) 1483 dL_law_1410 (by decide) rfl (fun k310 => ?_) (fun k310 => ?_)
                                                    · replace hf := (if_pos k310).symm.trans hf
                                                      refine a_iinc (pc' := 1486) (v := i + (4 : Int32)) (ls' := [(4, .int (i + (4 : Int32))), (0, .ref 1002), (1, .ref 0), (2, .ref 55), (3, .ref 61)]) 4 dL_law_1483 rfl (by rfl) (by decide) rfl rfl ?_
                                                      refine a_goto 23 dL_law_1486 (by decide) ?_
                                                      refine a_sub (ls' := [(0, .ref 1002), (1, .ref 0), (2, .ref 55), (3, .ref 61), (4, .int (i + (4 : Int32)))]) [1, 2, 3, 4, 0] rfl ?_
                                                      exact ih _ _ _ _ _ _ hf (by omega) (by omega) _ hz
                                                    · replace hf := (if_neg k310).symm.trans hf
                                                      exact absurd (Option.some.inj hf) (by decide)
                                                  · replace hf := (if_neg k301).symm.trans hf
                                                    by_cases k311 : ((xs i.toNatClampNeg) &&& ((31 : Int32))) = (23 : Int32)
                                                    · replace hf := (if_pos k311).symm.trans hf
                                                      refine b_top k311 ?_
                                                      refine a_tableIn (off := 1376) 1415 dL_law_39 (by decide) (by decide) rfl (by decide) ?_
                                                      refine a_aload_n (pc' := 1416) 1 dL_law_1415 rfl rfl rfl ?_
                                                      obtain ⟨x313, e312, hf⟩ := Option.bind_eq_some_iff.mp hf
                                                      refine k_L_164 (hcs := ⟨by first | (show cells ≤ 601024; omega) | (show cells + 1 ≤ 601024; omega), by first | (show slots ≤ 7293034; omega) | (show slots + 6 ≤ 7293034; omega)⟩) (pc' := 1419) (c_X3_bestLength l g F hz.1 e312) ⟨Nat.le_of_ble_eq_true rfl, Nat.le_of_ble_eq_true rfl⟩ hz.1.1 (Nat.le_of_ble_eq_true rfl) dL_law_1416 rfl ?_
                                                      refine a_aload_n (pc' := 1420) 2 dL_law_1419 rfl rfl rfl ?_
                                                      obtain ⟨x315, e314, hf⟩ := Option.bind_eq_some_iff.mp hf
                                                      refine k_L_167 (hcs := ⟨by first | (show cells ≤ 601024; omega) | (show cells + 1 ≤ 601024; omega), by first | (show slots ≤ 7293034; omega) | (show slots + 6 ≤ 7293034; omega)⟩) (pc' := 1423) (c_X4_bestLength l g F hz.2.1 e314) ⟨Nat.le_of_ble_eq_true rfl, Nat.le_of_ble_eq_true rfl⟩ hz.2.1.1 (Nat.le_of_ble_eq_true rfl) dL_law_1420 rfl (fun h316 hq => ?_)
                                                      obtain ⟨hz1, hfr1⟩ := hq
                                                      have hz2 := d_all_m hz hz1 hfr1
                                                      obtain ⟨M317, hf, hz⟩ := f_let_x (P := fun w => d_all h316 q w v) hf hz2
                                                      refine a_icmp_eq (pc' := 1426) 1483 dL_law_1423 (by decide) rfl (fun k318 => ?_) (fun k318 => ?_)
                                                      · replace hf := (if_pos k318).symm.trans hf
                                                        refine a_iinc (pc' := 1486) (v := i + (4 : Int32)) (ls' := [(4, .int (i + (4 : Int32))), (0, .ref 1002), (1, .ref 0), (2, .ref 55), (3, .ref 61)]) 4 dL_law_1483 rfl (by rfl) (by decide) rfl rfl ?_
                                                        refine a_goto 23 dL_law_1486 (by decide) ?_
                                                        refine a_sub (ls' := [(0, .ref 1002), (1, .ref 0), (2, .ref 55), (3, .ref 61), (4, .int (i + (4 : Int32)))]) [1, 2, 3, 4, 0] rfl ?_
                                                        exact ih _ _ _ _ _ _ hf (by omega) (by omega) _ hz
                                                      · replace hf := (if_neg k318).symm.trans hf
                                                        exact absurd (Option.some.inj hf) (by decide)
                                                    · replace hf := (if_neg k311).symm.trans hf
                                                      by_cases k319 : ((xs i.toNatClampNeg) &&& ((31 : Int32))) = (24 : Int32)
                                                      · replace hf := (if_pos k319).symm.trans hf
                                                        refine b_top k319 ?_
                                                        refine a_tableIn (off := 1389) 1428 dL_law_39 (by decide) (by decide) rfl (by decide) ?_
                                                        refine a_aload_n (pc' := 1429) 1 dL_law_1428 rfl rfl rfl ?_
                                                        obtain ⟨x321, e320, hf⟩ := Option.bind_eq_some_iff.mp hf
                                                        refine k_L_168 (hcs := ⟨by first | (show cells ≤ 601024; omega) | (show cells + 1 ≤ 601024; omega), by first | (show slots ≤ 7293034; omega) | (show slots + 6 ≤ 7293034; omega)⟩) (pc' := 1432) (c_X3_meanPrice l g F hz.1 e320) ⟨Nat.le_of_ble_eq_true rfl, Nat.le_of_ble_eq_true rfl⟩ hz.1.1 (Nat.le_of_ble_eq_true rfl) dL_law_1429 rfl ?_
                                                        refine a_dstore (pc' := 1434) (ls' := [(5, .double x321), (0, .ref 1002), (1, .ref 0), (2, .ref 55), (3, .ref 61), (4, .int i)]) dL_law_1432 (by decide) rfl rfl ?_
                                                        refine a_aload_n (pc' := 1435) 3 dL_law_1434 rfl rfl rfl ?_
                                                        obtain ⟨x323, e322, hf⟩ := Option.bind_eq_some_iff.mp hf
                                                        refine k_L_172 (hcs := ⟨by first | (show cells ≤ 601024; omega) | (show cells + 1 ≤ 601024; omega), by first | (show slots ≤ 7293034; omega) | (show slots + 6 ≤ 7293034; omega)⟩) (pc' := 1438) (c_X4_meanPrice l g F hz.2.1 e322) ⟨Nat.le_of_ble_eq_true rfl, Nat.le_of_ble_eq_true rfl⟩ hz.2.1.1 (Nat.le_of_ble_eq_true rfl) dL_law_1435 rfl (fun h324 hq => ?_)
                                                        obtain ⟨hz1, hfr1⟩ := hq
                                                        have hz2 := d_all_m hz hz1 hfr1
                                                        obtain ⟨M325, hf, hz⟩ := f_let_x (P := fun w => d_all h324 q w v) hf hz2
                                                        refine a_dstore (pc' := 1440) (ls' := [(7, .double x323.1), (5, .double x321), (0, .ref 1002), (1, .ref 0), (2, .ref 55), (3, .ref 61), (4, .int i)]) dL_law_1438 (by decide) rfl rfl ?_
                                                        refine a_dload (pc' := 1442) 1 dL_law_1440 rfl rfl ?_
                                                        refine a_dload (pc' := 1444) 0 dL_law_1442 rfl rfl ?_
                                                        refine a_dcmp (pc' := 1445) dL_law_1444 rfl ?_
                                                        refine a_if_eq (pc' := 1448) 1466 dL_law_1445 (by decide) rfl (fun k326 => ?_) (fun k326 => ?_)
                                                        · replace hf := (if_pos k326).symm.trans hf
                                                          refine a_goto 1483 dL_law_1466 (by decide) ?_
                                                          refine a_iinc (pc' := 1486) (v := i + (4 : Int32)) (ls' := [(4, .int (i + (4 : Int32))), (7, .double x323.1), (5, .double x321), (0, .ref 1002), (1, .ref 0), (2, .ref 55), (3, .ref 61)]) 6 dL_law_1483 rfl (by rfl) (by decide) rfl rfl ?_
                                                          refine a_goto 23 dL_law_1486 (by decide) ?_
                                                          refine a_sub (ls' := [(0, .ref 1002), (1, .ref 0), (2, .ref 55), (3, .ref 61), (4, .int (i + (4 : Int32)))]) [3, 4, 5, 6, 0] rfl ?_
                                                          exact ih _ _ _ _ _ _ hf (by omega) (by omega) _ hz
                                                        · replace hf := (if_neg k326).symm.trans hf
                                                          refine a_dload (pc' := 1450) 1 dL_law_1448 rfl rfl ?_
                                                          refine a_dload (pc' := 1452) 1 dL_law_1450 rfl rfl ?_
                                                          refine a_dcmp (pc' := 1453) dL_law_1452 rfl ?_
                                                          refine a_if_eq (pc' := 1456) 1464 dL_law_1453 (by decide) rfl (fun k327 => ?_) (fun k327 => ?_)
                                                          · replace hf := (if_pos k327).symm.trans hf
                                                            exact absurd (Option.some.inj hf) (by decide)
                                                          · replace hf := (if_neg k327).symm.trans hf
                                                            refine a_dload (pc' := 1458) 0 dL_law_1456 rfl rfl ?_
                                                            refine a_dload (pc' := 1460) 0 dL_law_1458 rfl rfl ?_
                                                            refine a_dcmp (pc' := 1461) dL_law_1460 rfl ?_
                                                            refine a_if_ne (pc' := 1464) 1466 dL_law_1461 (by decide) rfl (fun k328 => ?_) (fun k328 => ?_)
                                                            · replace hf := (if_neg k328).symm.trans hf
                                                              refine a_goto 1483 dL_law_1466 (by decide) ?_
                                                              refine a_iinc (pc' := 1486) (v := i + (4 : Int32)) (ls' := [(4, .int (i + (4 : Int32))), (7, .double x323.1), (5, .double x321), (0, .ref 1002), (1, .ref 0), (2, .ref 55), (3, .ref 61)]) 6 dL_law_1483 rfl (by rfl) (by decide) rfl rfl ?_
                                                              refine a_goto 23 dL_law_1486 (by decide) ?_
                                                              refine a_sub (ls' := [(0, .ref 1002), (1, .ref 0), (2, .ref 55), (3, .ref 61), (4, .int (i + (4 : Int32)))]) [3, 4, 5, 6, 0] rfl ?_
                                                              exact ih _ _ _ _ _ _ hf (by omega) (by omega) _ hz
                                                            · replace hf := (if_pos k328).symm.trans hf
                                                              exact absurd (Option.some.inj hf) (by decide)
                                                      · replace hf := (if_neg k319).symm.trans hf
                                                        by_cases k329 : ((xs i.toNatClampNeg) &&& ((31 : Int32))) = (25 : Int32)
                                                        · replace hf := (if_pos k329).symm.trans hf
                                                          refine b_top k329 ?_
                                                          refine a_tableIn (off := 1430) 1469 dL_law_39 (by decide) (by decide) rfl (by decide) ?_
                                                          refine a_aload_n (pc' := 1470) 1 dL_law_1469 rfl rfl rfl ?_
                                                          obtain ⟨x331, e330, hf⟩ := Option.bind_eq_some_iff.mp hf
                                                          refine k_L_173 (hcs := ⟨by first | (show cells ≤ 601024; omega) | (show cells + 1 ≤ 601024; omega), by first | (show slots ≤ 7293034; omega) | (show slots + 6 ≤ 7293034; omega)⟩) (pc' := 1473) (c_X3_digest l g F hz.1 e330) ⟨Nat.le_of_ble_eq_true rfl, Nat.le_of_ble_eq_true rfl⟩ hz.1.1 (Nat.le_of_ble_eq_true rfl) dL_law_1470 rfl (fun h332 hq => ?_)
                                                          obtain ⟨hz1, hfr1⟩ := hq
                                                          have hz2 := d_all_c hz hz1 hfr1
                                                          obtain ⟨q333, hf, hz⟩ := f_let_x (P := fun w => d_all h332 w M v) hf hz2
                                                          refine a_aload_n (pc' := 1474) 2 dL_law_1473 rfl rfl rfl ?_
                                                          obtain ⟨x335, e334, hf⟩ := Option.bind_eq_some_iff.mp hf
                                                          refine k_L_177 (hcs := ⟨by first | (show cells ≤ 601024; omega) | (show cells + 1 ≤ 601024; omega), by first | (show slots ≤ 7293034; omega) | (show slots + 6 ≤ 7293034; omega)⟩) (pc' := 1477) (c_X4_digest l g F hz.2.1 e334) ⟨Nat.le_of_ble_eq_true rfl, Nat.le_of_ble_eq_true rfl⟩ hz.2.1.1 (Nat.le_of_ble_eq_true rfl) dL_law_1474 rfl (fun h336 hq => ?_)
                                                          obtain ⟨hz1, hfr1⟩ := hq
                                                          have hz2 := d_all_m hz hz1 hfr1
                                                          obtain ⟨M337, hf, hz⟩ := f_let_x (P := fun w => d_all h336 q333 w v) hf hz2
                                                          refine a_lcmp (pc' := 1478) dL_law_1477 rfl ?_
                                                          refine a_if_eq (pc' := 1481) 1483 dL_law_1478 (by decide) rfl (fun k338 => ?_) (fun k338 => ?_)
                                                          · replace hf := (if_pos k338).symm.trans hf
                                                            refine a_iinc (pc' := 1486) (v := i + (4 : Int32)) (ls' := [(4, .int (i + (4 : Int32))), (0, .ref 1002), (1, .ref 0), (2, .ref 55), (3, .ref 61)]) 4 dL_law_1483 rfl (by rfl) (by decide) rfl rfl ?_
                                                            refine a_goto 23 dL_law_1486 (by decide) ?_
                                                            refine a_sub (ls' := [(0, .ref 1002), (1, .ref 0), (2, .ref 55), (3, .ref 61), (4, .int (i + (4 : Int32)))]) [1, 2, 3, 4, 0] rfl ?_
                                                            exact ih _ _ _ _ _ _ hf (by omega) (by omega) _ hz
                                                          · replace hf := (if_neg k338).symm.trans hf
                                                            exact absurd (Option.some.inj hf) (by decide)
                                                        · replace hf := (if_neg k329).symm.trans hf
                                                          refine a_tableOut 1483 dL_law_39 (b_tout26_0 k2 k15 k28 k41 k54 k67 k80 k93 k106 k138 k151 k164 k174 k182 k195 k208 k221 k236 k249 k262 k275 k288 k301 k311 k319 k329) (by decide) ?_
                                                          refine a_iinc (pc' := 1486) (v := i + (4 : Int32)) (ls' := [(4, .int (i + (4 : Int32))), (0, .ref 1002), (1, .ref 0), (2, .ref 55), (3, .ref 61)]) 4 dL_law_1483 rfl (by rfl) (by decide) rfl rfl ?_
                                                          refine a_goto 23 dL_law_1486 (by decide) ?_
                                                          refine a_sub (ls' := [(0, .ref 1002), (1, .ref 0), (2, .ref 55), (3, .ref 61), (4, .int (i + (4 : Int32)))]) [1, 2, 3, 4, 0] rfl ?_
                                                          exact ih _ _ _ _ _ _ hf (by omega) (by omega) _ hz
