/-! the copying of roofs, the saved states -/
set_option maxHeartbeats 4000000 in
set_option maxRecDepth 100000 in
theorem c_X3_copyRow (l : Launch) (g : a_G) {h : List va_E} {a b n : Nat} {f f2 : d_Z} (hn : n = 100 ∨ n = 25) (ha : d_arr h a n 0 f) (hb : d_arr h b n 0 f2) : a_CT l g yX3_copyRow cX3_copyRow 2 none (a_rm 1 40) [.ref a, .ref b] h none none (fun r h' => r = none ∧ d_arr h' b n 0 f ∧ d_frm b 1 h h') := by
  refine a_enter ⟨by decide, rfl, Nat.le_of_ble_eq_true rfl⟩ (fun p e s m args below meth c hr hin => ?_)
  refine a_sub (ls' := [(0, .ref a), (1, .ref b)]) [0, 1] rfl ?_
  refine a_aload_n (pc' := 1) 0 dX3_copyRow_0 rfl rfl rfl ?_
  refine a_iconst (pc' := 2) (v := (0 : Int32)) dX3_copyRow_1 rfl (by decide) ?_
  refine a_aload_n (pc' := 3) 1 dX3_copyRow_2 rfl rfl rfl ?_
  refine a_iconst (pc' := 4) (v := (0 : Int32)) dX3_copyRow_3 rfl (by decide) ?_
  refine a_aload_n (pc' := 5) 0 dX3_copyRow_4 rfl rfl rfl ?_
  refine b_alen (pc' := 6) (kd := 0) (by decide) ha dX3_copyRow_5 rfl ?_
  refine a_aload_n (pc' := 7) 1 dX3_copyRow_6 rfl rfl rfl ?_
  refine b_alen (pc' := 8) (kd := 0) (by decide) hb dX3_copyRow_7 rfl ?_
  refine a_mmin (pc' := 11) (by intro w hw; simp only [List.mem_cons, List.not_mem_nil, or_false] at hw; rcases hw with rfl | rfl | rfl | rfl; exact (a_in2 12 rfl rfl); exact (a_in2 13 rfl rfl); exact (a_in1 9 rfl rfl); exact (a_in2 14 rfl rfl)) dX3_copyRow_8 (Nat.le_of_ble_eq_true rfl) (Nat.le_of_ble_eq_true rfl) ⟨Nat.le_of_ble_eq_true rfl, Nat.le_of_ble_eq_true rfl⟩ rfl ?_
  have hv : (if Int32.ofNat n < Int32.ofNat n then Int32.ofNat n else Int32.ofNat n) = Int32.ofNat n := by split <;> rfl
  refine b_top hv ?_
  obtain ⟨f', h1, h2⟩ := ha
  obtain ⟨f2', h3, h4⟩ := hb
  have hl : b < h.length := (List.getElem?_eq_some_iff.mp h3).1
  have hc : (Int32.ofNat n).toNatClampNeg = n := by rcases hn with rfl | rfl <;> decide
  refine a_copyi (pc' := 14) (by intro w hw; simp only [List.mem_cons, List.not_mem_nil, or_false] at hw; rcases hw with rfl | rfl | rfl | rfl; exact (a_in2 15 rfl rfl); exact (a_in2 17 rfl rfl); exact (a_in2 16 rfl rfl); exact (a_in1 10 rfl rfl)) h1 h3 (by decide) (by decide) (by rcases hn with rfl | rfl <;> decide) (by rcases hn with rfl | rfl <;> decide) (by rcases hn with rfl | rfl <;> decide) dX3_copyRow_11 (Nat.le_of_ble_eq_true rfl) (by decide) rfl ?_
  refine a_vret hr ⟨rfl, ⟨_, List.getElem?_set_self hl, fun k hk => ?_⟩, d_frm.set _⟩ dX3_copyRow_14
  rw [hc]
  show va_cpy f' f2' 0 0 n k = f k
  rw [pk_cpy_in (Nat.zero_le k) (by omega)]
  show f' (0 + (k - 0)) = f k
  rw [Nat.zero_add, Nat.sub_zero]
  exact h2 k hk
section AM
variable {p : Program} {l : Launch} {e : Env} {R : Room} {s : State} {m : MethodId} {args : Array Value} {below : List Frame} {meth : Method} {c : Code} {Q : State → Prop} {cc : ByteArray} {nL : Nat} {g : a_G} {cells slots : Nat} {sz : Option Nat} {pc pc' : Nat} {ls : List (Nat × Value)} {st : List Value} {h : List va_E}
theorem k_X1_49 {a b : Nat} {P : List va_E → Prop} (hM : a_CT l g yX3_copyRow cX3_copyRow 2 none (a_rm 1 40) [.ref a, .ref b] h sz none (fun r h' => r = none ∧ P h')) (hR : 1 + 1 ≤ R.frames ∧ 8 + (2 + 11) + 40 ≤ R.locals) (hcat : (st.map fun v => v.category).sum ≤ 8) (hd : decode cc pc = .ok (.invokestatic 49, 3)) (hp : pc + 3 = pc') (kk : ∀ h', P h' → a_W p l e R s m args below meth c Q RX1 cc nL g cells slots none pc' ls st h') (hcs : cells ≤ R.cells ∧ slots ≤ R.slots := by exact ⟨Nat.le_of_ble_eq_true rfl, Nat.le_of_ble_eq_true rfl⟩) : a_W p l e R s m args below meth c Q RX1 cc nL g cells slots sz pc ls (.ref b :: .ref a :: st) h := a_callSN (n := 2) (As := [.ref a, .ref b]) hM (by simp [a_nest]) (by intro w hw; simp only [List.mem_cons, List.not_mem_nil, or_false] at hw; rcases hw with rfl | rfl; exact (a_in2 10 rfl rfl); exact (a_in1 1 rfl rfl)) (a_in2 11 rfl rfl) ⟨by decide, by decide, by decide⟩ rfl hR hcs hcat hd hp (fun r h' hq => by obtain ⟨rfl, hq⟩ := hq; exact kk h' hq)
end AM
set_option maxHeartbeats 4000000 in
set_option maxRecDepth 100000 in
theorem c_copyFrom (l : Launch) (g : a_G) {h : List va_E} {i j : Nat} {z zo : d_Z} (hij : j + 6 ≤ i ∨ i + 6 ≤ j) (hb : zo 9 = 0 ∨ zo 9 = 1) (hz : d_roof h i z) (ho : d_roof h j zo) : a_CT l g yX1_copyFrom cX1_copyFrom 2 none (a_rm 2 61) [.ref i, .ref j] h none none (fun r h' => r = none ∧ d_roof h' i zo ∧ d_frm i 6 h h') := by
  refine a_enter ⟨by decide, rfl, Nat.le_of_ble_eq_true rfl⟩ (fun p e s m args below meth c hr hin => ?_)
  refine a_sub (ls' := [(0, .ref i), (1, .ref j)]) [0, 1] rfl ?_
  have hfr : d_frm i 6 h h := d_frm.rf
  refine a_aload_n (pc' := 1) 0 dX1_copyFrom_0 rfl rfl rfl ?_
  refine a_aload_n (pc' := 2) 1 dX1_copyFrom_1 rfl rfl rfl ?_
  refine g_X1_9 (pc' := 5) ho.1 rfl dX1_copyFrom_2 rfl ?_
  refine pt_X1_9 (pc' := 8) (z := z) hz dX1_copyFrom_5 rfl (fun h1 hz1 hfr1 => ?_)
  replace ho := ho.kp hfr1 hij
  replace hfr := d_frm.tr hfr hfr1 (by omega)
  replace hz := hz1
  refine a_aload_n (pc' := 9) 0 dX1_copyFrom_8 rfl rfl rfl ?_
  refine a_aload_n (pc' := 10) 1 dX1_copyFrom_9 rfl rfl rfl ?_
  refine g_X1_15 (pc' := 13) ho.1 rfl dX1_copyFrom_10 rfl ?_
  refine pt_X1_15 (pc' := 16) (z := (upd z 0 (zo 0))) hz dX1_copyFrom_13 rfl (fun h2 hz1 hfr1 => ?_)
  replace ho := ho.kp hfr1 hij
  replace hfr := d_frm.tr hfr hfr1 (by omega)
  replace hz := hz1
  refine a_aload_n (pc' := 17) 0 dX1_copyFrom_16 rfl rfl rfl ?_
  refine a_aload_n (pc' := 18) 1 dX1_copyFrom_17 rfl rfl rfl ?_
  refine g_X1_46 (pc' := 21) ho.1 rfl dX1_copyFrom_18 rfl ?_
  refine pt_X1_46 (pc' := 24) (z := (upd (upd z 0 (zo 0)) 1 (zo 1))) hz dX1_copyFrom_21 rfl (fun h3 hz1 hfr1 => ?_)
  replace ho := ho.kp hfr1 hij
  replace hfr := d_frm.tr hfr hfr1 (by omega)
  replace hz := hz1
  refine a_aload_n (pc' := 25) 1 dX1_copyFrom_24 rfl rfl rfl ?_
  refine g_X1_18 (pc' := 28) ho.1 rfl dX1_copyFrom_25 rfl ?_
  refine a_aload_n (pc' := 29) 0 dX1_copyFrom_28 rfl rfl rfl ?_
  refine g_X1_18 (pc' := 32) hz.1 rfl dX1_copyFrom_29 rfl ?_
  refine k_X1_49 (pc' := 35) (c_X3_copyRow l g (n := 100) (by decide) ho.2.1 hz.2.1) ⟨Nat.le_of_ble_eq_true rfl, Nat.le_of_ble_eq_true rfl⟩ (Nat.le_of_ble_eq_true rfl) dX1_copyFrom_32 rfl (fun h4 hq => ?_)
  obtain ⟨hz1, hfr1⟩ := hq
  replace ho := ho.kp hfr1 (by omega)
  replace hfr := d_frm.tr hfr hfr1 (by omega)
  replace hz := d_r_a1 hz hz1 hfr1
  refine a_aload_n (pc' := 36) 1 dX1_copyFrom_35 rfl rfl rfl ?_
  refine g_X1_22 (pc' := 39) ho.1 rfl dX1_copyFrom_36 rfl ?_
  refine a_aload_n (pc' := 40) 0 dX1_copyFrom_39 rfl rfl rfl ?_
  refine g_X1_22 (pc' := 43) hz.1 rfl dX1_copyFrom_40 rfl ?_
  refine k_X1_49 (pc' := 46) (c_X3_copyRow l g (n := 100) (by decide) ho.2.2.1 hz.2.2.1) ⟨Nat.le_of_ble_eq_true rfl, Nat.le_of_ble_eq_true rfl⟩ (Nat.le_of_ble_eq_true rfl) dX1_copyFrom_43 rfl (fun h5 hq => ?_)
  obtain ⟨hz1, hfr1⟩ := hq
  replace ho := ho.kp hfr1 (by omega)
  replace hfr := d_frm.tr hfr hfr1 (by omega)
  replace hz := d_r_a2 hz hz1 hfr1
  refine a_aload_n (pc' := 47) 1 dX1_copyFrom_46 rfl rfl rfl ?_
  refine g_X1_25 (pc' := 50) ho.1 rfl dX1_copyFrom_47 rfl ?_
  refine a_aload_n (pc' := 51) 0 dX1_copyFrom_50 rfl rfl rfl ?_
  refine g_X1_25 (pc' := 54) hz.1 rfl dX1_copyFrom_51 rfl ?_
  refine k_X1_49 (pc' := 57) (c_X3_copyRow l g (n := 25) (by decide) ho.2.2.2.1 hz.2.2.2.1) ⟨Nat.le_of_ble_eq_true rfl, Nat.le_of_ble_eq_true rfl⟩ (Nat.le_of_ble_eq_true rfl) dX1_copyFrom_54 rfl (fun h6 hq => ?_)
  obtain ⟨hz1, hfr1⟩ := hq
  replace ho := ho.kp hfr1 (by omega)
  replace hfr := d_frm.tr hfr hfr1 (by omega)
  replace hz := d_r_a3 hz hz1 hfr1
  refine a_aload_n (pc' := 58) 1 dX1_copyFrom_57 rfl rfl rfl ?_
  refine g_X1_28 (pc' := 61) ho.1 rfl dX1_copyFrom_58 rfl ?_
  refine a_aload_n (pc' := 62) 0 dX1_copyFrom_61 rfl rfl rfl ?_
  refine g_X1_28 (pc' := 65) hz.1 rfl dX1_copyFrom_62 rfl ?_
  refine k_X1_49 (pc' := 68) (c_X3_copyRow l g (n := 25) (by decide) ho.2.2.2.2.1 hz.2.2.2.2.1) ⟨Nat.le_of_ble_eq_true rfl, Nat.le_of_ble_eq_true rfl⟩ (Nat.le_of_ble_eq_true rfl) dX1_copyFrom_65 rfl (fun h7 hq => ?_)
  obtain ⟨hz1, hfr1⟩ := hq
  replace ho := ho.kp hfr1 (by omega)
  replace hfr := d_frm.tr hfr hfr1 (by omega)
  replace hz := d_r_a4 hz hz1 hfr1
  refine a_aload_n (pc' := 69) 1 dX1_copyFrom_68 rfl rfl rfl ?_
  refine g_X1_31 (pc' := 72) ho.1 rfl dX1_copyFrom_69 rfl ?_
  refine a_aload_n (pc' := 73) 0 dX1_copyFrom_72 rfl rfl rfl ?_
  refine g_X1_31 (pc' := 76) hz.1 rfl dX1_copyFrom_73 rfl ?_
  refine k_X1_49 (pc' := 79) (c_X3_copyRow l g (n := 25) (by decide) ho.2.2.2.2.2 hz.2.2.2.2.2) ⟨Nat.le_of_ble_eq_true rfl, Nat.le_of_ble_eq_true rfl⟩ (Nat.le_of_ble_eq_true rfl) dX1_copyFrom_76 rfl (fun h8 hq => ?_)
  obtain ⟨hz1, hfr1⟩ := hq
  replace ho := ho.kp hfr1 (by omega)
  replace hfr := d_frm.tr hfr hfr1 (by omega)
  replace hz := d_r_a5 hz hz1 hfr1
  refine a_aload_n (pc' := 80) 0 dX1_copyFrom_79 rfl rfl rfl ?_
  refine a_aload_n (pc' := 81) 1 dX1_copyFrom_80 rfl rfl rfl ?_
  refine g_X1_34 (pc' := 84) ho.1 rfl dX1_copyFrom_81 rfl ?_
  refine pt_X1_34 (pc' := 87) (z := (d_put (d_put (d_put (d_put (d_put (upd (upd (upd z 0 (zo 0)) 1 (zo 1)) 2 (zo 2)) 14 100 (fun k => zo (14 + k))) 114 100 (fun k => zo (114 + k))) 214 25 (fun k => zo (214 + k))) 239 25 (fun k => zo (239 + k))) 264 25 (fun k => zo (264 + k)))) hz dX1_copyFrom_84 rfl (fun h9 hz1 hfr1 => ?_)
  replace ho := ho.kp hfr1 hij
  replace hfr := d_frm.tr hfr hfr1 (by omega)
  replace hz := hz1
  refine a_aload_n (pc' := 88) 0 dX1_copyFrom_87 rfl rfl rfl ?_
  refine a_aload_n (pc' := 89) 1 dX1_copyFrom_88 rfl rfl rfl ?_
  refine g_X1_37 (pc' := 92) ho.1 rfl dX1_copyFrom_89 rfl ?_
  refine pt_X1_37 (pc' := 95) (z := (upd (d_put (d_put (d_put (d_put (d_put (upd (upd (upd z 0 (zo 0)) 1 (zo 1)) 2 (zo 2)) 14 100 (fun k => zo (14 + k))) 114 100 (fun k => zo (114 + k))) 214 25 (fun k => zo (214 + k))) 239 25 (fun k => zo (239 + k))) 264 25 (fun k => zo (264 + k))) 3 (zo 3))) hz dX1_copyFrom_92 rfl (fun h10 hz1 hfr1 => ?_)
  replace ho := ho.kp hfr1 hij
  replace hfr := d_frm.tr hfr hfr1 (by omega)
  replace hz := hz1
  refine a_aload_n (pc' := 96) 0 dX1_copyFrom_95 rfl rfl rfl ?_
  refine a_aload_n (pc' := 97) 1 dX1_copyFrom_96 rfl rfl rfl ?_
  refine g_X1_40 (pc' := 100) ho.1 rfl dX1_copyFrom_97 rfl ?_
  refine pt_X1_40 (pc' := 103) (z := (upd (upd (d_put (d_put (d_put (d_put (d_put (upd (upd (upd z 0 (zo 0)) 1 (zo 1)) 2 (zo 2)) 14 100 (fun k => zo (14 + k))) 114 100 (fun k => zo (114 + k))) 214 25 (fun k => zo (214 + k))) 239 25 (fun k => zo (239 + k))) 264 25 (fun k => zo (264 + k))) 3 (zo 3)) 4 (zo 4))) hz dX1_copyFrom_100 rfl (fun h11 hz1 hfr1 => ?_)
  replace ho := ho.kp hfr1 hij
  replace hfr := d_frm.tr hfr hfr1 (by omega)
  replace hz := hz1
  refine a_aload_n (pc' := 104) 0 dX1_copyFrom_103 rfl rfl rfl ?_
  refine a_aload_n (pc' := 105) 1 dX1_copyFrom_104 rfl rfl rfl ?_
  refine g_X1_53 (pc' := 108) ho.1 rfl dX1_copyFrom_105 rfl ?_
  refine pt_X1_53 (pc' := 111) (z := (upd (upd (upd (d_put (d_put (d_put (d_put (d_put (upd (upd (upd z 0 (zo 0)) 1 (zo 1)) 2 (zo 2)) 14 100 (fun k => zo (14 + k))) 114 100 (fun k => zo (114 + k))) 214 25 (fun k => zo (214 + k))) 239 25 (fun k => zo (239 + k))) 264 25 (fun k => zo (264 + k))) 3 (zo 3)) 4 (zo 4)) 5 (zo 5))) hz dX1_copyFrom_108 rfl (fun h12 hz1 hfr1 => ?_)
  replace ho := ho.kp hfr1 hij
  replace hfr := d_frm.tr hfr hfr1 (by omega)
  replace hz := hz1
  refine a_aload_n (pc' := 112) 0 dX1_copyFrom_111 rfl rfl rfl ?_
  refine a_aload_n (pc' := 113) 1 dX1_copyFrom_112 rfl rfl rfl ?_
  refine g_X1_43 (pc' := 116) ho.1 rfl dX1_copyFrom_113 rfl ?_
  refine pt_X1_43 (pc' := 119) (z := (upd (upd (upd (upd (d_put (d_put (d_put (d_put (d_put (upd (upd (upd z 0 (zo 0)) 1 (zo 1)) 2 (zo 2)) 14 100 (fun k => zo (14 + k))) 114 100 (fun k => zo (114 + k))) 214 25 (fun k => zo (214 + k))) 239 25 (fun k => zo (239 + k))) 264 25 (fun k => zo (264 + k))) 3 (zo 3)) 4 (zo 4)) 5 (zo 5)) 6 (zo 6))) hz dX1_copyFrom_116 rfl (fun h13 hz1 hfr1 => ?_)
  replace ho := ho.kp hfr1 hij
  replace hfr := d_frm.tr hfr hfr1 (by omega)
  replace hz := hz1
  refine a_aload_n (pc' := 120) 0 dX1_copyFrom_119 rfl rfl rfl ?_
  refine a_aload_n (pc' := 121) 1 dX1_copyFrom_120 rfl rfl rfl ?_
  refine g_X1_56 (pc' := 124) ho.1 rfl dX1_copyFrom_121 rfl ?_
  refine pt_X1_56 (pc' := 127) (z := (upd (upd (upd (upd (upd (d_put (d_put (d_put (d_put (d_put (upd (upd (upd z 0 (zo 0)) 1 (zo 1)) 2 (zo 2)) 14 100 (fun k => zo (14 + k))) 114 100 (fun k => zo (114 + k))) 214 25 (fun k => zo (214 + k))) 239 25 (fun k => zo (239 + k))) 264 25 (fun k => zo (264 + k))) 3 (zo 3)) 4 (zo 4)) 5 (zo 5)) 6 (zo 6)) 7 (zo 7))) hz dX1_copyFrom_124 rfl (fun h14 hz1 hfr1 => ?_)
  replace ho := ho.kp hfr1 hij
  replace hfr := d_frm.tr hfr hfr1 (by omega)
  replace hz := hz1
  refine a_aload_n (pc' := 128) 0 dX1_copyFrom_127 rfl rfl rfl ?_
  refine a_aload_n (pc' := 129) 1 dX1_copyFrom_128 rfl rfl rfl ?_
  refine g_X1_59 (pc' := 132) ho.1 rfl dX1_copyFrom_129 rfl ?_
  refine pt_X1_59 (pc' := 135) (z := (upd (upd (upd (upd (upd (upd (d_put (d_put (d_put (d_put (d_put (upd (upd (upd z 0 (zo 0)) 1 (zo 1)) 2 (zo 2)) 14 100 (fun k => zo (14 + k))) 114 100 (fun k => zo (114 + k))) 214 25 (fun k => zo (214 + k))) 239 25 (fun k => zo (239 + k))) 264 25 (fun k => zo (264 + k))) 3 (zo 3)) 4 (zo 4)) 5 (zo 5)) 6 (zo 6)) 7 (zo 7)) 8 (zo 8))) hz hb dX1_copyFrom_132 rfl (fun h15 hz1 hfr1 => ?_)
  replace ho := ho.kp hfr1 hij
  replace hfr := d_frm.tr hfr hfr1 (by omega)
  replace hz := hz1
  refine a_aload_n (pc' := 136) 0 dX1_copyFrom_135 rfl rfl rfl ?_
  refine a_aload_n (pc' := 137) 1 dX1_copyFrom_136 rfl rfl rfl ?_
  refine g_X1_63 (pc' := 140) ho.1 rfl dX1_copyFrom_137 rfl ?_
  refine pt_X1_63 (pc' := 143) (z := (upd (upd (upd (upd (upd (upd (upd (d_put (d_put (d_put (d_put (d_put (upd (upd (upd z 0 (zo 0)) 1 (zo 1)) 2 (zo 2)) 14 100 (fun k => zo (14 + k))) 114 100 (fun k => zo (114 + k))) 214 25 (fun k => zo (214 + k))) 239 25 (fun k => zo (239 + k))) 264 25 (fun k => zo (264 + k))) 3 (zo 3)) 4 (zo 4)) 5 (zo 5)) 6 (zo 6)) 7 (zo 7)) 8 (zo 8)) 9 (zo 9))) hz dX1_copyFrom_140 rfl (fun h16 hz1 hfr1 => ?_)
  replace ho := ho.kp hfr1 hij
  replace hfr := d_frm.tr hfr hfr1 (by omega)
  replace hz := hz1
  refine a_aload_n (pc' := 144) 0 dX1_copyFrom_143 rfl rfl rfl ?_
  refine a_aload_n (pc' := 145) 1 dX1_copyFrom_144 rfl rfl rfl ?_
  refine g_X1_66 (pc' := 148) ho.1 rfl dX1_copyFrom_145 rfl ?_
  refine pt_X1_66 (pc' := 151) (z := (upd (upd (upd (upd (upd (upd (upd (upd (d_put (d_put (d_put (d_put (d_put (upd (upd (upd z 0 (zo 0)) 1 (zo 1)) 2 (zo 2)) 14 100 (fun k => zo (14 + k))) 114 100 (fun k => zo (114 + k))) 214 25 (fun k => zo (214 + k))) 239 25 (fun k => zo (239 + k))) 264 25 (fun k => zo (264 + k))) 3 (zo 3)) 4 (zo 4)) 5 (zo 5)) 6 (zo 6)) 7 (zo 7)) 8 (zo 8)) 9 (zo 9)) 10 (zo 10))) hz dX1_copyFrom_148 rfl (fun h17 hz1 hfr1 => ?_)
  replace ho := ho.kp hfr1 hij
  replace hfr := d_frm.tr hfr hfr1 (by omega)
  replace hz := hz1
  refine a_aload_n (pc' := 152) 0 dX1_copyFrom_151 rfl rfl rfl ?_
  refine a_aload_n (pc' := 153) 1 dX1_copyFrom_152 rfl rfl rfl ?_
  refine g_X1_69 (pc' := 156) ho.1 rfl dX1_copyFrom_153 rfl ?_
  refine pt_X1_69 (pc' := 159) (z := (upd (upd (upd (upd (upd (upd (upd (upd (upd (d_put (d_put (d_put (d_put (d_put (upd (upd (upd z 0 (zo 0)) 1 (zo 1)) 2 (zo 2)) 14 100 (fun k => zo (14 + k))) 114 100 (fun k => zo (114 + k))) 214 25 (fun k => zo (214 + k))) 239 25 (fun k => zo (239 + k))) 264 25 (fun k => zo (264 + k))) 3 (zo 3)) 4 (zo 4)) 5 (zo 5)) 6 (zo 6)) 7 (zo 7)) 8 (zo 8)) 9 (zo 9)) 10 (zo 10)) 11 (zo 11))) hz dX1_copyFrom_156 rfl (fun h18 hz1 hfr1 => ?_)
  replace ho := ho.kp hfr1 hij
  replace hfr := d_frm.tr hfr hfr1 (by omega)
  replace hz := hz1
  refine a_aload_n (pc' := 160) 0 dX1_copyFrom_159 rfl rfl rfl ?_
  refine a_aload_n (pc' := 161) 1 dX1_copyFrom_160 rfl rfl rfl ?_
  refine g_X1_72 (pc' := 164) ho.1 rfl dX1_copyFrom_161 rfl ?_
  refine pt_X1_72 (pc' := 167) (z := (upd (upd (upd (upd (upd (upd (upd (upd (upd (upd (d_put (d_put (d_put (d_put (d_put (upd (upd (upd z 0 (zo 0)) 1 (zo 1)) 2 (zo 2)) 14 100 (fun k => zo (14 + k))) 114 100 (fun k => zo (114 + k))) 214 25 (fun k => zo (214 + k))) 239 25 (fun k => zo (239 + k))) 264 25 (fun k => zo (264 + k))) 3 (zo 3)) 4 (zo 4)) 5 (zo 5)) 6 (zo 6)) 7 (zo 7)) 8 (zo 8)) 9 (zo 9)) 10 (zo 10)) 11 (zo 11)) 12 (zo 12))) hz dX1_copyFrom_164 rfl (fun h19 hz1 hfr1 => ?_)
  replace ho := ho.kp hfr1 hij
  replace hfr := d_frm.tr hfr hfr1 (by omega)
  replace hz := hz1
  refine a_vret hr ⟨rfl, hz.cg ?_, hfr⟩ dX1_copyFrom_167
  intro k hk
  show (upd (upd (upd (upd (upd (upd (upd (upd (upd (upd (upd (d_put (d_put (d_put (d_put (d_put (upd (upd (upd z 0 (zo 0)) 1 (zo 1)) 2 (zo 2)) 14 100 (fun k => zo (14 + k))) 114 100 (fun k => zo (114 + k))) 214 25 (fun k => zo (214 + k))) 239 25 (fun k => zo (239 + k))) 264 25 (fun k => zo (264 + k))) 3 (zo 3)) 4 (zo 4)) 5 (zo 5)) 6 (zo 6)) 7 (zo 7)) 8 (zo 8)) 9 (zo 9)) 10 (zo 10)) 11 (zo 11)) 12 (zo 12)) 13 (zo 13)) k = zo k
  unfold d_put upd
  by_cases c0 : k < 14
  · rcases (show k = 0 ∨ k = 1 ∨ k = 2 ∨ k = 3 ∨ k = 4 ∨ k = 5 ∨ k = 6 ∨ k = 7 ∨ k = 8 ∨ k = 9 ∨ k = 10 ∨ k = 11 ∨ k = 12 ∨ k = 13 by omega) with rfl | rfl | rfl | rfl | rfl | rfl | rfl | rfl | rfl | rfl | rfl | rfl | rfl | rfl <;> rfl
  · have e1 : ∀ off, off ≤ k → off + (k - off) = k := fun off h => by omega
    by_cases c5 : 264 ≤ k
    · simp [show ¬ k = 0 by omega, show ¬ k = 1 by omega, show ¬ k = 2 by omega, show ¬ k = 3 by omega, show ¬ k = 4 by omega, show ¬ k = 5 by omega, show ¬ k = 6 by omega, show ¬ k = 7 by omega, show ¬ k = 8 by omega, show ¬ k = 9 by omega, show ¬ k = 10 by omega, show ¬ k = 11 by omega, show ¬ k = 12 by omega, show ¬ k = 13 by omega, show 264 ≤ k ∧ k < 289 by omega, e1]
    · by_cases c4 : 239 ≤ k
      · simp [c5, show 239 ≤ k ∧ k < 264 by omega, e1, show ¬ k = 0 by omega, show ¬ k = 1 by omega, show ¬ k = 2 by omega, show ¬ k = 3 by omega, show ¬ k = 4 by omega, show ¬ k = 5 by omega, show ¬ k = 6 by omega, show ¬ k = 7 by omega, show ¬ k = 8 by omega, show ¬ k = 9 by omega, show ¬ k = 10 by omega, show ¬ k = 11 by omega, show ¬ k = 12 by omega, show ¬ k = 13 by omega]
      · by_cases c3 : 214 ≤ k
        · simp [c5, c4, show 214 ≤ k ∧ k < 239 by omega, e1, show ¬ k = 0 by omega, show ¬ k = 1 by omega, show ¬ k = 2 by omega, show ¬ k = 3 by omega, show ¬ k = 4 by omega, show ¬ k = 5 by omega, show ¬ k = 6 by omega, show ¬ k = 7 by omega, show ¬ k = 8 by omega, show ¬ k = 9 by omega, show ¬ k = 10 by omega, show ¬ k = 11 by omega, show ¬ k = 12 by omega, show ¬ k = 13 by omega]
        · by_cases c2 : 114 ≤ k
          · simp [c5, c4, c3, show 114 ≤ k ∧ k < 214 by omega, e1, show ¬ k = 0 by omega, show ¬ k = 1 by omega, show ¬ k = 2 by omega, show ¬ k = 3 by omega, show ¬ k = 4 by omega, show ¬ k = 5 by omega, show ¬ k = 6 by omega, show ¬ k = 7 by omega, show ¬ k = 8 by omega, show ¬ k = 9 by omega, show ¬ k = 10 by omega, show ¬ k = 11 by omega, show ¬ k = 12 by omega, show ¬ k = 13 by omega]
          · simp [c5, c4, c3, c2, show 14 ≤ k ∧ k < 114 by omega, e1, show ¬ k = 0 by omega, show ¬ k = 1 by omega, show ¬ k = 2 by omega, show ¬ k = 3 by omega, show ¬ k = 4 by omega, show ¬ k = 5 by omega, show ¬ k = 6 by omega, show ¬ k = 7 by omega, show ¬ k = 8 by omega, show ¬ k = 9 by omega, show ¬ k = 10 by omega, show ¬ k = 11 by omega, show ¬ k = 12 by omega, show ¬ k = 13 by omega]
theorem d_c_slot {h h' : List va_E} {q : d_C} {K : Nat} {z : d_Z} (hC : d_cls h q) (hK : K < 6) (hz : d_roof h' (15 + 6 * K) z) (hf : d_frm (15 + 6 * K) 6 h h') : d_cls h' (q.1, q.2.1, (va_up q.2.2.1.1 K z, q.2.2.1.2), q.2.2.2) := by
  refine ⟨(hf.2 0 (by omega)).trans hC.1, hC.2.1.kp hf (by omega), hC.2.2.1.kp hf (by omega), ⟨(hf.2 13 (by omega)).trans hC.2.2.2.1.1, (hf.2 14 (by omega)).trans hC.2.2.2.1.2.1, fun k hk => ?_⟩, hC.2.2.2.2.kp hf (by omega)⟩
  by_cases c : k = K
  · subst c
    show d_roof h' _ (va_up q.2.2.1.1 k z k)
    have e : va_up q.2.2.1.1 k z k = z := by simp [va_up]
    rw [e]; exact hz
  · show d_roof h' _ (va_up q.2.2.1.1 K z k)
    have e : va_up q.2.2.1.1 K z k = q.2.2.1.1 k := by simp [va_up, c]
    rw [e]; exact (hC.2.2.2.1.2.2 k hk).kp hf (by omega)
theorem d_in6 {x : Int32} (h : vp_in x 6) : x.toNatClampNeg < 6 := Nat.not_le.mp fun q => h (Or.inr q)
theorem c_copy_slot (l : Launch) (g : a_G) {h : List va_E} {q : d_C} {x : Int32} (hC : d_cls h q) (hx : vp_in x 6) (hb : q.1 9 = 0 ∨ q.1 9 = 1) : a_CT l g yX1_copyFrom cX1_copyFrom 2 none (a_rm 2 61) [.ref (15 + 6 * x.toNatClampNeg), .ref 1] h none none (fun r h' => r = none ∧ d_cls h' (q.1, q.2.1, (va_up q.2.2.1.1 x.toNatClampNeg q.1, q.2.2.1.2), q.2.2.2) ∧ d_frm 0 55 h h') := by
  have hK := d_in6 hx
  refine a_CT_mono (c_copyFrom l g (by omega) hb (hC.2.2.2.1.2.2 _ hK) hC.2.1) (fun r h' hq => ⟨hq.1, d_c_slot hC hK hq.2.1 hq.2.2, hq.2.2.mono (by omega)⟩)
theorem c_copy_back (l : Launch) (g : a_G) {h : List va_E} {q : d_C} {x : Int32} (hC : d_cls h q) (hx : vp_in x 6) (hb : q.2.2.1.1 x.toNatClampNeg 9 = 0 ∨ q.2.2.1.1 x.toNatClampNeg 9 = 1) : a_CT l g yX1_copyFrom cX1_copyFrom 2 none (a_rm 2 61) [.ref 1, .ref (15 + 6 * x.toNatClampNeg)] h none none (fun r h' => r = none ∧ d_cls h' (q.2.2.1.1 x.toNatClampNeg, q.2) ∧ d_frm 0 55 h h') := by
  have hK := d_in6 hx
  refine a_CT_mono (c_copyFrom l g (by omega) hb hC.2.1 (hC.2.2.2.1.2.2 _ hK)) (fun r h' hq => ⟨hq.1, d_c_now hC hq.2.1 hq.2.2, hq.2.2.mono (by omega)⟩)
def f_X1_copyFrom (F : Nat) (q : d_C) : Option d_C := f_if (q.1 9 = 0 ∨ q.1 9 = 1) (some (q.1, q.1, q.2.2))
theorem c_X1_copyFrom (l : Launch) (g : a_G) (F : Nat) {h : List va_E} {q out : d_C} (hC : d_cls h q) (hf : f_X1_copyFrom F q = some out) : a_CT l g yX1_copyFrom cX1_copyFrom 2 none (a_rm 2 61) [.ref 7, .ref 1] h none none (fun r h' => r = none ∧ d_cls h' out ∧ d_frm 0 55 h h') := by
  obtain ⟨hb, hf⟩ := f_if_x hf
  cases hf
  exact a_CT_mono (c_copyFrom l g (by omega) hb hC.2.2.1 hC.2.1) (fun r h' hq => ⟨hq.1, d_c_trial hC hq.2.1 hq.2.2, hq.2.2.mono (by omega)⟩)
set_option maxHeartbeats 4000000 in
set_option maxRecDepth 100000 in
theorem c_slotAt (l : Launch) (g : a_G) {h : List va_E} {v : d_S} {x : Int32} (hV : d_saves h v) (hx : vp_in (x - x / 6 * 6) 6) : a_CT l g yX2_slotAt cX2_slotAt 3 (some (.object "SlateRoof$Roof")) (a_rm 0 0) [.ref 13, .int x] h none none (fun r h' => r = some (.ref (15 + 6 * (x - x / 6 * 6).toNatClampNeg)) ∧ h' = h) := by
  have hK := d_in6 hx
  obtain ⟨j, hj, ej⟩ := vp_in_of hx (by decide)
  refine a_enter ⟨by decide, rfl, Nat.le_of_ble_eq_true rfl⟩ (fun p e s m args below meth c hr hin => ?_)
  refine a_sub (ls' := [(0, .ref 13), (1, .int x)]) [0, 1] rfl ?_
  refine a_iload_n (pc' := 1) 1 dX2_slotAt_0 rfl rfl rfl ?_
  refine a_bipush (pc' := 3) (v := (6 : Int32)) dX2_slotAt_1 rfl (by decide) ?_
  refine a_irem (pc' := 4) dX2_slotAt_3 rfl (by decide) ?_
  refine a_istore_n (pc' := 5) (ls' := [(2, .int (x - x / 6 * 6)), (0, .ref 13), (1, .int x)]) dX2_slotAt_4 rfl (by decide) rfl rfl ?_
  refine a_iload_n (pc' := 6) 0 dX2_slotAt_5 rfl rfl rfl ?_
  refine a_if_lt (pc' := 9) 27 dX2_slotAt_6 (by decide) rfl (fun k => absurd (Or.inl k) hx) (fun k => ?_)
  refine a_iload_n (pc' := 10) 0 dX2_slotAt_9 rfl rfl rfl ?_
  refine a_aload_n (pc' := 11) 1 dX2_slotAt_10 rfl rfl rfl ?_
  refine g_X2_11 (pc' := 14) hV.1 rfl dX2_slotAt_11 rfl ?_
  refine a_alen (pc' := 15) (kd := 3) (by decide) hV.2.1 rfl dX2_slotAt_14 rfl ?_
  refine a_icmp_ge (pc' := 18) 27 dX2_slotAt_15 (by decide) rfl (fun k => absurd k (by rw [ej]; exact nI_ge hj (by decide))) (fun k => ?_)
  refine a_aload_n (pc' := 19) 1 dX2_slotAt_18 rfl rfl rfl ?_
  refine g_X2_11 (pc' := 22) hV.1 rfl dX2_slotAt_19 rfl ?_
  refine a_iload_n (pc' := 23) 0 dX2_slotAt_22 rfl rfl rfl ?_
  refine a_aald (pc' := 24) hV.2.1 hx (v := 15 + 6 * (x - x / 6 * 6).toNatClampNeg) (by unfold d_ringf; rw [if_pos hK]) dX2_slotAt_23 rfl ?_
  refine a_goto 28 dX2_slotAt_24 (by decide) ?_
  exact a_aret hr (Or.inr ⟨_, rfl⟩) ⟨rfl, rfl⟩ dX2_slotAt_28
section AN
variable {p : Program} {l : Launch} {e : Env} {R : Room} {s : State} {m : MethodId} {args : Array Value} {below : List Frame} {meth : Method} {c : Code} {Q : State → Prop} {cc : ByteArray} {nL : Nat} {g : a_G} {cells slots : Nat} {sz : Option Nat} {pc pc' : Nat} {ls : List (Nat × Value)} {st : List Value} {h : List va_E}
theorem k_slotAt {v : d_S} {x : Int32} (hV : d_saves h v) (hx : vp_in (x - x / 6 * 6) 6) (hR : 0 + 1 ≤ R.frames ∧ 8 + (3 + 11) + 0 ≤ R.locals) (hd : decode cc pc = .ok (.invokevirtual 25, 3)) (hp : pc + 3 = pc') (kk : a_W p l e R s m args below meth c Q RX2 cc nL g cells slots none pc' ls (.ref (15 + 6 * (x - x / 6 * 6).toNatClampNeg) :: st) h) (hcat : (st.map fun v => v.category).sum ≤ 8 := by decide) (hcs : cells ≤ R.cells ∧ slots ≤ R.slots := by exact ⟨Nat.le_of_ble_eq_true rfl, Nat.le_of_ble_eq_true rfl⟩) : a_W p l e R s m args below meth c Q RX2 cc nL g cells slots none pc ls (.int x :: .ref 13 :: st) h := a_callV (n := 1) (ci := 2) (C := RX2) (T := TX2) (N := 3) (As := [.int x]) (c_slotAt l g hV hx) (by intro w hw; simp only [List.mem_cons, List.not_mem_nil, or_false] at hw; rcases hw with rfl | rfl | rfl | rfl; exact (a_in2 1 rfl rfl); exact (a_in2 2 rfl rfl); exact (a_in2 3 rfl rfl); exact (a_in1 3 rfl rfl)) (a_in2 4 rfl rfl) ⟨rfl, by decide, by decide, by decide⟩ rfl rfl hR hcs hV.1 hcat hd hp (fun r h' hq => by obtain ⟨rfl, rfl⟩ := hq; exact kk)
theorem k_copyslot {a b : Nat} {fs : List Value} {P : List va_E → Prop} (hM : a_CT l g yX1_copyFrom cX1_copyFrom 2 none (a_rm 2 61) [.ref a, .ref b] h none none (fun r h' => r = none ∧ P h')) (hR : 2 + 1 ≤ R.frames ∧ 8 + (2 + 11) + 61 ≤ R.locals) (he : h[a]? = some (.inr (1, fs))) (hd : decode cc pc = .ok (.invokevirtual 29, 3)) (hp : pc + 3 = pc') (kk : ∀ h', P h' → a_W p l e R s m args below meth c Q RX2 cc nL g cells slots none pc' ls st h') (hcat : (st.map fun v => v.category).sum ≤ 8 := by decide) (hcs : cells ≤ R.cells ∧ slots ≤ R.slots := by exact ⟨Nat.le_of_ble_eq_true rfl, Nat.le_of_ble_eq_true rfl⟩) : a_W p l e R s m args below meth c Q RX2 cc nL g cells slots none pc ls (.ref b :: .ref a :: st) h := a_callV (n := 1) (ci := 1) (C := RX1) (T := TX1) (N := 19) (As := [.ref b]) hM (by intro w hw; simp only [List.mem_cons, List.not_mem_nil, or_false] at hw; rcases hw with rfl | rfl | rfl | rfl; exact (a_in2 5 rfl rfl); exact (a_in2 6 rfl rfl); exact (a_in2 7 rfl rfl); exact (a_in1 2 rfl rfl)) (a_in2 8 rfl rfl) ⟨rfl, by decide, by decide, by decide⟩ rfl rfl hR hcs he hcat hd hp (fun r h' hq => by obtain ⟨rfl, hq⟩ := hq; exact kk h' hq)
theorem k_copynow {a b : Nat} {fs : List Value} {P : List va_E → Prop} (hM : a_CT l g yX1_copyFrom cX1_copyFrom 2 none (a_rm 2 61) [.ref a, .ref b] h none none (fun r h' => r = none ∧ P h')) (hR : 2 + 1 ≤ R.frames ∧ 8 + (2 + 11) + 61 ≤ R.locals) (he : h[a]? = some (.inr (1, fs))) (hd : decode cc pc = .ok (.invokevirtual 29, 3)) (hp : pc + 3 = pc') (kk : ∀ h', P h' → a_W p l e R s m args below meth c Q RX2 cc nL g cells slots none pc' ls st h') (hcat : (st.map fun v => v.category).sum ≤ 8 := by decide) (hcs : cells ≤ R.cells ∧ slots ≤ R.slots := by exact ⟨Nat.le_of_ble_eq_true rfl, Nat.le_of_ble_eq_true rfl⟩) : a_W p l e R s m args below meth c Q RX2 cc nL g cells slots none pc ls (.ref b :: .ref a :: st) h := a_callV (n := 1) (ci := 1) (C := RX1) (T := TX1) (N := 19) (As := [.ref b]) hM (by intro w hw; simp only [List.mem_cons, List.not_mem_nil, or_false] at hw; rcases hw with rfl | rfl | rfl | rfl; exact (a_in2 5 rfl rfl); exact (a_in2 6 rfl rfl); exact (a_in2 7 rfl rfl); exact (a_in1 2 rfl rfl)) (a_in2 8 rfl rfl) ⟨rfl, by decide, by decide, by decide⟩ rfl rfl hR hcs he hcat hd hp (fun r h' hq => by obtain ⟨rfl, hq⟩ := hq; exact kk h' hq)
end AN
