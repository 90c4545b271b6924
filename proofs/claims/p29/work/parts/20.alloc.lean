section AZ2
variable {p : Program} {l : Launch} {e : Env} {R : Room} {s : State} {m : MethodId} {args : Array Value} {below : List Frame} {meth : Method} {c : Code} {Q : State → Prop} {cc : ByteArray} {nL : Nat} {g : a_G} {cells slots : Nat} {sz : Option Nat} {pc pc' : Nat} {ls : List (Nat × Value)} {st : List Value} {h : List va_E}
theorem pc_X1_9 {i : Nat} {v : Int32} {fs : List Value} (he : h[i]? = some (.inr (1, fs))) (hlen : 0 < fs.length) (hd : decode cc pc = .ok (.putfield 9, 3)) (hp : pc + 3 = pc') (kk : a_W p l e R s m args below meth c Q RX1 cc nL g cells slots sz pc' ls st (h.set i (.inr (1, fs.set 0 (.int v))))) : a_W p l e R s m args below meth c Q RX1 cc nL g cells slots sz pc ls (.int v :: .ref i :: st) h := a_put (ci := 1) (k := 0) (C := RX1) (T := TX1) (N := 19) (ty := .int) (ty0 := tyX1) rfl in_X1 tyX1_ok nmX1 (by decide) (a_in1 28 rfl rfl) (by decide) (by decide) he hlen rfl rfl hd hp kk
theorem pc_X1_15 {i : Nat} {v : Int32} {fs : List Value} (he : h[i]? = some (.inr (1, fs))) (hlen : 1 < fs.length) (hd : decode cc pc = .ok (.putfield 15, 3)) (hp : pc + 3 = pc') (kk : a_W p l e R s m args below meth c Q RX1 cc nL g cells slots sz pc' ls st (h.set i (.inr (1, fs.set 1 (.int v))))) : a_W p l e R s m args below meth c Q RX1 cc nL g cells slots sz pc ls (.int v :: .ref i :: st) h := a_put (ci := 1) (k := 1) (C := RX1) (T := TX1) (N := 19) (ty := .int) (ty0 := tyX1) rfl in_X1 tyX1_ok nmX1 (by decide) (a_in1 30 rfl rfl) (by decide) (by decide) he hlen rfl rfl hd hp kk
theorem pc_X1_18 {i j : Nat} {fs : List Value} (hin2 : meth.name = "<init>") (he : h[i]? = some (.inr (1, fs))) (hlen : 3 < fs.length) (hd : decode cc pc = .ok (.putfield 18, 3)) (hp : pc + 3 = pc') (kk : a_W p l e R s m args below meth c Q RX1 cc nL g cells slots sz pc' ls st (h.set i (.inr (1, fs.set 3 (.ref j))))) : a_W p l e R s m args below meth c Q RX1 cc nL g cells slots sz pc ls (.ref j :: .ref i :: st) h := a_putF (ci := 1) (k := 3) (C := RX1) (T := TX1) (N := 19) (ty := .array .int) (ty0 := tyX1) rfl in_X1 tyX1_ok nmX1 (by decide) (a_in1 34 rfl rfl) (by decide) hin2 rfl (by decide) he hlen rfl rfl hd hp kk
theorem pc_X1_22 {i j : Nat} {fs : List Value} (hin2 : meth.name = "<init>") (he : h[i]? = some (.inr (1, fs))) (hlen : 4 < fs.length) (hd : decode cc pc = .ok (.putfield 22, 3)) (hp : pc + 3 = pc') (kk : a_W p l e R s m args below meth c Q RX1 cc nL g cells slots sz pc' ls st (h.set i (.inr (1, fs.set 4 (.ref j))))) : a_W p l e R s m args below meth c Q RX1 cc nL g cells slots sz pc ls (.ref j :: .ref i :: st) h := a_putF (ci := 1) (k := 4) (C := RX1) (T := TX1) (N := 19) (ty := .array .int) (ty0 := tyX1) rfl in_X1 tyX1_ok nmX1 (by decide) (a_in1 36 rfl rfl) (by decide) hin2 rfl (by decide) he hlen rfl rfl hd hp kk
theorem pc_X1_25 {i j : Nat} {fs : List Value} (hin2 : meth.name = "<init>") (he : h[i]? = some (.inr (1, fs))) (hlen : 5 < fs.length) (hd : decode cc pc = .ok (.putfield 25, 3)) (hp : pc + 3 = pc') (kk : a_W p l e R s m args below meth c Q RX1 cc nL g cells slots sz pc' ls st (h.set i (.inr (1, fs.set 5 (.ref j))))) : a_W p l e R s m args below meth c Q RX1 cc nL g cells slots sz pc ls (.ref j :: .ref i :: st) h := a_putF (ci := 1) (k := 5) (C := RX1) (T := TX1) (N := 19) (ty := .array .int) (ty0 := tyX1) rfl in_X1 tyX1_ok nmX1 (by decide) (a_in1 37 rfl rfl) (by decide) hin2 rfl (by decide) he hlen rfl rfl hd hp kk
theorem pc_X1_28 {i j : Nat} {fs : List Value} (hin2 : meth.name = "<init>") (he : h[i]? = some (.inr (1, fs))) (hlen : 6 < fs.length) (hd : decode cc pc = .ok (.putfield 28, 3)) (hp : pc + 3 = pc') (kk : a_W p l e R s m args below meth c Q RX1 cc nL g cells slots sz pc' ls st (h.set i (.inr (1, fs.set 6 (.ref j))))) : a_W p l e R s m args below meth c Q RX1 cc nL g cells slots sz pc ls (.ref j :: .ref i :: st) h := a_putF (ci := 1) (k := 6) (C := RX1) (T := TX1) (N := 19) (ty := .array .int) (ty0 := tyX1) rfl in_X1 tyX1_ok nmX1 (by decide) (a_in1 39 rfl rfl) (by decide) hin2 rfl (by decide) he hlen rfl rfl hd hp kk
theorem pc_X1_31 {i j : Nat} {fs : List Value} (hin2 : meth.name = "<init>") (he : h[i]? = some (.inr (1, fs))) (hlen : 7 < fs.length) (hd : decode cc pc = .ok (.putfield 31, 3)) (hp : pc + 3 = pc') (kk : a_W p l e R s m args below meth c Q RX1 cc nL g cells slots sz pc' ls st (h.set i (.inr (1, fs.set 7 (.ref j))))) : a_W p l e R s m args below meth c Q RX1 cc nL g cells slots sz pc ls (.ref j :: .ref i :: st) h := a_putF (ci := 1) (k := 7) (C := RX1) (T := TX1) (N := 19) (ty := .array .int) (ty0 := tyX1) rfl in_X1 tyX1_ok nmX1 (by decide) (a_in1 41 rfl rfl) (by decide) hin2 rfl (by decide) he hlen rfl rfl hd hp kk
theorem pc_X1_34 {i : Nat} {v : Int32} {fs : List Value} (he : h[i]? = some (.inr (1, fs))) (hlen : 8 < fs.length) (hd : decode cc pc = .ok (.putfield 34, 3)) (hp : pc + 3 = pc') (kk : a_W p l e R s m args below meth c Q RX1 cc nL g cells slots sz pc' ls st (h.set i (.inr (1, fs.set 8 (.int v))))) : a_W p l e R s m args below meth c Q RX1 cc nL g cells slots sz pc ls (.int v :: .ref i :: st) h := a_put (ci := 1) (k := 8) (C := RX1) (T := TX1) (N := 19) (ty := .int) (ty0 := tyX1) rfl in_X1 tyX1_ok nmX1 (by decide) (a_in1 43 rfl rfl) (by decide) (by decide) he hlen rfl rfl hd hp kk
theorem pc_X1_37 {i : Nat} {v : Int32} {fs : List Value} (he : h[i]? = some (.inr (1, fs))) (hlen : 9 < fs.length) (hd : decode cc pc = .ok (.putfield 37, 3)) (hp : pc + 3 = pc') (kk : a_W p l e R s m args below meth c Q RX1 cc nL g cells slots sz pc' ls st (h.set i (.inr (1, fs.set 9 (.int v))))) : a_W p l e R s m args below meth c Q RX1 cc nL g cells slots sz pc ls (.int v :: .ref i :: st) h := a_put (ci := 1) (k := 9) (C := RX1) (T := TX1) (N := 19) (ty := .int) (ty0 := tyX1) rfl in_X1 tyX1_ok nmX1 (by decide) (a_in1 44 rfl rfl) (by decide) (by decide) he hlen rfl rfl hd hp kk
theorem pc_X1_40 {i : Nat} {v : Int32} {fs : List Value} (he : h[i]? = some (.inr (1, fs))) (hlen : 10 < fs.length) (hd : decode cc pc = .ok (.putfield 40, 3)) (hp : pc + 3 = pc') (kk : a_W p l e R s m args below meth c Q RX1 cc nL g cells slots sz pc' ls st (h.set i (.inr (1, fs.set 10 (.int v))))) : a_W p l e R s m args below meth c Q RX1 cc nL g cells slots sz pc ls (.int v :: .ref i :: st) h := a_put (ci := 1) (k := 10) (C := RX1) (T := TX1) (N := 19) (ty := .int) (ty0 := tyX1) rfl in_X1 tyX1_ok nmX1 (by decide) (a_in1 45 rfl rfl) (by decide) (by decide) he hlen rfl rfl hd hp kk
theorem pc_X1_43 {i : Nat} {v : Int32} {fs : List Value} (he : h[i]? = some (.inr (1, fs))) (hlen : 12 < fs.length) (hd : decode cc pc = .ok (.putfield 43, 3)) (hp : pc + 3 = pc') (kk : a_W p l e R s m args below meth c Q RX1 cc nL g cells slots sz pc' ls st (h.set i (.inr (1, fs.set 12 (.int v))))) : a_W p l e R s m args below meth c Q RX1 cc nL g cells slots sz pc ls (.int v :: .ref i :: st) h := a_put (ci := 1) (k := 12) (C := RX1) (T := TX1) (N := 19) (ty := .int) (ty0 := tyX1) rfl in_X1 tyX1_ok nmX1 (by decide) (a_in1 48 rfl rfl) (by decide) (by decide) he hlen rfl rfl hd hp kk
theorem pc_X0_9 {i j : Nat} {fs : List Value} (hin2 : meth.name = "<init>") (he : h[i]? = some (.inr (0, fs))) (hlen : 0 < fs.length) (hd : decode cc pc = .ok (.putfield 9, 3)) (hp : pc + 3 = pc') (kk : a_W p l e R s m args below meth c Q RX0 cc nL g cells slots sz pc' ls st (h.set i (.inr (0, fs.set 0 (.ref j))))) : a_W p l e R s m args below meth c Q RX0 cc nL g cells slots sz pc ls (.ref j :: .ref i :: st) h := a_putF (ci := 0) (k := 0) (C := RX0) (T := TX0) (N := 5) (ty := .array .char) (ty0 := tyX0) rfl in_X0 tyX0_ok nmX0 (by decide) (a_in1 128 rfl rfl) (by decide) hin2 rfl (by decide) he hlen rfl rfl hd hp kk
theorem pc_X0_15 {i j : Nat} {fs : List Value} (hin2 : meth.name = "<init>") (he : h[i]? = some (.inr (0, fs))) (hlen : 2 < fs.length) (hd : decode cc pc = .ok (.putfield 15, 3)) (hp : pc + 3 = pc') (kk : a_W p l e R s m args below meth c Q RX0 cc nL g cells slots sz pc' ls st (h.set i (.inr (0, fs.set 2 (.ref j))))) : a_W p l e R s m args below meth c Q RX0 cc nL g cells slots sz pc ls (.ref j :: .ref i :: st) h := a_putF (ci := 0) (k := 2) (C := RX0) (T := TX0) (N := 5) (ty := .array .int) (ty0 := tyX0) rfl in_X0 tyX0_ok nmX0 (by decide) (a_in1 131 rfl rfl) (by decide) hin2 rfl (by decide) he hlen rfl rfl hd hp kk
theorem pc_X0_19 {i j : Nat} {fs : List Value} (hin2 : meth.name = "<init>") (he : h[i]? = some (.inr (0, fs))) (hlen : 3 < fs.length) (hd : decode cc pc = .ok (.putfield 19, 3)) (hp : pc + 3 = pc') (kk : a_W p l e R s m args below meth c Q RX0 cc nL g cells slots sz pc' ls st (h.set i (.inr (0, fs.set 3 (.ref j))))) : a_W p l e R s m args below meth c Q RX0 cc nL g cells slots sz pc ls (.ref j :: .ref i :: st) h := a_putF (ci := 0) (k := 3) (C := RX0) (T := TX0) (N := 5) (ty := .array .int) (ty0 := tyX0) rfl in_X0 tyX0_ok nmX0 (by decide) (a_in1 133 rfl rfl) (by decide) hin2 rfl (by decide) he hlen rfl rfl hd hp kk
theorem pc_X2_11 {i j : Nat} {fs : List Value} (hin2 : meth.name = "<init>") (he : h[i]? = some (.inr (2, fs))) (hlen : 0 < fs.length) (hd : decode cc pc = .ok (.putfield 11, 3)) (hp : pc + 3 = pc') (kk : a_W p l e R s m args below meth c Q RX2 cc nL g cells slots sz pc' ls st (h.set i (.inr (2, fs.set 0 (.ref j))))) : a_W p l e R s m args below meth c Q RX2 cc nL g cells slots sz pc ls (.ref j :: .ref i :: st) h := a_putF (ci := 2) (k := 0) (C := RX2) (T := TX2) (N := 3) (ty := .array (.object "SlateRoof$Roof")) (ty0 := tyX2) rfl in_X2 tyX2_ok nmX2 (by decide) (a_in1 111 rfl rfl) (by decide) hin2 rfl (by decide) he hlen rfl rfl hd hp kk
theorem pc_X3_10 {i j : Nat} {fs : List Value} (hin2 : meth.name = "<init>") (he : h[i]? = some (.inr (3, fs))) (hlen : 0 < fs.length) (hd : decode cc pc = .ok (.putfield 10, 3)) (hp : pc + 3 = pc') (kk : a_W p l e R s m args below meth c Q RX3 cc nL g cells slots sz pc' ls st (h.set i (.inr (3, fs.set 0 (.ref j))))) : a_W p l e R s m args below meth c Q RX3 cc nL g cells slots sz pc ls (.ref j :: .ref i :: st) h := a_putF (ci := 3) (k := 0) (C := RX3) (T := TX3) (N := 4) (ty := .object "SlateRoof$Roof") (ty0 := tyX3) rfl in_X3 tyX3_ok nmX3 (by decide) (a_in1 149 rfl rfl) (by decide) hin2 rfl (by decide) he hlen rfl rfl hd hp kk
theorem pc_X3_16 {i j : Nat} {fs : List Value} (hin2 : meth.name = "<init>") (he : h[i]? = some (.inr (3, fs))) (hlen : 1 < fs.length) (hd : decode cc pc = .ok (.putfield 16, 3)) (hp : pc + 3 = pc') (kk : a_W p l e R s m args below meth c Q RX3 cc nL g cells slots sz pc' ls st (h.set i (.inr (3, fs.set 1 (.ref j))))) : a_W p l e R s m args below meth c Q RX3 cc nL g cells slots sz pc ls (.ref j :: .ref i :: st) h := a_putF (ci := 3) (k := 1) (C := RX3) (T := TX3) (N := 4) (ty := .object "SlateRoof$Roof") (ty0 := tyX3) rfl in_X3 tyX3_ok nmX3 (by decide) (a_in1 150 rfl rfl) (by decide) hin2 rfl (by decide) he hlen rfl rfl hd hp kk
theorem pc_X3_22 {i j : Nat} {fs : List Value} (hin2 : meth.name = "<init>") (he : h[i]? = some (.inr (3, fs))) (hlen : 2 < fs.length) (hd : decode cc pc = .ok (.putfield 22, 3)) (hp : pc + 3 = pc') (kk : a_W p l e R s m args below meth c Q RX3 cc nL g cells slots sz pc' ls st (h.set i (.inr (3, fs.set 2 (.ref j))))) : a_W p l e R s m args below meth c Q RX3 cc nL g cells slots sz pc ls (.ref j :: .ref i :: st) h := a_putF (ci := 3) (k := 2) (C := RX3) (T := TX3) (N := 4) (ty := .object "SlateRoof$Saves") (ty0 := tyX3) rfl in_X3 tyX3_ok nmX3 (by decide) (a_in1 151 rfl rfl) (by decide) hin2 rfl (by decide) he hlen rfl rfl hd hp kk
theorem pc_X3_29 {i j : Nat} {fs : List Value} (hin2 : meth.name = "<init>") (he : h[i]? = some (.inr (3, fs))) (hlen : 3 < fs.length) (hd : decode cc pc = .ok (.putfield 29, 3)) (hp : pc + 3 = pc') (kk : a_W p l e R s m args below meth c Q RX3 cc nL g cells slots sz pc' ls st (h.set i (.inr (3, fs.set 3 (.ref j))))) : a_W p l e R s m args below meth c Q RX3 cc nL g cells slots sz pc ls (.ref j :: .ref i :: st) h := a_putF (ci := 3) (k := 3) (C := RX3) (T := TX3) (N := 4) (ty := .object "SlateRoof$DayText") (ty0 := tyX3) rfl in_X3 tyX3_ok nmX3 (by decide) (a_in1 152 rfl rfl) (by decide) hin2 rfl (by decide) he hlen rfl rfl hd hp kk
end AZ2
def d_b0 : List Value := [.null, .int 0, .null, .null, .int 0]
def d_b1 : List Value := [.int 0, .int 0, .int 0, .null, .null, .null, .null, .null, .int 0, .int 0, .int 0, .int 0, .int 0, .int 0, .int 0, .int 0, .int 0, .int 0, .int 0]
def d_b2 : List Value := [.null, .int 0, .int 0]
def d_b3 : List Value := [.null, .null, .null, .null]
def d_z0 : d_Z := fun k => if k = 0 then 100 else if k = 1 then 6 else if k = 3 then 4 else if k = 4 then 20 else if k = 5 then 2 else if k = 7 then 20 else 0
def d_nr (i : Nat) : List va_E := [.inr (1, d_rO i d_z0), d_ai 100, d_ai 100, d_ai 25, d_ai 25, d_ai 25]
set_option maxHeartbeats 400000 in
set_option maxRecDepth 100000 in
theorem c_X1_init (l : Launch) (g : a_G) (pre : List va_E) (hpl : pre.length < 900) : a_CT l g yX1_init cX1_init 1 none { frames := 1, cells := 5, slots := 275, locals := 20 } [.ref pre.length] (pre ++ [.inr (1, d_b1)]) (some (pre.length + 1)) (some (pre.length + 6)) (fun r h' => r = none ∧ h' = pre ++ d_nr pre.length) := by
  refine a_enter ⟨by decide, rfl, Nat.le_of_ble_eq_true rfl⟩ (fun p e s m args below meth c hr hin => ?_)
  refine a_sub (ls' := [(0, .ref pre.length)]) [0] rfl ?_
  refine a_heq (h2 := pre ++ [.inr (1, [.int 0, .int 0, .int 0, .null, .null, .null, .null, .null, .int 0, .int 0, .int 0, .int 0, .int 0, .int 0, .int 0, .int 0, .int 0, .int 0, .int 0])]) rfl ?_
  refine a_aload_n (pc' := 1) 0 dX1_init_0 rfl rfl rfl ?_
  refine a_objI (pc' := 4) (by intro w hw; simp only [List.mem_cons, List.not_mem_nil, or_false] at hw; rcases hw with rfl | rfl | rfl; exact (a_in1 27 rfl rfl); exact (a_in1 20 rfl rfl); exact (a_in1 21 rfl rfl)) dX1_init_1 (Nat.le_of_ble_eq_true rfl) (Nat.le_of_ble_eq_true rfl) rfl ?_
  refine a_aload_n (pc' := 5) 0 dX1_init_4 rfl rfl rfl ?_
  refine a_bipush (pc' := 7) (v := (100 : Int32)) dX1_init_5 rfl (by decide) ?_
  refine pc_X1_9 (pc' := 10) (d_pre_at pre _ 0) (Nat.le_of_ble_eq_true rfl) dX1_init_7 rfl ?_
  refine a_heq (h2 := pre ++ ([.inr (1, [.int (100 : Int32), .int 0, .int 0, .null, .null, .null, .null, .null, .int 0, .int 0, .int 0, .int 0, .int 0, .int 0, .int 0, .int 0, .int 0, .int 0, .int 0])] : List va_E)) (d_pre_set pre _ 0 _) ?_
  refine a_aload_n (pc' := 11) 0 dX1_init_10 rfl rfl rfl ?_
  refine a_bipush (pc' := 13) (v := (6 : Int32)) dX1_init_11 rfl (by decide) ?_
  refine pc_X1_15 (pc' := 16) (d_pre_at pre _ 0) (Nat.le_of_ble_eq_true rfl) dX1_init_13 rfl ?_
  refine a_heq (h2 := pre ++ ([.inr (1, [.int (100 : Int32), .int (6 : Int32), .int 0, .null, .null, .null, .null, .null, .int 0, .int 0, .int 0, .int 0, .int 0, .int 0, .int 0, .int 0, .int 0, .int 0, .int 0])] : List va_E)) (d_pre_set pre _ 0 _) ?_
  refine a_aload_n (pc' := 17) 0 dX1_init_16 rfl rfl rfl ?_
  refine a_bipush (pc' := 19) (v := (100 : Int32)) dX1_init_17 rfl (by decide) ?_
  refine a_seq (k := (pre ++ ([.inr (1, [.int (100 : Int32), .int (6 : Int32), .int 0, .null, .null, .null, .null, .null, .int 0, .int 0, .int 0, .int 0, .int 0, .int 0, .int 0, .int 0, .int 0, .int 0, .int 0])] : List va_E)).length) (by simp) ?_
  refine a_newarr (pc' := 21) (atype := .int) (kd := 0) (N := 100) (a0 := (100, .inl (fun _ => 0))) rfl (by decide) (fun _ => rfl) (a_in1 101 rfl rfl) (by decide) (by decide) (by decide) (by simp; omega) dX1_init_19 rfl (by decide) (by decide) ?_
  refine a_heq (h2 := pre ++ ([.inr (1, [.int (100 : Int32), .int (6 : Int32), .int 0, .null, .null, .null, .null, .null, .int 0, .int 0, .int 0, .int 0, .int 0, .int 0, .int 0, .int 0, .int 0, .int 0, .int 0]), .inl (0, 100, .inl (fun _ => 0))] : List va_E)) (by simp) ?_
  refine a_top (v := .ref (pre.length + 1)) (by simp) ?_
  refine pc_X1_18 (pc' := 24) hin (d_pre_at pre _ 0) (Nat.le_of_ble_eq_true rfl) dX1_init_21 rfl ?_
  refine a_heq (h2 := pre ++ ([.inr (1, [.int (100 : Int32), .int (6 : Int32), .int 0, .ref (pre.length + 1), .null, .null, .null, .null, .int 0, .int 0, .int 0, .int 0, .int 0, .int 0, .int 0, .int 0, .int 0, .int 0, .int 0]), .inl (0, 100, .inl (fun _ => 0))] : List va_E)) (d_pre_set pre _ 0 _) ?_
  refine a_aload_n (pc' := 25) 0 dX1_init_24 rfl rfl rfl ?_
  refine a_bipush (pc' := 27) (v := (100 : Int32)) dX1_init_25 rfl (by decide) ?_
  refine a_seq (k := (pre ++ ([.inr (1, [.int (100 : Int32), .int (6 : Int32), .int 0, .ref (pre.length + 1), .null, .null, .null, .null, .int 0, .int 0, .int 0, .int 0, .int 0, .int 0, .int 0, .int 0, .int 0, .int 0, .int 0]), .inl (0, 100, .inl (fun _ => 0))] : List va_E)).length) (by simp) ?_
  refine a_newarr (pc' := 29) (atype := .int) (kd := 0) (N := 100) (a0 := (100, .inl (fun _ => 0))) rfl (by decide) (fun _ => rfl) (a_in1 101 rfl rfl) (by decide) (by decide) (by decide) (by simp; omega) dX1_init_27 rfl (by decide) (by decide) ?_
  refine a_heq (h2 := pre ++ ([.inr (1, [.int (100 : Int32), .int (6 : Int32), .int 0, .ref (pre.length + 1), .null, .null, .null, .null, .int 0, .int 0, .int 0, .int 0, .int 0, .int 0, .int 0, .int 0, .int 0, .int 0, .int 0]), .inl (0, 100, .inl (fun _ => 0)), .inl (0, 100, .inl (fun _ => 0))] : List va_E)) (by simp) ?_
  refine a_top (v := .ref (pre.length + 2)) (by simp) ?_
  refine pc_X1_22 (pc' := 32) hin (d_pre_at pre _ 0) (Nat.le_of_ble_eq_true rfl) dX1_init_29 rfl ?_
  refine a_heq (h2 := pre ++ ([.inr (1, [.int (100 : Int32), .int (6 : Int32), .int 0, .ref (pre.length + 1), .ref (pre.length + 2), .null, .null, .null, .int 0, .int 0, .int 0, .int 0, .int 0, .int 0, .int 0, .int 0, .int 0, .int 0, .int 0]), .inl (0, 100, .inl (fun _ => 0)), .inl (0, 100, .inl (fun _ => 0))] : List va_E)) (d_pre_set pre _ 0 _) ?_
  refine a_aload_n (pc' := 33) 0 dX1_init_32 rfl rfl rfl ?_
  refine a_bipush (pc' := 35) (v := (25 : Int32)) dX1_init_33 rfl (by decide) ?_
  refine a_seq (k := (pre ++ ([.inr (1, [.int (100 : Int32), .int (6 : Int32), .int 0, .ref (pre.length + 1), .ref (pre.length + 2), .null, .null, .null, .int 0, .int 0, .int 0, .int 0, .int 0, .int 0, .int 0, .int 0, .int 0, .int 0, .int 0]), .inl (0, 100, .inl (fun _ => 0)), .inl (0, 100, .inl (fun _ => 0))] : List va_E)).length) (by simp) ?_
  refine a_newarr (pc' := 37) (atype := .int) (kd := 0) (N := 25) (a0 := (25, .inl (fun _ => 0))) rfl (by decide) (fun _ => rfl) (a_in1 101 rfl rfl) (by decide) (by decide) (by decide) (by simp; omega) dX1_init_35 rfl (by decide) (by decide) ?_
  refine a_heq (h2 := pre ++ ([.inr (1, [.int (100 : Int32), .int (6 : Int32), .int 0, .ref (pre.length + 1), .ref (pre.length + 2), .null, .null, .null, .int 0, .int 0, .int 0, .int 0, .int 0, .int 0, .int 0, .int 0, .int 0, .int 0, .int 0]), .inl (0, 100, .inl (fun _ => 0)), .inl (0, 100, .inl (fun _ => 0)), .inl (0, 25, .inl (fun _ => 0))] : List va_E)) (by simp) ?_
  refine a_top (v := .ref (pre.length + 3)) (by simp) ?_
  refine pc_X1_25 (pc' := 40) hin (d_pre_at pre _ 0) (Nat.le_of_ble_eq_true rfl) dX1_init_37 rfl ?_
  refine a_heq (h2 := pre ++ ([.inr (1, [.int (100 : Int32), .int (6 : Int32), .int 0, .ref (pre.length + 1), .ref (pre.length + 2), .ref (pre.length + 3), .null, .null, .int 0, .int 0, .int 0, .int 0, .int 0, .int 0, .int 0, .int 0, .int 0, .int 0, .int 0]), .inl (0, 100, .inl (fun _ => 0)), .inl (0, 100, .inl (fun _ => 0)), .inl (0, 25, .inl (fun _ => 0))] : List va_E)) (d_pre_set pre _ 0 _) ?_
  refine a_aload_n (pc' := 41) 0 dX1_init_40 rfl rfl rfl ?_
  refine a_bipush (pc' := 43) (v := (25 : Int32)) dX1_init_41 rfl (by decide) ?_
  refine a_seq (k := (pre ++ ([.inr (1, [.int (100 : Int32), .int (6 : Int32), .int 0, .ref (pre.length + 1), .ref (pre.length + 2), .ref (pre.length + 3), .null, .null, .int 0, .int 0, .int 0, .int 0, .int 0, .int 0, .int 0, .int 0, .int 0, .int 0, .int 0]), .inl (0, 100, .inl (fun _ => 0)), .inl (0, 100, .inl (fun _ => 0)), .inl (0, 25, .inl (fun _ => 0))] : List va_E)).length) (by simp) ?_
  refine a_newarr (pc' := 45) (atype := .int) (kd := 0) (N := 25) (a0 := (25, .inl (fun _ => 0))) rfl (by decide) (fun _ => rfl) (a_in1 101 rfl rfl) (by decide) (by decide) (by decide) (by simp; omega) dX1_init_43 rfl (by decide) (by decide) ?_
  refine a_heq (h2 := pre ++ ([.inr (1, [.int (100 : Int32), .int (6 : Int32), .int 0, .ref (pre.length + 1), .ref (pre.length + 2), .ref (pre.length + 3), .null, .null, .int 0, .int 0, .int 0, .int 0, .int 0, .int 0, .int 0, .int 0, .int 0, .int 0, .int 0]), .inl (0, 100, .inl (fun _ => 0)), .inl (0, 100, .inl (fun _ => 0)), .inl (0, 25, .inl (fun _ => 0)), .inl (0, 25, .inl (fun _ => 0))] : List va_E)) (by simp) ?_
  refine a_top (v := .ref (pre.length + 4)) (by simp) ?_
  refine pc_X1_28 (pc' := 48) hin (d_pre_at pre _ 0) (Nat.le_of_ble_eq_true rfl) dX1_init_45 rfl ?_
  refine a_heq (h2 := pre ++ ([.inr (1, [.int (100 : Int32), .int (6 : Int32), .int 0, .ref (pre.length + 1), .ref (pre.length + 2), .ref (pre.length + 3), .ref (pre.length + 4), .null, .int 0, .int 0, .int 0, .int 0, .int 0, .int 0, .int 0, .int 0, .int 0, .int 0, .int 0]), .inl (0, 100, .inl (fun _ => 0)), .inl (0, 100, .inl (fun _ => 0)), .inl (0, 25, .inl (fun _ => 0)), .inl (0, 25, .inl (fun _ => 0))] : List va_E)) (d_pre_set pre _ 0 _) ?_
  refine a_aload_n (pc' := 49) 0 dX1_init_48 rfl rfl rfl ?_
  refine a_bipush (pc' := 51) (v := (25 : Int32)) dX1_init_49 rfl (by decide) ?_
  refine a_seq (k := (pre ++ ([.inr (1, [.int (100 : Int32), .int (6 : Int32), .int 0, .ref (pre.length + 1), .ref (pre.length + 2), .ref (pre.length + 3), .ref (pre.length + 4), .null, .int 0, .int 0, .int 0, .int 0, .int 0, .int 0, .int 0, .int 0, .int 0, .int 0, .int 0]), .inl (0, 100, .inl (fun _ => 0)), .inl (0, 100, .inl (fun _ => 0)), .inl (0, 25, .inl (fun _ => 0)), .inl (0, 25, .inl (fun _ => 0))] : List va_E)).length) (by simp) ?_
  refine a_newarr (pc' := 53) (atype := .int) (kd := 0) (N := 25) (a0 := (25, .inl (fun _ => 0))) rfl (by decide) (fun _ => rfl) (a_in1 101 rfl rfl) (by decide) (by decide) (by decide) (by simp; omega) dX1_init_51 rfl (by decide) (by decide) ?_
  refine a_heq (h2 := pre ++ ([.inr (1, [.int (100 : Int32), .int (6 : Int32), .int 0, .ref (pre.length + 1), .ref (pre.length + 2), .ref (pre.length + 3), .ref (pre.length + 4), .null, .int 0, .int 0, .int 0, .int 0, .int 0, .int 0, .int 0, .int 0, .int 0, .int 0, .int 0]), .inl (0, 100, .inl (fun _ => 0)), .inl (0, 100, .inl (fun _ => 0)), .inl (0, 25, .inl (fun _ => 0)), .inl (0, 25, .inl (fun _ => 0)), .inl (0, 25, .inl (fun _ => 0))] : List va_E)) (by simp) ?_
  refine a_top (v := .ref (pre.length + 5)) (by simp) ?_
  refine pc_X1_31 (pc' := 56) hin (d_pre_at pre _ 0) (Nat.le_of_ble_eq_true rfl) dX1_init_53 rfl ?_
  refine a_heq (h2 := pre ++ ([.inr (1, [.int (100 : Int32), .int (6 : Int32), .int 0, .ref (pre.length + 1), .ref (pre.length + 2), .ref (pre.length + 3), .ref (pre.length + 4), .ref (pre.length + 5), .int 0, .int 0, .int 0, .int 0, .int 0, .int 0, .int 0, .int 0, .int 0, .int 0, .int 0]), .inl (0, 100, .inl (fun _ => 0)), .inl (0, 100, .inl (fun _ => 0)), .inl (0, 25, .inl (fun _ => 0)), .inl (0, 25, .inl (fun _ => 0)), .inl (0, 25, .inl (fun _ => 0))] : List va_E)) (d_pre_set pre _ 0 _) ?_
  refine a_aload_n (pc' := 57) 0 dX1_init_56 rfl rfl rfl ?_
  refine a_iconst (pc' := 58) (v := (4 : Int32)) dX1_init_57 rfl (by decide) ?_
  refine pc_X1_34 (pc' := 61) (d_pre_at pre _ 0) (Nat.le_of_ble_eq_true rfl) dX1_init_58 rfl ?_
  refine a_heq (h2 := pre ++ ([.inr (1, [.int (100 : Int32), .int (6 : Int32), .int 0, .ref (pre.length + 1), .ref (pre.length + 2), .ref (pre.length + 3), .ref (pre.length + 4), .ref (pre.length + 5), .int (4 : Int32), .int 0, .int 0, .int 0, .int 0, .int 0, .int 0, .int 0, .int 0, .int 0, .int 0]), .inl (0, 100, .inl (fun _ => 0)), .inl (0, 100, .inl (fun _ => 0)), .inl (0, 25, .inl (fun _ => 0)), .inl (0, 25, .inl (fun _ => 0)), .inl (0, 25, .inl (fun _ => 0))] : List va_E)) (d_pre_set pre _ 0 _) ?_
  refine a_aload_n (pc' := 62) 0 dX1_init_61 rfl rfl rfl ?_
  refine a_bipush (pc' := 64) (v := (20 : Int32)) dX1_init_62 rfl (by decide) ?_
  refine pc_X1_37 (pc' := 67) (d_pre_at pre _ 0) (Nat.le_of_ble_eq_true rfl) dX1_init_64 rfl ?_
  refine a_heq (h2 := pre ++ ([.inr (1, [.int (100 : Int32), .int (6 : Int32), .int 0, .ref (pre.length + 1), .ref (pre.length + 2), .ref (pre.length + 3), .ref (pre.length + 4), .ref (pre.length + 5), .int (4 : Int32), .int (20 : Int32), .int 0, .int 0, .int 0, .int 0, .int 0, .int 0, .int 0, .int 0, .int 0]), .inl (0, 100, .inl (fun _ => 0)), .inl (0, 100, .inl (fun _ => 0)), .inl (0, 25, .inl (fun _ => 0)), .inl (0, 25, .inl (fun _ => 0)), .inl (0, 25, .inl (fun _ => 0))] : List va_E)) (d_pre_set pre _ 0 _) ?_
  refine a_aload_n (pc' := 68) 0 dX1_init_67 rfl rfl rfl ?_
  refine a_iconst (pc' := 69) (v := (2 : Int32)) dX1_init_68 rfl (by decide) ?_
  refine pc_X1_40 (pc' := 72) (d_pre_at pre _ 0) (Nat.le_of_ble_eq_true rfl) dX1_init_69 rfl ?_
  refine a_heq (h2 := pre ++ ([.inr (1, [.int (100 : Int32), .int (6 : Int32), .int 0, .ref (pre.length + 1), .ref (pre.length + 2), .ref (pre.length + 3), .ref (pre.length + 4), .ref (pre.length + 5), .int (4 : Int32), .int (20 : Int32), .int (2 : Int32), .int 0, .int 0, .int 0, .int 0, .int 0, .int 0, .int 0, .int 0]), .inl (0, 100, .inl (fun _ => 0)), .inl (0, 100, .inl (fun _ => 0)), .inl (0, 25, .inl (fun _ => 0)), .inl (0, 25, .inl (fun _ => 0)), .inl (0, 25, .inl (fun _ => 0))] : List va_E)) (d_pre_set pre _ 0 _) ?_
  refine a_aload_n (pc' := 73) 0 dX1_init_72 rfl rfl rfl ?_
  refine a_bipush (pc' := 75) (v := (20 : Int32)) dX1_init_73 rfl (by decide) ?_
  refine pc_X1_43 (pc' := 78) (d_pre_at pre _ 0) (Nat.le_of_ble_eq_true rfl) dX1_init_75 rfl ?_
  refine a_heq (h2 := pre ++ ([.inr (1, [.int (100 : Int32), .int (6 : Int32), .int 0, .ref (pre.length + 1), .ref (pre.length + 2), .ref (pre.length + 3), .ref (pre.length + 4), .ref (pre.length + 5), .int (4 : Int32), .int (20 : Int32), .int (2 : Int32), .int 0, .int (20 : Int32), .int 0, .int 0, .int 0, .int 0, .int 0, .int 0]), .inl (0, 100, .inl (fun _ => 0)), .inl (0, 100, .inl (fun _ => 0)), .inl (0, 25, .inl (fun _ => 0)), .inl (0, 25, .inl (fun _ => 0)), .inl (0, 25, .inl (fun _ => 0))] : List va_E)) (d_pre_set pre _ 0 _) ?_
  refine a_widen (k := 5) (n := 275) (by decide) (by decide) ?_
  refine a_seq (k := pre.length + 6) (by simp) ?_
  exact a_vret hr ⟨rfl, by simp [d_nr, d_ai, d_rO, d_z0]⟩ dX1_init_78
def d_nt (i : Nat) : List va_E := [.inr (0, [.ref (i + 1), .int 0, .ref (i + 2), .ref (i + 3), .int 0]), .inl (1, 60, .inl (fun _ => 0)), d_ai 60, d_ai 60]
set_option maxHeartbeats 400000 in
set_option maxRecDepth 100000 in
theorem c_X0_init (l : Launch) (g : a_G) (pre : List va_E) (hpl : pre.length < 900) : a_CT l g yX0_init cX0_init 1 none { frames := 1, cells := 3, slots := 180, locals := 20 } [.ref pre.length] (pre ++ [.inr (0, d_b0)]) (some (pre.length + 1)) (some (pre.length + 4)) (fun r h' => r = none ∧ h' = pre ++ d_nt pre.length) := by
  refine a_enter ⟨by decide, rfl, Nat.le_of_ble_eq_true rfl⟩ (fun p e s m args below meth c hr hin => ?_)
  refine a_sub (ls' := [(0, .ref pre.length)]) [0] rfl ?_
  refine a_heq (h2 := pre ++ [.inr (0, [.null, .int 0, .null, .null, .int 0])]) rfl ?_
  refine a_aload_n (pc' := 1) 0 dX0_init_0 rfl rfl rfl ?_
  refine a_objI (pc' := 4) (by intro w hw; simp only [List.mem_cons, List.not_mem_nil, or_false] at hw; rcases hw with rfl | rfl | rfl; exact (a_in1 127 rfl rfl); exact (a_in1 20 rfl rfl); exact (a_in1 21 rfl rfl)) dX0_init_1 (Nat.le_of_ble_eq_true rfl) (Nat.le_of_ble_eq_true rfl) rfl ?_
  refine a_aload_n (pc' := 5) 0 dX0_init_4 rfl rfl rfl ?_
  refine a_bipush (pc' := 7) (v := (60 : Int32)) dX0_init_5 rfl (by decide) ?_
  refine a_seq (k := (pre ++ ([.inr (0, [.null, .int 0, .null, .null, .int 0])] : List va_E)).length) (by simp) ?_
  refine a_newarr (pc' := 9) (atype := .char) (kd := 1) (N := 60) (a0 := (60, .inl (fun _ => 0))) rfl (by decide) (fun _ => rfl) (a_in1 148 rfl rfl) (by decide) (by decide) (by decide) (by simp; omega) dX0_init_7 rfl (by decide) (by decide) ?_
  refine a_heq (h2 := pre ++ ([.inr (0, [.null, .int 0, .null, .null, .int 0]), .inl (1, 60, .inl (fun _ => 0))] : List va_E)) (by simp) ?_
  refine a_top (v := .ref (pre.length + 1)) (by simp) ?_
  refine pc_X0_9 (pc' := 12) hin (d_pre_at pre _ 0) (Nat.le_of_ble_eq_true rfl) dX0_init_9 rfl ?_
  refine a_heq (h2 := pre ++ ([.inr (0, [.ref (pre.length + 1), .int 0, .null, .null, .int 0]), .inl (1, 60, .inl (fun _ => 0))] : List va_E)) (d_pre_set pre _ 0 _) ?_
  refine a_aload_n (pc' := 13) 0 dX0_init_12 rfl rfl rfl ?_
  refine a_bipush (pc' := 15) (v := (60 : Int32)) dX0_init_13 rfl (by decide) ?_
  refine a_seq (k := (pre ++ ([.inr (0, [.ref (pre.length + 1), .int 0, .null, .null, .int 0]), .inl (1, 60, .inl (fun _ => 0))] : List va_E)).length) (by simp) ?_
  refine a_newarr (pc' := 17) (atype := .int) (kd := 0) (N := 60) (a0 := (60, .inl (fun _ => 0))) rfl (by decide) (fun _ => rfl) (a_in1 101 rfl rfl) (by decide) (by decide) (by decide) (by simp; omega) dX0_init_15 rfl (by decide) (by decide) ?_
  refine a_heq (h2 := pre ++ ([.inr (0, [.ref (pre.length + 1), .int 0, .null, .null, .int 0]), .inl (1, 60, .inl (fun _ => 0)), .inl (0, 60, .inl (fun _ => 0))] : List va_E)) (by simp) ?_
  refine a_top (v := .ref (pre.length + 2)) (by simp) ?_
  refine pc_X0_15 (pc' := 20) hin (d_pre_at pre _ 0) (Nat.le_of_ble_eq_true rfl) dX0_init_17 rfl ?_
  refine a_heq (h2 := pre ++ ([.inr (0, [.ref (pre.length + 1), .int 0, .ref (pre.length + 2), .null, .int 0]), .inl (1, 60, .inl (fun _ => 0)), .inl (0, 60, .inl (fun _ => 0))] : List va_E)) (d_pre_set pre _ 0 _) ?_
  refine a_aload_n (pc' := 21) 0 dX0_init_20 rfl rfl rfl ?_
  refine a_bipush (pc' := 23) (v := (60 : Int32)) dX0_init_21 rfl (by decide) ?_
  refine a_seq (k := (pre ++ ([.inr (0, [.ref (pre.length + 1), .int 0, .ref (pre.length + 2), .null, .int 0]), .inl (1, 60, .inl (fun _ => 0)), .inl (0, 60, .inl (fun _ => 0))] : List va_E)).length) (by simp) ?_
  refine a_newarr (pc' := 25) (atype := .int) (kd := 0) (N := 60) (a0 := (60, .inl (fun _ => 0))) rfl (by decide) (fun _ => rfl) (a_in1 101 rfl rfl) (by decide) (by decide) (by decide) (by simp; omega) dX0_init_23 rfl (by decide) (by decide) ?_
  refine a_heq (h2 := pre ++ ([.inr (0, [.ref (pre.length + 1), .int 0, .ref (pre.length + 2), .null, .int 0]), .inl (1, 60, .inl (fun _ => 0)), .inl (0, 60, .inl (fun _ => 0)), .inl (0, 60, .inl (fun _ => 0))] : List va_E)) (by simp) ?_
  refine a_top (v := .ref (pre.length + 3)) (by simp) ?_
  refine pc_X0_19 (pc' := 28) hin (d_pre_at pre _ 0) (Nat.le_of_ble_eq_true rfl) dX0_init_25 rfl ?_
  refine a_heq (h2 := pre ++ ([.inr (0, [.ref (pre.length + 1), .int 0, .ref (pre.length + 2), .ref (pre.length + 3), .int 0]), .inl (1, 60, .inl (fun _ => 0)), .inl (0, 60, .inl (fun _ => 0)), .inl (0, 60, .inl (fun _ => 0))] : List va_E)) (d_pre_set pre _ 0 _) ?_
  refine a_widen (k := 3) (n := 180) (by decide) (by decide) ?_
  refine a_seq (k := pre.length + 4) (by simp) ?_
  exact a_vret hr ⟨rfl, by simp [d_nt, d_ai]⟩ dX0_init_28
theorem d_nr_len (i : Nat) : (d_nr i).length = 6 := rfl
theorem d_b1_ok {g : a_G} : ∀ j, j < 19 → defaultValue (tyX1 j) = vp_V (d_b1.map (a_cv g)) j := by
  intro j hj
  rcases (show j = 0 ∨ j = 1 ∨ j = 2 ∨ j = 3 ∨ j = 4 ∨ j = 5 ∨ j = 6 ∨ j = 7 ∨ j = 8 ∨ j = 9 ∨ j = 10 ∨ j = 11 ∨ j = 12 ∨ j = 13 ∨ j = 14 ∨ j = 15 ∨ j = 16 ∨ j = 17 ∨ j = 18 by omega) with rfl | rfl | rfl | rfl | rfl | rfl | rfl | rfl | rfl | rfl | rfl | rfl | rfl | rfl | rfl | rfl | rfl | rfl | rfl <;> rfl
def d_nv (i : Nat) : List va_E := (([.inr (2, [.ref (i + 1), .int 0, .int 0]), .inl (3, 6, .inr (.inr (.inr (.inr (va_up (va_up (va_up (va_up (va_up (va_up (fun _ => none) 0 (some (i + 2))) 1 (some (i + 8))) 2 (some (i + 14))) 3 (some (i + 20))) 4 (some (i + 26))) 5 (some (i + 32)))))))] : List va_E) ++ d_nr (i + 2) ++ d_nr (i + 8) ++ d_nr (i + 14) ++ d_nr (i + 20) ++ d_nr (i + 26) ++ d_nr (i + 32))
set_option maxHeartbeats 400000 in
set_option maxRecDepth 100000 in
theorem c_X2_init (l : Launch) (g : a_G) (pre : List va_E) (hpl : pre.length < 800) : a_CT l g yX2_init cX2_init 2 none { frames := 2, cells := 37, slots := 1770, locals := 60 } [.ref pre.length] (pre ++ [.inr (2, d_b2)]) (some (pre.length + 1)) (some (pre.length + 38)) (fun r h' => r = none ∧ h' = pre ++ d_nv pre.length) := by
  refine a_enter ⟨by decide, rfl, Nat.le_of_ble_eq_true rfl⟩ (fun p e s m args below meth c hr hin => ?_)
  refine a_sub (ls' := [(0, .ref pre.length)]) [0] rfl ?_
  refine a_heq (h2 := pre ++ ([.inr (2, [.null, .int 0, .int 0])] : List va_E)) rfl ?_
  refine a_aload_n (pc' := 1) 0 dX2_init_0 rfl rfl rfl ?_
  refine a_objI (pc' := 4) (by intro w hw; simp only [List.mem_cons, List.not_mem_nil, or_false] at hw; rcases hw with rfl | rfl | rfl; exact (a_in1 107 rfl rfl); exact (a_in1 20 rfl rfl); exact (a_in1 21 rfl rfl)) dX2_init_1 (Nat.le_of_ble_eq_true rfl) (Nat.le_of_ble_eq_true rfl) rfl ?_
  refine a_aload_n (pc' := 5) 0 dX2_init_4 rfl rfl rfl ?_
  refine a_bipush (pc' := 7) (v := (6 : Int32)) dX2_init_5 rfl (by decide) ?_
  refine a_seq (k := (pre ++ ([.inr (2, [.null, .int 0, .int 0])] : List va_E)).length) (by simp) ?_
  refine a_anew (pc' := 10) (N := 6) (a_in1 108 rfl rfl) (by decide) (by decide) (by decide) (by simp; omega) dX2_init_7 rfl (by decide) (by decide) ?_
  refine a_heq (h2 := pre ++ ([.inr (2, [.null, .int 0, .int 0]), .inl (3, 6, .inr (.inr (.inr (.inr (fun _ => none)))))] : List va_E)) (by simp) ?_
  refine a_top (v := .ref (pre.length + 1)) (by simp) ?_
  refine pc_X2_11 (pc' := 13) hin (d_pre_at pre _ 0) (Nat.le_of_ble_eq_true rfl) dX2_init_10 rfl ?_
  refine a_heq (h2 := pre ++ (([.inr (2, [.ref (pre.length + 1), .int 0, .int 0]), .inl (3, 6, .inr (.inr (.inr (.inr (fun _ => none)))))] : List va_E))) (d_pre_set pre _ 0 _) ?_
  refine a_iconst (pc' := 14) (v := (0 : Int32)) dX2_init_13 rfl (by decide) ?_
  refine a_istore_n (pc' := 15) (ls' := [(1, .int (0 : Int32)), (0, .ref pre.length)]) dX2_init_14 rfl (by decide) rfl rfl ?_
  refine a_iload_n (pc' := 16) 0 dX2_init_15 rfl rfl rfl ?_
  refine a_aload_n (pc' := 17) 1 dX2_init_16 rfl rfl rfl ?_
  refine g_X2_11 (pc' := 20) (d_pre_at pre _ 0) rfl dX2_init_17 rfl ?_
  refine a_alen (pc' := 21) (kd := 3) (by decide) (d_pre_at pre _ 1) rfl dX2_init_20 rfl ?_
  refine a_icmp_ge (pc' := 24) 43 dX2_init_21 (by decide) rfl (fun k => absurd k (show ¬ (6 : Int32) ≤ 0 from by decide)) (fun _ => ?_)
  refine a_aload_n (pc' := 25) 1 dX2_init_24 rfl rfl rfl ?_
  refine g_X2_11 (pc' := 28) (d_pre_at pre _ 0) rfl dX2_init_25 rfl ?_
  refine a_iload_n (pc' := 29) 0 dX2_init_28 rfl rfl rfl ?_
  refine a_seq (k := (pre ++ (([.inr (2, [.ref (pre.length + 1), .int 0, .int 0]), .inl (3, 6, .inr (.inr (.inr (.inr (fun _ => none)))))] : List va_E))).length) (by simp [d_nr_len]) ?_
  refine a_new (pc' := 32) (ci := 1) (C := RX1) (T := TX1) (N := 19) (ty := tyX1) d_b1 rfl in_X1 tyX1_ok (by intro w hw; simp only [List.mem_cons, List.not_mem_nil, or_false] at hw; rcases hw with rfl | rfl | rfl; exact (a_in1 108 rfl rfl); exact (a_in1 23 rfl rfl); exact (a_in1 2 rfl rfl)) d_b1_ok (by simp [d_nr_len]; omega) dX2_init_29 rfl (by simp) (by simp) ?_
  refine a_dup (pc' := 33) dX2_init_32 rfl rfl ?_
  refine a_callIN (pc' := 36) (n := 0) (As := []) (c_X1_init l g (pre ++ (([.inr (2, [.ref (pre.length + 1), .int 0, .int 0]), .inl (3, 6, .inr (.inr (.inr (.inr (fun _ => none)))))] : List va_E))) (by simp [d_nr_len]; omega)) (by simp [a_nest]) (by intro w hw; simp only [List.mem_cons, List.not_mem_nil, or_false] at hw; rcases hw with rfl | rfl; exact (a_in1 25 rfl rfl); exact (a_in1 2 rfl rfl)) (a_in1 26 rfl rfl) ⟨by decide, by decide, by decide⟩ rfl rfl ⟨Nat.le_of_ble_eq_true rfl, Nat.le_of_ble_eq_true rfl⟩ ⟨by simp, by simp⟩ (Nat.le_of_ble_eq_true rfl) dX2_init_33 rfl (fun r h' hq => ?_)
  obtain ⟨rfl, rfl⟩ := hq
  refine a_heq (h2 := pre ++ (([.inr (2, [.ref (pre.length + 1), .int 0, .int 0]), .inl (3, 6, .inr (.inr (.inr (.inr (fun _ => none)))))] : List va_E) ++ d_nr (pre.length + 2))) (by simp only [List.append_assoc, List.length_append, d_nr_len, List.length_cons, List.length_nil, Nat.zero_add, Nat.reduceAdd, List.cons_append, List.nil_append]) ?_
  refine a_top (v := .ref (pre.length + 2)) (by simp [d_nr_len]) ?_
  refine a_aast (pc' := 37) (d_pre_at pre _ 1) (d_pre_at pre _ 2) (by unfold vp_in; decide) dX2_init_36 rfl ?_
  refine a_heq (h2 := pre ++ (([.inr (2, [.ref (pre.length + 1), .int 0, .int 0]), .inl (3, 6, .inr (.inr (.inr (.inr (va_up (fun _ => none) 0 (some (pre.length + 2)))))))] : List va_E) ++ d_nr (pre.length + 2))) (d_pre_set pre _ 1 _) ?_
  refine a_iinc (pc' := 40) (v := (1 : Int32)) (ls' := [(1, .int (1 : Int32)), (0, .ref pre.length)]) 0 dX2_init_37 rfl (by decide) (by decide) rfl rfl ?_
  refine a_goto 15 dX2_init_40 (by decide) ?_
  refine a_iload_n (pc' := 16) 0 dX2_init_15 rfl rfl rfl ?_
  refine a_aload_n (pc' := 17) 1 dX2_init_16 rfl rfl rfl ?_
  refine g_X2_11 (pc' := 20) (d_pre_at pre _ 0) rfl dX2_init_17 rfl ?_
  refine a_alen (pc' := 21) (kd := 3) (by decide) (d_pre_at pre _ 1) rfl dX2_init_20 rfl ?_
  refine a_icmp_ge (pc' := 24) 43 dX2_init_21 (by decide) rfl (fun k => absurd k (show ¬ (6 : Int32) ≤ 1 from by decide)) (fun _ => ?_)
  refine a_aload_n (pc' := 25) 1 dX2_init_24 rfl rfl rfl ?_
  refine g_X2_11 (pc' := 28) (d_pre_at pre _ 0) rfl dX2_init_25 rfl ?_
  refine a_iload_n (pc' := 29) 0 dX2_init_28 rfl rfl rfl ?_
  refine a_seq (k := (pre ++ (([.inr (2, [.ref (pre.length + 1), .int 0, .int 0]), .inl (3, 6, .inr (.inr (.inr (.inr (va_up (fun _ => none) 0 (some (pre.length + 2)))))))] : List va_E) ++ d_nr (pre.length + 2))).length) (by simp [d_nr_len]) ?_
  refine a_new (pc' := 32) (ci := 1) (C := RX1) (T := TX1) (N := 19) (ty := tyX1) d_b1 rfl in_X1 tyX1_ok (by intro w hw; simp only [List.mem_cons, List.not_mem_nil, or_false] at hw; rcases hw with rfl | rfl | rfl; exact (a_in1 108 rfl rfl); exact (a_in1 23 rfl rfl); exact (a_in1 2 rfl rfl)) d_b1_ok (by simp [d_nr_len]; omega) dX2_init_29 rfl (by simp) (by simp) ?_
  refine a_dup (pc' := 33) dX2_init_32 rfl rfl ?_
  refine a_callIN (pc' := 36) (n := 0) (As := []) (c_X1_init l g (pre ++ (([.inr (2, [.ref (pre.length + 1), .int 0, .int 0]), .inl (3, 6, .inr (.inr (.inr (.inr (va_up (fun _ => none) 0 (some (pre.length + 2)))))))] : List va_E) ++ d_nr (pre.length + 2))) (by simp [d_nr_len]; omega)) (by simp [a_nest]) (by intro w hw; simp only [List.mem_cons, List.not_mem_nil, or_false] at hw; rcases hw with rfl | rfl; exact (a_in1 25 rfl rfl); exact (a_in1 2 rfl rfl)) (a_in1 26 rfl rfl) ⟨by decide, by decide, by decide⟩ rfl rfl ⟨Nat.le_of_ble_eq_true rfl, Nat.le_of_ble_eq_true rfl⟩ ⟨by simp, by simp⟩ (Nat.le_of_ble_eq_true rfl) dX2_init_33 rfl (fun r h' hq => ?_)
  obtain ⟨rfl, rfl⟩ := hq
  refine a_heq (h2 := pre ++ (([.inr (2, [.ref (pre.length + 1), .int 0, .int 0]), .inl (3, 6, .inr (.inr (.inr (.inr (va_up (fun _ => none) 0 (some (pre.length + 2)))))))] : List va_E) ++ d_nr (pre.length + 2) ++ d_nr (pre.length + 8))) (by simp only [List.append_assoc, List.length_append, d_nr_len, List.length_cons, List.length_nil, Nat.zero_add, Nat.reduceAdd, List.cons_append, List.nil_append]) ?_
  refine a_top (v := .ref (pre.length + 8)) (by simp [d_nr_len]) ?_
  refine a_aast (pc' := 37) (d_pre_at pre _ 1) (d_pre_at pre _ 8) (by unfold vp_in; decide) dX2_init_36 rfl ?_
  refine a_heq (h2 := pre ++ (([.inr (2, [.ref (pre.length + 1), .int 0, .int 0]), .inl (3, 6, .inr (.inr (.inr (.inr (va_up (va_up (fun _ => none) 0 (some (pre.length + 2))) 1 (some (pre.length + 8)))))))] : List va_E) ++ d_nr (pre.length + 2) ++ d_nr (pre.length + 8))) (d_pre_set pre _ 1 _) ?_
  refine a_iinc (pc' := 40) (v := (2 : Int32)) (ls' := [(1, .int (2 : Int32)), (0, .ref pre.length)]) 0 dX2_init_37 rfl (by decide) (by decide) rfl rfl ?_
  refine a_goto 15 dX2_init_40 (by decide) ?_
  refine a_iload_n (pc' := 16) 0 dX2_init_15 rfl rfl rfl ?_
  refine a_aload_n (pc' := 17) 1 dX2_init_16 rfl rfl rfl ?_
  refine g_X2_11 (pc' := 20) (d_pre_at pre _ 0) rfl dX2_init_17 rfl ?_
  refine a_alen (pc' := 21) (kd := 3) (by decide) (d_pre_at pre _ 1) rfl dX2_init_20 rfl ?_
  refine a_icmp_ge (pc' := 24) 43 dX2_init_21 (by decide) rfl (fun k => absurd k (show ¬ (6 : Int32) ≤ 2 from by decide)) (fun _ => ?_)
  refine a_aload_n (pc' := 25) 1 dX2_init_24 rfl rfl rfl ?_
  refine g_X2_11 (pc' := 28) (d_pre_at pre _ 0) rfl dX2_init_25 rfl ?_
  refine a_iload_n (pc' := 29) 0 dX2_init_28 rfl rfl rfl ?_
  refine a_seq (k := (pre ++ (([.inr (2, [.ref (pre.length + 1), .int 0, .int 0]), .inl (3, 6, .inr (.inr (.inr (.inr (va_up (va_up (fun _ => none) 0 (some (pre.length + 2))) 1 (some (pre.length + 8)))))))] : List va_E) ++ d_nr (pre.length + 2) ++ d_nr (pre.length + 8))).length) (by simp [d_nr_len]) ?_
  refine a_new (pc' := 32) (ci := 1) (C := RX1) (T := TX1) (N := 19) (ty := tyX1) d_b1 rfl in_X1 tyX1_ok (by intro w hw; simp only [List.mem_cons, List.not_mem_nil, or_false] at hw; rcases hw with rfl | rfl | rfl; exact (a_in1 108 rfl rfl); exact (a_in1 23 rfl rfl); exact (a_in1 2 rfl rfl)) d_b1_ok (by simp [d_nr_len]; omega) dX2_init_29 rfl (by simp) (by simp) ?_
  refine a_dup (pc' := 33) dX2_init_32 rfl rfl ?_
  refine a_callIN (pc' := 36) (n := 0) (As := []) (c_X1_init l g (pre ++ (([.inr (2, [.ref (pre.length + 1), .int 0, .int 0]), .inl (3, 6, .inr (.inr (.inr (.inr (va_up (va_up (fun _ => none) 0 (some (pre.length + 2))) 1 (some (pre.length + 8)))))))] : List va_E) ++ d_nr (pre.length + 2) ++ d_nr (pre.length + 8))) (by simp [d_nr_len]; omega)) (by simp [a_nest]) (by intro w hw; simp only [List.mem_cons, List.not_mem_nil, or_false] at hw; rcases hw with rfl | rfl; exact (a_in1 25 rfl rfl); exact (a_in1 2 rfl rfl)) (a_in1 26 rfl rfl) ⟨by decide, by decide, by decide⟩ rfl rfl ⟨Nat.le_of_ble_eq_true rfl, Nat.le_of_ble_eq_true rfl⟩ ⟨by simp, by simp⟩ (Nat.le_of_ble_eq_true rfl) dX2_init_33 rfl (fun r h' hq => ?_)
  obtain ⟨rfl, rfl⟩ := hq
  refine a_heq (h2 := pre ++ (([.inr (2, [.ref (pre.length + 1), .int 0, .int 0]), .inl (3, 6, .inr (.inr (.inr (.inr (va_up (va_up (fun _ => none) 0 (some (pre.length + 2))) 1 (some (pre.length + 8)))))))] : List va_E) ++ d_nr (pre.length + 2) ++ d_nr (pre.length + 8) ++ d_nr (pre.length + 14))) (by simp only [List.append_assoc, List.length_append, d_nr_len, List.length_cons, List.length_nil, Nat.zero_add, Nat.reduceAdd, List.cons_append, List.nil_append]) ?_
  refine a_top (v := .ref (pre.length + 14)) (by simp [d_nr_len]) ?_
  refine a_aast (pc' := 37) (d_pre_at pre _ 1) (d_pre_at pre _ 14) (by unfold vp_in; decide) dX2_init_36 rfl ?_
  refine a_heq (h2 := pre ++ (([.inr (2, [.ref (pre.length + 1), .int 0, .int 0]), .inl (3, 6, .inr (.inr (.inr (.inr (va_up (va_up (va_up (fun _ => none) 0 (some (pre.length + 2))) 1 (some (pre.length + 8))) 2 (some (pre.length + 14)))))))] : List va_E) ++ d_nr (pre.length + 2) ++ d_nr (pre.length + 8) ++ d_nr (pre.length + 14))) (d_pre_set pre _ 1 _) ?_
  refine a_iinc (pc' := 40) (v := (3 : Int32)) (ls' := [(1, .int (3 : Int32)), (0, .ref pre.length)]) 0 dX2_init_37 rfl (by decide) (by decide) rfl rfl ?_
  refine a_goto 15 dX2_init_40 (by decide) ?_
  refine a_iload_n (pc' := 16) 0 dX2_init_15 rfl rfl rfl ?_
  refine a_aload_n (pc' := 17) 1 dX2_init_16 rfl rfl rfl ?_
  refine g_X2_11 (pc' := 20) (d_pre_at pre _ 0) rfl dX2_init_17 rfl ?_
  refine a_alen (pc' := 21) (kd := 3) (by decide) (d_pre_at pre _ 1) rfl dX2_init_20 rfl ?_
  refine a_icmp_ge (pc' := 24) 43 dX2_init_21 (by decide) rfl (fun k => absurd k (show ¬ (6 : Int32) ≤ 3 from by decide)) (fun _ => ?_)
  refine a_aload_n (pc' := 25) 1 dX2_init_24 rfl rfl rfl ?_
  refine g_X2_11 (pc' := 28) (d_pre_at pre _ 0) rfl dX2_init_25 rfl ?_
  refine a_iload_n (pc' := 29) 0 dX2_init_28 rfl rfl rfl ?_
  refine a_seq (k := (pre ++ (([.inr (2, [.ref (pre.length + 1), .int 0, .int 0]), .inl (3, 6, .inr (.inr (.inr (.inr (va_up (va_up (va_up (fun _ => none) 0 (some (pre.length + 2))) 1 (some (pre.length + 8))) 2 (some (pre.length + 14)))))))] : List va_E) ++ d_nr (pre.length + 2) ++ d_nr (pre.length + 8) ++ d_nr (pre.length + 14))).length) (by simp [d_nr_len]) ?_
  refine a_new (pc' := 32) (ci := 1) (C := RX1) (T := TX1) (N := 19) (ty := tyX1) d_b1 rfl in_X1 tyX1_ok (by intro w hw; simp only [List.mem_cons, List.not_mem_nil, or_false] at hw; rcases hw with rfl | rfl | rfl; exact (a_in1 108 rfl rfl); exact (a_in1 23 rfl rfl); exact (a_in1 2 rfl rfl)) d_b1_ok (by simp [d_nr_len]; omega) dX2_init_29 rfl (by simp) (by simp) ?_
  refine a_dup (pc' := 33) dX2_init_32 rfl rfl ?_
  refine a_callIN (pc' := 36) (n := 0) (As := []) (c_X1_init l g (pre ++ (([.inr (2, [.ref (pre.length + 1), .int 0, .int 0]), .inl (3, 6, .inr (.inr (.inr (.inr (va_up (va_up (va_up (fun _ => none) 0 (some (pre.length + 2))) 1 (some (pre.length + 8))) 2 (some (pre.length + 14)))))))] : List va_E) ++ d_nr (pre.length + 2) ++ d_nr (pre.length + 8) ++ d_nr (pre.length + 14))) (by simp [d_nr_len]; omega)) (by simp [a_nest]) (by intro w hw; simp only [List.mem_cons, List.not_mem_nil, or_false] at hw; rcases hw with rfl | rfl; exact (a_in1 25 rfl rfl); exact (a_in1 2 rfl rfl)) (a_in1 26 rfl rfl) ⟨by decide, by decide, by decide⟩ rfl rfl ⟨Nat.le_of_ble_eq_true rfl, Nat.le_of_ble_eq_true rfl⟩ ⟨by simp, by simp⟩ (Nat.le_of_ble_eq_true rfl) dX2_init_33 rfl (fun r h' hq => ?_)
  obtain ⟨rfl, rfl⟩ := hq
  refine a_heq (h2 := pre ++ (([.inr (2, [.ref (pre.length + 1), .int 0, .int 0]), .inl (3, 6, .inr (.inr (.inr (.inr (va_up (va_up (va_up (fun _ => none) 0 (some (pre.length + 2))) 1 (some (pre.length + 8))) 2 (some (pre.length + 14)))))))] : List va_E) ++ d_nr (pre.length + 2) ++ d_nr (pre.length + 8) ++ d_nr (pre.length + 14) ++ d_nr (pre.length + 20))) (by simp only [List.append_assoc, List.length_append, d_nr_len, List.length_cons, List.length_nil, Nat.zero_add, Nat.reduceAdd, List.cons_append, List.nil_append]) ?_
  refine a_top (v := .ref (pre.length + 20)) (by simp [d_nr_len]) ?_
  refine a_aast (pc' := 37) (d_pre_at pre _ 1) (d_pre_at pre _ 20) (by unfold vp_in; decide) dX2_init_36 rfl ?_
  refine a_heq (h2 := pre ++ (([.inr (2, [.ref (pre.length + 1), .int 0, .int 0]), .inl (3, 6, .inr (.inr (.inr (.inr (va_up (va_up (va_up (va_up (fun _ => none) 0 (some (pre.length + 2))) 1 (some (pre.length + 8))) 2 (some (pre.length + 14))) 3 (some (pre.length + 20)))))))] : List va_E) ++ d_nr (pre.length + 2) ++ d_nr (pre.length + 8) ++ d_nr (pre.length + 14) ++ d_nr (pre.length + 20))) (d_pre_set pre _ 1 _) ?_
  refine a_iinc (pc' := 40) (v := (4 : Int32)) (ls' := [(1, .int (4 : Int32)), (0, .ref pre.length)]) 0 dX2_init_37 rfl (by decide) (by decide) rfl rfl ?_
  refine a_goto 15 dX2_init_40 (by decide) ?_
  refine a_iload_n (pc' := 16) 0 dX2_init_15 rfl rfl rfl ?_
  refine a_aload_n (pc' := 17) 1 dX2_init_16 rfl rfl rfl ?_
  refine g_X2_11 (pc' := 20) (d_pre_at pre _ 0) rfl dX2_init_17 rfl ?_
  refine a_alen (pc' := 21) (kd := 3) (by decide) (d_pre_at pre _ 1) rfl dX2_init_20 rfl ?_
  refine a_icmp_ge (pc' := 24) 43 dX2_init_21 (by decide) rfl (fun k => absurd k (show ¬ (6 : Int32) ≤ 4 from by decide)) (fun _ => ?_)
  refine a_aload_n (pc' := 25) 1 dX2_init_24 rfl rfl rfl ?_
  refine g_X2_11 (pc' := 28) (d_pre_at pre _ 0) rfl dX2_init_25 rfl ?_
  refine a_iload_n (pc' := 29) 0 dX2_init_28 rfl rfl rfl ?_
  refine a_seq (k := (pre ++ (([.inr (2, [.ref (pre.length + 1), .int 0, .int 0]), .inl (3, 6, .inr (.inr (.inr (.inr (va_up (va_up (va_up (va_up (fun _ => none) 0 (some (pre.length + 2))) 1 (some (pre.length + 8))) 2 (some (pre.length + 14))) 3 (some (pre.length + 20)))))))] : List va_E) ++ d_nr (pre.length + 2) ++ d_nr (pre.length + 8) ++ d_nr (pre.length + 14) ++ d_nr (pre.length + 20))).length) (by simp [d_nr_len]) ?_
  refine a_new (pc' := 32) (ci := 1) (C := RX1) (T := TX1) (N := 19) (ty := tyX1) d_b1 rfl in_X1 tyX1_ok (by intro w hw; simp only [List.mem_cons, List.not_mem_nil, or_false] at hw; rcases hw with rfl | rfl | rfl; exact (a_in1 108 rfl rfl); exact (a_in1 23 rfl rfl); exact (a_in1 2 rfl rfl)) d_b1_ok (by simp [d_nr_len]; omega) dX2_init_29 rfl (by simp) (by simp) ?_
  refine a_dup (pc' := 33) dX2_init_32 rfl rfl ?_
  refine a_callIN (pc' := 36) (n := 0) (As := []) (c_X1_init l g (pre ++ (([.inr (2, [.ref (pre.length + 1), .int 0, .int 0]), .inl (3, 6, .inr (.inr (.inr (.inr (va_up (va_up (va_up (va_up (fun _ => none) 0 (some (pre.length + 2))) 1 (some (pre.length + 8))) 2 (some (pre.length + 14))) 3 (some (pre.length + 20)))))))] : List va_E) ++ d_nr (pre.length + 2) ++ d_nr (pre.length + 8) ++ d_nr (pre.length + 14) ++ d_nr (pre.length + 20))) (by simp [d_nr_len]; omega)) (by simp [a_nest]) (by intro w hw; simp only [List.mem_cons, List.not_mem_nil, or_false] at hw; rcases hw with rfl | rfl; exact (a_in1 25 rfl rfl); exact (a_in1 2 rfl rfl)) (a_in1 26 rfl rfl) ⟨by decide, by decide, by decide⟩ rfl rfl ⟨Nat.le_of_ble_eq_true rfl, Nat.le_of_ble_eq_true rfl⟩ ⟨by simp, by simp⟩ (Nat.le_of_ble_eq_true rfl) dX2_init_33 rfl (fun r h' hq => ?_)
  obtain ⟨rfl, rfl⟩ := hq
  refine a_heq (h2 := pre ++ (([.inr (2, [.ref (pre.length + 1), .int 0, .int 0]), .inl (3, 6, .inr (.inr (.inr (.inr (va_up (va_up (va_up (va_up (fun _ => none) 0 (some (pre.length + 2))) 1 (some (pre.length + 8))) 2 (some (pre.length + 14))) 3 (some (pre.length + 20)))))))] : List va_E) ++ d_nr (pre.length + 2) ++ d_nr (pre.length + 8) ++ d_nr (pre.length + 14) ++ d_nr (pre.length + 20) ++ d_nr (pre.length + 26))) (by simp only [List.append_assoc, List.length_append, d_nr_len, List.length_cons, List.length_nil, Nat.zero_add, Nat.reduceAdd, List.cons_append, List.nil_append]) ?_
  refine a_top (v := .ref (pre.length + 26)) (by simp [d_nr_len]) ?_
  refine a_aast (pc' := 37) (d_pre_at pre _ 1) (d_pre_at pre _ 26) (by unfold vp_in; decide) dX2_init_36 rfl ?_
  refine a_heq (h2 := pre ++ (([.inr (2, [.ref (pre.length + 1), .int 0, .int 0]), .inl (3, 6, .inr (.inr (.inr (.inr (va_up (va_up (va_up (va_up (va_up (fun _ => none) 0 (some (pre.length + 2))) 1 (some (pre.length + 8))) 2 (some (pre.length + 14))) 3 (some (pre.length + 20))) 4 (some (pre.length + 26)))))))] : List va_E) ++ d_nr (pre.length + 2) ++ d_nr (pre.length + 8) ++ d_nr (pre.length + 14) ++ d_nr (pre.length + 20) ++ d_nr (pre.length + 26))) (d_pre_set pre _ 1 _) ?_
  refine a_iinc (pc' := 40) (v := (5 : Int32)) (ls' := [(1, .int (5 : Int32)), (0, .ref pre.length)]) 0 dX2_init_37 rfl (by decide) (by decide) rfl rfl ?_
  refine a_goto 15 dX2_init_40 (by decide) ?_
  refine a_iload_n (pc' := 16) 0 dX2_init_15 rfl rfl rfl ?_
  refine a_aload_n (pc' := 17) 1 dX2_init_16 rfl rfl rfl ?_
  refine g_X2_11 (pc' := 20) (d_pre_at pre _ 0) rfl dX2_init_17 rfl ?_
  refine a_alen (pc' := 21) (kd := 3) (by decide) (d_pre_at pre _ 1) rfl dX2_init_20 rfl ?_
  refine a_icmp_ge (pc' := 24) 43 dX2_init_21 (by decide) rfl (fun k => absurd k (show ¬ (6 : Int32) ≤ 5 from by decide)) (fun _ => ?_)
  refine a_aload_n (pc' := 25) 1 dX2_init_24 rfl rfl rfl ?_
  refine g_X2_11 (pc' := 28) (d_pre_at pre _ 0) rfl dX2_init_25 rfl ?_
  refine a_iload_n (pc' := 29) 0 dX2_init_28 rfl rfl rfl ?_
  refine a_seq (k := (pre ++ (([.inr (2, [.ref (pre.length + 1), .int 0, .int 0]), .inl (3, 6, .inr (.inr (.inr (.inr (va_up (va_up (va_up (va_up (va_up (fun _ => none) 0 (some (pre.length + 2))) 1 (some (pre.length + 8))) 2 (some (pre.length + 14))) 3 (some (pre.length + 20))) 4 (some (pre.length + 26)))))))] : List va_E) ++ d_nr (pre.length + 2) ++ d_nr (pre.length + 8) ++ d_nr (pre.length + 14) ++ d_nr (pre.length + 20) ++ d_nr (pre.length + 26))).length) (by simp [d_nr_len]) ?_
  refine a_new (pc' := 32) (ci := 1) (C := RX1) (T := TX1) (N := 19) (ty := tyX1) d_b1 rfl in_X1 tyX1_ok (by intro w hw; simp only [List.mem_cons, List.not_mem_nil, or_false] at hw; rcases hw with rfl | rfl | rfl; exact (a_in1 108 rfl rfl); exact (a_in1 23 rfl rfl); exact (a_in1 2 rfl rfl)) d_b1_ok (by simp [d_nr_len]; omega) dX2_init_29 rfl (by simp) (by simp) ?_
  refine a_dup (pc' := 33) dX2_init_32 rfl rfl ?_
  refine a_callIN (pc' := 36) (n := 0) (As := []) (c_X1_init l g (pre ++ (([.inr (2, [.ref (pre.length + 1), .int 0, .int 0]), .inl (3, 6, .inr (.inr (.inr (.inr (va_up (va_up (va_up (va_up (va_up (fun _ => none) 0 (some (pre.length + 2))) 1 (some (pre.length + 8))) 2 (some (pre.length + 14))) 3 (some (pre.length + 20))) 4 (some (pre.length + 26)))))))] : List va_E) ++ d_nr (pre.length + 2) ++ d_nr (pre.length + 8) ++ d_nr (pre.length + 14) ++ d_nr (pre.length + 20) ++ d_nr (pre.length + 26))) (by simp [d_nr_len]; omega)) (by simp [a_nest]) (by intro w hw; simp only [List.mem_cons, List.not_mem_nil, or_false] at hw; rcases hw with rfl | rfl; exact (a_in1 25 rfl rfl); exact (a_in1 2 rfl rfl)) (a_in1 26 rfl rfl) ⟨by decide, by decide, by decide⟩ rfl rfl ⟨Nat.le_of_ble_eq_true rfl, Nat.le_of_ble_eq_true rfl⟩ ⟨by simp, by simp⟩ (Nat.le_of_ble_eq_true rfl) dX2_init_33 rfl (fun r h' hq => ?_)
  obtain ⟨rfl, rfl⟩ := hq
  refine a_heq (h2 := pre ++ (([.inr (2, [.ref (pre.length + 1), .int 0, .int 0]), .inl (3, 6, .inr (.inr (.inr (.inr (va_up (va_up (va_up (va_up (va_up (fun _ => none) 0 (some (pre.length + 2))) 1 (some (pre.length + 8))) 2 (some (pre.length + 14))) 3 (some (pre.length + 20))) 4 (some (pre.length + 26)))))))] : List va_E) ++ d_nr (pre.length + 2) ++ d_nr (pre.length + 8) ++ d_nr (pre.length + 14) ++ d_nr (pre.length + 20) ++ d_nr (pre.length + 26) ++ d_nr (pre.length + 32))) (by simp only [List.append_assoc, List.length_append, d_nr_len, List.length_cons, List.length_nil, Nat.zero_add, Nat.reduceAdd, List.cons_append, List.nil_append]) ?_
  refine a_top (v := .ref (pre.length + 32)) (by simp [d_nr_len]) ?_
  refine a_aast (pc' := 37) (d_pre_at pre _ 1) (d_pre_at pre _ 32) (by unfold vp_in; decide) dX2_init_36 rfl ?_
  refine a_heq (h2 := pre ++ (([.inr (2, [.ref (pre.length + 1), .int 0, .int 0]), .inl (3, 6, .inr (.inr (.inr (.inr (va_up (va_up (va_up (va_up (va_up (va_up (fun _ => none) 0 (some (pre.length + 2))) 1 (some (pre.length + 8))) 2 (some (pre.length + 14))) 3 (some (pre.length + 20))) 4 (some (pre.length + 26))) 5 (some (pre.length + 32)))))))] : List va_E) ++ d_nr (pre.length + 2) ++ d_nr (pre.length + 8) ++ d_nr (pre.length + 14) ++ d_nr (pre.length + 20) ++ d_nr (pre.length + 26) ++ d_nr (pre.length + 32))) (d_pre_set pre _ 1 _) ?_
  refine a_iinc (pc' := 40) (v := (6 : Int32)) (ls' := [(1, .int (6 : Int32)), (0, .ref pre.length)]) 0 dX2_init_37 rfl (by decide) (by decide) rfl rfl ?_
  refine a_goto 15 dX2_init_40 (by decide) ?_
  refine a_iload_n (pc' := 16) 0 dX2_init_15 rfl rfl rfl ?_
  refine a_aload_n (pc' := 17) 1 dX2_init_16 rfl rfl rfl ?_
  refine g_X2_11 (pc' := 20) (d_pre_at pre _ 0) rfl dX2_init_17 rfl ?_
  refine a_alen (pc' := 21) (kd := 3) (by decide) (d_pre_at pre _ 1) rfl dX2_init_20 rfl ?_
  refine a_icmp_ge (pc' := 24) 43 dX2_init_21 (by decide) rfl (fun _ => ?_) (fun k => absurd (show (6 : Int32) ≤ 6 from by decide) k)
  refine a_widen (k := 37) (n := 1770) (by simp) (by simp) ?_
  refine a_seq (k := pre.length + 38) (by simp [d_nr_len]) ?_
  exact a_vret hr ⟨rfl, rfl⟩ dX2_init_43
theorem d_b0_ok {g : a_G} : ∀ j, j < 5 → defaultValue (tyX0 j) = vp_V (d_b0.map (a_cv g)) j := by
  intro j hj
  rcases (show j = 0 ∨ j = 1 ∨ j = 2 ∨ j = 3 ∨ j = 4 by omega) with rfl | rfl | rfl | rfl | rfl <;> rfl
theorem d_b2_ok {g : a_G} : ∀ j, j < 3 → defaultValue (tyX2 j) = vp_V (d_b2.map (a_cv g)) j := by
  intro j hj
  rcases (show j = 0 ∨ j = 1 ∨ j = 2 by omega) with rfl | rfl | rfl <;> rfl
theorem d_b3_ok {g : a_G} : ∀ j, j < 4 → defaultValue (tyX3 j) = vp_V (d_b3.map (a_cv g)) j := by
  intro j hj
  rcases (show j = 0 ∨ j = 1 ∨ j = 2 ∨ j = 3 by omega) with rfl | rfl | rfl | rfl <;> rfl
def d_h0 : List va_E := ([.inr (3, [.ref 1, .ref 7, .ref 13, .ref 51])] : List va_E) ++ d_nr 1 ++ d_nr 7 ++ d_nv 13 ++ d_nt 51
set_option maxHeartbeats 1000000 in
set_option maxRecDepth 100000 in
theorem c_X3_init (l : Launch) (g : a_G) : a_CT l g yX3_init cX3_init 1 none { frames := 3, cells := 54, slots := 2546, locals := 100 } [.ref 0] [.inr (3, d_b3)] (some 1) (some 55) (fun r h' => r = none ∧ h' = d_h0) := by
  refine a_enter ⟨by decide, rfl, Nat.le_of_ble_eq_true rfl⟩ (fun p e s m args below meth c hr hin => ?_)
  refine a_sub (ls' := [(0, .ref 0)]) [0] rfl ?_
  refine a_heq (h2 := ([.inr (3, [.null, .null, .null, .null])] : List va_E)) rfl ?_
  refine a_aload_n (pc' := 1) 0 dX3_init_0 rfl rfl rfl ?_
  refine a_objI (pc' := 4) (by intro w hw; simp only [List.mem_cons, List.not_mem_nil, or_false] at hw; rcases hw with rfl | rfl | rfl; exact (a_in1 19 rfl rfl); exact (a_in1 20 rfl rfl); exact (a_in1 21 rfl rfl)) dX3_init_1 (Nat.le_of_ble_eq_true rfl) (Nat.le_of_ble_eq_true rfl) rfl ?_
  refine a_aload_n (pc' := 5) 0 dX3_init_4 rfl rfl rfl ?_
  refine a_seq (k := (([.inr (3, [.null, .null, .null, .null])] : List va_E)).length) rfl ?_
  refine a_new (pc' := 8) (ci := 1) (C := RX1) (T := TX1) (N := 19) (ty := tyX1) d_b1 rfl in_X1 tyX1_ok (by intro w hw; simp only [List.mem_cons, List.not_mem_nil, or_false] at hw; rcases hw with rfl | rfl | rfl; exact (a_in1 22 rfl rfl); exact (a_in1 23 rfl rfl); exact (a_in1 2 rfl rfl)) d_b1_ok (Nat.le_of_ble_eq_true rfl) dX3_init_5 rfl (Nat.le_of_ble_eq_true rfl) (Nat.le_of_ble_eq_true rfl) ?_
  refine a_dup (pc' := 9) dX3_init_8 rfl rfl ?_
  refine a_callIN (pc' := 12) (n := 0) (As := []) (c_X1_init l g (([.inr (3, [.null, .null, .null, .null])] : List va_E)) (Nat.le_of_ble_eq_true rfl)) (by show (RX3, 9, yX1_init) ∈ a_nest; simp [a_nest]) (by intro w hw; simp only [List.mem_cons, List.not_mem_nil, or_false] at hw; rcases hw with rfl | rfl; exact (a_in1 25 rfl rfl); exact (a_in1 2 rfl rfl)) (a_in1 26 rfl rfl) ⟨by decide, by decide, by decide⟩ rfl rfl ⟨Nat.le_of_ble_eq_true rfl, Nat.le_of_ble_eq_true rfl⟩ ⟨Nat.le_of_ble_eq_true rfl, Nat.le_of_ble_eq_true rfl⟩ (Nat.le_of_ble_eq_true rfl) dX3_init_9 rfl (fun r h' hq => ?_)
  obtain ⟨rfl, rfl⟩ := hq
  refine a_heq (h2 := ([.inr (3, [.null, .null, .null, .null])] : List va_E) ++ d_nr 1) rfl ?_
  refine a_top (v := .ref 1) rfl ?_
  refine pc_X3_10 (pc' := 15) hin (i := 0) rfl (Nat.le_of_ble_eq_true rfl) dX3_init_12 rfl ?_
  refine a_heq (h2 := ([.inr (3, [.ref 1, .null, .null, .null])] : List va_E) ++ d_nr 1) rfl ?_
  refine a_aload_n (pc' := 16) 0 dX3_init_15 rfl rfl rfl ?_
  refine a_seq (k := (([.inr (3, [.ref 1, .null, .null, .null])] : List va_E) ++ d_nr 1).length) rfl ?_
  refine a_new (pc' := 19) (ci := 1) (C := RX1) (T := TX1) (N := 19) (ty := tyX1) d_b1 rfl in_X1 tyX1_ok (by intro w hw; simp only [List.mem_cons, List.not_mem_nil, or_false] at hw; rcases hw with rfl | rfl | rfl; exact (a_in1 22 rfl rfl); exact (a_in1 23 rfl rfl); exact (a_in1 2 rfl rfl)) d_b1_ok (Nat.le_of_ble_eq_true rfl) dX3_init_16 rfl (Nat.le_of_ble_eq_true rfl) (Nat.le_of_ble_eq_true rfl) ?_
  refine a_dup (pc' := 20) dX3_init_19 rfl rfl ?_
  refine a_callIN (pc' := 23) (n := 0) (As := []) (c_X1_init l g (([.inr (3, [.ref 1, .null, .null, .null])] : List va_E) ++ d_nr 1) (Nat.le_of_ble_eq_true rfl)) (by show (RX3, 9, yX1_init) ∈ a_nest; simp [a_nest]) (by intro w hw; simp only [List.mem_cons, List.not_mem_nil, or_false] at hw; rcases hw with rfl | rfl; exact (a_in1 25 rfl rfl); exact (a_in1 2 rfl rfl)) (a_in1 26 rfl rfl) ⟨by decide, by decide, by decide⟩ rfl rfl ⟨Nat.le_of_ble_eq_true rfl, Nat.le_of_ble_eq_true rfl⟩ ⟨Nat.le_of_ble_eq_true rfl, Nat.le_of_ble_eq_true rfl⟩ (Nat.le_of_ble_eq_true rfl) dX3_init_20 rfl (fun r h' hq => ?_)
  obtain ⟨rfl, rfl⟩ := hq
  refine a_heq (h2 := ([.inr (3, [.ref 1, .null, .null, .null])] : List va_E) ++ d_nr 1 ++ d_nr 7) rfl ?_
  refine a_top (v := .ref 7) rfl ?_
  refine pc_X3_16 (pc' := 26) hin (i := 0) rfl (Nat.le_of_ble_eq_true rfl) dX3_init_23 rfl ?_
  refine a_heq (h2 := ([.inr (3, [.ref 1, .ref 7, .null, .null])] : List va_E) ++ d_nr 1 ++ d_nr 7) rfl ?_
  refine a_aload_n (pc' := 27) 0 dX3_init_26 rfl rfl rfl ?_
  refine a_seq (k := (([.inr (3, [.ref 1, .ref 7, .null, .null])] : List va_E) ++ d_nr 1 ++ d_nr 7).length) rfl ?_
  refine a_new (pc' := 30) (ci := 2) (C := RX2) (T := TX2) (N := 3) (ty := tyX2) d_b2 rfl in_X2 tyX2_ok (by intro w hw; simp only [List.mem_cons, List.not_mem_nil, or_false] at hw; rcases hw with rfl | rfl | rfl; exact (a_in1 102 rfl rfl); exact (a_in1 103 rfl rfl); exact (a_in1 3 rfl rfl)) d_b2_ok (Nat.le_of_ble_eq_true rfl) dX3_init_27 rfl (Nat.le_of_ble_eq_true rfl) (Nat.le_of_ble_eq_true rfl) ?_
  refine a_dup (pc' := 31) dX3_init_30 rfl rfl ?_
  refine a_callI (pc' := 34) (n := 0) (As := []) (c_X2_init l g (([.inr (3, [.ref 1, .ref 7, .null, .null])] : List va_E) ++ d_nr 1 ++ d_nr 7) (Nat.le_of_ble_eq_true rfl)) (by intro w hw; simp only [List.mem_cons, List.not_mem_nil, or_false] at hw; rcases hw with rfl | rfl | rfl; exact (a_in1 104 rfl rfl); exact (a_in1 105 rfl rfl); exact (a_in1 3 rfl rfl)) (a_in1 106 rfl rfl) ⟨by decide, by decide, by decide⟩ rfl rfl ⟨Nat.le_of_ble_eq_true rfl, Nat.le_of_ble_eq_true rfl⟩ ⟨Nat.le_of_ble_eq_true rfl, Nat.le_of_ble_eq_true rfl⟩ (Nat.le_of_ble_eq_true rfl) dX3_init_31 rfl (fun r h' hq => ?_)
  obtain ⟨rfl, rfl⟩ := hq
  refine a_heq (h2 := ([.inr (3, [.ref 1, .ref 7, .null, .null])] : List va_E) ++ d_nr 1 ++ d_nr 7 ++ d_nv 13) rfl ?_
  refine a_top (v := .ref 13) rfl ?_
  refine pc_X3_22 (pc' := 37) hin (i := 0) rfl (Nat.le_of_ble_eq_true rfl) dX3_init_34 rfl ?_
  refine a_heq (h2 := ([.inr (3, [.ref 1, .ref 7, .ref 13, .null])] : List va_E) ++ d_nr 1 ++ d_nr 7 ++ d_nv 13) rfl ?_
  refine a_aload_n (pc' := 38) 0 dX3_init_37 rfl rfl rfl ?_
  refine a_seq (k := (([.inr (3, [.ref 1, .ref 7, .ref 13, .null])] : List va_E) ++ d_nr 1 ++ d_nr 7 ++ d_nv 13).length) rfl ?_
  refine a_new (pc' := 41) (ci := 0) (C := RX0) (T := TX0) (N := 5) (ty := tyX0) d_b0 rfl in_X0 tyX0_ok (by intro w hw; simp only [List.mem_cons, List.not_mem_nil, or_false] at hw; rcases hw with rfl | rfl | rfl; exact (a_in1 122 rfl rfl); exact (a_in1 123 rfl rfl); exact (a_in1 4 rfl rfl)) d_b0_ok (Nat.le_of_ble_eq_true rfl) dX3_init_38 rfl (Nat.le_of_ble_eq_true rfl) (Nat.le_of_ble_eq_true rfl) ?_
  refine a_dup (pc' := 42) dX3_init_41 rfl rfl ?_
  refine a_callIN (pc' := 45) (n := 0) (As := []) (c_X0_init l g (([.inr (3, [.ref 1, .ref 7, .ref 13, .null])] : List va_E) ++ d_nr 1 ++ d_nr 7 ++ d_nv 13) (Nat.le_of_ble_eq_true rfl)) (by show (RX3, 28, yX0_init) ∈ a_nest; simp [a_nest]) (by intro w hw; simp only [List.mem_cons, List.not_mem_nil, or_false] at hw; rcases hw with rfl | rfl; exact (a_in1 125 rfl rfl); exact (a_in1 4 rfl rfl)) (a_in1 126 rfl rfl) ⟨by decide, by decide, by decide⟩ rfl rfl ⟨Nat.le_of_ble_eq_true rfl, Nat.le_of_ble_eq_true rfl⟩ ⟨Nat.le_of_ble_eq_true rfl, Nat.le_of_ble_eq_true rfl⟩ (Nat.le_of_ble_eq_true rfl) dX3_init_42 rfl (fun r h' hq => ?_)
  obtain ⟨rfl, rfl⟩ := hq
  refine a_heq (h2 := ([.inr (3, [.ref 1, .ref 7, .ref 13, .null])] : List va_E) ++ d_nr 1 ++ d_nr 7 ++ d_nv 13 ++ d_nt 51) rfl ?_
  refine a_top (v := .ref 51) rfl ?_
  refine pc_X3_29 (pc' := 48) hin (i := 0) rfl (Nat.le_of_ble_eq_true rfl) dX3_init_45 rfl ?_
  refine a_heq (h2 := ([.inr (3, [.ref 1, .ref 7, .ref 13, .ref 51])] : List va_E) ++ d_nr 1 ++ d_nr 7 ++ d_nv 13 ++ d_nt 51) rfl ?_
  refine a_widen (k := 54) (n := 2546) (Nat.le_of_ble_eq_true rfl) (Nat.le_of_ble_eq_true rfl) ?_
  refine a_seq (k := 55) rfl ?_
  exact a_vret hr ⟨rfl, rfl⟩ dX3_init_48
