/-! the law's own methods round those that throw -/
def f_L_begin (F : Nat) (q : d_C) (v : Int64) (a1 : Int32) (a2 : Int32) : Option (Int32 × d_C × Int64) := (f_X3_begin F q a1 a2).bind fun r => Sum.elim (fun k => if k.1 = 0 then some (1, k.2, v) else none) (fun w => some (0, w.2, w.1.toInt64)) r
set_option maxHeartbeats 1000000 in
set_option maxRecDepth 100000 in
theorem c_L_begin (l : Launch) (g : a_G) (F : Nat) (hflags : l.stackTraces = false) {h : List va_E} {q : d_C} {M : d_M} {v : Int64} {a1 : Int32} {a2 : Int32} {out : Int32 × d_C × Int64} (hA : d_all h q M v) (hf : f_L_begin F q v a1 a2 = some out) : a_CW l g yL_begin cL_begin 5 (some .int) [(0, 10, 13, 13)] (a_rx 7 127) [.ref 0, .int a1, .int a2, .ref 61] h none none (fun r h' => r = some (.int out.1) ∧ d_all h' out.2.1 M out.2.2) := by
  unfold f_L_begin at hf
  obtain ⟨r, e1, hf⟩ := Option.bind_eq_some_iff.mp hf
  refine a_enterW ⟨by decide, rfl, Nat.le_of_ble_eq_true rfl⟩ (fun p e s m args below meth c hr htab => ?_)
  refine a_sub (ls' := [(0, .ref 0), (1, .int a1), (2, .int a2), (3, .ref 61)]) [0, 1, 2, 3] rfl ?_
  refine a_aload_n (pc' := 1) 3 dL_begin_0 rfl rfl rfl ?_
  refine a_iconst (pc' := 2) (v := (0 : Int32)) dL_begin_1 rfl (by decide) ?_
  refine a_aload_n (pc' := 3) 0 dL_begin_2 rfl rfl rfl ?_
  refine a_iload_n (pc' := 4) 1 dL_begin_3 rfl rfl rfl ?_
  refine a_iload_n (pc' := 5) 2 dL_begin_4 rfl rfl rfl ?_
  refine a_callX (pc' := 8) (n := 2) (ci := 3) (C := RX3) (T := TX3) (N := 4) (As := [.int a1, .int a2]) (c_X3_begin_X l g F hflags hA.1 e1) (by intro w hw; simp only [List.mem_cons, List.not_mem_nil, or_false] at hw; rcases hw with rfl | rfl | rfl | rfl; exact (a_in3 59 rfl rfl); exact (a_in3 60 rfl rfl); exact (a_in3 61 rfl rfl); exact (a_in1 1 rfl rfl)) (a_in3 62 rfl rfl) ⟨rfl, by decide, by decide, by decide⟩ rfl rfl ⟨Nat.le_of_ble_eq_true rfl, Nat.le_of_ble_eq_true rfl⟩ ⟨Nat.le_of_ble_eq_true rfl, Nat.le_of_ble_eq_true rfl⟩ hA.1.1 (Nat.le_of_ble_eq_true rfl) dL_begin_5 rfl (fun r9 h1 hq => ?_) (fun E h1 hq => ?_)
  · obtain ⟨w, rfl, rfl, hz, hfr⟩ := hq
    simp only [Sum.elim_inr] at hf
    have hA1 := d_all_c hA hz hfr
    refine a_i2l (pc' := 9) dL_begin_8 rfl ?_
    refine b_last (pc' := 10) hA1 dL_begin_9 rfl (fun h2 hA2 => ?_)
    refine a_goto 17 dL_begin_10 (by decide) ?_
    refine a_iconst (pc' := 18) (v := (0 : Int32)) dL_begin_17 rfl (by decide) ?_
    cases hf
    exact a_iret hr ⟨rfl, hA2⟩ dL_begin_18
  · obtain ⟨k, rfl, rfl, hz, hfr⟩ := hq
    simp only [Sum.elim_inl] at hf
    have hA1 := d_all_c hA hz hfr
    by_cases k0 : k.1 = 0
    · rw [if_pos k0] at hf
      have hE : f_xn k.1 = "java/lang/IllegalArgumentException" := by rw [k0]; rfl
      rw [hE]
      refine a_catch (pc' := 15) (k := 4) htab [] ⟨0, 10, 13, 13⟩ [] rfl (fun z hz => nomatch hz) (by decide) (by decide) (a_in3 58 rfl rfl) (by decide) (by decide) dL_begin_13 rfl ?_
      refine a_iconst (pc' := 16) (v := (1 : Int32)) dL_begin_15 rfl (by decide) ?_
      cases hf
      exact a_iret hr ⟨rfl, hA1⟩ dL_begin_16
    · rw [if_neg k0] at hf
      cases hf
def f_L_set (F : Nat) (q : d_C) (v : Int64) (a1 : Int32) (a2 : Int32) : Option (Int32 × d_C × Int64) := (f_X3_set F q a1 a2).bind fun r => Sum.elim (fun k => if k.1 = 2 then some (1, k.2, v) else (if k.1 = 0 then some (2, k.2, v) else none)) (fun w => some (0, w.2, w.1.toInt64)) r
set_option maxHeartbeats 1000000 in
set_option maxRecDepth 100000 in
theorem c_L_set (l : Launch) (g : a_G) (F : Nat) (hflags : l.stackTraces = false) {h : List va_E} {q : d_C} {M : d_M} {v : Int64} {a1 : Int32} {a2 : Int32} {out : Int32 × d_C × Int64} (hA : d_all h q M v) (hf : f_L_set F q v a1 a2 = some out) : a_CW l g yL_set cL_set 5 (some .int) [(0, 10, 13, 18), (0, 10, 17, 13)] (a_rx 7 127) [.ref 0, .int a1, .int a2, .ref 61] h none none (fun r h' => r = some (.int out.1) ∧ d_all h' out.2.1 M out.2.2) := by
  unfold f_L_set at hf
  obtain ⟨r, e1, hf⟩ := Option.bind_eq_some_iff.mp hf
  refine a_enterW ⟨by decide, rfl, Nat.le_of_ble_eq_true rfl⟩ (fun p e s m args below meth c hr htab => ?_)
  refine a_sub (ls' := [(0, .ref 0), (1, .int a1), (2, .int a2), (3, .ref 61)]) [0, 1, 2, 3] rfl ?_
  refine a_aload_n (pc' := 1) 3 dL_set_0 rfl rfl rfl ?_
  refine a_iconst (pc' := 2) (v := (0 : Int32)) dL_set_1 rfl (by decide) ?_
  refine a_aload_n (pc' := 3) 0 dL_set_2 rfl rfl rfl ?_
  refine a_iload_n (pc' := 4) 1 dL_set_3 rfl rfl rfl ?_
  refine a_iload_n (pc' := 5) 2 dL_set_4 rfl rfl rfl ?_
  refine a_callX (pc' := 8) (n := 2) (ci := 3) (C := RX3) (T := TX3) (N := 4) (As := [.int a1, .int a2]) (c_X3_set_X l g F hflags hA.1 e1) (by intro w hw; simp only [List.mem_cons, List.not_mem_nil, or_false] at hw; rcases hw with rfl | rfl | rfl | rfl; exact (a_in3 68 rfl rfl); exact (a_in3 69 rfl rfl); exact (a_in3 70 rfl rfl); exact (a_in1 1 rfl rfl)) (a_in3 71 rfl rfl) ⟨rfl, by decide, by decide, by decide⟩ rfl rfl ⟨Nat.le_of_ble_eq_true rfl, Nat.le_of_ble_eq_true rfl⟩ ⟨Nat.le_of_ble_eq_true rfl, Nat.le_of_ble_eq_true rfl⟩ hA.1.1 (Nat.le_of_ble_eq_true rfl) dL_set_5 rfl (fun r9 h1 hq => ?_) (fun E h1 hq => ?_)
  · obtain ⟨w, rfl, rfl, hz, hfr⟩ := hq
    simp only [Sum.elim_inr] at hf
    have hA1 := d_all_c hA hz hfr
    refine a_i2l (pc' := 9) dL_set_8 rfl ?_
    refine b_last (pc' := 10) hA1 dL_set_9 rfl (fun h2 hA2 => ?_)
    refine a_goto 21 dL_set_10 (by decide) ?_
    refine a_iconst (pc' := 22) (v := (0 : Int32)) dL_set_21 rfl (by decide) ?_
    cases hf
    exact a_iret hr ⟨rfl, hA2⟩ dL_set_22
  · obtain ⟨k, rfl, rfl, hz, hfr⟩ := hq
    simp only [Sum.elim_inl] at hf
    have hA1 := d_all_c hA hz hfr
    by_cases k0 : k.1 = 2
    · rw [if_pos k0] at hf
      have hE : f_xn k.1 = "java/lang/IndexOutOfBoundsException" := by rw [k0]; rfl
      rw [hE]
      refine a_catch (pc' := 15) (k := 4) htab [] ⟨0, 10, 13, 18⟩ [⟨0, 10, 17, 13⟩] rfl (fun z hz => nomatch hz) (by decide) (by decide) (a_in3 67 rfl rfl) (by decide) (by decide) dL_set_13 rfl ?_
      refine a_iconst (pc' := 16) (v := (1 : Int32)) dL_set_15 rfl (by decide) ?_
      cases hf
      exact a_iret hr ⟨rfl, hA1⟩ dL_set_16
    · rw [if_neg k0] at hf
      by_cases k1 : k.1 = 0
      · rw [if_pos k1] at hf
        have hE : f_xn k.1 = "java/lang/IllegalArgumentException" := by rw [k1]; rfl
        rw [hE]
        refine a_catch (pc' := 19) (k := 4) htab [⟨0, 10, 13, 18⟩] ⟨0, 10, 17, 13⟩ [] rfl (fun z hz => by rcases List.mem_singleton.mp hz with rfl; exact ⟨by decide, "java/lang/IndexOutOfBoundsException", (a_in3 67 rfl rfl), by decide, by decide⟩) (by decide) (by decide) (a_in3 58 rfl rfl) (by decide) (by decide) dL_set_17 rfl ?_
        refine a_iconst (pc' := 20) (v := (2 : Int32)) dL_set_19 rfl (by decide) ?_
        cases hf
        exact a_iret hr ⟨rfl, hA1⟩ dL_set_20
      · rw [if_neg k1] at hf
        cases hf
def f_L_buy (F : Nat) (q : d_C) (v : Int64) (a1 : Int32) (a2 : Int32) (a3 : Int32) : Option (Int32 × d_C × Int64) := (f_X3_buy F q a1 a2 a3).bind fun r => Sum.elim (fun k => if k.1 = 0 then some (1, k.2, v) else (if k.1 = 1 then some (2, k.2, v) else none)) (fun w => some (0, w.2, w.1.toInt64)) r
set_option maxHeartbeats 1000000 in
set_option maxRecDepth 100000 in
theorem c_L_buy (l : Launch) (g : a_G) (F : Nat) (hflags : l.stackTraces = false) {h : List va_E} {q : d_C} {M : d_M} {v : Int64} {a1 : Int32} {a2 : Int32} {a3 : Int32} {out : Int32 × d_C × Int64} (hA : d_all h q M v) (hf : f_L_buy F q v a1 a2 a3 = some out) : a_CW l g yL_buy cL_buy 6 (some .int) [(0, 12, 15, 13), (0, 12, 19, 24)] (a_rx 7 128) [.ref 0, .int a1, .int a2, .int a3, .ref 61] h none none (fun r h' => r = some (.int out.1) ∧ d_all h' out.2.1 M out.2.2) := by
  unfold f_L_buy at hf
  obtain ⟨r, e1, hf⟩ := Option.bind_eq_some_iff.mp hf
  refine a_enterW ⟨by decide, rfl, Nat.le_of_ble_eq_true rfl⟩ (fun p e s m args below meth c hr htab => ?_)
  refine a_sub (ls' := [(0, .ref 0), (1, .int a1), (2, .int a2), (3, .int a3), (4, .ref 61)]) [0, 1, 2, 3, 4] rfl ?_
  refine a_aload (pc' := 2) 4 dL_buy_0 rfl rfl ?_
  refine a_iconst (pc' := 3) (v := (0 : Int32)) dL_buy_2 rfl (by decide) ?_
  refine a_aload_n (pc' := 4) 0 dL_buy_3 rfl rfl rfl ?_
  refine a_iload_n (pc' := 5) 1 dL_buy_4 rfl rfl rfl ?_
  refine a_iload_n (pc' := 6) 2 dL_buy_5 rfl rfl rfl ?_
  refine a_iload_n (pc' := 7) 3 dL_buy_6 rfl rfl rfl ?_
  refine a_callX (pc' := 10) (n := 3) (ci := 3) (C := RX3) (T := TX3) (N := 4) (As := [.int a1, .int a2, .int a3]) (c_X3_buy_X l g F hflags hA.1 e1) (by intro w hw; simp only [List.mem_cons, List.not_mem_nil, or_false] at hw; rcases hw with rfl | rfl | rfl | rfl; exact (a_in3 85 rfl rfl); exact (a_in3 86 rfl rfl); exact (a_in3 87 rfl rfl); exact (a_in1 1 rfl rfl)) (a_in3 88 rfl rfl) ⟨rfl, by decide, by decide, by decide⟩ rfl rfl ⟨Nat.le_of_ble_eq_true rfl, Nat.le_of_ble_eq_true rfl⟩ ⟨Nat.le_of_ble_eq_true rfl, Nat.le_of_ble_eq_true rfl⟩ hA.1.1 (Nat.le_of_ble_eq_true rfl) dL_buy_7 rfl (fun r9 h1 hq => ?_) (fun E h1 hq => ?_)
  · obtain ⟨w, rfl, rfl, hz, hfr⟩ := hq
    simp only [Sum.elim_inr] at hf
    have hA1 := d_all_c hA hz hfr
    refine a_i2l (pc' := 11) dL_buy_10 rfl ?_
    refine b_last (pc' := 12) hA1 dL_buy_11 rfl (fun h2 hA2 => ?_)
    refine a_goto 23 dL_buy_12 (by decide) ?_
    refine a_iconst (pc' := 24) (v := (0 : Int32)) dL_buy_23 rfl (by decide) ?_
    cases hf
    exact a_iret hr ⟨rfl, hA2⟩ dL_buy_24
  · obtain ⟨k, rfl, rfl, hz, hfr⟩ := hq
    simp only [Sum.elim_inl] at hf
    have hA1 := d_all_c hA hz hfr
    by_cases k0 : k.1 = 0
    · rw [if_pos k0] at hf
      have hE : f_xn k.1 = "java/lang/IllegalArgumentException" := by rw [k0]; rfl
      rw [hE]
      refine a_catch (pc' := 17) (k := 5) htab [] ⟨0, 12, 15, 13⟩ [⟨0, 12, 19, 24⟩] rfl (fun z hz => nomatch hz) (by decide) (by decide) (a_in3 58 rfl rfl) (by decide) (by decide) dL_buy_15 rfl ?_
      refine a_iconst (pc' := 18) (v := (1 : Int32)) dL_buy_17 rfl (by decide) ?_
      cases hf
      exact a_iret hr ⟨rfl, hA1⟩ dL_buy_18
    · rw [if_neg k0] at hf
      by_cases k1 : k.1 = 1
      · rw [if_pos k1] at hf
        have hE : f_xn k.1 = "java/lang/IllegalStateException" := by rw [k1]; rfl
        rw [hE]
        refine a_catch (pc' := 21) (k := 5) htab [⟨0, 12, 15, 13⟩] ⟨0, 12, 19, 24⟩ [] rfl (fun z hz => by rcases List.mem_singleton.mp hz with rfl; exact ⟨by decide, "java/lang/IllegalArgumentException", (a_in3 58 rfl rfl), by decide, by decide⟩) (by decide) (by decide) (a_in3 84 rfl rfl) (by decide) (by decide) dL_buy_19 rfl ?_
        refine a_iconst (pc' := 22) (v := (2 : Int32)) dL_buy_21 rfl (by decide) ?_
        cases hf
        exact a_iret hr ⟨rfl, hA1⟩ dL_buy_22
      · rw [if_neg k1] at hf
        cases hf
def f_L_recut (F : Nat) (q : d_C) (v : Int64) (a1 : Int32) (a2 : Int32) (a3 : Int32) : Option (Int32 × d_C × Int64) := (f_X3_recut F q a1 a2 a3).bind fun r => Sum.elim (fun k => if k.1 = 0 then some (1, k.2, v) else (if k.1 = 1 then some (2, k.2, v) else none)) (fun w => some (0, w.2, w.1.toInt64)) r
set_option maxHeartbeats 1000000 in
set_option maxRecDepth 100000 in
theorem c_L_recut (l : Launch) (g : a_G) (F : Nat) (hflags : l.stackTraces = false) {h : List va_E} {q : d_C} {M : d_M} {v : Int64} {a1 : Int32} {a2 : Int32} {a3 : Int32} {out : Int32 × d_C × Int64} (hA : d_all h q M v) (hf : f_L_recut F q v a1 a2 a3 = some out) : a_CW l g yL_recut cL_recut 6 (some .int) [(0, 12, 15, 13), (0, 12, 19, 24)] (a_rx 7 127) [.ref 0, .int a1, .int a2, .int a3, .ref 61] h none none (fun r h' => r = some (.int out.1) ∧ d_all h' out.2.1 M out.2.2) := by
  unfold f_L_recut at hf
  obtain ⟨r, e1, hf⟩ := Option.bind_eq_some_iff.mp hf
  refine a_enterW ⟨by decide, rfl, Nat.le_of_ble_eq_true rfl⟩ (fun p e s m args below meth c hr htab => ?_)
  refine a_sub (ls' := [(0, .ref 0), (1, .int a1), (2, .int a2), (3, .int a3), (4, .ref 61)]) [0, 1, 2, 3, 4] rfl ?_
  refine a_aload (pc' := 2) 4 dL_recut_0 rfl rfl ?_
  refine a_iconst (pc' := 3) (v := (0 : Int32)) dL_recut_2 rfl (by decide) ?_
  refine a_aload_n (pc' := 4) 0 dL_recut_3 rfl rfl rfl ?_
  refine a_iload_n (pc' := 5) 1 dL_recut_4 rfl rfl rfl ?_
  refine a_iload_n (pc' := 6) 2 dL_recut_5 rfl rfl rfl ?_
  refine a_iload_n (pc' := 7) 3 dL_recut_6 rfl rfl rfl ?_
  refine a_callX (pc' := 10) (n := 3) (ci := 3) (C := RX3) (T := TX3) (N := 4) (As := [.int a1, .int a2, .int a3]) (c_X3_recut_X l g F hflags hA.1 e1) (by intro w hw; simp only [List.mem_cons, List.not_mem_nil, or_false] at hw; rcases hw with rfl | rfl | rfl | rfl; exact (a_in3 114 rfl rfl); exact (a_in3 115 rfl rfl); exact (a_in3 116 rfl rfl); exact (a_in1 1 rfl rfl)) (a_in3 117 rfl rfl) ⟨rfl, by decide, by decide, by decide⟩ rfl rfl ⟨Nat.le_of_ble_eq_true rfl, Nat.le_of_ble_eq_true rfl⟩ ⟨Nat.le_of_ble_eq_true rfl, Nat.le_of_ble_eq_true rfl⟩ hA.1.1 (Nat.le_of_ble_eq_true rfl) dL_recut_7 rfl (fun r9 h1 hq => ?_) (fun E h1 hq => ?_)
  · obtain ⟨w, rfl, rfl, hz, hfr⟩ := hq
    simp only [Sum.elim_inr] at hf
    have hA1 := d_all_c hA hz hfr
    refine a_i2l (pc' := 11) dL_recut_10 rfl ?_
    refine b_last (pc' := 12) hA1 dL_recut_11 rfl (fun h2 hA2 => ?_)
    refine a_goto 23 dL_recut_12 (by decide) ?_
    refine a_iconst (pc' := 24) (v := (0 : Int32)) dL_recut_23 rfl (by decide) ?_
    cases hf
    exact a_iret hr ⟨rfl, hA2⟩ dL_recut_24
  · obtain ⟨k, rfl, rfl, hz, hfr⟩ := hq
    simp only [Sum.elim_inl] at hf
    have hA1 := d_all_c hA hz hfr
    by_cases k0 : k.1 = 0
    · rw [if_pos k0] at hf
      have hE : f_xn k.1 = "java/lang/IllegalArgumentException" := by rw [k0]; rfl
      rw [hE]
      refine a_catch (pc' := 17) (k := 5) htab [] ⟨0, 12, 15, 13⟩ [⟨0, 12, 19, 24⟩] rfl (fun z hz => nomatch hz) (by decide) (by decide) (a_in3 58 rfl rfl) (by decide) (by decide) dL_recut_15 rfl ?_
      refine a_iconst (pc' := 18) (v := (1 : Int32)) dL_recut_17 rfl (by decide) ?_
      cases hf
      exact a_iret hr ⟨rfl, hA1⟩ dL_recut_18
    · rw [if_neg k0] at hf
      by_cases k1 : k.1 = 1
      · rw [if_pos k1] at hf
        have hE : f_xn k.1 = "java/lang/IllegalStateException" := by rw [k1]; rfl
        rw [hE]
        refine a_catch (pc' := 21) (k := 5) htab [⟨0, 12, 15, 13⟩] ⟨0, 12, 19, 24⟩ [] rfl (fun z hz => by rcases List.mem_singleton.mp hz with rfl; exact ⟨by decide, "java/lang/IllegalArgumentException", (a_in3 58 rfl rfl), by decide, by decide⟩) (by decide) (by decide) (a_in3 84 rfl rfl) (by decide) (by decide) dL_recut_19 rfl ?_
        refine a_iconst (pc' := 22) (v := (2 : Int32)) dL_recut_21 rfl (by decide) ?_
        cases hf
        exact a_iret hr ⟨rfl, hA1⟩ dL_recut_22
      · rw [if_neg k1] at hf
        cases hf
def f_L_clearHeap (F : Nat) (q : d_C) (v : Int64) (a1 : Int32) : Option (Int32 × d_C × Int64) := (f_X3_clearHeap F q a1).bind fun r => Sum.elim (fun k => if k.1 = 0 then some (1, k.2, v) else none) (fun w => some (0, w.2, w.1.toInt64)) r
set_option maxHeartbeats 1000000 in
set_option maxRecDepth 100000 in
theorem c_L_clearHeap (l : Launch) (g : a_G) (F : Nat) (hflags : l.stackTraces = false) {h : List va_E} {q : d_C} {M : d_M} {v : Int64} {a1 : Int32} {out : Int32 × d_C × Int64} (hA : d_all h q M v) (hf : f_L_clearHeap F q v a1 = some out) : a_CW l g yL_clearHeap cL_clearHeap 4 (some .int) [(0, 9, 12, 13)] (a_rx 7 128) [.ref 0, .int a1, .ref 61] h none none (fun r h' => r = some (.int out.1) ∧ d_all h' out.2.1 M out.2.2) := by
  unfold f_L_clearHeap at hf
  obtain ⟨r, e1, hf⟩ := Option.bind_eq_some_iff.mp hf
  refine a_enterW ⟨by decide, rfl, Nat.le_of_ble_eq_true rfl⟩ (fun p e s m args below meth c hr htab => ?_)
  refine a_sub (ls' := [(0, .ref 0), (1, .int a1), (2, .ref 61)]) [0, 1, 2] rfl ?_
  refine a_aload_n (pc' := 1) 2 dL_clearHeap_0 rfl rfl rfl ?_
  refine a_iconst (pc' := 2) (v := (0 : Int32)) dL_clearHeap_1 rfl (by decide) ?_
  refine a_aload_n (pc' := 3) 0 dL_clearHeap_2 rfl rfl rfl ?_
  refine a_iload_n (pc' := 4) 1 dL_clearHeap_3 rfl rfl rfl ?_
  refine a_callX (pc' := 7) (n := 1) (ci := 3) (C := RX3) (T := TX3) (N := 4) (As := [.int a1]) (c_X3_clearHeap_X l g F hflags hA.1 e1) (by intro w hw; simp only [List.mem_cons, List.not_mem_nil, or_false] at hw; rcases hw with rfl | rfl | rfl | rfl; exact (a_in3 123 rfl rfl); exact (a_in3 124 rfl rfl); exact (a_in3 125 rfl rfl); exact (a_in1 1 rfl rfl)) (a_in3 126 rfl rfl) ⟨rfl, by decide, by decide, by decide⟩ rfl rfl ⟨Nat.le_of_ble_eq_true rfl, Nat.le_of_ble_eq_true rfl⟩ ⟨Nat.le_of_ble_eq_true rfl, Nat.le_of_ble_eq_true rfl⟩ hA.1.1 (Nat.le_of_ble_eq_true rfl) dL_clearHeap_4 rfl (fun r9 h1 hq => ?_) (fun E h1 hq => ?_)
  · obtain ⟨w, rfl, rfl, hz, hfr⟩ := hq
    simp only [Sum.elim_inr] at hf
    have hA1 := d_all_c hA hz hfr
    refine a_i2l (pc' := 8) dL_clearHeap_7 rfl ?_
    refine b_last (pc' := 9) hA1 dL_clearHeap_8 rfl (fun h2 hA2 => ?_)
    refine a_goto 15 dL_clearHeap_9 (by decide) ?_
    refine a_iconst (pc' := 16) (v := (0 : Int32)) dL_clearHeap_15 rfl (by decide) ?_
    cases hf
    exact a_iret hr ⟨rfl, hA2⟩ dL_clearHeap_16
  · obtain ⟨k, rfl, rfl, hz, hfr⟩ := hq
    simp only [Sum.elim_inl] at hf
    have hA1 := d_all_c hA hz hfr
    by_cases k0 : k.1 = 0
    · rw [if_pos k0] at hf
      have hE : f_xn k.1 = "java/lang/IllegalArgumentException" := by rw [k0]; rfl
      rw [hE]
      refine a_catch_n (pc' := 13) (k := 3) htab [] ⟨0, 9, 12, 13⟩ [] rfl (fun z hz => nomatch hz) (by decide) (by decide) (a_in3 58 rfl rfl) (by decide) (by decide) rfl dL_clearHeap_12 rfl ?_
      refine a_iconst (pc' := 14) (v := (1 : Int32)) dL_clearHeap_13 rfl (by decide) ?_
      cases hf
      exact a_iret hr ⟨rfl, hA1⟩ dL_clearHeap_14
    · rw [if_neg k0] at hf
      cases hf
def f_L_course (F : Nat) (q : d_C) (v : Int64) (a1 : Int32) : Option (Int32 × d_C × Int64) := (f_X3_course F q a1).bind fun r => Sum.elim (fun k => if k.1 = 0 then some (1, k.2, v) else (if k.1 = 1 then some (2, k.2, v) else none)) (fun w => some (0, w.2, w.1.toInt64)) r
set_option maxHeartbeats 1000000 in
set_option maxRecDepth 100000 in
theorem c_L_course (l : Launch) (g : a_G) (F : Nat) (hflags : l.stackTraces = false) {h : List va_E} {q : d_C} {M : d_M} {v : Int64} {a1 : Int32} {out : Int32 × d_C × Int64} (hA : d_all h q M v) (hf : f_L_course F q v a1 = some out) : a_CW l g yL_course cL_course 4 (some .int) [(0, 9, 12, 13), (0, 9, 15, 24)] (a_rx 7 125) [.ref 0, .int a1, .ref 61] h none none (fun r h' => r = some (.int out.1) ∧ d_all h' out.2.1 M out.2.2) := by
  unfold f_L_course at hf
  obtain ⟨r, e1, hf⟩ := Option.bind_eq_some_iff.mp hf
  refine a_enterW ⟨by decide, rfl, Nat.le_of_ble_eq_true rfl⟩ (fun p e s m args below meth c hr htab => ?_)
  refine a_sub (ls' := [(0, .ref 0), (1, .int a1), (2, .ref 61)]) [0, 1, 2] rfl ?_
  refine a_aload_n (pc' := 1) 2 dL_course_0 rfl rfl rfl ?_
  refine a_iconst (pc' := 2) (v := (0 : Int32)) dL_course_1 rfl (by decide) ?_
  refine a_aload_n (pc' := 3) 0 dL_course_2 rfl rfl rfl ?_
  refine a_iload_n (pc' := 4) 1 dL_course_3 rfl rfl rfl ?_
  refine a_callX (pc' := 7) (n := 1) (ci := 3) (C := RX3) (T := TX3) (N := 4) (As := [.int a1]) (c_X3_course_X l g F hflags hA.1 e1) (by intro w hw; simp only [List.mem_cons, List.not_mem_nil, or_false] at hw; rcases hw with rfl | rfl | rfl | rfl; exact (a_in3 130 rfl rfl); exact (a_in3 131 rfl rfl); exact (a_in3 132 rfl rfl); exact (a_in1 1 rfl rfl)) (a_in3 133 rfl rfl) ⟨rfl, by decide, by decide, by decide⟩ rfl rfl ⟨Nat.le_of_ble_eq_true rfl, Nat.le_of_ble_eq_true rfl⟩ ⟨Nat.le_of_ble_eq_true rfl, Nat.le_of_ble_eq_true rfl⟩ hA.1.1 (Nat.le_of_ble_eq_true rfl) dL_course_4 rfl (fun r9 h1 hq => ?_) (fun E h1 hq => ?_)
  · obtain ⟨w, rfl, rfl, hz, hfr⟩ := hq
    simp only [Sum.elim_inr] at hf
    have hA1 := d_all_c hA hz hfr
    refine a_i2l (pc' := 8) dL_course_7 rfl ?_
    refine b_last (pc' := 9) hA1 dL_course_8 rfl (fun h2 hA2 => ?_)
    refine a_goto 18 dL_course_9 (by decide) ?_
    refine a_iconst (pc' := 19) (v := (0 : Int32)) dL_course_18 rfl (by decide) ?_
    cases hf
    exact a_iret hr ⟨rfl, hA2⟩ dL_course_19
  · obtain ⟨k, rfl, rfl, hz, hfr⟩ := hq
    simp only [Sum.elim_inl] at hf
    have hA1 := d_all_c hA hz hfr
    by_cases k0 : k.1 = 0
    · rw [if_pos k0] at hf
      have hE : f_xn k.1 = "java/lang/IllegalArgumentException" := by rw [k0]; rfl
      rw [hE]
      refine a_catch_n (pc' := 13) (k := 3) htab [] ⟨0, 9, 12, 13⟩ [⟨0, 9, 15, 24⟩] rfl (fun z hz => nomatch hz) (by decide) (by decide) (a_in3 58 rfl rfl) (by decide) (by decide) rfl dL_course_12 rfl ?_
      refine a_iconst (pc' := 14) (v := (1 : Int32)) dL_course_13 rfl (by decide) ?_
      cases hf
      exact a_iret hr ⟨rfl, hA1⟩ dL_course_14
    · rw [if_neg k0] at hf
      by_cases k1 : k.1 = 1
      · rw [if_pos k1] at hf
        have hE : f_xn k.1 = "java/lang/IllegalStateException" := by rw [k1]; rfl
        rw [hE]
        refine a_catch_n (pc' := 16) (k := 3) htab [⟨0, 9, 12, 13⟩] ⟨0, 9, 15, 24⟩ [] rfl (fun z hz => by rcases List.mem_singleton.mp hz with rfl; exact ⟨by decide, "java/lang/IllegalArgumentException", (a_in3 58 rfl rfl), by decide, by decide⟩) (by decide) (by decide) (a_in3 84 rfl rfl) (by decide) (by decide) rfl dL_course_15 rfl ?_
        refine a_iconst (pc' := 17) (v := (2 : Int32)) dL_course_16 rfl (by decide) ?_
        cases hf
        exact a_iret hr ⟨rfl, hA1⟩ dL_course_17
      · rw [if_neg k1] at hf
        cases hf
def f_L_lay (F : Nat) (q : d_C) (v : Int64) (a1 : Int32) : Option (Int32 × d_C × Int64) := (f_X3_lay F q a1).bind fun r => Sum.elim (fun k => if k.1 = 0 then some (1, k.2, v) else (if k.1 = 1 then some (2, k.2, v) else none)) (fun w => some (0, w.2, w.1.toInt64)) r
set_option maxHeartbeats 1000000 in
set_option maxRecDepth 100000 in
theorem c_L_lay (l : Launch) (g : a_G) (F : Nat) (hflags : l.stackTraces = false) {h : List va_E} {q : d_C} {M : d_M} {v : Int64} {a1 : Int32} {out : Int32 × d_C × Int64} (hA : d_all h q M v) (hf : f_L_lay F q v a1 = some out) : a_CW l g yL_lay cL_lay 4 (some .int) [(0, 9, 12, 13), (0, 9, 15, 24)] (a_rx 7 127) [.ref 0, .int a1, .ref 61] h none none (fun r h' => r = some (.int out.1) ∧ d_all h' out.2.1 M out.2.2) := by
  unfold f_L_lay at hf
  obtain ⟨r, e1, hf⟩ := Option.bind_eq_some_iff.mp hf
  refine a_enterW ⟨by decide, rfl, Nat.le_of_ble_eq_true rfl⟩ (fun p e s m args below meth c hr htab => ?_)
  refine a_sub (ls' := [(0, .ref 0), (1, .int a1), (2, .ref 61)]) [0, 1, 2] rfl ?_
  refine a_aload_n (pc' := 1) 2 dL_lay_0 rfl rfl rfl ?_
  refine a_iconst (pc' := 2) (v := (0 : Int32)) dL_lay_1 rfl (by decide) ?_
  refine a_aload_n (pc' := 3) 0 dL_lay_2 rfl rfl rfl ?_
  refine a_iload_n (pc' := 4) 1 dL_lay_3 rfl rfl rfl ?_
  refine a_callX (pc' := 7) (n := 1) (ci := 3) (C := RX3) (T := TX3) (N := 4) (As := [.int a1]) (c_X3_lay_X l g F hflags hA.1 e1) (by intro w hw; simp only [List.mem_cons, List.not_mem_nil, or_false] at hw; rcases hw with rfl | rfl | rfl | rfl; exact (a_in3 140 rfl rfl); exact (a_in3 141 rfl rfl); exact (a_in3 142 rfl rfl); exact (a_in1 1 rfl rfl)) (a_in3 143 rfl rfl) ⟨rfl, by decide, by decide, by decide⟩ rfl rfl ⟨Nat.le_of_ble_eq_true rfl, Nat.le_of_ble_eq_true rfl⟩ ⟨Nat.le_of_ble_eq_true rfl, Nat.le_of_ble_eq_true rfl⟩ hA.1.1 (Nat.le_of_ble_eq_true rfl) dL_lay_4 rfl (fun r9 h1 hq => ?_) (fun E h1 hq => ?_)
  · obtain ⟨w, rfl, rfl, hz, hfr⟩ := hq
    simp only [Sum.elim_inr] at hf
    have hA1 := d_all_c hA hz hfr
    refine a_i2l (pc' := 8) dL_lay_7 rfl ?_
    refine b_last (pc' := 9) hA1 dL_lay_8 rfl (fun h2 hA2 => ?_)
    refine a_goto 18 dL_lay_9 (by decide) ?_
    refine a_iconst (pc' := 19) (v := (0 : Int32)) dL_lay_18 rfl (by decide) ?_
    cases hf
    exact a_iret hr ⟨rfl, hA2⟩ dL_lay_19
  · obtain ⟨k, rfl, rfl, hz, hfr⟩ := hq
    simp only [Sum.elim_inl] at hf
    have hA1 := d_all_c hA hz hfr
    by_cases k0 : k.1 = 0
    · rw [if_pos k0] at hf
      have hE : f_xn k.1 = "java/lang/IllegalArgumentException" := by rw [k0]; rfl
      rw [hE]
      refine a_catch_n (pc' := 13) (k := 3) htab [] ⟨0, 9, 12, 13⟩ [⟨0, 9, 15, 24⟩] rfl (fun z hz => nomatch hz) (by decide) (by decide) (a_in3 58 rfl rfl) (by decide) (by decide) rfl dL_lay_12 rfl ?_
      refine a_iconst (pc' := 14) (v := (1 : Int32)) dL_lay_13 rfl (by decide) ?_
      cases hf
      exact a_iret hr ⟨rfl, hA1⟩ dL_lay_14
    · rw [if_neg k0] at hf
      by_cases k1 : k.1 = 1
      · rw [if_pos k1] at hf
        have hE : f_xn k.1 = "java/lang/IllegalStateException" := by rw [k1]; rfl
        rw [hE]
        refine a_catch_n (pc' := 16) (k := 3) htab [⟨0, 9, 12, 13⟩] ⟨0, 9, 15, 24⟩ [] rfl (fun z hz => by rcases List.mem_singleton.mp hz with rfl; exact ⟨by decide, "java/lang/IllegalArgumentException", (a_in3 58 rfl rfl), by decide, by decide⟩) (by decide) (by decide) (a_in3 84 rfl rfl) (by decide) (by decide) rfl dL_lay_15 rfl ?_
        refine a_iconst (pc' := 17) (v := (2 : Int32)) dL_lay_16 rfl (by decide) ?_
        cases hf
        exact a_iret hr ⟨rfl, hA1⟩ dL_lay_17
      · rw [if_neg k1] at hf
        cases hf
def f_L_mend (F : Nat) (q : d_C) (v : Int64) (a1 : Int32) (a2 : Int32) : Option (Int32 × d_C × Int64) := (f_X3_mend F q a1 a2).bind fun r => Sum.elim (fun k => if k.1 = 2 then some (1, k.2, v) else (if k.1 = 1 then some (2, k.2, v) else none)) (fun w => some (0, w.2, w.1.toInt64)) r
set_option maxHeartbeats 1000000 in
set_option maxRecDepth 100000 in
theorem c_L_mend (l : Launch) (g : a_G) (F : Nat) (hflags : l.stackTraces = false) {h : List va_E} {q : d_C} {M : d_M} {v : Int64} {a1 : Int32} {a2 : Int32} {out : Int32 × d_C × Int64} (hA : d_all h q M v) (hf : f_L_mend F q v a1 a2 = some out) : a_CW l g yL_mend cL_mend 5 (some .int) [(0, 10, 13, 18), (0, 10, 17, 24)] (a_rx 7 126) [.ref 0, .int a1, .int a2, .ref 61] h none none (fun r h' => r = some (.int out.1) ∧ d_all h' out.2.1 M out.2.2) := by
  unfold f_L_mend at hf
  obtain ⟨r, e1, hf⟩ := Option.bind_eq_some_iff.mp hf
  refine a_enterW ⟨by decide, rfl, Nat.le_of_ble_eq_true rfl⟩ (fun p e s m args below meth c hr htab => ?_)
  refine a_sub (ls' := [(0, .ref 0), (1, .int a1), (2, .int a2), (3, .ref 61)]) [0, 1, 2, 3] rfl ?_
  refine a_aload_n (pc' := 1) 3 dL_mend_0 rfl rfl rfl ?_
  refine a_iconst (pc' := 2) (v := (0 : Int32)) dL_mend_1 rfl (by decide) ?_
  refine a_aload_n (pc' := 3) 0 dL_mend_2 rfl rfl rfl ?_
  refine a_iload_n (pc' := 4) 1 dL_mend_3 rfl rfl rfl ?_
  refine a_iload_n (pc' := 5) 2 dL_mend_4 rfl rfl rfl ?_
  refine a_callX (pc' := 8) (n := 2) (ci := 3) (C := RX3) (T := TX3) (N := 4) (As := [.int a1, .int a2]) (c_X3_mend_X l g F hflags hA.1 e1) (by intro w hw; simp only [List.mem_cons, List.not_mem_nil, or_false] at hw; rcases hw with rfl | rfl | rfl | rfl; exact (a_in3 151 rfl rfl); exact (a_in3 152 rfl rfl); exact (a_in3 153 rfl rfl); exact (a_in1 1 rfl rfl)) (a_in3 154 rfl rfl) ⟨rfl, by decide, by decide, by decide⟩ rfl rfl ⟨Nat.le_of_ble_eq_true rfl, Nat.le_of_ble_eq_true rfl⟩ ⟨Nat.le_of_ble_eq_true rfl, Nat.le_of_ble_eq_true rfl⟩ hA.1.1 (Nat.le_of_ble_eq_true rfl) dL_mend_5 rfl (fun r9 h1 hq => ?_) (fun E h1 hq => ?_)
  · obtain ⟨w, rfl, rfl, hz, hfr⟩ := hq
    simp only [Sum.elim_inr] at hf
    have hA1 := d_all_c hA hz hfr
    refine a_i2l (pc' := 9) dL_mend_8 rfl ?_
    refine b_last (pc' := 10) hA1 dL_mend_9 rfl (fun h2 hA2 => ?_)
    refine a_goto 21 dL_mend_10 (by decide) ?_
    refine a_iconst (pc' := 22) (v := (0 : Int32)) dL_mend_21 rfl (by decide) ?_
    cases hf
    exact a_iret hr ⟨rfl, hA2⟩ dL_mend_22
  · obtain ⟨k, rfl, rfl, hz, hfr⟩ := hq
    simp only [Sum.elim_inl] at hf
    have hA1 := d_all_c hA hz hfr
    by_cases k0 : k.1 = 2
    · rw [if_pos k0] at hf
      have hE : f_xn k.1 = "java/lang/IndexOutOfBoundsException" := by rw [k0]; rfl
      rw [hE]
      refine a_catch (pc' := 15) (k := 4) htab [] ⟨0, 10, 13, 18⟩ [⟨0, 10, 17, 24⟩] rfl (fun z hz => nomatch hz) (by decide) (by decide) (a_in3 67 rfl rfl) (by decide) (by decide) dL_mend_13 rfl ?_
      refine a_iconst (pc' := 16) (v := (1 : Int32)) dL_mend_15 rfl (by decide) ?_
      cases hf
      exact a_iret hr ⟨rfl, hA1⟩ dL_mend_16
    · rw [if_neg k0] at hf
      by_cases k1 : k.1 = 1
      · rw [if_pos k1] at hf
        have hE : f_xn k.1 = "java/lang/IllegalStateException" := by rw [k1]; rfl
        rw [hE]
        refine a_catch (pc' := 19) (k := 4) htab [⟨0, 10, 13, 18⟩] ⟨0, 10, 17, 24⟩ [] rfl (fun z hz => by rcases List.mem_singleton.mp hz with rfl; exact ⟨by decide, "java/lang/IndexOutOfBoundsException", (a_in3 67 rfl rfl), by decide, by decide⟩) (by decide) (by decide) (a_in3 84 rfl rfl) (by decide) (by decide) dL_mend_17 rfl ?_
        refine a_iconst (pc' := 20) (v := (2 : Int32)) dL_mend_19 rfl (by decide) ?_
        cases hf
        exact a_iret hr ⟨rfl, hA1⟩ dL_mend_20
      · rw [if_neg k1] at hf
        cases hf
def f_L_pass (F : Nat) (q : d_C) (v : Int64) (a1 : Int32) : Option (Int32 × d_C × Int64) := (f_X3_pass F q a1).bind fun r => Sum.elim (fun k => if k.1 = 0 then some (1, k.2, v) else (if k.1 = 1 then some (2, k.2, v) else none)) (fun w => some (0, w.2, w.1.toInt64)) r
set_option maxHeartbeats 1000000 in
set_option maxRecDepth 100000 in
theorem c_L_pass (l : Launch) (g : a_G) (F : Nat) (hflags : l.stackTraces = false) {h : List va_E} {q : d_C} {M : d_M} {v : Int64} {a1 : Int32} {out : Int32 × d_C × Int64} (hA : d_all h q M v) (hf : f_L_pass F q v a1 = some out) : a_CW l g yL_pass cL_pass 4 (some .int) [(0, 9, 12, 13), (0, 9, 15, 24)] (a_rx 7 127) [.ref 0, .int a1, .ref 61] h none none (fun r h' => r = some (.int out.1) ∧ d_all h' out.2.1 M out.2.2) := by
  unfold f_L_pass at hf
  obtain ⟨r, e1, hf⟩ := Option.bind_eq_some_iff.mp hf
  refine a_enterW ⟨by decide, rfl, Nat.le_of_ble_eq_true rfl⟩ (fun p e s m args below meth c hr htab => ?_)
  refine a_sub (ls' := [(0, .ref 0), (1, .int a1), (2, .ref 61)]) [0, 1, 2] rfl ?_
  refine a_aload_n (pc' := 1) 2 dL_pass_0 rfl rfl rfl ?_
  refine a_iconst (pc' := 2) (v := (0 : Int32)) dL_pass_1 rfl (by decide) ?_
  refine a_aload_n (pc' := 3) 0 dL_pass_2 rfl rfl rfl ?_
  refine a_iload_n (pc' := 4) 1 dL_pass_3 rfl rfl rfl ?_
  refine a_callX (pc' := 7) (n := 1) (ci := 3) (C := RX3) (T := TX3) (N := 4) (As := [.int a1]) (c_X3_pass_X l g F hflags hA.1 e1) (by intro w hw; simp only [List.mem_cons, List.not_mem_nil, or_false] at hw; rcases hw with rfl | rfl | rfl | rfl; exact (a_in3 162 rfl rfl); exact (a_in3 163 rfl rfl); exact (a_in3 164 rfl rfl); exact (a_in1 1 rfl rfl)) (a_in3 165 rfl rfl) ⟨rfl, by decide, by decide, by decide⟩ rfl rfl ⟨Nat.le_of_ble_eq_true rfl, Nat.le_of_ble_eq_true rfl⟩ ⟨Nat.le_of_ble_eq_true rfl, Nat.le_of_ble_eq_true rfl⟩ hA.1.1 (Nat.le_of_ble_eq_true rfl) dL_pass_4 rfl (fun r9 h1 hq => ?_) (fun E h1 hq => ?_)
  · obtain ⟨w, rfl, rfl, hz, hfr⟩ := hq
    simp only [Sum.elim_inr] at hf
    have hA1 := d_all_c hA hz hfr
    refine a_i2l (pc' := 8) dL_pass_7 rfl ?_
    refine b_last (pc' := 9) hA1 dL_pass_8 rfl (fun h2 hA2 => ?_)
    refine a_goto 18 dL_pass_9 (by decide) ?_
    refine a_iconst (pc' := 19) (v := (0 : Int32)) dL_pass_18 rfl (by decide) ?_
    cases hf
    exact a_iret hr ⟨rfl, hA2⟩ dL_pass_19
  · obtain ⟨k, rfl, rfl, hz, hfr⟩ := hq
    simp only [Sum.elim_inl] at hf
    have hA1 := d_all_c hA hz hfr
    by_cases k0 : k.1 = 0
    · rw [if_pos k0] at hf
      have hE : f_xn k.1 = "java/lang/IllegalArgumentException" := by rw [k0]; rfl
      rw [hE]
      refine a_catch_n (pc' := 13) (k := 3) htab [] ⟨0, 9, 12, 13⟩ [⟨0, 9, 15, 24⟩] rfl (fun z hz => nomatch hz) (by decide) (by decide) (a_in3 58 rfl rfl) (by decide) (by decide) rfl dL_pass_12 rfl ?_
      refine a_iconst (pc' := 14) (v := (1 : Int32)) dL_pass_13 rfl (by decide) ?_
      cases hf
      exact a_iret hr ⟨rfl, hA1⟩ dL_pass_14
    · rw [if_neg k0] at hf
      by_cases k1 : k.1 = 1
      · rw [if_pos k1] at hf
        have hE : f_xn k.1 = "java/lang/IllegalStateException" := by rw [k1]; rfl
        rw [hE]
        refine a_catch_n (pc' := 16) (k := 3) htab [⟨0, 9, 12, 13⟩] ⟨0, 9, 15, 24⟩ [] rfl (fun z hz => by rcases List.mem_singleton.mp hz with rfl; exact ⟨by decide, "java/lang/IllegalArgumentException", (a_in3 58 rfl rfl), by decide, by decide⟩) (by decide) (by decide) (a_in3 84 rfl rfl) (by decide) (by decide) rfl dL_pass_15 rfl ?_
        refine a_iconst (pc' := 17) (v := (2 : Int32)) dL_pass_16 rfl (by decide) ?_
        cases hf
        exact a_iret hr ⟨rfl, hA1⟩ dL_pass_17
      · rw [if_neg k1] at hf
        cases hf
def f_L_append (F : Nat) (q : d_C) (v : Int64) (a1 : Int32) : Option (Int32 × d_C × Int64) := (f_X3_append F q a1).bind fun r => Sum.elim (fun k => if k.1 = 0 then some (1, k.2, v) else (if k.1 = 1 then some (2, k.2, v) else none)) (fun w => some (0, w.2, w.1.toInt64)) r
set_option maxHeartbeats 1000000 in
set_option maxRecDepth 100000 in
theorem c_L_append (l : Launch) (g : a_G) (F : Nat) (hflags : l.stackTraces = false) {h : List va_E} {q : d_C} {M : d_M} {v : Int64} {a1 : Int32} {out : Int32 × d_C × Int64} (hA : d_all h q M v) (hf : f_L_append F q v a1 = some out) : a_CW l g yL_append cL_append 4 (some .int) [(0, 9, 12, 13), (0, 9, 15, 24)] (a_rx 7 103) [.ref 0, .int a1, .ref 61] h none none (fun r h' => r = some (.int out.1) ∧ d_all h' out.2.1 M out.2.2) := by
  unfold f_L_append at hf
  obtain ⟨r, e1, hf⟩ := Option.bind_eq_some_iff.mp hf
  refine a_enterW ⟨by decide, rfl, Nat.le_of_ble_eq_true rfl⟩ (fun p e s m args below meth c hr htab => ?_)
  refine a_sub (ls' := [(0, .ref 0), (1, .int a1), (2, .ref 61)]) [0, 1, 2] rfl ?_
  refine a_aload_n (pc' := 1) 2 dL_append_0 rfl rfl rfl ?_
  refine a_iconst (pc' := 2) (v := (0 : Int32)) dL_append_1 rfl (by decide) ?_
  refine a_aload_n (pc' := 3) 0 dL_append_2 rfl rfl rfl ?_
  refine a_iload_n (pc' := 4) 1 dL_append_3 rfl rfl rfl ?_
  refine a_callX (pc' := 7) (n := 1) (ci := 3) (C := RX3) (T := TX3) (N := 4) (As := [.int a1]) (c_X3_append_X l g F hflags hA.1 e1) (by intro w hw; simp only [List.mem_cons, List.not_mem_nil, or_false] at hw; rcases hw with rfl | rfl | rfl | rfl; exact (a_in3 171 rfl rfl); exact (a_in3 172 rfl rfl); exact (a_in3 173 rfl rfl); exact (a_in1 1 rfl rfl)) (a_in3 174 rfl rfl) ⟨rfl, by decide, by decide, by decide⟩ rfl rfl ⟨Nat.le_of_ble_eq_true rfl, Nat.le_of_ble_eq_true rfl⟩ ⟨Nat.le_of_ble_eq_true rfl, Nat.le_of_ble_eq_true rfl⟩ hA.1.1 (Nat.le_of_ble_eq_true rfl) dL_append_4 rfl (fun r9 h1 hq => ?_) (fun E h1 hq => ?_)
  · obtain ⟨w, rfl, rfl, hz, hfr⟩ := hq
    simp only [Sum.elim_inr] at hf
    have hA1 := d_all_c hA hz hfr
    refine a_i2l (pc' := 8) dL_append_7 rfl ?_
    refine b_last (pc' := 9) hA1 dL_append_8 rfl (fun h2 hA2 => ?_)
    refine a_goto 18 dL_append_9 (by decide) ?_
    refine a_iconst (pc' := 19) (v := (0 : Int32)) dL_append_18 rfl (by decide) ?_
    cases hf
    exact a_iret hr ⟨rfl, hA2⟩ dL_append_19
  · obtain ⟨k, rfl, rfl, hz, hfr⟩ := hq
    simp only [Sum.elim_inl] at hf
    have hA1 := d_all_c hA hz hfr
    by_cases k0 : k.1 = 0
    · rw [if_pos k0] at hf
      have hE : f_xn k.1 = "java/lang/IllegalArgumentException" := by rw [k0]; rfl
      rw [hE]
      refine a_catch_n (pc' := 13) (k := 3) htab [] ⟨0, 9, 12, 13⟩ [⟨0, 9, 15, 24⟩] rfl (fun z hz => nomatch hz) (by decide) (by decide) (a_in3 58 rfl rfl) (by decide) (by decide) rfl dL_append_12 rfl ?_
      refine a_iconst (pc' := 14) (v := (1 : Int32)) dL_append_13 rfl (by decide) ?_
      cases hf
      exact a_iret hr ⟨rfl, hA1⟩ dL_append_14
    · rw [if_neg k0] at hf
      by_cases k1 : k.1 = 1
      · rw [if_pos k1] at hf
        have hE : f_xn k.1 = "java/lang/IllegalStateException" := by rw [k1]; rfl
        rw [hE]
        refine a_catch_n (pc' := 16) (k := 3) htab [⟨0, 9, 12, 13⟩] ⟨0, 9, 15, 24⟩ [] rfl (fun z hz => by rcases List.mem_singleton.mp hz with rfl; exact ⟨by decide, "java/lang/IllegalArgumentException", (a_in3 58 rfl rfl), by decide, by decide⟩) (by decide) (by decide) (a_in3 84 rfl rfl) (by decide) (by decide) rfl dL_append_15 rfl ?_
        refine a_iconst (pc' := 17) (v := (2 : Int32)) dL_append_16 rfl (by decide) ?_
        cases hf
        exact a_iret hr ⟨rfl, hA1⟩ dL_append_17
      · rw [if_neg k1] at hf
        cases hf
def f_L_work (F : Nat) (q : d_C) (v : Int64)  : Option (Int32 × d_C × Int64) := (f_X3_work F q ).bind fun r => Sum.elim (fun k => if k.1 = 0 then some (1, k.2, v) else (if k.1 = 1 then some (2, k.2, v) else none)) (fun w => some (0, w.2, w.1.toInt64)) r
set_option maxHeartbeats 1000000 in
set_option maxRecDepth 100000 in
theorem c_L_work (l : Launch) (g : a_G) (F : Nat) (hflags : l.stackTraces = false) {h : List va_E} {q : d_C} {M : d_M} {v : Int64} {out : Int32 × d_C × Int64} (hA : d_all h q M v) (hf : f_L_work F q v  = some out) : a_CW l g yL_work cL_work 3 (some .int) [(0, 8, 11, 13), (0, 8, 14, 24)] (a_rx 7 137) [.ref 0, .ref 61] h none none (fun r h' => r = some (.int out.1) ∧ d_all h' out.2.1 M out.2.2) := by
  unfold f_L_work at hf
  obtain ⟨r, e1, hf⟩ := Option.bind_eq_some_iff.mp hf
  refine a_enterW ⟨by decide, rfl, Nat.le_of_ble_eq_true rfl⟩ (fun p e s m args below meth c hr htab => ?_)
  refine a_sub (ls' := [(0, .ref 0), (1, .ref 61)]) [0, 1] rfl ?_
  refine a_aload_n (pc' := 1) 1 dL_work_0 rfl rfl rfl ?_
  refine a_iconst (pc' := 2) (v := (0 : Int32)) dL_work_1 rfl (by decide) ?_
  refine a_aload_n (pc' := 3) 0 dL_work_2 rfl rfl rfl ?_
  refine a_callX (pc' := 6) (n := 0) (ci := 3) (C := RX3) (T := TX3) (N := 4) (As := []) (c_X3_work_X l g F hflags hA.1 e1) (by intro w hw; simp only [List.mem_cons, List.not_mem_nil, or_false] at hw; rcases hw with rfl | rfl | rfl | rfl; exact (a_in3 184 rfl rfl); exact (a_in3 185 rfl rfl); exact (a_in3 186 rfl rfl); exact (a_in1 1 rfl rfl)) (a_in3 187 rfl rfl) ⟨rfl, by decide, by decide, by decide⟩ rfl rfl ⟨Nat.le_of_ble_eq_true rfl, Nat.le_of_ble_eq_true rfl⟩ ⟨Nat.le_of_ble_eq_true rfl, Nat.le_of_ble_eq_true rfl⟩ hA.1.1 (Nat.le_of_ble_eq_true rfl) dL_work_3 rfl (fun r9 h1 hq => ?_) (fun E h1 hq => ?_)
  · obtain ⟨w, rfl, rfl, hz, hfr⟩ := hq
    simp only [Sum.elim_inr] at hf
    have hA1 := d_all_c hA hz hfr
    refine a_i2l (pc' := 7) dL_work_6 rfl ?_
    refine b_last (pc' := 8) hA1 dL_work_7 rfl (fun h2 hA2 => ?_)
    refine a_goto 17 dL_work_8 (by decide) ?_
    refine a_iconst (pc' := 18) (v := (0 : Int32)) dL_work_17 rfl (by decide) ?_
    cases hf
    exact a_iret hr ⟨rfl, hA2⟩ dL_work_18
  · obtain ⟨k, rfl, rfl, hz, hfr⟩ := hq
    simp only [Sum.elim_inl] at hf
    have hA1 := d_all_c hA hz hfr
    by_cases k0 : k.1 = 0
    · rw [if_pos k0] at hf
      have hE : f_xn k.1 = "java/lang/IllegalArgumentException" := by rw [k0]; rfl
      rw [hE]
      refine a_catch_n (pc' := 12) (k := 2) htab [] ⟨0, 8, 11, 13⟩ [⟨0, 8, 14, 24⟩] rfl (fun z hz => nomatch hz) (by decide) (by decide) (a_in3 58 rfl rfl) (by decide) (by decide) rfl dL_work_11 rfl ?_
      refine a_iconst (pc' := 13) (v := (1 : Int32)) dL_work_12 rfl (by decide) ?_
      cases hf
      exact a_iret hr ⟨rfl, hA1⟩ dL_work_13
    · rw [if_neg k0] at hf
      by_cases k1 : k.1 = 1
      · rw [if_pos k1] at hf
        have hE : f_xn k.1 = "java/lang/IllegalStateException" := by rw [k1]; rfl
        rw [hE]
        refine a_catch_n (pc' := 15) (k := 2) htab [⟨0, 8, 11, 13⟩] ⟨0, 8, 14, 24⟩ [] rfl (fun z hz => by rcases List.mem_singleton.mp hz with rfl; exact ⟨by decide, "java/lang/IllegalArgumentException", (a_in3 58 rfl rfl), by decide, by decide⟩) (by decide) (by decide) (a_in3 84 rfl rfl) (by decide) (by decide) rfl dL_work_14 rfl ?_
        refine a_iconst (pc' := 16) (v := (2 : Int32)) dL_work_15 rfl (by decide) ?_
        cases hf
        exact a_iret hr ⟨rfl, hA1⟩ dL_work_16
      · rw [if_neg k1] at hf
        cases hf
def f_L_undo (F : Nat) (q : d_C) (v : Int64)  : Option (Int32 × d_C × Int64) := (f_X3_undo F q ).bind fun r => Sum.elim (fun k => if k.1 = 1 then some (1, k.2, v) else none) (fun w => some (0, w.2, w.1.toInt64)) r
set_option maxHeartbeats 1000000 in
set_option maxRecDepth 100000 in
theorem c_L_undo (l : Launch) (g : a_G) (F : Nat) (hflags : l.stackTraces = false) {h : List va_E} {q : d_C} {M : d_M} {v : Int64} {out : Int32 × d_C × Int64} (hA : d_all h q M v) (hf : f_L_undo F q v  = some out) : a_CW l g yL_undo cL_undo 3 (some .int) [(0, 8, 11, 24)] (a_rx 7 124) [.ref 0, .ref 61] h none none (fun r h' => r = some (.int out.1) ∧ d_all h' out.2.1 M out.2.2) := by
  unfold f_L_undo at hf
  obtain ⟨r, e1, hf⟩ := Option.bind_eq_some_iff.mp hf
  refine a_enterW ⟨by decide, rfl, Nat.le_of_ble_eq_true rfl⟩ (fun p e s m args below meth c hr htab => ?_)
  refine a_sub (ls' := [(0, .ref 0), (1, .ref 61)]) [0, 1] rfl ?_
  refine a_aload_n (pc' := 1) 1 dL_undo_0 rfl rfl rfl ?_
  refine a_iconst (pc' := 2) (v := (0 : Int32)) dL_undo_1 rfl (by decide) ?_
  refine a_aload_n (pc' := 3) 0 dL_undo_2 rfl rfl rfl ?_
  refine a_callX (pc' := 6) (n := 0) (ci := 3) (C := RX3) (T := TX3) (N := 4) (As := []) (c_X3_undo_X l g F hflags hA.1 e1) (by intro w hw; simp only [List.mem_cons, List.not_mem_nil, or_false] at hw; rcases hw with rfl | rfl | rfl | rfl; exact (a_in3 202 rfl rfl); exact (a_in3 203 rfl rfl); exact (a_in3 204 rfl rfl); exact (a_in1 1 rfl rfl)) (a_in3 205 rfl rfl) ⟨rfl, by decide, by decide, by decide⟩ rfl rfl ⟨Nat.le_of_ble_eq_true rfl, Nat.le_of_ble_eq_true rfl⟩ ⟨Nat.le_of_ble_eq_true rfl, Nat.le_of_ble_eq_true rfl⟩ hA.1.1 (Nat.le_of_ble_eq_true rfl) dL_undo_3 rfl (fun r9 h1 hq => ?_) (fun E h1 hq => ?_)
  · obtain ⟨w, rfl, rfl, hz, hfr⟩ := hq
    simp only [Sum.elim_inr] at hf
    have hA1 := d_all_c hA hz hfr
    refine a_i2l (pc' := 7) dL_undo_6 rfl ?_
    refine b_last (pc' := 8) hA1 dL_undo_7 rfl (fun h2 hA2 => ?_)
    refine a_goto 14 dL_undo_8 (by decide) ?_
    refine a_iconst (pc' := 15) (v := (0 : Int32)) dL_undo_14 rfl (by decide) ?_
    cases hf
    exact a_iret hr ⟨rfl, hA2⟩ dL_undo_15
  · obtain ⟨k, rfl, rfl, hz, hfr⟩ := hq
    simp only [Sum.elim_inl] at hf
    have hA1 := d_all_c hA hz hfr
    by_cases k0 : k.1 = 1
    · rw [if_pos k0] at hf
      have hE : f_xn k.1 = "java/lang/IllegalStateException" := by rw [k0]; rfl
      rw [hE]
      refine a_catch_n (pc' := 12) (k := 2) htab [] ⟨0, 8, 11, 24⟩ [] rfl (fun z hz => nomatch hz) (by decide) (by decide) (a_in3 84 rfl rfl) (by decide) (by decide) rfl dL_undo_11 rfl ?_
      refine a_iconst (pc' := 13) (v := (1 : Int32)) dL_undo_12 rfl (by decide) ?_
      cases hf
      exact a_iret hr ⟨rfl, hA1⟩ dL_undo_13
    · rw [if_neg k0] at hf
      cases hf
def f_L_courseOf (F : Nat) (q : d_C) (v : Int64) (a1 : Int32) (a2 : Int32) : Option (Int32 × d_C × Int64) := (f_X3_courseOf F q a1 a2).bind fun r => Sum.elim (fun k => if k = 2 then some (1, q, v) else (if k = 0 then some (2, q, v) else none)) (fun w => some (0, q, w.toInt64)) r
set_option maxHeartbeats 1000000 in
set_option maxRecDepth 100000 in
theorem c_L_courseOf (l : Launch) (g : a_G) (F : Nat) (hflags : l.stackTraces = false) {h : List va_E} {q : d_C} {M : d_M} {v : Int64} {a1 : Int32} {a2 : Int32} {out : Int32 × d_C × Int64} (hA : d_all h q M v) (hf : f_L_courseOf F q v a1 a2 = some out) : a_CW l g yL_courseOf cL_courseOf 5 (some .int) [(0, 10, 13, 18), (0, 10, 17, 13)] (a_rx 7 104) [.ref 0, .int a1, .int a2, .ref 61] h none none (fun r h' => r = some (.int out.1) ∧ d_all h' out.2.1 M out.2.2) := by
  unfold f_L_courseOf at hf
  obtain ⟨r, e1, hf⟩ := Option.bind_eq_some_iff.mp hf
  refine a_enterW ⟨by decide, rfl, Nat.le_of_ble_eq_true rfl⟩ (fun p e s m args below meth c hr htab => ?_)
  refine a_sub (ls' := [(0, .ref 0), (1, .int a1), (2, .int a2), (3, .ref 61)]) [0, 1, 2, 3] rfl ?_
  refine a_aload_n (pc' := 1) 3 dL_courseOf_0 rfl rfl rfl ?_
  refine a_iconst (pc' := 2) (v := (0 : Int32)) dL_courseOf_1 rfl (by decide) ?_
  refine a_aload_n (pc' := 3) 0 dL_courseOf_2 rfl rfl rfl ?_
  refine a_iload_n (pc' := 4) 1 dL_courseOf_3 rfl rfl rfl ?_
  refine a_iload_n (pc' := 5) 2 dL_courseOf_4 rfl rfl rfl ?_
  refine a_callX (pc' := 8) (n := 2) (ci := 3) (C := RX3) (T := TX3) (N := 4) (As := [.int a1, .int a2]) (c_X3_courseOf_X l g F hflags hA.1 e1) (by intro w hw; simp only [List.mem_cons, List.not_mem_nil, or_false] at hw; rcases hw with rfl | rfl | rfl | rfl; exact (a_in3 214 rfl rfl); exact (a_in3 22 rfl rfl); exact (a_in3 23 rfl rfl); exact (a_in1 1 rfl rfl)) (a_in3 24 rfl rfl) ⟨rfl, by decide, by decide, by decide⟩ rfl rfl ⟨Nat.le_of_ble_eq_true rfl, Nat.le_of_ble_eq_true rfl⟩ ⟨Nat.le_of_ble_eq_true rfl, Nat.le_of_ble_eq_true rfl⟩ hA.1.1 (Nat.le_of_ble_eq_true rfl) dL_courseOf_5 rfl (fun r9 h1 hq => ?_) (fun E h1 hq => ?_)
  · obtain ⟨w, rfl, rfl, hz⟩ := hq
    simp only [Sum.elim_inr] at hf
    subst hz
    have hA1 := hA
    refine a_i2l (pc' := 9) dL_courseOf_8 rfl ?_
    refine b_last (pc' := 10) hA1 dL_courseOf_9 rfl (fun h2 hA2 => ?_)
    refine a_goto 21 dL_courseOf_10 (by decide) ?_
    refine a_iconst (pc' := 22) (v := (0 : Int32)) dL_courseOf_21 rfl (by decide) ?_
    cases hf
    exact a_iret hr ⟨rfl, hA2⟩ dL_courseOf_22
  · obtain ⟨k, rfl, rfl, hz⟩ := hq
    simp only [Sum.elim_inl] at hf
    subst hz
    have hA1 := hA
    by_cases k0 : k = 2
    · rw [if_pos k0] at hf
      have hE : f_xn k = "java/lang/IndexOutOfBoundsException" := by rw [k0]; rfl
      rw [hE]
      refine a_catch (pc' := 15) (k := 4) htab [] ⟨0, 10, 13, 18⟩ [⟨0, 10, 17, 13⟩] rfl (fun z hz => nomatch hz) (by decide) (by decide) (a_in3 67 rfl rfl) (by decide) (by decide) dL_courseOf_13 rfl ?_
      refine a_iconst (pc' := 16) (v := (1 : Int32)) dL_courseOf_15 rfl (by decide) ?_
      cases hf
      exact a_iret hr ⟨rfl, hA1⟩ dL_courseOf_16
    · rw [if_neg k0] at hf
      by_cases k1 : k = 0
      · rw [if_pos k1] at hf
        have hE : f_xn k = "java/lang/IllegalArgumentException" := by rw [k1]; rfl
        rw [hE]
        refine a_catch (pc' := 19) (k := 4) htab [⟨0, 10, 13, 18⟩] ⟨0, 10, 17, 13⟩ [] rfl (fun z hz => by rcases List.mem_singleton.mp hz with rfl; exact ⟨by decide, "java/lang/IndexOutOfBoundsException", (a_in3 67 rfl rfl), by decide, by decide⟩) (by decide) (by decide) (a_in3 58 rfl rfl) (by decide) (by decide) dL_courseOf_17 rfl ?_
        refine a_iconst (pc' := 20) (v := (2 : Int32)) dL_courseOf_19 rfl (by decide) ?_
        cases hf
        exact a_iret hr ⟨rfl, hA1⟩ dL_courseOf_20
      · rw [if_neg k1] at hf
        cases hf
def f_L_lies (F : Nat) (q : d_C) (v : Int64) (a1 : Int32) (a2 : Int32) : Option (Int32 × d_C × Int64) := (f_X3_lies F q a1 a2).bind fun r => Sum.elim (fun k => if k = 2 then some (1, q, v) else none) (fun w => some (0, q, (if w = 0 then 0 else 1))) r
set_option maxHeartbeats 1000000 in
set_option maxRecDepth 100000 in
theorem c_L_lies (l : Launch) (g : a_G) (F : Nat) (hflags : l.stackTraces = false) {h : List va_E} {q : d_C} {M : d_M} {v : Int64} {a1 : Int32} {a2 : Int32} {out : Int32 × d_C × Int64} (hA : d_all h q M v) (hf : f_L_lies F q v a1 a2 = some out) : a_CW l g yL_lies cL_lies 5 (some .int) [(0, 17, 20, 18)] (a_rx 7 104) [.ref 0, .int a1, .int a2, .ref 61] h none none (fun r h' => r = some (.int out.1) ∧ d_all h' out.2.1 M out.2.2) := by
  unfold f_L_lies at hf
  obtain ⟨r, e1, hf⟩ := Option.bind_eq_some_iff.mp hf
  refine a_enterW ⟨by decide, rfl, Nat.le_of_ble_eq_true rfl⟩ (fun p e s m args below meth c hr htab => ?_)
  refine a_sub (ls' := [(0, .ref 0), (1, .int a1), (2, .int a2), (3, .ref 61)]) [0, 1, 2, 3] rfl ?_
  refine a_aload_n (pc' := 1) 3 dL_lies_0 rfl rfl rfl ?_
  refine a_iconst (pc' := 2) (v := (0 : Int32)) dL_lies_1 rfl (by decide) ?_
  refine a_aload_n (pc' := 3) 0 dL_lies_2 rfl rfl rfl ?_
  refine a_iload_n (pc' := 4) 1 dL_lies_3 rfl rfl rfl ?_
  refine a_iload_n (pc' := 5) 2 dL_lies_4 rfl rfl rfl ?_
  refine a_callX (pc' := 8) (n := 2) (ci := 3) (C := RX3) (T := TX3) (N := 4) (As := [.int a1, .int a2]) (c_X3_lies_X l g F hflags hA.1 e1) (by intro w hw; simp only [List.mem_cons, List.not_mem_nil, or_false] at hw; rcases hw with rfl | rfl | rfl | rfl; exact (a_in3 218 rfl rfl); exact (a_in3 219 rfl rfl); exact (a_in3 220 rfl rfl); exact (a_in1 1 rfl rfl)) (a_in3 221 rfl rfl) ⟨rfl, by decide, by decide, by decide⟩ rfl rfl ⟨Nat.le_of_ble_eq_true rfl, Nat.le_of_ble_eq_true rfl⟩ ⟨Nat.le_of_ble_eq_true rfl, Nat.le_of_ble_eq_true rfl⟩ hA.1.1 (Nat.le_of_ble_eq_true rfl) dL_lies_5 rfl (fun r9 h1 hq => ?_) (fun E h1 hq => ?_)
  · obtain ⟨w, rfl, rfl, hz⟩ := hq
    simp only [Sum.elim_inr] at hf
    subst hz
    have hA1 := hA
    refine a_if_eq (pc' := 11) 15 dL_lies_8 (by decide) rfl (fun k1 => ?_) (fun k1 => ?_)
    · rw [if_pos k1] at hf
      refine a_lconst (pc' := 16) (v := (0 : Int64)) dL_lies_15 rfl (by decide) ?_
      refine b_last (pc' := 17) hA1 dL_lies_16 rfl (fun h2 hA2 => ?_)
      refine a_goto 24 dL_lies_17 (by decide) ?_
      refine a_iconst (pc' := 25) (v := (0 : Int32)) dL_lies_24 rfl (by decide) ?_
      cases hf
      exact a_iret hr ⟨rfl, hA2⟩ dL_lies_25
    · rw [if_neg k1] at hf
      refine a_lconst (pc' := 12) (v := (1 : Int64)) dL_lies_11 rfl (by decide) ?_
      refine a_goto 16 dL_lies_12 (by decide) ?_
      refine b_last (pc' := 17) hA1 dL_lies_16 rfl (fun h2 hA2 => ?_)
      refine a_goto 24 dL_lies_17 (by decide) ?_
      refine a_iconst (pc' := 25) (v := (0 : Int32)) dL_lies_24 rfl (by decide) ?_
      cases hf
      exact a_iret hr ⟨rfl, hA2⟩ dL_lies_25
  · obtain ⟨k, rfl, rfl, hz⟩ := hq
    simp only [Sum.elim_inl] at hf
    subst hz
    have hA1 := hA
    by_cases k0 : k = 2
    · rw [if_pos k0] at hf
      have hE : f_xn k = "java/lang/IndexOutOfBoundsException" := by rw [k0]; rfl
      rw [hE]
      refine a_catch (pc' := 22) (k := 4) htab [] ⟨0, 17, 20, 18⟩ [] rfl (fun z hz => nomatch hz) (by decide) (by decide) (a_in3 67 rfl rfl) (by decide) (by decide) dL_lies_20 rfl ?_
      refine a_iconst (pc' := 23) (v := (1 : Int32)) dL_lies_22 rfl (by decide) ?_
      cases hf
      exact a_iret hr ⟨rfl, hA1⟩ dL_lies_23
    · rw [if_neg k0] at hf
      cases hf
def f_L_slates (F : Nat) (q : d_C) (v : Int64) (a1 : Int32) (a2 : Int32) : Option (Int32 × d_C × Int64) := (f_X3_slates F q a1 a2).bind fun r => Sum.elim (fun k => if k = 0 then some (1, q, v) else none) (fun w => some (0, q, w.toInt64)) r
set_option maxHeartbeats 1000000 in
set_option maxRecDepth 100000 in
theorem c_L_slates (l : Launch) (g : a_G) (F : Nat) (hflags : l.stackTraces = false) {h : List va_E} {q : d_C} {M : d_M} {v : Int64} {a1 : Int32} {a2 : Int32} {out : Int32 × d_C × Int64} (hA : d_all h q M v) (hf : f_L_slates F q v a1 a2 = some out) : a_CW l g yL_slates cL_slates 5 (some .int) [(0, 10, 13, 13)] (a_rx 7 104) [.ref 0, .int a1, .int a2, .ref 61] h none none (fun r h' => r = some (.int out.1) ∧ d_all h' out.2.1 M out.2.2) := by
  unfold f_L_slates at hf
  obtain ⟨r, e1, hf⟩ := Option.bind_eq_some_iff.mp hf
  refine a_enterW ⟨by decide, rfl, Nat.le_of_ble_eq_true rfl⟩ (fun p e s m args below meth c hr htab => ?_)
  refine a_sub (ls' := [(0, .ref 0), (1, .int a1), (2, .int a2), (3, .ref 61)]) [0, 1, 2, 3] rfl ?_
  refine a_aload_n (pc' := 1) 3 dL_slates_0 rfl rfl rfl ?_
  refine a_iconst (pc' := 2) (v := (0 : Int32)) dL_slates_1 rfl (by decide) ?_
  refine a_aload_n (pc' := 3) 0 dL_slates_2 rfl rfl rfl ?_
  refine a_iload_n (pc' := 4) 1 dL_slates_3 rfl rfl rfl ?_
  refine a_iload_n (pc' := 5) 2 dL_slates_4 rfl rfl rfl ?_
  refine a_callX (pc' := 8) (n := 2) (ci := 3) (C := RX3) (T := TX3) (N := 4) (As := [.int a1, .int a2]) (c_X3_slates_X l g F hflags hA.1 e1) (by intro w hw; simp only [List.mem_cons, List.not_mem_nil, or_false] at hw; rcases hw with rfl | rfl | rfl | rfl; exact (a_in3 225 rfl rfl); exact (a_in3 0 rfl rfl); exact (a_in3 1 rfl rfl); exact (a_in1 1 rfl rfl)) (a_in3 2 rfl rfl) ⟨rfl, by decide, by decide, by decide⟩ rfl rfl ⟨Nat.le_of_ble_eq_true rfl, Nat.le_of_ble_eq_true rfl⟩ ⟨Nat.le_of_ble_eq_true rfl, Nat.le_of_ble_eq_true rfl⟩ hA.1.1 (Nat.le_of_ble_eq_true rfl) dL_slates_5 rfl (fun r9 h1 hq => ?_) (fun E h1 hq => ?_)
  · obtain ⟨w, rfl, rfl, hz⟩ := hq
    simp only [Sum.elim_inr] at hf
    subst hz
    have hA1 := hA
    refine a_i2l (pc' := 9) dL_slates_8 rfl ?_
    refine b_last (pc' := 10) hA1 dL_slates_9 rfl (fun h2 hA2 => ?_)
    refine a_goto 17 dL_slates_10 (by decide) ?_
    refine a_iconst (pc' := 18) (v := (0 : Int32)) dL_slates_17 rfl (by decide) ?_
    cases hf
    exact a_iret hr ⟨rfl, hA2⟩ dL_slates_18
  · obtain ⟨k, rfl, rfl, hz⟩ := hq
    simp only [Sum.elim_inl] at hf
    subst hz
    have hA1 := hA
    by_cases k0 : k = 0
    · rw [if_pos k0] at hf
      have hE : f_xn k = "java/lang/IllegalArgumentException" := by rw [k0]; rfl
      rw [hE]
      refine a_catch (pc' := 15) (k := 4) htab [] ⟨0, 10, 13, 13⟩ [] rfl (fun z hz => nomatch hz) (by decide) (by decide) (a_in3 58 rfl rfl) (by decide) (by decide) dL_slates_13 rfl ?_
      refine a_iconst (pc' := 16) (v := (1 : Int32)) dL_slates_15 rfl (by decide) ?_
      cases hf
      exact a_iret hr ⟨rfl, hA1⟩ dL_slates_16
    · rw [if_neg k0] at hf
      cases hf
def f_L_count (F : Nat) (q : d_C) (v : Int64) (a1 : Int32) : Option (Int32 × d_C × Int64) := (f_X3_count F q a1).bind fun r => Sum.elim (fun k => if k = 0 then some (1, q, v) else none) (fun w => some (0, q, w.toInt64)) r
set_option maxHeartbeats 1000000 in
set_option maxRecDepth 100000 in
theorem c_L_count (l : Launch) (g : a_G) (F : Nat) (hflags : l.stackTraces = false) {h : List va_E} {q : d_C} {M : d_M} {v : Int64} {a1 : Int32} {out : Int32 × d_C × Int64} (hA : d_all h q M v) (hf : f_L_count F q v a1 = some out) : a_CW l g yL_count cL_count 4 (some .int) [(0, 9, 12, 13)] (a_rx 7 105) [.ref 0, .int a1, .ref 61] h none none (fun r h' => r = some (.int out.1) ∧ d_all h' out.2.1 M out.2.2) := by
  unfold f_L_count at hf
  obtain ⟨r, e1, hf⟩ := Option.bind_eq_some_iff.mp hf
  refine a_enterW ⟨by decide, rfl, Nat.le_of_ble_eq_true rfl⟩ (fun p e s m args below meth c hr htab => ?_)
  refine a_sub (ls' := [(0, .ref 0), (1, .int a1), (2, .ref 61)]) [0, 1, 2] rfl ?_
  refine a_aload_n (pc' := 1) 2 dL_count_0 rfl rfl rfl ?_
  refine a_iconst (pc' := 2) (v := (0 : Int32)) dL_count_1 rfl (by decide) ?_
  refine a_aload_n (pc' := 3) 0 dL_count_2 rfl rfl rfl ?_
  refine a_iload_n (pc' := 4) 1 dL_count_3 rfl rfl rfl ?_
  refine a_callX (pc' := 7) (n := 1) (ci := 3) (C := RX3) (T := TX3) (N := 4) (As := [.int a1]) (c_X3_count_X l g F hflags hA.1 e1) (by intro w hw; simp only [List.mem_cons, List.not_mem_nil, or_false] at hw; rcases hw with rfl | rfl | rfl | rfl; exact (a_in3 229 rfl rfl); exact (a_in2 128 rfl rfl); exact (a_in2 129 rfl rfl); exact (a_in1 1 rfl rfl)) (a_in2 130 rfl rfl) ⟨rfl, by decide, by decide, by decide⟩ rfl rfl ⟨Nat.le_of_ble_eq_true rfl, Nat.le_of_ble_eq_true rfl⟩ ⟨Nat.le_of_ble_eq_true rfl, Nat.le_of_ble_eq_true rfl⟩ hA.1.1 (Nat.le_of_ble_eq_true rfl) dL_count_4 rfl (fun r9 h1 hq => ?_) (fun E h1 hq => ?_)
  · obtain ⟨w, rfl, rfl, hz⟩ := hq
    simp only [Sum.elim_inr] at hf
    subst hz
    have hA1 := hA
    refine a_i2l (pc' := 8) dL_count_7 rfl ?_
    refine b_last (pc' := 9) hA1 dL_count_8 rfl (fun h2 hA2 => ?_)
    refine a_goto 15 dL_count_9 (by decide) ?_
    refine a_iconst (pc' := 16) (v := (0 : Int32)) dL_count_15 rfl (by decide) ?_
    cases hf
    exact a_iret hr ⟨rfl, hA2⟩ dL_count_16
  · obtain ⟨k, rfl, rfl, hz⟩ := hq
    simp only [Sum.elim_inl] at hf
    subst hz
    have hA1 := hA
    by_cases k0 : k = 0
    · rw [if_pos k0] at hf
      have hE : f_xn k = "java/lang/IllegalArgumentException" := by rw [k0]; rfl
      rw [hE]
      refine a_catch_n (pc' := 13) (k := 3) htab [] ⟨0, 9, 12, 13⟩ [] rfl (fun z hz => nomatch hz) (by decide) (by decide) (a_in3 58 rfl rfl) (by decide) (by decide) rfl dL_count_12 rfl ?_
      refine a_iconst (pc' := 14) (v := (1 : Int32)) dL_count_13 rfl (by decide) ?_
      cases hf
      exact a_iret hr ⟨rfl, hA1⟩ dL_count_14
    · rw [if_neg k0] at hf
      cases hf
def f_L_setting (F : Nat) (q : d_C) (v : Int64) (a1 : Int32) : Option (Int32 × d_C × Int64) := (f_X3_setting F q a1).bind fun r => Sum.elim (fun k => if k = 2 then some (1, q, v) else none) (fun w => some (0, q, w.toInt64)) r
set_option maxHeartbeats 1000000 in
set_option maxRecDepth 100000 in
theorem c_L_setting (l : Launch) (g : a_G) (F : Nat) (hflags : l.stackTraces = false) {h : List va_E} {q : d_C} {M : d_M} {v : Int64} {a1 : Int32} {out : Int32 × d_C × Int64} (hA : d_all h q M v) (hf : f_L_setting F q v a1 = some out) : a_CW l g yL_setting cL_setting 4 (some .int) [(0, 9, 12, 18)] (a_rx 7 103) [.ref 0, .int a1, .ref 61] h none none (fun r h' => r = some (.int out.1) ∧ d_all h' out.2.1 M out.2.2) := by
  unfold f_L_setting at hf
  obtain ⟨r, e1, hf⟩ := Option.bind_eq_some_iff.mp hf
  refine a_enterW ⟨by decide, rfl, Nat.le_of_ble_eq_true rfl⟩ (fun p e s m args below meth c hr htab => ?_)
  refine a_sub (ls' := [(0, .ref 0), (1, .int a1), (2, .ref 61)]) [0, 1, 2] rfl ?_
  refine a_aload_n (pc' := 1) 2 dL_setting_0 rfl rfl rfl ?_
  refine a_iconst (pc' := 2) (v := (0 : Int32)) dL_setting_1 rfl (by decide) ?_
  refine a_aload_n (pc' := 3) 0 dL_setting_2 rfl rfl rfl ?_
  refine a_iload_n (pc' := 4) 1 dL_setting_3 rfl rfl rfl ?_
  refine a_callX (pc' := 7) (n := 1) (ci := 3) (C := RX3) (T := TX3) (N := 4) (As := [.int a1]) (c_X3_setting_X l g F hflags hA.1 e1) (by intro w hw; simp only [List.mem_cons, List.not_mem_nil, or_false] at hw; rcases hw with rfl | rfl | rfl | rfl; exact (a_in3 233 rfl rfl); exact (a_in2 209 rfl rfl); exact (a_in2 210 rfl rfl); exact (a_in1 1 rfl rfl)) (a_in2 211 rfl rfl) ⟨rfl, by decide, by decide, by decide⟩ rfl rfl ⟨Nat.le_of_ble_eq_true rfl, Nat.le_of_ble_eq_true rfl⟩ ⟨Nat.le_of_ble_eq_true rfl, Nat.le_of_ble_eq_true rfl⟩ hA.1.1 (Nat.le_of_ble_eq_true rfl) dL_setting_4 rfl (fun r9 h1 hq => ?_) (fun E h1 hq => ?_)
  · obtain ⟨w, rfl, rfl, hz⟩ := hq
    simp only [Sum.elim_inr] at hf
    subst hz
    have hA1 := hA
    refine a_i2l (pc' := 8) dL_setting_7 rfl ?_
    refine b_last (pc' := 9) hA1 dL_setting_8 rfl (fun h2 hA2 => ?_)
    refine a_goto 15 dL_setting_9 (by decide) ?_
    refine a_iconst (pc' := 16) (v := (0 : Int32)) dL_setting_15 rfl (by decide) ?_
    cases hf
    exact a_iret hr ⟨rfl, hA2⟩ dL_setting_16
  · obtain ⟨k, rfl, rfl, hz⟩ := hq
    simp only [Sum.elim_inl] at hf
    subst hz
    have hA1 := hA
    by_cases k0 : k = 2
    · rw [if_pos k0] at hf
      have hE : f_xn k = "java/lang/IndexOutOfBoundsException" := by rw [k0]; rfl
      rw [hE]
      refine a_catch_n (pc' := 13) (k := 3) htab [] ⟨0, 9, 12, 18⟩ [] rfl (fun z hz => nomatch hz) (by decide) (by decide) (a_in3 67 rfl rfl) (by decide) (by decide) rfl dL_setting_12 rfl ?_
      refine a_iconst (pc' := 14) (v := (1 : Int32)) dL_setting_13 rfl (by decide) ?_
      cases hf
      exact a_iret hr ⟨rfl, hA1⟩ dL_setting_14
    · rw [if_neg k0] at hf
      cases hf
def f_L_toTop (F : Nat) (q : d_C) (v : Int64) (a1 : Int32) (a2 : Int32) : Option (Int32 × d_C × Int64) := (f_X3_toTop F q a1 a2).bind fun r => Sum.elim (fun k => if k = 0 then some (1, q, v) else none) (fun w => some (0, q, w.toInt64)) r
set_option maxHeartbeats 1000000 in
set_option maxRecDepth 100000 in
theorem c_L_toTop (l : Launch) (g : a_G) (F : Nat) (hflags : l.stackTraces = false) {h : List va_E} {q : d_C} {M : d_M} {v : Int64} {a1 : Int32} {a2 : Int32} {out : Int32 × d_C × Int64} (hA : d_all h q M v) (hf : f_L_toTop F q v a1 a2 = some out) : a_CW l g yL_toTop cL_toTop 5 (some .int) [(0, 10, 13, 13)] (a_rx 7 105) [.ref 0, .int a1, .int a2, .ref 61] h none none (fun r h' => r = some (.int out.1) ∧ d_all h' out.2.1 M out.2.2) := by
  unfold f_L_toTop at hf
  obtain ⟨r, e1, hf⟩ := Option.bind_eq_some_iff.mp hf
  refine a_enterW ⟨by decide, rfl, Nat.le_of_ble_eq_true rfl⟩ (fun p e s m args below meth c hr htab => ?_)
  refine a_sub (ls' := [(0, .ref 0), (1, .int a1), (2, .int a2), (3, .ref 61)]) [0, 1, 2, 3] rfl ?_
  refine a_aload_n (pc' := 1) 3 dL_toTop_0 rfl rfl rfl ?_
  refine a_iconst (pc' := 2) (v := (0 : Int32)) dL_toTop_1 rfl (by decide) ?_
  refine a_aload_n (pc' := 3) 0 dL_toTop_2 rfl rfl rfl ?_
  refine a_iload_n (pc' := 4) 1 dL_toTop_3 rfl rfl rfl ?_
  refine a_iload_n (pc' := 5) 2 dL_toTop_4 rfl rfl rfl ?_
  refine a_callX (pc' := 8) (n := 2) (ci := 3) (C := RX3) (T := TX3) (N := 4) (As := [.int a1, .int a2]) (c_X3_toTop_X l g F hflags hA.1 e1) (by intro w hw; simp only [List.mem_cons, List.not_mem_nil, or_false] at hw; rcases hw with rfl | rfl | rfl | rfl; exact (a_in3 237 rfl rfl); exact (a_in3 13 rfl rfl); exact (a_in3 14 rfl rfl); exact (a_in1 1 rfl rfl)) (a_in3 15 rfl rfl) ⟨rfl, by decide, by decide, by decide⟩ rfl rfl ⟨Nat.le_of_ble_eq_true rfl, Nat.le_of_ble_eq_true rfl⟩ ⟨Nat.le_of_ble_eq_true rfl, Nat.le_of_ble_eq_true rfl⟩ hA.1.1 (Nat.le_of_ble_eq_true rfl) dL_toTop_5 rfl (fun r9 h1 hq => ?_) (fun E h1 hq => ?_)
  · obtain ⟨w, rfl, rfl, hz⟩ := hq
    simp only [Sum.elim_inr] at hf
    subst hz
    have hA1 := hA
    refine a_i2l (pc' := 9) dL_toTop_8 rfl ?_
    refine b_last (pc' := 10) hA1 dL_toTop_9 rfl (fun h2 hA2 => ?_)
    refine a_goto 17 dL_toTop_10 (by decide) ?_
    refine a_iconst (pc' := 18) (v := (0 : Int32)) dL_toTop_17 rfl (by decide) ?_
    cases hf
    exact a_iret hr ⟨rfl, hA2⟩ dL_toTop_18
  · obtain ⟨k, rfl, rfl, hz⟩ := hq
    simp only [Sum.elim_inl] at hf
    subst hz
    have hA1 := hA
    by_cases k0 : k = 0
    · rw [if_pos k0] at hf
      have hE : f_xn k = "java/lang/IllegalArgumentException" := by rw [k0]; rfl
      rw [hE]
      refine a_catch (pc' := 15) (k := 4) htab [] ⟨0, 10, 13, 13⟩ [] rfl (fun z hz => nomatch hz) (by decide) (by decide) (a_in3 58 rfl rfl) (by decide) (by decide) dL_toTop_13 rfl ?_
      refine a_iconst (pc' := 16) (v := (1 : Int32)) dL_toTop_15 rfl (by decide) ?_
      cases hf
      exact a_iret hr ⟨rfl, hA1⟩ dL_toTop_16
    · rw [if_neg k0] at hf
      cases hf
def f_L_reach (F : Nat) (q : d_C) (v : Int64) (a1 : Int32) : Option (Int32 × d_C × Int64) := (f_X3_reach F q a1).bind fun r => Sum.elim (fun k => if k.1 = 0 then some (1, k.2, v) else none) (fun w => some (0, w.2, w.1.toInt64)) r
set_option maxHeartbeats 1000000 in
set_option maxRecDepth 100000 in
theorem c_L_reach (l : Launch) (g : a_G) (F : Nat) (hflags : l.stackTraces = false) {h : List va_E} {q : d_C} {M : d_M} {v : Int64} {a1 : Int32} {out : Int32 × d_C × Int64} (hA : d_all h q M v) (hf : f_L_reach F q v a1 = some out) : a_CW l g yL_reach cL_reach 4 (some .int) [(0, 9, 12, 13)] (a_rx 7 108) [.ref 0, .int a1, .ref 61] h none none (fun r h' => r = some (.int out.1) ∧ d_all h' out.2.1 M out.2.2) := by
  unfold f_L_reach at hf
  obtain ⟨r, e1, hf⟩ := Option.bind_eq_some_iff.mp hf
  refine a_enterW ⟨by decide, rfl, Nat.le_of_ble_eq_true rfl⟩ (fun p e s m args below meth c hr htab => ?_)
  refine a_sub (ls' := [(0, .ref 0), (1, .int a1), (2, .ref 61)]) [0, 1, 2] rfl ?_
  refine a_aload_n (pc' := 1) 2 dL_reach_0 rfl rfl rfl ?_
  refine a_iconst (pc' := 2) (v := (0 : Int32)) dL_reach_1 rfl (by decide) ?_
  refine a_aload_n (pc' := 3) 0 dL_reach_2 rfl rfl rfl ?_
  refine a_iload_n (pc' := 4) 1 dL_reach_3 rfl rfl rfl ?_
  refine a_callX (pc' := 7) (n := 1) (ci := 3) (C := RX3) (T := TX3) (N := 4) (As := [.int a1]) (c_X3_reach_X l g F hflags hA.1 e1) (by intro w hw; simp only [List.mem_cons, List.not_mem_nil, or_false] at hw; rcases hw with rfl | rfl | rfl | rfl; exact (a_in4 1 rfl rfl); exact (a_in3 38 rfl rfl); exact (a_in3 39 rfl rfl); exact (a_in1 1 rfl rfl)) (a_in3 40 rfl rfl) ⟨rfl, by decide, by decide, by decide⟩ rfl rfl ⟨Nat.le_of_ble_eq_true rfl, Nat.le_of_ble_eq_true rfl⟩ ⟨Nat.le_of_ble_eq_true rfl, Nat.le_of_ble_eq_true rfl⟩ hA.1.1 (Nat.le_of_ble_eq_true rfl) dL_reach_4 rfl (fun r9 h1 hq => ?_) (fun E h1 hq => ?_)
  · obtain ⟨w, rfl, rfl, hz, hfr⟩ := hq
    simp only [Sum.elim_inr] at hf
    have hA1 := d_all_c hA hz hfr
    refine a_i2l (pc' := 8) dL_reach_7 rfl ?_
    refine b_last (pc' := 9) hA1 dL_reach_8 rfl (fun h2 hA2 => ?_)
    refine a_goto 15 dL_reach_9 (by decide) ?_
    refine a_iconst (pc' := 16) (v := (0 : Int32)) dL_reach_15 rfl (by decide) ?_
    cases hf
    exact a_iret hr ⟨rfl, hA2⟩ dL_reach_16
  · obtain ⟨k, rfl, rfl, hz, hfr⟩ := hq
    simp only [Sum.elim_inl] at hf
    have hA1 := d_all_c hA hz hfr
    by_cases k0 : k.1 = 0
    · rw [if_pos k0] at hf
      have hE : f_xn k.1 = "java/lang/IllegalArgumentException" := by rw [k0]; rfl
      rw [hE]
      refine a_catch_n (pc' := 13) (k := 3) htab [] ⟨0, 9, 12, 13⟩ [] rfl (fun z hz => nomatch hz) (by decide) (by decide) (a_in3 58 rfl rfl) (by decide) (by decide) rfl dL_reach_12 rfl ?_
      refine a_iconst (pc' := 14) (v := (1 : Int32)) dL_reach_13 rfl (by decide) ?_
      cases hf
      exact a_iret hr ⟨rfl, hA1⟩ dL_reach_14
    · rw [if_neg k0] at hf
      cases hf
