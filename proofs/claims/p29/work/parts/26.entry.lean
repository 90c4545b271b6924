/-! from the entry to the loop -/
def d_q0 : d_C := (d_z0, d_z0, ((fun _ => d_z0), 0, 0), ((fun _ => 0), 0, (fun _ => 0), (fun _ => 0), 0))
theorem d_arr_lit {h : List va_E} {a n kd : Nat} {f f2 : d_Z} (h1 : h[a]? = some (.inl (kd, n, .inl f))) (h2 : ∀ k, k < n → f k = f2 k) : d_arr h a n kd f2 := ⟨f, h1, h2⟩
theorem d_nr_at {h : List va_E} {i : Nat} (h0 : h[i]? = some (.inr (1, d_rO i d_z0))) (h1 : h[i + 1]? = some (d_ai 100)) (h2 : h[i + 2]? = some (d_ai 100)) (h3 : h[i + 3]? = some (d_ai 25)) (h4 : h[i + 4]? = some (d_ai 25)) (h5 : h[i + 5]? = some (d_ai 25)) : d_roof h i d_z0 := by
  have key : ∀ off k, 14 ≤ off → (0 : Int32) = d_z0 (off + k) := by
    intro off k ho
    unfold d_z0
    rw [if_neg (by omega), if_neg (by omega), if_neg (by omega), if_neg (by omega), if_neg (by omega), if_neg (by omega)]
  exact ⟨h0, d_arr_lit h1 (fun k _ => key 14 k (by omega)), d_arr_lit h2 (fun k _ => key 114 k (by omega)), d_arr_lit h3 (fun k _ => key 214 k (by omega)), d_arr_lit h4 (fun k _ => key 239 k (by omega)), d_arr_lit h5 (fun k _ => key 264 k (by omega))⟩
def d_Y0 : d_A := (d_q0, (fun _ => 0), d_w0)
def d_h2 : List va_E := ((((((d_h0 ++ [d_ai 61]) ++ [d_ai 61]) ++ [d_ai 25]) ++ [d_ai 25]) ++ [d_ai 25]) ++ [d_ai 14])
set_option maxRecDepth 100000 in
theorem d_h2_ok : d_al d_h2 d_Y0 := by
  refine ⟨⟨rfl, d_nr_at rfl rfl rfl rfl rfl rfl, d_nr_at rfl rfl rfl rfl rfl rfl, ⟨rfl, ?_, ?_⟩, ⟨rfl, d_arr_lit rfl (fun _ _ => rfl), d_arr_lit rfl (fun _ _ => rfl), d_arr_lit rfl (fun _ _ => rfl)⟩⟩, d_arr_lit rfl (fun _ _ => rfl), ⟨by unfold d_pd; decide, d_arr_lit rfl (fun _ _ => rfl), d_arr_lit rfl (fun _ _ => rfl), d_arr_lit rfl (fun _ _ => rfl), d_arr_lit rfl (fun _ _ => rfl), d_arr_lit rfl (fun _ _ => rfl)⟩⟩
  · have e : d_ringf = va_up (va_up (va_up (va_up (va_up (va_up (fun _ => none) 0 (some (13 + 2))) 1 (some (13 + 8))) 2 (some (13 + 14))) 3 (some (13 + 20))) 4 (some (13 + 26))) 5 (some (13 + 32)) := by
      funext k
      unfold d_ringf
      by_cases hk : k < 6
      · rw [if_pos hk]
        rcases (show k = 0 ∨ k = 1 ∨ k = 2 ∨ k = 3 ∨ k = 4 ∨ k = 5 by omega) with rfl | rfl | rfl | rfl | rfl | rfl <;> rfl
      · rw [if_neg hk]
        simp [va_up, show ¬ k = 0 by omega, show ¬ k = 1 by omega, show ¬ k = 2 by omega, show ¬ k = 3 by omega, show ¬ k = 4 by omega, show ¬ k = 5 by omega]
    rw [e]
    rfl
  · intro k hk
    rcases (show k = 0 ∨ k = 1 ∨ k = 2 ∨ k = 3 ∨ k = 4 ∨ k = 5 by omega) with rfl | rfl | rfl | rfl | rfl | rfl <;> exact d_nr_at rfl rfl rfl rfl rfl rfl
set_option maxHeartbeats 4000000 in
set_option maxRecDepth 100000 in
/-- THE LAW, from its entry, where its function answers 1 -/
theorem whole_start0 {p : Program} {e : Env} {s : State} {m : MethodId} {below : List Frame} {meth : Method} {c : Code} (l : Launch) {b L : Nat} {xs : Nat → Int32} (C0 : lw_At p s m meth c b L xs) (F : Nat) (hf : f_law F L xs d_Y0 = some 1) : W p l e room_1 s m #[Value.ref b] below meth c s.heap [] 0 0 (lw_Z below #[Value.ref b] s) (entryFrame m ([Value.ref b] : List Value).toArray 12) := by
  obtain ⟨hx, hb, hr, hml, hown, hts, hX, hbl, hlocks, hgv⟩ := id C0
  obtain ⟨g, hE, hB, hsc, had⟩ := a_start hts hX hbl hgv
  have hl := lv_entry ([.ref b]) (n := 12) (Nat.le_of_ble_eq_true rfl)
  rw [lg_entry_eq]
  have key : a_W p l e room_1 s m #[Value.ref b] below meth c (lw_Z below #[Value.ref b] s) RL code 12 g 0 0 (some 0) 0 [(0, .ref 1002)] [] [] := by
    refine a_new (pc' := 3) (ci := 3) (C := RX3) (T := TX3) (N := 4) (ty := tyX3) d_b3 rfl in_X3 tyX3_ok (by intro w hw; simp only [List.mem_cons, List.not_mem_nil, or_false] at hw; rcases hw with rfl | rfl | rfl; exact (a_in1 14 rfl rfl); exact (a_in1 15 rfl rfl); exact (a_in1 1 rfl rfl)) d_b3_ok (Nat.le_of_ble_eq_true rfl) dL_law_0 rfl (Nat.le_of_ble_eq_true rfl) (Nat.le_of_ble_eq_true rfl) ?_
    refine a_dup (pc' := 4) dL_law_3 rfl rfl ?_
    refine a_callI (pc' := 7) (n := 0) (As := []) (c_X3_init l g) (by intro w hw; simp only [List.mem_cons, List.not_mem_nil, or_false] at hw; rcases hw with rfl | rfl | rfl; exact (a_in1 16 rfl rfl); exact (a_in1 17 rfl rfl); exact (a_in1 1 rfl rfl)) (a_in1 18 rfl rfl) ⟨by decide, by decide, by decide⟩ rfl rfl ⟨Nat.le_of_ble_eq_true rfl, Nat.le_of_ble_eq_true rfl⟩ ⟨Nat.le_of_ble_eq_true rfl, Nat.le_of_ble_eq_true rfl⟩ (Nat.le_of_ble_eq_true rfl) dL_law_4 rfl (fun r h' hq => ?_)
    obtain ⟨rfl, rfl⟩ := hq
    refine a_astore_n (pc' := 8) (ls' := [(1, .ref 0), (0, .ref 1002)]) dL_law_7 rfl (by decide) rfl rfl ?_
    refine a_bipush (pc' := 10) (v := (61 : Int32)) dL_law_8 rfl (by decide) ?_
    refine a_seq (k := d_h0.length) rfl ?_
    refine a_newarr (pc' := 12) (atype := .int) (kd := 0) (N := 61) (a0 := (61, .inl (fun _ => 0))) rfl (by decide) (fun _ => rfl) (a_in1 101 rfl rfl) (by decide) (by decide) (by decide) (Nat.le_of_ble_eq_true rfl) dL_law_10 rfl (Nat.le_of_ble_eq_true rfl) (Nat.le_of_ble_eq_true rfl) ?_
    refine a_top (v := .ref 55) rfl ?_
    refine a_astore_n (pc' := 13) (ls' := [(2, .ref 55), (1, .ref 0), (0, .ref 1002)]) dL_law_12 rfl (by decide) rfl rfl ?_
    refine a_bipush (pc' := 15) (v := (61 : Int32)) dL_law_13 rfl (by decide) ?_
    refine a_seq (k := (d_h0 ++ [d_ai 61]).length) rfl ?_
    refine a_newarr (pc' := 17) (atype := .int) (kd := 0) (N := 61) (a0 := (61, .inl (fun _ => 0))) rfl (by decide) (fun _ => rfl) (a_in1 101 rfl rfl) (by decide) (by decide) (by decide) (Nat.le_of_ble_eq_true rfl) dL_law_15 rfl (Nat.le_of_ble_eq_true rfl) (Nat.le_of_ble_eq_true rfl) ?_
    refine a_top (v := .ref 56) rfl ?_
    refine a_astore_n (pc' := 18) (ls' := [(3, .ref 56), (2, .ref 55), (1, .ref 0), (0, .ref 1002)]) dL_law_17 rfl (by decide) rfl rfl ?_
    refine a_bipush (pc' := 20) (v := (25 : Int32)) dL_law_18 rfl (by decide) ?_
    refine a_seq (k := ((d_h0 ++ [d_ai 61]) ++ [d_ai 61]).length) rfl ?_
    refine a_newarr (pc' := 22) (atype := .int) (kd := 0) (N := 25) (a0 := (25, .inl (fun _ => 0))) rfl (by decide) (fun _ => rfl) (a_in1 101 rfl rfl) (by decide) (by decide) (by decide) (Nat.le_of_ble_eq_true rfl) dL_law_20 rfl (Nat.le_of_ble_eq_true rfl) (Nat.le_of_ble_eq_true rfl) ?_
    refine a_top (v := .ref 57) rfl ?_
    refine a_astore (pc' := 24) (ls' := [(4, .ref 57), (3, .ref 56), (2, .ref 55), (1, .ref 0), (0, .ref 1002)]) dL_law_22 (by decide) rfl rfl ?_
    refine a_bipush (pc' := 26) (v := (25 : Int32)) dL_law_24 rfl (by decide) ?_
    refine a_seq (k := (((d_h0 ++ [d_ai 61]) ++ [d_ai 61]) ++ [d_ai 25]).length) rfl ?_
    refine a_newarr (pc' := 28) (atype := .int) (kd := 0) (N := 25) (a0 := (25, .inl (fun _ => 0))) rfl (by decide) (fun _ => rfl) (a_in1 101 rfl rfl) (by decide) (by decide) (by decide) (Nat.le_of_ble_eq_true rfl) dL_law_26 rfl (Nat.le_of_ble_eq_true rfl) (Nat.le_of_ble_eq_true rfl) ?_
    refine a_top (v := .ref 58) rfl ?_
    refine a_astore (pc' := 30) (ls' := [(5, .ref 58), (4, .ref 57), (3, .ref 56), (2, .ref 55), (1, .ref 0), (0, .ref 1002)]) dL_law_28 (by decide) rfl rfl ?_
    refine a_bipush (pc' := 32) (v := (25 : Int32)) dL_law_30 rfl (by decide) ?_
    refine a_seq (k := ((((d_h0 ++ [d_ai 61]) ++ [d_ai 61]) ++ [d_ai 25]) ++ [d_ai 25]).length) rfl ?_
    refine a_newarr (pc' := 34) (atype := .int) (kd := 0) (N := 25) (a0 := (25, .inl (fun _ => 0))) rfl (by decide) (fun _ => rfl) (a_in1 101 rfl rfl) (by decide) (by decide) (by decide) (Nat.le_of_ble_eq_true rfl) dL_law_32 rfl (Nat.le_of_ble_eq_true rfl) (Nat.le_of_ble_eq_true rfl) ?_
    refine a_top (v := .ref 59) rfl ?_
    refine a_astore (pc' := 36) (ls' := [(6, .ref 59), (5, .ref 58), (4, .ref 57), (3, .ref 56), (2, .ref 55), (1, .ref 0), (0, .ref 1002)]) dL_law_34 (by decide) rfl rfl ?_
    refine a_bipush (pc' := 38) (v := (14 : Int32)) dL_law_36 rfl (by decide) ?_
    refine a_seq (k := (((((d_h0 ++ [d_ai 61]) ++ [d_ai 61]) ++ [d_ai 25]) ++ [d_ai 25]) ++ [d_ai 25]).length) rfl ?_
    refine a_newarr (pc' := 40) (atype := .int) (kd := 0) (N := 14) (a0 := (14, .inl (fun _ => 0))) rfl (by decide) (fun _ => rfl) (a_in1 101 rfl rfl) (by decide) (by decide) (by decide) (Nat.le_of_ble_eq_true rfl) dL_law_38 rfl (Nat.le_of_ble_eq_true rfl) (Nat.le_of_ble_eq_true rfl) ?_
    refine a_top (v := .ref 60) rfl ?_
    refine a_astore (pc' := 42) (ls' := [(7, .ref 60), (6, .ref 59), (5, .ref 58), (4, .ref 57), (3, .ref 56), (2, .ref 55), (1, .ref 0), (0, .ref 1002)]) dL_law_40 (by decide) rfl rfl ?_
    refine a_heq (h2 := d_h2) rfl ?_
    refine a_forget ?_
    refine a_sub (ls' := [(0, .ref 1002), (1, .ref 0), (2, .ref 55), (3, .ref 56), (4, .ref 57), (5, .ref 58), (6, .ref 59), (7, .ref 60)]) [7, 6, 5, 4, 3, 2, 1, 0] rfl ?_
    refine a_widen (k := 61) (n := 5200) (Nat.le_of_ble_eq_true rfl) (Nat.le_of_ble_eq_true rfl) ?_
    exact l_entry F hr hB.symm hsc _ 61 5200 hf (by decide) (by decide) d_h2 d_h2_ok rfl
  refine key ⟨hx, hb, hml, hown, fun w hw => hts w (a_WS_tbl hw), hlocks, hE⟩ s.heap [] _ ⟨by decide, fun k q h => by simp [a_cw] at h⟩ va_S.rf (fun n hn => by cases hn; rw [hB]; rfl) ?_
  have e9 : ([(0, Value.ref 1002)] : List (Nat × Value)).map (a_lv g) = [(0, .ref b)] := by
    show [(0, Value.ref (a_ad g 1002))] = _
    rw [had]
  rw [e9]
  exact hl
