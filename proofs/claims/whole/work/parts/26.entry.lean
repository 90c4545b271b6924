/-! from the entry to the loop -/
def d_q0 : d_C := (d_z0, d_z0, ((fun _ => d_z0), 0, 0), ((fun _ => 0), 0, (fun _ => 0), (fun _ => 0), 0))
def d_M0 : d_M := (d_z0, (fun _ => 0), (fun _ => 0), (fun _ => 0), (fun _ => 0), 0, 0, 0, 0, 0, 0, 0, 0, 0)
theorem d_arr_lit {h : List va_E} {a n kd : Nat} {f f2 : d_Z} (h1 : h[a]? = some (.inl (kd, n, .inl f))) (h2 : ∀ k, k < n → f k = f2 k) : d_arr h a n kd f2 := ⟨f, h1, h2⟩
theorem d_nr_at {h : List va_E} {i : Nat} (h0 : h[i]? = some (.inr (1, d_rO i d_z0))) (h1 : h[i + 1]? = some (d_ai 100)) (h2 : h[i + 2]? = some (d_ai 100)) (h3 : h[i + 3]? = some (d_ai 25)) (h4 : h[i + 4]? = some (d_ai 25)) (h5 : h[i + 5]? = some (d_ai 25)) : d_roof h i d_z0 := by
  have key : ∀ off k, 14 ≤ off → (0 : Int32) = d_z0 (off + k) := by
    intro off k ho
    unfold d_z0
    rw [if_neg (by omega), if_neg (by omega), if_neg (by omega), if_neg (by omega), if_neg (by omega), if_neg (by omega)]
  exact ⟨h0, d_arr_lit h1 (fun k _ => key 14 k (by omega)), d_arr_lit h2 (fun k _ => key 114 k (by omega)), d_arr_lit h3 (fun k _ => key 214 k (by omega)), d_arr_lit h4 (fun k _ => key 239 k (by omega)), d_arr_lit h5 (fun k _ => key 264 k (by omega))⟩
def d_h1 : List va_E := d_h0 ++ d_nm 55
def d_h2 : List va_E := d_h1 ++ [.inl (2, 1, .inr (.inl (fun _ => 0)))]
set_option maxRecDepth 100000 in
theorem d_h2_ok : d_all d_h2 d_q0 d_M0 0 := by
  refine ⟨⟨rfl, d_nr_at rfl rfl rfl rfl rfl rfl, d_nr_at rfl rfl rfl rfl rfl rfl, ⟨rfl, ?_, ?_⟩, ⟨rfl, d_arr_lit rfl (fun _ _ => rfl), d_arr_lit rfl (fun _ _ => rfl), d_arr_lit rfl (fun _ _ => rfl)⟩⟩, ⟨rfl, d_arr_lit rfl ?_, d_arr_lit rfl (fun _ _ => rfl), d_arr_lit rfl (fun _ _ => rfl), d_arr_lit rfl (fun _ _ => rfl), d_arr_lit rfl (fun _ _ => rfl)⟩, ⟨_, rfl, rfl⟩⟩
  · have e : d_ringf = va_up (va_up (va_up (va_up (va_up (va_up (fun _ => none) 0 (some (13 + 2))) 1 (some (13 + 8))) 2 (some (13 + 14))) 3 (some (13 + 20))) 4 (some (13 + 26))) 5 (some (13 + 32)) := by
      funext k
      unfold d_ringf
      by_cases hk : k < 6
      · rw [if_pos hk]
        rcases (show k = 0 ∨ k = 1 ∨ k = 2 ∨ k = 3 ∨ k = 4 ∨ k = 5 by omega) with rfl | rfl | rfl | rfl | rfl | rfl <;> rfl
      · rw [if_neg hk]
        simp [va_up, show ¬ k = 0 by omega, show ¬ k = 1 by omega, show ¬ k = 2 by omega, show ¬ k = 3 by omega, show ¬ k = 4 by omega, show ¬ k = 5 by omega]
    rw [e]
    rfl
  · intro k hk
    rcases (show k = 0 ∨ k = 1 ∨ k = 2 ∨ k = 3 ∨ k = 4 ∨ k = 5 by omega) with rfl | rfl | rfl | rfl | rfl | rfl <;> exact d_nr_at rfl rfl rfl rfl rfl rfl
  · intro k hk
    show upd (upd (upd (upd (upd (upd (fun _ => 0) 0 100) 1 6) 3 4) 4 20) 5 2) 7 20 k = d_z0 k
    unfold upd d_z0
    by_cases h7 : k = 7
    · subst h7; rfl
    · by_cases h5 : k = 5
      · subst h5; rfl
      · by_cases h4 : k = 4
        · subst h4; rfl
        · by_cases h3 : k = 3
          · subst h3; rfl
          · by_cases h1 : k = 1
            · subst h1; rfl
            · by_cases h0 : k = 0
              · subst h0; rfl
              · simp [h0, h1, h3, h4, h5, h7]
set_option maxHeartbeats 4000000 in
set_option maxRecDepth 100000 in
/-- THE LAW, from its entry, where its function answers 1 -/
theorem whole_start0 {p : Program} {e : Env} {s : State} {m : MethodId} {below : List Frame} {meth : Method} {c : Code} (l : Launch) (hflags : l.flags = flags0) {b L : Nat} {xs : Nat → Int32} (C0 : lw_At p s m meth c b L xs) (F : Nat) (hf : f_law_L F L xs 600 0 d_q0 d_M0 0 = some 1) : W p l e room_1 s m #[Value.ref b] below meth c s.heap [] 0 0 (lw_Z below #[Value.ref b] s) (entryFrame m ([Value.ref b] : List Value).toArray 9) := by
  obtain ⟨hx, hb, hr, hml, hown, hts, hX, hbl, hlocks, hgv⟩ := id C0
  have hfl : l.stackTraces = false := by unfold Launch.stackTraces; rw [hflags]; decide
  obtain ⟨g, hE, hB, hsc⟩ := a_start hts hX hbl hgv
  have hl := lv_entry ([.ref b]) (n := 9) (Nat.le_of_ble_eq_true rfl)
  rw [lg_entry_eq]
  have had : a_ad g 1002 = b := hsc.1
  have key : a_W p l e room_1 s m #[Value.ref b] below meth c (lw_Z below #[Value.ref b] s) RL code 9 g 0 0 (some 0) 0 [(0, .ref 1002)] [] [] := by
    refine a_new (pc' := 3) (ci := 3) (C := RX3) (T := TX3) (N := 4) (ty := tyX3) d_b3 rfl in_X3 tyX3_ok (by intro w hw; simp only [List.mem_cons, List.not_mem_nil, or_false] at hw; rcases hw with rfl | rfl | rfl; exact (a_in1 16 rfl rfl); exact (a_in1 17 rfl rfl); exact (a_in1 1 rfl rfl)) d_b3_ok (Nat.le_of_ble_eq_true rfl) dL_law_0 rfl (Nat.le_of_ble_eq_true rfl) (Nat.le_of_ble_eq_true rfl) ?_
    refine a_dup (pc' := 4) dL_law_3 rfl rfl ?_
    refine a_callI (pc' := 7) (n := 0) (As := []) (c_X3_init l g) (by intro w hw; simp only [List.mem_cons, List.not_mem_nil, or_false] at hw; rcases hw with rfl | rfl | rfl; exact (a_in1 18 rfl rfl); exact (a_in1 19 rfl rfl); exact (a_in1 1 rfl rfl)) (a_in1 20 rfl rfl) ⟨by decide, by decide, by decide⟩ rfl rfl ⟨Nat.le_of_ble_eq_true rfl, Nat.le_of_ble_eq_true rfl⟩ ⟨Nat.le_of_ble_eq_true rfl, Nat.le_of_ble_eq_true rfl⟩ (Nat.le_of_ble_eq_true rfl) dL_law_4 rfl (fun r h' hq => ?_)
    obtain ⟨rfl, rfl⟩ := hq
    refine a_astore_n (pc' := 8) (ls' := [(1, .ref 0), (0, .ref 1002)]) dL_law_7 rfl (by decide) rfl rfl ?_
    refine a_seq (k := d_h0.length) rfl ?_
    refine a_new (pc' := 11) (ci := 4) (C := RX4) (T := TX4) (N := 14) (ty := tyX4) d_b4 rfl in_X4 tyX4_ok (by intro w hw; simp only [List.mem_cons, List.not_mem_nil, or_false] at hw; rcases hw with rfl | rfl | rfl; exact (a_in4 2 rfl rfl); exact (a_in4 3 rfl rfl); exact (a_in1 5 rfl rfl)) d_b4_ok (Nat.le_of_ble_eq_true rfl) dL_law_8 rfl (Nat.le_of_ble_eq_true rfl) (Nat.le_of_ble_eq_true rfl) ?_
    refine a_dup (pc' := 12) dL_law_11 rfl rfl ?_
    refine a_callI (pc' := 15) (n := 0) (As := []) (c_X4_init l g d_h0 (Nat.le_of_ble_eq_true rfl)) (by intro w hw; simp only [List.mem_cons, List.not_mem_nil, or_false] at hw; rcases hw with rfl | rfl | rfl; exact (a_in4 4 rfl rfl); exact (a_in4 5 rfl rfl); exact (a_in1 5 rfl rfl)) (a_in4 6 rfl rfl) ⟨by decide, by decide, by decide⟩ rfl rfl ⟨Nat.le_of_ble_eq_true rfl, Nat.le_of_ble_eq_true rfl⟩ ⟨Nat.le_of_ble_eq_true rfl, Nat.le_of_ble_eq_true rfl⟩ (Nat.le_of_ble_eq_true rfl) dL_law_12 rfl (fun r h' hq => ?_)
    obtain ⟨rfl, rfl⟩ := hq
    refine a_top (v := .ref 55) rfl ?_
    refine a_astore_n (pc' := 16) (ls' := [(2, .ref 55), (1, .ref 0), (0, .ref 1002)]) dL_law_15 rfl (by decide) rfl rfl ?_
    refine a_heq (h2 := d_h1) rfl ?_
    refine a_iconst (pc' := 17) (v := (1 : Int32)) dL_law_16 rfl (by decide) ?_
    refine a_seq (k := d_h1.length) rfl ?_
    refine a_newarr (pc' := 19) (atype := .long) (kd := 2) (N := 1) (a0 := (1, .inr (.inl (fun _ => 0)))) rfl (by decide) (fun _ => rfl) (a_in5 105 rfl rfl) (by decide) (by decide) (by decide) (Nat.le_of_ble_eq_true rfl) dL_law_17 rfl (Nat.le_of_ble_eq_true rfl) (Nat.le_of_ble_eq_true rfl) ?_
    refine a_top (v := .ref 61) rfl ?_
    refine a_astore_n (pc' := 20) (ls' := [(3, .ref 61), (2, .ref 55), (1, .ref 0), (0, .ref 1002)]) dL_law_19 rfl (by decide) rfl rfl ?_
    refine a_iconst (pc' := 21) (v := (0 : Int32)) dL_law_20 rfl (by decide) ?_
    refine a_istore (pc' := 23) (ls' := [(4, .int (0 : Int32)), (3, .ref 61), (2, .ref 55), (1, .ref 0), (0, .ref 1002)]) dL_law_21 (by decide) rfl rfl ?_
    refine a_heq (h2 := d_h2) rfl ?_
    refine a_forget ?_
    refine a_sub (ls' := [(0, .ref 1002), (1, .ref 0), (2, .ref 55), (3, .ref 61), (4, .int (0 : Int32))]) [4, 3, 2, 1, 0] rfl ?_
    refine a_widen (k := 70) (n := 5200) (Nat.le_of_ble_eq_true rfl) (Nat.le_of_ble_eq_true rfl) ?_
    exact l_law hfl F hr (by rw [hB]; exact Nat.le_refl _) hsc 600 0 d_q0 d_M0 0 70 5200 hf (by decide) (by decide) d_h2 d_h2_ok
  refine key ⟨hx, hb, hml, hown, fun w hw => hts w (a_WS_tbl hw), hlocks, hE⟩ s.heap [] _ ⟨by decide, fun k q h => by simp [a_cw] at h⟩ va_S.rf (fun n hn => by cases hn; rw [hB]; rfl) ?_
  have e9 : ([(0, Value.ref 1002)] : List (Nat × Value)).map (a_lv g) = [(0, .ref b)] := by
    show [(0, Value.ref (a_ad g 1002))] = _
    rw [had]
  rw [e9]
  exact hl
