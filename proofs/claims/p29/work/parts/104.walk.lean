theorem sm_nat : ∀ j, j < 62 → (Int32.ofNat j).toNatClampNeg = j ∧ ¬ Int32.ofNat j < 0 ∧ Int32.ofNat j + Int32.ofInt 1 = Int32.ofNat (j + 1) := by decide +kernel
theorem sm_le : ∀ j, j < 62 → ∀ k, k < 62 → (Int32.ofNat k ≤ Int32.ofNat j → k ≤ j) := by decide +kernel
set_option maxHeartbeats 4000000 in
set_option maxRecDepth 100000 in
theorem c_L_same (l : Launch) (g : a_G) {h : List va_E} {a b n : Nat} {f f2 : d_Z} (hn : n = 61 ∨ n = 25 ∨ n = 14) (hab : a ≠ b) (ha : d_arr h a n 0 f) (hb : d_arr h b n 0 f2) : a_CT l g yL_same cL_same 3 none (a_rm 0 0) [.ref a, .ref b] h none none (fun r h' => r = none ∧ d_arr h' a n 0 f2 ∧ d_frm a 1 h h') := by
  refine a_enter ⟨by decide, rfl, Nat.le_of_ble_eq_true rfl⟩ (fun p e s m args below meth c hr hin => ?_)
  refine a_iconst (pc' := 1) (v := (0 : Int32)) dL_same_0 rfl (by decide) ?_
  refine a_istore_n (pc' := 2) (ls' := [(2, .int (0 : Int32)), (0, .ref a), (1, .ref b)]) dL_same_1 rfl (by decide) rfl rfl ?_
  have key : ∀ (d j : Nat) (f1 : d_Z) (h1 : List va_E), j + d = n → (∀ k, k < j → f1 k = f2 k) → d_arr h1 a n 0 f1 → d_arr h1 b n 0 f2 → d_frm a 1 h h1 → a_W p l e (a_rm 0 0) s m args below meth c (MQ below (a_Q g none (fun r h' => r = none ∧ d_arr h' a n 0 f2 ∧ d_frm a 1 h h')) args s (a_rm 0 0).cells (a_rm 0 0).slots (a_A g)) RL cL_same 3 g 0 0 none 2 [(2, .int (Int32.ofNat j)), (0, .ref a), (1, .ref b)] [] h1 := by
    intro d
    induction d with
    | zero =>
      intro j f1 h1 hj hk h2 h3 hfr
      refine a_iload_n (pc' := 3) 0 dL_same_2 rfl rfl rfl ?_
      refine a_aload_n (pc' := 4) 2 dL_same_3 rfl rfl rfl ?_
      refine b_alen (pc' := 5) (kd := 0) (by decide) h3 dL_same_4 rfl ?_
      refine a_icmp_ge (pc' := 8) 20 dL_same_5 (by decide) rfl (fun _ => ?_) (fun k => ?_)
      · exact a_vret hr ⟨rfl, h2.cg (fun k hk2 => hk k (by omega)), hfr⟩ dL_same_20
      · exact absurd (show Int32.ofNat n ≤ Int32.ofNat j by rw [show j = n by omega]; exact Int32.le_refl _) k
    | succ d ih =>
      intro j f1 h1 hj hk h2 h3 hfr
      have sm := sm_nat j (by omega)
      have hi : vp_in (Int32.ofNat j) n := fun q => by
        rcases q with q | q
        · exact sm.2.1 q
        · rw [sm.1] at q; omega
      refine a_iload_n (pc' := 3) 0 dL_same_2 rfl rfl rfl ?_
      refine a_aload_n (pc' := 4) 2 dL_same_3 rfl rfl rfl ?_
      refine b_alen (pc' := 5) (kd := 0) (by decide) h3 dL_same_4 rfl ?_
      refine a_icmp_ge (pc' := 8) 20 dL_same_5 (by decide) rfl (fun k => ?_) (fun _ => ?_)
      · exact absurd (sm_le j (by omega) n (by omega) k) (by omega)
      refine a_aload_n (pc' := 9) 1 dL_same_8 rfl rfl rfl ?_
      refine a_iload_n (pc' := 10) 0 dL_same_9 rfl rfl rfl ?_
      refine a_aload_n (pc' := 11) 2 dL_same_10 rfl rfl rfl ?_
      refine a_iload_n (pc' := 12) 0 dL_same_11 rfl rfl rfl ?_
      refine b_iald (pc' := 13) h3 hi dL_same_12 rfl ?_
      refine b_iast (pc' := 14) h2 hi dL_same_13 rfl (fun h4 h5 h6 => ?_)
      refine a_iinc (pc' := 17) (v := Int32.ofNat (j + 1)) (ls' := [(2, .int (Int32.ofNat (j + 1))), (0, .ref a), (1, .ref b)]) 0 dL_same_14 rfl sm.2.2 (by decide) rfl rfl ?_
      refine a_goto 2 dL_same_17 (by decide) ?_
      rw [sm.1] at h5
      refine ih (j + 1) _ h4 (by omega) (fun k hk2 => ?_) h5 (h3.k1 h6 hab.symm) (d_frm.tr hfr h6 (by omega))
      unfold upd
      by_cases e : k = j
      · rw [if_pos e, e]
      · rw [if_neg e]; exact hk k (by omega)
  exact key n 0 f h (by omega) (fun k hk => absurd hk (Nat.not_lt_zero k)) ha hb d_frm.rf

set_option maxRecDepth 100000 in
def f_L_cell (F : Nat) (L : Nat) (xs : Nat → Int32) (a1 : Int32) : Option (Int32) := (if (Int32.ofNat L) ≤ a1 then some (((264347078 : Int32)) * (a1 + ((1 : Int32)))) else f_grd a1 L (some (xs a1.toNatClampNeg)))
set_option maxHeartbeats 4000000 in
set_option maxRecDepth 100000 in
theorem c_L_cell (l : Launch) (g : a_G) (F : Nat) {h : List va_E} {L : Nat} {xs : Nat → Int32} {a1 : Int32} (hsc : a_SC g L xs) {out : Int32} (hf : f_L_cell F L xs a1 = some out) : a_CT l g yL_cell cL_cell 2 (some .int) (a_rm 0 0) [.ref 1002, .int a1] h none none (fun r h' => r = some (.int out) ∧ h' = h) := by
  refine a_enter ⟨by decide, rfl, Nat.le_of_ble_eq_true rfl⟩ (fun p e s m args below meth c hr hin => ?_)
  unfold f_L_cell at hf
  refine a_sub (ls' := [(0, .ref 1002), (1, .int a1)]) [0, 1] rfl ?_
  refine a_iload_n (pc' := 1) 1 dL_cell_0 rfl rfl rfl ?_
  refine a_aload_n (pc' := 2) 0 dL_cell_1 rfl rfl rfl ?_
  refine b_slen (pc' := 3) hsc dL_cell_2 rfl ?_
  refine a_icmp_ge (pc' := 6) 12 dL_cell_3 (by decide) rfl (fun k1 => ?_) (fun k1 => ?_)
  · replace hf := (if_pos k1).symm.trans hf
    refine a_ldc (pc' := 14) (v := (264347078 : Int32)) (a_in2 72 rfl rfl) dL_cell_12 rfl ?_
    refine a_iload_n (pc' := 15) 1 dL_cell_14 rfl rfl rfl ?_
    refine a_iconst (pc' := 16) (v := (1 : Int32)) dL_cell_15 rfl (by decide) ?_
    refine a_iadd (pc' := 17) dL_cell_16 rfl ?_
    refine a_imul (pc' := 18) dL_cell_17 rfl ?_
    cases hf
    exact a_iret hr ⟨rfl, rfl⟩ dL_cell_18
  · replace hf := (if_neg k1).symm.trans hf
    refine a_aload_n (pc' := 7) 0 dL_cell_6 rfl rfl rfl ?_
    refine a_iload_n (pc' := 8) 1 dL_cell_7 rfl rfl rfl ?_
    obtain ⟨hg, hf⟩ := f_grd_x hf
    refine b_sld (pc' := 9) hsc hg dL_cell_8 rfl ?_
    refine a_goto 18 dL_cell_9 (by decide) ?_
    cases hf
    exact a_iret hr ⟨rfl, rfl⟩ dL_cell_18
/-! SlateRoofLaw.at(II)I -/
set_option maxRecDepth 100000 in
def f_L_at (F : Nat) (a1 : Int32) (a2 : Int32) : Option (Int32) := f_if (¬ a2 = 0) (some (((a1.toUInt32 >>> (((1 : Int32)).toUInt32 &&& Int32.toUInt32 31)).toInt32) - ((a1.toUInt32 >>> (((1 : Int32)).toUInt32 &&& Int32.toUInt32 31)).toInt32) / a2 * a2))
set_option maxHeartbeats 4000000 in
set_option maxRecDepth 100000 in
theorem c_L_at (l : Launch) (g : a_G) (F : Nat) {h : List va_E} {a1 : Int32} {a2 : Int32} {out : Int32} (hf : f_L_at F a1 a2 = some out) : a_CT l g yL_at cL_at 2 (some .int) (a_rm 0 0) [.int a1, .int a2] h none none (fun r h' => r = some (.int out) ∧ h' = h) := by
  refine a_enter ⟨by decide, rfl, Nat.le_of_ble_eq_true rfl⟩ (fun p e s m args below meth c hr hin => ?_)
  unfold f_L_at at hf
  refine a_sub (ls' := [(0, .int a1), (1, .int a2)]) [0, 1] rfl ?_
  refine a_iload_n (pc' := 1) 0 dL_at_0 rfl rfl rfl ?_
  refine a_iconst (pc' := 2) (v := (1 : Int32)) dL_at_1 rfl (by decide) ?_
  refine a_iushr (pc' := 3) dL_at_2 rfl ?_
  refine a_iload_n (pc' := 4) 1 dL_at_3 rfl rfl rfl ?_
  obtain ⟨hg, hf⟩ := f_if_x hf
  refine a_irem (pc' := 5) dL_at_4 rfl hg ?_
  cases hf
  exact a_iret hr ⟨rfl, rfl⟩ dL_at_5
/-! SlateRoofLaw.places(I[I)I -/
set_option maxRecDepth 100000 in
def f_L_places (F : Nat) (u : d_W) (a1 : Int32) : Option (Int32) := f_grd ((1 : Int32)) 14 (some ((u.2.2.2.2 ((1 : Int32)).toNatClampNeg) + (a1 - a1 / ((2 : Int32)) * ((2 : Int32)))))
set_option maxHeartbeats 4000000 in
set_option maxRecDepth 100000 in
theorem c_L_places (l : Launch) (g : a_G) (F : Nat) {h : List va_E} {P : d_P} {u : d_W} {a1 : Int32} (hz : d_lw h P u) {out : Int32} (hf : f_L_places F u a1 = some out) : a_CT l g yL_places cL_places 2 (some .int) (a_rm 0 0) [.int a1, .ref P.2.2.2.2] h none none (fun r h' => r = some (.int out) ∧ h' = h) := by
  refine a_enter ⟨by decide, rfl, Nat.le_of_ble_eq_true rfl⟩ (fun p e s m args below meth c hr hin => ?_)
  unfold f_L_places at hf
  refine a_sub (ls' := [(0, .int a1), (1, .ref P.2.2.2.2)]) [0, 1] rfl ?_
  refine a_aload_n (pc' := 1) 1 dL_places_0 rfl rfl rfl ?_
  refine a_iconst (pc' := 2) (v := (1 : Int32)) dL_places_1 rfl (by decide) ?_
  obtain ⟨hg, hf⟩ := f_grd_x hf
  refine b_iald (pc' := 3) hz.2.2.2.2.2 hg dL_places_2 rfl ?_
  refine a_iload_n (pc' := 4) 0 dL_places_3 rfl rfl rfl ?_
  refine a_iconst (pc' := 5) (v := (2 : Int32)) dL_places_4 rfl (by decide) ?_
  refine a_irem (pc' := 6) dL_places_5 rfl (by decide) ?_
  refine a_iadd (pc' := 7) dL_places_6 rfl ?_
  cases hf
  exact a_iret hr ⟨rfl, rfl⟩ dL_places_7
/-! SlateRoofLaw.full(I[I)I -/
set_option maxRecDepth 100000 in
def f_L_full (F : Nat) (u : d_W) (a1 : Int32) : Option (Int32) := (f_L_places F u a1).bind fun x2 => (if x2 = ((31 : Int32)) then some ((2147483647 : Int32)) else (f_L_places F u a1).bind fun x5 => some ((((1 : Int32)) <<< (x5 &&& 31)) - ((1 : Int32))))
set_option maxHeartbeats 4000000 in
set_option maxRecDepth 100000 in
theorem c_L_full (l : Launch) (g : a_G) (F : Nat) {h : List va_E} {P : d_P} {u : d_W} {a1 : Int32} (hz : d_lw h P u) {out : Int32} (hf : f_L_full F u a1 = some out) : a_CT l g yL_full cL_full 2 (some .int) (a_rm 1 21) [.int a1, .ref P.2.2.2.2] h none none (fun r h' => r = some (.int out) ∧ h' = h) := by
  refine a_enter ⟨by decide, rfl, Nat.le_of_ble_eq_true rfl⟩ (fun p e s m args below meth c hr hin => ?_)
  unfold f_L_full at hf
  refine a_sub (ls' := [(0, .int a1), (1, .ref P.2.2.2.2)]) [0, 1] rfl ?_
  refine a_iload_n (pc' := 1) 0 dL_full_0 rfl rfl rfl ?_
  refine a_aload_n (pc' := 2) 1 dL_full_1 rfl rfl rfl ?_
  obtain ⟨x2, e1, hf⟩ := Option.bind_eq_some_iff.mp hf
  refine k_L_8 (pc' := 5) (c_L_places l g F hz e1) ⟨Nat.le_of_ble_eq_true rfl, Nat.le_of_ble_eq_true rfl⟩ (Nat.le_of_ble_eq_true rfl) dL_full_2 rfl ?_
  refine a_bipush (pc' := 7) (v := (31 : Int32)) dL_full_5 rfl (by decide) ?_
  refine a_icmp_ne (pc' := 10) 15 dL_full_7 (by decide) rfl (fun k3 => ?_) (fun k3 => ?_)
  · replace hf := (if_neg k3).symm.trans hf
    refine a_iconst (pc' := 16) (v := (1 : Int32)) dL_full_15 rfl (by decide) ?_
    refine a_iload_n (pc' := 17) 0 dL_full_16 rfl rfl rfl ?_
    refine a_aload_n (pc' := 18) 1 dL_full_17 rfl rfl rfl ?_
    obtain ⟨x5, e4, hf⟩ := Option.bind_eq_some_iff.mp hf
    refine k_L_8 (pc' := 21) (c_L_places l g F hz e4) ⟨Nat.le_of_ble_eq_true rfl, Nat.le_of_ble_eq_true rfl⟩ (Nat.le_of_ble_eq_true rfl) dL_full_18 rfl ?_
    refine a_ishl (pc' := 22) dL_full_21 rfl ?_
    refine a_iconst (pc' := 23) (v := (1 : Int32)) dL_full_22 rfl (by decide) ?_
    refine a_isub (pc' := 24) dL_full_23 rfl ?_
    cases hf
    exact a_iret hr ⟨rfl, rfl⟩ dL_full_24
  · replace hf := (if_pos k3).symm.trans hf
    refine a_ldc (pc' := 12) (v := (2147483647 : Int32)) (a_in2 170 rfl rfl) dL_full_10 rfl ?_
    refine a_goto 24 dL_full_12 (by decide) ?_
    cases hf
    exact a_iret hr ⟨rfl, rfl⟩ dL_full_24
/-! SlateRoofLaw.ones(I)I -/
set_option maxRecDepth 100000 in
def f_L_ones_L4 (F : Nat) (a1 : Int32) : Nat → Int32 → Int32 → Option (Int32 × Int32)
  | 0, _, _ => none
  | n + 1, v1_4, v2_4 => (if ((31 : Int32)) ≤ v2_4 then some (v1_4, v2_4) else f_L_ones_L4 F a1 n (v1_4 + ((a1 >>> (v2_4 &&& 31)) &&& ((1 : Int32)))) (v2_4 + (1 : Int32)))
set_option maxRecDepth 100000 in
def f_L_ones (F : Nat) (a1 : Int32) : Option (Int32) := (f_L_ones_L4 F a1 F ((0 : Int32)) ((0 : Int32))).bind fun o1 => some (o1.1)
set_option maxHeartbeats 4000000 in
set_option maxRecDepth 100000 in
theorem l_L_ones_L4 {p : Program} {l : Launch} {e : Env} {s : State} {m : MethodId} {args : Array Value} {below : List Frame} {meth : Method} {c : Code} {Q : State → Prop} {g : a_G} (F : Nat) {h : List va_E} (a1 : Int32) : ∀ (n : Nat) (v1_4 : Int32) (v2_4 : Int32) (o : Int32 × Int32), f_L_ones_L4 F a1 n v1_4 v2_4 = some o → (∀ e9 : Int32 × Int32, o = e9 → a_W p l e (a_rm 0 0) s m args below meth c Q RL cL_ones 3 g 0 0 none 24 [(1, .int e9.1)] [] h) → a_W p l e (a_rm 0 0) s m args below meth c Q RL cL_ones 3 g 0 0 none 4 [(0, .int a1), (1, .int v1_4), (2, .int v2_4)] [] h := by
  intro n
  induction n with
  | zero => intro v1_4 v2_4 o hf; exact nomatch (show (none : Option (Int32 × Int32)) = some o from hf)
  | succ n ih =>
    intro v1_4 v2_4 o hf hX0
    rw [f_L_ones_L4] at hf
    refine a_iload_n (pc' := 5) 2 dL_ones_4 rfl rfl rfl ?_
    refine a_bipush (pc' := 7) (v := (31 : Int32)) dL_ones_5 rfl (by decide) ?_
    refine a_icmp_ge (pc' := 10) 24 dL_ones_7 (by decide) rfl (fun k5001 => ?_) (fun k5001 => ?_)
    · replace hf := (if_pos k5001).symm.trans hf
      cases hf
      refine a_sub [1] rfl ?_
      exact hX0 _ rfl
    · replace hf := (if_neg k5001).symm.trans hf
      refine a_iload_n (pc' := 11) 1 dL_ones_10 rfl rfl rfl ?_
      refine a_iload_n (pc' := 12) 0 dL_ones_11 rfl rfl rfl ?_
      refine a_iload_n (pc' := 13) 2 dL_ones_12 rfl rfl rfl ?_
      refine a_ishr (pc' := 14) dL_ones_13 rfl ?_
      refine a_iconst (pc' := 15) (v := (1 : Int32)) dL_ones_14 rfl (by decide) ?_
      refine a_iand (pc' := 16) dL_ones_15 rfl ?_
      refine a_iadd (pc' := 17) dL_ones_16 rfl ?_
      refine a_istore_n (pc' := 18) (ls' := [(1, .int (v1_4 + ((a1 >>> (v2_4 &&& 31)) &&& ((1 : Int32))))), (0, .int a1), (2, .int v2_4)]) dL_ones_17 rfl (by decide) rfl rfl ?_
      refine a_iinc (pc' := 21) (v := v2_4 + (1 : Int32)) (ls' := [(2, .int (v2_4 + (1 : Int32))), (1, .int (v1_4 + ((a1 >>> (v2_4 &&& 31)) &&& ((1 : Int32))))), (0, .int a1)]) 2 dL_ones_18 rfl (by rfl) (by decide) rfl rfl ?_
      refine a_goto 4 dL_ones_21 (by decide) ?_
      refine a_sub [2, 1, 0] rfl ?_
      exact ih _ _ _ hf hX0
set_option maxHeartbeats 4000000 in
set_option maxRecDepth 100000 in
theorem c_L_ones (l : Launch) (g : a_G) (F : Nat) {h : List va_E} {a1 : Int32} {out : Int32} (hf : f_L_ones F a1 = some out) : a_CT l g yL_ones cL_ones 3 (some .int) (a_rm 0 0) [.int a1] h none none (fun r h' => r = some (.int out) ∧ h' = h) := by
  refine a_enter ⟨by decide, rfl, Nat.le_of_ble_eq_true rfl⟩ (fun p e s m args below meth c hr hin => ?_)
  unfold f_L_ones at hf
  refine a_sub (ls' := [(0, .int a1)]) [0] rfl ?_
  refine a_iconst (pc' := 1) (v := (0 : Int32)) dL_ones_0 rfl (by decide) ?_
  refine a_istore_n (pc' := 2) (ls' := [(1, .int ((0 : Int32))), (0, .int a1)]) dL_ones_1 rfl (by decide) rfl rfl ?_
  refine a_iconst (pc' := 3) (v := (0 : Int32)) dL_ones_2 rfl (by decide) ?_
  refine a_istore_n (pc' := 4) (ls' := [(2, .int ((0 : Int32))), (1, .int ((0 : Int32))), (0, .int a1)]) dL_ones_3 rfl (by decide) rfl rfl ?_
  obtain ⟨o1, e2, hf⟩ := Option.bind_eq_some_iff.mp hf
  refine a_sub [2, 1, 0] rfl ?_
  refine l_L_ones_L4 F a1  F _ _ o1 e2 (fun e9 he9 => ?_)
  subst he9
  refine a_iload_n (pc' := 25) 0 dL_ones_24 rfl rfl rfl ?_
  cases hf
  exact a_iret hr ⟨rfl, rfl⟩ dL_ones_25
/-! SlateRoofLaw.top(I[I[I)I -/
set_option maxRecDepth 100000 in
def f_L_top_L5 (F : Nat) (u : d_W) (a1 : Int32) : Nat → Int32 → Int32 → Option (Int32 × Int32)
  | 0, _, _ => none
  | n + 1, v3_5, v4_5 => (if a1 ≤ v4_5 then some (v3_5, v4_5) else f_grd v4_5 61 (f_grd ((3 : Int32)) 14 (f_L_top_L5 F u a1 n (v3_5 + (((u.1 v4_5.toNatClampNeg) - (u.2.2.2.2 ((3 : Int32)).toNatClampNeg)) / ((2 : Int32)))) (v4_5 + (1 : Int32)))))
set_option maxRecDepth 100000 in
def f_L_top (F : Nat) (u : d_W) (a1 : Int32) : Option (Int32) := (f_L_top_L5 F u a1 F ((0 : Int32)) ((0 : Int32))).bind fun o1 => some (o1.1)
set_option maxHeartbeats 4000000 in
set_option maxRecDepth 100000 in
theorem l_L_top_L5 {p : Program} {l : Launch} {e : Env} {s : State} {m : MethodId} {args : Array Value} {below : List Frame} {meth : Method} {c : Code} {Q : State → Prop} {g : a_G} (F : Nat) {h : List va_E} {P : d_P} (u : d_W) (a1 : Int32) (hz : d_lw h P u) : ∀ (n : Nat) (v3_5 : Int32) (v4_5 : Int32) (o : Int32 × Int32), f_L_top_L5 F u a1 n v3_5 v4_5 = some o → (∀ e9 : Int32 × Int32, o = e9 → a_W p l e (a_rm 0 0) s m args below meth c Q RL cL_top 5 g 0 0 none 30 [(3, .int e9.1)] [] h) → a_W p l e (a_rm 0 0) s m args below meth c Q RL cL_top 5 g 0 0 none 5 [(0, .int a1), (1, .ref P.1), (2, .ref P.2.2.2.2), (3, .int v3_5), (4, .int v4_5)] [] h := by
  intro n
  induction n with
  | zero => intro v3_5 v4_5 o hf; exact nomatch (show (none : Option (Int32 × Int32)) = some o from hf)
  | succ n ih =>
    intro v3_5 v4_5 o hf hX0
    rw [f_L_top_L5] at hf
    refine a_iload (pc' := 7) 4 dL_top_5 rfl rfl ?_
    refine a_iload_n (pc' := 8) 0 dL_top_7 rfl rfl rfl ?_
    refine a_icmp_ge (pc' := 11) 30 dL_top_8 (by decide) rfl (fun k6001 => ?_) (fun k6001 => ?_)
    · replace hf := (if_pos k6001).symm.trans hf
      cases hf
      refine a_sub [3] rfl ?_
      exact hX0 _ rfl
    · replace hf := (if_neg k6001).symm.trans hf
      refine a_iload_n (pc' := 12) 3 dL_top_11 rfl rfl rfl ?_
      refine a_aload_n (pc' := 13) 1 dL_top_12 rfl rfl rfl ?_
      refine a_iload (pc' := 15) 4 dL_top_13 rfl rfl ?_
      obtain ⟨hg, hf⟩ := f_grd_x hf
      refine b_iald (pc' := 16) hz.2.1 hg dL_top_15 rfl ?_
      refine a_aload_n (pc' := 17) 2 dL_top_16 rfl rfl rfl ?_
      refine a_iconst (pc' := 18) (v := (3 : Int32)) dL_top_17 rfl (by decide) ?_
      obtain ⟨hg, hf⟩ := f_grd_x hf
      refine b_iald (pc' := 19) hz.2.2.2.2.2 hg dL_top_18 rfl ?_
      refine a_isub (pc' := 20) dL_top_19 rfl ?_
      refine a_iconst (pc' := 21) (v := (2 : Int32)) dL_top_20 rfl (by decide) ?_
      refine a_idiv (pc' := 22) dL_top_21 rfl (by decide) ?_
      refine a_iadd (pc' := 23) dL_top_22 rfl ?_
      refine a_istore_n (pc' := 24) (ls' := [(3, .int (v3_5 + (((u.1 v4_5.toNatClampNeg) - (u.2.2.2.2 ((3 : Int32)).toNatClampNeg)) / ((2 : Int32))))), (0, .int a1), (1, .ref P.1), (2, .ref P.2.2.2.2), (4, .int v4_5)]) dL_top_23 rfl (by decide) rfl rfl ?_
      refine a_iinc (pc' := 27) (v := v4_5 + (1 : Int32)) (ls' := [(4, .int (v4_5 + (1 : Int32))), (3, .int (v3_5 + (((u.1 v4_5.toNatClampNeg) - (u.2.2.2.2 ((3 : Int32)).toNatClampNeg)) / ((2 : Int32))))), (0, .int a1), (1, .ref P.1), (2, .ref P.2.2.2.2)]) 4 dL_top_24 rfl (by rfl) (by decide) rfl rfl ?_
      refine a_goto 5 dL_top_27 (by decide) ?_
      refine a_sub [2, 3, 4, 1, 0] rfl ?_
      exact ih _ _ _ hf hX0
set_option maxHeartbeats 4000000 in
set_option maxRecDepth 100000 in
theorem c_L_top (l : Launch) (g : a_G) (F : Nat) {h : List va_E} {P : d_P} {u : d_W} {a1 : Int32} (hz : d_lw h P u) {out : Int32} (hf : f_L_top F u a1 = some out) : a_CT l g yL_top cL_top 5 (some .int) (a_rm 0 0) [.int a1, .ref P.1, .ref P.2.2.2.2] h none none (fun r h' => r = some (.int out) ∧ h' = h) := by
  refine a_enter ⟨by decide, rfl, Nat.le_of_ble_eq_true rfl⟩ (fun p e s m args below meth c hr hin => ?_)
  unfold f_L_top at hf
  refine a_sub (ls' := [(0, .int a1), (1, .ref P.1), (2, .ref P.2.2.2.2)]) [0, 1, 2] rfl ?_
  refine a_iconst (pc' := 1) (v := (0 : Int32)) dL_top_0 rfl (by decide) ?_
  refine a_istore_n (pc' := 2) (ls' := [(3, .int ((0 : Int32))), (0, .int a1), (1, .ref P.1), (2, .ref P.2.2.2.2)]) dL_top_1 rfl (by decide) rfl rfl ?_
  refine a_iconst (pc' := 3) (v := (0 : Int32)) dL_top_2 rfl (by decide) ?_
  refine a_istore (pc' := 5) (ls' := [(4, .int ((0 : Int32))), (3, .int ((0 : Int32))), (0, .int a1), (1, .ref P.1), (2, .ref P.2.2.2.2)]) dL_top_3 (by decide) rfl rfl ?_
  obtain ⟨o1, e2, hf⟩ := Option.bind_eq_some_iff.mp hf
  refine a_sub [2, 3, 4, 1, 0] rfl ?_
  refine l_L_top_L5 F u a1 hz F _ _ o1 e2 (fun e9 he9 => ?_)
  subst he9
  refine a_iload_n (pc' := 31) 0 dL_top_30 rfl rfl rfl ?_
  cases hf
  exact a_iret hr ⟨rfl, rfl⟩ dL_top_31
/-! SlateRoofLaw.lying([I[I)I -/
set_option maxRecDepth 100000 in
def f_L_lying_L4 (F : Nat) (u : d_W) : Nat → Int32 → Int32 → Option (Int32 × Int32)
  | 0, _, _ => none
  | n + 1, v2_4, v3_4 => f_grd ((2 : Int32)) 14 ((if (u.2.2.2.2 ((2 : Int32)).toNatClampNeg) ≤ v3_4 then some (v2_4, v3_4) else f_grd v3_4 61 ((f_L_ones F (u.2.1 v3_4.toNatClampNeg)).bind fun x5003 => f_L_lying_L4 F u n (v2_4 + x5003) (v3_4 + (1 : Int32)))))
set_option maxRecDepth 100000 in
def f_L_lying (F : Nat) (u : d_W) : Option (Int32) := (f_L_lying_L4 F u F ((0 : Int32)) ((0 : Int32))).bind fun o1 => some (o1.1)
set_option maxHeartbeats 4000000 in
set_option maxRecDepth 100000 in
theorem l_L_lying_L4 {p : Program} {l : Launch} {e : Env} {s : State} {m : MethodId} {args : Array Value} {below : List Frame} {meth : Method} {c : Code} {Q : State → Prop} {g : a_G} (F : Nat) {h : List va_E} {P : d_P} (u : d_W) (hz : d_lw h P u) : ∀ (n : Nat) (v2_4 : Int32) (v3_4 : Int32) (o : Int32 × Int32), f_L_lying_L4 F u n v2_4 v3_4 = some o → (∀ e9 : Int32 × Int32, o = e9 → a_W p l e (a_rm 1 22) s m args below meth c Q RL cL_lying 4 g 0 0 none 26 [(2, .int e9.1)] [] h) → a_W p l e (a_rm 1 22) s m args below meth c Q RL cL_lying 4 g 0 0 none 4 [(0, .ref P.2.1), (1, .ref P.2.2.2.2), (2, .int v2_4), (3, .int v3_4)] [] h := by
  intro n
  induction n with
  | zero => intro v2_4 v3_4 o hf; exact nomatch (show (none : Option (Int32 × Int32)) = some o from hf)
  | succ n ih =>
    intro v2_4 v3_4 o hf hX0
    rw [f_L_lying_L4] at hf
    refine a_iload_n (pc' := 5) 3 dL_lying_4 rfl rfl rfl ?_
    refine a_aload_n (pc' := 6) 1 dL_lying_5 rfl rfl rfl ?_
    refine a_iconst (pc' := 7) (v := (2 : Int32)) dL_lying_6 rfl (by decide) ?_
    obtain ⟨hg, hf⟩ := f_grd_x hf
    refine b_iald (pc' := 8) hz.2.2.2.2.2 hg dL_lying_7 rfl ?_
    refine a_icmp_ge (pc' := 11) 26 dL_lying_8 (by decide) rfl (fun k5001 => ?_) (fun k5001 => ?_)
    · replace hf := (if_pos k5001).symm.trans hf
      cases hf
      refine a_sub [2] rfl ?_
      exact hX0 _ rfl
    · replace hf := (if_neg k5001).symm.trans hf
      refine a_iload_n (pc' := 12) 2 dL_lying_11 rfl rfl rfl ?_
      refine a_aload_n (pc' := 13) 0 dL_lying_12 rfl rfl rfl ?_
      refine a_iload_n (pc' := 14) 3 dL_lying_13 rfl rfl rfl ?_
      obtain ⟨hg, hf⟩ := f_grd_x hf
      refine b_iald (pc' := 15) hz.2.2.1 hg dL_lying_14 rfl ?_
      obtain ⟨x5003, e5002, hf⟩ := Option.bind_eq_some_iff.mp hf
      refine k_L_15 (pc' := 18) (c_L_ones l g F e5002) ⟨Nat.le_of_ble_eq_true rfl, Nat.le_of_ble_eq_true rfl⟩ (Nat.le_of_ble_eq_true rfl) dL_lying_15 rfl ?_
      refine a_iadd (pc' := 19) dL_lying_18 rfl ?_
      refine a_istore_n (pc' := 20) (ls' := [(2, .int (v2_4 + x5003)), (0, .ref P.2.1), (1, .ref P.2.2.2.2), (3, .int v3_4)]) dL_lying_19 rfl (by decide) rfl rfl ?_
      refine a_iinc (pc' := 23) (v := v3_4 + (1 : Int32)) (ls' := [(3, .int (v3_4 + (1 : Int32))), (2, .int (v2_4 + x5003)), (0, .ref P.2.1), (1, .ref P.2.2.2.2)]) 3 dL_lying_20 rfl (by rfl) (by decide) rfl rfl ?_
      refine a_goto 4 dL_lying_23 (by decide) ?_
      refine a_sub [2, 3, 1, 0] rfl ?_
      exact ih _ _ _ hf hX0
set_option maxHeartbeats 4000000 in
set_option maxRecDepth 100000 in
theorem c_L_lying (l : Launch) (g : a_G) (F : Nat) {h : List va_E} {P : d_P} {u : d_W} (hz : d_lw h P u) {out : Int32} (hf : f_L_lying F u = some out) : a_CT l g yL_lying cL_lying 4 (some .int) (a_rm 1 22) [.ref P.2.1, .ref P.2.2.2.2] h none none (fun r h' => r = some (.int out) ∧ h' = h) := by
  refine a_enter ⟨by decide, rfl, Nat.le_of_ble_eq_true rfl⟩ (fun p e s m args below meth c hr hin => ?_)
  unfold f_L_lying at hf
  refine a_sub (ls' := [(0, .ref P.2.1), (1, .ref P.2.2.2.2)]) [0, 1] rfl ?_
  refine a_iconst (pc' := 1) (v := (0 : Int32)) dL_lying_0 rfl (by decide) ?_
  refine a_istore_n (pc' := 2) (ls' := [(2, .int ((0 : Int32))), (0, .ref P.2.1), (1, .ref P.2.2.2.2)]) dL_lying_1 rfl (by decide) rfl rfl ?_
  refine a_iconst (pc' := 3) (v := (0 : Int32)) dL_lying_2 rfl (by decide) ?_
  refine a_istore_n (pc' := 4) (ls' := [(3, .int ((0 : Int32))), (2, .int ((0 : Int32))), (0, .ref P.2.1), (1, .ref P.2.2.2.2)]) dL_lying_3 rfl (by decide) rfl rfl ?_
  obtain ⟨o1, e2, hf⟩ := Option.bind_eq_some_iff.mp hf
  refine a_sub [2, 3, 1, 0] rfl ?_
  refine l_L_lying_L4 F u hz F _ _ o1 e2 (fun e9 he9 => ?_)
  subst he9
  refine a_iload_n (pc' := 27) 0 dL_lying_26 rfl rfl rfl ?_
  cases hf
  exact a_iret hr ⟨rfl, rfl⟩ dL_lying_27
/-! SlateRoofLaw.done([I[I[I)Z -/
set_option maxRecDepth 100000 in
def f_L_done_L29 (F : Nat) (u : d_W) : Nat → Int32 → Int32 → Option (Int32 × Int32)
  | 0, _, _ => none
  | n + 1, v3_29, v4_29 => f_grd ((2 : Int32)) 14 ((if (u.2.2.2.2 ((2 : Int32)).toNatClampNeg) ≤ v4_29 then some (v3_29, v4_29) else ((if v3_29 = 0 then some ((0 : Int32)) else f_grd v4_29 61 ((f_L_full F u v4_29).bind fun x30005 => (if (u.2.1 v4_29.toNatClampNeg) = x30005 then some ((1 : Int32)) else some ((0 : Int32)))))).bind fun j30002 => f_L_done_L29 F u n j30002 (v4_29 + (1 : Int32))))
set_option maxRecDepth 100000 in
def f_L_done (F : Nat) (u : d_W) : Option (Int32) := f_grd ((2 : Int32)) 14 (((if (u.2.2.2.2 ((2 : Int32)).toNatClampNeg) ≤ 0 then some ((0 : Int32)) else f_grd ((2 : Int32)) 14 ((f_L_top F u (u.2.2.2.2 ((2 : Int32)).toNatClampNeg)).bind fun x4 => f_grd ((0 : Int32)) 14 ((if x4 < (u.2.2.2.2 ((0 : Int32)).toNatClampNeg) then some ((0 : Int32)) else some ((1 : Int32))))))).bind fun j1 => (f_L_done_L29 F u F j1 ((0 : Int32))).bind fun o6 => f_if (o6.1 = 0 ∨ o6.1 = 1) (some (o6.1)))
set_option maxHeartbeats 4000000 in
set_option maxRecDepth 100000 in
theorem l_L_done_L29 {p : Program} {l : Launch} {e : Env} {s : State} {m : MethodId} {args : Array Value} {below : List Frame} {meth : Method} {c : Code} {Q : State → Prop} {g : a_G} (F : Nat) {h : List va_E} {P : d_P} (u : d_W) (hz : d_lw h P u) : ∀ (n : Nat) (v3_29 : Int32) (v4_29 : Int32) (o : Int32 × Int32), f_L_done_L29 F u n v3_29 v4_29 = some o → (∀ e9 : Int32 × Int32, o = e9 → a_W p l e (a_rm 2 42) s m args below meth c Q RL cL_done 5 g 0 0 none 66 [(3, .int e9.1)] [] h) → a_W p l e (a_rm 2 42) s m args below meth c Q RL cL_done 5 g 0 0 none 29 [(1, .ref P.2.1), (2, .ref P.2.2.2.2), (3, .int v3_29), (4, .int v4_29)] [] h := by
  intro n
  induction n with
  | zero => intro v3_29 v4_29 o hf; exact nomatch (show (none : Option (Int32 × Int32)) = some o from hf)
  | succ n ih =>
    intro v3_29 v4_29 o hf hX0
    rw [f_L_done_L29] at hf
    refine a_iload (pc' := 31) 3 dL_done_29 rfl rfl ?_
    refine a_aload_n (pc' := 32) 1 dL_done_31 rfl rfl rfl ?_
    refine a_iconst (pc' := 33) (v := (2 : Int32)) dL_done_32 rfl (by decide) ?_
    obtain ⟨hg, hf⟩ := f_grd_x hf
    refine b_iald (pc' := 34) hz.2.2.2.2.2 hg dL_done_33 rfl ?_
    refine a_icmp_ge (pc' := 37) 66 dL_done_34 (by decide) rfl (fun k30001 => ?_) (fun k30001 => ?_)
    · replace hf := (if_pos k30001).symm.trans hf
      cases hf
      refine a_sub [2] rfl ?_
      exact hX0 _ rfl
    · replace hf := (if_neg k30001).symm.trans hf
      refine a_iload_n (pc' := 38) 2 dL_done_37 rfl rfl rfl ?_
      refine a_jn (st2 := []) hf 59 (fun j30002 ej30002 hf => ?_) (fun j30002 hf Jj30002 => ?_)
      · refine a_istore_n (pc' := 60) (ls' := [(3, .int j30002), (1, .ref P.2.1), (2, .ref P.2.2.2.2), (4, .int v4_29)]) dL_done_59 rfl (by decide) rfl rfl ?_
        refine a_iinc (pc' := 63) (v := v4_29 + (1 : Int32)) (ls' := [(4, .int (v4_29 + (1 : Int32))), (3, .int j30002), (1, .ref P.2.1), (2, .ref P.2.2.2.2)]) 3 dL_done_60 rfl (by rfl) (by decide) rfl rfl ?_
        refine a_goto 29 dL_done_63 (by decide) ?_
        refine a_sub [2, 3, 1, 0] rfl ?_
        exact ih _ _ _ hf hX0
      · refine a_if_eq (pc' := 41) 58 dL_done_38 (by decide) rfl (fun k30003 => ?_) (fun k30003 => ?_)
        · replace hf := (if_pos k30003).symm.trans hf
          refine a_iconst (pc' := 59) (v := (0 : Int32)) dL_done_58 rfl (by decide) ?_
          cases hf
          exact Jj30002
        · replace hf := (if_neg k30003).symm.trans hf
          refine a_aload_n (pc' := 42) 0 dL_done_41 rfl rfl rfl ?_
          refine a_iload (pc' := 44) 3 dL_done_42 rfl rfl ?_
          obtain ⟨hg, hf⟩ := f_grd_x hf
          refine b_iald (pc' := 45) hz.2.2.1 hg dL_done_44 rfl ?_
          refine a_iload (pc' := 47) 3 dL_done_45 rfl rfl ?_
          refine a_aload_n (pc' := 48) 1 dL_done_47 rfl rfl rfl ?_
          obtain ⟨x30005, e30004, hf⟩ := Option.bind_eq_some_iff.mp hf
          refine k_L_23 (pc' := 51) (c_L_full l g F hz e30004) ⟨Nat.le_of_ble_eq_true rfl, Nat.le_of_ble_eq_true rfl⟩ (Nat.le_of_ble_eq_true rfl) dL_done_48 rfl ?_
          refine a_icmp_ne (pc' := 54) 58 dL_done_51 (by decide) rfl (fun k30006 => ?_) (fun k30006 => ?_)
          · replace hf := (if_neg k30006).symm.trans hf
            refine a_iconst (pc' := 59) (v := (0 : Int32)) dL_done_58 rfl (by decide) ?_
            cases hf
            exact Jj30002
          · replace hf := (if_pos k30006).symm.trans hf
            refine a_iconst (pc' := 55) (v := (1 : Int32)) dL_done_54 rfl (by decide) ?_
            refine a_goto 59 dL_done_55 (by decide) ?_
            cases hf
            exact Jj30002
set_option maxHeartbeats 4000000 in
set_option maxRecDepth 100000 in
theorem c_L_done (l : Launch) (g : a_G) (F : Nat) {h : List va_E} {P : d_P} {u : d_W} (hz : d_lw h P u) {out : Int32} (hf : f_L_done F u = some out) : a_CT l g yL_done cL_done 5 (some .boolean) (a_rm 2 42) [.ref P.1, .ref P.2.1, .ref P.2.2.2.2] h none none (fun r h' => r = some (.int out) ∧ h' = h) := by
  refine a_enter ⟨by decide, rfl, Nat.le_of_ble_eq_true rfl⟩ (fun p e s m args below meth c hr hin => ?_)
  unfold f_L_done at hf
  refine a_sub (ls' := [(0, .ref P.1), (1, .ref P.2.1), (2, .ref P.2.2.2.2)]) [0, 1, 2] rfl ?_
  refine a_aload_n (pc' := 1) 2 dL_done_0 rfl rfl rfl ?_
  refine a_iconst (pc' := 2) (v := (2 : Int32)) dL_done_1 rfl (by decide) ?_
  obtain ⟨hg, hf⟩ := f_grd_x hf
  refine b_iald (pc' := 3) hz.2.2.2.2.2 hg dL_done_2 rfl ?_
  refine a_jn (st2 := []) hf 25 (fun j1 ej1 hf => ?_) (fun j1 hf Jj1 => ?_)
  · refine a_istore_n (pc' := 26) (ls' := [(3, .int j1), (0, .ref P.1), (1, .ref P.2.1), (2, .ref P.2.2.2.2)]) dL_done_25 rfl (by decide) rfl rfl ?_
    refine a_iconst (pc' := 27) (v := (0 : Int32)) dL_done_26 rfl (by decide) ?_
    refine a_istore (pc' := 29) (ls' := [(4, .int ((0 : Int32))), (3, .int j1), (0, .ref P.1), (1, .ref P.2.1), (2, .ref P.2.2.2.2)]) dL_done_27 (by decide) rfl rfl ?_
    obtain ⟨o6, e7, hf⟩ := Option.bind_eq_some_iff.mp hf
    refine a_sub [3, 4, 1, 0] rfl ?_
    refine l_L_done_L29 F u hz F _ _ o6 e7 (fun e9 he9 => ?_)
    subst he9
    refine a_iload_n (pc' := 67) 0 dL_done_66 rfl rfl rfl ?_
    obtain ⟨hg, hf⟩ := f_if_x hf
    cases hf
    exact a_zret hr (b_bool hg) ⟨rfl, rfl⟩ dL_done_67
  · refine a_if_le (pc' := 6) 24 dL_done_3 (by decide) rfl (fun k2 => ?_) (fun k2 => ?_)
    · replace hf := (if_pos k2).symm.trans hf
      refine a_iconst (pc' := 25) (v := (0 : Int32)) dL_done_24 rfl (by decide) ?_
      cases hf
      exact Jj1
    · replace hf := (if_neg k2).symm.trans hf
      refine a_aload_n (pc' := 7) 2 dL_done_6 rfl rfl rfl ?_
      refine a_iconst (pc' := 8) (v := (2 : Int32)) dL_done_7 rfl (by decide) ?_
      obtain ⟨hg, hf⟩ := f_grd_x hf
      refine b_iald (pc' := 9) hz.2.2.2.2.2 hg dL_done_8 rfl ?_
      refine a_aload_n (pc' := 10) 0 dL_done_9 rfl rfl rfl ?_
      refine a_aload_n (pc' := 11) 2 dL_done_10 rfl rfl rfl ?_
      obtain ⟨x4, e3, hf⟩ := Option.bind_eq_some_iff.mp hf
      refine k_L_19 (pc' := 14) (c_L_top l g F hz e3) ⟨Nat.le_of_ble_eq_true rfl, Nat.le_of_ble_eq_true rfl⟩ (Nat.le_of_ble_eq_true rfl) dL_done_11 rfl ?_
      refine a_aload_n (pc' := 15) 2 dL_done_14 rfl rfl rfl ?_
      refine a_iconst (pc' := 16) (v := (0 : Int32)) dL_done_15 rfl (by decide) ?_
      obtain ⟨hg, hf⟩ := f_grd_x hf
      refine b_iald (pc' := 17) hz.2.2.2.2.2 hg dL_done_16 rfl ?_
      refine a_icmp_lt (pc' := 20) 24 dL_done_17 (by decide) rfl (fun k5 => ?_) (fun k5 => ?_)
      · replace hf := (if_pos k5).symm.trans hf
        refine a_iconst (pc' := 25) (v := (0 : Int32)) dL_done_24 rfl (by decide) ?_
        cases hf
        exact Jj1
      · replace hf := (if_neg k5).symm.trans hf
        refine a_iconst (pc' := 21) (v := (1 : Int32)) dL_done_20 rfl (by decide) ?_
        refine a_goto 25 dL_done_21 (by decide) ?_
        cases hf
        exact Jj1
/-! SlateRoofLaw.all([I)I -/
set_option maxRecDepth 100000 in
def f_L_all_L5 (F : Nat) (na : Nat) (f : d_Z) : Nat → Int32 → Int32 → Option (Int32 × Int32)
  | 0, _, _ => none
  | n + 1, v1_5, v2_5 => (if ((25 : Int32)) ≤ v2_5 then some (v1_5, v2_5) else f_grd v2_5 na (f_L_all_L5 F na f n (v1_5 + (f v2_5.toNatClampNeg)) (v2_5 + (1 : Int32))))
set_option maxRecDepth 100000 in
def f_L_all (F : Nat) (na : Nat) (f : d_Z) : Option (Int32) := (f_L_all_L5 F na f F ((0 : Int32)) ((8 : Int32))).bind fun o1 => some (o1.1)
set_option maxHeartbeats 4000000 in
set_option maxRecDepth 100000 in
theorem l_L_all_L5 {p : Program} {l : Launch} {e : Env} {s : State} {m : MethodId} {args : Array Value} {below : List Frame} {meth : Method} {c : Code} {Q : State → Prop} {g : a_G} (F : Nat) {h : List va_E} {a : Nat} (na : Nat) (f : d_Z) (hz : d_arr h a na 0 f) : ∀ (n : Nat) (v1_5 : Int32) (v2_5 : Int32) (o : Int32 × Int32), f_L_all_L5 F na f n v1_5 v2_5 = some o → (∀ e9 : Int32 × Int32, o = e9 → a_W p l e (a_rm 0 0) s m args below meth c Q RL cL_all 3 g 0 0 none 23 [(1, .int e9.1)] [] h) → a_W p l e (a_rm 0 0) s m args below meth c Q RL cL_all 3 g 0 0 none 5 [(0, .ref a), (1, .int v1_5), (2, .int v2_5)] [] h := by
  intro n
  induction n with
  | zero => intro v1_5 v2_5 o hf; exact nomatch (show (none : Option (Int32 × Int32)) = some o from hf)
  | succ n ih =>
    intro v1_5 v2_5 o hf hX0
    rw [f_L_all_L5] at hf
    refine a_iload_n (pc' := 6) 2 dL_all_5 rfl rfl rfl ?_
    refine a_bipush (pc' := 8) (v := (25 : Int32)) dL_all_6 rfl (by decide) ?_
    refine a_icmp_ge (pc' := 11) 23 dL_all_8 (by decide) rfl (fun k6001 => ?_) (fun k6001 => ?_)
    · replace hf := (if_pos k6001).symm.trans hf
      cases hf
      refine a_sub [1] rfl ?_
      exact hX0 _ rfl
    · replace hf := (if_neg k6001).symm.trans hf
      refine a_iload_n (pc' := 12) 1 dL_all_11 rfl rfl rfl ?_
      refine a_aload_n (pc' := 13) 0 dL_all_12 rfl rfl rfl ?_
      refine a_iload_n (pc' := 14) 2 dL_all_13 rfl rfl rfl ?_
      obtain ⟨hg, hf⟩ := f_grd_x hf
      refine b_iald (pc' := 15) hz hg dL_all_14 rfl ?_
      refine a_iadd (pc' := 16) dL_all_15 rfl ?_
      refine a_istore_n (pc' := 17) (ls' := [(1, .int (v1_5 + (f v2_5.toNatClampNeg))), (0, .ref a), (2, .int v2_5)]) dL_all_16 rfl (by decide) rfl rfl ?_
      refine a_iinc (pc' := 20) (v := v2_5 + (1 : Int32)) (ls' := [(2, .int (v2_5 + (1 : Int32))), (1, .int (v1_5 + (f v2_5.toNatClampNeg))), (0, .ref a)]) 2 dL_all_17 rfl (by rfl) (by decide) rfl rfl ?_
      refine a_goto 5 dL_all_20 (by decide) ?_
      refine a_sub [2, 1, 0] rfl ?_
      exact ih _ _ _ hf hX0
set_option maxHeartbeats 4000000 in
set_option maxRecDepth 100000 in
theorem c_L_all (l : Launch) (g : a_G) (F : Nat) {h : List va_E} {a : Nat} {na : Nat} {f : d_Z} (hz : d_arr h a na 0 f) {out : Int32} (hf : f_L_all F na f = some out) : a_CT l g yL_all cL_all 3 (some .int) (a_rm 0 0) [.ref a] h none none (fun r h' => r = some (.int out) ∧ h' = h) := by
  refine a_enter ⟨by decide, rfl, Nat.le_of_ble_eq_true rfl⟩ (fun p e s m args below meth c hr hin => ?_)
  unfold f_L_all at hf
  refine a_sub (ls' := [(0, .ref a)]) [0] rfl ?_
  refine a_iconst (pc' := 1) (v := (0 : Int32)) dL_all_0 rfl (by decide) ?_
  refine a_istore_n (pc' := 2) (ls' := [(1, .int ((0 : Int32))), (0, .ref a)]) dL_all_1 rfl (by decide) rfl rfl ?_
  refine a_bipush (pc' := 4) (v := (8 : Int32)) dL_all_2 rfl (by decide) ?_
  refine a_istore_n (pc' := 5) (ls' := [(2, .int ((8 : Int32))), (1, .int ((0 : Int32))), (0, .ref a)]) dL_all_4 rfl (by decide) rfl rfl ?_
  obtain ⟨o1, e2, hf⟩ := Option.bind_eq_some_iff.mp hf
  refine a_sub [2, 1, 0] rfl ?_
  refine l_L_all_L5 F na f hz F _ _ o1 e2 (fun e9 he9 => ?_)
  subst he9
  refine a_iload_n (pc' := 24) 0 dL_all_23 rfl rfl rfl ?_
  cases hf
  exact a_iret hr ⟨rfl, rfl⟩ dL_all_24
/-! SlateRoofLaw.longest([I[I)I -/
set_option maxRecDepth 100000 in
def f_L_longest (F : Nat) (u : d_W) : Option (Int32) := f_grd ((2 : Int32)) 14 ((if (u.2.2.2.2 ((2 : Int32)).toNatClampNeg) = 0 then some ((24 : Int32)) else f_grd ((2 : Int32)) 14 (f_grd ((u.2.2.2.2 ((2 : Int32)).toNatClampNeg) - ((1 : Int32))) 61 (some (u.1 ((u.2.2.2.2 ((2 : Int32)).toNatClampNeg) - ((1 : Int32))).toNatClampNeg)))))
set_option maxHeartbeats 4000000 in
set_option maxRecDepth 100000 in
theorem c_L_longest (l : Launch) (g : a_G) (F : Nat) {h : List va_E} {P : d_P} {u : d_W} (hz : d_lw h P u) {out : Int32} (hf : f_L_longest F u = some out) : a_CT l g yL_longest cL_longest 2 (some .int) (a_rm 0 0) [.ref P.1, .ref P.2.2.2.2] h none none (fun r h' => r = some (.int out) ∧ h' = h) := by
  refine a_enter ⟨by decide, rfl, Nat.le_of_ble_eq_true rfl⟩ (fun p e s m args below meth c hr hin => ?_)
  unfold f_L_longest at hf
  refine a_sub (ls' := [(0, .ref P.1), (1, .ref P.2.2.2.2)]) [0, 1] rfl ?_
  refine a_aload_n (pc' := 1) 1 dL_longest_0 rfl rfl rfl ?_
  refine a_iconst (pc' := 2) (v := (2 : Int32)) dL_longest_1 rfl (by decide) ?_
  obtain ⟨hg, hf⟩ := f_grd_x hf
  refine b_iald (pc' := 3) hz.2.2.2.2.2 hg dL_longest_2 rfl ?_
  refine a_if_ne (pc' := 6) 11 dL_longest_3 (by decide) rfl (fun k1 => ?_) (fun k1 => ?_)
  · replace hf := (if_neg k1).symm.trans hf
    refine a_aload_n (pc' := 12) 0 dL_longest_11 rfl rfl rfl ?_
    refine a_aload_n (pc' := 13) 1 dL_longest_12 rfl rfl rfl ?_
    refine a_iconst (pc' := 14) (v := (2 : Int32)) dL_longest_13 rfl (by decide) ?_
    obtain ⟨hg, hf⟩ := f_grd_x hf
    refine b_iald (pc' := 15) hz.2.2.2.2.2 hg dL_longest_14 rfl ?_
    refine a_iconst (pc' := 16) (v := (1 : Int32)) dL_longest_15 rfl (by decide) ?_
    refine a_isub (pc' := 17) dL_longest_16 rfl ?_
    obtain ⟨hg, hf⟩ := f_grd_x hf
    refine b_iald (pc' := 18) hz.2.1 hg dL_longest_17 rfl ?_
    cases hf
    exact a_iret hr ⟨rfl, rfl⟩ dL_longest_18
  · replace hf := (if_pos k1).symm.trans hf
    refine a_bipush (pc' := 8) (v := (24 : Int32)) dL_longest_6 rfl (by decide) ?_
    refine a_goto 18 dL_longest_8 (by decide) ?_
    cases hf
    exact a_iret hr ⟨rfl, rfl⟩ dL_longest_18
/-! SlateRoofLaw.gap(I[I[I)I -/
set_option maxRecDepth 100000 in
def f_L_gap_L2 (F : Nat) (u : d_W) (a1 : Int32) : Nat → Int32 → Option ((Int32) ⊕ (Int32))
  | 0, _ => none
  | n + 1, v3_2 => (f_L_places F u a1).bind fun x3002 => (if x3002 ≤ v3_2 then some (.inl (v3_2)) else f_grd a1 61 ((if (((u.2.1 a1.toNatClampNeg) >>> (v3_2 &&& 31)) &&& ((1 : Int32))) = 0 then some (.inr ((v3_2))) else f_L_gap_L2 F u a1 n (v3_2 + (1 : Int32)))))
set_option maxRecDepth 100000 in
def f_L_gap (F : Nat) (u : d_W) (a1 : Int32) : Option (Int32) := (f_L_gap_L2 F u a1 F ((0 : Int32))).bind (fun w9 => Sum.elim (fun w3 => some ((-1 : Int32))) (fun w4 => some (w4)) w9)
set_option maxHeartbeats 4000000 in
set_option maxRecDepth 100000 in
theorem l_L_gap_L2 {p : Program} {l : Launch} {e : Env} {s : State} {m : MethodId} {args : Array Value} {below : List Frame} {meth : Method} {c : Code} {Q : State → Prop} {g : a_G} (F : Nat) {h : List va_E} {P : d_P} (u : d_W) (a1 : Int32) (hz : d_lw h P u) : ∀ (n : Nat) (v3_2 : Int32) (o : (Int32) ⊕ (Int32)), f_L_gap_L2 F u a1 n v3_2 = some o → (∀ e9 : Int32, o = .inl e9 → a_W p l e (a_rm 1 21) s m args below meth c Q RL cL_gap 4 g 0 0 none 29 [] [] h) → (∀ e9 : Int32, o = .inr (e9) → a_W p l e (a_rm 1 21) s m args below meth c Q RL cL_gap 4 g 0 0 none 21 [(3, .int e9)] [] h) → a_W p l e (a_rm 1 21) s m args below meth c Q RL cL_gap 4 g 0 0 none 2 [(0, .int a1), (1, .ref P.2.1), (2, .ref P.2.2.2.2), (3, .int v3_2)] [] h := by
  intro n
  induction n with
  | zero => intro v3_2 o hf; exact nomatch (show (none : Option ((Int32) ⊕ (Int32))) = some o from hf)
  | succ n ih =>
    intro v3_2 o hf hX0 hX1
    rw [f_L_gap_L2] at hf
    refine a_iload_n (pc' := 3) 3 dL_gap_2 rfl rfl rfl ?_
    refine a_iload_n (pc' := 4) 0 dL_gap_3 rfl rfl rfl ?_
    refine a_aload_n (pc' := 5) 2 dL_gap_4 rfl rfl rfl ?_
    obtain ⟨x3002, e3001, hf⟩ := Option.bind_eq_some_iff.mp hf
    refine k_L_8 (pc' := 8) (c_L_places l g F hz e3001) ⟨Nat.le_of_ble_eq_true rfl, Nat.le_of_ble_eq_true rfl⟩ (Nat.le_of_ble_eq_true rfl) dL_gap_5 rfl ?_
    refine a_icmp_ge (pc' := 11) 29 dL_gap_8 (by decide) rfl (fun k3003 => ?_) (fun k3003 => ?_)
    · replace hf := (if_pos k3003).symm.trans hf
      cases hf
      refine a_sub [] rfl ?_
      exact hX0 _ rfl
    · replace hf := (if_neg k3003).symm.trans hf
      refine a_aload_n (pc' := 12) 1 dL_gap_11 rfl rfl rfl ?_
      refine a_iload_n (pc' := 13) 0 dL_gap_12 rfl rfl rfl ?_
      obtain ⟨hg, hf⟩ := f_grd_x hf
      refine b_iald (pc' := 14) hz.2.2.1 hg dL_gap_13 rfl ?_
      refine a_iload_n (pc' := 15) 3 dL_gap_14 rfl rfl rfl ?_
      refine a_ishr (pc' := 16) dL_gap_15 rfl ?_
      refine a_iconst (pc' := 17) (v := (1 : Int32)) dL_gap_16 rfl (by decide) ?_
      refine a_iand (pc' := 18) dL_gap_17 rfl ?_
      refine a_if_ne (pc' := 21) 23 dL_gap_18 (by decide) rfl (fun k3004 => ?_) (fun k3004 => ?_)
      · replace hf := (if_neg k3004).symm.trans hf
        refine a_iinc (pc' := 26) (v := v3_2 + (1 : Int32)) (ls' := [(3, .int (v3_2 + (1 : Int32))), (0, .int a1), (1, .ref P.2.1), (2, .ref P.2.2.2.2)]) 3 dL_gap_23 rfl (by rfl) (by decide) rfl rfl ?_
        refine a_goto 2 dL_gap_26 (by decide) ?_
        refine a_sub [1, 2, 3, 0] rfl ?_
        exact ih _ _ hf hX0 hX1
      · replace hf := (if_pos k3004).symm.trans hf
        cases hf
        refine a_sub [3] rfl ?_
        exact hX1 _ rfl
set_option maxHeartbeats 4000000 in
set_option maxRecDepth 100000 in
theorem c_L_gap (l : Launch) (g : a_G) (F : Nat) {h : List va_E} {P : d_P} {u : d_W} {a1 : Int32} (hz : d_lw h P u) {out : Int32} (hf : f_L_gap F u a1 = some out) : a_CT l g yL_gap cL_gap 4 (some .int) (a_rm 1 21) [.int a1, .ref P.2.1, .ref P.2.2.2.2] h none none (fun r h' => r = some (.int out) ∧ h' = h) := by
  refine a_enter ⟨by decide, rfl, Nat.le_of_ble_eq_true rfl⟩ (fun p e s m args below meth c hr hin => ?_)
  unfold f_L_gap at hf
  refine a_sub (ls' := [(0, .int a1), (1, .ref P.2.1), (2, .ref P.2.2.2.2)]) [0, 1, 2] rfl ?_
  refine a_iconst (pc' := 1) (v := (0 : Int32)) dL_gap_0 rfl (by decide) ?_
  refine a_istore_n (pc' := 2) (ls' := [(3, .int ((0 : Int32))), (0, .int a1), (1, .ref P.2.1), (2, .ref P.2.2.2.2)]) dL_gap_1 rfl (by decide) rfl rfl ?_
  obtain ⟨o1, e2, hf⟩ := Option.bind_eq_some_iff.mp hf
  refine a_sub [1, 2, 3, 0] rfl ?_
  refine l_L_gap_L2 F u a1 hz F _ o1 e2 (fun w3 he9 => ?_) (fun w4 he9 => ?_)
  · subst he9
    simp only [Sum.elim_inl, Sum.elim_inr] at hf
    refine a_iconst (pc' := 30) (v := (-1 : Int32)) dL_gap_29 rfl (by decide) ?_
    cases hf
    exact a_iret hr ⟨rfl, rfl⟩ dL_gap_30
  · subst he9
    simp only [Sum.elim_inl, Sum.elim_inr] at hf
    refine a_iload_n (pc' := 22) 0 dL_gap_21 rfl rfl rfl ?_
    cases hf
    exact a_iret hr ⟨rfl, rfl⟩ dL_gap_22
/-! SlateRoofLaw.fallen(II[I[I[I[I)I -/
set_option maxRecDepth 100000 in
def f_L_fallen_L6 (F : Nat) (a1 : Int32) : Nat → Int32 → Int32 → d_W → Option (Int32 × Int32 × d_W)
  | 0, _, _, _ => none
  | n + 1, v6_6, v7_6, u_6 => (f_L_places F u_6 a1).bind fun x7002 => (if x7002 ≤ v7_6 then some (v6_6, v7_6, u_6) else f_grd a1 61 ((if (((u_6.2.1 a1.toNatClampNeg) >>> (v7_6 &&& 31)) &&& ((1 : Int32))) = 0 then f_L_fallen_L6 F a1 n v6_6 (v7_6 + (5 : Int32)) u_6 else f_grd a1 61 (f_grd a1 61 (f_let (u_6.1, upd u_6.2.1 a1.toNatClampNeg ((u_6.2.1 a1.toNatClampNeg) - (((1 : Int32)) <<< (v7_6 &&& 31))), u_6.2.2.1, u_6.2.2.2.1, u_6.2.2.2.2) fun u7006 => f_L_fallen_L6 F a1 n (v6_6 + (1 : Int32)) (v7_6 + (5 : Int32)) u7006)))))
set_option maxRecDepth 100000 in
def f_L_fallen (F : Nat) (u : d_W) (a1 : Int32) (a2 : Int32) : Option (Int32 × d_W) := (f_L_fallen_L6 F a1 F ((0 : Int32)) a2 u).bind fun o1 => f_grd a1 61 (f_grd (o1.2.2.1 a1.toNatClampNeg) 25 (f_grd (o1.2.2.1 a1.toNatClampNeg) 25 (f_let (o1.2.2.1, o1.2.2.2.1, o1.2.2.2.2.1, upd o1.2.2.2.2.2.1 (o1.2.2.1 a1.toNatClampNeg).toNatClampNeg ((o1.2.2.2.2.2.1 (o1.2.2.1 a1.toNatClampNeg).toNatClampNeg) + o1.1), o1.2.2.2.2.2.2) fun u5 => some ((o1.1, u5)))))
set_option maxHeartbeats 4000000 in
set_option maxRecDepth 100000 in
theorem l_L_fallen_L6 {p : Program} {l : Launch} {e : Env} {s : State} {m : MethodId} {args : Array Value} {below : List Frame} {meth : Method} {c : Code} {Q : State → Prop} {g : a_G} (F : Nat) {h : List va_E} {P : d_P} (a1 : Int32) : ∀ (n : Nat) (v6_6 : Int32) (v7_6 : Int32) (u_6 : d_W) (o : Int32 × Int32 × d_W), f_L_fallen_L6 F a1 n v6_6 v7_6 u_6 = some o → (∀ e9 : Int32 × Int32 × d_W, o = e9 → ∀ h1, d_lw h1 P e9.2.2 → d_fw P h h1 → a_W p l e (a_rm 1 21) s m args below meth c Q RL cL_fallen 8 g 0 0 none 50 [(0, .int a1), (2, .ref P.1), (4, .ref P.2.2.2.1), (6, .int e9.1)] [] h1) → ∀ h1, d_lw h1 P u_6 → d_fw P h h1 → a_W p l e (a_rm 1 21) s m args below meth c Q RL cL_fallen 8 g 0 0 none 6 [(0, .int a1), (2, .ref P.1), (3, .ref P.2.1), (4, .ref P.2.2.2.1), (5, .ref P.2.2.2.2), (6, .int v6_6), (7, .int v7_6)] [] h1 := by
  intro n
  induction n with
  | zero => intro v6_6 v7_6 u_6 o hf; exact nomatch (show (none : Option (Int32 × Int32 × d_W)) = some o from hf)
  | succ n ih =>
    intro v6_6 v7_6 u_6 o hf hX0 h1 hz hfr
    rw [f_L_fallen_L6] at hf
    refine a_iload (pc' := 8) 6 dL_fallen_6 rfl rfl ?_
    refine a_iload_n (pc' := 9) 0 dL_fallen_8 rfl rfl rfl ?_
    refine a_aload (pc' := 11) 4 dL_fallen_9 rfl rfl ?_
    obtain ⟨x7002, e7001, hf⟩ := Option.bind_eq_some_iff.mp hf
    refine k_L_8 (pc' := 14) (c_L_places l g F hz e7001) ⟨Nat.le_of_ble_eq_true rfl, Nat.le_of_ble_eq_true rfl⟩ (Nat.le_of_ble_eq_true rfl) dL_fallen_11 rfl ?_
    refine a_icmp_ge (pc' := 17) 50 dL_fallen_14 (by decide) rfl (fun k7003 => ?_) (fun k7003 => ?_)
    · replace hf := (if_pos k7003).symm.trans hf
      cases hf
      refine a_sub [0, 1, 3, 5] rfl ?_
      exact hX0 _ rfl _ hz hfr
    · replace hf := (if_neg k7003).symm.trans hf
      refine a_aload_n (pc' := 18) 2 dL_fallen_17 rfl rfl rfl ?_
      refine a_iload_n (pc' := 19) 0 dL_fallen_18 rfl rfl rfl ?_
      obtain ⟨hg, hf⟩ := f_grd_x hf
      refine b_iald (pc' := 20) hz.2.2.1 hg dL_fallen_19 rfl ?_
      refine a_iload (pc' := 22) 6 dL_fallen_20 rfl rfl ?_
      refine a_ishr (pc' := 23) dL_fallen_22 rfl ?_
      refine a_iconst (pc' := 24) (v := (1 : Int32)) dL_fallen_23 rfl (by decide) ?_
      refine a_iand (pc' := 25) dL_fallen_24 rfl ?_
      refine a_if_ne (pc' := 28) 31 dL_fallen_25 (by decide) rfl (fun k7004 => ?_) (fun k7004 => ?_)
      · replace hf := (if_neg k7004).symm.trans hf
        refine a_aload_n (pc' := 32) 2 dL_fallen_31 rfl rfl rfl ?_
        refine a_iload_n (pc' := 33) 0 dL_fallen_32 rfl rfl rfl ?_
        refine a_dup2 (pc' := 34) dL_fallen_33 rfl rfl rfl ?_
        obtain ⟨hg, hf⟩ := f_grd_x hf
        refine b_iald (pc' := 35) hz.2.2.1 hg dL_fallen_34 rfl ?_
        refine a_iconst (pc' := 36) (v := (1 : Int32)) dL_fallen_35 rfl (by decide) ?_
        refine a_iload (pc' := 38) 6 dL_fallen_36 rfl rfl ?_
        refine a_ishl (pc' := 39) dL_fallen_38 rfl ?_
        refine a_isub (pc' := 40) dL_fallen_39 rfl ?_
        obtain ⟨hg, hf⟩ := f_grd_x hf
        refine b_iast (pc' := 41) hz.2.2.1 hg dL_fallen_40 rfl (fun h7005 hz1 hfr1 => ?_)
        obtain ⟨hz1, hfr1⟩ := d_lw_s1 hz hz1 hfr1
        obtain ⟨u7006, hf, hz⟩ := f_let_x (P := fun w => d_lw h7005 P w) hf hz1
        replace hfr := d_fw.tr hfr hfr1
        refine a_iinc (pc' := 44) (v := v6_6 + (1 : Int32)) (ls' := [(6, .int (v6_6 + (1 : Int32))), (0, .int a1), (2, .ref P.1), (3, .ref P.2.1), (4, .ref P.2.2.2.1), (5, .ref P.2.2.2.2), (7, .int v7_6)]) 5 dL_fallen_41 rfl (by rfl) (by decide) rfl rfl ?_
        refine a_iinc (pc' := 47) (v := v7_6 + (5 : Int32)) (ls' := [(7, .int (v7_6 + (5 : Int32))), (6, .int (v6_6 + (1 : Int32))), (0, .int a1), (2, .ref P.1), (3, .ref P.2.1), (4, .ref P.2.2.2.1), (5, .ref P.2.2.2.2)]) 6 dL_fallen_44 rfl (by rfl) (by decide) rfl rfl ?_
        refine a_goto 6 dL_fallen_47 (by decide) ?_
        refine a_sub [2, 3, 4, 5, 6, 1, 0] rfl ?_
        exact ih _ _ _ _ hf hX0 _ hz hfr
      · replace hf := (if_pos k7004).symm.trans hf
        refine a_goto 44 dL_fallen_28 (by decide) ?_
        refine a_iinc (pc' := 47) (v := v7_6 + (5 : Int32)) (ls' := [(7, .int (v7_6 + (5 : Int32))), (0, .int a1), (2, .ref P.1), (3, .ref P.2.1), (4, .ref P.2.2.2.1), (5, .ref P.2.2.2.2), (6, .int v6_6)]) 6 dL_fallen_44 rfl (by rfl) (by decide) rfl rfl ?_
        refine a_goto 6 dL_fallen_47 (by decide) ?_
        refine a_sub [1, 2, 3, 4, 5, 6, 0] rfl ?_
        exact ih _ _ _ _ hf hX0 _ hz hfr
set_option maxHeartbeats 4000000 in
set_option maxRecDepth 100000 in
theorem c_L_fallen (l : Launch) (g : a_G) (F : Nat) {h : List va_E} {P : d_P} {u : d_W} {a1 : Int32} {a2 : Int32} (hz : d_lw h P u) {out : Int32 × d_W} (hf : f_L_fallen F u a1 a2 = some out) : a_CT l g yL_fallen cL_fallen 8 (some .int) (a_rm 1 21) [.int a1, .int a2, .ref P.1, .ref P.2.1, .ref P.2.2.2.1, .ref P.2.2.2.2] h none none (fun r h' => r = some (.int out.1) ∧ d_lw h' P out.2 ∧ d_fw P h h') := by
  refine a_enter ⟨by decide, rfl, Nat.le_of_ble_eq_true rfl⟩ (fun p e s m args below meth c hr hin => ?_)
  unfold f_L_fallen at hf
  have hfr : d_fw P h h := d_fw.rf
  refine a_sub (ls' := [(0, .int a1), (1, .int a2), (2, .ref P.1), (3, .ref P.2.1), (4, .ref P.2.2.2.1), (5, .ref P.2.2.2.2)]) [0, 1, 2, 3, 4, 5] rfl ?_
  refine a_iconst (pc' := 1) (v := (0 : Int32)) dL_fallen_0 rfl (by decide) ?_
  refine a_istore (pc' := 3) (ls' := [(6, .int ((0 : Int32))), (0, .int a1), (1, .int a2), (2, .ref P.1), (3, .ref P.2.1), (4, .ref P.2.2.2.1), (5, .ref P.2.2.2.2)]) dL_fallen_1 (by decide) rfl rfl ?_
  refine a_iload_n (pc' := 4) 2 dL_fallen_3 rfl rfl rfl ?_
  refine a_istore (pc' := 6) (ls' := [(7, .int a2), (6, .int ((0 : Int32))), (0, .int a1), (1, .int a2), (2, .ref P.1), (3, .ref P.2.1), (4, .ref P.2.2.2.1), (5, .ref P.2.2.2.2)]) dL_fallen_4 (by decide) rfl rfl ?_
  obtain ⟨o1, e2, hf⟩ := Option.bind_eq_some_iff.mp hf
  refine a_sub [2, 4, 5, 6, 7, 1, 0] rfl ?_
  refine l_L_fallen_L6 F a1  F _ _ _ o1 e2 (fun e9 he9 h3 hz hfr => ?_) _ hz hfr
  subst he9
  refine a_aload (pc' := 52) 2 dL_fallen_50 rfl rfl ?_
  refine a_aload_n (pc' := 53) 1 dL_fallen_52 rfl rfl rfl ?_
  refine a_iload_n (pc' := 54) 0 dL_fallen_53 rfl rfl rfl ?_
  obtain ⟨hg, hf⟩ := f_grd_x hf
  refine b_iald (pc' := 55) hz.2.1 hg dL_fallen_54 rfl ?_
  refine a_dup2 (pc' := 56) dL_fallen_55 rfl rfl rfl ?_
  obtain ⟨hg, hf⟩ := f_grd_x hf
  refine b_iald (pc' := 57) hz.2.2.2.2.1 hg dL_fallen_56 rfl ?_
  refine a_iload (pc' := 59) 3 dL_fallen_57 rfl rfl ?_
  refine a_iadd (pc' := 60) dL_fallen_59 rfl ?_
  obtain ⟨hg, hf⟩ := f_grd_x hf
  refine b_iast (pc' := 61) hz.2.2.2.2.1 hg dL_fallen_60 rfl (fun h4 hz1 hfr1 => ?_)
  obtain ⟨hz1, hfr1⟩ := d_lw_s3 hz hz1 hfr1
  obtain ⟨u5, hf, hz⟩ := f_let_x (P := fun w => d_lw h4 P w) hf hz1
  replace hfr := d_fw.tr hfr hfr1
  refine a_iload (pc' := 63) 3 dL_fallen_61 rfl rfl ?_
  cases hf
  exact a_iret hr ⟨rfl, hz, hfr⟩ dL_fallen_63
/-! SlateRoofLaw.day(I[I[I[I[I)I -/
set_option maxRecDepth 100000 in
def f_L_day (F : Nat) (u : d_W) (a1 : Int32) : Option (Int32 × d_W) := f_grd ((6 : Int32)) 14 (f_grd ((6 : Int32)) 14 (f_let (u.1, u.2.1, u.2.2.1, u.2.2.2.1, upd u.2.2.2.2 ((6 : Int32)).toNatClampNeg ((u.2.2.2.2 ((6 : Int32)).toNatClampNeg) + ((1 : Int32)))) fun u2 => ((if a1 ≤ 0 then some ((0 : Int32)) else f_grd ((9 : Int32)) 14 ((if (u2.2.2.2.2 ((9 : Int32)).toNatClampNeg) = 0 then (f_L_done F u2).bind fun x7 => (if x7 = 0 then some ((1 : Int32)) else some ((0 : Int32))) else some ((0 : Int32)))))).bind fun j3 => ((if j3 = 0 then (if a1 = 0 then f_grd ((8 : Int32)) 14 ((if (u2.2.2.2.2 ((8 : Int32)).toNatClampNeg) ≤ 0 then f_grd ((8 : Int32)) 14 (some (u2.2.2.2.2 ((8 : Int32)).toNatClampNeg)) else f_grd ((8 : Int32)) 14 (some ((u2.2.2.2.2 ((8 : Int32)).toNatClampNeg) - ((1 : Int32)))))) else f_grd ((8 : Int32)) 14 (some (u2.2.2.2.2 ((8 : Int32)).toNatClampNeg))) else f_grd ((5 : Int32)) 14 (some (u2.2.2.2.2 ((5 : Int32)).toNatClampNeg)))).bind fun j9 => f_grd ((8 : Int32)) 14 (f_let (u2.1, u2.2.1, u2.2.2.1, u2.2.2.2.1, upd u2.2.2.2.2 ((8 : Int32)).toNatClampNeg j9) fun u14 => f_grd ((4 : Int32)) 14 (f_grd ((7 : Int32)) 14 (f_let (u14.1, u14.2.1, u14.2.2.1, u14.2.2.2.1, upd u14.2.2.2.2 ((7 : Int32)).toNatClampNeg (u14.2.2.2.2 ((4 : Int32)).toNatClampNeg)) fun u16 => (if a1 < ((2 : Int32)) then some (((0 : Int32), u16)) else f_grd ((9 : Int32)) 14 ((if (u16.2.2.2.2 ((9 : Int32)).toNatClampNeg) = ((1 : Int32)) then some (((0 : Int32), u16)) else f_grd ((2 : Int32)) 14 ((if (u16.2.2.2.2 ((2 : Int32)).toNatClampNeg) = 0 then some (((0 : Int32), u16)) else f_grd ((2 : Int32)) 14 (f_grd ((6 : Int32)) 14 ((f_L_fallen F u16 ((u16.2.2.2.2 ((2 : Int32)).toNatClampNeg) - ((1 : Int32))) ((u16.2.2.2.2 ((6 : Int32)).toNatClampNeg) - (u16.2.2.2.2 ((6 : Int32)).toNatClampNeg) / ((5 : Int32)) * ((5 : Int32)))).bind fun x21 => f_let x21.2 fun u23 => f_grd ((2 : Int32)) 14 ((if ((2 : Int32)) ≤ (u23.2.2.2.2 ((2 : Int32)).toNatClampNeg) then f_grd ((2 : Int32)) 14 (f_grd ((6 : Int32)) 14 ((f_L_fallen F u23 ((u23.2.2.2.2 ((2 : Int32)).toNatClampNeg) - ((2 : Int32))) (((u23.2.2.2.2 ((6 : Int32)).toNatClampNeg) + ((2 : Int32))) - ((u23.2.2.2.2 ((6 : Int32)).toNatClampNeg) + ((2 : Int32))) / ((5 : Int32)) * ((5 : Int32)))).bind fun x26 => f_let x26.2 fun u28 => some ((x21.1 + x26.1, u28)))) else some ((x21.1, u23))))))))))))))))
set_option maxHeartbeats 4000000 in
set_option maxRecDepth 100000 in
theorem c_L_day (l : Launch) (g : a_G) (F : Nat) {h : List va_E} {P : d_P} {u : d_W} {a1 : Int32} (hz : d_lw h P u) {out : Int32 × d_W} (hf : f_L_day F u a1 = some out) : a_CT l g yL_day cL_day 7 (some .int) (a_rm 3 66) [.int a1, .ref P.1, .ref P.2.1, .ref P.2.2.2.1, .ref P.2.2.2.2] h none none (fun r h' => r = some (.int out.1) ∧ d_lw h' P out.2 ∧ d_fw P h h') := by
  refine a_enter ⟨by decide, rfl, Nat.le_of_ble_eq_true rfl⟩ (fun p e s m args below meth c hr hin => ?_)
  unfold f_L_day at hf
  have hfr : d_fw P h h := d_fw.rf
  refine a_sub (ls' := [(0, .int a1), (1, .ref P.1), (2, .ref P.2.1), (3, .ref P.2.2.2.1), (4, .ref P.2.2.2.2)]) [0, 1, 2, 3, 4] rfl ?_
  refine a_aload (pc' := 2) 4 dL_day_0 rfl rfl ?_
  refine a_bipush (pc' := 4) (v := (6 : Int32)) dL_day_2 rfl (by decide) ?_
  refine a_dup2 (pc' := 5) dL_day_4 rfl rfl rfl ?_
  obtain ⟨hg, hf⟩ := f_grd_x hf
  refine b_iald (pc' := 6) hz.2.2.2.2.2 hg dL_day_5 rfl ?_
  refine a_iconst (pc' := 7) (v := (1 : Int32)) dL_day_6 rfl (by decide) ?_
  refine a_iadd (pc' := 8) dL_day_7 rfl ?_
  obtain ⟨hg, hf⟩ := f_grd_x hf
  refine b_iast (pc' := 9) hz.2.2.2.2.2 hg dL_day_8 rfl (fun h1 hz1 hfr1 => ?_)
  obtain ⟨hz1, hfr1⟩ := d_lw_s4 hz hz1 hfr1
  obtain ⟨u2, hf, hz⟩ := f_let_x (P := fun w => d_lw h1 P w) hf hz1
  replace hfr := d_fw.tr hfr hfr1
  refine a_iload_n (pc' := 10) 0 dL_day_9 rfl rfl rfl ?_
  refine a_jn (st2 := []) hf 36 (fun j3 ej3 hf => ?_) (fun j3 hf Jj3 => ?_)
  · refine a_istore (pc' := 38) (ls' := [(5, .int j3), (0, .int a1), (1, .ref P.1), (2, .ref P.2.1), (3, .ref P.2.2.2.1), (4, .ref P.2.2.2.2)]) dL_day_36 (by decide) rfl rfl ?_
    refine a_aload (pc' := 40) 5 dL_day_38 rfl rfl ?_
    refine a_bipush (pc' := 42) (v := (8 : Int32)) dL_day_40 rfl (by decide) ?_
    refine a_iload (pc' := 44) 0 dL_day_42 rfl rfl ?_
    refine a_jn (st2 := [.int ((8 : Int32)), .ref P.2.2.2.2]) hf 81 (fun j9 ej9 hf => ?_) (fun j9 hf Jj9 => ?_)
    · obtain ⟨hg, hf⟩ := f_grd_x hf
      refine b_iast (pc' := 82) hz.2.2.2.2.2 hg dL_day_81 rfl (fun h13 hz1 hfr1 => ?_)
      obtain ⟨hz1, hfr1⟩ := d_lw_s4 hz hz1 hfr1
      obtain ⟨u14, hf, hz⟩ := f_let_x (P := fun w => d_lw h13 P w) hf hz1
      replace hfr := d_fw.tr hfr hfr1
      refine a_aload (pc' := 84) 5 dL_day_82 rfl rfl ?_
      refine a_bipush (pc' := 86) (v := (7 : Int32)) dL_day_84 rfl (by decide) ?_
      refine a_aload (pc' := 88) 5 dL_day_86 rfl rfl ?_
      refine a_iconst (pc' := 89) (v := (4 : Int32)) dL_day_88 rfl (by decide) ?_
      obtain ⟨hg, hf⟩ := f_grd_x hf
      refine b_iald (pc' := 90) hz.2.2.2.2.2 hg dL_day_89 rfl ?_
      obtain ⟨hg, hf⟩ := f_grd_x hf
      refine b_iast (pc' := 91) hz.2.2.2.2.2 hg dL_day_90 rfl (fun h15 hz1 hfr1 => ?_)
      obtain ⟨hz1, hfr1⟩ := d_lw_s4 hz hz1 hfr1
      obtain ⟨u16, hf, hz⟩ := f_let_x (P := fun w => d_lw h15 P w) hf hz1
      replace hfr := d_fw.tr hfr hfr1
      refine a_iload_n (pc' := 92) 1 dL_day_91 rfl rfl rfl ?_
      refine a_iconst (pc' := 93) (v := (2 : Int32)) dL_day_92 rfl (by decide) ?_
      refine a_icmp_lt (pc' := 96) 112 dL_day_93 (by decide) rfl (fun k17 => ?_) (fun k17 => ?_)
      · replace hf := (if_pos k17).symm.trans hf
        refine a_iconst (pc' := 113) (v := (0 : Int32)) dL_day_112 rfl (by decide) ?_
        cases hf
        exact a_iret hr ⟨rfl, hz, hfr⟩ dL_day_113
      · replace hf := (if_neg k17).symm.trans hf
        refine a_aload (pc' := 98) 5 dL_day_96 rfl rfl ?_
        refine a_bipush (pc' := 100) (v := (9 : Int32)) dL_day_98 rfl (by decide) ?_
        obtain ⟨hg, hf⟩ := f_grd_x hf
        refine b_iald (pc' := 101) hz.2.2.2.2.2 hg dL_day_100 rfl ?_
        refine a_iconst (pc' := 102) (v := (1 : Int32)) dL_day_101 rfl (by decide) ?_
        refine a_icmp_eq (pc' := 105) 112 dL_day_102 (by decide) rfl (fun k18 => ?_) (fun k18 => ?_)
        · replace hf := (if_pos k18).symm.trans hf
          refine a_iconst (pc' := 113) (v := (0 : Int32)) dL_day_112 rfl (by decide) ?_
          cases hf
          exact a_iret hr ⟨rfl, hz, hfr⟩ dL_day_113
        · replace hf := (if_neg k18).symm.trans hf
          refine a_aload (pc' := 107) 5 dL_day_105 rfl rfl ?_
          refine a_iconst (pc' := 108) (v := (2 : Int32)) dL_day_107 rfl (by decide) ?_
          obtain ⟨hg, hf⟩ := f_grd_x hf
          refine b_iald (pc' := 109) hz.2.2.2.2.2 hg dL_day_108 rfl ?_
          refine a_if_ne (pc' := 112) 114 dL_day_109 (by decide) rfl (fun k19 => ?_) (fun k19 => ?_)
          · replace hf := (if_neg k19).symm.trans hf
            refine a_aload (pc' := 116) 5 dL_day_114 rfl rfl ?_
            refine a_iconst (pc' := 117) (v := (2 : Int32)) dL_day_116 rfl (by decide) ?_
            obtain ⟨hg, hf⟩ := f_grd_x hf
            refine b_iald (pc' := 118) hz.2.2.2.2.2 hg dL_day_117 rfl ?_
            refine a_iconst (pc' := 119) (v := (1 : Int32)) dL_day_118 rfl (by decide) ?_
            refine a_isub (pc' := 120) dL_day_119 rfl ?_
            refine a_aload (pc' := 122) 5 dL_day_120 rfl rfl ?_
            refine a_bipush (pc' := 124) (v := (6 : Int32)) dL_day_122 rfl (by decide) ?_
            obtain ⟨hg, hf⟩ := f_grd_x hf
            refine b_iald (pc' := 125) hz.2.2.2.2.2 hg dL_day_124 rfl ?_
            refine a_iconst (pc' := 126) (v := (5 : Int32)) dL_day_125 rfl (by decide) ?_
            refine a_irem (pc' := 127) dL_day_126 rfl (by decide) ?_
            refine a_aload_n (pc' := 128) 2 dL_day_127 rfl rfl rfl ?_
            refine a_aload_n (pc' := 129) 3 dL_day_128 rfl rfl rfl ?_
            refine a_aload_n (pc' := 130) 4 dL_day_129 rfl rfl rfl ?_
            refine a_aload (pc' := 132) 5 dL_day_130 rfl rfl ?_
            obtain ⟨x21, e20, hf⟩ := Option.bind_eq_some_iff.mp hf
            refine k_L_30 (pc' := 135) (c_L_fallen l g F hz e20) ⟨Nat.le_of_ble_eq_true rfl, Nat.le_of_ble_eq_true rfl⟩ (Nat.le_of_ble_eq_true rfl) dL_day_132 rfl (fun h22 hq => ?_)
            obtain ⟨hz1, hfr1⟩ := hq
            obtain ⟨u23, hf, hz⟩ := f_let_x (P := fun w => d_lw h22 P w) hf hz1
            replace hfr := d_fw.tr hfr hfr1
            refine a_istore (pc' := 137) (ls' := [(6, .int x21.1), (5, .int j3), (0, .int a1), (1, .ref P.1), (2, .ref P.2.1), (3, .ref P.2.2.2.1), (4, .ref P.2.2.2.2)]) dL_day_135 (by decide) rfl rfl ?_
            refine a_aload (pc' := 139) 6 dL_day_137 rfl rfl ?_
            refine a_iconst (pc' := 140) (v := (2 : Int32)) dL_day_139 rfl (by decide) ?_
            obtain ⟨hg, hf⟩ := f_grd_x hf
            refine b_iald (pc' := 141) hz.2.2.2.2.2 hg dL_day_140 rfl ?_
            refine a_iconst (pc' := 142) (v := (2 : Int32)) dL_day_141 rfl (by decide) ?_
            refine a_icmp_ge (pc' := 145) 150 dL_day_142 (by decide) rfl (fun k24 => ?_) (fun k24 => ?_)
            · replace hf := (if_pos k24).symm.trans hf
              refine a_iload (pc' := 152) 0 dL_day_150 rfl rfl ?_
              refine a_aload (pc' := 154) 6 dL_day_152 rfl rfl ?_
              refine a_iconst (pc' := 155) (v := (2 : Int32)) dL_day_154 rfl (by decide) ?_
              obtain ⟨hg, hf⟩ := f_grd_x hf
              refine b_iald (pc' := 156) hz.2.2.2.2.2 hg dL_day_155 rfl ?_
              refine a_iconst (pc' := 157) (v := (2 : Int32)) dL_day_156 rfl (by decide) ?_
              refine a_isub (pc' := 158) dL_day_157 rfl ?_
              refine a_aload (pc' := 160) 6 dL_day_158 rfl rfl ?_
              refine a_bipush (pc' := 162) (v := (6 : Int32)) dL_day_160 rfl (by decide) ?_
              obtain ⟨hg, hf⟩ := f_grd_x hf
              refine b_iald (pc' := 163) hz.2.2.2.2.2 hg dL_day_162 rfl ?_
              refine a_iconst (pc' := 164) (v := (2 : Int32)) dL_day_163 rfl (by decide) ?_
              refine a_iadd (pc' := 165) dL_day_164 rfl ?_
              refine a_iconst (pc' := 166) (v := (5 : Int32)) dL_day_165 rfl (by decide) ?_
              refine a_irem (pc' := 167) dL_day_166 rfl (by decide) ?_
              refine a_aload_n (pc' := 168) 3 dL_day_167 rfl rfl rfl ?_
              refine a_aload_n (pc' := 169) 4 dL_day_168 rfl rfl rfl ?_
              refine a_aload_n (pc' := 170) 5 dL_day_169 rfl rfl rfl ?_
              refine a_aload (pc' := 172) 6 dL_day_170 rfl rfl ?_
              obtain ⟨x26, e25, hf⟩ := Option.bind_eq_some_iff.mp hf
              refine k_L_30 (pc' := 175) (c_L_fallen l g F hz e25) ⟨Nat.le_of_ble_eq_true rfl, Nat.le_of_ble_eq_true rfl⟩ (Nat.le_of_ble_eq_true rfl) dL_day_172 rfl (fun h27 hq => ?_)
              obtain ⟨hz1, hfr1⟩ := hq
              obtain ⟨u28, hf, hz⟩ := f_let_x (P := fun w => d_lw h27 P w) hf hz1
              replace hfr := d_fw.tr hfr hfr1
              refine a_iadd (pc' := 176) dL_day_175 rfl ?_
              cases hf
              exact a_iret hr ⟨rfl, hz, hfr⟩ dL_day_176
            · replace hf := (if_neg k24).symm.trans hf
              refine a_iload (pc' := 147) 0 dL_day_145 rfl rfl ?_
              refine a_goto 176 dL_day_147 (by decide) ?_
              cases hf
              exact a_iret hr ⟨rfl, hz, hfr⟩ dL_day_176
          · replace hf := (if_pos k19).symm.trans hf
            refine a_iconst (pc' := 113) (v := (0 : Int32)) dL_day_112 rfl (by decide) ?_
            cases hf
            exact a_iret hr ⟨rfl, hz, hfr⟩ dL_day_113
    · refine a_if_eq (pc' := 47) 54 dL_day_44 (by decide) rfl (fun k10 => ?_) (fun k10 => ?_)
      · replace hf := (if_pos k10).symm.trans hf
        refine a_iload_n (pc' := 55) 1 dL_day_54 rfl rfl rfl ?_
        refine a_if_ne (pc' := 58) 76 dL_day_55 (by decide) rfl (fun k11 => ?_) (fun k11 => ?_)
        · replace hf := (if_neg k11).symm.trans hf
          refine a_aload (pc' := 78) 5 dL_day_76 rfl rfl ?_
          refine a_bipush (pc' := 80) (v := (8 : Int32)) dL_day_78 rfl (by decide) ?_
          obtain ⟨hg, hf⟩ := f_grd_x hf
          refine b_iald (pc' := 81) hz.2.2.2.2.2 hg dL_day_80 rfl ?_
          cases hf
          exact Jj9
        · replace hf := (if_pos k11).symm.trans hf
          refine a_aload (pc' := 60) 5 dL_day_58 rfl rfl ?_
          refine a_bipush (pc' := 62) (v := (8 : Int32)) dL_day_60 rfl (by decide) ?_
          obtain ⟨hg, hf⟩ := f_grd_x hf
          refine b_iald (pc' := 63) hz.2.2.2.2.2 hg dL_day_62 rfl ?_
          refine a_if_le (pc' := 66) 76 dL_day_63 (by decide) rfl (fun k12 => ?_) (fun k12 => ?_)
          · replace hf := (if_pos k12).symm.trans hf
            refine a_aload (pc' := 78) 5 dL_day_76 rfl rfl ?_
            refine a_bipush (pc' := 80) (v := (8 : Int32)) dL_day_78 rfl (by decide) ?_
            obtain ⟨hg, hf⟩ := f_grd_x hf
            refine b_iald (pc' := 81) hz.2.2.2.2.2 hg dL_day_80 rfl ?_
            cases hf
            exact Jj9
          · replace hf := (if_neg k12).symm.trans hf
            refine a_aload (pc' := 68) 5 dL_day_66 rfl rfl ?_
            refine a_bipush (pc' := 70) (v := (8 : Int32)) dL_day_68 rfl (by decide) ?_
            obtain ⟨hg, hf⟩ := f_grd_x hf
            refine b_iald (pc' := 71) hz.2.2.2.2.2 hg dL_day_70 rfl ?_
            refine a_iconst (pc' := 72) (v := (1 : Int32)) dL_day_71 rfl (by decide) ?_
            refine a_isub (pc' := 73) dL_day_72 rfl ?_
            refine a_goto 81 dL_day_73 (by decide) ?_
            cases hf
            exact Jj9
      · replace hf := (if_neg k10).symm.trans hf
        refine a_aload (pc' := 49) 5 dL_day_47 rfl rfl ?_
        refine a_iconst (pc' := 50) (v := (5 : Int32)) dL_day_49 rfl (by decide) ?_
        obtain ⟨hg, hf⟩ := f_grd_x hf
        refine b_iald (pc' := 51) hz.2.2.2.2.2 hg dL_day_50 rfl ?_
        refine a_goto 81 dL_day_51 (by decide) ?_
        cases hf
        exact Jj9
  · refine a_if_le (pc' := 13) 35 dL_day_10 (by decide) rfl (fun k4 => ?_) (fun k4 => ?_)
    · replace hf := (if_pos k4).symm.trans hf
      refine a_iconst (pc' := 36) (v := (0 : Int32)) dL_day_35 rfl (by decide) ?_
      cases hf
      exact Jj3
    · replace hf := (if_neg k4).symm.trans hf
      refine a_aload (pc' := 15) 4 dL_day_13 rfl rfl ?_
      refine a_bipush (pc' := 17) (v := (9 : Int32)) dL_day_15 rfl (by decide) ?_
      obtain ⟨hg, hf⟩ := f_grd_x hf
      refine b_iald (pc' := 18) hz.2.2.2.2.2 hg dL_day_17 rfl ?_
      refine a_if_ne (pc' := 21) 35 dL_day_18 (by decide) rfl (fun k5 => ?_) (fun k5 => ?_)
      · replace hf := (if_neg k5).symm.trans hf
        refine a_iconst (pc' := 36) (v := (0 : Int32)) dL_day_35 rfl (by decide) ?_
        cases hf
        exact Jj3
      · replace hf := (if_pos k5).symm.trans hf
        refine a_aload_n (pc' := 22) 1 dL_day_21 rfl rfl rfl ?_
        refine a_aload_n (pc' := 23) 2 dL_day_22 rfl rfl rfl ?_
        refine a_aload (pc' := 25) 4 dL_day_23 rfl rfl ?_
        obtain ⟨x7, e6, hf⟩ := Option.bind_eq_some_iff.mp hf
        refine k_L_26 (pc' := 28) (c_L_done l g F hz e6) ⟨Nat.le_of_ble_eq_true rfl, Nat.le_of_ble_eq_true rfl⟩ (Nat.le_of_ble_eq_true rfl) dL_day_25 rfl ?_
        refine a_if_ne (pc' := 31) 35 dL_day_28 (by decide) rfl (fun k8 => ?_) (fun k8 => ?_)
        · replace hf := (if_neg k8).symm.trans hf
          refine a_iconst (pc' := 36) (v := (0 : Int32)) dL_day_35 rfl (by decide) ?_
          cases hf
          exact Jj3
        · replace hf := (if_pos k8).symm.trans hf
          refine a_iconst (pc' := 32) (v := (1 : Int32)) dL_day_31 rfl (by decide) ?_
          refine a_goto 36 dL_day_32 (by decide) ?_
          cases hf
          exact Jj3
/-! SlateRoofLaw.next([I[I[I)I -/
set_option maxRecDepth 100000 in
def f_L_next_L6 (F : Nat) (u : d_W) : Nat → Int32 → Option ((Int32) ⊕ (Int32))
  | 0, _ => none
  | n + 1, v3_6 => (if v3_6 ≤ ((7 : Int32)) then some (.inl (v3_6)) else f_grd v3_6 25 (f_grd ((2 : Int32)) 14 ((f_L_places F u (u.2.2.2.2 ((2 : Int32)).toNatClampNeg)).bind fun x7003 => (if (u.2.2.1 v3_6.toNatClampNeg) < x7003 then f_L_next_L6 F u n (v3_6 + (-1 : Int32)) else some (.inr ((v3_6)))))))
set_option maxRecDepth 100000 in
def f_L_next (F : Nat) (u : d_W) : Option (Int32) := (f_L_longest F u).bind fun x2 => (f_L_next_L6 F u F x2).bind (fun w9 => Sum.elim (fun w5 => some ((0 : Int32))) (fun w6 => some (w6)) w9)
set_option maxHeartbeats 4000000 in
set_option maxRecDepth 100000 in
theorem l_L_next_L6 {p : Program} {l : Launch} {e : Env} {s : State} {m : MethodId} {args : Array Value} {below : List Frame} {meth : Method} {c : Code} {Q : State → Prop} {g : a_G} (F : Nat) {h : List va_E} {P : d_P} (u : d_W) (hz : d_lw h P u) : ∀ (n : Nat) (v3_6 : Int32) (o : (Int32) ⊕ (Int32)), f_L_next_L6 F u n v3_6 = some o → (∀ e9 : Int32, o = .inl e9 → a_W p l e (a_rm 1 21) s m args below meth c Q RL cL_next 4 g 0 0 none 33 [] [] h) → (∀ e9 : Int32, o = .inr (e9) → a_W p l e (a_rm 1 21) s m args below meth c Q RL cL_next 4 g 0 0 none 25 [(3, .int e9)] [] h) → a_W p l e (a_rm 1 21) s m args below meth c Q RL cL_next 4 g 0 0 none 6 [(0, .ref P.2.2.1), (2, .ref P.2.2.2.2), (3, .int v3_6)] [] h := by
  intro n
  induction n with
  | zero => intro v3_6 o hf; exact nomatch (show (none : Option ((Int32) ⊕ (Int32))) = some o from hf)
  | succ n ih =>
    intro v3_6 o hf hX0 hX1
    rw [f_L_next_L6] at hf
    refine a_iload_n (pc' := 7) 2 dL_next_6 rfl rfl rfl ?_
    refine a_bipush (pc' := 9) (v := (7 : Int32)) dL_next_7 rfl (by decide) ?_
    refine a_icmp_le (pc' := 12) 33 dL_next_9 (by decide) rfl (fun k7001 => ?_) (fun k7001 => ?_)
    · replace hf := (if_pos k7001).symm.trans hf
      cases hf
      refine a_sub [] rfl ?_
      exact hX0 _ rfl
    · replace hf := (if_neg k7001).symm.trans hf
      refine a_aload_n (pc' := 13) 0 dL_next_12 rfl rfl rfl ?_
      refine a_iload_n (pc' := 14) 2 dL_next_13 rfl rfl rfl ?_
      obtain ⟨hg, hf⟩ := f_grd_x hf
      refine b_iald (pc' := 15) hz.2.2.2.1 hg dL_next_14 rfl ?_
      refine a_aload_n (pc' := 16) 1 dL_next_15 rfl rfl rfl ?_
      refine a_iconst (pc' := 17) (v := (2 : Int32)) dL_next_16 rfl (by decide) ?_
      obtain ⟨hg, hf⟩ := f_grd_x hf
      refine b_iald (pc' := 18) hz.2.2.2.2.2 hg dL_next_17 rfl ?_
      refine a_aload_n (pc' := 19) 1 dL_next_18 rfl rfl rfl ?_
      obtain ⟨x7003, e7002, hf⟩ := Option.bind_eq_some_iff.mp hf
      refine k_L_8 (pc' := 22) (c_L_places l g F hz e7002) ⟨Nat.le_of_ble_eq_true rfl, Nat.le_of_ble_eq_true rfl⟩ (Nat.le_of_ble_eq_true rfl) dL_next_19 rfl ?_
      refine a_icmp_lt (pc' := 25) 27 dL_next_22 (by decide) rfl (fun k7004 => ?_) (fun k7004 => ?_)
      · replace hf := (if_pos k7004).symm.trans hf
        refine a_iinc (pc' := 30) (v := v3_6 + (-1 : Int32)) (ls' := [(3, .int (v3_6 + (-1 : Int32))), (0, .ref P.2.2.1), (2, .ref P.2.2.2.2)]) 2 dL_next_27 rfl (by rfl) (by decide) rfl rfl ?_
        refine a_goto 6 dL_next_30 (by decide) ?_
        refine a_sub [1, 2, 0] rfl ?_
        exact ih _ _ hf hX0 hX1
      · replace hf := (if_neg k7004).symm.trans hf
        cases hf
        refine a_sub [2] rfl ?_
        exact hX1 _ rfl
set_option maxHeartbeats 4000000 in
set_option maxRecDepth 100000 in
theorem c_L_next (l : Launch) (g : a_G) (F : Nat) {h : List va_E} {P : d_P} {u : d_W} (hz : d_lw h P u) {out : Int32} (hf : f_L_next F u = some out) : a_CT l g yL_next cL_next 4 (some .int) (a_rm 1 21) [.ref P.2.2.1, .ref P.1, .ref P.2.2.2.2] h none none (fun r h' => r = some (.int out) ∧ h' = h) := by
  refine a_enter ⟨by decide, rfl, Nat.le_of_ble_eq_true rfl⟩ (fun p e s m args below meth c hr hin => ?_)
  unfold f_L_next at hf
  refine a_sub (ls' := [(0, .ref P.2.2.1), (1, .ref P.1), (2, .ref P.2.2.2.2)]) [0, 1, 2] rfl ?_
  refine a_aload_n (pc' := 1) 1 dL_next_0 rfl rfl rfl ?_
  refine a_aload_n (pc' := 2) 2 dL_next_1 rfl rfl rfl ?_
  obtain ⟨x2, e1, hf⟩ := Option.bind_eq_some_iff.mp hf
  refine k_L_34 (pc' := 5) (c_L_longest l g F hz e1) ⟨Nat.le_of_ble_eq_true rfl, Nat.le_of_ble_eq_true rfl⟩ (Nat.le_of_ble_eq_true rfl) dL_next_2 rfl ?_
  refine a_istore_n (pc' := 6) (ls' := [(3, .int x2), (0, .ref P.2.2.1), (1, .ref P.1), (2, .ref P.2.2.2.2)]) dL_next_5 rfl (by decide) rfl rfl ?_
  obtain ⟨o3, e4, hf⟩ := Option.bind_eq_some_iff.mp hf
  refine a_sub [1, 3, 0] rfl ?_
  refine l_L_next_L6 F u hz F _ o3 e4 (fun w5 he9 => ?_) (fun w6 he9 => ?_)
  · subst he9
    simp only [Sum.elim_inl, Sum.elim_inr] at hf
    refine a_iconst (pc' := 34) (v := (0 : Int32)) dL_next_33 rfl (by decide) ?_
    cases hf
    exact a_iret hr ⟨rfl, rfl⟩ dL_next_34
  · subst he9
    simp only [Sum.elim_inl, Sum.elim_inr] at hf
    refine a_iload_n (pc' := 26) 0 dL_next_25 rfl rfl rfl ?_
    cases hf
    exact a_iret hr ⟨rfl, rfl⟩ dL_next_26
/-! SlateRoofLaw.slaters([I[I[I[I)I -/
set_option maxRecDepth 100000 in
def f_L_slaters_L20 (F : Nat) (u_3 : d_W) : Nat → Int32 → Option (Int32)
  | 0, _ => none
  | n + 1, v5_20 => f_grd ((2 : Int32)) 14 ((if ((u_3.2.2.2.2 ((2 : Int32)).toNatClampNeg) - ((1 : Int32))) ≤ v5_20 then some (v5_20) else f_grd v5_20 61 ((f_L_full F u_3 v5_20).bind fun x21003 => (if (u_3.2.1 v5_20.toNatClampNeg) = x21003 then f_L_slaters_L20 F u_3 n (v5_20 + (1 : Int32)) else some (v5_20)))))
set_option maxRecDepth 100000 in
def f_L_slaters_L3 (F : Nat)  : Nat → Int32 → d_W → Option ((Int32 × d_W) ⊕ ((Int32 × d_W) ⊕ (Int32 × d_W)))
  | 0, _, _ => none
  | n + 1, v4_3, u_3 => f_grd ((8 : Int32)) 14 ((if (u_3.2.2.2.2 ((8 : Int32)).toNatClampNeg) = 0 then f_grd ((9 : Int32)) 14 ((if (u_3.2.2.2.2 ((9 : Int32)).toNatClampNeg) = 0 then (f_L_slaters_L20 F u_3 F ((0 : Int32))).bind fun o4003 => f_grd ((2 : Int32)) 14 (((if ((u_3.2.2.2.2 ((2 : Int32)).toNatClampNeg) - ((1 : Int32))) ≤ o4003 then some ((0 : Int32)) else some ((1 : Int32)))).bind fun j4005 => (if j4005 = 0 then f_grd ((2 : Int32)) 14 ((if ((u_3.2.2.2.2 ((2 : Int32)).toNatClampNeg) - ((1 : Int32))) < 0 then f_grd ((2 : Int32)) 14 ((f_L_top F u_3 (u_3.2.2.2.2 ((2 : Int32)).toNatClampNeg)).bind fun x4010 => f_grd ((0 : Int32)) 14 ((if (u_3.2.2.2.2 ((0 : Int32)).toNatClampNeg) ≤ x4010 then some (.inr (.inl (v4_3, u_3))) else (f_L_next F u_3).bind fun x4013 => (if x4013 = 0 then some (.inr (.inl (v4_3, u_3))) else f_grd ((2 : Int32)) 14 ((f_L_next F u_3).bind fun x4016 => f_grd (u_3.2.2.2.2 ((2 : Int32)).toNatClampNeg) 61 (f_let (upd u_3.1 (u_3.2.2.2.2 ((2 : Int32)).toNatClampNeg).toNatClampNeg x4016, u_3.2.1, u_3.2.2.1, u_3.2.2.2.1, u_3.2.2.2.2) fun u4018 => f_grd ((2 : Int32)) 14 (f_grd (u4018.2.2.2.2 ((2 : Int32)).toNatClampNeg) 61 (f_let (u4018.1, upd u4018.2.1 (u4018.2.2.2.2 ((2 : Int32)).toNatClampNeg).toNatClampNeg ((0 : Int32)), u4018.2.2.1, u4018.2.2.2.1, u4018.2.2.2.2) fun u4020 => f_grd ((2 : Int32)) 14 (f_grd ((2 : Int32)) 14 (f_let (u4020.1, u4020.2.1, u4020.2.2.1, u4020.2.2.2.1, upd u4020.2.2.2.2 ((2 : Int32)).toNatClampNeg ((u4020.2.2.2.2 ((2 : Int32)).toNatClampNeg) + ((1 : Int32)))) fun u4022 => f_L_slaters_L3 F  n v4_3 u4022)))))))))) else (f_L_gap F u_3 ((u_3.2.2.2.2 ((2 : Int32)).toNatClampNeg) - ((1 : Int32)))).bind fun x4024 => (if x4024 < 0 then f_grd ((2 : Int32)) 14 ((f_L_top F u_3 (u_3.2.2.2.2 ((2 : Int32)).toNatClampNeg)).bind fun x4027 => f_grd ((0 : Int32)) 14 ((if (u_3.2.2.2.2 ((0 : Int32)).toNatClampNeg) ≤ x4027 then some (.inr (.inl (v4_3, u_3))) else (f_L_next F u_3).bind fun x4030 => (if x4030 = 0 then some (.inr (.inl (v4_3, u_3))) else f_grd ((2 : Int32)) 14 ((f_L_next F u_3).bind fun x4033 => f_grd (u_3.2.2.2.2 ((2 : Int32)).toNatClampNeg) 61 (f_let (upd u_3.1 (u_3.2.2.2.2 ((2 : Int32)).toNatClampNeg).toNatClampNeg x4033, u_3.2.1, u_3.2.2.1, u_3.2.2.2.1, u_3.2.2.2.2) fun u4035 => f_grd ((2 : Int32)) 14 (f_grd (u4035.2.2.2.2 ((2 : Int32)).toNatClampNeg) 61 (f_let (u4035.1, upd u4035.2.1 (u4035.2.2.2.2 ((2 : Int32)).toNatClampNeg).toNatClampNeg ((0 : Int32)), u4035.2.2.1, u4035.2.2.2.1, u4035.2.2.2.2) fun u4037 => f_grd ((2 : Int32)) 14 (f_grd ((2 : Int32)) 14 (f_let (u4037.1, u4037.2.1, u4037.2.2.1, u4037.2.2.2.1, upd u4037.2.2.2.2 ((2 : Int32)).toNatClampNeg ((u4037.2.2.2.2 ((2 : Int32)).toNatClampNeg) + ((1 : Int32)))) fun u4039 => f_L_slaters_L3 F  n v4_3 u4039)))))))))) else f_grd ((u_3.2.2.2.2 ((2 : Int32)).toNatClampNeg) - ((1 : Int32))) 61 (f_grd (u_3.1 ((u_3.2.2.2.2 ((2 : Int32)).toNatClampNeg) - ((1 : Int32))).toNatClampNeg) 25 ((if (u_3.2.2.1 (u_3.1 ((u_3.2.2.2.2 ((2 : Int32)).toNatClampNeg) - ((1 : Int32))).toNatClampNeg).toNatClampNeg) = 0 then some (.inr (.inr ((v4_3, u_3)))) else f_grd ((7 : Int32)) 14 ((if (u_3.2.2.2.2 ((7 : Int32)).toNatClampNeg) = 0 then some (.inr (.inr ((v4_3, u_3)))) else f_grd ((u_3.2.2.2.2 ((2 : Int32)).toNatClampNeg) - ((1 : Int32))) 61 ((f_L_gap F u_3 ((u_3.2.2.2.2 ((2 : Int32)).toNatClampNeg) - ((1 : Int32)))).bind fun x4043 => f_grd ((u_3.2.2.2.2 ((2 : Int32)).toNatClampNeg) - ((1 : Int32))) 61 (f_let (u_3.1, upd u_3.2.1 ((u_3.2.2.2.2 ((2 : Int32)).toNatClampNeg) - ((1 : Int32))).toNatClampNeg ((u_3.2.1 ((u_3.2.2.2.2 ((2 : Int32)).toNatClampNeg) - ((1 : Int32))).toNatClampNeg) ||| (((1 : Int32)) <<< (x4043 &&& 31))), u_3.2.2.1, u_3.2.2.2.1, u_3.2.2.2.2) fun u4045 => f_grd ((u_3.2.2.2.2 ((2 : Int32)).toNatClampNeg) - ((1 : Int32))) 61 (f_grd (u4045.1 ((u_3.2.2.2.2 ((2 : Int32)).toNatClampNeg) - ((1 : Int32))).toNatClampNeg) 25 (f_grd (u4045.1 ((u_3.2.2.2.2 ((2 : Int32)).toNatClampNeg) - ((1 : Int32))).toNatClampNeg) 25 (f_let (u4045.1, u4045.2.1, upd u4045.2.2.1 (u4045.1 ((u_3.2.2.2.2 ((2 : Int32)).toNatClampNeg) - ((1 : Int32))).toNatClampNeg).toNatClampNeg ((u4045.2.2.1 (u4045.1 ((u_3.2.2.2.2 ((2 : Int32)).toNatClampNeg) - ((1 : Int32))).toNatClampNeg).toNatClampNeg) - ((1 : Int32))), u4045.2.2.2.1, u4045.2.2.2.2) fun u4047 => f_grd ((7 : Int32)) 14 (f_grd ((7 : Int32)) 14 (f_let (u4047.1, u4047.2.1, u4047.2.2.1, u4047.2.2.2.1, upd u4047.2.2.2.2 ((7 : Int32)).toNatClampNeg ((u4047.2.2.2.2 ((7 : Int32)).toNatClampNeg) - ((1 : Int32)))) fun u4049 => f_L_slaters_L3 F  n (v4_3 + (1 : Int32)) u4049))))))))))))))) else f_grd o4003 61 (f_grd (u_3.1 o4003.toNatClampNeg) 25 ((if (u_3.2.2.1 (u_3.1 o4003.toNatClampNeg).toNatClampNeg) ≤ 0 then f_grd ((2 : Int32)) 14 ((if ((u_3.2.2.2.2 ((2 : Int32)).toNatClampNeg) - ((1 : Int32))) < 0 then f_grd ((2 : Int32)) 14 ((f_L_top F u_3 (u_3.2.2.2.2 ((2 : Int32)).toNatClampNeg)).bind fun x4053 => f_grd ((0 : Int32)) 14 ((if (u_3.2.2.2.2 ((0 : Int32)).toNatClampNeg) ≤ x4053 then some (.inr (.inl (v4_3, u_3))) else (f_L_next F u_3).bind fun x4056 => (if x4056 = 0 then some (.inr (.inl (v4_3, u_3))) else f_grd ((2 : Int32)) 14 ((f_L_next F u_3).bind fun x4059 => f_grd (u_3.2.2.2.2 ((2 : Int32)).toNatClampNeg) 61 (f_let (upd u_3.1 (u_3.2.2.2.2 ((2 : Int32)).toNatClampNeg).toNatClampNeg x4059, u_3.2.1, u_3.2.2.1, u_3.2.2.2.1, u_3.2.2.2.2) fun u4061 => f_grd ((2 : Int32)) 14 (f_grd (u4061.2.2.2.2 ((2 : Int32)).toNatClampNeg) 61 (f_let (u4061.1, upd u4061.2.1 (u4061.2.2.2.2 ((2 : Int32)).toNatClampNeg).toNatClampNeg ((0 : Int32)), u4061.2.2.1, u4061.2.2.2.1, u4061.2.2.2.2) fun u4063 => f_grd ((2 : Int32)) 14 (f_grd ((2 : Int32)) 14 (f_let (u4063.1, u4063.2.1, u4063.2.2.1, u4063.2.2.2.1, upd u4063.2.2.2.2 ((2 : Int32)).toNatClampNeg ((u4063.2.2.2.2 ((2 : Int32)).toNatClampNeg) + ((1 : Int32)))) fun u4065 => f_L_slaters_L3 F  n v4_3 u4065)))))))))) else (f_L_gap F u_3 ((u_3.2.2.2.2 ((2 : Int32)).toNatClampNeg) - ((1 : Int32)))).bind fun x4067 => (if x4067 < 0 then f_grd ((2 : Int32)) 14 ((f_L_top F u_3 (u_3.2.2.2.2 ((2 : Int32)).toNatClampNeg)).bind fun x4070 => f_grd ((0 : Int32)) 14 ((if (u_3.2.2.2.2 ((0 : Int32)).toNatClampNeg) ≤ x4070 then some (.inr (.inl (v4_3, u_3))) else (f_L_next F u_3).bind fun x4073 => (if x4073 = 0 then some (.inr (.inl (v4_3, u_3))) else f_grd ((2 : Int32)) 14 ((f_L_next F u_3).bind fun x4076 => f_grd (u_3.2.2.2.2 ((2 : Int32)).toNatClampNeg) 61 (f_let (upd u_3.1 (u_3.2.2.2.2 ((2 : Int32)).toNatClampNeg).toNatClampNeg x4076, u_3.2.1, u_3.2.2.1, u_3.2.2.2.1, u_3.2.2.2.2) fun u4078 => f_grd ((2 : Int32)) 14 (f_grd (u4078.2.2.2.2 ((2 : Int32)).toNatClampNeg) 61 (f_let (u4078.1, upd u4078.2.1 (u4078.2.2.2.2 ((2 : Int32)).toNatClampNeg).toNatClampNeg ((0 : Int32)), u4078.2.2.1, u4078.2.2.2.1, u4078.2.2.2.2) fun u4080 => f_grd ((2 : Int32)) 14 (f_grd ((2 : Int32)) 14 (f_let (u4080.1, u4080.2.1, u4080.2.2.1, u4080.2.2.2.1, upd u4080.2.2.2.2 ((2 : Int32)).toNatClampNeg ((u4080.2.2.2.2 ((2 : Int32)).toNatClampNeg) + ((1 : Int32)))) fun u4082 => f_L_slaters_L3 F  n v4_3 u4082)))))))))) else f_grd ((u_3.2.2.2.2 ((2 : Int32)).toNatClampNeg) - ((1 : Int32))) 61 (f_grd (u_3.1 ((u_3.2.2.2.2 ((2 : Int32)).toNatClampNeg) - ((1 : Int32))).toNatClampNeg) 25 ((if (u_3.2.2.1 (u_3.1 ((u_3.2.2.2.2 ((2 : Int32)).toNatClampNeg) - ((1 : Int32))).toNatClampNeg).toNatClampNeg) = 0 then some (.inr (.inr ((v4_3, u_3)))) else f_grd ((7 : Int32)) 14 ((if (u_3.2.2.2.2 ((7 : Int32)).toNatClampNeg) = 0 then some (.inr (.inr ((v4_3, u_3)))) else f_grd ((u_3.2.2.2.2 ((2 : Int32)).toNatClampNeg) - ((1 : Int32))) 61 ((f_L_gap F u_3 ((u_3.2.2.2.2 ((2 : Int32)).toNatClampNeg) - ((1 : Int32)))).bind fun x4086 => f_grd ((u_3.2.2.2.2 ((2 : Int32)).toNatClampNeg) - ((1 : Int32))) 61 (f_let (u_3.1, upd u_3.2.1 ((u_3.2.2.2.2 ((2 : Int32)).toNatClampNeg) - ((1 : Int32))).toNatClampNeg ((u_3.2.1 ((u_3.2.2.2.2 ((2 : Int32)).toNatClampNeg) - ((1 : Int32))).toNatClampNeg) ||| (((1 : Int32)) <<< (x4086 &&& 31))), u_3.2.2.1, u_3.2.2.2.1, u_3.2.2.2.2) fun u4088 => f_grd ((u_3.2.2.2.2 ((2 : Int32)).toNatClampNeg) - ((1 : Int32))) 61 (f_grd (u4088.1 ((u_3.2.2.2.2 ((2 : Int32)).toNatClampNeg) - ((1 : Int32))).toNatClampNeg) 25 (f_grd (u4088.1 ((u_3.2.2.2.2 ((2 : Int32)).toNatClampNeg) - ((1 : Int32))).toNatClampNeg) 25 (f_let (u4088.1, u4088.2.1, upd u4088.2.2.1 (u4088.1 ((u_3.2.2.2.2 ((2 : Int32)).toNatClampNeg) - ((1 : Int32))).toNatClampNeg).toNatClampNeg ((u4088.2.2.1 (u4088.1 ((u_3.2.2.2.2 ((2 : Int32)).toNatClampNeg) - ((1 : Int32))).toNatClampNeg).toNatClampNeg) - ((1 : Int32))), u4088.2.2.2.1, u4088.2.2.2.2) fun u4090 => f_grd ((7 : Int32)) 14 (f_grd ((7 : Int32)) 14 (f_let (u4090.1, u4090.2.1, u4090.2.2.1, u4090.2.2.2.1, upd u4090.2.2.2.2 ((7 : Int32)).toNatClampNeg ((u4090.2.2.2.2 ((7 : Int32)).toNatClampNeg) - ((1 : Int32)))) fun u4092 => f_L_slaters_L3 F  n (v4_3 + (1 : Int32)) u4092))))))))))))))) else f_grd ((7 : Int32)) 14 ((if (u_3.2.2.2.2 ((7 : Int32)).toNatClampNeg) ≤ ((2 : Int32)) then f_grd ((2 : Int32)) 14 ((if ((u_3.2.2.2.2 ((2 : Int32)).toNatClampNeg) - ((1 : Int32))) < 0 then f_grd ((2 : Int32)) 14 ((f_L_top F u_3 (u_3.2.2.2.2 ((2 : Int32)).toNatClampNeg)).bind fun x4096 => f_grd ((0 : Int32)) 14 ((if (u_3.2.2.2.2 ((0 : Int32)).toNatClampNeg) ≤ x4096 then some (.inr (.inl (v4_3, u_3))) else (f_L_next F u_3).bind fun x4099 => (if x4099 = 0 then some (.inr (.inl (v4_3, u_3))) else f_grd ((2 : Int32)) 14 ((f_L_next F u_3).bind fun x4102 => f_grd (u_3.2.2.2.2 ((2 : Int32)).toNatClampNeg) 61 (f_let (upd u_3.1 (u_3.2.2.2.2 ((2 : Int32)).toNatClampNeg).toNatClampNeg x4102, u_3.2.1, u_3.2.2.1, u_3.2.2.2.1, u_3.2.2.2.2) fun u4104 => f_grd ((2 : Int32)) 14 (f_grd (u4104.2.2.2.2 ((2 : Int32)).toNatClampNeg) 61 (f_let (u4104.1, upd u4104.2.1 (u4104.2.2.2.2 ((2 : Int32)).toNatClampNeg).toNatClampNeg ((0 : Int32)), u4104.2.2.1, u4104.2.2.2.1, u4104.2.2.2.2) fun u4106 => f_grd ((2 : Int32)) 14 (f_grd ((2 : Int32)) 14 (f_let (u4106.1, u4106.2.1, u4106.2.2.1, u4106.2.2.2.1, upd u4106.2.2.2.2 ((2 : Int32)).toNatClampNeg ((u4106.2.2.2.2 ((2 : Int32)).toNatClampNeg) + ((1 : Int32)))) fun u4108 => f_L_slaters_L3 F  n v4_3 u4108)))))))))) else (f_L_gap F u_3 ((u_3.2.2.2.2 ((2 : Int32)).toNatClampNeg) - ((1 : Int32)))).bind fun x4110 => (if x4110 < 0 then f_grd ((2 : Int32)) 14 ((f_L_top F u_3 (u_3.2.2.2.2 ((2 : Int32)).toNatClampNeg)).bind fun x4113 => f_grd ((0 : Int32)) 14 ((if (u_3.2.2.2.2 ((0 : Int32)).toNatClampNeg) ≤ x4113 then some (.inr (.inl (v4_3, u_3))) else (f_L_next F u_3).bind fun x4116 => (if x4116 = 0 then some (.inr (.inl (v4_3, u_3))) else f_grd ((2 : Int32)) 14 ((f_L_next F u_3).bind fun x4119 => f_grd (u_3.2.2.2.2 ((2 : Int32)).toNatClampNeg) 61 (f_let (upd u_3.1 (u_3.2.2.2.2 ((2 : Int32)).toNatClampNeg).toNatClampNeg x4119, u_3.2.1, u_3.2.2.1, u_3.2.2.2.1, u_3.2.2.2.2) fun u4121 => f_grd ((2 : Int32)) 14 (f_grd (u4121.2.2.2.2 ((2 : Int32)).toNatClampNeg) 61 (f_let (u4121.1, upd u4121.2.1 (u4121.2.2.2.2 ((2 : Int32)).toNatClampNeg).toNatClampNeg ((0 : Int32)), u4121.2.2.1, u4121.2.2.2.1, u4121.2.2.2.2) fun u4123 => f_grd ((2 : Int32)) 14 (f_grd ((2 : Int32)) 14 (f_let (u4123.1, u4123.2.1, u4123.2.2.1, u4123.2.2.2.1, upd u4123.2.2.2.2 ((2 : Int32)).toNatClampNeg ((u4123.2.2.2.2 ((2 : Int32)).toNatClampNeg) + ((1 : Int32)))) fun u4125 => f_L_slaters_L3 F  n v4_3 u4125)))))))))) else f_grd ((u_3.2.2.2.2 ((2 : Int32)).toNatClampNeg) - ((1 : Int32))) 61 (f_grd (u_3.1 ((u_3.2.2.2.2 ((2 : Int32)).toNatClampNeg) - ((1 : Int32))).toNatClampNeg) 25 ((if (u_3.2.2.1 (u_3.1 ((u_3.2.2.2.2 ((2 : Int32)).toNatClampNeg) - ((1 : Int32))).toNatClampNeg).toNatClampNeg) = 0 then some (.inr (.inr ((v4_3, u_3)))) else f_grd ((7 : Int32)) 14 ((if (u_3.2.2.2.2 ((7 : Int32)).toNatClampNeg) = 0 then some (.inr (.inr ((v4_3, u_3)))) else f_grd ((u_3.2.2.2.2 ((2 : Int32)).toNatClampNeg) - ((1 : Int32))) 61 ((f_L_gap F u_3 ((u_3.2.2.2.2 ((2 : Int32)).toNatClampNeg) - ((1 : Int32)))).bind fun x4129 => f_grd ((u_3.2.2.2.2 ((2 : Int32)).toNatClampNeg) - ((1 : Int32))) 61 (f_let (u_3.1, upd u_3.2.1 ((u_3.2.2.2.2 ((2 : Int32)).toNatClampNeg) - ((1 : Int32))).toNatClampNeg ((u_3.2.1 ((u_3.2.2.2.2 ((2 : Int32)).toNatClampNeg) - ((1 : Int32))).toNatClampNeg) ||| (((1 : Int32)) <<< (x4129 &&& 31))), u_3.2.2.1, u_3.2.2.2.1, u_3.2.2.2.2) fun u4131 => f_grd ((u_3.2.2.2.2 ((2 : Int32)).toNatClampNeg) - ((1 : Int32))) 61 (f_grd (u4131.1 ((u_3.2.2.2.2 ((2 : Int32)).toNatClampNeg) - ((1 : Int32))).toNatClampNeg) 25 (f_grd (u4131.1 ((u_3.2.2.2.2 ((2 : Int32)).toNatClampNeg) - ((1 : Int32))).toNatClampNeg) 25 (f_let (u4131.1, u4131.2.1, upd u4131.2.2.1 (u4131.1 ((u_3.2.2.2.2 ((2 : Int32)).toNatClampNeg) - ((1 : Int32))).toNatClampNeg).toNatClampNeg ((u4131.2.2.1 (u4131.1 ((u_3.2.2.2.2 ((2 : Int32)).toNatClampNeg) - ((1 : Int32))).toNatClampNeg).toNatClampNeg) - ((1 : Int32))), u4131.2.2.2.1, u4131.2.2.2.2) fun u4133 => f_grd ((7 : Int32)) 14 (f_grd ((7 : Int32)) 14 (f_let (u4133.1, u4133.2.1, u4133.2.2.1, u4133.2.2.2.1, upd u4133.2.2.2.2 ((7 : Int32)).toNatClampNeg ((u4133.2.2.2.2 ((7 : Int32)).toNatClampNeg) - ((1 : Int32)))) fun u4135 => f_L_slaters_L3 F  n (v4_3 + (1 : Int32)) u4135))))))))))))))) else f_grd o4003 61 ((f_L_gap F u_3 o4003).bind fun x4137 => f_grd o4003 61 (f_let (u_3.1, upd u_3.2.1 o4003.toNatClampNeg ((u_3.2.1 o4003.toNatClampNeg) ||| (((1 : Int32)) <<< (x4137 &&& 31))), u_3.2.2.1, u_3.2.2.2.1, u_3.2.2.2.2) fun u4139 => f_grd o4003 61 (f_grd (u4139.1 o4003.toNatClampNeg) 25 (f_grd (u4139.1 o4003.toNatClampNeg) 25 (f_let (u4139.1, u4139.2.1, upd u4139.2.2.1 (u4139.1 o4003.toNatClampNeg).toNatClampNeg ((u4139.2.2.1 (u4139.1 o4003.toNatClampNeg).toNatClampNeg) - ((1 : Int32))), u4139.2.2.2.1, u4139.2.2.2.2) fun u4141 => f_grd ((7 : Int32)) 14 (f_grd ((7 : Int32)) 14 (f_let (u4141.1, u4141.2.1, u4141.2.2.1, u4141.2.2.2.1, upd u4141.2.2.2.2 ((7 : Int32)).toNatClampNeg ((u4141.2.2.2.2 ((7 : Int32)).toNatClampNeg) - ((3 : Int32)))) fun u4143 => f_L_slaters_L3 F  n (v4_3 + (1 : Int32)) u4143)))))))))))))) else some (.inl (v4_3, u_3)))) else some (.inl (v4_3, u_3))))
set_option maxRecDepth 100000 in
def f_L_slaters (F : Nat) (u : d_W) : Option (Int32 × d_W) := (f_L_slaters_L3 F F ((0 : Int32)) u).bind (fun w9 => Sum.elim (fun w3 => some ((w3.1, w3.2))) (fun w9 => Sum.elim (fun w5 => some ((w5.1, w5.2))) (fun w7 => some ((w7.1, w7.2))) w9) w9)
set_option maxHeartbeats 4000000 in
set_option maxRecDepth 100000 in
theorem l_L_slaters_L20 {p : Program} {l : Launch} {e : Env} {s : State} {m : MethodId} {args : Array Value} {below : List Frame} {meth : Method} {c : Code} {Q : State → Prop} {g : a_G} (F : Nat) {h : List va_E} {P : d_P} (v4_3 : Int32) (u_3 : d_W) (hz : d_lw h P u_3) : ∀ (n : Nat) (v5_20 : Int32) (o : Int32), f_L_slaters_L20 F u_3 n v5_20 = some o → (∀ e9 : Int32, o = e9 → a_W p l e (a_rm 2 44) s m args below meth c Q RL cL_slaters 8 g 0 0 none 49 [(0, .ref P.1), (1, .ref P.2.1), (2, .ref P.2.2.1), (3, .ref P.2.2.2.2), (4, .int v4_3), (5, .int e9)] [] h) → a_W p l e (a_rm 2 44) s m args below meth c Q RL cL_slaters 8 g 0 0 none 20 [(0, .ref P.1), (1, .ref P.2.1), (2, .ref P.2.2.1), (3, .ref P.2.2.2.2), (4, .int v4_3), (5, .int v5_20)] [] h := by
  intro n
  induction n with
  | zero => intro v5_20 o hf; exact nomatch (show (none : Option (Int32)) = some o from hf)
  | succ n ih =>
    intro v5_20 o hf hX0
    rw [f_L_slaters_L20] at hf
    refine a_iload (pc' := 22) 5 dL_slaters_20 rfl rfl ?_
    refine a_aload_n (pc' := 23) 3 dL_slaters_22 rfl rfl rfl ?_
    refine a_iconst (pc' := 24) (v := (2 : Int32)) dL_slaters_23 rfl (by decide) ?_
    obtain ⟨hg, hf⟩ := f_grd_x hf
    refine b_iald (pc' := 25) hz.2.2.2.2.2 hg dL_slaters_24 rfl ?_
    refine a_iconst (pc' := 26) (v := (1 : Int32)) dL_slaters_25 rfl (by decide) ?_
    refine a_isub (pc' := 27) dL_slaters_26 rfl ?_
    refine a_icmp_ge (pc' := 30) 49 dL_slaters_27 (by decide) rfl (fun k21001 => ?_) (fun k21001 => ?_)
    · replace hf := (if_pos k21001).symm.trans hf
      cases hf
      exact hX0 _ rfl
    · replace hf := (if_neg k21001).symm.trans hf
      refine a_aload_n (pc' := 31) 1 dL_slaters_30 rfl rfl rfl ?_
      refine a_iload (pc' := 33) 5 dL_slaters_31 rfl rfl ?_
      obtain ⟨hg, hf⟩ := f_grd_x hf
      refine b_iald (pc' := 34) hz.2.2.1 hg dL_slaters_33 rfl ?_
      refine a_iload (pc' := 36) 5 dL_slaters_34 rfl rfl ?_
      refine a_aload_n (pc' := 37) 3 dL_slaters_36 rfl rfl rfl ?_
      obtain ⟨x21003, e21002, hf⟩ := Option.bind_eq_some_iff.mp hf
      refine k_L_23 (pc' := 40) (c_L_full l g F hz e21002) ⟨Nat.le_of_ble_eq_true rfl, Nat.le_of_ble_eq_true rfl⟩ (Nat.le_of_ble_eq_true rfl) dL_slaters_37 rfl ?_
      refine a_icmp_ne (pc' := 43) 49 dL_slaters_40 (by decide) rfl (fun k21004 => ?_) (fun k21004 => ?_)
      · replace hf := (if_neg k21004).symm.trans hf
        cases hf
        exact hX0 _ rfl
      · replace hf := (if_pos k21004).symm.trans hf
        refine a_iinc (pc' := 46) (v := v5_20 + (1 : Int32)) (ls' := [(5, .int (v5_20 + (1 : Int32))), (0, .ref P.1), (1, .ref P.2.1), (2, .ref P.2.2.1), (3, .ref P.2.2.2.2), (4, .int v4_3)]) 5 dL_slaters_43 rfl (by rfl) (by decide) rfl rfl ?_
        refine a_goto 20 dL_slaters_46 (by decide) ?_
        refine a_sub [1, 2, 3, 4, 5, 0] rfl ?_
        exact ih _ _ hf hX0
set_option maxHeartbeats 4000000 in
set_option maxRecDepth 100000 in
theorem l_L_slaters_L3 {p : Program} {l : Launch} {e : Env} {s : State} {m : MethodId} {args : Array Value} {below : List Frame} {meth : Method} {c : Code} {Q : State → Prop} {g : a_G} (F : Nat) {h : List va_E} {P : d_P}  : ∀ (n : Nat) (v4_3 : Int32) (u_3 : d_W) (o : (Int32 × d_W) ⊕ ((Int32 × d_W) ⊕ (Int32 × d_W))), f_L_slaters_L3 F  n v4_3 u_3 = some o → (∀ e9 : Int32 × d_W, o = .inl e9 → ∀ h1, d_lw h1 P e9.2 → d_fw P h h1 → a_W p l e (a_rm 2 44) s m args below meth c Q RL cL_slaters 8 g 0 0 none 262 [(4, .int e9.1)] [] h1) → (∀ e9 : Int32 × d_W, o = .inr (.inl e9) → ∀ h1, d_lw h1 P e9.2 → d_fw P h h1 → a_W p l e (a_rm 2 44) s m args below meth c Q RL cL_slaters 8 g 0 0 none 232 [(4, .int e9.1)] [] h1) → (∀ e9 : Int32 × d_W, o = .inr (.inr (e9)) → ∀ h1, d_lw h1 P e9.2 → d_fw P h h1 → a_W p l e (a_rm 2 44) s m args below meth c Q RL cL_slaters 8 g 0 0 none 166 [(4, .int e9.1)] [] h1) → ∀ h1, d_lw h1 P u_3 → d_fw P h h1 → a_W p l e (a_rm 2 44) s m args below meth c Q RL cL_slaters 8 g 0 0 none 3 [(0, .ref P.1), (1, .ref P.2.1), (2, .ref P.2.2.1), (3, .ref P.2.2.2.2), (4, .int v4_3)] [] h1 := by
  intro n
  induction n with
  | zero => intro v4_3 u_3 o hf; exact nomatch (show (none : Option ((Int32 × d_W) ⊕ ((Int32 × d_W) ⊕ (Int32 × d_W)))) = some o from hf)
  | succ n ih =>
    intro v4_3 u_3 o hf hX0 hX1 hX2 h1 hz hfr
    rw [f_L_slaters_L3] at hf
    refine a_aload_n (pc' := 4) 3 dL_slaters_3 rfl rfl rfl ?_
    refine a_bipush (pc' := 6) (v := (8 : Int32)) dL_slaters_4 rfl (by decide) ?_
    obtain ⟨hg, hf⟩ := f_grd_x hf
    refine b_iald (pc' := 7) hz.2.2.2.2.2 hg dL_slaters_6 rfl ?_
    refine a_if_ne (pc' := 10) 262 dL_slaters_7 (by decide) rfl (fun k4001 => ?_) (fun k4001 => ?_)
    · replace hf := (if_neg k4001).symm.trans hf
      cases hf
      refine a_sub [4] rfl ?_
      exact hX0 _ rfl _ hz hfr
    · replace hf := (if_pos k4001).symm.trans hf
      refine a_aload_n (pc' := 11) 3 dL_slaters_10 rfl rfl rfl ?_
      refine a_bipush (pc' := 13) (v := (9 : Int32)) dL_slaters_11 rfl (by decide) ?_
      obtain ⟨hg, hf⟩ := f_grd_x hf
      refine b_iald (pc' := 14) hz.2.2.2.2.2 hg dL_slaters_13 rfl ?_
      refine a_if_ne (pc' := 17) 262 dL_slaters_14 (by decide) rfl (fun k4002 => ?_) (fun k4002 => ?_)
      · replace hf := (if_neg k4002).symm.trans hf
        cases hf
        refine a_sub [4] rfl ?_
        exact hX0 _ rfl _ hz hfr
      · replace hf := (if_pos k4002).symm.trans hf
        refine a_iconst (pc' := 18) (v := (0 : Int32)) dL_slaters_17 rfl (by decide) ?_
        refine a_istore (pc' := 20) (ls' := [(5, .int ((0 : Int32))), (0, .ref P.1), (1, .ref P.2.1), (2, .ref P.2.2.1), (3, .ref P.2.2.2.2), (4, .int v4_3)]) dL_slaters_18 (by decide) rfl rfl ?_
        obtain ⟨o4003, e4004, hf⟩ := Option.bind_eq_some_iff.mp hf
        refine a_sub [1, 2, 3, 4, 5, 0] rfl ?_
        refine l_L_slaters_L20 F v4_3 u_3 hz F _ o4003 e4004 (fun e9 he9 => ?_)
        subst he9
        refine a_iload (pc' := 51) 5 dL_slaters_49 rfl rfl ?_
        refine a_aload_n (pc' := 52) 3 dL_slaters_51 rfl rfl rfl ?_
        refine a_iconst (pc' := 53) (v := (2 : Int32)) dL_slaters_52 rfl (by decide) ?_
        obtain ⟨hg, hf⟩ := f_grd_x hf
        refine b_iald (pc' := 54) hz.2.2.2.2.2 hg dL_slaters_53 rfl ?_
        refine a_iconst (pc' := 55) (v := (1 : Int32)) dL_slaters_54 rfl (by decide) ?_
        refine a_isub (pc' := 56) dL_slaters_55 rfl ?_
        refine a_jn (st2 := []) hf 64 (fun j4005 ej4005 hf => ?_) (fun j4005 hf Jj4005 => ?_)
        · refine a_istore (pc' := 66) (ls' := [(6, .int j4005), (0, .ref P.1), (1, .ref P.2.1), (2, .ref P.2.2.1), (3, .ref P.2.2.2.2), (4, .int v4_3), (5, .int o4003)]) dL_slaters_64 (by decide) rfl rfl ?_
          refine a_iload (pc' := 68) 0 dL_slaters_66 rfl rfl ?_
          refine a_if_eq (pc' := 71) 128 dL_slaters_68 (by decide) rfl (fun k4007 => ?_) (fun k4007 => ?_)
          · replace hf := (if_pos k4007).symm.trans hf
            refine a_aload_n (pc' := 129) 4 dL_slaters_128 rfl rfl rfl ?_
            refine a_iconst (pc' := 130) (v := (2 : Int32)) dL_slaters_129 rfl (by decide) ?_
            obtain ⟨hg, hf⟩ := f_grd_x hf
            refine b_iald (pc' := 131) hz.2.2.2.2.2 hg dL_slaters_130 rfl ?_
            refine a_iconst (pc' := 132) (v := (1 : Int32)) dL_slaters_131 rfl (by decide) ?_
            refine a_isub (pc' := 133) dL_slaters_132 rfl ?_
            refine a_istore (pc' := 135) (ls' := [(7, .int ((u_3.2.2.2.2 ((2 : Int32)).toNatClampNeg) - ((1 : Int32)))), (6, .int j4005), (0, .ref P.1), (1, .ref P.2.1), (2, .ref P.2.2.1), (3, .ref P.2.2.2.2), (4, .int v4_3), (5, .int o4003)]) dL_slaters_133 (by decide) rfl rfl ?_
            refine a_iload (pc' := 137) 0 dL_slaters_135 rfl rfl ?_
            refine a_if_lt (pc' := 140) 209 dL_slaters_137 (by decide) rfl (fun k4008 => ?_) (fun k4008 => ?_)
            · replace hf := (if_pos k4008).symm.trans hf
              refine a_aload_n (pc' := 210) 5 dL_slaters_209 rfl rfl rfl ?_
              refine a_iconst (pc' := 211) (v := (2 : Int32)) dL_slaters_210 rfl (by decide) ?_
              obtain ⟨hg, hf⟩ := f_grd_x hf
              refine b_iald (pc' := 212) hz.2.2.2.2.2 hg dL_slaters_211 rfl ?_
              refine a_aload_n (pc' := 213) 2 dL_slaters_212 rfl rfl rfl ?_
              refine a_aload_n (pc' := 214) 5 dL_slaters_213 rfl rfl rfl ?_
              obtain ⟨x4010, e4009, hf⟩ := Option.bind_eq_some_iff.mp hf
              refine k_L_19 (pc' := 217) (c_L_top l g F hz e4009) ⟨Nat.le_of_ble_eq_true rfl, Nat.le_of_ble_eq_true rfl⟩ (Nat.le_of_ble_eq_true rfl) dL_slaters_214 rfl ?_
              refine a_aload_n (pc' := 218) 5 dL_slaters_217 rfl rfl rfl ?_
              refine a_iconst (pc' := 219) (v := (0 : Int32)) dL_slaters_218 rfl (by decide) ?_
              obtain ⟨hg, hf⟩ := f_grd_x hf
              refine b_iald (pc' := 220) hz.2.2.2.2.2 hg dL_slaters_219 rfl ?_
              refine a_icmp_ge (pc' := 223) 232 dL_slaters_220 (by decide) rfl (fun k4011 => ?_) (fun k4011 => ?_)
              · replace hf := (if_pos k4011).symm.trans hf
                cases hf
                refine a_sub [6] rfl ?_
                exact hX1 _ rfl _ hz hfr
              · replace hf := (if_neg k4011).symm.trans hf
                refine a_aload_n (pc' := 224) 4 dL_slaters_223 rfl rfl rfl ?_
                refine a_aload_n (pc' := 225) 2 dL_slaters_224 rfl rfl rfl ?_
                refine a_aload_n (pc' := 226) 5 dL_slaters_225 rfl rfl rfl ?_
                obtain ⟨x4013, e4012, hf⟩ := Option.bind_eq_some_iff.mp hf
                refine k_L_41 (pc' := 229) (c_L_next l g F hz e4012) ⟨Nat.le_of_ble_eq_true rfl, Nat.le_of_ble_eq_true rfl⟩ (Nat.le_of_ble_eq_true rfl) dL_slaters_226 rfl ?_
                refine a_if_ne (pc' := 232) 235 dL_slaters_229 (by decide) rfl (fun k4014 => ?_) (fun k4014 => ?_)
                · replace hf := (if_neg k4014).symm.trans hf
                  refine a_aload_n (pc' := 236) 2 dL_slaters_235 rfl rfl rfl ?_
                  refine a_aload_n (pc' := 237) 5 dL_slaters_236 rfl rfl rfl ?_
                  refine a_iconst (pc' := 238) (v := (2 : Int32)) dL_slaters_237 rfl (by decide) ?_
                  obtain ⟨hg, hf⟩ := f_grd_x hf
                  refine b_iald (pc' := 239) hz.2.2.2.2.2 hg dL_slaters_238 rfl ?_
                  refine a_aload_n (pc' := 240) 4 dL_slaters_239 rfl rfl rfl ?_
                  refine a_aload_n (pc' := 241) 2 dL_slaters_240 rfl rfl rfl ?_
                  refine a_aload_n (pc' := 242) 5 dL_slaters_241 rfl rfl rfl ?_
                  obtain ⟨x4016, e4015, hf⟩ := Option.bind_eq_some_iff.mp hf
                  refine k_L_41 (pc' := 245) (c_L_next l g F hz e4015) ⟨Nat.le_of_ble_eq_true rfl, Nat.le_of_ble_eq_true rfl⟩ (Nat.le_of_ble_eq_true rfl) dL_slaters_242 rfl ?_
                  obtain ⟨hg, hf⟩ := f_grd_x hf
                  refine b_iast (pc' := 246) hz.2.1 hg dL_slaters_245 rfl (fun h4017 hz1 hfr1 => ?_)
                  obtain ⟨hz1, hfr1⟩ := d_lw_s0 hz hz1 hfr1
                  obtain ⟨u4018, hf, hz⟩ := f_let_x (P := fun w => d_lw h4017 P w) hf hz1
                  replace hfr := d_fw.tr hfr hfr1
                  refine a_aload_n (pc' := 247) 3 dL_slaters_246 rfl rfl rfl ?_
                  refine a_aload_n (pc' := 248) 5 dL_slaters_247 rfl rfl rfl ?_
                  refine a_iconst (pc' := 249) (v := (2 : Int32)) dL_slaters_248 rfl (by decide) ?_
                  obtain ⟨hg, hf⟩ := f_grd_x hf
                  refine b_iald (pc' := 250) hz.2.2.2.2.2 hg dL_slaters_249 rfl ?_
                  refine a_iconst (pc' := 251) (v := (0 : Int32)) dL_slaters_250 rfl (by decide) ?_
                  obtain ⟨hg, hf⟩ := f_grd_x hf
                  refine b_iast (pc' := 252) hz.2.2.1 hg dL_slaters_251 rfl (fun h4019 hz1 hfr1 => ?_)
                  obtain ⟨hz1, hfr1⟩ := d_lw_s1 hz hz1 hfr1
                  obtain ⟨u4020, hf, hz⟩ := f_let_x (P := fun w => d_lw h4019 P w) hf hz1
                  replace hfr := d_fw.tr hfr hfr1
                  refine a_aload_n (pc' := 253) 5 dL_slaters_252 rfl rfl rfl ?_
                  refine a_iconst (pc' := 254) (v := (2 : Int32)) dL_slaters_253 rfl (by decide) ?_
                  refine a_dup2 (pc' := 255) dL_slaters_254 rfl rfl rfl ?_
                  obtain ⟨hg, hf⟩ := f_grd_x hf
                  refine b_iald (pc' := 256) hz.2.2.2.2.2 hg dL_slaters_255 rfl ?_
                  refine a_iconst (pc' := 257) (v := (1 : Int32)) dL_slaters_256 rfl (by decide) ?_
                  refine a_iadd (pc' := 258) dL_slaters_257 rfl ?_
                  obtain ⟨hg, hf⟩ := f_grd_x hf
                  refine b_iast (pc' := 259) hz.2.2.2.2.2 hg dL_slaters_258 rfl (fun h4021 hz1 hfr1 => ?_)
                  obtain ⟨hz1, hfr1⟩ := d_lw_s4 hz hz1 hfr1
                  obtain ⟨u4022, hf, hz⟩ := f_let_x (P := fun w => d_lw h4021 P w) hf hz1
                  replace hfr := d_fw.tr hfr hfr1
                  refine a_goto 3 dL_slaters_259 (by decide) ?_
                  refine a_sub [2, 3, 4, 5, 6] rfl ?_
                  exact ih _ _ _ hf hX0 hX1 hX2 _ hz hfr
                · replace hf := (if_pos k4014).symm.trans hf
                  cases hf
                  refine a_sub [6] rfl ?_
                  exact hX1 _ rfl _ hz hfr
            · replace hf := (if_neg k4008).symm.trans hf
              refine a_iload (pc' := 142) 0 dL_slaters_140 rfl rfl ?_
              refine a_aload_n (pc' := 143) 3 dL_slaters_142 rfl rfl rfl ?_
              refine a_aload_n (pc' := 144) 5 dL_slaters_143 rfl rfl rfl ?_
              obtain ⟨x4024, e4023, hf⟩ := Option.bind_eq_some_iff.mp hf
              refine k_L_38 (pc' := 147) (c_L_gap l g F hz e4023) ⟨Nat.le_of_ble_eq_true rfl, Nat.le_of_ble_eq_true rfl⟩ (Nat.le_of_ble_eq_true rfl) dL_slaters_144 rfl ?_
              refine a_if_lt (pc' := 150) 209 dL_slaters_147 (by decide) rfl (fun k4025 => ?_) (fun k4025 => ?_)
              · replace hf := (if_pos k4025).symm.trans hf
                refine a_aload_n (pc' := 210) 5 dL_slaters_209 rfl rfl rfl ?_
                refine a_iconst (pc' := 211) (v := (2 : Int32)) dL_slaters_210 rfl (by decide) ?_
                obtain ⟨hg, hf⟩ := f_grd_x hf
                refine b_iald (pc' := 212) hz.2.2.2.2.2 hg dL_slaters_211 rfl ?_
                refine a_aload_n (pc' := 213) 2 dL_slaters_212 rfl rfl rfl ?_
                refine a_aload_n (pc' := 214) 5 dL_slaters_213 rfl rfl rfl ?_
                obtain ⟨x4027, e4026, hf⟩ := Option.bind_eq_some_iff.mp hf
                refine k_L_19 (pc' := 217) (c_L_top l g F hz e4026) ⟨Nat.le_of_ble_eq_true rfl, Nat.le_of_ble_eq_true rfl⟩ (Nat.le_of_ble_eq_true rfl) dL_slaters_214 rfl ?_
                refine a_aload_n (pc' := 218) 5 dL_slaters_217 rfl rfl rfl ?_
                refine a_iconst (pc' := 219) (v := (0 : Int32)) dL_slaters_218 rfl (by decide) ?_
                obtain ⟨hg, hf⟩ := f_grd_x hf
                refine b_iald (pc' := 220) hz.2.2.2.2.2 hg dL_slaters_219 rfl ?_
                refine a_icmp_ge (pc' := 223) 232 dL_slaters_220 (by decide) rfl (fun k4028 => ?_) (fun k4028 => ?_)
                · replace hf := (if_pos k4028).symm.trans hf
                  cases hf
                  refine a_sub [6] rfl ?_
                  exact hX1 _ rfl _ hz hfr
                · replace hf := (if_neg k4028).symm.trans hf
                  refine a_aload_n (pc' := 224) 4 dL_slaters_223 rfl rfl rfl ?_
                  refine a_aload_n (pc' := 225) 2 dL_slaters_224 rfl rfl rfl ?_
                  refine a_aload_n (pc' := 226) 5 dL_slaters_225 rfl rfl rfl ?_
                  obtain ⟨x4030, e4029, hf⟩ := Option.bind_eq_some_iff.mp hf
                  refine k_L_41 (pc' := 229) (c_L_next l g F hz e4029) ⟨Nat.le_of_ble_eq_true rfl, Nat.le_of_ble_eq_true rfl⟩ (Nat.le_of_ble_eq_true rfl) dL_slaters_226 rfl ?_
                  refine a_if_ne (pc' := 232) 235 dL_slaters_229 (by decide) rfl (fun k4031 => ?_) (fun k4031 => ?_)
                  · replace hf := (if_neg k4031).symm.trans hf
                    refine a_aload_n (pc' := 236) 2 dL_slaters_235 rfl rfl rfl ?_
                    refine a_aload_n (pc' := 237) 5 dL_slaters_236 rfl rfl rfl ?_
                    refine a_iconst (pc' := 238) (v := (2 : Int32)) dL_slaters_237 rfl (by decide) ?_
                    obtain ⟨hg, hf⟩ := f_grd_x hf
                    refine b_iald (pc' := 239) hz.2.2.2.2.2 hg dL_slaters_238 rfl ?_
                    refine a_aload_n (pc' := 240) 4 dL_slaters_239 rfl rfl rfl ?_
                    refine a_aload_n (pc' := 241) 2 dL_slaters_240 rfl rfl rfl ?_
                    refine a_aload_n (pc' := 242) 5 dL_slaters_241 rfl rfl rfl ?_
                    obtain ⟨x4033, e4032, hf⟩ := Option.bind_eq_some_iff.mp hf
                    refine k_L_41 (pc' := 245) (c_L_next l g F hz e4032) ⟨Nat.le_of_ble_eq_true rfl, Nat.le_of_ble_eq_true rfl⟩ (Nat.le_of_ble_eq_true rfl) dL_slaters_242 rfl ?_
                    obtain ⟨hg, hf⟩ := f_grd_x hf
                    refine b_iast (pc' := 246) hz.2.1 hg dL_slaters_245 rfl (fun h4034 hz1 hfr1 => ?_)
                    obtain ⟨hz1, hfr1⟩ := d_lw_s0 hz hz1 hfr1
                    obtain ⟨u4035, hf, hz⟩ := f_let_x (P := fun w => d_lw h4034 P w) hf hz1
                    replace hfr := d_fw.tr hfr hfr1
                    refine a_aload_n (pc' := 247) 3 dL_slaters_246 rfl rfl rfl ?_
                    refine a_aload_n (pc' := 248) 5 dL_slaters_247 rfl rfl rfl ?_
                    refine a_iconst (pc' := 249) (v := (2 : Int32)) dL_slaters_248 rfl (by decide) ?_
                    obtain ⟨hg, hf⟩ := f_grd_x hf
                    refine b_iald (pc' := 250) hz.2.2.2.2.2 hg dL_slaters_249 rfl ?_
                    refine a_iconst (pc' := 251) (v := (0 : Int32)) dL_slaters_250 rfl (by decide) ?_
                    obtain ⟨hg, hf⟩ := f_grd_x hf
                    refine b_iast (pc' := 252) hz.2.2.1 hg dL_slaters_251 rfl (fun h4036 hz1 hfr1 => ?_)
                    obtain ⟨hz1, hfr1⟩ := d_lw_s1 hz hz1 hfr1
                    obtain ⟨u4037, hf, hz⟩ := f_let_x (P := fun w => d_lw h4036 P w) hf hz1
                    replace hfr := d_fw.tr hfr hfr1
                    refine a_aload_n (pc' := 253) 5 dL_slaters_252 rfl rfl rfl ?_
                    refine a_iconst (pc' := 254) (v := (2 : Int32)) dL_slaters_253 rfl (by decide) ?_
                    refine a_dup2 (pc' := 255) dL_slaters_254 rfl rfl rfl ?_
                    obtain ⟨hg, hf⟩ := f_grd_x hf
                    refine b_iald (pc' := 256) hz.2.2.2.2.2 hg dL_slaters_255 rfl ?_
                    refine a_iconst (pc' := 257) (v := (1 : Int32)) dL_slaters_256 rfl (by decide) ?_
                    refine a_iadd (pc' := 258) dL_slaters_257 rfl ?_
                    obtain ⟨hg, hf⟩ := f_grd_x hf
                    refine b_iast (pc' := 259) hz.2.2.2.2.2 hg dL_slaters_258 rfl (fun h4038 hz1 hfr1 => ?_)
                    obtain ⟨hz1, hfr1⟩ := d_lw_s4 hz hz1 hfr1
                    obtain ⟨u4039, hf, hz⟩ := f_let_x (P := fun w => d_lw h4038 P w) hf hz1
                    replace hfr := d_fw.tr hfr hfr1
                    refine a_goto 3 dL_slaters_259 (by decide) ?_
                    refine a_sub [2, 3, 4, 5, 6] rfl ?_
                    exact ih _ _ _ hf hX0 hX1 hX2 _ hz hfr
                  · replace hf := (if_pos k4031).symm.trans hf
                    cases hf
                    refine a_sub [6] rfl ?_
                    exact hX1 _ rfl _ hz hfr
              · replace hf := (if_neg k4025).symm.trans hf
                refine a_aload_n (pc' := 151) 4 dL_slaters_150 rfl rfl rfl ?_
                refine a_aload_n (pc' := 152) 2 dL_slaters_151 rfl rfl rfl ?_
                refine a_iload (pc' := 154) 0 dL_slaters_152 rfl rfl ?_
                obtain ⟨hg, hf⟩ := f_grd_x hf
                refine b_iald (pc' := 155) hz.2.1 hg dL_slaters_154 rfl ?_
                obtain ⟨hg, hf⟩ := f_grd_x hf
                refine b_iald (pc' := 156) hz.2.2.2.1 hg dL_slaters_155 rfl ?_
                refine a_if_eq (pc' := 159) 166 dL_slaters_156 (by decide) rfl (fun k4040 => ?_) (fun k4040 => ?_)
                · replace hf := (if_pos k4040).symm.trans hf
                  cases hf
                  refine a_sub [6] rfl ?_
                  exact hX2 _ rfl _ hz hfr
                · replace hf := (if_neg k4040).symm.trans hf
                  refine a_aload_n (pc' := 160) 5 dL_slaters_159 rfl rfl rfl ?_
                  refine a_bipush (pc' := 162) (v := (7 : Int32)) dL_slaters_160 rfl (by decide) ?_
                  obtain ⟨hg, hf⟩ := f_grd_x hf
                  refine b_iald (pc' := 163) hz.2.2.2.2.2 hg dL_slaters_162 rfl ?_
                  refine a_if_ne (pc' := 166) 169 dL_slaters_163 (by decide) rfl (fun k4041 => ?_) (fun k4041 => ?_)
                  · replace hf := (if_neg k4041).symm.trans hf
                    refine a_aload_n (pc' := 170) 3 dL_slaters_169 rfl rfl rfl ?_
                    refine a_iload (pc' := 172) 0 dL_slaters_170 rfl rfl ?_
                    refine a_dup2 (pc' := 173) dL_slaters_172 rfl rfl rfl ?_
                    obtain ⟨hg, hf⟩ := f_grd_x hf
                    refine b_iald (pc' := 174) hz.2.2.1 hg dL_slaters_173 rfl ?_
                    refine a_iconst (pc' := 175) (v := (1 : Int32)) dL_slaters_174 rfl (by decide) ?_
                    refine a_iload (pc' := 177) 0 dL_slaters_175 rfl rfl ?_
                    refine a_aload_n (pc' := 178) 3 dL_slaters_177 rfl rfl rfl ?_
                    refine a_aload_n (pc' := 179) 5 dL_slaters_178 rfl rfl rfl ?_
                    obtain ⟨x4043, e4042, hf⟩ := Option.bind_eq_some_iff.mp hf
                    refine k_L_38 (pc' := 182) (c_L_gap l g F hz e4042) ⟨Nat.le_of_ble_eq_true rfl, Nat.le_of_ble_eq_true rfl⟩ (Nat.le_of_ble_eq_true rfl) dL_slaters_179 rfl ?_
                    refine a_ishl (pc' := 183) dL_slaters_182 rfl ?_
                    refine a_ior (pc' := 184) dL_slaters_183 rfl ?_
                    obtain ⟨hg, hf⟩ := f_grd_x hf
                    refine b_iast (pc' := 185) hz.2.2.1 hg dL_slaters_184 rfl (fun h4044 hz1 hfr1 => ?_)
                    obtain ⟨hz1, hfr1⟩ := d_lw_s1 hz hz1 hfr1
                    obtain ⟨u4045, hf, hz⟩ := f_let_x (P := fun w => d_lw h4044 P w) hf hz1
                    replace hfr := d_fw.tr hfr hfr1
                    refine a_aload_n (pc' := 186) 4 dL_slaters_185 rfl rfl rfl ?_
                    refine a_aload_n (pc' := 187) 2 dL_slaters_186 rfl rfl rfl ?_
                    refine a_iload (pc' := 189) 0 dL_slaters_187 rfl rfl ?_
                    obtain ⟨hg, hf⟩ := f_grd_x hf
                    refine b_iald (pc' := 190) hz.2.1 hg dL_slaters_189 rfl ?_
                    refine a_dup2 (pc' := 191) dL_slaters_190 rfl rfl rfl ?_
                    obtain ⟨hg, hf⟩ := f_grd_x hf
                    refine b_iald (pc' := 192) hz.2.2.2.1 hg dL_slaters_191 rfl ?_
                    refine a_iconst (pc' := 193) (v := (1 : Int32)) dL_slaters_192 rfl (by decide) ?_
                    refine a_isub (pc' := 194) dL_slaters_193 rfl ?_
                    obtain ⟨hg, hf⟩ := f_grd_x hf
                    refine b_iast (pc' := 195) hz.2.2.2.1 hg dL_slaters_194 rfl (fun h4046 hz1 hfr1 => ?_)
                    obtain ⟨hz1, hfr1⟩ := d_lw_s2 hz hz1 hfr1
                    obtain ⟨u4047, hf, hz⟩ := f_let_x (P := fun w => d_lw h4046 P w) hf hz1
                    replace hfr := d_fw.tr hfr hfr1
                    refine a_aload_n (pc' := 196) 5 dL_slaters_195 rfl rfl rfl ?_
                    refine a_bipush (pc' := 198) (v := (7 : Int32)) dL_slaters_196 rfl (by decide) ?_
                    refine a_dup2 (pc' := 199) dL_slaters_198 rfl rfl rfl ?_
                    obtain ⟨hg, hf⟩ := f_grd_x hf
                    refine b_iald (pc' := 200) hz.2.2.2.2.2 hg dL_slaters_199 rfl ?_
                    refine a_iconst (pc' := 201) (v := (1 : Int32)) dL_slaters_200 rfl (by decide) ?_
                    refine a_isub (pc' := 202) dL_slaters_201 rfl ?_
                    obtain ⟨hg, hf⟩ := f_grd_x hf
                    refine b_iast (pc' := 203) hz.2.2.2.2.2 hg dL_slaters_202 rfl (fun h4048 hz1 hfr1 => ?_)
                    obtain ⟨hz1, hfr1⟩ := d_lw_s4 hz hz1 hfr1
                    obtain ⟨u4049, hf, hz⟩ := f_let_x (P := fun w => d_lw h4048 P w) hf hz1
                    replace hfr := d_fw.tr hfr hfr1
                    refine a_iinc (pc' := 206) (v := v4_3 + (1 : Int32)) (ls' := [(4, .int (v4_3 + (1 : Int32))), (7, .int ((u_3.2.2.2.2 ((2 : Int32)).toNatClampNeg) - ((1 : Int32)))), (6, .int j4005), (0, .ref P.1), (1, .ref P.2.1), (2, .ref P.2.2.1), (3, .ref P.2.2.2.2), (5, .int o4003)]) 6 dL_slaters_203 rfl (by rfl) (by decide) rfl rfl ?_
                    refine a_goto 3 dL_slaters_206 (by decide) ?_
                    refine a_sub [3, 4, 5, 6, 0] rfl ?_
                    exact ih _ _ _ hf hX0 hX1 hX2 _ hz hfr
                  · replace hf := (if_pos k4041).symm.trans hf
                    cases hf
                    refine a_sub [6] rfl ?_
                    exact hX2 _ rfl _ hz hfr
          · replace hf := (if_neg k4007).symm.trans hf
            refine a_aload_n (pc' := 72) 3 dL_slaters_71 rfl rfl rfl ?_
            refine a_aload_n (pc' := 73) 1 dL_slaters_72 rfl rfl rfl ?_
            refine a_iload (pc' := 75) 6 dL_slaters_73 rfl rfl ?_
            obtain ⟨hg, hf⟩ := f_grd_x hf
            refine b_iald (pc' := 76) hz.2.1 hg dL_slaters_75 rfl ?_
            obtain ⟨hg, hf⟩ := f_grd_x hf
            refine b_iald (pc' := 77) hz.2.2.2.1 hg dL_slaters_76 rfl ?_
            refine a_if_le (pc' := 80) 128 dL_slaters_77 (by decide) rfl (fun k4050 => ?_) (fun k4050 => ?_)
            · replace hf := (if_pos k4050).symm.trans hf
              refine a_aload_n (pc' := 129) 4 dL_slaters_128 rfl rfl rfl ?_
              refine a_iconst (pc' := 130) (v := (2 : Int32)) dL_slaters_129 rfl (by decide) ?_
              obtain ⟨hg, hf⟩ := f_grd_x hf
              refine b_iald (pc' := 131) hz.2.2.2.2.2 hg dL_slaters_130 rfl ?_
              refine a_iconst (pc' := 132) (v := (1 : Int32)) dL_slaters_131 rfl (by decide) ?_
              refine a_isub (pc' := 133) dL_slaters_132 rfl ?_
              refine a_istore (pc' := 135) (ls' := [(7, .int ((u_3.2.2.2.2 ((2 : Int32)).toNatClampNeg) - ((1 : Int32)))), (6, .int j4005), (0, .ref P.1), (1, .ref P.2.1), (2, .ref P.2.2.1), (3, .ref P.2.2.2.2), (4, .int v4_3), (5, .int o4003)]) dL_slaters_133 (by decide) rfl rfl ?_
              refine a_iload (pc' := 137) 0 dL_slaters_135 rfl rfl ?_
              refine a_if_lt (pc' := 140) 209 dL_slaters_137 (by decide) rfl (fun k4051 => ?_) (fun k4051 => ?_)
              · replace hf := (if_pos k4051).symm.trans hf
                refine a_aload_n (pc' := 210) 5 dL_slaters_209 rfl rfl rfl ?_
                refine a_iconst (pc' := 211) (v := (2 : Int32)) dL_slaters_210 rfl (by decide) ?_
                obtain ⟨hg, hf⟩ := f_grd_x hf
                refine b_iald (pc' := 212) hz.2.2.2.2.2 hg dL_slaters_211 rfl ?_
                refine a_aload_n (pc' := 213) 2 dL_slaters_212 rfl rfl rfl ?_
                refine a_aload_n (pc' := 214) 5 dL_slaters_213 rfl rfl rfl ?_
                obtain ⟨x4053, e4052, hf⟩ := Option.bind_eq_some_iff.mp hf
                refine k_L_19 (pc' := 217) (c_L_top l g F hz e4052) ⟨Nat.le_of_ble_eq_true rfl, Nat.le_of_ble_eq_true rfl⟩ (Nat.le_of_ble_eq_true rfl) dL_slaters_214 rfl ?_
                refine a_aload_n (pc' := 218) 5 dL_slaters_217 rfl rfl rfl ?_
                refine a_iconst (pc' := 219) (v := (0 : Int32)) dL_slaters_218 rfl (by decide) ?_
                obtain ⟨hg, hf⟩ := f_grd_x hf
                refine b_iald (pc' := 220) hz.2.2.2.2.2 hg dL_slaters_219 rfl ?_
                refine a_icmp_ge (pc' := 223) 232 dL_slaters_220 (by decide) rfl (fun k4054 => ?_) (fun k4054 => ?_)
                · replace hf := (if_pos k4054).symm.trans hf
                  cases hf
                  refine a_sub [6] rfl ?_
                  exact hX1 _ rfl _ hz hfr
                · replace hf := (if_neg k4054).symm.trans hf
                  refine a_aload_n (pc' := 224) 4 dL_slaters_223 rfl rfl rfl ?_
                  refine a_aload_n (pc' := 225) 2 dL_slaters_224 rfl rfl rfl ?_
                  refine a_aload_n (pc' := 226) 5 dL_slaters_225 rfl rfl rfl ?_
                  obtain ⟨x4056, e4055, hf⟩ := Option.bind_eq_some_iff.mp hf
                  refine k_L_41 (pc' := 229) (c_L_next l g F hz e4055) ⟨Nat.le_of_ble_eq_true rfl, Nat.le_of_ble_eq_true rfl⟩ (Nat.le_of_ble_eq_true rfl) dL_slaters_226 rfl ?_
                  refine a_if_ne (pc' := 232) 235 dL_slaters_229 (by decide) rfl (fun k4057 => ?_) (fun k4057 => ?_)
                  · replace hf := (if_neg k4057).symm.trans hf
                    refine a_aload_n (pc' := 236) 2 dL_slaters_235 rfl rfl rfl ?_
                    refine a_aload_n (pc' := 237) 5 dL_slaters_236 rfl rfl rfl ?_
                    refine a_iconst (pc' := 238) (v := (2 : Int32)) dL_slaters_237 rfl (by decide) ?_
                    obtain ⟨hg, hf⟩ := f_grd_x hf
                    refine b_iald (pc' := 239) hz.2.2.2.2.2 hg dL_slaters_238 rfl ?_
                    refine a_aload_n (pc' := 240) 4 dL_slaters_239 rfl rfl rfl ?_
                    refine a_aload_n (pc' := 241) 2 dL_slaters_240 rfl rfl rfl ?_
                    refine a_aload_n (pc' := 242) 5 dL_slaters_241 rfl rfl rfl ?_
                    obtain ⟨x4059, e4058, hf⟩ := Option.bind_eq_some_iff.mp hf
                    refine k_L_41 (pc' := 245) (c_L_next l g F hz e4058) ⟨Nat.le_of_ble_eq_true rfl, Nat.le_of_ble_eq_true rfl⟩ (Nat.le_of_ble_eq_true rfl) dL_slaters_242 rfl ?_
                    obtain ⟨hg, hf⟩ := f_grd_x hf
                    refine b_iast (pc' := 246) hz.2.1 hg dL_slaters_245 rfl (fun h4060 hz1 hfr1 => ?_)
                    obtain ⟨hz1, hfr1⟩ := d_lw_s0 hz hz1 hfr1
                    obtain ⟨u4061, hf, hz⟩ := f_let_x (P := fun w => d_lw h4060 P w) hf hz1
                    replace hfr := d_fw.tr hfr hfr1
                    refine a_aload_n (pc' := 247) 3 dL_slaters_246 rfl rfl rfl ?_
                    refine a_aload_n (pc' := 248) 5 dL_slaters_247 rfl rfl rfl ?_
                    refine a_iconst (pc' := 249) (v := (2 : Int32)) dL_slaters_248 rfl (by decide) ?_
                    obtain ⟨hg, hf⟩ := f_grd_x hf
                    refine b_iald (pc' := 250) hz.2.2.2.2.2 hg dL_slaters_249 rfl ?_
                    refine a_iconst (pc' := 251) (v := (0 : Int32)) dL_slaters_250 rfl (by decide) ?_
                    obtain ⟨hg, hf⟩ := f_grd_x hf
                    refine b_iast (pc' := 252) hz.2.2.1 hg dL_slaters_251 rfl (fun h4062 hz1 hfr1 => ?_)
                    obtain ⟨hz1, hfr1⟩ := d_lw_s1 hz hz1 hfr1
                    obtain ⟨u4063, hf, hz⟩ := f_let_x (P := fun w => d_lw h4062 P w) hf hz1
                    replace hfr := d_fw.tr hfr hfr1
                    refine a_aload_n (pc' := 253) 5 dL_slaters_252 rfl rfl rfl ?_
                    refine a_iconst (pc' := 254) (v := (2 : Int32)) dL_slaters_253 rfl (by decide) ?_
                    refine a_dup2 (pc' := 255) dL_slaters_254 rfl rfl rfl ?_
                    obtain ⟨hg, hf⟩ := f_grd_x hf
                    refine b_iald (pc' := 256) hz.2.2.2.2.2 hg dL_slaters_255 rfl ?_
                    refine a_iconst (pc' := 257) (v := (1 : Int32)) dL_slaters_256 rfl (by decide) ?_
                    refine a_iadd (pc' := 258) dL_slaters_257 rfl ?_
                    obtain ⟨hg, hf⟩ := f_grd_x hf
                    refine b_iast (pc' := 259) hz.2.2.2.2.2 hg dL_slaters_258 rfl (fun h4064 hz1 hfr1 => ?_)
                    obtain ⟨hz1, hfr1⟩ := d_lw_s4 hz hz1 hfr1
                    obtain ⟨u4065, hf, hz⟩ := f_let_x (P := fun w => d_lw h4064 P w) hf hz1
                    replace hfr := d_fw.tr hfr hfr1
                    refine a_goto 3 dL_slaters_259 (by decide) ?_
                    refine a_sub [2, 3, 4, 5, 6] rfl ?_
                    exact ih _ _ _ hf hX0 hX1 hX2 _ hz hfr
                  · replace hf := (if_pos k4057).symm.trans hf
                    cases hf
                    refine a_sub [6] rfl ?_
                    exact hX1 _ rfl _ hz hfr
              · replace hf := (if_neg k4051).symm.trans hf
                refine a_iload (pc' := 142) 0 dL_slaters_140 rfl rfl ?_
                refine a_aload_n (pc' := 143) 3 dL_slaters_142 rfl rfl rfl ?_
                refine a_aload_n (pc' := 144) 5 dL_slaters_143 rfl rfl rfl ?_
                obtain ⟨x4067, e4066, hf⟩ := Option.bind_eq_some_iff.mp hf
                refine k_L_38 (pc' := 147) (c_L_gap l g F hz e4066) ⟨Nat.le_of_ble_eq_true rfl, Nat.le_of_ble_eq_true rfl⟩ (Nat.le_of_ble_eq_true rfl) dL_slaters_144 rfl ?_
                refine a_if_lt (pc' := 150) 209 dL_slaters_147 (by decide) rfl (fun k4068 => ?_) (fun k4068 => ?_)
                · replace hf := (if_pos k4068).symm.trans hf
                  refine a_aload_n (pc' := 210) 5 dL_slaters_209 rfl rfl rfl ?_
                  refine a_iconst (pc' := 211) (v := (2 : Int32)) dL_slaters_210 rfl (by decide) ?_
                  obtain ⟨hg, hf⟩ := f_grd_x hf
                  refine b_iald (pc' := 212) hz.2.2.2.2.2 hg dL_slaters_211 rfl ?_
                  refine a_aload_n (pc' := 213) 2 dL_slaters_212 rfl rfl rfl ?_
                  refine a_aload_n (pc' := 214) 5 dL_slaters_213 rfl rfl rfl ?_
                  obtain ⟨x4070, e4069, hf⟩ := Option.bind_eq_some_iff.mp hf
                  refine k_L_19 (pc' := 217) (c_L_top l g F hz e4069) ⟨Nat.le_of_ble_eq_true rfl, Nat.le_of_ble_eq_true rfl⟩ (Nat.le_of_ble_eq_true rfl) dL_slaters_214 rfl ?_
                  refine a_aload_n (pc' := 218) 5 dL_slaters_217 rfl rfl rfl ?_
                  refine a_iconst (pc' := 219) (v := (0 : Int32)) dL_slaters_218 rfl (by decide) ?_
                  obtain ⟨hg, hf⟩ := f_grd_x hf
                  refine b_iald (pc' := 220) hz.2.2.2.2.2 hg dL_slaters_219 rfl ?_
                  refine a_icmp_ge (pc' := 223) 232 dL_slaters_220 (by decide) rfl (fun k4071 => ?_) (fun k4071 => ?_)
                  · replace hf := (if_pos k4071).symm.trans hf
                    cases hf
                    refine a_sub [6] rfl ?_
                    exact hX1 _ rfl _ hz hfr
                  · replace hf := (if_neg k4071).symm.trans hf
                    refine a_aload_n (pc' := 224) 4 dL_slaters_223 rfl rfl rfl ?_
                    refine a_aload_n (pc' := 225) 2 dL_slaters_224 rfl rfl rfl ?_
                    refine a_aload_n (pc' := 226) 5 dL_slaters_225 rfl rfl rfl ?_
                    obtain ⟨x4073, e4072, hf⟩ := Option.bind_eq_some_iff.mp hf
                    refine k_L_41 (pc' := 229) (c_L_next l g F hz e4072) ⟨Nat.le_of_ble_eq_true rfl, Nat.le_of_ble_eq_true rfl⟩ (Nat.le_of_ble_eq_true rfl) dL_slaters_226 rfl ?_
                    refine a_if_ne (pc' := 232) 235 dL_slaters_229 (by decide) rfl (fun k4074 => ?_) (fun k4074 => ?_)
                    · replace hf := (if_neg k4074).symm.trans hf
                      refine a_aload_n (pc' := 236) 2 dL_slaters_235 rfl rfl rfl ?_
                      refine a_aload_n (pc' := 237) 5 dL_slaters_236 rfl rfl rfl ?_
                      refine a_iconst (pc' := 238) (v := (2 : Int32)) dL_slaters_237 rfl (by decide) ?_
                      obtain ⟨hg, hf⟩ := f_grd_x hf
                      refine b_iald (pc' := 239) hz.2.2.2.2.2 hg dL_slaters_238 rfl ?_
                      refine a_aload_n (pc' := 240) 4 dL_slaters_239 rfl rfl rfl ?_
                      refine a_aload_n (pc' := 241) 2 dL_slaters_240 rfl rfl rfl ?_
                      refine a_aload_n (pc' := 242) 5 dL_slaters_241 rfl rfl rfl ?_
                      obtain ⟨x4076, e4075, hf⟩ := Option.bind_eq_some_iff.mp hf
                      refine k_L_41 (pc' := 245) (c_L_next l g F hz e4075) ⟨Nat.le_of_ble_eq_true rfl, Nat.le_of_ble_eq_true rfl⟩ (Nat.le_of_ble_eq_true rfl) dL_slaters_242 rfl ?_
                      obtain ⟨hg, hf⟩ := f_grd_x hf
                      refine b_iast (pc' := 246) hz.2.1 hg dL_slaters_245 rfl (fun h4077 hz1 hfr1 => ?_)
                      obtain ⟨hz1, hfr1⟩ := d_lw_s0 hz hz1 hfr1
                      obtain ⟨u4078, hf, hz⟩ := f_let_x (P := fun w => d_lw h4077 P w) hf hz1
                      replace hfr := d_fw.tr hfr hfr1
                      refine a_aload_n (pc' := 247) 3 dL_slaters_246 rfl rfl rfl ?_
                      refine a_aload_n (pc' := 248) 5 dL_slaters_247 rfl rfl rfl ?_
                      refine a_iconst (pc' := 249) (v := (2 : Int32)) dL_slaters_248 rfl (by decide) ?_
                      obtain ⟨hg, hf⟩ := f_grd_x hf
                      refine b_iald (pc' := 250) hz.2.2.2.2.2 hg dL_slaters_249 rfl ?_
                      refine a_iconst (pc' := 251) (v := (0 : Int32)) dL_slaters_250 rfl (by decide) ?_
                      obtain ⟨hg, hf⟩ := f_grd_x hf
                      refine b_iast (pc' := 252) hz.2.2.1 hg dL_slaters_251 rfl (fun h4079 hz1 hfr1 => ?_)
                      obtain ⟨hz1, hfr1⟩ := d_lw_s1 hz hz1 hfr1
                      obtain ⟨u4080, hf, hz⟩ := f_let_x (P := fun w => d_lw h4079 P w) hf hz1
                      replace hfr := d_fw.tr hfr hfr1
                      refine a_aload_n (pc' := 253) 5 dL_slaters_252 rfl rfl rfl ?_
                      refine a_iconst (pc' := 254) (v := (2 : Int32)) dL_slaters_253 rfl (by decide) ?_
                      refine a_dup2 (pc' := 255) dL_slaters_254 rfl rfl rfl ?_
                      obtain ⟨hg, hf⟩ := f_grd_x hf
                      refine b_iald (pc' := 256) hz.2.2.2.2.2 hg dL_slaters_255 rfl ?_
                      refine a_iconst (pc' := 257) (v := (1 : Int32)) dL_slaters_256 rfl (by decide) ?_
                      refine a_iadd (pc' := 258) dL_slaters_257 rfl ?_
                      obtain ⟨hg, hf⟩ := f_grd_x hf
                      refine b_iast (pc' := 259) hz.2.2.2.2.2 hg dL_slaters_258 rfl (fun h4081 hz1 hfr1 => ?_)
                      obtain ⟨hz1, hfr1⟩ := d_lw_s4 hz hz1 hfr1
                      obtain ⟨u4082, hf, hz⟩ := f_let_x (P := fun w => d_lw h4081 P w) hf hz1
                      replace hfr := d_fw.tr hfr hfr1
                      refine a_goto 3 dL_slaters_259 (by decide) ?_
                      refine a_sub [2, 3, 4, 5, 6] rfl ?_
                      exact ih _ _ _ hf hX0 hX1 hX2 _ hz hfr
                    · replace hf := (if_pos k4074).symm.trans hf
                      cases hf
                      refine a_sub [6] rfl ?_
                      exact hX1 _ rfl _ hz hfr
                · replace hf := (if_neg k4068).symm.trans hf
                  refine a_aload_n (pc' := 151) 4 dL_slaters_150 rfl rfl rfl ?_
                  refine a_aload_n (pc' := 152) 2 dL_slaters_151 rfl rfl rfl ?_
                  refine a_iload (pc' := 154) 0 dL_slaters_152 rfl rfl ?_
                  obtain ⟨hg, hf⟩ := f_grd_x hf
                  refine b_iald (pc' := 155) hz.2.1 hg dL_slaters_154 rfl ?_
                  obtain ⟨hg, hf⟩ := f_grd_x hf
                  refine b_iald (pc' := 156) hz.2.2.2.1 hg dL_slaters_155 rfl ?_
                  refine a_if_eq (pc' := 159) 166 dL_slaters_156 (by decide) rfl (fun k4083 => ?_) (fun k4083 => ?_)
                  · replace hf := (if_pos k4083).symm.trans hf
                    cases hf
                    refine a_sub [6] rfl ?_
                    exact hX2 _ rfl _ hz hfr
                  · replace hf := (if_neg k4083).symm.trans hf
                    refine a_aload_n (pc' := 160) 5 dL_slaters_159 rfl rfl rfl ?_
                    refine a_bipush (pc' := 162) (v := (7 : Int32)) dL_slaters_160 rfl (by decide) ?_
                    obtain ⟨hg, hf⟩ := f_grd_x hf
                    refine b_iald (pc' := 163) hz.2.2.2.2.2 hg dL_slaters_162 rfl ?_
                    refine a_if_ne (pc' := 166) 169 dL_slaters_163 (by decide) rfl (fun k4084 => ?_) (fun k4084 => ?_)
                    · replace hf := (if_neg k4084).symm.trans hf
                      refine a_aload_n (pc' := 170) 3 dL_slaters_169 rfl rfl rfl ?_
                      refine a_iload (pc' := 172) 0 dL_slaters_170 rfl rfl ?_
                      refine a_dup2 (pc' := 173) dL_slaters_172 rfl rfl rfl ?_
                      obtain ⟨hg, hf⟩ := f_grd_x hf
                      refine b_iald (pc' := 174) hz.2.2.1 hg dL_slaters_173 rfl ?_
                      refine a_iconst (pc' := 175) (v := (1 : Int32)) dL_slaters_174 rfl (by decide) ?_
                      refine a_iload (pc' := 177) 0 dL_slaters_175 rfl rfl ?_
                      refine a_aload_n (pc' := 178) 3 dL_slaters_177 rfl rfl rfl ?_
                      refine a_aload_n (pc' := 179) 5 dL_slaters_178 rfl rfl rfl ?_
                      obtain ⟨x4086, e4085, hf⟩ := Option.bind_eq_some_iff.mp hf
                      refine k_L_38 (pc' := 182) (c_L_gap l g F hz e4085) ⟨Nat.le_of_ble_eq_true rfl, Nat.le_of_ble_eq_true rfl⟩ (Nat.le_of_ble_eq_true rfl) dL_slaters_179 rfl ?_
                      refine a_ishl (pc' := 183) dL_slaters_182 rfl ?_
                      refine a_ior (pc' := 184) dL_slaters_183 rfl ?_
                      obtain ⟨hg, hf⟩ := f_grd_x hf
                      refine b_iast (pc' := 185) hz.2.2.1 hg dL_slaters_184 rfl (fun h4087 hz1 hfr1 => ?_)
                      obtain ⟨hz1, hfr1⟩ := d_lw_s1 hz hz1 hfr1
                      obtain ⟨u4088, hf, hz⟩ := f_let_x (P := fun w => d_lw h4087 P w) hf hz1
                      replace hfr := d_fw.tr hfr hfr1
                      refine a_aload_n (pc' := 186) 4 dL_slaters_185 rfl rfl rfl ?_
                      refine a_aload_n (pc' := 187) 2 dL_slaters_186 rfl rfl rfl ?_
                      refine a_iload (pc' := 189) 0 dL_slaters_187 rfl rfl ?_
                      obtain ⟨hg, hf⟩ := f_grd_x hf
                      refine b_iald (pc' := 190) hz.2.1 hg dL_slaters_189 rfl ?_
                      refine a_dup2 (pc' := 191) dL_slaters_190 rfl rfl rfl ?_
                      obtain ⟨hg, hf⟩ := f_grd_x hf
                      refine b_iald (pc' := 192) hz.2.2.2.1 hg dL_slaters_191 rfl ?_
                      refine a_iconst (pc' := 193) (v := (1 : Int32)) dL_slaters_192 rfl (by decide) ?_
                      refine a_isub (pc' := 194) dL_slaters_193 rfl ?_
                      obtain ⟨hg, hf⟩ := f_grd_x hf
                      refine b_iast (pc' := 195) hz.2.2.2.1 hg dL_slaters_194 rfl (fun h4089 hz1 hfr1 => ?_)
                      obtain ⟨hz1, hfr1⟩ := d_lw_s2 hz hz1 hfr1
                      obtain ⟨u4090, hf, hz⟩ := f_let_x (P := fun w => d_lw h4089 P w) hf hz1
                      replace hfr := d_fw.tr hfr hfr1
                      refine a_aload_n (pc' := 196) 5 dL_slaters_195 rfl rfl rfl ?_
                      refine a_bipush (pc' := 198) (v := (7 : Int32)) dL_slaters_196 rfl (by decide) ?_
                      refine a_dup2 (pc' := 199) dL_slaters_198 rfl rfl rfl ?_
                      obtain ⟨hg, hf⟩ := f_grd_x hf
                      refine b_iald (pc' := 200) hz.2.2.2.2.2 hg dL_slaters_199 rfl ?_
                      refine a_iconst (pc' := 201) (v := (1 : Int32)) dL_slaters_200 rfl (by decide) ?_
                      refine a_isub (pc' := 202) dL_slaters_201 rfl ?_
                      obtain ⟨hg, hf⟩ := f_grd_x hf
                      refine b_iast (pc' := 203) hz.2.2.2.2.2 hg dL_slaters_202 rfl (fun h4091 hz1 hfr1 => ?_)
                      obtain ⟨hz1, hfr1⟩ := d_lw_s4 hz hz1 hfr1
                      obtain ⟨u4092, hf, hz⟩ := f_let_x (P := fun w => d_lw h4091 P w) hf hz1
                      replace hfr := d_fw.tr hfr hfr1
                      refine a_iinc (pc' := 206) (v := v4_3 + (1 : Int32)) (ls' := [(4, .int (v4_3 + (1 : Int32))), (7, .int ((u_3.2.2.2.2 ((2 : Int32)).toNatClampNeg) - ((1 : Int32)))), (6, .int j4005), (0, .ref P.1), (1, .ref P.2.1), (2, .ref P.2.2.1), (3, .ref P.2.2.2.2), (5, .int o4003)]) 6 dL_slaters_203 rfl (by rfl) (by decide) rfl rfl ?_
                      refine a_goto 3 dL_slaters_206 (by decide) ?_
                      refine a_sub [3, 4, 5, 6, 0] rfl ?_
                      exact ih _ _ _ hf hX0 hX1 hX2 _ hz hfr
                    · replace hf := (if_pos k4084).symm.trans hf
                      cases hf
                      refine a_sub [6] rfl ?_
                      exact hX2 _ rfl _ hz hfr
            · replace hf := (if_neg k4050).symm.trans hf
              refine a_aload_n (pc' := 81) 4 dL_slaters_80 rfl rfl rfl ?_
              refine a_bipush (pc' := 83) (v := (7 : Int32)) dL_slaters_81 rfl (by decide) ?_
              obtain ⟨hg, hf⟩ := f_grd_x hf
              refine b_iald (pc' := 84) hz.2.2.2.2.2 hg dL_slaters_83 rfl ?_
              refine a_iconst (pc' := 85) (v := (2 : Int32)) dL_slaters_84 rfl (by decide) ?_
              refine a_icmp_le (pc' := 88) 128 dL_slaters_85 (by decide) rfl (fun k4093 => ?_) (fun k4093 => ?_)
              · replace hf := (if_pos k4093).symm.trans hf
                refine a_aload_n (pc' := 129) 4 dL_slaters_128 rfl rfl rfl ?_
                refine a_iconst (pc' := 130) (v := (2 : Int32)) dL_slaters_129 rfl (by decide) ?_
                obtain ⟨hg, hf⟩ := f_grd_x hf
                refine b_iald (pc' := 131) hz.2.2.2.2.2 hg dL_slaters_130 rfl ?_
                refine a_iconst (pc' := 132) (v := (1 : Int32)) dL_slaters_131 rfl (by decide) ?_
                refine a_isub (pc' := 133) dL_slaters_132 rfl ?_
                refine a_istore (pc' := 135) (ls' := [(7, .int ((u_3.2.2.2.2 ((2 : Int32)).toNatClampNeg) - ((1 : Int32)))), (6, .int j4005), (0, .ref P.1), (1, .ref P.2.1), (2, .ref P.2.2.1), (3, .ref P.2.2.2.2), (4, .int v4_3), (5, .int o4003)]) dL_slaters_133 (by decide) rfl rfl ?_
                refine a_iload (pc' := 137) 0 dL_slaters_135 rfl rfl ?_
                refine a_if_lt (pc' := 140) 209 dL_slaters_137 (by decide) rfl (fun k4094 => ?_) (fun k4094 => ?_)
                · replace hf := (if_pos k4094).symm.trans hf
                  refine a_aload_n (pc' := 210) 5 dL_slaters_209 rfl rfl rfl ?_
                  refine a_iconst (pc' := 211) (v := (2 : Int32)) dL_slaters_210 rfl (by decide) ?_
                  obtain ⟨hg, hf⟩ := f_grd_x hf
                  refine b_iald (pc' := 212) hz.2.2.2.2.2 hg dL_slaters_211 rfl ?_
                  refine a_aload_n (pc' := 213) 2 dL_slaters_212 rfl rfl rfl ?_
                  refine a_aload_n (pc' := 214) 5 dL_slaters_213 rfl rfl rfl ?_
                  obtain ⟨x4096, e4095, hf⟩ := Option.bind_eq_some_iff.mp hf
                  refine k_L_19 (pc' := 217) (c_L_top l g F hz e4095) ⟨Nat.le_of_ble_eq_true rfl, Nat.le_of_ble_eq_true rfl⟩ (Nat.le_of_ble_eq_true rfl) dL_slaters_214 rfl ?_
                  refine a_aload_n (pc' := 218) 5 dL_slaters_217 rfl rfl rfl ?_
                  refine a_iconst (pc' := 219) (v := (0 : Int32)) dL_slaters_218 rfl (by decide) ?_
                  obtain ⟨hg, hf⟩ := f_grd_x hf
                  refine b_iald (pc' := 220) hz.2.2.2.2.2 hg dL_slaters_219 rfl ?_
                  refine a_icmp_ge (pc' := 223) 232 dL_slaters_220 (by decide) rfl (fun k4097 => ?_) (fun k4097 => ?_)
                  · replace hf := (if_pos k4097).symm.trans hf
                    cases hf
                    refine a_sub [6] rfl ?_
                    exact hX1 _ rfl _ hz hfr
                  · replace hf := (if_neg k4097).symm.trans hf
                    refine a_aload_n (pc' := 224) 4 dL_slaters_223 rfl rfl rfl ?_
                    refine a_aload_n (pc' := 225) 2 dL_slaters_224 rfl rfl rfl ?_
                    refine a_aload_n (pc' := 226) 5 dL_slaters_225 rfl rfl rfl ?_
                    obtain ⟨x4099, e4098, hf⟩ := Option.bind_eq_some_iff.mp hf
                    refine k_L_41 (pc' := 229) (c_L_next l g F hz e4098) ⟨Nat.le_of_ble_eq_true rfl, Nat.le_of_ble_eq_true rfl⟩ (Nat.le_of_ble_eq_true rfl) dL_slaters_226 rfl ?_
                    refine a_if_ne (pc' := 232) 235 dL_slaters_229 (by decide) rfl (fun k4100 => ?_) (fun k4100 => ?_)
                    · replace hf := (if_neg k4100).symm.trans hf
                      refine a_aload_n (pc' := 236) 2 dL_slaters_235 rfl rfl rfl ?_
                      refine a_aload_n (pc' := 237) 5 dL_slaters_236 rfl rfl rfl ?_
                      refine a_iconst (pc' := 238) (v := (2 : Int32)) dL_slaters_237 rfl (by decide) ?_
                      obtain ⟨hg, hf⟩ := f_grd_x hf
                      refine b_iald (pc' := 239) hz.2.2.2.2.2 hg dL_slaters_238 rfl ?_
                      refine a_aload_n (pc' := 240) 4 dL_slaters_239 rfl rfl rfl ?_
                      refine a_aload_n (pc' := 241) 2 dL_slaters_240 rfl rfl rfl ?_
                      refine a_aload_n (pc' := 242) 5 dL_slaters_241 rfl rfl rfl ?_
                      obtain ⟨x4102, e4101, hf⟩ := Option.bind_eq_some_iff.mp hf
                      refine k_L_41 (pc' := 245) (c_L_next l g F hz e4101) ⟨Nat.le_of_ble_eq_true rfl, Nat.le_of_ble_eq_true rfl⟩ (Nat.le_of_ble_eq_true rfl) dL_slaters_242 rfl ?_
                      obtain ⟨hg, hf⟩ := f_grd_x hf
                      refine b_iast (pc' := 246) hz.2.1 hg dL_slaters_245 rfl (fun h4103 hz1 hfr1 => ?_)
                      obtain ⟨hz1, hfr1⟩ := d_lw_s0 hz hz1 hfr1
                      obtain ⟨u4104, hf, hz⟩ := f_let_x (P := fun w => d_lw h4103 P w) hf hz1
                      replace hfr := d_fw.tr hfr hfr1
                      refine a_aload_n (pc' := 247) 3 dL_slaters_246 rfl rfl rfl ?_
                      refine a_aload_n (pc' := 248) 5 dL_slaters_247 rfl rfl rfl ?_
                      refine a_iconst (pc' := 249) (v := (2 : Int32)) dL_slaters_248 rfl (by decide) ?_
                      obtain ⟨hg, hf⟩ := f_grd_x hf
                      refine b_iald (pc' := 250) hz.2.2.2.2.2 hg dL_slaters_249 rfl ?_
                      refine a_iconst (pc' := 251) (v := (0 : Int32)) dL_slaters_250 rfl (by decide) ?_
                      obtain ⟨hg, hf⟩ := f_grd_x hf
                      refine b_iast (pc' := 252) hz.2.2.1 hg dL_slaters_251 rfl (fun h4105 hz1 hfr1 => ?_)
                      obtain ⟨hz1, hfr1⟩ := d_lw_s1 hz hz1 hfr1
                      obtain ⟨u4106, hf, hz⟩ := f_let_x (P := fun w => d_lw h4105 P w) hf hz1
                      replace hfr := d_fw.tr hfr hfr1
                      refine a_aload_n (pc' := 253) 5 dL_slaters_252 rfl rfl rfl ?_
                      refine a_iconst (pc' := 254) (v := (2 : Int32)) dL_slaters_253 rfl (by decide) ?_
                      refine a_dup2 (pc' := 255) dL_slaters_254 rfl rfl rfl ?_
                      obtain ⟨hg, hf⟩ := f_grd_x hf
                      refine b_iald (pc' := 256) hz.2.2.2.2.2 hg dL_slaters_255 rfl ?_
                      refine a_iconst (pc' := 257) (v := (1 : Int32)) dL_slaters_256 rfl (by decide) ?_
                      refine a_iadd (pc' := 258) dL_slaters_257 rfl ?_
                      obtain ⟨hg, hf⟩ := f_grd_x hf
                      refine b_iast (pc' := 259) hz.2.2.2.2.2 hg dL_slaters_258 rfl (fun h4107 hz1 hfr1 => ?_)
                      obtain ⟨hz1, hfr1⟩ := d_lw_s4 hz hz1 hfr1
                      obtain ⟨u4108, hf, hz⟩ := f_let_x (P := fun w => d_lw h4107 P w) hf hz1
                      replace hfr := d_fw.tr hfr hfr1
                      refine a_goto 3 dL_slaters_259 (by decide) ?_
                      refine a_sub [2, 3, 4, 5, 6] rfl ?_
                      exact ih _ _ _ hf hX0 hX1 hX2 _ hz hfr
                    · replace hf := (if_pos k4100).symm.trans hf
                      cases hf
                      refine a_sub [6] rfl ?_
                      exact hX1 _ rfl _ hz hfr
                · replace hf := (if_neg k4094).symm.trans hf
                  refine a_iload (pc' := 142) 0 dL_slaters_140 rfl rfl ?_
                  refine a_aload_n (pc' := 143) 3 dL_slaters_142 rfl rfl rfl ?_
                  refine a_aload_n (pc' := 144) 5 dL_slaters_143 rfl rfl rfl ?_
                  obtain ⟨x4110, e4109, hf⟩ := Option.bind_eq_some_iff.mp hf
                  refine k_L_38 (pc' := 147) (c_L_gap l g F hz e4109) ⟨Nat.le_of_ble_eq_true rfl, Nat.le_of_ble_eq_true rfl⟩ (Nat.le_of_ble_eq_true rfl) dL_slaters_144 rfl ?_
                  refine a_if_lt (pc' := 150) 209 dL_slaters_147 (by decide) rfl (fun k4111 => ?_) (fun k4111 => ?_)
                  · replace hf := (if_pos k4111).symm.trans hf
                    refine a_aload_n (pc' := 210) 5 dL_slaters_209 rfl rfl rfl ?_
                    refine a_iconst (pc' := 211) (v := (2 : Int32)) dL_slaters_210 rfl (by decide) ?_
                    obtain ⟨hg, hf⟩ := f_grd_x hf
                    refine b_iald (pc' := 212) hz.2.2.2.2.2 hg dL_slaters_211 rfl ?_
                    refine a_aload_n (pc' := 213) 2 dL_slaters_212 rfl rfl rfl ?_
                    refine a_aload_n (pc' := 214) 5 dL_slaters_213 rfl rfl rfl ?_
                    obtain ⟨x4113, e4112, hf⟩ := Option.bind_eq_some_iff.mp hf
                    refine k_L_19 (pc' := 217) (c_L_top l g F hz e4112) ⟨Nat.le_of_ble_eq_true rfl, Nat.le_of_ble_eq_true rfl⟩ (Nat.le_of_ble_eq_true rfl) dL_slaters_214 rfl ?_
                    refine a_aload_n (pc' := 218) 5 dL_slaters_217 rfl rfl rfl ?_
                    refine a_iconst (pc' := 219) (v := (0 : Int32)) dL_slaters_218 rfl (by decide) ?_
                    obtain ⟨hg, hf⟩ := f_grd_x hf
                    refine b_iald (pc' := 220) hz.2.2.2.2.2 hg dL_slaters_219 rfl ?_
                    refine a_icmp_ge (pc' := 223) 232 dL_slaters_220 (by decide) rfl (fun k4114 => ?_) (fun k4114 => ?_)
                    · replace hf := (if_pos k4114).symm.trans hf
                      cases hf
                      refine a_sub [6] rfl ?_
                      exact hX1 _ rfl _ hz hfr
                    · replace hf := (if_neg k4114).symm.trans hf
                      refine a_aload_n (pc' := 224) 4 dL_slaters_223 rfl rfl rfl ?_
                      refine a_aload_n (pc' := 225) 2 dL_slaters_224 rfl rfl rfl ?_
                      refine a_aload_n (pc' := 226) 5 dL_slaters_225 rfl rfl rfl ?_
                      obtain ⟨x4116, e4115, hf⟩ := Option.bind_eq_some_iff.mp hf
                      refine k_L_41 (pc' := 229) (c_L_next l g F hz e4115) ⟨Nat.le_of_ble_eq_true rfl, Nat.le_of_ble_eq_true rfl⟩ (Nat.le_of_ble_eq_true rfl) dL_slaters_226 rfl ?_
                      refine a_if_ne (pc' := 232) 235 dL_slaters_229 (by decide) rfl (fun k4117 => ?_) (fun k4117 => ?_)
                      · replace hf := (if_neg k4117).symm.trans hf
                        refine a_aload_n (pc' := 236) 2 dL_slaters_235 rfl rfl rfl ?_
                        refine a_aload_n (pc' := 237) 5 dL_slaters_236 rfl rfl rfl ?_
                        refine a_iconst (pc' := 238) (v := (2 : Int32)) dL_slaters_237 rfl (by decide) ?_
                        obtain ⟨hg, hf⟩ := f_grd_x hf
                        refine b_iald (pc' := 239) hz.2.2.2.2.2 hg dL_slaters_238 rfl ?_
                        refine a_aload_n (pc' := 240) 4 dL_slaters_239 rfl rfl rfl ?_
                        refine a_aload_n (pc' := 241) 2 dL_slaters_240 rfl rfl rfl ?_
                        refine a_aload_n (pc' := 242) 5 dL_slaters_241 rfl rfl rfl ?_
                        obtain ⟨x4119, e4118, hf⟩ := Option.bind_eq_some_iff.mp hf
                        refine k_L_41 (pc' := 245) (c_L_next l g F hz e4118) ⟨Nat.le_of_ble_eq_true rfl, Nat.le_of_ble_eq_true rfl⟩ (Nat.le_of_ble_eq_true rfl) dL_slaters_242 rfl ?_
                        obtain ⟨hg, hf⟩ := f_grd_x hf
                        refine b_iast (pc' := 246) hz.2.1 hg dL_slaters_245 rfl (fun h4120 hz1 hfr1 => ?_)
                        obtain ⟨hz1, hfr1⟩ := d_lw_s0 hz hz1 hfr1
                        obtain ⟨u4121, hf, hz⟩ := f_let_x (P := fun w => d_lw h4120 P w) hf hz1
                        replace hfr := d_fw.tr hfr hfr1
                        refine a_aload_n (pc' := 247) 3 dL_slaters_246 rfl rfl rfl ?_
                        refine a_aload_n (pc' := 248) 5 dL_slaters_247 rfl rfl rfl ?_
                        refine a_iconst (pc' := 249) (v := (2 : Int32)) dL_slaters_248 rfl (by decide) ?_
                        obtain ⟨hg, hf⟩ := f_grd_x hf
                        refine b_iald (pc' := 250) hz.2.2.2.2.2 hg dL_slaters_249 rfl ?_
                        refine a_iconst (pc' := 251) (v := (0 : Int32)) dL_slaters_250 rfl (by decide) ?_
                        obtain ⟨hg, hf⟩ := f_grd_x hf
                        refine b_iast (pc' := 252) hz.2.2.1 hg dL_slaters_251 rfl (fun h4122 hz1 hfr1 => ?_)
                        obtain ⟨hz1, hfr1⟩ := d_lw_s1 hz hz1 hfr1
                        obtain ⟨u4123, hf, hz⟩ := f_let_x (P := fun w => d_lw h4122 P w) hf hz1
                        replace hfr := d_fw.tr hfr hfr1
                        refine a_aload_n (pc' := 253) 5 dL_slaters_252 rfl rfl rfl ?_
                        refine a_iconst (pc' := 254) (v := (2 : Int32)) dL_slaters_253 rfl (by decide) ?_
                        refine a_dup2 (pc' := 255) dL_slaters_254 rfl rfl rfl ?_
                        obtain ⟨hg, hf⟩ := f_grd_x hf
                        refine b_iald (pc' := 256) hz.2.2.2.2.2 hg dL_slaters_255 rfl ?_
                        refine a_iconst (pc' := 257) (v := (1 : Int32)) dL_slaters_256 rfl (by decide) ?_
                        refine a_iadd (pc' := 258) dL_slaters_257 rfl ?_
                        obtain ⟨hg, hf⟩ := f_grd_x hf
                        refine b_iast (pc' := 259) hz.2.2.2.2.2 hg dL_slaters_258 rfl (fun h4124 hz1 hfr1 => ?_)
                        obtain ⟨hz1, hfr1⟩ := d_lw_s4 hz hz1 hfr1
                        obtain ⟨u4125, hf, hz⟩ := f_let_x (P := fun w => d_lw h4124 P w) hf hz1
                        replace hfr := d_fw.tr hfr hfr1
                        refine a_goto 3 dL_slaters_259 (by decide) ?_
                        refine a_sub [2, 3, 4, 5, 6] rfl ?_
                        exact ih _ _ _ hf hX0 hX1 hX2 _ hz hfr
                      · replace hf := (if_pos k4117).symm.trans hf
                        cases hf
                        refine a_sub [6] rfl ?_
                        exact hX1 _ rfl _ hz hfr
                  · replace hf := (if_neg k4111).symm.trans hf
                    refine a_aload_n (pc' := 151) 4 dL_slaters_150 rfl rfl rfl ?_
                    refine a_aload_n (pc' := 152) 2 dL_slaters_151 rfl rfl rfl ?_
                    refine a_iload (pc' := 154) 0 dL_slaters_152 rfl rfl ?_
                    obtain ⟨hg, hf⟩ := f_grd_x hf
                    refine b_iald (pc' := 155) hz.2.1 hg dL_slaters_154 rfl ?_
                    obtain ⟨hg, hf⟩ := f_grd_x hf
                    refine b_iald (pc' := 156) hz.2.2.2.1 hg dL_slaters_155 rfl ?_
                    refine a_if_eq (pc' := 159) 166 dL_slaters_156 (by decide) rfl (fun k4126 => ?_) (fun k4126 => ?_)
                    · replace hf := (if_pos k4126).symm.trans hf
                      cases hf
                      refine a_sub [6] rfl ?_
                      exact hX2 _ rfl _ hz hfr
                    · replace hf := (if_neg k4126).symm.trans hf
                      refine a_aload_n (pc' := 160) 5 dL_slaters_159 rfl rfl rfl ?_
                      refine a_bipush (pc' := 162) (v := (7 : Int32)) dL_slaters_160 rfl (by decide) ?_
                      obtain ⟨hg, hf⟩ := f_grd_x hf
                      refine b_iald (pc' := 163) hz.2.2.2.2.2 hg dL_slaters_162 rfl ?_
                      refine a_if_ne (pc' := 166) 169 dL_slaters_163 (by decide) rfl (fun k4127 => ?_) (fun k4127 => ?_)
                      · replace hf := (if_neg k4127).symm.trans hf
                        refine a_aload_n (pc' := 170) 3 dL_slaters_169 rfl rfl rfl ?_
                        refine a_iload (pc' := 172) 0 dL_slaters_170 rfl rfl ?_
                        refine a_dup2 (pc' := 173) dL_slaters_172 rfl rfl rfl ?_
                        obtain ⟨hg, hf⟩ := f_grd_x hf
                        refine b_iald (pc' := 174) hz.2.2.1 hg dL_slaters_173 rfl ?_
                        refine a_iconst (pc' := 175) (v := (1 : Int32)) dL_slaters_174 rfl (by decide) ?_
                        refine a_iload (pc' := 177) 0 dL_slaters_175 rfl rfl ?_
                        refine a_aload_n (pc' := 178) 3 dL_slaters_177 rfl rfl rfl ?_
                        refine a_aload_n (pc' := 179) 5 dL_slaters_178 rfl rfl rfl ?_
                        obtain ⟨x4129, e4128, hf⟩ := Option.bind_eq_some_iff.mp hf
                        refine k_L_38 (pc' := 182) (c_L_gap l g F hz e4128) ⟨Nat.le_of_ble_eq_true rfl, Nat.le_of_ble_eq_true rfl⟩ (Nat.le_of_ble_eq_true rfl) dL_slaters_179 rfl ?_
                        refine a_ishl (pc' := 183) dL_slaters_182 rfl ?_
                        refine a_ior (pc' := 184) dL_slaters_183 rfl ?_
                        obtain ⟨hg, hf⟩ := f_grd_x hf
                        refine b_iast (pc' := 185) hz.2.2.1 hg dL_slaters_184 rfl (fun h4130 hz1 hfr1 => ?_)
                        obtain ⟨hz1, hfr1⟩ := d_lw_s1 hz hz1 hfr1
                        obtain ⟨u4131, hf, hz⟩ := f_let_x (P := fun w => d_lw h4130 P w) hf hz1
                        replace hfr := d_fw.tr hfr hfr1
                        refine a_aload_n (pc' := 186) 4 dL_slaters_185 rfl rfl rfl ?_
                        refine a_aload_n (pc' := 187) 2 dL_slaters_186 rfl rfl rfl ?_
                        refine a_iload (pc' := 189) 0 dL_slaters_187 rfl rfl ?_
                        obtain ⟨hg, hf⟩ := f_grd_x hf
                        refine b_iald (pc' := 190) hz.2.1 hg dL_slaters_189 rfl ?_
                        refine a_dup2 (pc' := 191) dL_slaters_190 rfl rfl rfl ?_
                        obtain ⟨hg, hf⟩ := f_grd_x hf
                        refine b_iald (pc' := 192) hz.2.2.2.1 hg dL_slaters_191 rfl ?_
                        refine a_iconst (pc' := 193) (v := (1 : Int32)) dL_slaters_192 rfl (by decide) ?_
                        refine a_isub (pc' := 194) dL_slaters_193 rfl ?_
                        obtain ⟨hg, hf⟩ := f_grd_x hf
                        refine b_iast (pc' := 195) hz.2.2.2.1 hg dL_slaters_194 rfl (fun h4132 hz1 hfr1 => ?_)
                        obtain ⟨hz1, hfr1⟩ := d_lw_s2 hz hz1 hfr1
                        obtain ⟨u4133, hf, hz⟩ := f_let_x (P := fun w => d_lw h4132 P w) hf hz1
                        replace hfr := d_fw.tr hfr hfr1
                        refine a_aload_n (pc' := 196) 5 dL_slaters_195 rfl rfl rfl ?_
                        refine a_bipush (pc' := 198) (v := (7 : Int32)) dL_slaters_196 rfl (by decide) ?_
                        refine a_dup2 (pc' := 199) dL_slaters_198 rfl rfl rfl ?_
                        obtain ⟨hg, hf⟩ := f_grd_x hf
                        refine b_iald (pc' := 200) hz.2.2.2.2.2 hg dL_slaters_199 rfl ?_
                        refine a_iconst (pc' := 201) (v := (1 : Int32)) dL_slaters_200 rfl (by decide) ?_
                        refine a_isub (pc' := 202) dL_slaters_201 rfl ?_
                        obtain ⟨hg, hf⟩ := f_grd_x hf
                        refine b_iast (pc' := 203) hz.2.2.2.2.2 hg dL_slaters_202 rfl (fun h4134 hz1 hfr1 => ?_)
                        obtain ⟨hz1, hfr1⟩ := d_lw_s4 hz hz1 hfr1
                        obtain ⟨u4135, hf, hz⟩ := f_let_x (P := fun w => d_lw h4134 P w) hf hz1
                        replace hfr := d_fw.tr hfr hfr1
                        refine a_iinc (pc' := 206) (v := v4_3 + (1 : Int32)) (ls' := [(4, .int (v4_3 + (1 : Int32))), (7, .int ((u_3.2.2.2.2 ((2 : Int32)).toNatClampNeg) - ((1 : Int32)))), (6, .int j4005), (0, .ref P.1), (1, .ref P.2.1), (2, .ref P.2.2.1), (3, .ref P.2.2.2.2), (5, .int o4003)]) 6 dL_slaters_203 rfl (by rfl) (by decide) rfl rfl ?_
                        refine a_goto 3 dL_slaters_206 (by decide) ?_
                        refine a_sub [3, 4, 5, 6, 0] rfl ?_
                        exact ih _ _ _ hf hX0 hX1 hX2 _ hz hfr
                      · replace hf := (if_pos k4127).symm.trans hf
                        cases hf
                        refine a_sub [6] rfl ?_
                        exact hX2 _ rfl _ hz hfr
              · replace hf := (if_neg k4093).symm.trans hf
                refine a_aload_n (pc' := 89) 2 dL_slaters_88 rfl rfl rfl ?_
                refine a_iload (pc' := 91) 6 dL_slaters_89 rfl rfl ?_
                refine a_dup2 (pc' := 92) dL_slaters_91 rfl rfl rfl ?_
                obtain ⟨hg, hf⟩ := f_grd_x hf
                refine b_iald (pc' := 93) hz.2.2.1 hg dL_slaters_92 rfl ?_
                refine a_iconst (pc' := 94) (v := (1 : Int32)) dL_slaters_93 rfl (by decide) ?_
                refine a_iload (pc' := 96) 6 dL_slaters_94 rfl rfl ?_
                refine a_aload_n (pc' := 97) 2 dL_slaters_96 rfl rfl rfl ?_
                refine a_aload_n (pc' := 98) 4 dL_slaters_97 rfl rfl rfl ?_
                obtain ⟨x4137, e4136, hf⟩ := Option.bind_eq_some_iff.mp hf
                refine k_L_38 (pc' := 101) (c_L_gap l g F hz e4136) ⟨Nat.le_of_ble_eq_true rfl, Nat.le_of_ble_eq_true rfl⟩ (Nat.le_of_ble_eq_true rfl) dL_slaters_98 rfl ?_
                refine a_ishl (pc' := 102) dL_slaters_101 rfl ?_
                refine a_ior (pc' := 103) dL_slaters_102 rfl ?_
                obtain ⟨hg, hf⟩ := f_grd_x hf
                refine b_iast (pc' := 104) hz.2.2.1 hg dL_slaters_103 rfl (fun h4138 hz1 hfr1 => ?_)
                obtain ⟨hz1, hfr1⟩ := d_lw_s1 hz hz1 hfr1
                obtain ⟨u4139, hf, hz⟩ := f_let_x (P := fun w => d_lw h4138 P w) hf hz1
                replace hfr := d_fw.tr hfr hfr1
                refine a_aload_n (pc' := 105) 3 dL_slaters_104 rfl rfl rfl ?_
                refine a_aload_n (pc' := 106) 1 dL_slaters_105 rfl rfl rfl ?_
                refine a_iload (pc' := 108) 6 dL_slaters_106 rfl rfl ?_
                obtain ⟨hg, hf⟩ := f_grd_x hf
                refine b_iald (pc' := 109) hz.2.1 hg dL_slaters_108 rfl ?_
                refine a_dup2 (pc' := 110) dL_slaters_109 rfl rfl rfl ?_
                obtain ⟨hg, hf⟩ := f_grd_x hf
                refine b_iald (pc' := 111) hz.2.2.2.1 hg dL_slaters_110 rfl ?_
                refine a_iconst (pc' := 112) (v := (1 : Int32)) dL_slaters_111 rfl (by decide) ?_
                refine a_isub (pc' := 113) dL_slaters_112 rfl ?_
                obtain ⟨hg, hf⟩ := f_grd_x hf
                refine b_iast (pc' := 114) hz.2.2.2.1 hg dL_slaters_113 rfl (fun h4140 hz1 hfr1 => ?_)
                obtain ⟨hz1, hfr1⟩ := d_lw_s2 hz hz1 hfr1
                obtain ⟨u4141, hf, hz⟩ := f_let_x (P := fun w => d_lw h4140 P w) hf hz1
                replace hfr := d_fw.tr hfr hfr1
                refine a_aload_n (pc' := 115) 4 dL_slaters_114 rfl rfl rfl ?_
                refine a_bipush (pc' := 117) (v := (7 : Int32)) dL_slaters_115 rfl (by decide) ?_
                refine a_dup2 (pc' := 118) dL_slaters_117 rfl rfl rfl ?_
                obtain ⟨hg, hf⟩ := f_grd_x hf
                refine b_iald (pc' := 119) hz.2.2.2.2.2 hg dL_slaters_118 rfl ?_
                refine a_iconst (pc' := 120) (v := (3 : Int32)) dL_slaters_119 rfl (by decide) ?_
                refine a_isub (pc' := 121) dL_slaters_120 rfl ?_
                obtain ⟨hg, hf⟩ := f_grd_x hf
                refine b_iast (pc' := 122) hz.2.2.2.2.2 hg dL_slaters_121 rfl (fun h4142 hz1 hfr1 => ?_)
                obtain ⟨hz1, hfr1⟩ := d_lw_s4 hz hz1 hfr1
                obtain ⟨u4143, hf, hz⟩ := f_let_x (P := fun w => d_lw h4142 P w) hf hz1
                replace hfr := d_fw.tr hfr hfr1
                refine a_iinc (pc' := 125) (v := v4_3 + (1 : Int32)) (ls' := [(4, .int (v4_3 + (1 : Int32))), (6, .int j4005), (0, .ref P.1), (1, .ref P.2.1), (2, .ref P.2.2.1), (3, .ref P.2.2.2.2), (5, .int o4003)]) 5 dL_slaters_122 rfl (by rfl) (by decide) rfl rfl ?_
                refine a_goto 3 dL_slaters_125 (by decide) ?_
                refine a_sub [2, 3, 4, 5, 0] rfl ?_
                exact ih _ _ _ hf hX0 hX1 hX2 _ hz hfr
        · refine a_icmp_ge (pc' := 59) 63 dL_slaters_56 (by decide) rfl (fun k4006 => ?_) (fun k4006 => ?_)
          · replace hf := (if_pos k4006).symm.trans hf
            refine a_iconst (pc' := 64) (v := (0 : Int32)) dL_slaters_63 rfl (by decide) ?_
            cases hf
            exact Jj4005
          · replace hf := (if_neg k4006).symm.trans hf
            refine a_iconst (pc' := 60) (v := (1 : Int32)) dL_slaters_59 rfl (by decide) ?_
            refine a_goto 64 dL_slaters_60 (by decide) ?_
            cases hf
            exact Jj4005
set_option maxHeartbeats 4000000 in
set_option maxRecDepth 100000 in
theorem c_L_slaters (l : Launch) (g : a_G) (F : Nat) {h : List va_E} {P : d_P} {u : d_W} (hz : d_lw h P u) {out : Int32 × d_W} (hf : f_L_slaters F u = some out) : a_CT l g yL_slaters cL_slaters 8 (some .int) (a_rm 2 44) [.ref P.1, .ref P.2.1, .ref P.2.2.1, .ref P.2.2.2.2] h none none (fun r h' => r = some (.int out.1) ∧ d_lw h' P out.2 ∧ d_fw P h h') := by
  refine a_enter ⟨by decide, rfl, Nat.le_of_ble_eq_true rfl⟩ (fun p e s m args below meth c hr hin => ?_)
  unfold f_L_slaters at hf
  have hfr : d_fw P h h := d_fw.rf
  refine a_sub (ls' := [(0, .ref P.1), (1, .ref P.2.1), (2, .ref P.2.2.1), (3, .ref P.2.2.2.2)]) [0, 1, 2, 3] rfl ?_
  refine a_iconst (pc' := 1) (v := (0 : Int32)) dL_slaters_0 rfl (by decide) ?_
  refine a_istore (pc' := 3) (ls' := [(4, .int ((0 : Int32))), (0, .ref P.1), (1, .ref P.2.1), (2, .ref P.2.2.1), (3, .ref P.2.2.2.2)]) dL_slaters_1 (by decide) rfl rfl ?_
  obtain ⟨o1, e2, hf⟩ := Option.bind_eq_some_iff.mp hf
  refine a_sub [1, 2, 3, 4, 0] rfl ?_
  refine l_L_slaters_L3 F   F _ _ o1 e2 (fun w3 he9 h4 hz hfr => ?_) (fun w5 he9 h6 hz hfr => ?_) (fun w7 he9 h8 hz hfr => ?_) _ hz hfr
  · subst he9
    simp only [Sum.elim_inl, Sum.elim_inr] at hf
    refine a_iload (pc' := 264) 0 dL_slaters_262 rfl rfl ?_
    cases hf
    exact a_iret hr ⟨rfl, hz, hfr⟩ dL_slaters_264
  · subst he9
    simp only [Sum.elim_inl, Sum.elim_inr] at hf
    refine a_iload (pc' := 234) 0 dL_slaters_232 rfl rfl ?_
    cases hf
    exact a_iret hr ⟨rfl, hz, hfr⟩ dL_slaters_234
  · subst he9
    simp only [Sum.elim_inl, Sum.elim_inr] at hf
    refine a_iload (pc' := 168) 0 dL_slaters_166 rfl rfl ?_
    cases hf
    exact a_iret hr ⟨rfl, hz, hfr⟩ dL_slaters_168
