/-! rows of days: the law's words of them -/
theorem r_af3 : ∀ a, a < 58 → 50 ≤ a → q_af 1 a = 3 := by decide
theorem r_af2 : q_af 1 49 = 2 := by decide
theorem r_af4 : ∀ a, a < 58 → 48 ≤ a → q_af 2 a = 4 := by decide
def r_kd (w : Nat) : Nat := if w < 3 then 0 else w - 2
def r_ch (w : Nat) : Nat := if w < 3 then 100 else if w = 3 then 114 else 115
theorem r_chk : ∀ w, w < 5 → q_wt (r_ch w) = r_kd w ∧ r_kd w ≠ 3 ∧ r_kd w ≤ 2 ∧ 33 ≤ r_ch w ∧ r_ch w ≤ 126 := by decide
section RX
variable {B F : Nat} {y : Nat → Nat} {q : d_C} {c : Nat → Nat} {k : Nat}
theorem p5_w131 (hF : 3000 ≤ F) (q : d_C) (ev : d_Z) {w m1 : Nat} (hw : w < 5) (hm : m1 ≤ 11) : ∀ j n i a B s, i + j = 1 + m1 → j < n → r_I B s → B + 63 * j ≤ 1000000000 →
    f_L_works_L131 F (nI w) (nI m1) n (nI a) (nI i) (q, ev, r_W s) = some (nI (q_wl (List.replicate j (r_kd w)) (a, s)).1, nI (1 + m1), (q, ev, r_W (q_wl (List.replicate j (r_kd w)) (a, s)).2)) := by
  intro j
  induction j with
  | zero =>
    intro n i a B s hi hn hR hB
    obtain ⟨n, rfl⟩ : ∃ n', n = n' + 1 := ⟨n - 1, by omega⟩
    unfold f_L_works_L131
    rw [show (1 : Int32) = nI 1 from rfl, n_add, if_pos (by rw [n_le (by omega) (by omega)]; omega), show i = 1 + m1 by omega]
    rfl
  | succ j ih =>
    intro n i a B s hi hn hR hB
    obtain ⟨n, rfl⟩ : ∃ n', n = n' + 1 := ⟨n - 1, by omega⟩
    have hkd := r_chk w hw
    obtain ⟨x, g1, g2⟩ := p5_wd (F := F) (w := r_kd w) hF hR (by omega) hkd.2.2.1
    have hj : (if nI 3 ≤ nI w then some (nI w - nI 2) else some (nI 0)) = some (nI (r_kd w)) := by
      unfold r_kd
      by_cases e : w < 3
      · rw [if_pos e, if_neg (by rw [n_le (by omega) (by omega)]; omega)]
      · rw [if_neg e, if_pos (by rw [n_le (by omega) (by omega)]; omega), n_sub (by omega)]
    unfold f_L_works_L131
    simp only [n_l0, n_l1, n_l2, n_l3, n_l4, n_l5, n_l6, n_l7, n_l8, n_l9, n_l10, n_l11, n_l12, n_l13, n_l14, n_l15, n_l16, n_l17, n_l18, n_l19, n_l20, n_l21, n_l22, n_l23, n_l24, n_l25, n_l30, n_l31, n_l33, n_l48, n_l49, n_l57, n_l60, n_l100, n_l114, n_l115, n_l126, n_l200, n_l214, n_l239, n_l264, n_l294, n_l400, n_l1000, n_l1470, n_l5000, n_l1000000, n_o, n_nM, n_add]
    rw [if_neg (by rw [n_le (by omega) (by omega)]; omega), hj, q_bind, g1, q_bind, q_let, g2, q_bind, q_let]
    simp only [n_add]
    exact ih n (i + 1) (a + (q_wd s (r_kd w)).1) (B + 63) (q_wd s (r_kd w)).2 (by omega) (by omega) (r_wd_I hR (by omega)) (by omega)
theorem p5_part (hF : 3000 ≤ F) {s : Nat → Nat} (hR : r_I B s) (hB : B + 756 ≤ 1000000000) (ht : r_tx k c q.2.2.2) (hk : k ≤ 57) (hs : q_sc c k ≠ 5 ∧ q_sc c k ≠ 2) {i p1 : Nat} (hi : i < 1 + p1) (hp : p1 < 3) (ev : d_Z) (a1 a2 : Int32) (n a : Nat) :
    ∃ (l : List Nat) (q' : d_C) (c' : Nat → Nat) (k' : Nat), l.length ≤ 12 ∧ f_L_works_L15 F a1 a2 (nI p1) (n + 1) (nI a) (nI i) (q, ev, r_W s) = f_L_works_L15 F a1 a2 (nI p1) n (nI (q_wl l (a, s)).1) (nI (i + 1)) (q', ev, r_W (q_wl l (a, s)).2) ∧ q'.1 = q.1 ∧ q'.2.2.1 = q.2.2.1 ∧ r_tx k' c' q'.2.2.2 ∧ k' ≤ k + 3 ∧ (q_sc c' k' = 1 ∨ q_sc c' k' = 3 ∨ q_sc c' k' = 4) ∧ r_dl c' k' = r_dl c k ++ l := by
  obtain ⟨w, hw, ea⟩ := p5_at (F := F) (n := 5) (by omega) (by omega) (a2 >>> (nI 2 * nI i &&& nI 31) + nI i)
  obtain ⟨m1, hm, em⟩ := p5_at (F := F) (n := 12) (by omega) (by omega) (a1 >>> (nI i &&& nI 31) + nI 3 * nI i)
  have hch := r_chk w hw
  have hK : (if nI 3 ≤ nI w then (if nI w = nI 3 then some (nI 114) else some (nI 115)) else some (nI 100)) = some (nI (r_ch w)) := by
    unfold r_ch
    by_cases e : w < 3
    · rw [if_pos e, if_neg (by rw [n_le (by omega) (by omega)]; omega)]
    · rw [if_neg e, if_pos (by rw [n_le (by omega) (by omega)]; omega)]
      by_cases e2 : w = 3
      · rw [if_pos e2, if_pos (by rw [e2])]
      · rw [if_neg e2, if_neg (by rw [n_eq (by omega) (by omega)]; exact e2)]
  obtain ⟨t1, g1, h1⟩ := p1_app (F := F) ⟨hch.2.2.2.1, hch.2.2.2.2⟩ (show k < 60 by omega) ht
  obtain ⟨l1, l2⟩ := r_letter (c := c) (k := k) (a := r_ch w) (by rw [hch.1]; exact hch.2.1) hs
  rw [hch.1] at l2
  have hrep : ∀ q2 : d_C, f_L_works_L131 F (nI w) (nI m1) F (nI a) (nI 0) (q2, ev, r_W s) = some (nI (q_wl (List.replicate (1 + m1) (r_kd w)) (a, s)).1, nI (1 + m1), (q2, ev, r_W (q_wl (List.replicate (1 + m1) (r_kd w)) (a, s)).2)) := fun q2 => p5_w131 hF q2 ev hw (by omega) (1 + m1) F 0 a B s (by omega) (by omega) hR (by omega)
  have hno : ∀ j : Nat, j < 100 → ¬ nI (j + 1) < nI 1 := fun j hj => by rw [n_lt (by omega) (by omega)]; omega
  have hyes : ∀ j : Nat, j < 100 → nI 1 ≤ nI (j + 1) := fun j hj => by rw [n_le (by omega) (by omega)]; omega
  have hmod : nI (1 + m1) - nI (1 + m1) / nI 10 * nI 10 = nI ((1 + m1) % 10) := n_mod (by omega) (by omega) (by omega)
  conv => enter [1, l, 1, q', 1, c', 1, k', 2, 1, 1]; unfold f_L_works_L15
  simp only [n_l0, n_l1, n_l2, n_l3, n_l4, n_l5, n_l6, n_l7, n_l8, n_l9, n_l10, n_l11, n_l12, n_l13, n_l14, n_l15, n_l16, n_l17, n_l18, n_l19, n_l20, n_l21, n_l22, n_l23, n_l24, n_l25, n_l30, n_l31, n_l33, n_l48, n_l49, n_l57, n_l60, n_l100, n_l114, n_l115, n_l126, n_l200, n_l214, n_l239, n_l264, n_l294, n_l400, n_l1000, n_l1470, n_l5000, n_l1000000, n_o, n_nM, n_add]
  rw [n_mul, n_mul] at *
  have c0 : ¬ nI (1 + p1) ≤ nI i := by rw [n_le (by omega) (by omega)]; omega
  simp only [n_mul, n_add, if_neg c0, ea, q_bind, em, hK, r_nt g1, q_let, if_neg (hno k (by omega)), hmod]
  by_cases e0 : m1 = 0
  · subst e0
    rw [if_pos (by decide), if_pos (by decide)]
    refine ⟨List.replicate 1 (r_kd w), (q.1, q.2.1, q.2.2.1, t1), q_u c k (r_ch w), k + 1, by simp, ?_, rfl, rfl, h1, by omega, Or.inl l1, r_pt_dl l2⟩
    rw [hrep, q_bind]
  · by_cases e9 : m1 ≤ 8
    · have d9 : (1 + m1) % 10 = 1 + m1 := Nat.mod_eq_of_lt (by omega)
      obtain ⟨t2, g2, h2⟩ := p1_app (F := F) (q := (q.1, q.2.1, q.2.2.1, t1)) (a := 48 + (1 + m1)) ⟨by omega, by omega⟩ (show k + 1 < 60 by omega) h1
      obtain ⟨d1, d2⟩ := r_digit (c := q_u c k (r_ch w)) (k := k + 1) (a := 48 + (1 + m1)) ⟨by omega, by omega⟩ l2
      rw [l1, if_pos rfl, Nat.add_sub_cancel_left] at d1
      rw [l1, r_af3 _ (by omega) (by omega)] at d2
      refine ⟨List.replicate (1 + m1) (r_kd w), (q.1, q.2.1, q.2.2.1, t2), q_u (q_u c k (r_ch w)) (k + 1) (48 + (1 + m1)), k + 2, by rw [List.length_replicate]; omega, ?_, rfl, rfl, h2, by omega, Or.inr (Or.inl d2), r_pt_dl d1⟩
      rw [if_pos (by rw [n_le (by omega) (by omega)]; omega), if_neg (by rw [n_le (by omega) (by omega)]; omega), d9, r_nt g2, if_pos (hyes (k + 1) (by omega)), hrep, q_bind]
    · obtain ⟨t2, g2, h2⟩ := p1_app (F := F) (q := (q.1, q.2.1, q.2.2.1, t1)) (a := 49) ⟨by omega, by omega⟩ (show k + 1 < 60 by omega) h1
      obtain ⟨d1, d2⟩ := r_digit (c := q_u c k (r_ch w)) (k := k + 1) (a := 49) ⟨by omega, by omega⟩ l2
      rw [l1, if_pos rfl] at d1
      rw [l1, r_af2] at d2
      have hm10 : (1 + m1) % 10 < 10 := Nat.mod_lt _ (by omega)
      obtain ⟨t3, g3, h3⟩ := p1_app (F := F) (q := (q.1, q.2.1, q.2.2.1, t2)) (a := 48 + (1 + m1) % 10) ⟨by omega, by omega⟩ (show k + 1 + 1 < 60 by omega) h2
      obtain ⟨f1, f2⟩ := r_digit (c := q_u (q_u c k (r_ch w)) (k + 1) 49) (k := k + 1 + 1) (a := 48 + (1 + m1) % 10) ⟨by omega, by omega⟩ d1
      rw [d2, if_neg (by omega), show 10 * (49 - 48) + (48 + (1 + m1) % 10 - 48) = 1 + m1 by omega] at f1
      rw [d2, r_af4 _ (by omega) (by omega)] at f2
      refine ⟨List.replicate (1 + m1) (r_kd w), (q.1, q.2.1, q.2.2.1, t3), q_u (q_u (q_u c k (r_ch w)) (k + 1) 49) (k + 1 + 1) (48 + (1 + m1) % 10), k + 3, by rw [List.length_replicate]; omega, ?_, rfl, rfl, h3, by omega, Or.inr (Or.inr f2), r_pt_dl f1⟩
      rw [if_neg (by rw [n_le (by omega) (by omega)]; omega), r_nt g2, if_neg (hno (k + 1) (by omega)), if_neg (by rw [n_le (by omega) (by omega)]; omega), r_nt g3, if_pos (hyes (k + 1 + 1) (by omega)), hrep, q_bind]
theorem p5_w15 (hF : 3000 ≤ F) (ev : d_Z) (a1 a2 : Int32) {p1 : Nat} (hp : p1 < 3) {y0 : Nat → Nat} : ∀ (n i : Nat) (q : d_C) (c : Nat → Nat) (k : Nat), i ≤ 1 + p1 → 1 + p1 - i < n → r_I B y0 → B + 2268 ≤ 1000000000 → r_tx k c q.2.2.2 → k ≤ 3 * i → (i = 0 ∧ r_dl c k = [] ∧ q_sc c k = 0 ∨ q_sc c k = 1 ∨ q_sc c k = 3 ∨ q_sc c k = 4) → (r_dl c k).length ≤ 12 * i →
    ∃ (q' : d_C) (c' : Nat → Nat) (k' : Nat), f_L_works_L15 F a1 a2 (nI p1) n (nI (q_wl (r_dl c k) (0, y0)).1) (nI i) (q, ev, r_W (q_wl (r_dl c k) (0, y0)).2) = some (.inl (nI (q_wl (r_dl c' k') (0, y0)).1, nI (1 + p1), (q', ev, r_W (q_wl (r_dl c' k') (0, y0)).2))) ∧ q'.1 = q.1 ∧ q'.2.2.1 = q.2.2.1 ∧ r_tx k' c' q'.2.2.2 ∧ (q_sc c' k' = 1 ∨ q_sc c' k' = 3 ∨ q_sc c' k' = 4) ∧ (r_dl c' k').length ≤ 36 := by
  intro n
  induction n with
  | zero => intro i q c k _ h; omega
  | succ n ih =>
    intro i q c k hi hn hR hB ht hk hs hd
    by_cases e : i = 1 + p1
    · refine ⟨q, c, k, ?_, rfl, rfl, ht, ?_, by omega⟩
      · unfold f_L_works_L15
        rw [show (1 : Int32) = nI 1 from rfl, n_add, if_pos (by rw [n_le (by omega) (by omega)]; omega), e]
      · rcases hs with h | h
        · omega
        · exact h
    · have hR' := r_wl_I (r_dl c k) B (0, y0) hR (by omega)
      obtain ⟨l, q1, c1, k1, g1, g2, g3, g4, g5, g6, g7, g8⟩ := p5_part (F := F) (q := q) (c := c) (k := k) hF hR' (by omega) ht (by omega) (by omega) (show i < 1 + p1 by omega) hp ev a1 a2 n (q_wl (r_dl c k) (0, y0)).1
      have hap : q_wl l ((q_wl (r_dl c k) (0, y0)).1, (q_wl (r_dl c k) (0, y0)).2) = q_wl (r_dl c1 k1) (0, y0) := by rw [g8, q_wl_app]
      rw [hap] at g2
      obtain ⟨q', c', k', f1, f2, f3, f4, f5, f6⟩ := ih (i + 1) q1 c1 k1 (by omega) (by omega) hR hB g5 (by omega) (Or.inr g7) (by rw [g8, List.length_append]; omega)
      exact ⟨q', c', k', g2.trans f1, f2.trans g3, f3.trans g4, f4, f5, f6⟩
theorem p5_works (hF : 3000 ≤ F) (h : r_rel B y q) (hB : B + 20000 ≤ 1000000000) (h6 : y 6 + 36 ≤ 1000) (ev : d_Z) (a1 a2 : Int32) : ∃ (l : List Nat) (q' : d_C), l.length ≤ 36 ∧ f_L_works F (q, ev, r_W y) a1 a2 = some (nI 1, (q', ev, r_W (q_wl l (0, y)).2)) ∧ r_rel (B + 20000) (q_wl l (0, y)).2 q' := by
  obtain ⟨hR, hq, hS, hT⟩ := id h
  obtain ⟨p1, hp, ea⟩ := p5_at (F := F) (n := 3) (by omega) (by omega) a1
  have ht0 : r_tx 0 (fun _ => 0) q.2.2.2 := ⟨by omega, hT, fun i hi => absurd hi (Nat.not_lt_zero i)⟩
  obtain ⟨q1, c, k, g1, g2, g3, g4, g5, g6⟩ := p5_w15 (F := F) (B := B) (y0 := y) hF ev a1 a2 hp F 0 q (fun _ => 0) 0 (by omega) (by omega) hR (by omega) ht0 (by omega) (Or.inl ⟨rfl, rfl, rfl⟩) (Nat.le_refl 0)
  obtain ⟨q', w1, w2⟩ := p1_work (F := F) (q := q1) hF hR hB (g2.trans hq) (by rw [g3]; exact hS) g4 g5 (by omega) (by omega)
  refine ⟨r_dl c k, q', g6, ?_, w2⟩
  have g1' : f_L_works_L15 F a1 a2 (nI p1) F (nI 0) (nI 0) (q, ev, r_W y) = _ := g1
  unfold f_L_works
  simp only [n_l0, n_l1, n_l2, n_l3, n_l4, n_l5, n_l6, n_l7, n_l8, n_l9, n_l10, n_l11, n_l12, n_l13, n_l14, n_l15, n_l16, n_l17, n_l18, n_l19, n_l20, n_l21, n_l22, n_l23, n_l24, n_l25, n_l30, n_l31, n_l33, n_l48, n_l49, n_l57, n_l60, n_l100, n_l114, n_l115, n_l126, n_l200, n_l214, n_l239, n_l264, n_l294, n_l400, n_l1000, n_l1470, n_l5000, n_l1000000, n_o, n_nM]
  rw [ea, q_bind, g1', q_bind]
  simp only [Sum.elim_inl]
  rw [r_nt w1]
  simp only [q_let]
  rw [if_pos trivial]
end RX
