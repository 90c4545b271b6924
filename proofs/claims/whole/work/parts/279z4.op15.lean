/-! work -/
section RR
variable {B F : Nat} {y : Nat → Nat} {q : d_C} {M : d_M}
def q_wl : List Nat → Nat × (Nat → Nat) → Nat × (Nat → Nat)
  | [], s => s
  | w :: l, s => q_wl l (s.1 + (q_wd s.2 w).1, (q_wd s.2 w).2)
theorem q_wl_app : ∀ (l l' : List Nat) (s : Nat × (Nat → Nat)), q_wl (l ++ l') s = q_wl l' (q_wl l s) := by
  intro l
  induction l with
  | nil => intro l' s; rfl
  | cons w l ih => intro l' s; exact ih l' _
theorem q_wl_I : ∀ (l : List Nat) (B : Nat) (s : Nat × (Nat → Nat)), q_I B s.2 → B + 63 * l.length ≤ 1000000000 → q_I (B + 63 * l.length) (q_wl l s).2 := by
  intro l
  induction l with
  | nil => intro B s h _; exact h
  | cons w l ih =>
    intro B s h hB
    rw [List.length_cons] at hB ⊢
    have := ih (B + 63) (s.1 + (q_wd s.2 w).1, (q_wd s.2 w).2) (q_wd_I h (by omega)).1 (by omega)
    rw [show B + 63 * (l.length + 1) = B + 63 + 63 * l.length by omega]
    exact this
theorem q4_wkL (hF : 3000 ≤ F) {Mx : d_M} {l0 : List Nat} (hwr : q_wr Mx l0) (hl : l0.length ≤ 200) (hw : ∀ w, w ∈ l0 → w ≤ 2) : ∀ (l : List Nat) (n k a B : Nat) (y : Nat → Nat), l0.drop k = l → k + l.length = l0.length → l.length < n → q_I B y → B + 63 * l.length ≤ 1000000000 →
    f_X4_work_L70 F n (nI a) (nI k) (q_M Mx y) = some (nI (q_wl l (a, y)).1, nI l0.length, q_M Mx (q_wl l (a, y)).2) := by
  intro l
  induction l with
  | nil =>
    intro n k a B y hd hk hn hI hB
    obtain ⟨n, rfl⟩ : ∃ n', n = n' + 1 := ⟨n - 1, by omega⟩
    have hle := n_le (a := l0.length) (b := k) (by omega) (by simp only [List.length_nil] at hk; omega)
    have hdy : m_days (q_M Mx y) = nI l0.length := hwr.1
    rw [f_X4_work_L70]
    simp only [hdy, hle]
    simp only [List.length_nil, Nat.add_zero] at hk
    rw [if_pos (by omega), hk]
    rfl
  | cons w l ih =>
    intro n k a B y hd hk hn hI hB
    rw [List.length_cons] at hk hn hB
    obtain ⟨n, rfl⟩ : ∃ n', n = n' + 1 := ⟨n - 1, by omega⟩
    have hle := n_le (a := l0.length) (b := k) (by omega) (by omega)
    have hdy : m_days (q_M Mx y) = nI l0.length := hwr.1
    have hk' : k < l0.length := by omega
    have hg : l0.getD k 0 = w := by
      have e1 := List.drop_eq_getElem_cons hk'
      rw [hd] at e1
      injection e1 with e2 e3
      rw [List.getD_eq_getElem?_getD, List.getElem?_eq_getElem hk']
      exact e2.symm
    have hmem : w ∈ l0 := by
      have : w ∈ l0.drop k := by rw [hd]; exact List.mem_cons_self
      exact List.mem_of_mem_drop this
    have hwe : m_weather (q_M Mx y) k = nI w := by
      have := hwr.2 k hk' (by omega)
      rw [hg] at this
      exact this
    have hd' : l0.drop (k + 1) = l := by
      have e1 := List.drop_eq_getElem_cons hk'
      rw [hd] at e1
      injection e1 with e2 e3
      exact e3.symm
    rw [f_X4_work_L70]
    simp only [hdy, hle]
    rw [if_neg (by omega), q_g (by omega) (by omega), n_C (by omega), hwe, q4_wd hF hI (by omega) (hw w hmem), q_bind, q_let, n_add, show (1 : Int32) = nI 1 from n_l1, n_add]
    exact ih n (k + 1) (a + (q_wd y w).1) (B + 63) (q_wd y w).2 hd' (by omega) (by omega) (q_wd_I hI (by omega)).1 (by omega)
theorem q1_wkL (hF : 3000 ≤ F) {w R : Nat} (hw : w ≤ 2) (hR : R ≤ 99) (rest : d_Z × d_S × d_T) : ∀ (m n j a B : Nat) (y : Nat → Nat), j + m = R → m < n → q_I B y → B + 63 * m ≤ 1000000000 →
    f_X3_work_L115 F (nI w) (nI R) n (nI a) (nI j) (q_z y, rest) = some (nI (q_wl (List.replicate m w) (a, y)).1, nI R, (q_z (q_wl (List.replicate m w) (a, y)).2, rest)) := by
  intro m
  induction m with
  | zero =>
    intro n j a B y hj hn hI hB
    obtain ⟨n, rfl⟩ : ∃ n', n = n' + 1 := ⟨n - 1, by omega⟩
    have hle := n_le (a := R) (b := j) (by omega) (by omega)
    rw [f_X3_work_L115]
    simp only [hle]
    rw [if_pos (by omega), show j = R by omega]
    rfl
  | succ m ih =>
    intro n j a B y hj hn hI hB
    obtain ⟨n, rfl⟩ : ∃ n', n = n' + 1 := ⟨n - 1, by omega⟩
    have hle := n_le (a := R) (b := j) (by omega) (by omega)
    rw [f_X3_work_L115]
    simp only [hle, q_let]
    rw [if_neg (by omega), q1_wd hF hI (by omega) hw, n_add, show (1 : Int32) = nI 1 from n_l1, n_add]
    exact ih n (j + 1) (a + (q_wd y w).1) (B + 63) (q_wd y w).2 (by omega) (by omega) (q_wd_I hI (by omega)).1 (by omega)
theorem q1_wpL (hF : 3000 ≤ F) {K R : Nat → Nat} {p : Nat} (hp : p ≤ 60) (hK : ∀ k, k < p → R k ≤ 99 ∧ K k ≤ 2) {tr : d_Z} {sv : d_S} {t : d_T} (ht : t.2.2.2.2 = nI p) (hW : ∀ k, k < p → t.2.2.1 k = nI (K k) ∧ t.2.2.2.1 k = nI (R k)) {y : Nat → Nat} {B : Nat} (hI : q_I B y) (hB : B + 63 * q_sum R p ≤ 1000000000) : ∀ (m n i : Nat), i + m = p → m < n →
    f_X3_work_L75 F n (nI (q_wl (q_ds K R i) (0, y)).1) (nI i) (q_z (q_wl (q_ds K R i) (0, y)).2, tr, sv, t) = some (nI (q_wl (q_ds K R p) (0, y)).1, nI p, (q_z (q_wl (q_ds K R p) (0, y)).2, tr, sv, t)) := by
  intro m
  induction m with
  | zero =>
    intro n i hi hn
    obtain ⟨n, rfl⟩ : ∃ n', n = n' + 1 := ⟨n - 1, by omega⟩
    have hle := n_le (a := p) (b := i) (by omega) (by omega)
    rw [f_X3_work_L75]
    simp only [ht, hle]
    rw [if_pos (by omega), show i = p by omega]
  | succ m ih =>
    intro n i hi hn
    obtain ⟨n, rfl⟩ : ∃ n', n = n' + 1 := ⟨n - 1, by omega⟩
    have hle := n_le (a := p) (b := i) (by omega) (by omega)
    have hk := hK i (by omega)
    have hw := hW i (by omega)
    have hs1 : q_sum R (i + 1) ≤ q_sum R p := q_sum_mono (by omega)
    have hs2 : q_sum R (i + 1) = q_sum R i + R i := rfl
    have hlen := q_ds_len K R i
    have hI' := q_wl_I (q_ds K R i) B (0, y) hI (by rw [hlen]; omega)
    rw [hlen] at hI'
    have h1 := q1_wkL (F := F) hF hk.2 hk.1 (tr, sv, t) (R i) F 0 (q_wl (q_ds K R i) (0, y)).1 _ _ (by omega) (by omega) hI' (by omega)
    have hap : q_wl (q_ds K R (i + 1)) (0, y) = q_wl (List.replicate (R i) (K i)) (q_wl (q_ds K R i) (0, y)) := q_wl_app _ _ _
    rw [f_X3_work_L75]
    simp only [ht, hle]
    rw [if_neg (by omega), q_vAt (by omega) (by omega), hw.1, q_bind, q_vAt (by omega) (by omega), hw.2, q_bind]
    have h2 : f_X3_work_L115 F (nI (K i)) (nI (R i)) F (nI (q_wl (q_ds K R i) (0, y)).1) ((0 : Int32)) (q_z (q_wl (q_ds K R i) (0, y)).2, tr, sv, t) = some (nI (q_wl (q_ds K R (i + 1)) (0, y)).1, nI (R i), (q_z (q_wl (q_ds K R (i + 1)) (0, y)).2, tr, sv, t)) := by
      rw [hap]; exact h1
    rw [h2, q_bind, show (1 : Int32) = nI 1 from n_l1, n_add]
    exact ih n (i + 1) (by omega) (by omega)
theorem q_ds_mem {K R : Nat → Nat} : ∀ {m : Nat}, (∀ k, k < m → K k ≤ 2) → ∀ w, w ∈ q_ds K R m → w ≤ 2 := by
  intro m
  induction m with
  | zero => intro _ w h; exact absurd h (List.not_mem_nil)
  | succ m ih =>
    intro hK w h
    rcases List.mem_append.mp h with h | h
    · exact ih (fun k hk => hK k (by omega)) w h
    · rw [List.eq_of_mem_replicate h]; exact hK m (by omega)
theorem q_th (M : d_M) {k : Int32} (h : m_thrown M = k) : ms_thrown M k = M := by subst h; rfl
theorem q_op_work (hF : 3000 ≤ F) (h : q_rel B y q M) (hB : B + 20000 ≤ 1000000000) (v : Int64) : q_go B (f_L_work F q v) (f_X4_work F M) := by
  have hn10 : ¬ nI 1 = nI 0 := by decide
  have hI := h.1
  have h6 := hI.2.2.2.2.2.2.1
  obtain ⟨len, c, t6, t7, t8, t9⟩ := h.2.2.2.2
  have e1 := q1_ic (F := F) hF t7 t6 (fun k hk => ⟨(t9 k hk).1, (t9 k hk).2.2⟩)
  obtain ⟨M', g1, g2, g3, g4⟩ := q4_read (F := F) (M := ms_thrown M (nI 0)) hF t6 (fun k hk => (t9 k hk).2.2) t8 (fun k hk => (t9 k hk).2.1)
  have hz' : m_z M' = q_z y := g2.1.trans h.2.2.1
  have ht' : m_thrown M' = nI 0 := g2.2.2.2.2.2.1
  have hbad : ∀ (q' : d_C) (k : Nat), q'.1 = q.1 → q'.2.2.1 = q.2.2.1 → q'.2.2.2.1 = q.2.2.2.1 → q'.2.2.2.2.1 = q.2.2.2.2.1 → k = 1 ∨ k = 2 → q_go B (some (nI k, q', v)) (some (nI 0, ms_thrown M' (nI k))) := by
    intro q' k a1 a2 a3 a4 hk
    have hr : q_rel (B + 20000) y q (ms_thrown M' (nI k)) := q_rel_c (q := q) (M := M) h (by omega) hB ⟨rfl, rfl⟩ ⟨g2.1, g2.2.1, g2.2.2.1, g2.2.2.2.1, g2.2.2.2.2.1⟩
    obtain ⟨r1, r2, r3, r4, ⟨len', c', r6, r7, r8, r9⟩⟩ := hr
    refine ⟨nI k, q', v, nI 0, _, rfl, rfl, rfl, fun e => ?_, y, r1, a1.trans r2, r3, by rw [a2]; exact r4, len', c', r6, a4.trans r7, r8, fun j hj => by rw [a3]; exact r9 j hj⟩
    exfalso
    rcases hk with rfl | rfl
    · exact hn10 e
    · exact absurd e (by decide)
  unfold f_L_work f_X3_work f_X4_work
  simp only [q_let, q_fails, q_bind, n_l0, n_l1, n_l2, n_l3, n_l4, n_l5, n_l6, n_l7, n_l8, n_l9, n_l10, n_l11, n_l12, n_l13, n_l14, n_l15, n_l16, n_l17, n_l18, n_l19, n_l20, n_l21, n_l22, n_l23, n_l24, n_l25, n_l30, n_l31, n_l33, n_l48, n_l49, n_l57, n_l60, n_l100, n_l114, n_l115, n_l126, n_l200, n_l214, n_l239, n_l264, n_l294, n_l400, n_l1000, n_l1470, n_l5000, n_l1000000, n_o, n_nM]
  rw [e1, g1, q_bind, q_bind, g3]
  by_cases e2 : q_cm1 (q_sc c len) = 1
  · have hsc : q_sc c len ≠ 5 := fun e => by rw [e] at e2; exact absurd e2 (by decide)
    obtain ⟨W, R, p1, p2⟩ := q1_rp (F := F) hF t7 t6 (fun k hk => ⟨(t9 k hk).1, (t9 k hk).2.2⟩) hsc
    have hwr := g4 e2
    obtain ⟨b1, -, -, b4⟩ := q_tp_b len hsc
    have hlen := q_ds_len (q_tp c len).2.1 (q_tp c len).2.2 (q_tp c len).1
    have hD := q_sum_le (f := (q_tp c len).2.2) (b := 99) (n := (q_tp c len).1) (fun k hk => (b4 k hk).1)
    have hdy : m_days M' = nI (q_sum (q_tp c len).2.2 (q_tp c len).1) := by rw [← hlen]; exact hwr.1
    have hlt := n_lt (a := 200) (b := q_sum (q_tp c len).2.2 (q_tp c len).1) (by omega) (by omega)
    have hle := n_le (a := y 6 + q_sum (q_tp c len).2.2 (q_tp c len).1) (b := 1000) (by omega) (by omega)
    rw [e2, if_neg hn10, if_neg hn10, p1, q_bind, h.2.1, hdy, hz']
    simp (disch := first | omega | assumption) only [hlt, q_zk, n_add, q_g, n_C, hle]
    by_cases e3 : 200 < q_sum (q_tp c len).2.2 (q_tp c len).1
    · rw [if_pos e3, if_pos e3, q_bind]
      exact hbad _ 2 h.2.1.symm rfl rfl t7.symm (Or.inr rfl)
    · rw [if_neg e3, if_neg e3]
      by_cases e4 : y 6 + q_sum (q_tp c len).2.2 (q_tp c len).1 ≤ 1000
      · have hr : q_rel B y ((q_z y, q.2.1, q.2.2.1, (q.2.2.2.1, nI len, W, R, nI (q_tp c len).1)) : d_C) M' := by
          refine ⟨hI, rfl, hz', ?_, len, c, t6, rfl, g2.2.2.2.2.1.trans t8, fun k hk => ⟨(t9 k hk).1, by rw [g2.2.2.1]; exact (t9 k hk).2.1, (t9 k hk).2.2⟩⟩
          obtain ⟨m, S, s1, s2⟩ := h.2.2.2.1
          exact ⟨m, S, ⟨s1.1, g2.2.2.2.1.trans s1.2.1, s1.2.2.1, s1.2.2.2.1, fun k hk j hj => by rw [g2.2.1]; exact s1.2.2.2.2 k hk j hj⟩, s2⟩
        obtain ⟨sv, r', m', k1, k2, k3⟩ := q_keepR hF hr
        rw [if_pos e4, if_pos e4, k1, k2]
        simp only [q_bind]
        have hMz : ms_length (ms_saved (ms_rows M' r') (nI m')) (nI 0) = q_M (ms_length (ms_saved (ms_rows M' r') (nI m')) (nI 0)) y := q_M_e hz'
        have hwr' : q_wr (ms_length (ms_saved (ms_rows M' r') (nI m')) (nI 0)) (q_ds (q_tp c len).2.1 (q_tp c len).2.2 (q_tp c len).1) := hwr
        have c1 := q1_wpL (F := F) hF (show (q_tp c len).1 ≤ 60 by omega) (fun k hk => ⟨(b4 k hk).1, (b4 k hk).2.1⟩) (tr := q.2.1) (sv := sv) (t := (q.2.2.2.1, nI len, W, R, nI (q_tp c len).1)) rfl p2 hI (by omega) (q_tp c len).1 F 0 (by omega) (by omega)
        have c2 := q4_wkL (F := F) hF hwr' (by rw [hlen]; omega) (q_ds_mem (fun k hk => (b4 k hk).2.1)) _ F 0 0 B y rfl (by rw [List.drop_zero]; omega) (by rw [List.drop_zero, hlen]; omega) hI (by rw [List.drop_zero, hlen]; omega)
        rw [List.drop_zero] at c2
        have hI' := q_wl_I (q_ds (q_tp c len).2.1 (q_tp c len).2.2 (q_tp c len).1) B (0, y) hI (by rw [hlen]; omega)
        have hI'' := q_I_mono hI' (show _ ≤ B + 20000 by rw [hlen]; omega) hB
        have c1' : f_X3_work_L75 F F (nI 0) (nI 0) (q_z y, q.2.1, sv, (q.2.2.2.1, nI len, W, R, nI (q_tp c len).1)) = _ := c1
        rw [hMz, c1', c2]
        simp only [q_bind, Sum.elim_inr]
        obtain ⟨r1, r2, r3, r4, -⟩ := k3 (B + 20000) _ q.2.1 (q_M (ms_saved (ms_rows M' r') (nI m')) (q_wl (q_ds (q_tp c len).2.1 (q_tp c len).2.2 (q_tp c len).1) (0, y)).2) hI'' (by omega) rfl rfl rfl rfl rfl
        exact ⟨nI 0, _, _, _, _, rfl, rfl, ht', fun _ => rfl, _, r1, rfl, rfl, r4, 0, c, by omega, rfl, rfl, fun k hk => absurd hk (Nat.not_lt_zero k)⟩
      · rw [if_neg e4, if_neg e4, q_bind]
        exact hbad _ 2 h.2.1.symm rfl rfl t7.symm (Or.inr rfl)
  · have e2' : q_cm1 (q_sc c len) = 0 := by
      have hle1 : q_cm1 (q_sc c len) ≤ 1 := by unfold q_cm1; split <;> omega
      omega
    rw [e2', if_pos rfl, if_pos rfl, q_bind]
    exact hbad q 1 rfl rfl rfl rfl (Or.inl rfl)
end RR
