/-! the class takes the row apart -/
theorem q_okc {c : Nat → Nat} {k : Nat} (h : q_sc c (k + 1) ≠ 5) : (q_wt (c k) ≠ 3 ∧ q_dg (c k) = 0 ∧ q_sc c (k + 1) = 1) ∨ (¬ q_wt (c k) ≠ 3 ∧ q_dg (c k) = 1 ∧ 48 ≤ c k ∧ c k ≤ 57 ∧ q_sc c (k + 1) ≠ 1) := by
  have hss : q_sc c (k + 1) = q_af (q_sc c k) (c k) := rfl
  by_cases e3 : q_wt (c k) ≠ 3
  · left
    refine ⟨e3, ?_, ?_⟩
    · unfold q_wt at e3
      unfold q_dg
      by_cases a : c k = 100
      · rw [a]; rfl
      · rw [if_neg a] at e3
        by_cases b : c k = 114
        · rw [b]; rfl
        · rw [if_neg b] at e3
          by_cases d : c k = 115
          · rw [d]; rfl
          · rw [if_neg d] at e3; exact absurd rfl e3
    · rw [hss] at h ⊢
      unfold q_af at h ⊢
      by_cases a : q_sc c k = 5
      · rw [if_pos a] at h; exact absurd rfl h
      · rw [if_neg a, if_pos e3] at h ⊢
        by_cases b : q_sc c k = 2
        · rw [if_pos b] at h; exact absurd rfl h
        · rw [if_neg b]
  · right
    have hd := q_af_dig e3 (hss ▸ h)
    have hdg : q_dg (c k) = 1 := by unfold q_dg; rw [if_neg (by omega), if_neg (by omega)]
    refine ⟨e3, hdg, hd.1, hd.2, ?_⟩
    have hk5 : q_sc c k ≠ 5 := fun q => h (q_sc_5 q (k + 1) (by omega))
    have hdn : ¬ q_dg (c k) = 0 := by omega
    rw [hss]
    unfold q_af
    rw [if_neg hk5, if_neg e3, if_neg hdn]
    repeat' split
    all_goals omega
section RT
variable {F : Nat} {c : Nat → Nat} {len : Nat}
theorem q1_inL {t : d_T} (ht : t.2.1 = nI len) (hl : len ≤ 60) (hc : ∀ k, k < len → t.1 k = nI (c k) ∧ c k < 128) (hok : q_sc c len ≠ 5) : ∀ n j num, 1 ≤ j → j ≤ len → len - j < n → ((num = 0 ∧ q_sc c j = 1) ∨ (num = q_lr c j ∧ 1 ≤ num ∧ q_sc c j ≠ 1)) →
    ∃ j' num', f_X0_readParts_L52 F t n (nI j) (nI num) = some (nI j', nI num') ∧ j ≤ j' ∧ j' ≤ len ∧ (j' = len ∨ q_wt (c j') ≠ 3) ∧ num' ≤ 99 ∧ (if 1 < num' then num' else 1) = q_lr c j' ∧ (q_tp c j').1 = (q_tp c j).1 ∧ q_lk c j' = q_lk c j ∧ (∀ k, k < (q_tp c j).1 - 1 → (q_tp c j').2.1 k = (q_tp c j).2.1 k ∧ (q_tp c j').2.2 k = (q_tp c j).2.2 k) := by
  intro n
  induction n with
  | zero => intro j num _ _ h; omega
  | succ n ih =>
    intro j num hj1 hj hn hN
    have hokj : q_sc c j ≠ 5 := fun q => hok (q_sc_5 q len hj)
    have hb := q_tp_b j hokj
    have hb2 := hb.2.2.1 (by omega)
    have hlr : q_lr c j ≤ 99 := (hb.2.2.2 _ (by omega)).1
    have hmx : (if 1 < num then num else 1) = q_lr c j := by
      rcases hN with ⟨a, b⟩ | ⟨a, b, d⟩
      · rw [a, if_neg (by omega)]; exact (hb2.2.2.1 (by omega)).symm
      · split <;> omega
    have hn99 : num ≤ 99 := by rcases hN with ⟨a, b⟩ | ⟨a, b, d⟩ <;> omega
    unfold f_X0_readParts_L52
    rw [ht]
    simp (disch := first | omega | assumption) only [n_le]
    by_cases e : j = len
    · exact ⟨j, num, if_pos (by omega), Nat.le_refl _, hj, Or.inl e, hn99, hmx, rfl, rfl, fun k hk => ⟨rfl, rfl⟩⟩
    · rw [if_neg (by omega), q_sg ht hl hc (by omega), q_bind, q_dgI F _ (hc j (by omega)).2, q_bind]
      rcases q_okc (c := c) (k := j) (fun q => hok (q_sc_5 q len (by omega))) with ⟨a, b, d⟩ | ⟨a, b, d1, d2, d3⟩
      · refine ⟨j, num, ?_, Nat.le_refl _, hj, Or.inr a, hn99, hmx, rfl, rfl, fun k hk => ⟨rfl, rfl⟩⟩
        rw [b, if_pos (by rfl)]
      · obtain ⟨t1, t2, t3, t4⟩ := q_tp_dig a
        have hv : num * 10 + (c j - 48) = q_lr c (j + 1) := by
          rw [t3]
          rcases hN with ⟨a', b'⟩ | ⟨a', b', d'⟩
          · rw [a', if_pos b']; omega
          · rw [if_neg d', a']; omega
        have hokj1 : q_sc c (j + 1) ≠ 5 := fun q => hok (q_sc_5 q len (by omega))
        have hb3 := (q_tp_b (j + 1) hokj1).2.2.1 (by omega)
        obtain ⟨j', num', h1, h2, h3, h4, h5, h6, h7, h8, h9⟩ := ih (j + 1) (num * 10 + (c j - 48)) (by omega) (by omega) (by omega) (Or.inr ⟨hv, by rw [hv]; exact hb3.2.1, d3⟩)
        refine ⟨j', num', ?_, by omega, h3, h4, h5, h6, h7.trans t1, h8.trans t2, fun k hk => ⟨(h9 k (by omega)).1.trans (t4 k hk).1, (h9 k (by omega)).2.trans (t4 k hk).2⟩⟩
        rw [b, if_neg (by decide)]
        simp (disch := first | omega | assumption) only [n_l0, n_l1, n_l2, n_l3, n_l4, n_l5, n_l6, n_l7, n_l8, n_l9, n_l10, n_l11, n_l12, n_l13, n_l14, n_l15, n_l16, n_l17, n_l18, n_l19, n_l20, n_l21, n_l22, n_l23, n_l24, n_l25, n_l30, n_l31, n_l33, n_l48, n_l49, n_l57, n_l60, n_l100, n_l114, n_l115, n_l126, n_l200, n_l214, n_l239, n_l264, n_l294, n_l400, n_l1000, n_l1470, n_l5000, n_l1000000, n_o, n_nM, q_bind, n_add, n_mul, n_sub]
        exact h1
theorem q1_rpL (hF : 3000 ≤ F) {sg : d_Z} {pp : Int32} (hl : len ≤ 60) (hc : ∀ k, k < len → sg k = nI (c k) ∧ c k < 128) (hok : q_sc c len ≠ 5) : ∀ n i (W R : d_Z), i ≤ len → (i = len ∨ q_wt (c i) ≠ 3) → len - i < n → (∀ k, k < (q_tp c i).1 → W k = nI ((q_tp c i).2.1 k) ∧ R k = nI ((q_tp c i).2.2 k)) →
    ∃ W' R' x, f_X0_readParts_L6 F n (nI (q_sum (q_tp c i).2.2 (q_tp c i).1)) (nI i) (nI (q_tp c i).1) (sg, nI len, W, R, pp) = some (nI (q_sum (q_tp c len).2.2 (q_tp c len).1), x, nI (q_tp c len).1, (sg, nI len, W', R', pp)) ∧ (∀ k, k < (q_tp c len).1 → W' k = nI ((q_tp c len).2.1 k) ∧ R' k = nI ((q_tp c len).2.2 k)) := by
  intro n
  induction n with
  | zero => intro i W R _ _ h; omega
  | succ n ih =>
    intro i W R hi hbd hn hWR
    have hoki : q_sc c i ≠ 5 := fun q => hok (q_sc_5 q len hi)
    have hb := q_tp_b i hoki
    conv => enter [1, W', 1, R', 1, x, 1]; unfold f_X0_readParts_L6
    simp (disch := first | omega | assumption) only [n_le, n_o]
    by_cases e : i = len
    · subst e
      exact ⟨W, R, nI i, if_pos (by omega), hWR⟩
    · have e3 : q_wt (c i) ≠ 3 := by
        rcases hbd with q | q
        · exact absurd q e
        · exact q
      obtain ⟨t1, t2, t3, t4⟩ := q_tp_let e3
      have hsi : q_sc c (i + 1) = 1 := by
        rcases q_okc (c := c) (k := i) (fun q => hok (q_sc_5 q len (by omega))) with ⟨a, b, d⟩ | ⟨a, b⟩
        · exact d
        · exact absurd e3 a
      have hw3 := q_wt_le (c i)
      have hsg := q_sg (F := F) (t := (sg, nI len, W, R, pp)) (k := i) rfl hl hc (by omega)
      obtain ⟨j', num', h1, h2, h3, h4, h5, h6, h7, h8, h9⟩ := q1_inL (F := F) (t := (sg, nI len, upd W (q_tp c i).1 (nI (q_wt (c i))), R, pp)) rfl hl hc hok F (i + 1) 0 (by omega) (by omega) (by omega) (Or.inl ⟨rfl, hsi⟩)
      have hmx : (if nI 1 < nI num' then nI num' else nI 1) = nI (q_lr c j') := by
        rw [← h6]
        simp (disch := first | omega | assumption) only [n_lt]
        split <;> rfl
      have hokj : q_sc c j' ≠ 5 := fun q => hok (q_sc_5 q len h3)
      have hpj : (q_tp c j').1 = (q_tp c i).1 + 1 := h7.trans t1
      have hWR2 : ∀ k, k < (q_tp c j').1 → upd W (q_tp c i).1 (nI (q_wt (c i))) k = nI ((q_tp c j').2.1 k) ∧ upd R (q_tp c i).1 (nI (q_lr c j')) k = nI ((q_tp c j').2.2 k) := by
        intro k hk
        rw [hpj] at hk
        unfold upd
        by_cases ek : k = (q_tp c i).1
        · rw [if_pos ek, if_pos ek, ek]
          have g1 : (q_tp c j').2.1 (q_tp c i).1 = q_lk c j' := by unfold q_lk; rw [hpj, Nat.add_sub_cancel]
          have g2 : (q_tp c j').2.2 (q_tp c i).1 = q_lr c j' := by unfold q_lr; rw [hpj, Nat.add_sub_cancel]
          rw [g1, g2, h8, t2]
          exact ⟨rfl, rfl⟩
        · rw [if_neg ek, if_neg ek, (h9 k (by omega)).1, (h9 k (by omega)).2, (t4 k (by omega)).1, (t4 k (by omega)).2]
          exact hWR k (by omega)
      have hsum : q_sum (q_tp c i).2.2 (q_tp c i).1 + q_lr c j' = q_sum (q_tp c j').2.2 (q_tp c j').1 := by
        rw [hpj]
        show _ = q_sum (q_tp c j').2.2 (q_tp c i).1 + (q_tp c j').2.2 (q_tp c i).1
        have g2 : (q_tp c j').2.2 (q_tp c i).1 = q_lr c j' := by unfold q_lr; rw [hpj, Nat.add_sub_cancel]
        rw [g2, q_sum_cg (fun k hk => ((h9 k (by omega)).2.trans (t4 k hk).2).symm)]
      obtain ⟨W', R', x, g3, g4⟩ := ih j' (upd W (q_tp c i).1 (nI (q_wt (c i)))) (upd R (q_tp c i).1 (nI (q_lr c j'))) h3 h4 (by omega) hWR2
      refine ⟨W', R', x, ?_, g4⟩
      rw [if_neg (by omega), if_neg (by omega), if_neg (by omega), hsg, q_bind, q_wtI F _ (hc i (by omega)).2, if_neg e3, q_bind]
      simp (disch := first | omega | assumption) only [n_l0, n_l1, n_l2, n_l3, n_l4, n_l5, n_l6, n_l7, n_l8, n_l9, n_l10, n_l11, n_l12, n_l13, n_l14, n_l15, n_l16, n_l17, n_l18, n_l19, n_l20, n_l21, n_l22, n_l23, n_l24, n_l25, n_l30, n_l31, n_l33, n_l48, n_l49, n_l57, n_l60, n_l100, n_l114, n_l115, n_l126, n_l200, n_l214, n_l239, n_l264, n_l294, n_l400, n_l1000, n_l1470, n_l5000, n_l1000000, n_o, n_nM, q_g, n_C, q_let, n_add]
      rw [h1, q_bind]
      simp only [hmx]
      have hu : upd R (q_tp c i).1 (nI (q_lr c j')) (q_tp c i).1 = nI (q_lr c j') := if_pos rfl
      rw [hu, n_add, hsum, ← hpj]
      exact g3
theorem q1_rp (hF : 3000 ≤ F) {t : d_T} (ht : t.2.1 = nI len) (hl : len ≤ 60) (hc : ∀ k, k < len → t.1 k = nI (c k) ∧ c k < 128) (hok : q_sc c len ≠ 5) :
    ∃ W' R', f_X0_readParts F t = some (nI (q_sum (q_tp c len).2.2 (q_tp c len).1), (t.1, nI len, W', R', nI (q_tp c len).1)) ∧ (∀ k, k < (q_tp c len).1 → W' k = nI ((q_tp c len).2.1 k) ∧ R' k = nI ((q_tp c len).2.2 k)) := by
  have h0 : 0 = len ∨ q_wt (c 0) ≠ 3 := by
    by_cases e : 0 = len
    · exact Or.inl e
    · right
      rcases q_okc (c := c) (k := 0) (fun q => hok (q_sc_5 q len (by omega))) with ⟨a, b, d⟩ | ⟨a, b, d1, d2, d3⟩
      · exact a
      · exfalso
        have h1 : q_sc c (0 + 1) ≠ 5 := fun q => hok (q_sc_5 q len (by omega))
        apply h1
        show q_af 0 (c 0) = 5
        unfold q_af
        rw [if_neg (by omega), if_neg a, if_neg (by omega), if_neg (by omega), if_neg (by omega), if_neg (by omega)]
  obtain ⟨s0, l0, w0, r0, p0⟩ := t
  replace ht : l0 = nI len := ht
  subst ht
  obtain ⟨W', R', x, h1, h2⟩ := q1_rpL (F := F) hF (sg := s0) (pp := p0) hl hc hok F 0 w0 r0 (by omega) h0 (by omega) (fun k hk => absurd hk (Nat.not_lt_zero k))
  refine ⟨W', R', ?_, h2⟩
  unfold f_X0_readParts
  have h3 : f_X0_readParts_L6 F F 0 0 0 (s0, nI len, w0, r0, p0) = some (nI (q_sum (q_tp c len).2.2 (q_tp c len).1), x, nI (q_tp c len).1, (s0, nI len, W', R', p0)) := h1
  rw [h3]; rfl
end RT
