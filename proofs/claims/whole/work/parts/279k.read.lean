/-! the check's reading -/
def q_ds (K R : Nat → Nat) : Nat → List Nat
  | 0 => []
  | m + 1 => q_ds K R m ++ List.replicate (R m) (K m)
theorem q_ds_cg {K R K' R' : Nat → Nat} : ∀ {m : Nat}, (∀ k, k < m → K k = K' k ∧ R k = R' k) → q_ds K R m = q_ds K' R' m := by
  intro m
  induction m with
  | zero => intro _; rfl
  | succ m ih =>
    intro h
    show q_ds K R m ++ List.replicate (R m) (K m) = q_ds K' R' m ++ List.replicate (R' m) (K' m)
    rw [ih (fun k hk => h k (by omega)), (h m (by omega)).1, (h m (by omega)).2]
theorem q_ds_len (K R : Nat → Nat) : ∀ m, (q_ds K R m).length = q_sum R m := by
  intro m
  induction m with
  | zero => rfl
  | succ m ih =>
    show (q_ds K R m ++ List.replicate (R m) (K m)).length = q_sum R m + R m
    rw [List.length_append, List.length_replicate, ih]
def q_wr (M : d_M) (l : List Nat) : Prop := m_days M = nI l.length ∧ ∀ k, k < l.length → k < 200 → m_weather M k = nI (l.getD k 0)
def q_s2m (M M' : d_M) : Prop := q_sm M M' ∧ m_isWhole M' = m_isWhole M
theorem q_sm_rf (M : d_M) : q_sm M M := ⟨rfl, rfl, rfl, rfl, rfl, rfl, rfl⟩
theorem q_sm_tr {M M' M'' : d_M} (h : q_sm M M') (h' : q_sm M' M'') : q_sm M M'' := ⟨h'.1.trans h.1, h'.2.1.trans h.2.1, h'.2.2.1.trans h.2.2.1, h'.2.2.2.1.trans h.2.2.2.1, h'.2.2.2.2.1.trans h.2.2.2.2.1, h'.2.2.2.2.2.1.trans h.2.2.2.2.2.1, h'.2.2.2.2.2.2.trans h.2.2.2.2.2.2⟩
theorem q_wr_s {M : d_M} {l : List Nat} {w : Nat} (h : q_wr M l) (hl : l.length < 200) : q_wr (ms_days (ms_weather M (upd (m_weather M) l.length (nI w))) (nI (l.length + 1))) (l ++ [w]) := by
  refine ⟨?_, fun k hk hk2 => ?_⟩
  · show nI (l.length + 1) = nI (l ++ [w]).length
    rw [List.length_append]; rfl
  · show upd (m_weather M) l.length (nI w) k = nI ((l ++ [w]).getD k 0)
    rw [List.length_append] at hk
    have hk3 : k < l.length + 1 := hk
    unfold upd
    by_cases e : k = l.length
    · rw [if_pos e, e]
      congr 1
      rw [List.getD_eq_getElem?_getD, List.getElem?_append_right (Nat.le_refl _), Nat.sub_self]; rfl
    · rw [if_neg e, h.2 k (by omega) hk2]
      congr 1
      rw [List.getD_eq_getElem?_getD, List.getD_eq_getElem?_getD, List.getElem?_append_left (by omega)]
theorem q_wr_s2 {M : d_M} {l : List Nat} {w : Nat} (h : q_wr M l) (hl : 200 ≤ l.length) : q_wr (ms_days M (nI (l.length + 1))) (l ++ [w]) := by
  refine ⟨?_, fun k hk hk2 => ?_⟩
  · show nI (l.length + 1) = nI (l ++ [w]).length
    rw [List.length_append]; rfl
  · show m_weather M k = nI ((l ++ [w]).getD k 0)
    rw [h.2 k (by omega) hk2]
    congr 1
    rw [List.getD_eq_getElem?_getD, List.getD_eq_getElem?_getD, List.getElem?_append_left (by omega)]
theorem q4_coL {F o w : Nat} (ho : o ≤ 99) : ∀ n k (M : d_M) (l : List Nat), k ≤ o → o - k < n → l.length + (o - k) ≤ 10000 → q_wr M l →
    ∃ M', f_X4_comes_L2 F (nI w) (nI o) n (nI k) M = some (nI o, M') ∧ q_s2m M M' ∧ q_wr M' (l ++ List.replicate (o - k) w) := by
  intro n
  induction n with
  | zero => intro k M l _ h; omega
  | succ n ih =>
    intro k M l hk hn hl hw
    unfold f_X4_comes_L2
    simp (disch := first | omega | assumption) only [n_l0, n_l1, n_l2, n_l3, n_l4, n_l5, n_l6, n_l7, n_l8, n_l9, n_l10, n_l11, n_l12, n_l13, n_l14, n_l15, n_l16, n_l17, n_l18, n_l19, n_l20, n_l21, n_l22, n_l23, n_l24, n_l25, n_l30, n_l31, n_l33, n_l48, n_l49, n_l57, n_l60, n_l100, n_l114, n_l115, n_l126, n_l200, n_l214, n_l239, n_l264, n_l294, n_l400, n_l1000, n_l1470, n_l5000, n_l1000000, n_o, n_nM, n_le]
    by_cases e : k = o
    · subst e
      refine ⟨M, if_pos (by omega), ⟨q_sm_rf M, rfl⟩, ?_⟩
      rw [Nat.sub_self]
      show q_wr M (l ++ [])
      rw [List.append_nil]; exact hw
    · have hrep : l ++ List.replicate (o - k) w = (l ++ [w]) ++ List.replicate (o - (k + 1)) w := by
        rw [show o - k = (o - (k + 1)) + 1 by omega, List.replicate_succ, List.append_assoc]; rfl
      rw [if_neg (by omega), hw.1, hrep]
      simp (disch := first | omega | assumption) only [n_le, n_add]
      by_cases e2 : 200 ≤ l.length
      · rw [if_pos e2, q_let]
        obtain ⟨M', h1, h2, h3⟩ := ih (k + 1) (ms_days M (nI (l.length + 1))) (l ++ [w]) (by omega) (by omega) (by rw [List.length_append]; show l.length + 1 + _ ≤ 10000; omega) (q_wr_s2 hw e2)
        exact ⟨M', h1, h2, h3⟩
      · rw [if_neg e2, q_g (by omega) (by omega), q_let, q_let, n_C (by omega)]
        have hd : m_days (ms_weather M (upd (m_weather M) l.length (nI w))) = nI l.length := hw.1
        obtain ⟨M', h1, h2, h3⟩ := ih (k + 1) (ms_days (ms_weather M (upd (m_weather M) l.length (nI w))) (nI (l.length + 1))) (l ++ [w]) (by omega) (by omega) (by rw [List.length_append]; show l.length + 1 + _ ≤ 10000; omega) (q_wr_s hw (by omega))
        refine ⟨M', ?_, h2, h3⟩
        rw [← h1, hd, n_add]
section RT
variable {F : Nat} {c : Nat → Nat} {len : Nat} {M : d_M}
theorem q4_wi {x : Nat} (hx : x < 128) : f_X4_within F (nI x) (nI 48) (nI 57) = some (nI (q_dg x)) := by
  unfold f_X4_within q_dg
  simp (disch := first | omega | assumption) only [n_l0, n_l1, n_l2, n_l3, n_l4, n_l5, n_l6, n_l7, n_l8, n_l9, n_l10, n_l11, n_l12, n_l13, n_l14, n_l15, n_l16, n_l17, n_l18, n_l19, n_l20, n_l21, n_l22, n_l23, n_l24, n_l25, n_l30, n_l31, n_l33, n_l48, n_l49, n_l57, n_l60, n_l100, n_l114, n_l115, n_l126, n_l200, n_l214, n_l239, n_l264, n_l294, n_l400, n_l1000, n_l1470, n_l5000, n_l1000000, n_o, n_nM, n_lt]
  split
  · rfl
  · split <;> rfl
/-- one turn of the reading -/
theorem q4_rdT {n k s : Nat} {v2 v3 : Int32} (hlen : m_length M = nI len) (hl : len ≤ 60) (hk : k < len) (hc : m_text M k = nI (c k)) (h128 : c k < 128) (hs : s < 5) :
    f_X4_read_L19 F (n + 1) (nI s) v2 v3 (nI k) M = if q_af s (c k) = 5 then some (.inr (nI s, v2, v3, nI k, M))
      else if q_wt (c k) ≠ 3 then (if s = 0 then f_X4_read_L19 F n (nI 1) (nI (q_wt (c k))) (nI 1) (nI (k + 1)) M else (f_X4_comes F M v2 v3).bind fun M' => f_X4_read_L19 F n (nI 1) (nI (q_wt (c k))) (nI 1) (nI (k + 1)) M')
      else f_X4_read_L19 F n (nI (q_af s (c k))) v2 (if s = 1 then nI (c k) - nI 48 else nI 10 * v3 + nI (c k) - nI 48) (nI (k + 1)) M := by
  generalize c k = x at *
  have hk2 : ¬ len ≤ k := by omega
  have hx : x = 100 ∨ x = 114 ∨ x = 115 ∨ (x ≠ 100 ∧ x ≠ 114 ∧ x ≠ 115 ∧ (x < 48 ∨ 57 < x)) ∨ x = 48 ∨ x = 49 ∨ (50 ≤ x ∧ x ≤ 57) := by omega
  have hs' : s = 0 ∨ s = 1 ∨ s = 2 ∨ s = 3 ∨ s = 4 := by omega
  rcases hx with q | q | q | q | q | q | q
  · subst q
    rcases hs' with r | r | r | r | r <;> subst r <;> (conv => lhs; unfold f_X4_read_L19) <;> rw [hlen] <;> simp (disch := first | omega | assumption) [n_l0, n_l1, n_l2, n_l3, n_l4, n_l5, n_l6, n_l7, n_l8, n_l9, n_l10, n_l11, n_l12, n_l13, n_l14, n_l15, n_l16, n_l17, n_l18, n_l19, n_l20, n_l21, n_l22, n_l23, n_l24, n_l25, n_l30, n_l31, n_l33, n_l48, n_l49, n_l57, n_l60, n_l100, n_l114, n_l115, n_l126, n_l200, n_l214, n_l239, n_l264, n_l294, n_l400, n_l1000, n_l1470, n_l5000, n_l1000000, n_o, n_nM, n_le, q_g, n_C, hc, q4_wi, q_bind, n_eq, q_let, n_lt, n_add, n_eqM, hk2, q_af, q_wt, q_dg]
  · subst q
    rcases hs' with r | r | r | r | r <;> subst r <;> (conv => lhs; unfold f_X4_read_L19) <;> rw [hlen] <;> simp (disch := first | omega | assumption) [n_l0, n_l1, n_l2, n_l3, n_l4, n_l5, n_l6, n_l7, n_l8, n_l9, n_l10, n_l11, n_l12, n_l13, n_l14, n_l15, n_l16, n_l17, n_l18, n_l19, n_l20, n_l21, n_l22, n_l23, n_l24, n_l25, n_l30, n_l31, n_l33, n_l48, n_l49, n_l57, n_l60, n_l100, n_l114, n_l115, n_l126, n_l200, n_l214, n_l239, n_l264, n_l294, n_l400, n_l1000, n_l1470, n_l5000, n_l1000000, n_o, n_nM, n_le, q_g, n_C, hc, q4_wi, q_bind, n_eq, q_let, n_lt, n_add, n_eqM, hk2, q_af, q_wt, q_dg]
  · subst q
    rcases hs' with r | r | r | r | r <;> subst r <;> (conv => lhs; unfold f_X4_read_L19) <;> rw [hlen] <;> simp (disch := first | omega | assumption) [n_l0, n_l1, n_l2, n_l3, n_l4, n_l5, n_l6, n_l7, n_l8, n_l9, n_l10, n_l11, n_l12, n_l13, n_l14, n_l15, n_l16, n_l17, n_l18, n_l19, n_l20, n_l21, n_l22, n_l23, n_l24, n_l25, n_l30, n_l31, n_l33, n_l48, n_l49, n_l57, n_l60, n_l100, n_l114, n_l115, n_l126, n_l200, n_l214, n_l239, n_l264, n_l294, n_l400, n_l1000, n_l1470, n_l5000, n_l1000000, n_o, n_nM, n_le, q_g, n_C, hc, q4_wi, q_bind, n_eq, q_let, n_lt, n_add, n_eqM, hk2, q_af, q_wt, q_dg]
  · obtain ⟨a, b, d, e⟩ := q
    have hd : q_dg x = 0 := by
      unfold q_dg
      rcases e with e | e
      · rw [if_pos e]
      · rw [if_neg (by omega), if_pos e]
    rcases hs' with r | r | r | r | r <;> subst r <;> (conv => lhs; unfold f_X4_read_L19) <;> rw [hlen] <;> simp (disch := first | omega | assumption) [n_l0, n_l1, n_l2, n_l3, n_l4, n_l5, n_l6, n_l7, n_l8, n_l9, n_l10, n_l11, n_l12, n_l13, n_l14, n_l15, n_l16, n_l17, n_l18, n_l19, n_l20, n_l21, n_l22, n_l23, n_l24, n_l25, n_l30, n_l31, n_l33, n_l48, n_l49, n_l57, n_l60, n_l100, n_l114, n_l115, n_l126, n_l200, n_l214, n_l239, n_l264, n_l294, n_l400, n_l1000, n_l1470, n_l5000, n_l1000000, n_o, n_nM, n_le, q_g, n_C, hc, q4_wi, q_bind, n_eq, q_let, n_lt, n_add, n_eqM, hk2, q_af, q_wt, hd, a, b, d]
  · subst q
    rcases hs' with r | r | r | r | r <;> subst r <;> (conv => lhs; unfold f_X4_read_L19) <;> rw [hlen] <;> simp (disch := first | omega | assumption) [n_l0, n_l1, n_l2, n_l3, n_l4, n_l5, n_l6, n_l7, n_l8, n_l9, n_l10, n_l11, n_l12, n_l13, n_l14, n_l15, n_l16, n_l17, n_l18, n_l19, n_l20, n_l21, n_l22, n_l23, n_l24, n_l25, n_l30, n_l31, n_l33, n_l48, n_l49, n_l57, n_l60, n_l100, n_l114, n_l115, n_l126, n_l200, n_l214, n_l239, n_l264, n_l294, n_l400, n_l1000, n_l1470, n_l5000, n_l1000000, n_o, n_nM, n_le, q_g, n_C, hc, q4_wi, q_bind, n_eq, q_let, n_lt, n_add, n_eqM, hk2, q_af, q_wt, q_dg]
  · subst q
    rcases hs' with r | r | r | r | r <;> subst r <;> (conv => lhs; unfold f_X4_read_L19) <;> rw [hlen] <;> simp (disch := first | omega | assumption) [n_l0, n_l1, n_l2, n_l3, n_l4, n_l5, n_l6, n_l7, n_l8, n_l9, n_l10, n_l11, n_l12, n_l13, n_l14, n_l15, n_l16, n_l17, n_l18, n_l19, n_l20, n_l21, n_l22, n_l23, n_l24, n_l25, n_l30, n_l31, n_l33, n_l48, n_l49, n_l57, n_l60, n_l100, n_l114, n_l115, n_l126, n_l200, n_l214, n_l239, n_l264, n_l294, n_l400, n_l1000, n_l1470, n_l5000, n_l1000000, n_o, n_nM, n_le, q_g, n_C, hc, q4_wi, q_bind, n_eq, q_let, n_lt, n_add, n_eqM, hk2, q_af, q_wt, q_dg]
  · have hd : q_dg x = 1 := by
      unfold q_dg
      rw [if_neg (by omega), if_neg (by omega)]
    have a : x ≠ 100 := by omega
    have b : x ≠ 114 := by omega
    have d : x ≠ 115 := by omega
    have e : x ≠ 48 := by omega
    have f : x ≠ 49 := by omega
    rcases hs' with r | r | r | r | r <;> subst r <;> (conv => lhs; unfold f_X4_read_L19) <;> rw [hlen] <;> simp (disch := first | omega | assumption) [n_l0, n_l1, n_l2, n_l3, n_l4, n_l5, n_l6, n_l7, n_l8, n_l9, n_l10, n_l11, n_l12, n_l13, n_l14, n_l15, n_l16, n_l17, n_l18, n_l19, n_l20, n_l21, n_l22, n_l23, n_l24, n_l25, n_l30, n_l31, n_l33, n_l48, n_l49, n_l57, n_l60, n_l100, n_l114, n_l115, n_l126, n_l200, n_l214, n_l239, n_l264, n_l294, n_l400, n_l1000, n_l1470, n_l5000, n_l1000000, n_o, n_nM, n_le, q_g, n_C, hc, q4_wi, q_bind, n_eq, q_let, n_lt, n_add, n_eqM, hk2, q_af, q_wt, hd, a, b, d, e, f]
end RT
def q_lk (c : Nat → Nat) (n : Nat) : Nat := (q_tp c n).2.1 ((q_tp c n).1 - 1)
def q_lr (c : Nat → Nat) (n : Nat) : Nat := (q_tp c n).2.2 ((q_tp c n).1 - 1)
theorem q_tp_let {c : Nat → Nat} {n : Nat} (h : q_wt (c n) ≠ 3) : (q_tp c (n + 1)).1 = (q_tp c n).1 + 1 ∧ q_lk c (n + 1) = q_wt (c n) ∧ q_lr c (n + 1) = 1 ∧ (∀ k, k < (q_tp c n).1 → (q_tp c (n + 1)).2.1 k = (q_tp c n).2.1 k ∧ (q_tp c (n + 1)).2.2 k = (q_tp c n).2.2 k) := by
  have ht : q_tp c (n + 1) = ((q_tp c n).1 + 1, q_u (q_tp c n).2.1 (q_tp c n).1 (q_wt (c n)), q_u (q_tp c n).2.2 (q_tp c n).1 1) := if_pos h
  unfold q_lk q_lr
  rw [ht]
  refine ⟨rfl, ?_, ?_, fun k hk => ⟨q_u_ne (by omega), q_u_ne (by omega)⟩⟩
  · show q_u _ _ _ ((q_tp c n).1 + 1 - 1) = _
    rw [Nat.add_sub_cancel, q_u_eq]
  · show q_u _ _ _ ((q_tp c n).1 + 1 - 1) = _
    rw [Nat.add_sub_cancel, q_u_eq]
theorem q_tp_dig {c : Nat → Nat} {n : Nat} (h : ¬ q_wt (c n) ≠ 3) : (q_tp c (n + 1)).1 = (q_tp c n).1 ∧ q_lk c (n + 1) = q_lk c n ∧ q_lr c (n + 1) = (if q_sc c n = 1 then c n - 48 else 10 * q_lr c n + (c n - 48)) ∧ (∀ k, k < (q_tp c n).1 - 1 → (q_tp c (n + 1)).2.1 k = (q_tp c n).2.1 k ∧ (q_tp c (n + 1)).2.2 k = (q_tp c n).2.2 k) := by
  have ht : q_tp c (n + 1) = ((q_tp c n).1, (q_tp c n).2.1, q_u (q_tp c n).2.2 ((q_tp c n).1 - 1) (if q_sc c n = 1 then c n - 48 else 10 * (q_tp c n).2.2 ((q_tp c n).1 - 1) + (c n - 48))) := if_neg h
  unfold q_lk q_lr
  rw [ht]
  refine ⟨rfl, rfl, q_u_eq, fun k hk => ⟨rfl, q_u_ne (by omega)⟩⟩
theorem q_af_dig {s x : Nat} (h3 : ¬ q_wt x ≠ 3) (h5 : q_af s x ≠ 5) : 48 ≤ x ∧ x ≤ 57 := by
  unfold q_af at h5
  by_cases e : s = 5
  · rw [if_pos e] at h5; exact absurd rfl h5
  · rw [if_neg e, if_neg h3] at h5
    by_cases h : q_dg x = 0
    · rw [if_pos h] at h5; exact absurd rfl h5
    · unfold q_dg at h
      by_cases h1 : x < 48
      · rw [if_pos h1] at h; exact absurd rfl h
      · rw [if_neg h1] at h
        by_cases h2 : 57 < x
        · rw [if_pos h2] at h; exact absurd rfl h
        · omega
section RT
variable {F : Nat} {c : Nat → Nat} {len : Nat}
theorem q4_rdL (hF : 3000 ≤ F) (hl : len ≤ 60) (h128 : ∀ k, k < len → c k < 128) : ∀ n k (M : d_M), k ≤ len → q_sc c k ≠ 5 → len - k < n → m_length M = nI len → (∀ j, j < len → m_text M j = nI (c j)) → q_wr M (q_ds (q_tp c k).2.1 (q_tp c k).2.2 ((q_tp c k).1 - 1)) →
    ∃ M', q_s2m M M' ∧ (if q_sc c len = 5 then ∃ a b d, f_X4_read_L19 F n (nI (q_sc c k)) (nI (q_lk c k)) (nI (q_lr c k)) (nI k) M = some (.inr (a, b, d, nI (q_fe c len), M'))
      else f_X4_read_L19 F n (nI (q_sc c k)) (nI (q_lk c k)) (nI (q_lr c k)) (nI k) M = some (.inl (nI (q_sc c len), nI (q_lk c len), nI (q_lr c len), nI len, M')) ∧ q_wr M' (q_ds (q_tp c len).2.1 (q_tp c len).2.2 ((q_tp c len).1 - 1))) := by
  intro n
  induction n with
  | zero => intro k M _ _ h; omega
  | succ n ih =>
    intro k M hk hs hn hlen htx hw
    have hsl := (q_sc_le (c := c) k).1
    by_cases e : k = len
    · subst e
      refine ⟨M, ⟨q_sm_rf M, rfl⟩, ?_⟩
      rw [if_neg hs]
      refine ⟨?_, hw⟩
      unfold f_X4_read_L19
      rw [hlen, if_pos (by rw [n_le (by omega) (by omega)]; exact Nat.le_refl _)]
    · have hT := fun (v2 v3 : Int32) => q4_rdT (F := F) (n := n) (v2 := v2) (v3 := v3) hlen hl (show k < len by omega) (htx k (by omega)) (h128 k (by omega)) (show q_sc c k < 5 by omega)
      have hb := q_tp_b k hs
      have hss : q_sc c (k + 1) = q_af (q_sc c k) (c k) := rfl
      by_cases e5 : q_af (q_sc c k) (c k) = 5
      · refine ⟨M, ⟨q_sm_rf M, rfl⟩, ?_⟩
        rw [if_pos (q_sc_5 (hss.trans e5) len (by omega)), hT, if_pos e5]
        have h1 : q_fe c (k + 1) = k := by
          show (if q_fe c k < k then q_fe c k else if q_sc c (k + 1) = 5 then k else k + 1) = k
          rw [q_fe_ok hs, if_neg (by omega), if_pos (hss.trans e5)]
        have h2 := q_fe_st (c := c) (m := k + 1) (by omega) (n := len) (by omega)
        rw [h2, h1]
        exact ⟨_, _, _, rfl⟩
      · have hs' : q_sc c (k + 1) ≠ 5 := fun q => e5 (hss.symm.trans q)
        have hb' := q_tp_b (k + 1) hs'
        by_cases e3 : q_wt (c k) ≠ 3
        · obtain ⟨t1, t2, t3, t4⟩ := q_tp_let e3
          have hs1 : q_sc c (k + 1) = 1 := by
            rw [hss]
            unfold q_af at e5 ⊢
            rw [if_neg hs, if_pos e3] at e5 ⊢
            by_cases e2 : q_sc c k = 2
            · rw [if_pos e2] at e5; exact absurd rfl e5
            · rw [if_neg e2]
          by_cases e0 : q_sc c k = 0
          · have hk0 := hb.2.1 e0
            subst hk0
            have hds : q_ds (q_tp c (0 + 1)).2.1 (q_tp c (0 + 1)).2.2 ((q_tp c (0 + 1)).1 - 1) = q_ds (q_tp c 0).2.1 (q_tp c 0).2.2 ((q_tp c 0).1 - 1) := by rw [t1]; rfl
            obtain ⟨M', h1, h2⟩ := ih (0 + 1) M (by omega) hs' (by omega) hlen htx (by rw [hds]; exact hw)
            refine ⟨M', h1, ?_⟩
            rw [hs1, t2, t3] at h2
            rw [hT, if_neg e5, if_pos e3, if_pos e0]
            exact h2
          · have hp : (q_tp c k).1 ≠ 0 := by
              have := hb.2.2.1 (fun q => e0 (by rw [q]; rfl))
              omega
            have hlr : q_lr c k ≤ 99 := (hb.2.2.2 _ (by omega)).1
            have hsum := q_sum_le (f := (q_tp c k).2.2) (b := 99) (n := (q_tp c k).1 - 1) (fun j hj => (hb.2.2.2 j (by omega)).1)
            have hlen2 := q_ds_len (q_tp c k).2.1 (q_tp c k).2.2 ((q_tp c k).1 - 1)
            obtain ⟨M1, g1, g2, g3⟩ := q4_coL (F := F) (o := q_lr c k) (w := q_lk c k) hlr F 0 M _ (by omega) (by omega) (by rw [hlen2]; omega) hw
            have hds : q_ds (q_tp c (k + 1)).2.1 (q_tp c (k + 1)).2.2 ((q_tp c (k + 1)).1 - 1) = q_ds (q_tp c k).2.1 (q_tp c k).2.2 ((q_tp c k).1 - 1) ++ List.replicate (q_lr c k - 0) (q_lk c k) := by
              rw [t1, Nat.add_sub_cancel, q_ds_cg t4, Nat.sub_zero]
              obtain ⟨p, hp2⟩ : ∃ p, (q_tp c k).1 = p + 1 := ⟨(q_tp c k).1 - 1, by omega⟩
              unfold q_lr q_lk
              rw [hp2]; rfl
            obtain ⟨M', h1, h2⟩ := ih (k + 1) M1 (by omega) hs' (by omega) (g2.1.2.2.2.2.1.trans hlen) (fun j hj => by rw [g2.1.2.2.1]; exact htx j hj) (by rw [hds]; exact g3)
            refine ⟨M', ⟨q_sm_tr g2.1 h1.1, h1.2.trans g2.2⟩, ?_⟩
            rw [hs1, t2, t3] at h2
            have g4 : f_X4_comes F M (nI (q_lk c k)) (nI (q_lr c k)) = some M1 := by
              unfold f_X4_comes
              rw [n_l0, g1]; rfl
            rw [hT, if_neg e5, if_pos e3, if_neg e0, g4, q_bind]
            exact h2
        · obtain ⟨t1, t2, t3, t4⟩ := q_tp_dig e3
          have hd := q_af_dig e3 e5
          have hds : q_ds (q_tp c (k + 1)).2.1 (q_tp c (k + 1)).2.2 ((q_tp c (k + 1)).1 - 1) = q_ds (q_tp c k).2.1 (q_tp c k).2.2 ((q_tp c k).1 - 1) := by rw [t1]; exact q_ds_cg t4
          obtain ⟨M', h1, h2⟩ := ih (k + 1) M (by omega) hs' (by omega) hlen htx (by rw [hds]; exact hw)
          refine ⟨M', h1, ?_⟩
          have hv : (if q_sc c k = 1 then nI (c k) - nI 48 else nI 10 * nI (q_lr c k) + nI (c k) - nI 48) = nI (q_lr c (k + 1)) := by
            rw [t3]
            split
            · rw [n_sub (by omega)]
            · rw [n_mul, n_add, n_sub (by omega)]
              congr 1; omega
          rw [hT, if_neg e5, if_neg e3, hv]
          rw [t2] at h2
          exact h2
/-- the check's reading, whole -/
theorem q4_read (hF : 3000 ≤ F) {M : d_M} (hl : len ≤ 60) (h128 : ∀ k, k < len → c k < 128) (hlen : m_length M = nI len) (htx : ∀ j, j < len → m_text M j = nI (c j)) :
    ∃ M', f_X4_read F M = some (nI (q_fe c len), M') ∧ q_sm M M' ∧ m_isWhole M' = nI (q_cm1 (q_sc c len)) ∧ (q_cm1 (q_sc c len) = 1 → q_wr M' (q_ds (q_tp c len).2.1 (q_tp c len).2.2 (q_tp c len).1)) := by
  obtain ⟨M', h1, h2⟩ := q4_rdL hF hl h128 F 0 (ms_isWhole (ms_days M (nI 0)) (nI 0)) (by omega) (by show 0 ≠ 5; omega) (by omega) hlen htx ⟨rfl, fun k hk => absurd hk (Nat.not_lt_zero k)⟩
  have hsl := (q_sc_le (c := c) len).1
  have hM : q_sm M (ms_isWhole (ms_days M (nI 0)) (nI 0)) := ⟨rfl, rfl, rfl, rfl, rfl, rfl, rfl⟩
  have h1' := q_sm_tr hM h1.1
  unfold f_X4_read
  rw [q_let, q_let]
  by_cases e5 : q_sc c len = 5
  · rw [if_pos e5] at h2
    obtain ⟨a, b, d, h3⟩ := h2
    refine ⟨M', ?_, h1', ?_, fun q => ?_⟩
    · have h4 : f_X4_read_L19 F F 0 0 0 0 (ms_isWhole (ms_days M (nI 0)) (nI 0)) = _ := h3
      show ((f_X4_read_L19 F F 0 0 0 0 (ms_isWhole (ms_days M (nI 0)) (nI 0))).bind _) = _
      rw [h4]; rfl
    · rw [e5]; exact h1.2
    · rw [e5] at q; exact absurd q (by decide)
  · rw [if_neg e5] at h2
    obtain ⟨h3, hw⟩ := h2
    have h4 : f_X4_read_L19 F F 0 0 0 0 (ms_isWhole (ms_days M (nI 0)) (nI 0)) = _ := h3
    show ∃ M'', ((f_X4_read_L19 F F 0 0 0 0 (ms_isWhole (ms_days M (nI 0)) (nI 0))).bind _) = _ ∧ _
    rw [h4, q_bind, q_fe_ok e5]
    have hlen' : m_length M' = nI len := h1'.2.2.2.2.1.trans hlen
    have hb := q_tp_b len e5
    by_cases e0 : q_sc c len = 0
    · refine ⟨ms_isWhole M' 0, ?_, h1', ?_, fun q => ?_⟩
      · rw [e0]
        show some (m_length M', _) = _
        rw [hlen']
      · rw [e0]; rfl
      · rw [e0] at q; exact absurd q (by decide)
    · by_cases e2 : q_sc c len = 2
      · refine ⟨ms_isWhole M' 0, ?_, h1', ?_, fun q => ?_⟩
        · rw [e2]
          show some (m_length M', _) = _
          rw [hlen']
        · rw [e2]; rfl
        · rw [e2] at q; exact absurd q (by decide)
      · have hcm : q_cm1 (q_sc c len) = 1 := if_pos (by omega)
        have hp : (q_tp c len).1 ≠ 0 := by
          have := hb.2.2.1 (fun q => e0 (by rw [q]; rfl))
          omega
        have hlr : q_lr c len ≤ 99 := (hb.2.2.2 _ (by omega)).1
        have hsum := q_sum_le (f := (q_tp c len).2.2) (b := 99) (n := (q_tp c len).1 - 1) (fun j hj => (hb.2.2.2 j (by omega)).1)
        have hlen2 := q_ds_len (q_tp c len).2.1 (q_tp c len).2.2 ((q_tp c len).1 - 1)
        obtain ⟨M1, g1, g2, g3⟩ := q4_coL (F := F) (o := q_lr c len) (w := q_lk c len) hlr F 0 (ms_isWhole M' 1) _ (by omega) (by omega) (by rw [hlen2]; omega) hw
        refine ⟨M1, ?_, q_sm_tr h1' g2.1, ?_, fun _ => ?_⟩
        · show (if nI (q_sc c len) = 0 then _ else if nI (q_sc c len) = 2 then _ else _) = _
          rw [if_neg (by rw [n_l0, n_eq (by omega) (by omega)]; exact e0), if_neg (by rw [show (2 : Int32) = nI 2 from rfl, n_eq (by omega) (by omega)]; exact e2)]
          show ((f_X4_comes F (ms_isWhole M' 1) (nI (q_lk c len)) (nI (q_lr c len))).bind _) = _
          have g4 : f_X4_comes F (ms_isWhole M' 1) (nI (q_lk c len)) (nI (q_lr c len)) = some M1 := by
            unfold f_X4_comes
            rw [n_l0, g1]; rfl
          rw [g4, q_bind, q_let]
          show some (m_length M1, M1) = _
          rw [g2.1.2.2.2.2.1]
          show some (m_length M', M1) = _
          rw [hlen']
        · rw [g2.2, hcm]; rfl
        · rw [Nat.sub_zero] at g3
          obtain ⟨p, hp2⟩ : ∃ p, (q_tp c len).1 = p + 1 := ⟨(q_tp c len).1 - 1, by omega⟩
          unfold q_lr q_lk at g3
          rw [hp2] at g3 ⊢
          exact g3
end RT
