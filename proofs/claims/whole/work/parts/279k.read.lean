/-! the check's reading -/
def q_ds (K R : Nat → Nat) : Nat → List Nat
  | 0 => []
  | m + 1 => q_ds K R m ++ List.replicate (R m) (K m)
theorem q_ds_cg {K R K' R' : Nat → Nat} : ∀ {m : Nat}, (∀ k, k < m → K k = K' k ∧ R k = R' k) → q_ds K R m = q_ds K' R' m := by
  intro m
  induction m with
  | zero => intro _; rfl
  | succ m ih =>
    intro h
    show q_ds K R m ++ List.replicate (R m) (K m) = q_ds K' R' m ++ List.replicate (R' m) (K' m)
    rw [ih (fun k hk => h k (by omega)), (h m (by omega)).1, (h m (by omega)).2]
theorem q_ds_len (K R : Nat → Nat) : ∀ m, (q_ds K R m).length = q_sum R m := by
  intro m
  induction m with
  | zero => rfl
  | succ m ih =>
    show (q_ds K R m ++ List.replicate (R m) (K m)).length = q_sum R m + R m
    rw [List.length_append, List.length_replicate, ih]
def q_wr (M : d_M) (l : List Nat) : Prop := m_days M = nI l.length ∧ ∀ k, k < l.length → k < 200 → m_weather M k = nI (l.getD k 0)
def q_s2m (M M' : d_M) : Prop := q_sm M M' ∧ m_isWhole M' = m_isWhole M
theorem q_sm_rf (M : d_M) : q_sm M M := ⟨rfl, rfl, rfl, rfl, rfl, rfl, rfl⟩
theorem q_sm_tr {M M' M'' : d_M} (h : q_sm M M') (h' : q_sm M' M'') : q_sm M M'' := ⟨h'.1.trans h.1, h'.2.1.trans h.2.1, h'.2.2.1.trans h.2.2.1, h'.2.2.2.1.trans h.2.2.2.1, h'.2.2.2.2.1.trans h.2.2.2.2.1, h'.2.2.2.2.2.1.trans h.2.2.2.2.2.1, h'.2.2.2.2.2.2.trans h.2.2.2.2.2.2⟩
theorem q_wr_s {M : d_M} {l : List Nat} {w : Nat} (h : q_wr M l) (hl : l.length < 200) : q_wr (ms_days (ms_weather M (upd (m_weather M) l.length (nI w))) (nI (l.length + 1))) (l ++ [w]) := by
  refine ⟨?_, fun k hk hk2 => ?_⟩
  · show nI (l.length + 1) = nI (l ++ [w]).length
    rw [List.length_append]; rfl
  · show upd (m_weather M) l.length (nI w) k = nI ((l ++ [w]).getD k 0)
    rw [List.length_append] at hk
    have hk3 : k < l.length + 1 := hk
    unfold upd
    by_cases e : k = l.length
    · rw [if_pos e, e]
      congr 1
      rw [List.getD_eq_getElem?_getD, List.getElem?_append_right (Nat.le_refl _), Nat.sub_self]; rfl
    · rw [if_neg e, h.2 k (by omega) hk2]
      congr 1
      rw [List.getD_eq_getElem?_getD, List.getD_eq_getElem?_getD, List.getElem?_append_left (by omega)]
theorem q_wr_s2 {M : d_M} {l : List Nat} {w : Nat} (h : q_wr M l) (hl : 200 ≤ l.length) : q_wr (ms_days M (nI (l.length + 1))) (l ++ [w]) := by
  refine ⟨?_, fun k hk hk2 => ?_⟩
  · show nI (l.length + 1) = nI (l ++ [w]).length
    rw [List.length_append]; rfl
  · show m_weather M k = nI ((l ++ [w]).getD k 0)
    rw [h.2 k (by omega) hk2]
    congr 1
    rw [List.getD_eq_getElem?_getD, List.getD_eq_getElem?_getD, List.getElem?_append_left (by omega)]
theorem q4_coL {F o w : Nat} (ho : o ≤ 99) : ∀ n k (M : d_M) (l : List Nat), k ≤ o → o - k < n → l.length + (o - k) ≤ 10000 → q_wr M l →
    ∃ M', f_X4_comes_L2 F (nI w) (nI o) n (nI k) M = some (nI o, M') ∧ q_s2m M M' ∧ q_wr M' (l ++ List.replicate (o - k) w) := by
  intro n
  induction n with
  | zero => intro k M l _ h; omega
  | succ n ih =>
    intro k M l hk hn hl hw
    unfold f_X4_comes_L2
    simp (disch := first | omega | assumption) only [n_l0, n_l1, n_l2, n_l3, n_l4, n_l5, n_l6, n_l7, n_l8, n_l9, n_l10, n_l11, n_l12, n_l13, n_l14, n_l15, n_l16, n_l17, n_l18, n_l19, n_l20, n_l21, n_l22, n_l23, n_l24, n_l25, n_l30, n_l31, n_l33, n_l48, n_l49, n_l57, n_l60, n_l100, n_l114, n_l115, n_l126, n_l200, n_l214, n_l239, n_l264, n_l294, n_l400, n_l1000, n_l1470, n_l5000, n_l1000000, n_o, n_nM, n_le]
    by_cases e : k = o
    · subst e
      refine ⟨M, if_pos (by omega), ⟨q_sm_rf M, rfl⟩, ?_⟩
      rw [Nat.sub_self]
      show q_wr M (l ++ [])
      rw [List.append_nil]; exact hw
    · have hrep : l ++ List.replicate (o - k) w = (l ++ [w]) ++ List.replicate (o - (k + 1)) w := by
        rw [show o - k = (o - (k + 1)) + 1 by omega, List.replicate_succ, List.append_assoc]; rfl
      rw [if_neg (by omega), hw.1, hrep]
      simp (disch := first | omega | assumption) only [n_le, n_add]
      by_cases e2 : 200 ≤ l.length
      · rw [if_pos e2, q_let]
        obtain ⟨M', h1, h2, h3⟩ := ih (k + 1) (ms_days M (nI (l.length + 1))) (l ++ [w]) (by omega) (by omega) (by rw [List.length_append]; show l.length + 1 + _ ≤ 10000; omega) (q_wr_s2 hw e2)
        exact ⟨M', h1, h2, h3⟩
      · rw [if_neg e2, q_g (by omega) (by omega), q_let, q_let, n_C (by omega)]
        have hd : m_days (ms_weather M (upd (m_weather M) l.length (nI w))) = nI l.length := hw.1
        obtain ⟨M', h1, h2, h3⟩ := ih (k + 1) (ms_days (ms_weather M (upd (m_weather M) l.length (nI w))) (nI (l.length + 1))) (l ++ [w]) (by omega) (by omega) (by rw [List.length_append]; show l.length + 1 + _ ≤ 10000; omega) (q_wr_s hw (by omega))
        refine ⟨M', ?_, h2, h3⟩
        rw [← h1, hd, n_add]
section RT
variable {F : Nat} {c : Nat → Nat} {len : Nat} {M : d_M}
theorem q4_wi {x : Nat} (hx : x < 128) : f_X4_within F (nI x) (nI 48) (nI 57) = some (nI (q_dg x)) := by
  unfold f_X4_within q_dg
  simp (disch := first | omega | assumption) only [n_l0, n_l1, n_l2, n_l3, n_l4, n_l5, n_l6, n_l7, n_l8, n_l9, n_l10, n_l11, n_l12, n_l13, n_l14, n_l15, n_l16, n_l17, n_l18, n_l19, n_l20, n_l21, n_l22, n_l23, n_l24, n_l25, n_l30, n_l31, n_l33, n_l48, n_l49, n_l57, n_l60, n_l100, n_l114, n_l115, n_l126, n_l200, n_l214, n_l239, n_l264, n_l294, n_l400, n_l1000, n_l1470, n_l5000, n_l1000000, n_o, n_nM, n_lt]
  split
  · rfl
  · split <;> rfl
/-- one turn of the reading -/
theorem q4_rdT {n k s : Nat} {v2 v3 : Int32} (hlen : m_length M = nI len) (hl : len ≤ 60) (hk : k < len) (hc : m_text M k = nI (c k)) (h128 : c k < 128) (hs : s < 5) :
    f_X4_read_L19 F (n + 1) (nI s) v2 v3 (nI k) M = if q_af s (c k) = 5 then some (.inr (nI s, v2, v3, nI k, M))
      else if q_wt (c k) ≠ 3 then (if s = 0 then f_X4_read_L19 F n (nI 1) (nI (q_wt (c k))) (nI 1) (nI (k + 1)) M else (f_X4_comes F M v2 v3).bind fun M' => f_X4_read_L19 F n (nI 1) (nI (q_wt (c k))) (nI 1) (nI (k + 1)) M')
      else f_X4_read_L19 F n (nI (q_af s (c k))) v2 (if s = 1 then nI (c k) - nI 48 else nI 10 * v3 + nI (c k) - nI 48) (nI (k + 1)) M := by
  generalize c k = x at *
  have hk2 : ¬ len ≤ k := by omega
  have hx : x = 100 ∨ x = 114 ∨ x = 115 ∨ (x ≠ 100 ∧ x ≠ 114 ∧ x ≠ 115 ∧ (x < 48 ∨ 57 < x)) ∨ x = 48 ∨ x = 49 ∨ (50 ≤ x ∧ x ≤ 57) := by omega
  have hs' : s = 0 ∨ s = 1 ∨ s = 2 ∨ s = 3 ∨ s = 4 := by omega
  rcases hx with q | q | q | q | q | q | q
  · subst q
    rcases hs' with r | r | r | r | r <;> subst r <;> (conv => lhs; unfold f_X4_read_L19) <;> rw [hlen] <;> simp (disch := first | omega | assumption) [n_l0, n_l1, n_l2, n_l3, n_l4, n_l5, n_l6, n_l7, n_l8, n_l9, n_l10, n_l11, n_l12, n_l13, n_l14, n_l15, n_l16, n_l17, n_l18, n_l19, n_l20, n_l21, n_l22, n_l23, n_l24, n_l25, n_l30, n_l31, n_l33, n_l48, n_l49, n_l57, n_l60, n_l100, n_l114, n_l115, n_l126, n_l200, n_l214, n_l239, n_l264, n_l294, n_l400, n_l1000, n_l1470, n_l5000, n_l1000000, n_o, n_nM, n_le, q_g, n_C, hc, q4_wi, q_bind, n_eq, q_let, n_lt, n_add, n_eqM, hk2, q_af, q_wt, q_dg]
  · subst q
    rcases hs' with r | r | r | r | r <;> subst r <;> (conv => lhs; unfold f_X4_read_L19) <;> rw [hlen] <;> simp (disch := first | omega | assumption) [n_l0, n_l1, n_l2, n_l3, n_l4, n_l5, n_l6, n_l7, n_l8, n_l9, n_l10, n_l11, n_l12, n_l13, n_l14, n_l15, n_l16, n_l17, n_l18, n_l19, n_l20, n_l21, n_l22, n_l23, n_l24, n_l25, n_l30, n_l31, n_l33, n_l48, n_l49, n_l57, n_l60, n_l100, n_l114, n_l115, n_l126, n_l200, n_l214, n_l239, n_l264, n_l294, n_l400, n_l1000, n_l1470, n_l5000, n_l1000000, n_o, n_nM, n_le, q_g, n_C, hc, q4_wi, q_bind, n_eq, q_let, n_lt, n_add, n_eqM, hk2, q_af, q_wt, q_dg]
  · subst q
    rcases hs' with r | r | r | r | r <;> subst r <;> (conv => lhs; unfold f_X4_read_L19) <;> rw [hlen] <;> simp (disch := first | omega | assumption) [n_l0, n_l1, n_l2, n_l3, n_l4, n_l5, n_l6, n_l7, n_l8, n_l9, n_l10, n_l11, n_l12, n_l13, n_l14, n_l15, n_l16, n_l17, n_l18, n_l19, n_l20, n_l21, n_l22, n_l23, n_l24, n_l25, n_l30, n_l31, n_l33, n_l48, n_l49, n_l57, n_l60, n_l100, n_l114, n_l115, n_l126, n_l200, n_l214, n_l239, n_l264, n_l294, n_l400, n_l1000, n_l1470, n_l5000, n_l1000000, n_o, n_nM, n_le, q_g, n_C, hc, q4_wi, q_bind, n_eq, q_let, n_lt, n_add, n_eqM, hk2, q_af, q_wt, q_dg]
  · obtain ⟨a, b, d, e⟩ := q
    have hd : q_dg x = 0 := by
      unfold q_dg
      rcases e with e | e
      · rw [if_pos e]
      · rw [if_neg (by omega), if_pos e]
    rcases hs' with r | r | r | r | r <;> subst r <;> (conv => lhs; unfold f_X4_read_L19) <;> rw [hlen] <;> simp (disch := first | omega | assumption) [n_l0, n_l1, n_l2, n_l3, n_l4, n_l5, n_l6, n_l7, n_l8, n_l9, n_l10, n_l11, n_l12, n_l13, n_l14, n_l15, n_l16, n_l17, n_l18, n_l19, n_l20, n_l21, n_l22, n_l23, n_l24, n_l25, n_l30, n_l31, n_l33, n_l48, n_l49, n_l57, n_l60, n_l100, n_l114, n_l115, n_l126, n_l200, n_l214, n_l239, n_l264, n_l294, n_l400, n_l1000, n_l1470, n_l5000, n_l1000000, n_o, n_nM, n_le, q_g, n_C, hc, q4_wi, q_bind, n_eq, q_let, n_lt, n_add, n_eqM, hk2, q_af, q_wt, hd, a, b, d]
  · subst q
    rcases hs' with r | r | r | r | r <;> subst r <;> (conv => lhs; unfold f_X4_read_L19) <;> rw [hlen] <;> simp (disch := first | omega | assumption) [n_l0, n_l1, n_l2, n_l3, n_l4, n_l5, n_l6, n_l7, n_l8, n_l9, n_l10, n_l11, n_l12, n_l13, n_l14, n_l15, n_l16, n_l17, n_l18, n_l19, n_l20, n_l21, n_l22, n_l23, n_l24, n_l25, n_l30, n_l31, n_l33, n_l48, n_l49, n_l57, n_l60, n_l100, n_l114, n_l115, n_l126, n_l200, n_l214, n_l239, n_l264, n_l294, n_l400, n_l1000, n_l1470, n_l5000, n_l1000000, n_o, n_nM, n_le, q_g, n_C, hc, q4_wi, q_bind, n_eq, q_let, n_lt, n_add, n_eqM, hk2, q_af, q_wt, q_dg]
  · subst q
    rcases hs' with r | r | r | r | r <;> subst r <;> (conv => lhs; unfold f_X4_read_L19) <;> rw [hlen] <;> simp (disch := first | omega | assumption) [n_l0, n_l1, n_l2, n_l3, n_l4, n_l5, n_l6, n_l7, n_l8, n_l9, n_l10, n_l11, n_l12, n_l13, n_l14, n_l15, n_l16, n_l17, n_l18, n_l19, n_l20, n_l21, n_l22, n_l23, n_l24, n_l25, n_l30, n_l31, n_l33, n_l48, n_l49, n_l57, n_l60, n_l100, n_l114, n_l115, n_l126, n_l200, n_l214, n_l239, n_l264, n_l294, n_l400, n_l1000, n_l1470, n_l5000, n_l1000000, n_o, n_nM, n_le, q_g, n_C, hc, q4_wi, q_bind, n_eq, q_let, n_lt, n_add, n_eqM, hk2, q_af, q_wt, q_dg]
  · have hd : q_dg x = 1 := by
      unfold q_dg
      rw [if_neg (by omega), if_neg (by omega)]
    have a : x ≠ 100 := by omega
    have b : x ≠ 114 := by omega
    have d : x ≠ 115 := by omega
    have e : x ≠ 48 := by omega
    have f : x ≠ 49 := by omega
    rcases hs' with r | r | r | r | r <;> subst r <;> (conv => lhs; unfold f_X4_read_L19) <;> rw [hlen] <;> simp (disch := first | omega | assumption) [n_l0, n_l1, n_l2, n_l3, n_l4, n_l5, n_l6, n_l7, n_l8, n_l9, n_l10, n_l11, n_l12, n_l13, n_l14, n_l15, n_l16, n_l17, n_l18, n_l19, n_l20, n_l21, n_l22, n_l23, n_l24, n_l25, n_l30, n_l31, n_l33, n_l48, n_l49, n_l57, n_l60, n_l100, n_l114, n_l115, n_l126, n_l200, n_l214, n_l239, n_l264, n_l294, n_l400, n_l1000, n_l1470, n_l5000, n_l1000000, n_o, n_nM, n_le, q_g, n_C, hc, q4_wi, q_bind, n_eq, q_let, n_lt, n_add, n_eqM, hk2, q_af, q_wt, hd, a, b, d, e, f]
end RT
