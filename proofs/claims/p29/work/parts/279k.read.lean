/-! the check's reading -/
def q_ds (K R : Nat → Nat) : Nat → List Nat
  | 0 => []
  | m + 1 => q_ds K R m ++ List.replicate (R m) (K m)
theorem q_ds_cg {K R K' R' : Nat → Nat} : ∀ {m : Nat}, (∀ k, k < m → K k = K' k ∧ R k = R' k) → q_ds K R m = q_ds K' R' m := by
  intro m
  induction m with
  | zero => intro _; rfl
  | succ m ih =>
    intro h
    show q_ds K R m ++ List.replicate (R m) (K m) = q_ds K' R' m ++ List.replicate (R' m) (K' m)
    rw [ih (fun k hk => h k (by omega)), (h m (by omega)).1, (h m (by omega)).2]
theorem q_ds_len (K R : Nat → Nat) : ∀ m, (q_ds K R m).length = q_sum R m := by
  intro m
  induction m with
  | zero => rfl
  | succ m ih =>
    show (q_ds K R m ++ List.replicate (R m) (K m)).length = q_sum R m + R m
    rw [List.length_append, List.length_replicate, ih]
def q_wr (M : d_M) (l : List Nat) : Prop := m_days M = nI l.length ∧ ∀ k, k < l.length → k < 200 → m_weather M k = nI (l.getD k 0)
def q_s2m (M M' : d_M) : Prop := q_sm M M' ∧ m_isWhole M' = m_isWhole M
theorem q_sm_rf (M : d_M) : q_sm M M := ⟨rfl, rfl, rfl, rfl, rfl, rfl, rfl⟩
theorem q_sm_tr {M M' M'' : d_M} (h : q_sm M M') (h' : q_sm M' M'') : q_sm M M'' := ⟨h'.1.trans h.1, h'.2.1.trans h.2.1, h'.2.2.1.trans h.2.2.1, h'.2.2.2.1.trans h.2.2.2.1, h'.2.2.2.2.1.trans h.2.2.2.2.1, h'.2.2.2.2.2.1.trans h.2.2.2.2.2.1, h'.2.2.2.2.2.2.trans h.2.2.2.2.2.2⟩
theorem q_wr_s {M : d_M} {l : List Nat} {w : Nat} (h : q_wr M l) (hl : l.length < 200) : q_wr (ms_days (ms_weather M (upd (m_weather M) l.length (nI w))) (nI (l.length + 1))) (l ++ [w]) := by
  refine ⟨?_, fun k hk hk2 => ?_⟩
  · show nI (l.length + 1) = nI (l ++ [w]).length
    rw [List.length_append]; rfl
  · show upd (m_weather M) l.length (nI w) k = nI ((l ++ [w]).getD k 0)
    rw [List.length_append] at hk
    have hk3 : k < l.length + 1 := hk
    unfold upd
    by_cases e : k = l.length
    · rw [if_pos e, e]
      congr 1
      rw [List.getD_eq_getElem?_getD, List.getElem?_append_right (Nat.le_refl _), Nat.sub_self]; rfl
    · rw [if_neg e, h.2 k (by omega) hk2]
      congr 1
      rw [List.getD_eq_getElem?_getD, List.getD_eq_getElem?_getD, List.getElem?_append_left (by omega)]
theorem q_wr_s2 {M : d_M} {l : List Nat} {w : Nat} (h : q_wr M l) (hl : 200 ≤ l.length) : q_wr (ms_days M (nI (l.length + 1))) (l ++ [w]) := by
  refine ⟨?_, fun k hk hk2 => ?_⟩
  · show nI (l.length + 1) = nI (l ++ [w]).length
    rw [List.length_append]; rfl
  · show m_weather M k = nI ((l ++ [w]).getD k 0)
    rw [h.2 k (by omega) hk2]
    congr 1
    rw [List.getD_eq_getElem?_getD, List.getD_eq_getElem?_getD, List.getElem?_append_left (by omega)]
section RT
variable {F : Nat} {c : Nat → Nat} {len : Nat} {M : d_M}
end RT
def q_lk (c : Nat → Nat) (n : Nat) : Nat := (q_tp c n).2.1 ((q_tp c n).1 - 1)
def q_lr (c : Nat → Nat) (n : Nat) : Nat := (q_tp c n).2.2 ((q_tp c n).1 - 1)
theorem q_tp_let {c : Nat → Nat} {n : Nat} (h : q_wt (c n) ≠ 3) : (q_tp c (n + 1)).1 = (q_tp c n).1 + 1 ∧ q_lk c (n + 1) = q_wt (c n) ∧ q_lr c (n + 1) = 1 ∧ (∀ k, k < (q_tp c n).1 → (q_tp c (n + 1)).2.1 k = (q_tp c n).2.1 k ∧ (q_tp c (n + 1)).2.2 k = (q_tp c n).2.2 k) := by
  have ht : q_tp c (n + 1) = ((q_tp c n).1 + 1, q_u (q_tp c n).2.1 (q_tp c n).1 (q_wt (c n)), q_u (q_tp c n).2.2 (q_tp c n).1 1) := if_pos h
  unfold q_lk q_lr
  rw [ht]
  refine ⟨rfl, ?_, ?_, fun k hk => ⟨q_u_ne (by omega), q_u_ne (by omega)⟩⟩
  · show q_u _ _ _ ((q_tp c n).1 + 1 - 1) = _
    rw [Nat.add_sub_cancel, q_u_eq]
  · show q_u _ _ _ ((q_tp c n).1 + 1 - 1) = _
    rw [Nat.add_sub_cancel, q_u_eq]
theorem q_tp_dig {c : Nat → Nat} {n : Nat} (h : ¬ q_wt (c n) ≠ 3) : (q_tp c (n + 1)).1 = (q_tp c n).1 ∧ q_lk c (n + 1) = q_lk c n ∧ q_lr c (n + 1) = (if q_sc c n = 1 then c n - 48 else 10 * q_lr c n + (c n - 48)) ∧ (∀ k, k < (q_tp c n).1 - 1 → (q_tp c (n + 1)).2.1 k = (q_tp c n).2.1 k ∧ (q_tp c (n + 1)).2.2 k = (q_tp c n).2.2 k) := by
  have ht : q_tp c (n + 1) = ((q_tp c n).1, (q_tp c n).2.1, q_u (q_tp c n).2.2 ((q_tp c n).1 - 1) (if q_sc c n = 1 then c n - 48 else 10 * (q_tp c n).2.2 ((q_tp c n).1 - 1) + (c n - 48))) := if_neg h
  unfold q_lk q_lr
  rw [ht]
  refine ⟨rfl, rfl, q_u_eq, fun k hk => ⟨rfl, q_u_ne (by omega)⟩⟩
theorem q_af_dig {s x : Nat} (h3 : ¬ q_wt x ≠ 3) (h5 : q_af s x ≠ 5) : 48 ≤ x ∧ x ≤ 57 := by
  unfold q_af at h5
  by_cases e : s = 5
  · rw [if_pos e] at h5; exact absurd rfl h5
  · rw [if_neg e, if_neg h3] at h5
    by_cases h : q_dg x = 0
    · rw [if_pos h] at h5; exact absurd rfl h5
    · unfold q_dg at h
      by_cases h1 : x < 48
      · rw [if_pos h1] at h; exact absurd rfl h
      · rw [if_neg h1] at h
        by_cases h2 : 57 < x
        · rw [if_pos h2] at h; exact absurd rfl h
        · omega
section RT
variable {F : Nat} {c : Nat → Nat} {len : Nat}
end RT
