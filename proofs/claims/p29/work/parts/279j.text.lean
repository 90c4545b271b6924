/-! the buffer: one reading for both. 5 is 'wrong' -/
def q_wt (c : Nat) : Nat := if c = 100 then 0 else if c = 114 then 1 else if c = 115 then 2 else 3
def q_dg (c : Nat) : Nat := if c < 48 then 0 else if 57 < c then 0 else 1
def q_af (s c : Nat) : Nat := if s = 5 then 5 else if q_wt c ≠ 3 then (if s = 2 then 5 else 1) else if q_dg c = 0 then 5 else if s = 1 then (if c = 48 then 5 else if c = 49 then 2 else 3) else if s = 2 then 4 else if s = 3 then 4 else 5
def q_aI (s : Nat) : Int32 := if s = 5 then nM else nI s
def q_sc (c : Nat → Nat) : Nat → Nat
  | 0 => 0
  | n + 1 => q_af (q_sc c n) (c n)
def q_fe (c : Nat → Nat) : Nat → Nat
  | 0 => 0
  | n + 1 => if q_fe c n < n then q_fe c n else if q_sc c (n + 1) = 5 then n else n + 1
/-- parts: how many, their weathers, their numbers -/
def q_tp (c : Nat → Nat) : Nat → Nat × (Nat → Nat) × (Nat → Nat)
  | 0 => (0, fun _ => 0, fun _ => 0)
  | n + 1 => if q_wt (c n) ≠ 3 then ((q_tp c n).1 + 1, q_u (q_tp c n).2.1 (q_tp c n).1 (q_wt (c n)), q_u (q_tp c n).2.2 (q_tp c n).1 1)
    else ((q_tp c n).1, (q_tp c n).2.1, q_u (q_tp c n).2.2 ((q_tp c n).1 - 1) (if q_sc c n = 1 then c n - 48 else 10 * (q_tp c n).2.2 ((q_tp c n).1 - 1) + (c n - 48)))
theorem q_wtI (F : Nat) : ∀ c, c < 128 → f_X0_weatherOf F (nI c) = some (if q_wt c = 3 then nM else nI (q_wt c)) := by
  intro c hc
  have h : ∀ c, c < 128 → f_X0_weatherOf 0 (nI c) = some (if q_wt c = 3 then nM else nI (q_wt c)) := by decide +kernel
  exact h c hc
theorem q_dgI (F : Nat) : ∀ c, c < 128 → f_X0_isDigit F (nI c) = some (nI (q_dg c)) := by
  intro c hc
  have h : ∀ c, c < 128 → f_X0_isDigit 0 (nI c) = some (nI (q_dg c)) := by decide +kernel
  exact h c hc
theorem q_afI (F : Nat) : ∀ s, s < 5 → ∀ c, c < 128 → f_X0_after F (nI s) (nI c) = some (q_aI (q_af s c)) := by
  intro s hs c hc
  have h : ∀ s, s < 5 → ∀ c, c < 128 → f_X0_after 0 (nI s) (nI c) = some (q_aI (q_af s c)) := by decide +kernel
  exact h s hs c hc
theorem q_chI : ∀ c, c < 128 → vp_nar .char (nI c) = nI c := by decide +kernel
theorem q_af_le : ∀ s, s < 6 → ∀ c, c < 128 → q_af s c < 6 := by decide +kernel
theorem q_wt_le (c : Nat) : q_wt c ≤ 3 := by
  unfold q_wt
  split
  · omega
  · split
    · omega
    · split <;> omega
theorem q_sc_le {c : Nat → Nat} : ∀ n, q_sc c n < 6 ∧ (∀ k, k < n → True) := by
  intro n
  induction n with
  | zero => exact ⟨by show 0 < 6; omega, fun _ _ => trivial⟩
  | succ n ih =>
    refine ⟨?_, fun _ _ => trivial⟩
    show q_af (q_sc c n) (c n) < 6
    unfold q_af
    repeat' split
    all_goals omega
theorem q_sc_5 {c : Nat → Nat} {k : Nat} (h : q_sc c k = 5) : ∀ n, k ≤ n → q_sc c n = 5 := by
  intro n
  induction n with
  | zero => intro hk; have : k = 0 := by omega
            subst this; exact h
  | succ n ih =>
    intro hk
    by_cases e : k = n + 1
    · subst e; exact h
    · show q_af (q_sc c n) (c n) = 5
      rw [ih (by omega)]
      exact if_pos rfl
theorem q_fe_le (c : Nat → Nat) : ∀ n, q_fe c n ≤ n := by
  intro n
  induction n with
  | zero => exact Nat.le_refl 0
  | succ n ih => unfold q_fe; split <;> (try split) <;> omega
theorem q_fe_st {c : Nat → Nat} {m : Nat} (h : q_fe c m < m) : ∀ {n : Nat}, m ≤ n → q_fe c n = q_fe c m := by
  intro n
  induction n with
  | zero => intro h2; omega
  | succ n ih =>
    intro h2
    by_cases e : m = n + 1
    · subst e; rfl
    · have h3 := ih (by omega)
      show (if q_fe c n < n then q_fe c n else _) = _
      rw [if_pos (by omega), h3]
theorem q_fe_ok {c : Nat → Nat} : ∀ {n : Nat}, q_sc c n ≠ 5 → q_fe c n = n := by
  intro n
  induction n with
  | zero => intro _; rfl
  | succ n ih =>
    intro h
    have h1 : q_sc c n ≠ 5 := fun q => h (q_sc_5 q (n + 1) (by omega))
    show (if q_fe c n < n then q_fe c n else if q_sc c (n + 1) = 5 then n else n + 1) = n + 1
    rw [ih h1, if_neg (by omega), if_neg h]
/-- bounds of the numbers -/
theorem q_tp_b {c : Nat → Nat} : ∀ n, q_sc c n ≠ 5 → (q_tp c n).1 ≤ n ∧ (q_sc c n = 0 → n = 0) ∧ (n ≠ 0 → 1 ≤ (q_tp c n).1 ∧ 1 ≤ (q_tp c n).2.2 ((q_tp c n).1 - 1) ∧ (q_sc c n ≤ 2 → (q_tp c n).2.2 ((q_tp c n).1 - 1) = 1) ∧ (q_sc c n = 3 → (q_tp c n).2.2 ((q_tp c n).1 - 1) ≤ 9)) ∧ (∀ k, k < (q_tp c n).1 → (q_tp c n).2.2 k ≤ 99 ∧ (q_tp c n).2.1 k ≤ 2 ∧ 1 ≤ (q_tp c n).2.2 k) := by
  intro n
  induction n with
  | zero => intro _; exact ⟨Nat.le_refl 0, fun _ => rfl, fun h => absurd rfl h, fun k hk => absurd hk (Nat.not_lt_zero k)⟩
  | succ n ih =>
    intro h
    have h1 : q_sc c n ≠ 5 := fun q => h (q_sc_5 q (n + 1) (by omega))
    obtain ⟨i1, i0, i2, i3⟩ := ih h1
    have hs : q_sc c (n + 1) = q_af (q_sc c n) (c n) := rfl
    have hsl := (q_sc_le (c := c) n).1
    have hwl := q_wt_le (c n)
    by_cases e : q_wt (c n) ≠ 3
    · have ht : q_tp c (n + 1) = ((q_tp c n).1 + 1, q_u (q_tp c n).2.1 (q_tp c n).1 (q_wt (c n)), q_u (q_tp c n).2.2 (q_tp c n).1 1) := if_pos e
      have hs1 : q_sc c (n + 1) = 1 := by
        rw [hs] at h ⊢
        unfold q_af at h ⊢
        rw [if_neg h1, if_pos e] at h ⊢
        by_cases e2 : q_sc c n = 2
        · rw [if_pos e2] at h; exact absurd rfl h
        · rw [if_neg e2]
      rw [ht, hs1]
      refine ⟨by show (q_tp c n).1 + 1 ≤ n + 1; omega, fun q => by omega, fun _ => ⟨by show 1 ≤ (q_tp c n).1 + 1; omega, ?_, fun _ => ?_, fun q => by omega⟩, fun k hk => ?_⟩
      · show 1 ≤ q_u (q_tp c n).2.2 (q_tp c n).1 1 ((q_tp c n).1 + 1 - 1)
        rw [Nat.add_sub_cancel, q_u_eq]; omega
      · show q_u (q_tp c n).2.2 (q_tp c n).1 1 ((q_tp c n).1 + 1 - 1) = 1
        rw [Nat.add_sub_cancel, q_u_eq]
      · have hk2 : k < (q_tp c n).1 + 1 := hk
        show q_u (q_tp c n).2.2 (q_tp c n).1 1 k ≤ 99 ∧ q_u (q_tp c n).2.1 (q_tp c n).1 (q_wt (c n)) k ≤ 2 ∧ 1 ≤ q_u (q_tp c n).2.2 (q_tp c n).1 1 k
        by_cases ek : k = (q_tp c n).1
        · rw [ek, q_u_eq, q_u_eq]; omega
        · rw [q_u_ne ek, q_u_ne ek]; exact i3 k (by omega)
    · have e' : q_wt (c n) = 3 := by omega
      have ht : q_tp c (n + 1) = ((q_tp c n).1, (q_tp c n).2.1, q_u (q_tp c n).2.2 ((q_tp c n).1 - 1) (if q_sc c n = 1 then c n - 48 else 10 * (q_tp c n).2.2 ((q_tp c n).1 - 1) + (c n - 48))) := if_neg e
      have hdg : q_dg (c n) ≠ 0 := by
        intro q
        rw [hs] at h
        unfold q_af at h
        rw [if_neg h1, if_neg e, if_pos q] at h
        exact h rfl
      have hd : 48 ≤ c n ∧ c n ≤ 57 := by
        unfold q_dg at hdg
        split at hdg
        · exact absurd rfl hdg
        · split at hdg
          · exact absurd rfl hdg
          · omega
      have hs2 : q_sc c (n + 1) = if q_sc c n = 1 then (if c n = 48 then 5 else if c n = 49 then 2 else 3) else if q_sc c n = 2 then 4 else if q_sc c n = 3 then 4 else 5 := by
        rw [hs]
        unfold q_af
        rw [if_neg h1, if_neg e, if_neg hdg]
      have hn0 : n ≠ 0 := by
        intro q
        subst q
        rw [hs2] at h
        exact h rfl
      obtain ⟨j1, j2, j3, j4⟩ := i2 hn0
      have hval : 1 ≤ (if q_sc c n = 1 then c n - 48 else 10 * (q_tp c n).2.2 ((q_tp c n).1 - 1) + (c n - 48)) ∧ (if q_sc c n = 1 then c n - 48 else 10 * (q_tp c n).2.2 ((q_tp c n).1 - 1) + (c n - 48)) ≤ 99 ∧ (q_sc c (n + 1) ≤ 2 → (if q_sc c n = 1 then c n - 48 else 10 * (q_tp c n).2.2 ((q_tp c n).1 - 1) + (c n - 48)) = 1) ∧ (q_sc c (n + 1) = 3 → (if q_sc c n = 1 then c n - 48 else 10 * (q_tp c n).2.2 ((q_tp c n).1 - 1) + (c n - 48)) ≤ 9) ∧ q_sc c (n + 1) ≠ 0 := by
        rw [hs2] at h ⊢
        by_cases s1 : q_sc c n = 1
        · rw [if_pos s1] at h ⊢
          rw [if_pos s1]
          by_cases c8 : c n = 48
          · rw [if_pos c8] at h; exact absurd rfl h
          · rw [if_neg c8]
            by_cases c9 : c n = 49
            · rw [if_pos c9]; omega
            · rw [if_neg c9]; omega
        · rw [if_neg s1] at h ⊢
          rw [if_neg s1]
          by_cases s2 : q_sc c n = 2
          · have := j3 (by omega)
            rw [if_pos s2]; omega
          · rw [if_neg s2] at h ⊢
            by_cases s3 : q_sc c n = 3
            · have := j4 s3
              rw [if_pos s3]; omega
            · rw [if_neg s3] at h; exact absurd rfl h
      rw [ht]
      refine ⟨by show (q_tp c n).1 ≤ n + 1; omega, fun q => absurd q hval.2.2.2.2, fun _ => ⟨j1, ?_, fun q => ?_, fun q => ?_⟩, fun k hk => ?_⟩
      · show 1 ≤ q_u (q_tp c n).2.2 ((q_tp c n).1 - 1) _ ((q_tp c n).1 - 1)
        rw [q_u_eq]; exact hval.1
      · show q_u (q_tp c n).2.2 ((q_tp c n).1 - 1) _ ((q_tp c n).1 - 1) = 1
        rw [q_u_eq]; exact hval.2.2.1 q
      · show q_u (q_tp c n).2.2 ((q_tp c n).1 - 1) _ ((q_tp c n).1 - 1) ≤ 9
        rw [q_u_eq]; exact hval.2.2.2.1 q
      · have hk2 : k < (q_tp c n).1 := hk
        have := i3 k hk2
        show q_u (q_tp c n).2.2 ((q_tp c n).1 - 1) _ k ≤ 99 ∧ (q_tp c n).2.1 k ≤ 2 ∧ 1 ≤ q_u (q_tp c n).2.2 ((q_tp c n).1 - 1) _ k
        by_cases ek : k = (q_tp c n).1 - 1
        · rw [ek, q_u_eq]; rw [ek] at this; exact ⟨hval.2.1, this.2.1, hval.1⟩
        · rw [q_u_ne ek]; exact this
section RT
variable {F : Nat} {c : Nat → Nat} {len : Nat} {t : d_T}
theorem q_sg (ht : t.2.1 = nI len) (hl : len ≤ 60) (hc : ∀ k, k < len → t.1 k = nI (c k) ∧ c k < 128) {k : Nat} (hk : k < len) : f_X0_signAt F t (nI k) = some (nI (c k)) := by
  unfold f_X0_signAt
  simp (disch := first | omega | assumption) only [n_l0, n_l1, n_l2, n_l3, n_l4, n_l5, n_l6, n_l7, n_l8, n_l9, n_l10, n_l11, n_l12, n_l13, n_l14, n_l15, n_l16, n_l17, n_l18, n_l19, n_l20, n_l21, n_l22, n_l23, n_l24, n_l25, n_l30, n_l31, n_l33, n_l48, n_l49, n_l57, n_l60, n_l100, n_l114, n_l115, n_l126, n_l200, n_l214, n_l239, n_l264, n_l294, n_l400, n_l1000, n_l1470, n_l5000, n_l1000000, n_o, n_nM, n_lt, n_le, q_g, n_C]
  rw [if_neg (by omega), if_neg (by omega), (hc k hk).1, q_chI _ (hc k hk).2, q_fif rfl]
theorem q1_icL (ht : t.2.1 = nI len) (hl : len ≤ 60) (hc : ∀ k, k < len → t.1 k = nI (c k) ∧ c k < 128) : ∀ n k, k ≤ len → len - k < n →
    ∃ i, f_X0_isComplete_L4 F t n (q_aI (q_sc c k)) (nI k) = some (q_aI (q_sc c len), i) := by
  intro n
  induction n with
  | zero => intro k _ h; omega
  | succ n ih =>
    intro k hk hn
    have hsl := (q_sc_le (c := c) k).1
    unfold f_X0_isComplete_L4
    rw [ht]
    simp (disch := first | omega | assumption) only [n_le]
    by_cases e : k = len
    · subst e
      exact ⟨nI k, if_pos (by omega)⟩
    · rw [if_neg (by omega)]
      by_cases e5 : q_sc c k = 5
      · refine ⟨nI k, ?_⟩
        rw [if_pos (by rw [show q_aI (q_sc c k) = nM from if_pos e5]; rfl), e5, q_sc_5 e5 len (by omega)]
      · rw [show q_aI (q_sc c k) = nI (q_sc c k) from if_neg e5]
        simp (disch := first | omega | assumption) only [n_l0, n_l1, n_l2, n_l3, n_l4, n_l5, n_l6, n_l7, n_l8, n_l9, n_l10, n_l11, n_l12, n_l13, n_l14, n_l15, n_l16, n_l17, n_l18, n_l19, n_l20, n_l21, n_l22, n_l23, n_l24, n_l25, n_l30, n_l31, n_l33, n_l48, n_l49, n_l57, n_l60, n_l100, n_l114, n_l115, n_l126, n_l200, n_l214, n_l239, n_l264, n_l294, n_l400, n_l1000, n_l1470, n_l5000, n_l1000000, n_o, n_nM, n_eqM, if_false, n_add]
        rw [q_sg ht hl hc (by omega), q_bind, q_afI F _ (by omega) _ (hc k (by omega)).2, q_bind]
        exact ih (k + 1) (by omega) (by omega)
def q_cm1 (s : Nat) : Nat := if s = 1 ∨ s = 3 ∨ s = 4 then 1 else 0
theorem q1_ic (hF : 3000 ≤ F) (ht : t.2.1 = nI len) (hl : len ≤ 60) (hc : ∀ k, k < len → t.1 k = nI (c k) ∧ c k < 128) : f_X0_isComplete F t = some (nI (q_cm1 (q_sc c len))) := by
  obtain ⟨i, h⟩ := q1_icL (F := F) ht hl hc F 0 (by omega) (by omega)
  have hsl := (q_sc_le (c := c) len).1
  unfold f_X0_isComplete
  rw [n_l0]
  rw [show q_aI (q_sc c 0) = nI 0 from rfl] at h
  rw [h, q_bind]
  have hall : ∀ s, s < 6 → (if q_aI s = nI 1 then some (nI 1) else if q_aI s = nI 3 then some (nI 1) else if q_aI s = nI 4 then some (nI 1) else some (nI 0)) = some (nI (q_cm1 s)) := by decide +kernel
  exact hall _ hsl
end RT
