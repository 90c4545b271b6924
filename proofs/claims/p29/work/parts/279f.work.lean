/-! a day's work, dry days -/
def q_wd (y : Nat → Nat) (w : Nat) : Nat × (Nat → Nat) := if q_dry (q_day y w).2 = 1 then q_run 161 (q_day y w).2 else (0, (q_day y w).2)
theorem q_dry_le (y : Nat → Nat) : q_dry y ≤ 1 := by unfold q_dry; split <;> omega
theorem q_dn_le (y : Nat → Nat) : q_dn y ≤ 1 := by unfold q_dn; split <;> omega
theorem q_run_I {B : Nat} : ∀ m (y : Nat → Nat), q_I B y → q_I B (q_run m y).2 ∧ (∀ j, j ≤ 13 → j ≠ 7 → j ≠ 2 → (q_run m y).2 j = y j) ∧ (q_run m y).1 ≤ m := by
  intro m
  induction m with
  | zero => intro y hI; exact ⟨hI, fun j _ _ _ => rfl, Nat.le_refl _⟩
  | succ m ih =>
    intro y hI
    unfold q_run
    cases h : q_step y with
    | none => exact ⟨hI, fun j _ _ _ => rfl, Nat.zero_le _⟩
    | some r =>
      have h1 := q_step_I hI h
      have h2 := ih r.2 h1.1
      exact ⟨h2.1, fun j a b c => (h2.2.1 j a b c).trans (h1.2.2.2.2 j a b c), by show r.1 + (q_run m r.2).1 ≤ m + 1; omega⟩
theorem q_run_end {B : Nat} : ∀ m (y : Nat → Nat), q_I B y → q_mu y < m → q_step (q_run m y).2 = none := by
  intro m
  induction m with
  | zero => intro y hI h; omega
  | succ m ih =>
    intro y hI hm
    unfold q_run
    cases h : q_step y with
    | none => exact h
    | some r =>
      have h1 := q_step_I hI h
      exact ih r.2 h1.1 (by omega)
theorem q_mu_le {B : Nat} {y : Nat → Nat} (hI : q_I B y) : q_mu y ≤ 160 := by
  have h7 := hI.2.2.2.2.2.2.2.1
  unfold q_mu; omega
/-- with nothing placed the effort stays -/
theorem q_run_0 : ∀ m (y : Nat → Nat), (q_run m y).1 = 0 → (q_run m y).2 7 = y 7 := by
  intro m
  induction m with
  | zero => intro y _; rfl
  | succ m ih =>
    intro y h0
    unfold q_run at h0 ⊢
    cases h : q_step y with
    | none => rfl
    | some r =>
      rw [h] at h0
      have h1 : r.1 + (q_run m r.2).1 = 0 := h0
      have h2 : r.2 7 = y 7 := by
        unfold q_step at h
        split at h
        · cases h
          have h3 : 1 + (q_run m _).1 = 0 := h1
          omega
        · split at h
          · split at h
            · cases h
              have h3 : 1 + (q_run m _).1 = 0 := h1
              omega
            · cases h
          · split at h
            · cases h
              show q_bg y (q_nl y) 7 = y 7
              unfold q_bg
              rw [q_u_ne (by omega), q_u_ne (by omega), q_u_ne (by omega)]
            · cases h
      exact (ih r.2 (by omega)).trans h2
theorem q_dp_I {B : Nat} {y : Nat → Nat} {w : Nat} (hI : q_I B y) : q_I B (q_dp y w) ∧ (∀ j, j ≠ 8 → q_dp y w j = y j) := by
  have h8 := hI.2.2.2.2.2.2.2.2.1
  have h5 := hI.2.2.2.2.2.1
  have hB1 := hI.2.2.2.2.2.2.2.2.2.2.2.2.2.2.2.2
  unfold q_dp
  split
  · exact ⟨q_set_I hI (Nat.le_refl _) hB1 (by omega), fun j hj => q_u_ne hj⟩
  · split
    · exact ⟨q_set_I hI (Nat.le_refl _) hB1 (by omega), fun j hj => q_u_ne hj⟩
    · exact ⟨hI, fun j _ => rfl⟩
theorem q_s2_I {B : Nat} {y : Nat → Nat} {w : Nat} (hI : q_I B y) (hB : B + 62 ≤ 1000000000) : q_I (B + 62) (q_s2 y w).2 ∧ (∀ j, j < 14 → (q_s2 y w).2 j = y j) := by
  unfold q_s2
  split
  · exact q_sto_I hI hB
  · exact ⟨q_I_mono hI (by omega) hB, fun j _ => rfl⟩
theorem q_day_I {B : Nat} {y : Nat → Nat} {w : Nat} (hI : q_I B y) (hB : B + 63 ≤ 1000000000) : q_I (B + 63) (q_day y w).2 := by
  have h6 := hI.2.2.2.2.2.2.1
  have h4 := hI.2.2.2.2.1
  have I1 : q_I (B + 1) (q_u y 6 (y 6 + 1)) := q_set_I hI (by omega) (by omega) (by omega)
  have I2 := q_dp_I (w := w) I1
  have I3 := q_s2_I (w := w) I2.1 (by omega)
  have e4 : (q_s2 (q_dp (q_u y 6 (y 6 + 1)) w) w).2 4 = y 4 := by
    rw [I3.2 4 (by omega), I2.2 4 (by omega), q_u_ne (by omega)]
  have e : B + 1 + 62 = B + 63 := by omega
  rw [e] at I3
  show q_I (B + 63) (q_u (q_s2 (q_dp (q_u y 6 (y 6 + 1)) w) w).2 7 ((q_s2 (q_dp (q_u y 6 (y 6 + 1)) w) w).2 4))
  exact q_set_I I3.1 (Nat.le_refl _) hB (by rw [e4]; omega)
theorem q_wd_I {B : Nat} {y : Nat → Nat} {w : Nat} (hI : q_I B y) (hB : B + 63 ≤ 1000000000) : q_I (B + 63) (q_wd y w).2 ∧ (q_wd y w).1 ≤ 161 := by
  have h := q_day_I (w := w) hI hB
  unfold q_wd
  split
  · have := q_run_I 161 _ h
    exact ⟨this.1, this.2.2⟩
  · exact ⟨h, Nat.zero_le _⟩
section RD
variable {B F : Nat} {y : Nat → Nat} {M : d_M}
theorem q1_sl161 (hF : 3000 ≤ F) (hI : q_I B y) : f_X1_slateForTheDay F (q_z y) = some (if q_dry y = 1 then (nI (q_run 161 y).1, q_z (q_run 161 y).2) else (nI 0, q_z y)) := by
  unfold f_X1_slateForTheDay
  by_cases e : q_dry y = 1
  · have := q1_slL (F := F) hF 160 y F 0 0 hI e (q_mu_le hI) (by omega) (by omega)
    rw [if_pos e, n_l0, this, Nat.zero_add]
  · have e2 := q_dry_le y
    rw [if_neg e]
    obtain ⟨G, rfl⟩ : ∃ G, F = G + 1 := ⟨F - 1, by omega⟩
    conv => lhs; enter [1]; unfold f_X1_slateForTheDay_L4
    rw [q1_dry hI, show q_dry y = 0 by omega, q_bind]
    simp (disch := first | omega | assumption) only [n_l0, n_l1, n_l2, n_l3, n_l4, n_l5, n_l6, n_l7, n_l8, n_l9, n_l10, n_l11, n_l12, n_l13, n_l14, n_l15, n_l16, n_l17, n_l18, n_l19, n_l20, n_l21, n_l22, n_l23, n_l24, n_l25, n_l30, n_l31, n_l33, n_l48, n_l49, n_l57, n_l60, n_l100, n_l114, n_l115, n_l126, n_l200, n_l214, n_l239, n_l264, n_l294, n_l400, n_l1000, n_l1470, n_l5000, n_l1000000, n_o, n_nM, n_le]
    rw [if_neg (by omega), if_pos trivial]
    rfl
/-- the class: a day passes, then the slaters -/
theorem q1_wd (hF : 3000 ≤ F) (hI : q_I B y) (hB : B + 63 ≤ 1000000000) {w : Nat} (hw : w ≤ 2) {α : Type} (K : Int32 × d_Z → Option α) : ((f_X1_passDay F (q_z y) (nI w)).bind fun x => (f_X1_slateForTheDay F x.2).bind K) = K (nI (q_wd y w).1, q_z (q_wd y w).2) := by
  rw [q1_day hF hI hB hw, q_bind]
  show (f_X1_slateForTheDay F (q_z (q_day y w).2)).bind K = _
  rw [q1_sl161 hF (q_day_I hI hB), q_bind]
  unfold q_wd
  split <;> rfl
end RD
/-! what does not hang on the day, the effort, the damp, the cover -/
theorem q_fg_cg {u t : Nat → Nat} (h : ∀ j, j < 6 ∨ 9 < j → u j = t j) : (∀ c, q_pl u c = q_pl t c) ∧ (∀ c, q_g0 u c = q_g0 t c) ∧ (∀ c, q_in u c = q_in t c) ∧ (∀ n, q_top u n = q_top t n) ∧ (∀ n, q_op u n = q_op t n) ∧ q_lo u = q_lo t ∧ q_nl u = q_nl t ∧ q_gp u = q_gp t ∧ q_dn u = q_dn t := by
  have hpl : ∀ c, q_pl u c = q_pl t c := fun c => by unfold q_pl; rw [h 1 (by omega)]
  have hg : ∀ c, q_g0 u c = q_g0 t c := fun c => by unfold q_g0; rw [hpl, h (114 + c) (by omega)]
  have hin : ∀ c, q_in u c = q_in t c := fun c => by unfold q_in; rw [hpl, h (114 + c) (by omega)]
  have htop : ∀ n, q_top u n = q_top t n := fun n => q_sum_cg (fun k _ => by show q_ga u (u (14 + k)) = q_ga t (t (14 + k)); unfold q_ga; rw [h (14 + k) (by omega), h 3 (by omega)])
  have hop : ∀ n, q_op u n = q_op t n := by
    intro n
    induction n with
    | zero => rfl
    | succ n ih => unfold q_op; rw [ih, hpl, h (114 + n) (by omega)]
  have hlo : q_lo u = q_lo t := by unfold q_lo; rw [h 2 (by omega), h (14 + (t 2 - 1)) (by omega)]
  have hnx : ∀ P k, q_nx u P k = q_nx t P k := by
    intro P k
    induction k with
    | zero => rfl
    | succ k ih => unfold q_nx; rw [ih, h (214 + (k + 1)) (by omega)]
  have hgp : q_gp u = q_gp t := by
    unfold q_gp; rw [h 2 (by omega)]
    exact q_sum_cg (fun k _ => by show q_pl u k - q_in u k = q_pl t k - q_in t k; rw [hpl, hin])
  exact ⟨hpl, hg, hin, htop, hop, hlo, by unfold q_nl; rw [hlo, hpl, h 2 (by omega), hnx], hgp, by unfold q_dn; rw [htop, hgp, h 0 (by omega), h 2 (by omega)]⟩
theorem q_step_cg {u t : Nat → Nat} (h : ∀ j, j < 6 ∨ 9 < j → u j = t j) (h7 : u 7 = t 7) (hn : q_step t = none) : q_step u = none := by
  obtain ⟨hpl, hg, hin, htop, hop, hlo, hnl, hgp, hdn⟩ := q_fg_cg h
  unfold q_step at hn ⊢
  rw [h 2 (by omega), hop, hg (t 2 - 1), hpl, htop, hnl, h7, h 0 (by omega), h (14 + q_op t (t 2 - 1)) (by omega), h (214 + t (14 + q_op t (t 2 - 1))) (by omega), h (14 + (t 2 - 1)) (by omega), h (214 + t (14 + (t 2 - 1))) (by omega)]
  split at hn
  · cases hn
  · rename_i h1
    rw [if_neg h1]
    split at hn
    · rename_i h2
      rw [if_pos h2]
      split at hn
      · cases hn
      · rename_i h3
        rw [if_neg h3]
    · rename_i h2
      rw [if_neg h2]
      split at hn
      · cases hn
      · rename_i h3
        rw [if_neg h3]
