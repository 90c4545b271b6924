/-! recut, clearHeap -/
section RR
variable {B F : Nat} {y : Nat → Nat} {q : d_C} {M : d_M}
def q_rc (y : Nat → Nat) (a t m : Nat) : Nat → Nat := q_u (q_u (q_u y (239 + a) (y (239 + a) - m)) (214 + t) (y (214 + t) + m)) 10 (y 10 + m)
theorem q_rc_I {a t m : Nat} (hI : q_I B y) (hB : B + 20000 ≤ 1000000000) (ha : 8 ≤ a ∧ a ≤ 24) (ht : 8 ≤ t ∧ t ≤ 20) (hm : m ≤ 200) : q_I (B + 20000) (q_rc y a t m) := by
  have h13 := hI.2.2.2.2.2.2.2.2.2.2.2.1
  have h12 := hI.2.2.2.2.2.2.2.2.2.2.1
  have hv := hI.2.2.2.2.2.2.2.2.2.2.2.2.2.1
  have hs := hI.2.2.2.2.2.2.2.2.2.2.2.2.2.2.1
  have e : ∀ j, j ≠ 239 + a → j ≠ 214 + t → j ≠ 10 → q_rc y a t m j = y j := fun j h1 h2 h3 => by
    unfold q_rc
    rw [q_u_ne h3, q_u_ne h2, q_u_ne h1]
  have e2 : q_rc y a t m (239 + a) = y (239 + a) - m := by unfold q_rc; rw [q_u_ne (by omega), q_u_ne (by omega), q_u_eq]
  have e3 : q_rc y a t m (214 + t) = y (214 + t) + m := by unfold q_rc; rw [q_u_ne (by omega), q_u_eq]
  have es : q_sum (fun v => q_rc y a t m (264 + v)) 25 = q_sum (fun v => y (264 + v)) 25 := q_sum_cg (fun k hk => e (264 + k) (by omega) (by omega) (by omega))
  refine q_I_ch hI hB (by omega) (fun j hj => e j (by omega) (by omega) (by omega)) (by rw [e 12 (by omega) (by omega) (by omega)]; omega) (by rw [e 13 (by omega) (by omega) (by omega)]; omega) (fun w hw => ?_) (by rw [es]; exact hs)
  have h0 := hv w hw
  rw [e (264 + w) (by omega) (by omega) (by omega)]
  have i1 : q_rc y a t m (214 + w) ≤ B + 20000 ∧ (w < 8 → q_rc y a t m (214 + w) = 0) := by
    by_cases hwt : w = t
    · subst hwt; rw [e3]; exact ⟨by omega, fun h => by omega⟩
    · rw [e (214 + w) (by omega) (by omega) (by omega)]; exact ⟨by omega, fun h => (h0.2.2.2 h).1⟩
  have i2 : q_rc y a t m (239 + w) ≤ B + 20000 ∧ (w < 8 → q_rc y a t m (239 + w) = 0) := by
    by_cases hwt : w = a
    · subst hwt; rw [e2]; exact ⟨by omega, fun h => by omega⟩
    · rw [e (239 + w) (by omega) (by omega) (by omega)]; exact ⟨by omega, fun h => (h0.2.2.2 h).2.1⟩
  exact ⟨i1.1, i2.1, h0.2.2.1, fun h => ⟨i1.2 h, i2.2 h, (h0.2.2.2 h).2.2⟩⟩
def q_cl (y : Nat → Nat) (k : Nat) : Nat → Nat := fun j => if 247 ≤ j ∧ j < 239 + k then 0 else y j
theorem q_cl_s {k : Nat} (hk : 8 ≤ k) : q_u (q_cl y k) (239 + k) 0 = q_cl y (k + 1) := by
  funext j
  unfold q_u q_cl
  by_cases h1 : j = 239 + k
  · rw [if_pos h1, if_pos (by omega)]
  · rw [if_neg h1]
    by_cases h2 : 247 ≤ j ∧ j < 239 + k
    · rw [if_pos h2, if_pos (by omega)]
    · rw [if_neg h2, if_neg (by omega)]
theorem q1_clL {a : Nat} (ha : a ≤ 25) (r : d_Z × d_S × d_T) : ∀ n k, 8 ≤ k → k ≤ a → a - k < n →
    f_X3_clearHeap_L37 F (nI a) n (nI (q_sum (fun v => y (239 + v)) k)) (nI k) (q_z (q_cl y k), r) = some (nI (q_sum (fun v => y (239 + v)) a), nI a, (q_z (q_cl y a), r)) := by
  intro n
  induction n with
  | zero => intro k h1 h2 h3; omega
  | succ n ih =>
    intro k h1 h2 h3
    have hle := n_le (a := a) (b := k) (by omega) (by omega)
    rw [f_X3_clearHeap_L37]
    simp only [hle]
    by_cases e : a ≤ k
    · have : k = a := by omega
      subst this
      rw [if_pos e]
    · have e1 : q_cl y k (239 + k) = y (239 + k) := if_neg (by omega)
      have e2 : nI (q_cl y k (239 + k)) + -nI (y (239 + k)) = nI 0 := by rw [e1, n_negsub, n_sub (Nat.le_refl _), Nat.sub_self]
      rw [if_neg e, q_vAt (by omega) (by omega), q_bind, q_zk, e1, q_aAt (by omega) (by omega), e2, q_bind, q_let, q_put (by omega), q_cl_s h1, n_add, show nI k + 1 = nI (k + 1) from n_add k 1]
      have := ih (k + 1) (by omega) (by omega) (by omega)
      exact this
theorem q_cl_8 : q_cl y 8 = y := by
  funext j
  exact if_neg (by omega)
theorem q_cl_I {a w : Nat} (hI : q_I B y) (hB : B + 20000 ≤ 1000000000) (ha : 8 ≤ a ∧ a ≤ 25) : q_I (B + 20000) (q_u (q_cl y a) 11 w) := by
  have h13 := hI.2.2.2.2.2.2.2.2.2.2.2.1
  have h12 := hI.2.2.2.2.2.2.2.2.2.2.1
  have hv := hI.2.2.2.2.2.2.2.2.2.2.2.2.2.1
  have hs := hI.2.2.2.2.2.2.2.2.2.2.2.2.2.2.1
  have e : ∀ j, ¬ (247 ≤ j ∧ j < 264) → j ≠ 11 → q_u (q_cl y a) 11 w j = y j := fun j h1 h3 => by
    rw [q_u_ne h3]
    exact if_neg (by omega)
  have e2 : ∀ j, j ≠ 11 → q_u (q_cl y a) 11 w j ≤ y j := fun j h3 => by
    rw [q_u_ne h3]
    unfold q_cl
    split <;> omega
  have es : q_sum (fun v => q_u (q_cl y a) 11 w (264 + v)) 25 = q_sum (fun v => y (264 + v)) 25 := q_sum_cg (fun k hk => e (264 + k) (by omega) (by omega))
  refine q_I_ch hI hB (by omega) (fun j hj => e j (by omega) (by omega)) (by rw [e 12 (by omega) (by omega)]; omega) (by rw [e 13 (by omega) (by omega)]; omega) (fun w hw => ?_) (by rw [es]; exact hs)
  have h0 := hv w hw
  have h1 := e2 (214 + w) (by omega)
  have h2 := e2 (239 + w) (by omega)
  have h3 := e2 (264 + w) (by omega)
  exact ⟨by omega, by omega, by omega, fun h => by have := h0.2.2.2 h; omega⟩
end RR
