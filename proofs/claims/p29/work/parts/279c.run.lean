/-! the check's step, and both runs of a day -/
section RD
variable {B F : Nat} {y : Nat → Nat} {M : d_M}
def q_sO (M : d_M) (y : Nat → Nat) : Option (Nat × (Nat → Nat)) → Int32 × d_M
  | none => (nM, q_M M y)
  | some r => (nI r.1, q_M M r.2)
/-- the class's loop -/
theorem q1_slL (hF : 3000 ≤ F) : ∀ m (y : Nat → Nat) n a s, q_I B y → q_dry y = 1 → q_mu y ≤ m → m < n → s + m < 1000000 →
    (f_X1_slateForTheDay_L4 F n (nI a) (nI s) (q_z y)).bind (fun o1 => some ((o1.1, o1.2.2))) = some (nI (a + (q_run (m + 1) y).1), q_z (q_run (m + 1) y).2) := by
  intro m
  induction m with
  | zero =>
    intro y n a s hI hd hm hn hs
    obtain ⟨n, rfl⟩ : ∃ k, n = k + 1 := ⟨n - 1, by omega⟩
    rw [q1_turn hF hI hd (by omega)]
    cases h : q_step y with
    | none => unfold q_run; rw [h]; rfl
    | some r => have := (q_step_I hI h).2.1; omega
  | succ m ih =>
    intro y n a s hI hd hm hn hs
    obtain ⟨n, rfl⟩ : ∃ k, n = k + 1 := ⟨n - 1, by omega⟩
    rw [q1_turn hF hI hd (by omega)]
    cases h : q_step y with
    | none => unfold q_run; rw [h]; rfl
    | some r =>
      have h1 := q_step_I hI h
      have h3 := ih r.2 n (a + r.1) (s + 1) h1.1 (by rw [h1.2.2.1]; exact hd) (by omega) (by omega) (by omega)
      have h4 : q_run (m + 1 + 1) y = (r.1 + (q_run (m + 1) r.2).1, (q_run (m + 1) r.2).2) := by
        conv => lhs; unfold q_run
        rw [h]
      rw [h4]
      show (f_X1_slateForTheDay_L4 F n (nI (a + r.1)) (nI (s + 1)) (q_z r.2)).bind _ = _
      rw [h3, Nat.add_assoc]
end RD
