/-! the start -/
section RR
def q_y0 : Nat → Nat := fun k => if k = 0 then 100 else if k = 1 then 6 else if k = 3 then 4 else if k = 4 then 20 else if k = 5 then 2 else if k = 7 then 20 else 0
theorem q_z0 : d_z0 = q_z q_y0 := by
  funext k
  unfold d_z0 q_z q_y0
  repeat' split
  all_goals rfl
theorem q_y0_o {k : Nat} (h : 8 ≤ k) : q_y0 k = 0 := by
  unfold q_y0
  rw [if_neg (by omega), if_neg (by omega), if_neg (by omega), if_neg (by omega), if_neg (by omega), if_neg (by omega)]
theorem q_R0 : q_R 1000 d_q0 d_M0 := by
  refine ⟨q_y0, ?_, q_z0, q_z0, ⟨0, fun _ => q_y0, ⟨by omega, rfl, rfl, ⟨0, by omega, rfl, fun k hk => absurd hk (Nat.not_lt_zero k)⟩, fun k hk => absurd hk (Nat.not_lt_zero k)⟩, fun k hk => absurd hk (Nat.not_lt_zero k)⟩, ⟨0, fun _ => 0, by omega, rfl, rfl, fun k hk => absurd hk (Nat.not_lt_zero k)⟩⟩
  have e0 : q_y0 0 = 100 := by decide
  have e1 : q_y0 1 = 6 := by decide
  have e2 : q_y0 2 = 0 := by decide
  have e3 : q_y0 3 = 4 := by decide
  have e4 : q_y0 4 = 20 := by decide
  have e5 : q_y0 5 = 2 := by decide
  have e6 : q_y0 6 = 0 := by decide
  have e7 : q_y0 7 = 20 := by decide
  unfold q_I
  rw [e0, e1, e2, e3, e4, e5, e6, e7, q_y0_o (k := 8) (by omega), q_y0_o (k := 9) (by omega), q_y0_o (k := 12) (by omega), q_y0_o (k := 13) (by omega)]
  refine ⟨by omega, by omega, by omega, by omega, by omega, by omega, by omega, by omega, by omega, by omega, by omega, by omega, fun c hc => absurd hc (Nat.not_lt_zero c), fun v hv => ?_, ?_, fun k hk => q_y0_o (by omega), by omega⟩
  · rw [q_y0_o (k := 214 + v) (by omega), q_y0_o (k := 239 + v) (by omega), q_y0_o (k := 264 + v) (by omega)]
    exact ⟨by omega, by omega, by omega, fun _ => ⟨rfl, rfl, rfl⟩⟩
  · rw [q_sum_0 (fun k _ => q_y0_o (by omega))]
    omega
theorem q_pure {L : Nat} (hL : L ≤ 2048) (xs : Nat → Int32) : f_law_L 3000 L xs 600 0 d_q0 d_M0 0 = some 1 := q_law (F := 3000) (by omega) hL xs 600 0 1000 d_q0 d_M0 0 q_R0 (by omega) (by omega) (by omega)
end RR
