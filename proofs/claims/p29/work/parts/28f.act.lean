/-! one action of the law -/
section RK
variable {B F : Nat} {y : Nat → Nat} {q : d_C}
theorem p5_act (hF : 3000 ≤ F) (h : r_rel B y q) (hB : B + 20000 ≤ 1000000000) (h6 : y 6 + 36 ≤ 1000) (hsum : q_sum (fun v => y (264 + v)) 25 + 60 ≤ 5000) {a : Nat} (ha : a < 20) (a2 a3 : Int32) : r_ok B y (f_L_act F (q, r_a y 264 25, r_W y) (nI a) a2 a3) := by
  obtain ⟨j, hj, gj⟩ := p5_at (F := F) (n := 17) (by omega) (by omega) a2
  obtain ⟨e, he, ge⟩ := p5_at (F := F) (n := 3) (by omega) (by omega) a3
  have hI := h.1.1
  have h2 := h.1.2.2
  have h8 := hI.2.2.2.2.2.2.2.2.1
  have h9 := hI.2.2.2.2.2.2.2.2.2.1
  have hdl := q_dry_le y
  have hj3 : (if nI (y 8) = nI 0 then (if nI (y 9) = nI 0 then some (nI 1) else some (nI 0)) else some (nI 0)) = some (nI (q_dry y)) := by
    have k8 := n_eq (a := y 8) (b := 0) (by omega) (by omega)
    have k9 := n_eq (a := y 9) (b := 0) (by omega) (by omega)
    simp only [k8, k9]
    unfold q_dry
    by_cases c8 : y 8 = 0
    · by_cases c9 : y 9 = 0
      · rw [if_pos c8, if_pos c9, if_pos ⟨c9, c8⟩]
      · rw [if_pos c8, if_neg c9, if_neg (fun q => c9 q.1)]
    · rw [if_neg c8, if_neg (fun q => c8 q.2)]
  rw [r_actE]
  have l17 : (17 : Int32) = nI 17 := rfl
  rw [l17, gj, q_bind]
  simp only [n_l0, n_l1, n_l2, n_l3, n_l4, n_l5, n_l6, n_l7, n_l8, n_l9, n_l10, n_l11, n_l12, n_l13, n_l14, n_l15, n_l16, n_l17, n_l18, n_l19, n_l20, n_l21, n_l22, n_l23, n_l24, n_l25, n_l30, n_l31, n_l33, n_l48, n_l49, n_l57, n_l60, n_l100, n_l114, n_l115, n_l126, n_l200, n_l214, n_l239, n_l264, n_l294, n_l400, n_l1000, n_l1470, n_l5000, n_l1000000, n_o, n_nM]
  rw [n_C (by omega), n_C (by omega), n_C (by omega), q_g (by omega) (by omega), q_g (by omega) (by omega), q_g (by omega) (by omega), r_W4 (by omega), r_W4 (by omega), r_W4 (by omega)]
  rw [hj3, q_bind]
  have le' : ∀ c, c < 100 → c ≤ a → nI c ≤ nI a := fun c hc h => by rw [n_le (by omega) (by omega)]; exact h
  have nle' : ∀ c, c < 100 → ¬ c ≤ a → ¬ nI c ≤ nI a := fun c hc h => by rw [n_le (by omega) (by omega)]; exact h
  have eq' : ∀ c, a = c → nI a = nI c := fun c h => by rw [h]
  have ne' : ∀ c, c < 100 → ¬ a = c → ¬ nI a = nI c := fun c hc h => by rw [n_eq (by omega) (by omega)]; exact h
  by_cases c3 : 3 ≤ a
  · rw [if_pos (le' 3 (by omega) c3)]
    by_cases d3 : a = 3
    · rw [if_pos (eq' 3 d3)]; exact p5_Aset h hB _ _ _ _ _
    rw [if_neg (ne' 3 (by omega) d3)]
    by_cases d4 : a = 4
    · rw [if_pos (eq' 4 d4)]; exact p5_Acut h hB _ _ _ _ hj
    rw [if_neg (ne' 4 (by omega) d4)]
    by_cases d5 : a = 5
    · rw [if_pos (eq' 5 d5)]; exact p5_Aclear hF h hB _ _ _ _ hj
    rw [if_neg (ne' 5 (by omega) d5)]
    by_cases d6 : a = 6
    · rw [if_pos (eq' 6 d6)]; exact p5_Acover h hB _ _ _ _ _
    rw [if_neg (ne' 6 (by omega) d6)]
    by_cases d7 : a = 7
    · rw [if_pos (eq' 7 d7), ge, q_bind]
      by_cases d : e = 0
      · rw [if_pos (by rw [d])]; exact p5_Abegin hF h hB _ _ _ _ _
      · rw [if_neg (by rw [n_eq (by omega) (by omega)]; exact d), if_neg (nle' 10 (by omega) (by omega)), r_pass7]; exact p5_Apass hF h hB h6 _ _ _ _ _
    rw [if_neg (ne' 7 (by omega) d7)]
    by_cases d10 : 10 ≤ a
    · rw [if_pos (le' 10 (by omega) d10)]
      by_cases d13 : 13 ≤ a
      · rw [if_pos (le' 13 (by omega) d13)]
        by_cases d15 : 15 ≤ a
        · rw [if_pos (le' 15 (by omega) d15)]
          by_cases dd : q_dry y = 0
          · rw [if_pos (by rw [dd])]; exact r_okS h hB
          rw [if_neg (by rw [n_eq (by omega) (by omega)]; exact dd)]
          by_cases d2 : y 2 = 0
          · rw [if_neg (by rw [d2, n_0M]; decide)]; exact r_okS h hB
          rw [if_pos (by rw [n_sub (by omega), n_le (by omega) (by omega)]; omega)]
          by_cases d18 : 18 ≤ a
          · rw [if_pos (le' 18 (by omega) d18)]; exact p5_Amend hF h hB (by omega) (by omega) _ _ _ _ _
          · rw [if_neg (nle' 18 (by omega) d18)]; exact p5_Alay hF h hB (by omega) (by omega) _ _ _ _ _
        · rw [if_neg (nle' 15 (by omega) d15)]; exact p5_Aworks hF h hB h6 _ _ _ _ _
      · rw [if_neg (nle' 13 (by omega) d13)]; exact p5_Acourse hF h hB _ _ _ _
    · rw [if_neg (nle' 10 (by omega) d10)]; exact p5_Apass hF h hB h6 _ _ _ _ _
  · rw [if_neg (nle' 3 (by omega) c3)]; exact p5_Abuy hF h hB hsum _ _ _ _ hj
end RK
