/-! lies, mend -/
section RR
variable {B F : Nat} {y : Nat → Nat} {q : d_C} {M : d_M}
theorem q_plc (hI : q_I B y) (hM : m_z M = q_z y) (a1 a2 : Int32) : (f_X1_hasPlace F (q_z y) a1 a2 = some (nI 0) ∧ f_X4_isPlace F M a1 a2 = some (nI 0)) ∨ ∃ c p, a1 = nI c ∧ a2 = nI p ∧ c < y 2 ∧ p < q_pl y c ∧ f_X1_hasPlace F (q_z y) a1 a2 = some (nI 1) ∧ f_X4_isPlace F M a1 a2 = some (nI 1) := by
  have h2 := hI.2.2.1
  have h1 := hI.2.1
  have hn10 : ¬ nI 1 = nI 0 := by decide
  have neg4 : ∀ (x : Int32) (hi : Int32), x < 0 → f_X3_isWithin F x (nI 0) hi = some (nI 0) := fun x hi hx => by
    unfold f_X3_isWithin
    rw [if_pos (by exact hx)]; rfl
  unfold f_X4_isPlace
  simp only [q_wX4, n_l0, n_l1, n_l2, n_l3, n_l4, n_l5, n_l6, n_l7, n_l8, n_l9, n_l10, n_l11, n_l12, n_l13, n_l14, n_l15, n_l16, n_l17, n_l18, n_l19, n_l20, n_l21, n_l22, n_l23, n_l24, n_l25, n_l30, n_l31, n_l33, n_l48, n_l49, n_l57, n_l60, n_l100, n_l114, n_l115, n_l126, n_l200, n_l214, n_l239, n_l264, n_l294, n_l400, n_l1000, n_l1470, n_l5000, n_l1000000, n_o, n_nM]
  rw [q4_lc hM, q_bind]
  by_cases c1 : a1 < 0
  · left
    refine ⟨?_, ?_⟩
    · unfold f_X1_hasPlace
      rw [q1_hcn c1, q_bind, if_pos (by rfl)]; rfl
    · rw [neg4 _ _ c1, q_bind, if_pos rfl]
  · obtain ⟨c, hc, rfl⟩ := n_of c1
    by_cases c2 : c < y 2
    · have h5 := q_pl_le (c := c) hI.2.1.2
      have h5' : 2 ≤ q_pl y c := by unfold q_pl; omega
      have w1 := q_within (F := F) (a := c) (lo := 0) (hi := y 2 - 1) (by omega) (by omega) (by omega)
      rw [if_pos ⟨by omega, by omega⟩] at w1
      rw [n_sub (by omega), w1, q_bind, if_neg hn10, q4_pl hM (by omega), q_bind, n_sub (by omega)]
      by_cases c3 : a2 < 0
      · left
        refine ⟨?_, ?_⟩
        · unfold f_X1_hasPlace
          rw [q1_hc hI hc, if_pos c2, q_bind, if_neg (by decide), if_pos c3]; rfl
        · rw [neg4 _ _ c3, q_bind, if_pos rfl]
      · obtain ⟨p, hp, rfl⟩ := n_of c3
        have w2 := q_within (F := F) (a := p) (lo := 0) (hi := q_pl y c - 1) (by omega) hp (by omega)
        rw [q1_hp hI hc hp]
        by_cases c4 : p < q_pl y c
        · right
          rw [if_pos ⟨by omega, by omega⟩] at w2
          refine ⟨c, p, rfl, rfl, c2, c4, by rw [if_pos ⟨c2, c4⟩], ?_⟩
          rw [w2, q_bind, if_neg hn10]
        · left
          rw [if_neg (by omega)] at w2
          refine ⟨by rw [if_neg (fun q => c4 q.2)], ?_⟩
          rw [w2, q_bind, if_pos rfl]
    · left
      refine ⟨?_, ?_⟩
      · unfold f_X1_hasPlace
        rw [q1_hc hI hc, if_neg c2, q_bind, if_pos (by rfl)]; rfl
      · have w1 : f_X3_isWithin F (nI c) (nI 0) (nI (y 2) - nI 1) = some (nI 0) := by
          by_cases e0 : y 2 = 0
          · rw [e0, n_0M]
            unfold f_X3_isWithin
            rw [if_neg (show ¬ nI c < nI 0 from c1), if_pos (by rw [n_Mlt hc]; trivial)]; rfl
          · rw [n_sub (by omega), q_within (by omega) hc (by omega), if_neg (by omega)]
        rw [w1, q_bind, if_pos rfl]
theorem q_op_lies (hF : 3000 ≤ F) (h : q_rel B y q M) (hB : B + 20000 ≤ 1000000000) (v : Int64) (a1 a2 : Int32) : ∃ k v' b M', f_L_lies F q v a1 a2 = some (k, q, v') ∧ f_X4_lies F M a1 a2 = some (b, M') ∧ m_thrown M' = k ∧ (k = 0 → v' = (if b = 0 then 0 else 1)) ∧ q_R (B + 20000) q M' := by
  have hz : m_z (ms_thrown M (nI 0)) = q_z y := h.2.2.1
  have hn10 : ¬ nI 1 = nI 0 := by decide
  have hR : ∀ M', m_z M' = m_z M ∧ m_rows M' = m_rows M ∧ m_text M' = m_text M ∧ m_saved M' = m_saved M ∧ m_length M' = m_length M → q_R (B + 20000) q M' := fun M' h' => ⟨y, q_rel_c (q := q) (M := M) h (by omega) hB ⟨rfl, rfl⟩ h'⟩
  unfold f_L_lies f_X3_lies f_X4_lies
  simp only [q_let, q_fails, q_bind, n_l0, n_l1, n_l2, n_l3, n_l4, n_l5, n_l6, n_l7, n_l8, n_l9, n_l10, n_l11, n_l12, n_l13, n_l14, n_l15, n_l16, n_l17, n_l18, n_l19, n_l20, n_l21, n_l22, n_l23, n_l24, n_l25, n_l30, n_l31, n_l33, n_l48, n_l49, n_l57, n_l60, n_l100, n_l114, n_l115, n_l126, n_l200, n_l214, n_l239, n_l264, n_l294, n_l400, n_l1000, n_l1470, n_l5000, n_l1000000, n_o, n_nM]
  rw [h.2.1]
  rcases q_plc (F := F) h.1 hz a1 a2 with ⟨g1, g2⟩ | ⟨c, p, rfl, rfl, hc, hp, g1, g2⟩
  · rw [g1, g2, q_bind, q_bind, if_pos rfl, if_pos rfl, q_bind]
    exact ⟨nI 1, v, nI 0, _, rfl, rfl, rfl, fun e => absurd e (by decide), hR _ ⟨rfl, rfl, rfl, rfl, rfl⟩⟩
  · have h5 := q_pl_le (c := c) h.1.2.1.2
    have hb := q_b_le (y (114 + c)) p
    rw [g1, g2, q_bind, q_bind, if_neg hn10, if_neg hn10, q1_has h.1 hc (by omega), q4_has hz h.1 hc (by omega), q_bind, q_bind]
    rcases (show q_b (y (114 + c)) p = 0 ∨ q_b (y (114 + c)) p = 1 by omega) with e | e <;> rw [e]
    · rw [q_fif (Or.inl rfl), q_fif (Or.inl rfl)]
      exact ⟨nI 0, _, nI 0, _, rfl, rfl, rfl, fun _ => rfl, hR _ ⟨rfl, rfl, rfl, rfl, rfl⟩⟩
    · rw [q_fif (Or.inr rfl), q_fif (Or.inr rfl)]
      exact ⟨nI 0, _, nI 1, _, rfl, rfl, rfl, fun _ => rfl, hR _ ⟨rfl, rfl, rfl, rfl, rfl⟩⟩
end RR
