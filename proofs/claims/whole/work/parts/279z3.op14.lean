/-! lay -/
section RR
variable {B F : Nat} {y : Nat → Nat} {q : d_C} {M : d_M}
theorem q_bset_p {b p : Nat} (h : q_b b p = 0) : q_b (b + 2 ^ p) p = 1 := by
  unfold q_b at h ⊢
  rw [Nat.add_div_right _ (Nat.two_pow_pos p)]
  omega
theorem q_ly_in {c p : Nat} (hp : p < q_pl y c) (hb : q_b (y (114 + c)) p = 0) (hI : q_I B y) (hc : c < y 2) : q_in (q_ly y c p 1) c = q_in y c + 1 ∧ q_pl (q_ly y c p 1) c = q_pl y c ∧ q_ly y c p 1 2 = y 2 ∧ q_ly y c p 1 (14 + c) = y (14 + c) ∧ q_ly y c p 1 (214 + y (14 + c)) = y (214 + y (14 + c)) - 1 ∧ q_ly y c p 1 7 = y 7 - 1 := by
  have h2 := hI.2.2.1
  have hl := hI.2.2.2.2.2.2.2.2.2.2.2.2.1 c hc
  have e1 : q_ly y c p 1 1 = y 1 := q_ly_o (by omega) (by omega) (by omega)
  have e2 : q_ly y c p 1 2 = y 2 := q_ly_o (by omega) (by omega) (by omega)
  have e3 : q_ly y c p 1 (14 + c) = y (14 + c) := q_ly_o (by omega) (by omega) (by omega)
  have e4 : q_ly y c p 1 (114 + c) = y (114 + c) + 2 ^ p := by unfold q_ly; rw [q_u_ne (by omega), q_u_ne (by omega), q_u_eq]
  have e5 : q_ly y c p 1 (214 + y (14 + c)) = y (214 + y (14 + c)) - 1 := by unfold q_ly; rw [q_u_ne (by omega), q_u_eq]
  have e6 : q_ly y c p 1 7 = y 7 - 1 := q_u_eq
  have ep : q_pl (q_ly y c p 1) c = q_pl y c := by unfold q_pl; rw [e1]
  refine ⟨?_, ep, e2, e3, e5, e6⟩
  unfold q_in
  rw [ep, e4]
  exact q_sum_u hp (fun k hk hn => q_bset_ne hb hn) (by rw [q_bset_p hb, hb])
def q_lz (c : Nat) : Nat → (Nat → Nat) → (Nat → Nat)
  | 0, y => y
  | k + 1, y => q_lz c k (q_ly y c (q_g0 y c) 1)
theorem q_lzL (hF : 3000 ≤ F) {c m : Nat} (hm : m ≤ 60) {q13 : d_C} (hc13 : q13.1 2 - nI 1 = nI c) (rest : d_Z × d_S × d_T) : ∀ r (y : Nat → Nat) n k, k + r = m → q_I B y → c < y 2 → r ≤ q_pl y c - q_in y c → r ≤ y (214 + y (14 + c)) → r ≤ y 7 → r < n →
    f_X3_lay_L74 F (nI m) q13 n (nI k) (q_z y, rest) = some (nI m, (q_z (q_lz c r y), rest)) ∧ f_X4_lay_L97 F (nI m) (nI c) n (nI k) (q_M M y) = some (nI m, q_M M (q_lz c r y)) ∧ q_I B (q_lz c r y) ∧ q_lz c r y 2 = y 2 := by
  intro r
  induction r with
  | zero =>
    intro y n k h1 hI hc h2 h3 h4 h5
    obtain ⟨n, rfl⟩ : ∃ n', n = n' + 1 := ⟨n - 1, by omega⟩
    have hle := n_le (a := m) (b := k) (by omega) (by omega)
    rw [f_X3_lay_L74, f_X4_lay_L97]
    simp only [hle]
    rw [if_pos (show m ≤ k by omega), if_pos (show m ≤ k by omega), show k = m by omega]
    exact ⟨rfl, rfl, hI, rfl⟩
  | succ r ih =>
    intro y n k h1 hI hc h2 h3 h4 h5
    obtain ⟨n, rfl⟩ : ∃ n', n = n' + 1 := ⟨n - 1, by omega⟩
    have hle := n_le (a := m) (b := k) (by omega) (by omega)
    have hlt : q_g0 y c < q_pl y c := by
      have : q_in y c < q_pl y c := by omega
      unfold q_in at this
      rw [← q_fg_lt] at this
      exact this
    have hb : q_b (y (114 + c)) (q_g0 y c) = 0 := q_fg_bit hlt
    have hg : q_gI (y (114 + c)) (q_pl y c) = nI (q_g0 y c) := if_pos hlt
    obtain ⟨i1, i2, i3, i4, i5, i6⟩ := q_ly_in hlt hb hI hc
    have hI' := q_ly_I (x := 1) hI hc hlt hb
    rw [f_X3_lay_L74, f_X4_lay_L97]
    simp only [hle]
    rw [if_neg (show ¬ m ≤ k by omega), if_neg (show ¬ m ≤ k by omega), show (1 : Int32) = nI 1 from n_l1, hc13]
    rw [q1_fg hF hI hc, q_bind, hg, q1_ly hI hc hlt hb (by omega) (by omega), q_bind, q_let, q4_fg hF (q_M_z M y) hI hc, q_bind, hg, q4_ly hI hc hlt hb (by omega) (by omega), q_bind, q_let, n_add]
    have := ih (q_ly y c (q_g0 y c) 1) n (k + 1) (by omega) hI' (by omega) (by omega) (by rw [i4, i5]; omega) (by omega) (by omega)
    rw [i3] at this
    exact this
theorem q_op_lay (hF : 3000 ≤ F) (h : q_rel B y q M) (hB : B + 20000 ≤ 1000000000) (v : Int64) (a1 : Int32) : q_go B (f_L_lay F q v a1) (f_X4_lay F M a1) := by
  have hz : m_z (ms_thrown M (nI 0)) = q_z y := h.2.2.1
  have hn10 : ¬ nI 1 = nI 0 := by decide
  have hdr := q_dry_le y
  have hI := h.1
  have h2 := hI.2.2.1
  unfold f_L_lay f_X3_lay f_X4_lay
  simp only [q_let, q_fails, q_bind, n_l0, n_l1, n_l2, n_l3, n_l4, n_l5, n_l6, n_l7, n_l8, n_l9, n_l10, n_l11, n_l12, n_l13, n_l14, n_l15, n_l16, n_l17, n_l18, n_l19, n_l20, n_l21, n_l22, n_l23, n_l24, n_l25, n_l30, n_l31, n_l33, n_l48, n_l49, n_l57, n_l60, n_l100, n_l114, n_l115, n_l126, n_l200, n_l214, n_l239, n_l264, n_l294, n_l400, n_l1000, n_l1470, n_l5000, n_l1000000, n_o, n_nM, q_wX4]
  rcases q_wn2 (F := F) (a := a1) (lo := 1) (hi := 60) (by omega) (by omega) with ⟨e, en⟩ | ⟨m, rfl, hm1, hm2, e⟩
  · rw [e, q_bind, q_bind, if_pos rfl, if_pos rfl, q_bind]
    exact q_bad (tr := q.2.1) h hB (Or.inl rfl)
  · have hbad := q_bad (v := v) (tr := q.2.1) h hB (Or.inr rfl)
    rw [e, q_bind, q_bind, if_neg hn10, if_neg hn10, h.2.1, q1_dry hI, q4_dry hz hI, q_bind, q4_lc hz, q_bind, q_bind]
    by_cases e1 : q_dry y = 1
    · rw [e1, if_neg hn10, if_neg hn10]
      unfold f_X1_canLay
      simp only [n_l0, n_l1, n_l2, n_l3, n_l4, n_l5, n_l6, n_l7, n_l8, n_l9, n_l10, n_l11, n_l12, n_l13, n_l14, n_l15, n_l16, n_l17, n_l18, n_l19, n_l20, n_l21, n_l22, n_l23, n_l24, n_l25, n_l30, n_l31, n_l33, n_l48, n_l49, n_l57, n_l60, n_l100, n_l114, n_l115, n_l126, n_l200, n_l214, n_l239, n_l264, n_l294, n_l400, n_l1000, n_l1470, n_l5000, n_l1000000, n_o, n_nM]
      by_cases e2 : y 2 = 0
      · have hcr : ¬ nM < nI 0 → False := by decide
        have hneg : f_X1_hasCourse F (q_z y) nM = some (nI 0) := by
          unfold f_X1_hasCourse
          simp only [n_l0, n_l1, n_l2, n_l3, n_l4, n_l5, n_l6, n_l7, n_l8, n_l9, n_l10, n_l11, n_l12, n_l13, n_l14, n_l15, n_l16, n_l17, n_l18, n_l19, n_l20, n_l21, n_l22, n_l23, n_l24, n_l25, n_l30, n_l31, n_l33, n_l48, n_l49, n_l57, n_l60, n_l100, n_l114, n_l115, n_l126, n_l200, n_l214, n_l239, n_l264, n_l294, n_l400, n_l1000, n_l1470, n_l5000, n_l1000000, n_o, n_nM]
          rw [if_pos (by decide)]
        rw [q_zk2, e2, n_0M, hneg, q_bind, if_pos rfl, q_bind, if_pos rfl, if_pos (by decide), q_bind]
        exact hbad
      · have hc : y 2 - 1 < y 2 := by omega
        have hl := hI.2.2.2.2.2.2.2.2.2.2.2.2.1 _ hc
        have hpl := q_pl_le (c := y 2 - 1) hI.2.1.2
        have hin := q_in_le y (y 2 - 1)
        have hst := (q_st hI (v := y (14 + (y 2 - 1))) (by omega)).1
        have h7 := hI.2.2.2.2.2.2.2.1
        have hlt1 := n_lt (a := q_pl y (y 2 - 1) - q_in y (y 2 - 1)) (b := m) (by omega) (by omega)
        have hlt2 := n_lt (a := y (214 + y (14 + (y 2 - 1)))) (b := m) (by omega) (by omega)
        have hlt3 := n_lt (a := y 7) (b := m) (by omega) (by omega)
        have hle3 := n_le (a := m) (b := y 7) (by omega) (by omega)
        have hn0 : ¬ nI (y 2 - 1) < nI 0 := by rw [n_lt (by omega) (by omega)]; omega
        rw [q_zk2, n_sub (by omega), q1_hc hI (by omega), if_pos hc, q_bind, if_neg hn10, q1_pl (by omega), q_bind, q1_sl hI hc, q_bind, n_sub hin, if_neg hn0, q4_pl hz (by omega), q_bind, q4_sl hF hz hI hc, q_bind, n_sub hin]
        simp only [hlt1]
        by_cases e3 : q_pl y (y 2 - 1) - q_in y (y 2 - 1) < m
        · rw [if_pos e3, if_pos e3, q_bind, if_pos rfl, q_bind]
          exact hbad
        · rw [if_neg e3, if_neg e3, q_vAt (by omega) (by omega), q_bind, q_zk, q_vAt (by omega) (by omega), q_bind, q_zk, q_zk7, hz]
          simp (disch := first | omega | assumption) only [n_add, q_g, n_C, q_zk, hlt2, hlt3, hle3]
          by_cases e4 : y (214 + y (14 + (y 2 - 1))) < m
          · rw [if_pos e4, if_pos e4, q_bind, if_pos rfl, q_bind]
            exact hbad
          · rw [if_neg e4, if_neg e4]
            by_cases e5 : y 7 < m
            · rw [if_pos e5, if_neg (show ¬ m ≤ y 7 by omega), q_bind, if_pos rfl, q_bind]
              exact hbad
            · obtain ⟨sv, M1, k1, k2, kt, k3⟩ := q_keepS hF h
              have hc13 : ((q_z y, q.2.1, sv, q.2.2.2) : d_C).1 2 - nI 1 = nI (y 2 - 1) := by
                show q_z y 2 - nI 1 = nI (y 2 - 1)
                rw [q_zk2, n_sub (by omega)]
              obtain ⟨c1, c2, c3, c4⟩ := q_lzL (M := M1) hF hm2 hc13 (q.2.1, sv, q.2.2.2) m y F 0 (by omega) hI hc (by omega) (by omega) (by omega) (by omega)
              have hI' := q_I_mono c3 (show B ≤ B + 20000 by omega) hB
              rw [if_neg e5, if_pos (show m ≤ y 7 by omega), q_bind, if_neg hn10, k1, k2, q_bind, q_bind, c1, c2, q_bind, q_bind]
              rw [hc13, q1_sl c3 (by omega), q4_sl hF (q_M_z M1 _) c3 (by omega)]
              simp only [q_bind, Sum.elim_inr]
              exact ⟨nI 0, _, _, _, _, rfl, rfl, kt, fun _ => rfl, _, k3 _ _ _ _ hI' (by omega) (q_sm_rf _)⟩
    · rw [show q_dry y = 0 by omega, if_pos rfl, if_pos rfl, q_bind]
      exact hbad
end RR
