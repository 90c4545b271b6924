/-! a course begun, a slate laid -/
def q_bg (y : Nat → Nat) (v : Nat) : Nat → Nat := q_u (q_u (q_u y (14 + y 2) v) (114 + y 2) 0) 2 (y 2 + 1)
def q_ly (y : Nat → Nat) (c p e : Nat) : Nat → Nat := q_u (q_u (q_u y (114 + c) (y (114 + c) + 2 ^ p)) (214 + y (14 + c)) (y (214 + y (14 + c)) - 1)) 7 (y 7 - e)
def q_M (M : d_M) (y : Nat → Nat) : d_M := ms_z M (q_z y)
theorem q_M_z (M : d_M) (y : Nat → Nat) : m_z (q_M M y) = q_z y := Eq.symm (Eq.symm (Eq.refl _))
theorem q_M_e {M : d_M} {y : Nat → Nat} (h : m_z M = q_z y) : M = q_M M y := by
  unfold q_M; rw [← h]
theorem q_M_s (M : d_M) (y : Nat → Nat) (z : d_Z) : ms_z (q_M M y) z = ms_z M z := Eq.symm (Eq.symm (Eq.refl _))
theorem q_M_d (M : d_M) (y : Nat → Nat) : ms_z M (q_z y) = q_M M y := Eq.symm (Eq.symm (Eq.refl _))
theorem q_bg_I {B : Nat} {y : Nat → Nat} {v : Nat} (hI : q_I B y) (hv : 8 ≤ v ∧ v ≤ 24) (hn : y 2 < 100) : q_I B (q_bg y v) := by
  obtain ⟨a0, a1, a2, a3, a4, a5, a6, a7, a8, a9, a12, a13, ac, av, as, ak, aB⟩ := hI
  have e : ∀ j, j ≠ 14 + y 2 → j ≠ 114 + y 2 → j ≠ 2 → q_bg y v j = y j := fun j h1 h2 h3 => by
    unfold q_bg; rw [q_u_ne h3, q_u_ne h2, q_u_ne h1]
  have e2 : q_bg y v 2 = y 2 + 1 := q_u_eq
  unfold q_I
  rw [e2, e 0 (by omega) (by omega) (by omega), e 1 (by omega) (by omega) (by omega), e 3 (by omega) (by omega) (by omega), e 4 (by omega) (by omega) (by omega), e 5 (by omega) (by omega) (by omega), e 6 (by omega) (by omega) (by omega), e 7 (by omega) (by omega) (by omega), e 8 (by omega) (by omega) (by omega), e 9 (by omega) (by omega) (by omega), e 12 (by omega) (by omega) (by omega), e 13 (by omega) (by omega) (by omega)]
  refine ⟨a0, a1, by omega, a3, a4, a5, a6, a7, a8, a9, a12, a13, fun c hc => ?_, fun w hw => ?_, ?_, fun k hk => ?_, aB⟩
  · by_cases h : c = y 2
    · subst h
      have e3 : q_bg y v (14 + y 2) = v := by unfold q_bg; rw [q_u_ne (by omega), q_u_ne (by omega), q_u_eq]
      have e4 : q_bg y v (114 + y 2) = 0 := by unfold q_bg; rw [q_u_ne (by omega), q_u_eq]
      rw [e3, e4]
      exact ⟨hv.1, hv.2, Nat.two_pow_pos _⟩
    · rw [e (14 + c) (by omega) (by omega) (by omega), e (114 + c) (by omega) (by omega) (by omega)]
      exact ac c (by omega)
  · rw [e (214 + w) (by omega) (by omega) (by omega), e (239 + w) (by omega) (by omega) (by omega), e (264 + w) (by omega) (by omega) (by omega)]
    exact av w hw
  · rw [q_sum_cg (g := fun v => y (264 + v)) (fun k hk => e (264 + k) (by omega) (by omega) (by omega))]
    exact as
  · rw [e k (by omega) (by omega) (by omega)]; exact ak k hk
theorem q_ly_I {B : Nat} {y : Nat → Nat} {c p x : Nat} (hI : q_I B y) (hc : c < y 2) (hp : p < q_pl y c) (hb : q_b (y (114 + c)) p = 0) : q_I B (q_ly y c p x) := by
  obtain ⟨a0, a1, a2, a3, a4, a5, a6, a7, a8, a9, a12, a13, ac, av, as, ak, aB⟩ := hI
  have hcc := ac c hc
  have e : ∀ j, j ≠ 114 + c → j ≠ 214 + y (14 + c) → j ≠ 7 → q_ly y c p x j = y j := fun j h1 h2 h3 => by
    unfold q_ly; rw [q_u_ne h3, q_u_ne h2, q_u_ne h1]
  have e7 : q_ly y c p x 7 = y 7 - x := q_u_eq
  unfold q_I
  rw [e7, e 0 (by omega) (by omega) (by omega), e 1 (by omega) (by omega) (by omega), e 2 (by omega) (by omega) (by omega), e 3 (by omega) (by omega) (by omega), e 4 (by omega) (by omega) (by omega), e 5 (by omega) (by omega) (by omega), e 6 (by omega) (by omega) (by omega), e 8 (by omega) (by omega) (by omega), e 9 (by omega) (by omega) (by omega), e 12 (by omega) (by omega) (by omega), e 13 (by omega) (by omega) (by omega)]
  refine ⟨a0, a1, a2, a3, a4, a5, a6, by omega, a8, a9, a12, a13, fun d hd => ?_, fun w hw => ?_, ?_, fun k hk => ?_, aB⟩
  · rw [e (14 + d) (by omega) (by omega) (by omega)]
    by_cases h : d = c
    · subst h
      have e4 : q_ly y d p x (114 + d) = y (114 + d) + 2 ^ p := by unfold q_ly; rw [q_u_ne (by omega), q_u_ne (by omega), q_u_eq]
      rw [e4]
      exact ⟨hcc.1, hcc.2.1, q_bhi hb hcc.2.2 hp⟩
    · rw [e (114 + d) (by omega) (by omega) (by omega)]
      exact ac d hd
  · rw [e (239 + w) (by omega) (by omega) (by omega), e (264 + w) (by omega) (by omega) (by omega)]
    have h1 := av w hw
    by_cases h : w = y (14 + c)
    · subst h
      have e5 : q_ly y c p x (214 + y (14 + c)) = y (214 + y (14 + c)) - 1 := by unfold q_ly; rw [q_u_ne (by omega), q_u_eq]
      rw [e5]
      exact ⟨by omega, h1.2.1, h1.2.2.1, fun h => by have := h1.2.2.2 h; omega⟩
    · rw [e (214 + w) (by omega) (by omega) (by omega)]
      exact h1
  · rw [q_sum_cg (g := fun v => y (264 + v)) (fun k hk => e (264 + k) (by omega) (by omega) (by omega))]
    exact as
  · rw [e k (by omega) (by omega) (by omega)]; exact ak k hk
theorem q_zk2 (y : Nat → Nat) : q_z y 2 = nI (y 2) := Eq.symm (Eq.symm (Eq.refl _))
theorem q_zk7 (y : Nat → Nat) : q_z y 7 = nI (y 7) := Eq.symm (Eq.symm (Eq.refl _))
theorem q_addK {α : Type} {K : d_Z → Option α} {y : Nat → Nat} {off n c w F : Nat} {x : Int32} (hw : nI (y (off + c)) + x = nI w) (h : c < n) (hn : n < 2147483648) :
    ((f_X3_addAt F n (fun k => q_z y (off + k)) (nI c) x).bind fun r => f_let (d_put (q_z y) off n r) K) = K (q_z (q_u y (off + c) w)) := by
  rw [q_aAt h hn, hw, q_bind, q_let, q_put h]
theorem n_dec {k : Nat} (h : 0 < k) : nI k + nM = nI (k - 1) := by
  obtain ⟨j, rfl⟩ : ∃ j, k = j + 1 := ⟨k - 1, by omega⟩
  rw [n_sM]; rfl
section RD
variable {B F : Nat} {y : Nat → Nat} {M : d_M}
theorem q1_bg {v : Nat} (hI : q_I B y) (hn : y 2 < 100) : f_X1_addCourse F (q_z y) (nI v) = some (q_z (q_bg y v)) := by
  unfold f_X1_addCourse
  simp (disch := first | omega | assumption) only [n_l0, n_l1, n_l2, n_l3, n_l4, n_l5, n_l6, n_l7, n_l8, n_l9, n_l10, n_l11, n_l12, n_l13, n_l14, n_l15, n_l16, n_l17, n_l18, n_l19, n_l20, n_l21, n_l22, n_l23, n_l24, n_l25, n_l30, n_l31, n_l33, n_l48, n_l49, n_l57, n_l60, n_l100, n_l114, n_l115, n_l126, n_l200, n_l214, n_l239, n_l264, n_l294, n_l400, n_l1000, n_l1470, n_l5000, n_l1000000, n_o, n_nM, q_zk2, n_lt, n_le, q_g, n_C, q_let, q_put, q_u_ne, n_add, q_zu]
  rw [if_neg (by omega), if_neg (by omega), if_neg (by omega)]
  rfl
theorem q1_hc {c : Nat} (hI : q_I B y) (hc : c < 2147483648) : f_X1_hasCourse F (q_z y) (nI c) = some (if c < y 2 then nI 1 else nI 0) := by
  have h2 := hI.2.2.1
  unfold f_X1_hasCourse
  simp (disch := first | omega | assumption) only [n_l0, n_l1, n_l2, n_l3, n_l4, n_l5, n_l6, n_l7, n_l8, n_l9, n_l10, n_l11, n_l12, n_l13, n_l14, n_l15, n_l16, n_l17, n_l18, n_l19, n_l20, n_l21, n_l22, n_l23, n_l24, n_l25, n_l30, n_l31, n_l33, n_l48, n_l49, n_l57, n_l60, n_l100, n_l114, n_l115, n_l126, n_l200, n_l214, n_l239, n_l264, n_l294, n_l400, n_l1000, n_l1470, n_l5000, n_l1000000, n_o, n_nM, q_zk, n_lt, n_le]
  rw [if_neg (by omega)]
  by_cases e : c < y 2
  · rw [if_neg (by omega), if_pos e]
  · rw [if_pos (by omega), if_neg e]
theorem q1_hp {c p : Nat} (hI : q_I B y) (hc : c < 2147483648) (hp : p < 2147483648) : f_X1_hasPlace F (q_z y) (nI c) (nI p) = some (if c < y 2 ∧ p < q_pl y c then nI 1 else nI 0) := by
  have h2 := hI.2.2.1
  have h5 := q_pl_le (c := c) hI.2.1.2
  unfold f_X1_hasPlace
  rw [q1_hc hI hc]
  simp (disch := first | omega | assumption) only [n_l0, n_l1, n_l2, n_l3, n_l4, n_l5, n_l6, n_l7, n_l8, n_l9, n_l10, n_l11, n_l12, n_l13, n_l14, n_l15, n_l16, n_l17, n_l18, n_l19, n_l20, n_l21, n_l22, n_l23, n_l24, n_l25, n_l30, n_l31, n_l33, n_l48, n_l49, n_l57, n_l60, n_l100, n_l114, n_l115, n_l126, n_l200, n_l214, n_l239, n_l264, n_l294, n_l400, n_l1000, n_l1470, n_l5000, n_l1000000, n_o, n_nM, q_bind, n_lt]
  by_cases e : c < y 2
  · rw [if_pos e, if_neg (by decide), if_neg (by omega), q1_pl (by omega)]
    simp (disch := first | omega | assumption) only [q_bind, n_le]
    by_cases e2 : p < q_pl y c
    · rw [if_neg (by omega), if_pos ⟨e, e2⟩]
    · rw [if_pos (by omega), if_neg (fun q => e2 q.2)]
  · rw [if_neg e, if_pos rfl, if_neg (fun q => e q.1)]
theorem q1_ly {c p x : Nat} (hI : q_I B y) (hc : c < y 2) (hp : p < q_pl y c) (hb : q_b (y (114 + c)) p = 0) (hs : 0 < y (214 + y (14 + c))) (hx : x ≤ y 7) : f_X1_putSlate F (q_z y) (nI c) (nI p) (nI x) = some (q_z (q_ly y c p x)) := by
  have h2 := hI.2.2.1
  have h5 := q_pl_le (c := c) hI.2.1.2
  have h6 := hI.2.2.2.2.2.2.2.2.2.2.2.2.1 c hc
  unfold f_X1_putSlate
  rw [q1_hp hI (by omega) (by omega), if_pos ⟨hc, hp⟩, q_bind, if_neg (by decide), q1_has hI hc (by omega), hb, q_bind, n_l0, if_pos rfl]
  simp (disch := first | omega | assumption) only [n_l0, n_l1, n_l2, n_l3, n_l4, n_l5, n_l6, n_l7, n_l8, n_l9, n_l10, n_l11, n_l12, n_l13, n_l14, n_l15, n_l16, n_l17, n_l18, n_l19, n_l20, n_l21, n_l22, n_l23, n_l24, n_l25, n_l30, n_l31, n_l33, n_l48, n_l49, n_l57, n_l60, n_l100, n_l114, n_l115, n_l126, n_l200, n_l214, n_l239, n_l264, n_l294, n_l400, n_l1000, n_l1470, n_l5000, n_l1000000, n_o, n_nM, n_and, n_and31, n_shl']
  rw [q_addK (n_add _ _) (by omega) (by omega), q_vAt (by omega) (by omega), q_bind, q_zk, q_u_ne (by omega), q_addK (w := y (214 + y (14 + c)) - 1) (by rw [q_u_ne (by omega)]; exact n_dec hs) (by omega) (by omega)]
  simp (disch := first | omega | assumption) only [q_let, q_zk7, q_u_ne, n_sub, q_zu]
  rfl
end RD
