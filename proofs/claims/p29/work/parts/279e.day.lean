/-! a day passes -/
def q_N4 (M2 : d_M) : Option (Int32 × d_M) := f_grd ((4 : Int32)) 294 (f_grd ((7 : Int32)) 294 (f_let (ms_z M2 (upd (m_z M2) ((7 : Int32)).toNatClampNeg ((m_z M2) ((4 : Int32)).toNatClampNeg))) fun M80 => some (((0 : Int32), M80))))
def q_S1 (F : Nat) (z59 : d_Z) : Option (Int32 × d_Z) := (f_X1_dropSlates F z59 ((z59 2) - ((1 : Int32))) ((z59 6) - (z59 6) / ((5 : Int32)) * ((5 : Int32)))).bind fun x67 => f_let x67.2 fun z69 => (f_X1_dropSlates F z69 ((z69 2) - ((2 : Int32))) (((z69 6) + ((2 : Int32))) - ((z69 6) + ((2 : Int32))) / ((5 : Int32)) * ((5 : Int32)))).bind fun x71 => f_let x71.2 fun z73 => f_let (upd z73 7 (z73 4)) fun z75 => some ((x67.1 + x71.1, z75))
def q_N1 (z59 : d_Z) : Option (Int32 × d_Z) := f_let (upd z59 7 (z59 4)) fun z65 => some (((0 : Int32), z65))
theorem q1_dayE (F : Nat) (z : d_Z) (a1 : Int32) : f_X1_passDay F z a1 = f_let (upd z 6 ((z 6) + ((1 : Int32)))) fun z2 => (if a1 = 0 then f_let (upd z2 8 ((if ((0 : Int32)) < ((z2 8) - ((1 : Int32))) then (z2 8) - ((1 : Int32)) else (0 : Int32)))) fun z59 => (if a1 = ((2 : Int32)) then (if (z59 9) = 0 then q_S1 F z59 else q_N1 z59) else q_N1 z59) else (if (z2 9) = 0 then (f_X1_isDone F z2).bind fun x22 => (if x22 = 0 then f_let (upd z2 8 (z2 5)) fun z41 => (if a1 = ((2 : Int32)) then (if (z41 9) = 0 then q_S1 F z41 else q_N1 z41) else q_N1 z41) else (if a1 = ((2 : Int32)) then (if (z2 9) = 0 then q_S1 F z2 else q_N1 z2) else q_N1 z2)) else (if a1 = ((2 : Int32)) then (if (z2 9) = 0 then q_S1 F z2 else q_N1 z2) else q_N1 z2))) := rfl
def q_fin (y : Nat → Nat) : Nat → Nat := q_u y 7 (y 4)
def q_sa (y : Nat → Nat) : Nat × (Nat → Nat) := if 0 < y 2 then q_fall y (y 2 - 1) (y 6 % 5) else (0, y)
def q_sb (y : Nat → Nat) : Nat × (Nat → Nat) := if 1 < y 2 then q_fall y (y 2 - 2) ((y 6 + 2) % 5) else (0, y)
def q_sto (y : Nat → Nat) : Nat × (Nat → Nat) := ((q_sa y).1 + (q_sb (q_sa y).2).1, (q_sb (q_sa y).2).2)
def q_dp (y : Nat → Nat) (w : Nat) : Nat → Nat := if w = 0 then q_u y 8 (y 8 - 1) else if y 9 = 0 ∧ q_dn y = 0 then q_u y 8 (y 5) else y
def q_s2 (y : Nat → Nat) (w : Nat) : Nat × (Nat → Nat) := if w = 2 ∧ y 9 = 0 then q_sto y else (0, y)
def q_day (y : Nat → Nat) (w : Nat) : Nat × (Nat → Nat) := ((q_s2 (q_dp (q_u y 6 (y 6 + 1)) w) w).1, q_fin (q_s2 (q_dp (q_u y 6 (y 6 + 1)) w) w).2)
theorem q_set_I {B B' : Nat} {y : Nat → Nat} {k v : Nat} (hI : q_I B y) (hB : B ≤ B') (hB' : B' ≤ 1000000000) (hk : k = 6 ∧ v ≤ B' ∨ k = 7 ∧ v ≤ 60 ∨ k = 8 ∧ v ≤ 5 ∨ k = 9 ∧ v ≤ 1 ∨ k = 10 ∨ k = 11 ∨ k = 12 ∧ v ≤ B' ∨ k = 13 ∧ v ≤ B' ∨ k = 3 ∧ 2 ≤ v ∧ v ≤ 6 ∨ k = 4 ∧ 1 ≤ v ∧ v ≤ 60 ∨ k = 5 ∧ 1 ≤ v ∧ v ≤ 5) : q_I B' (q_u y k v) := by
  have hI2 := q_I_mono hI hB hB'
  obtain ⟨a0, a1, a2, a3, a4, a5, a6, a7, a8, a9, a12, a13, ac, av, as, ak, aB⟩ := hI2
  have e : ∀ j, j ≠ k → q_u y k v j = y j := fun j h1 => q_u_ne h1
  have ek : q_u y k v k = v := q_u_eq
  have e1 : ∀ j, (j = k ∧ q_u y k v j = v) ∨ (j ≠ k ∧ q_u y k v j = y j) := fun j => by
    by_cases h : j = k
    · subst h; exact Or.inl ⟨rfl, ek⟩
    · exact Or.inr ⟨h, e j h⟩
  unfold q_I
  rw [e 0 (by omega), e 1 (by omega), e 2 (by omega)]
  have x3 := e1 3
  have x4 := e1 4
  have x5 := e1 5
  have x6 := e1 6
  have x7 := e1 7
  have x8 := e1 8
  have x9 := e1 9
  have x12 := e1 12
  have x13 := e1 13
  refine ⟨a0, a1, a2, by omega, by omega, by omega, by omega, by omega, by omega, by omega, by omega, by omega, fun d hd => ?_, fun v hv => ?_, ?_, fun k hk => ?_, aB⟩
  · rw [e (14 + d) (by omega), e (114 + d) (by omega)]; exact ac d hd
  · rw [e (214 + v) (by omega), e (264 + v) (by omega), e (239 + v) (by omega)]
    exact av v hv
  · rw [q_sum_cg (g := fun v => y (264 + v)) (fun k hk => e (264 + k) (by omega))]
    exact as
  · rw [e k (by omega)]; exact ak k hk
section RD
variable {B F : Nat} {y : Nat → Nat} {M : d_M}
theorem q_sa_I (hI : q_I B y) (hB : B + 31 ≤ 1000000000) : q_I (B + 31) (q_sa y).2 ∧ (∀ j, j < 14 → (q_sa y).2 j = y j) ∧ (∀ c, c < 100 → (q_sa y).2 (14 + c) = y (14 + c)) := by
  have h2 := hI.2.2.1
  unfold q_sa
  by_cases e : 0 < y 2
  · have h6 := hI.2.2.2.2.2.2.2.2.2.2.2.2.1 (y 2 - 1) (by omega)
    rw [if_pos e]
    exact ⟨q_fall_I hI hB (by omega), fun j hj => q_fall_o (by omega) (by omega), fun j hj => q_fall_o (by omega) (by omega)⟩
  · rw [if_neg e]
    exact ⟨q_I_mono hI (by omega) hB, fun j hj => rfl, fun j hj => rfl⟩
theorem q_sb_I (hI : q_I B y) (hB : B + 31 ≤ 1000000000) : q_I (B + 31) (q_sb y).2 ∧ (∀ j, j < 14 → (q_sb y).2 j = y j) := by
  have h2 := hI.2.2.1
  unfold q_sb
  by_cases e : 1 < y 2
  · have h6 := hI.2.2.2.2.2.2.2.2.2.2.2.2.1 (y 2 - 2) (by omega)
    rw [if_pos e]
    exact ⟨q_fall_I hI hB (by omega), fun j hj => q_fall_o (by omega) (by omega)⟩
  · rw [if_neg e]
    exact ⟨q_I_mono hI (by omega) hB, fun j hj => rfl⟩
theorem q_sto_I (hI : q_I B y) (hB : B + 62 ≤ 1000000000) : q_I (B + 62) (q_sto y).2 ∧ (∀ j, j < 14 → (q_sto y).2 j = y j) := by
  have h1 := q_sa_I hI (by omega)
  have h2 := q_sb_I h1.1 (by omega)
  exact ⟨h2.1, fun j hj => (h2.2 j hj).trans (h1.2.1 j hj)⟩
theorem q1_hcn {a : Int32} (ha : a < 0) : f_X1_hasCourse F (q_z y) a = some (nI 0) := by
  unfold f_X1_hasCourse
  exact if_pos ha
theorem q1_dropn {a r : Int32} (ha : a < 0) : f_X1_dropSlates F (q_z y) a r = some (nI 0, q_z y) := by
  unfold f_X1_dropSlates
  rw [q1_hcn ha, q_bind, if_pos (by rfl)]; rfl
theorem q1_S (hF : 3000 ≤ F) (hI : q_I B y) (hB : B + 62 ≤ 1000000000) : q_S1 F (q_z y) = some (nI (q_sto y).1, q_z (q_fin (q_sto y).2)) := by
  have h2 := hI.2.2.1
  have h6 := hI.2.2.2.2.2.2.1
  have hB1 := hI.2.2.2.2.2.2.2.2.2.2.2.2.2.2.2.2
  have hA := q_sa_I hI (by omega)
  have a2 := hA.2.1 2 (by omega)
  have a6 := hA.2.1 6 (by omega)
  have d1 : f_X1_dropSlates F (q_z y) (nI (y 2) - nI 1) (nI (y 6 % 5)) = some (nI (q_sa y).1, q_z (q_sa y).2) := by
    unfold q_sa
    by_cases e : 0 < y 2
    · rw [if_pos e, n_sub (by omega)]; exact q1_drop hF hI (by omega) (by omega)
    · rw [if_neg e, show y 2 = 0 by omega]; exact q1_dropn (by decide)
  have d2 : f_X1_dropSlates F (q_z (q_sa y).2) (nI (y 2) - nI 2) (nI ((y 6 + 2) % 5)) = some (nI (q_sb (q_sa y).2).1, q_z (q_sb (q_sa y).2).2) := by
    unfold q_sb
    rw [a2, a6]
    by_cases e : 1 < y 2
    · rw [if_pos e, n_sub (by omega)]; exact q1_drop hF hA.1 (by omega) (by omega)
    · rw [if_neg e]
      rcases (show y 2 = 0 ∨ y 2 = 1 by omega) with q | q
      · rw [q]; exact q1_dropn (by decide)
      · rw [q]; exact q1_dropn (by decide)
  unfold q_S1 q_sto
  simp only [n_l0, n_l1, n_l2, n_l3, n_l4, n_l5, n_l6, n_l7, n_l8, n_l9, n_l10, n_l11, n_l12, n_l13, n_l14, n_l15, n_l16, n_l17, n_l18, n_l19, n_l20, n_l21, n_l22, n_l23, n_l24, n_l25, n_l30, n_l31, n_l33, n_l48, n_l49, n_l57, n_l60, n_l100, n_l114, n_l115, n_l126, n_l200, n_l214, n_l239, n_l264, n_l294, n_l400, n_l1000, n_l1470, n_l5000, n_l1000000, n_o, n_nM, q_zk, q_let]
  rw [n_mod (by omega) (by omega) (by omega), d1, q_bind]
  simp only [q_zk, a2, a6, n_add]
  rw [n_mod (by omega) (by omega) (by omega), d2, q_bind]
  simp only [q_zk, n_add, q_zu]
  rfl
theorem q1_N : q_N1 (q_z y) = some (nI 0, q_z (q_fin y)) := by
  unfold q_N1
  simp only [n_l0, n_l1, n_l2, n_l3, n_l4, n_l5, n_l6, n_l7, n_l8, n_l9, n_l10, n_l11, n_l12, n_l13, n_l14, n_l15, n_l16, n_l17, n_l18, n_l19, n_l20, n_l21, n_l22, n_l23, n_l24, n_l25, n_l30, n_l31, n_l33, n_l48, n_l49, n_l57, n_l60, n_l100, n_l114, n_l115, n_l126, n_l200, n_l214, n_l239, n_l264, n_l294, n_l400, n_l1000, n_l1470, n_l5000, n_l1000000, n_o, n_nM, q_zk, q_let, q_zu]
  rfl
theorem q4_N : q_N4 (q_M M y) = some (nI 0, q_M M (q_fin y)) := by
  unfold q_N4
  simp (disch := first | omega | assumption) only [n_l0, n_l1, n_l2, n_l3, n_l4, n_l5, n_l6, n_l7, n_l8, n_l9, n_l10, n_l11, n_l12, n_l13, n_l14, n_l15, n_l16, n_l17, n_l18, n_l19, n_l20, n_l21, n_l22, n_l23, n_l24, n_l25, n_l30, n_l31, n_l33, n_l48, n_l49, n_l57, n_l60, n_l100, n_l114, n_l115, n_l126, n_l200, n_l214, n_l239, n_l264, n_l294, n_l400, n_l1000, n_l1470, n_l5000, n_l1000000, n_o, n_nM, q_zk, q_let, q_zu, q_M_z, q_M_s, q_M_d, q_g, n_C]
  rfl
theorem q1_day (hF : 3000 ≤ F) (hI : q_I B y) (hB : B + 63 ≤ 1000000000) {w : Nat} (hw : w ≤ 2) : f_X1_passDay F (q_z y) (nI w) = some (nI (q_day y w).1, q_z (q_day y w).2) := by
  have h8 := hI.2.2.2.2.2.2.2.2.1
  have h9 := hI.2.2.2.2.2.2.2.2.2.1
  have h6 := hI.2.2.2.2.2.2.1
  have h5 := hI.2.2.2.2.2.1
  have hB1 := hI.2.2.2.2.2.2.2.2.2.2.2.2.2.2.2.2
  have I1 : q_I (B + 1) (q_u y 6 (y 6 + 1)) := q_set_I hI (by omega) (by omega) (by omega)
  have k8 : q_u y 6 (y 6 + 1) 8 = y 8 := q_u_ne (by omega)
  have k9 : q_u y 6 (y 6 + 1) 9 = y 9 := q_u_ne (by omega)
  have k5 : q_u y 6 (y 6 + 1) 5 = y 5 := q_u_ne (by omega)
  rw [q1_dayE]
  unfold q_day
  simp only [n_l0, n_l1, n_l2, n_l3, n_l4, n_l5, n_l6, n_l7, n_l8, n_l9, n_l10, n_l11, n_l12, n_l13, n_l14, n_l15, n_l16, n_l17, n_l18, n_l19, n_l20, n_l21, n_l22, n_l23, n_l24, n_l25, n_l30, n_l31, n_l33, n_l48, n_l49, n_l57, n_l60, n_l100, n_l114, n_l115, n_l126, n_l200, n_l214, n_l239, n_l264, n_l294, n_l400, n_l1000, n_l1470, n_l5000, n_l1000000, n_o, n_nM, q_zk, n_add, q_zu, q_let]
  generalize q_u y 6 (y 6 + 1) = y1 at *
  have hdone := q1_done hF I1
  have hdn : q_dn y1 ≤ 1 := by unfold q_dn; split <;> omega
  have I2 : q_I (B + 1) (q_u y1 8 (y1 8 - 1)) := q_set_I I1 (by omega) (by omega) (by omega)
  have I3 : q_I (B + 1) (q_u y1 8 (y1 5)) := q_set_I I1 (by omega) (by omega) (by omega)
  have hmx : (if nI 0 < nI (y1 8) - nI 1 then nI (y1 8) - nI 1 else nI 0) = nI (y1 8 - 1) := by
    by_cases e : y1 8 = 0
    · rw [e]; decide
    · rw [n_sub (by omega)]
      by_cases e2 : y1 8 = 1
      · rw [e2]; decide
      · rw [if_pos (by rw [n_lt (by omega) (by omega)]; omega)]
  rw [hmx]
  simp only [q_zu]
  have c9 : q_u y1 8 (y1 5) 9 = y1 9 := q_u_ne (by omega)
  have h10 : ¬ nI 1 = nI 0 := by decide
  have h12 : ¬ nI 1 = nI 2 := by decide
  have h20 : ¬ nI 2 = nI 0 := by decide
  rcases (show w = 0 ∨ w = 1 ∨ w = 2 by omega) with q | q | q
  · subst q
    rw [if_pos rfl, if_neg (by decide), q1_N]
    rfl
  · subst q
    have hs : ∀ u, q_s2 u 1 = (0, u) := fun u => if_neg (by omega)
    rw [hs]
    unfold q_dp
    rw [if_neg (show ¬ 1 = 0 by omega), hdone]
    simp (disch := first | omega | assumption) only [h10, h12, n_eq, if_false, q_bind]
    by_cases e9 : y1 9 = 0
    · rw [if_pos e9]
      by_cases ed : q_dn y1 = 0
      · rw [if_pos ed, if_pos (show y1 9 = 0 ∧ q_dn y1 = 0 from ⟨e9, ed⟩), q1_N]
      · rw [if_neg ed, if_neg (show ¬ (y1 9 = 0 ∧ q_dn y1 = 0) from fun q => ed q.2), q1_N]
    · rw [if_neg e9, if_neg (show ¬ (y1 9 = 0 ∧ q_dn y1 = 0) from fun q => e9 q.1), q1_N]
  · subst q
    unfold q_dp
    rw [if_neg (show ¬ 2 = 0 by omega), hdone]
    simp (disch := first | omega | assumption) only [h20, n_eq, if_false, if_true, q_bind, c9]
    by_cases e9 : y1 9 = 0
    · simp only [if_pos e9]
      by_cases ed : q_dn y1 = 0
      · have hs : q_s2 (q_u y1 8 (y1 5)) 2 = q_sto (q_u y1 8 (y1 5)) := if_pos ⟨rfl, c9.trans e9⟩
        rw [if_pos ed, if_pos (show y1 9 = 0 ∧ q_dn y1 = 0 from ⟨e9, ed⟩), hs, q1_S hF I3 (by omega)]
      · have hs : q_s2 y1 2 = q_sto y1 := if_pos ⟨rfl, e9⟩
        rw [if_neg ed, if_neg (show ¬ (y1 9 = 0 ∧ q_dn y1 = 0) from fun q => ed q.2), hs, q1_S hF I1 (by omega)]
    · have hs : q_s2 y1 2 = (0, y1) := if_neg (fun q => e9 q.2)
      simp only [if_neg e9]
      rw [if_neg (show ¬ (y1 9 = 0 ∧ q_dn y1 = 0) from fun q => e9 q.1), hs, q1_N]
end RD
