/-! the relation between the class and the check -/
def q_tx (t : d_T) (M : d_M) : Prop := ∃ (len : Nat) (c : Nat → Nat), len ≤ 60 ∧ t.2.1 = nI len ∧ m_length M = nI len ∧ ∀ k, k < len → t.1 k = nI (c k) ∧ m_text M k = nI (c k) ∧ c k < 128
def q_rel (B : Nat) (y : Nat → Nat) (q : d_C) (M : d_M) : Prop := q_I B y ∧ q.1 = q_z y ∧ m_z M = q_z y ∧ (∃ m S, q_sv q.2.2.1 M m S ∧ ∀ k, k < m → q_I B (S k)) ∧ q_tx q.2.2.2 M
def q_R (B : Nat) (q : d_C) (M : d_M) : Prop := ∃ y, q_rel B y q M
def q_go (B : Nat) (fL : Option (Int32 × d_C × Int64)) (fM : Option (Int32 × d_M)) : Prop := ∃ k q' v' b M', fL = some (k, q', v') ∧ fM = some (b, M') ∧ m_thrown M' = k ∧ (k = 0 → v' = b.toInt64) ∧ q_R (B + 20000) q' M'
theorem q_rel_c {B B' : Nat} {y : Nat → Nat} {q q' : d_C} {M M' : d_M} (h : q_rel B y q M) (hB : B ≤ B') (hB' : B' ≤ 1000000000) (hq : q'.1 = q.1 ∧ q'.2.2 = q.2.2) (hM : m_z M' = m_z M ∧ m_rows M' = m_rows M ∧ m_text M' = m_text M ∧ m_saved M' = m_saved M ∧ m_length M' = m_length M) : q_rel B' y q' M' := by
  obtain ⟨h1, h2, h3, ⟨m, S, h4, h5⟩, ⟨len, c, h6, h7, h8, h9⟩⟩ := h
  refine ⟨q_I_mono h1 hB hB', hq.1.trans h2, hM.1.trans h3, ⟨m, S, ?_, fun k hk => q_I_mono (h5 k hk) hB hB'⟩, ⟨len, c, h6, ?_, hM.2.2.2.2.trans h8, fun k hk => ?_⟩⟩
  · rw [hq.2]
    exact ⟨h4.1, hM.2.2.2.1.trans h4.2.1, h4.2.2.1, h4.2.2.2.1, fun k hk j hj => by rw [hM.2.1]; exact h4.2.2.2.2 k hk j hj⟩
  · rw [hq.2]; exact h7
  · rw [hq.2, hM.2.2.1]; exact h9 k hk
theorem q_rel_B {B : Nat} {y : Nat → Nat} {q : d_C} {M : d_M} (h : q_rel B y q M) : B ≤ 1000000000 := h.1.2.2.2.2.2.2.2.2.2.2.2.2.2.2.2.2
section RR
variable {B F : Nat} {y : Nat → Nat} {q : d_C} {M : d_M}
theorem q_keepR (hF : 3000 ≤ F) (h : q_rel B y q M) : ∃ (v : d_S) (r' : d_Z) (m' : Nat), f_X2_keep F q = some (q.1, q.2.1, v, q.2.2.2) ∧ f_X4_save F M = some (ms_saved (ms_rows M r') (nI m')) ∧
    ∀ (B' : Nat) (y' : Nat → Nat) (tr : d_Z) (M' : d_M), q_I B' y' → B ≤ B' → m_z M' = q_z y' → m_rows M' = r' → m_saved M' = nI m' → m_text M' = m_text M → m_length M' = m_length M → q_rel B' y' (q_z y', tr, v, q.2.2.2) M' := by
  obtain ⟨h1, h2, h3, ⟨m, S, h4, h5⟩, ⟨len, c, h6, h7, h8, h9⟩⟩ := h
  obtain ⟨v, k1, k2, k3⟩ := q1_keep (F := F) h1 h2 h4
  obtain ⟨r', s1, s2⟩ := q4_save (F := F) hF h3 h4
  have hm1 : q_m1 m ≤ 6 := by unfold q_m1; have := h4.1; split <;> omega
  refine ⟨v, r', q_m1 m, k1, s1, fun B' y' tr M' hI' hB' e1 e2 e3 e4 e5 => ⟨hI', rfl, e1, ⟨q_m1 m, q_S1s m S y, ⟨hm1, e3, k2, k3, fun k hk j hj => by rw [e2]; exact s2 k hk j hj⟩, fun k hk => ?_⟩, ⟨len, c, h6, h7, e5.trans h8, fun k hk => ?_⟩⟩⟩
  · have hB1 := hI'.2.2.2.2.2.2.2.2.2.2.2.2.2.2.2.2
    unfold q_S1s
    unfold q_m1 at hk
    by_cases e : m < 6
    · rw [if_pos e] at hk ⊢
      by_cases ek : k = m
      · rw [if_pos ek]; exact q_I_mono h1 hB' hB1
      · rw [if_neg ek]; exact q_I_mono (h5 k (by omega)) hB' hB1
    · have := h4.1
      rw [if_neg e] at hk ⊢
      by_cases ek : k = 5
      · rw [if_pos ek]; exact q_I_mono h1 hB' hB1
      · rw [if_neg ek]; exact q_I_mono (h5 (k + 1) (by omega)) hB' hB1
  · rw [e4]; exact h9 k hk
theorem q_wn {a : Int32} {lo hi : Nat} (h : lo ≤ hi) (hh : hi < 2147483648) : f_X3_isWithin F a (nI lo) (nI hi) = some (nI 0) ∨ ∃ j, a = nI j ∧ lo ≤ j ∧ j ≤ hi ∧ f_X3_isWithin F a (nI lo) (nI hi) = some (nI 1) := by
  unfold f_X3_isWithin
  by_cases e1 : a < nI lo
  · left; rw [if_pos e1]; rfl
  · by_cases e2 : nI hi < a
    · left; rw [if_neg e1, if_pos e2]; rfl
    · right
      have e0 : ¬ a < 0 := by
        rw [Int32.lt_iff_toInt_lt] at e1 ⊢
        rw [n_T (by omega)] at e1
        have : (0 : Int32).toInt = 0 := by decide
        omega
      obtain ⟨j, hj, rfl⟩ := n_of e0
      rw [n_lt (by omega) (by omega)] at e1 e2
      refine ⟨j, rfl, by omega, by omega, ?_⟩
      rw [if_neg (by rw [n_lt (by omega) (by omega)]; exact e1), if_neg (by rw [n_lt (by omega) (by omega)]; exact e2)]
      rfl
theorem q_wX4 (a b c : Int32) : f_X4_within F a b c = f_X3_isWithin F a b c := rfl
theorem q_fails (M : d_M) (k : Int32) : f_X4_fails F M k = some (nI 0, ms_thrown M k) := Eq.symm (Eq.symm (Eq.refl _))
/-- the call fails in both -/
theorem q_bad {v : Int64} {tr : d_Z} {k : Nat} (h : q_rel B y q M) (hB : B + 20000 ≤ 1000000000) (hk : k = 1 ∨ k = 2) : q_go B (some (nI k, (q.1, tr, q.2.2), v)) (some (nI 0, ms_thrown (ms_thrown M (nI 0)) (nI k))) :=
  ⟨nI k, _, v, nI 0, _, rfl, rfl, rfl, fun e => by rcases hk with c | c <;> rw [c] at e <;> exact absurd e (by decide), y, q_rel_c h (by omega) hB ⟨rfl, rfl⟩ ⟨rfl, rfl, rfl, rfl, rfl⟩⟩
theorem q_rel0 (h : q_rel B y q M) : q_rel B y q (ms_thrown M (nI 0)) := q_rel_c h (Nat.le_refl _) (q_rel_B h) ⟨rfl, rfl⟩ ⟨rfl, rfl, rfl, rfl, rfl⟩
/-- saving, in the form in which the calls use it -/
theorem q_keepS (hF : 3000 ≤ F) (h : q_rel B y q M) : ∃ (v : d_S) (M1 : d_M), f_X2_keep F q = some (q_z y, q.2.1, v, q.2.2.2) ∧ f_X4_save F (ms_thrown M (nI 0)) = some (q_M M1 y) ∧ m_thrown M1 = nI 0 ∧
    ∀ (B' : Nat) (y' : Nat → Nat) (tr : d_Z) (M' : d_M), q_I B' y' → B ≤ B' → q_sm (q_M M1 y') M' → q_rel B' y' (q_z y', tr, v, q.2.2.2) M' := by
  obtain ⟨v, r', m', k1, k2, k3⟩ := q_keepR hF (q_rel0 h)
  have hz : m_z (ms_saved (ms_rows (ms_thrown M (nI 0)) r') (nI m')) = q_z y := h.2.2.1
  refine ⟨v, ms_saved (ms_rows (ms_thrown M (nI 0)) r') (nI m'), ?_, ?_, rfl, fun B' y' tr M' hI hb hs => ?_⟩
  · rw [k1, h.2.1]
  · rw [k2]; exact congrArg some (q_M_e hz)
  · exact k3 B' y' tr M' hI hb hs.1 hs.2.1 hs.2.2.2.1 hs.2.2.1 hs.2.2.2.2.1
end RR
