/-! the relation between the class and the check -/
def q_tx (t : d_T) (M : d_M) : Prop := ∃ (len : Nat) (c : Nat → Nat), len ≤ 60 ∧ t.2.1 = nI len ∧ m_length M = nI len ∧ ∀ k, k < len → t.1 k = nI (c k) ∧ m_text M k = nI (c k) ∧ c k < 128
def q_rel (B : Nat) (y : Nat → Nat) (q : d_C) (M : d_M) : Prop := q_I B y ∧ q.1 = q_z y ∧ m_z M = q_z y ∧ (∃ m S, q_sv q.2.2.1 M m S ∧ ∀ k, k < m → q_I B (S k)) ∧ q_tx q.2.2.2 M
def q_R (B : Nat) (q : d_C) (M : d_M) : Prop := ∃ y, q_rel B y q M
def q_go (B : Nat) (fL : Option (Int32 × d_C × Int64)) (fM : Option (Int32 × d_M)) : Prop := ∃ k q' v' b M', fL = some (k, q', v') ∧ fM = some (b, M') ∧ m_thrown M' = k ∧ (k = 0 → v' = b.toInt64) ∧ q_R (B + 20000) q' M'
theorem q_rel_c {B B' : Nat} {y : Nat → Nat} {q q' : d_C} {M M' : d_M} (h : q_rel B y q M) (hB : B ≤ B') (hB' : B' ≤ 1000000000) (hq : q'.1 = q.1 ∧ q'.2.2 = q.2.2) (hM : m_z M' = m_z M ∧ m_rows M' = m_rows M ∧ m_text M' = m_text M ∧ m_saved M' = m_saved M ∧ m_length M' = m_length M) : q_rel B' y q' M' := by
  obtain ⟨h1, h2, h3, ⟨m, S, h4, h5⟩, ⟨len, c, h6, h7, h8, h9⟩⟩ := h
  refine ⟨q_I_mono h1 hB hB', hq.1.trans h2, hM.1.trans h3, ⟨m, S, ?_, fun k hk => q_I_mono (h5 k hk) hB hB'⟩, ⟨len, c, h6, ?_, hM.2.2.2.2.trans h8, fun k hk => ?_⟩⟩
  · rw [hq.2]
    exact ⟨h4.1, hM.2.2.2.1.trans h4.2.1, h4.2.2.1, h4.2.2.2.1, fun k hk j hj => by rw [hM.2.1]; exact h4.2.2.2.2 k hk j hj⟩
  · rw [hq.2]; exact h7
  · rw [hq.2, hM.2.2.1]; exact h9 k hk
theorem q_rel_B {B : Nat} {y : Nat → Nat} {q : d_C} {M : d_M} (h : q_rel B y q M) : B ≤ 1000000000 := h.1.2.2.2.2.2.2.2.2.2.2.2.2.2.2.2.2
section RR
variable {B F : Nat} {y : Nat → Nat} {q : d_C} {M : d_M}
theorem q_wn {a : Int32} {lo hi : Nat} (h : lo ≤ hi) (hh : hi < 2147483648) : f_X3_isWithin F a (nI lo) (nI hi) = some (nI 0) ∨ ∃ j, a = nI j ∧ lo ≤ j ∧ j ≤ hi ∧ f_X3_isWithin F a (nI lo) (nI hi) = some (nI 1) := by
  unfold f_X3_isWithin
  by_cases e1 : a < nI lo
  · left; rw [if_pos e1]; rfl
  · by_cases e2 : nI hi < a
    · left; rw [if_neg e1, if_pos e2]; rfl
    · right
      have e0 : ¬ a < 0 := by
        rw [Int32.lt_iff_toInt_lt] at e1 ⊢
        rw [n_T (by omega)] at e1
        have : (0 : Int32).toInt = 0 := by decide
        omega
      obtain ⟨j, hj, rfl⟩ := n_of e0
      rw [n_lt (by omega) (by omega)] at e1 e2
      refine ⟨j, rfl, by omega, by omega, ?_⟩
      rw [if_neg (by rw [n_lt (by omega) (by omega)]; exact e1), if_neg (by rw [n_lt (by omega) (by omega)]; exact e2)]
      rfl
/-- the call fails in both -/
theorem q_bad {v : Int64} {tr : d_Z} {k : Nat} (h : q_rel B y q M) (hB : B + 20000 ≤ 1000000000) (hk : k = 1 ∨ k = 2) : q_go B (some (nI k, (q.1, tr, q.2.2), v)) (some (nI 0, ms_thrown (ms_thrown M (nI 0)) (nI k))) :=
  ⟨nI k, _, v, nI 0, _, rfl, rfl, rfl, fun e => by rcases hk with c | c <;> rw [c] at e <;> exact absurd e (by decide), y, q_rel_c h (by omega) hB ⟨rfl, rfl⟩ ⟨rfl, rfl, rfl, rfl, rfl⟩⟩
theorem q_rel0 (h : q_rel B y q M) : q_rel B y q (ms_thrown M (nI 0)) := q_rel_c h (Nat.le_refl _) (q_rel_B h) ⟨rfl, rfl⟩ ⟨rfl, rfl, rfl, rfl, rfl⟩
end RR
