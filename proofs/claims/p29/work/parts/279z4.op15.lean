/-! work -/
section RR
variable {B F : Nat} {y : Nat → Nat} {q : d_C} {M : d_M}
def q_wl : List Nat → Nat × (Nat → Nat) → Nat × (Nat → Nat)
  | [], s => s
  | w :: l, s => q_wl l (s.1 + (q_wd s.2 w).1, (q_wd s.2 w).2)
theorem q_wl_app : ∀ (l l' : List Nat) (s : Nat × (Nat → Nat)), q_wl (l ++ l') s = q_wl l' (q_wl l s) := by
  intro l
  induction l with
  | nil => intro l' s; rfl
  | cons w l ih => intro l' s; exact ih l' _
theorem q_wl_I : ∀ (l : List Nat) (B : Nat) (s : Nat × (Nat → Nat)), q_I B s.2 → B + 63 * l.length ≤ 1000000000 → q_I (B + 63 * l.length) (q_wl l s).2 := by
  intro l
  induction l with
  | nil => intro B s h _; exact h
  | cons w l ih =>
    intro B s h hB
    rw [List.length_cons] at hB ⊢
    have := ih (B + 63) (s.1 + (q_wd s.2 w).1, (q_wd s.2 w).2) (q_wd_I h (by omega)).1 (by omega)
    rw [show B + 63 * (l.length + 1) = B + 63 + 63 * l.length by omega]
    exact this
theorem q1_wkL (hF : 3000 ≤ F) {w R : Nat} (hw : w ≤ 2) (hR : R ≤ 99) (rest : d_Z × d_S × d_T) : ∀ (m n j a B : Nat) (y : Nat → Nat), j + m = R → m < n → q_I B y → B + 63 * m ≤ 1000000000 →
    f_X3_work_L115 F (nI w) (nI R) n (nI a) (nI j) (q_z y, rest) = some (nI (q_wl (List.replicate m w) (a, y)).1, nI R, (q_z (q_wl (List.replicate m w) (a, y)).2, rest)) := by
  intro m
  induction m with
  | zero =>
    intro n j a B y hj hn hI hB
    obtain ⟨n, rfl⟩ : ∃ n', n = n' + 1 := ⟨n - 1, by omega⟩
    have hle := n_le (a := R) (b := j) (by omega) (by omega)
    rw [f_X3_work_L115]
    simp only [hle]
    rw [if_pos (by omega), show j = R by omega]
    rfl
  | succ m ih =>
    intro n j a B y hj hn hI hB
    obtain ⟨n, rfl⟩ : ∃ n', n = n' + 1 := ⟨n - 1, by omega⟩
    have hle := n_le (a := R) (b := j) (by omega) (by omega)
    rw [f_X3_work_L115]
    simp only [hle, q_let]
    rw [if_neg (by omega), q1_wd hF hI (by omega) hw, n_add, show (1 : Int32) = nI 1 from n_l1, n_add]
    exact ih n (j + 1) (a + (q_wd y w).1) (B + 63) (q_wd y w).2 (by omega) (by omega) (q_wd_I hI (by omega)).1 (by omega)
theorem q1_wpL (hF : 3000 ≤ F) {K R : Nat → Nat} {p : Nat} (hp : p ≤ 60) (hK : ∀ k, k < p → R k ≤ 99 ∧ K k ≤ 2) {tr : d_Z} {sv : d_S} {t : d_T} (ht : t.2.2.2.2 = nI p) (hW : ∀ k, k < p → t.2.2.1 k = nI (K k) ∧ t.2.2.2.1 k = nI (R k)) {y : Nat → Nat} {B : Nat} (hI : q_I B y) (hB : B + 63 * q_sum R p ≤ 1000000000) : ∀ (m n i : Nat), i + m = p → m < n →
    f_X3_work_L75 F n (nI (q_wl (q_ds K R i) (0, y)).1) (nI i) (q_z (q_wl (q_ds K R i) (0, y)).2, tr, sv, t) = some (nI (q_wl (q_ds K R p) (0, y)).1, nI p, (q_z (q_wl (q_ds K R p) (0, y)).2, tr, sv, t)) := by
  intro m
  induction m with
  | zero =>
    intro n i hi hn
    obtain ⟨n, rfl⟩ : ∃ n', n = n' + 1 := ⟨n - 1, by omega⟩
    have hle := n_le (a := p) (b := i) (by omega) (by omega)
    rw [f_X3_work_L75]
    simp only [ht, hle]
    rw [if_pos (by omega), show i = p by omega]
  | succ m ih =>
    intro n i hi hn
    obtain ⟨n, rfl⟩ : ∃ n', n = n' + 1 := ⟨n - 1, by omega⟩
    have hle := n_le (a := p) (b := i) (by omega) (by omega)
    have hk := hK i (by omega)
    have hw := hW i (by omega)
    have hs1 : q_sum R (i + 1) ≤ q_sum R p := q_sum_mono (by omega)
    have hs2 : q_sum R (i + 1) = q_sum R i + R i := rfl
    have hlen := q_ds_len K R i
    have hI' := q_wl_I (q_ds K R i) B (0, y) hI (by rw [hlen]; omega)
    rw [hlen] at hI'
    have h1 := q1_wkL (F := F) hF hk.2 hk.1 (tr, sv, t) (R i) F 0 (q_wl (q_ds K R i) (0, y)).1 _ _ (by omega) (by omega) hI' (by omega)
    have hap : q_wl (q_ds K R (i + 1)) (0, y) = q_wl (List.replicate (R i) (K i)) (q_wl (q_ds K R i) (0, y)) := q_wl_app _ _ _
    rw [f_X3_work_L75]
    simp only [ht, hle]
    rw [if_neg (by omega), q_vAt (by omega) (by omega), hw.1, q_bind, q_vAt (by omega) (by omega), hw.2, q_bind]
    have h2 : f_X3_work_L115 F (nI (K i)) (nI (R i)) F (nI (q_wl (q_ds K R i) (0, y)).1) ((0 : Int32)) (q_z (q_wl (q_ds K R i) (0, y)).2, tr, sv, t) = some (nI (q_wl (q_ds K R (i + 1)) (0, y)).1, nI (R i), (q_z (q_wl (q_ds K R (i + 1)) (0, y)).2, tr, sv, t)) := by
      rw [hap]; exact h1
    rw [h2, q_bind, show (1 : Int32) = nI 1 from n_l1, n_add]
    exact ih n (i + 1) (by omega) (by omega)
theorem q_ds_mem {K R : Nat → Nat} : ∀ {m : Nat}, (∀ k, k < m → K k ≤ 2) → ∀ w, w ∈ q_ds K R m → w ≤ 2 := by
  intro m
  induction m with
  | zero => intro _ w h; exact absurd h (List.not_mem_nil)
  | succ m ih =>
    intro hK w h
    rcases List.mem_append.mp h with h | h
    · exact ih (fun k hk => hK k (by omega)) w h
    · rw [List.eq_of_mem_replicate h]; exact hK m (by omega)
theorem q_th (M : d_M) {k : Int32} (h : m_thrown M = k) : ms_thrown M k = M := by subst h; rfl
end RR
