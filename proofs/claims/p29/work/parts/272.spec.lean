/-! the state as naturals, sums, the invariant -/
def q_z (y : Nat → Nat) : d_Z := fun k => nI (y k)
def q_u (y : Nat → Nat) (k v : Nat) : Nat → Nat := fun j => if j = k then v else y j
theorem q_zk (y : Nat → Nat) (k : Nat) : q_z y k = nI (y k) := Eq.symm (Eq.symm (Eq.refl _))
theorem q_u_eq {y : Nat → Nat} {k v : Nat} : q_u y k v k = v := if_pos rfl
theorem q_u_ne {y : Nat → Nat} {k v j : Nat} (h : j ≠ k) : q_u y k v j = y j := if_neg h
theorem q_zu (y : Nat → Nat) (k v : Nat) : upd (q_z y) k (nI v) = q_z (q_u y k v) := by
  funext j
  unfold upd q_z q_u
  by_cases h : j = k
  · rw [if_pos h]; simp only [if_pos h]
  · rw [if_neg h]; simp only [if_neg h]
theorem q_put {y : Nat → Nat} {off n x v : Nat} (hx : x < n) : d_put (q_z y) off n (upd (fun k => q_z y (off + k)) x (nI v)) = q_z (q_u y (off + x) v) := by
  rw [d_put_upd hx, q_zu]
def q_sum (f : Nat → Nat) : Nat → Nat
  | 0 => 0
  | n + 1 => q_sum f n + f n
theorem q_sum_cg {f g : Nat → Nat} : ∀ {n : Nat}, (∀ k, k < n → f k = g k) → q_sum f n = q_sum g n := by
  intro n
  induction n with
  | zero => intro _; rfl
  | succ n ih => intro h; show q_sum f n + f n = q_sum g n + g n; rw [ih (fun k hk => h k (by omega)), h n (by omega)]
theorem q_sum_le {f : Nat → Nat} {b : Nat} : ∀ {n : Nat}, (∀ k, k < n → f k ≤ b) → q_sum f n ≤ b * n := by
  intro n
  induction n with
  | zero => intro _; exact Nat.le_refl 0
  | succ n ih =>
    intro h
    have h1 := ih (fun k hk => h k (by omega))
    have h2 := h n (by omega)
    show q_sum f n + f n ≤ b * (n + 1)
    rw [Nat.mul_add]; omega
theorem q_sum_mono {f : Nat → Nat} {m : Nat} : ∀ {n : Nat}, m ≤ n → q_sum f m ≤ q_sum f n := by
  intro n
  induction n with
  | zero => intro h; have : m = 0 := by omega
            subst this; exact Nat.le_refl _
  | succ n ih =>
    intro h
    by_cases e : m = n + 1
    · subst e; exact Nat.le_refl _
    · exact Nat.le_trans (ih (by omega)) (Nat.le_add_right _ _)
theorem q_sum_0 {f : Nat → Nat} : ∀ {n : Nat}, (∀ k, k < n → f k = 0) → q_sum f n = 0 := by
  intro n h
  have := q_sum_le (f := f) (b := 0) (n := n) (fun k hk => by rw [h k hk]; exact Nat.le_refl 0)
  omega
theorem q_sum_u {f g : Nat → Nat} {i d : Nat} : ∀ {n : Nat}, i < n → (∀ k, k < n → k ≠ i → g k = f k) → g i = f i + d → q_sum g n = q_sum f n + d := by
  intro n
  induction n with
  | zero => intro h; omega
  | succ n ih =>
    intro h h1 h2
    show q_sum g n + g n = q_sum f n + f n + d
    by_cases e : i = n
    · subst e
      rw [q_sum_cg (fun k hk => h1 k (by omega) (by omega)), h2]; omega
    · rw [ih (by omega) (fun k hk hki => h1 k (by omega) hki) h2, h1 n (by omega) (fun q => e q.symm)]; omega
/-- a loop that adds up -/
theorem q_accum (W : Nat → Int32 → Int32 → Option (Int32 × Int32)) (f : Nat → Nat) (N : Nat) (hx : ∀ n a, W (n + 1) a (nI N) = some (a, nI N))
    (hs : ∀ n a i, i < N → W (n + 1) a (nI i) = W n (a + nI (f i)) (nI (i + 1))) : ∀ n i, i ≤ N → N - i < n → W n (nI (q_sum f i)) (nI i) = some (nI (q_sum f N), nI N) := by
  intro n
  induction n with
  | zero => intro i _ h; omega
  | succ n ih =>
    intro i hi hn
    by_cases e : i = N
    · subst e; exact hx n _
    · rw [hs n _ i (by omega), n_add]
      exact ih (i + 1) (by omega) (by omega)
def q_b (b p : Nat) : Nat := b / 2 ^ p % 2
def q_pl (y : Nat → Nat) (c : Nat) : Nat := y 1 + c % 2
def q_in (y : Nat → Nat) (c : Nat) : Nat := q_sum (q_b (y (114 + c))) (q_pl y c)
def q_ga (y : Nat → Nat) (v : Nat) : Nat := (v - y 3) / 2
def q_top (y : Nat → Nat) (n : Nat) : Nat := q_sum (fun c => q_ga y (y (14 + c))) n
def q_on (y : Nat → Nat) : Nat := q_sum (q_in y) (y 2)
def q_gp (y : Nat → Nat) : Nat := q_sum (fun c => q_pl y c - q_in y c) (y 2)
def q_fg (b : Nat) : Nat → Nat
  | 0 => 0
  | n + 1 => if q_fg b n < n then q_fg b n else if q_b b n = 0 then n else n + 1
def q_lg (b : Nat) : Nat → Nat
  | 0 => 0
  | n + 1 => if q_b b n = 0 then n + 1 else q_lg b n
def q_I (B : Nat) (y : Nat → Nat) : Prop := (20 ≤ y 0 ∧ y 0 ≤ 400) ∧ (2 ≤ y 1 ∧ y 1 ≤ 30) ∧ y 2 ≤ 100 ∧ (2 ≤ y 3 ∧ y 3 ≤ 6) ∧ (1 ≤ y 4 ∧ y 4 ≤ 60) ∧ (1 ≤ y 5 ∧ y 5 ≤ 5) ∧ y 6 ≤ B ∧ y 7 ≤ 60 ∧ y 8 ≤ 5 ∧ y 9 ≤ 1 ∧ y 12 ≤ B ∧ y 13 ≤ B ∧
  (∀ c, c < y 2 → 8 ≤ y (14 + c) ∧ y (14 + c) ≤ 24 ∧ y (114 + c) < 2 ^ (y 1 + c % 2)) ∧
  (∀ v, v < 25 → y (214 + v) ≤ B ∧ y (239 + v) ≤ B ∧ y (264 + v) ≤ 5000 ∧ (v < 8 → y (214 + v) = 0 ∧ y (239 + v) = 0 ∧ y (264 + v) = 0)) ∧
  q_sum (fun v => y (264 + v)) 25 ≤ 5000 ∧ (∀ k, 289 ≤ k → y k = 0) ∧ B ≤ 1000000000
theorem q_b_le (b p : Nat) : q_b b p ≤ 1 := by unfold q_b; omega
theorem q_in_le (y : Nat → Nat) (c : Nat) : q_in y c ≤ q_pl y c := by
  have := q_sum_le (f := q_b (y (114 + c))) (b := 1) (n := q_pl y c) (fun k _ => q_b_le _ k)
  unfold q_in; omega
theorem q_pl_le {y : Nat → Nat} {c : Nat} (h : y 1 ≤ 30) : q_pl y c ≤ 31 := by unfold q_pl; omega
theorem q_ga_le {y : Nat → Nat} {v : Nat} (h : v ≤ 24) : q_ga y v ≤ 12 := by unfold q_ga; omega
theorem q_w {y : Nat → Nat} {c : Nat} {b : Nat} (h1 : y 1 ≤ 30) (h : b < 2 ^ (y 1 + c % 2)) : b < 2147483648 := by
  have : 2 ^ (y 1 + c % 2) ≤ 2 ^ 31 := Nat.pow_le_pow_right (by omega) (by omega)
  omega
/-- f_grd and f_let -/
theorem q_g {α : Type} {i n : Nat} {k : Option α} (h : i < n) (hn : n < 2147483648) : f_grd (nI i) n k = k := by
  unfold f_grd
  refine if_neg ?_
  rw [n_C (by omega), n_l0, n_lt (by omega) (by omega)]
  omega
theorem q_let {α β : Type} (a : α) (k : α → Option β) : f_let a k = k a := Eq.symm (Eq.symm (Eq.refl _))
theorem q_fif {α : Type} {p : Prop} [Decidable p] {k : Option α} (h : p) : f_if p k = k := if_pos h
theorem q_bind {α β : Type} (a : α) (k : α → Option β) : (some a).bind k = k a := Eq.symm (Eq.symm (Eq.refl _))
