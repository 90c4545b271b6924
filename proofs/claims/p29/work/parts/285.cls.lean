/-! the class's calls, with what they answer -/
def r_sv (k : Nat) (v : d_S) : Prop := ∃ m o, k ≤ m ∧ m ≤ 6 ∧ o < 6 ∧ v.2.2 = nI m ∧ v.2.1 = nI o
def r_rel (B : Nat) (y : Nat → Nat) (q : d_C) : Prop := r_I B y ∧ q.1 = q_z y ∧ r_sv 1 q.2.2.1 ∧ q.2.2.2.2.1 = nI 0
theorem r_nt {α β γ : Type} {a : Option (γ ⊕ α)} {x : α} (h : a = some (.inr x)) (k : α → Option β) : f_nt a k = k x := by rw [h]; rfl
section RC
variable {B F : Nat} {y : Nat → Nat} {q : d_C}
theorem r_keep (hI : q_I B y) (hq : q.1 = q_z y) (hS : r_sv 0 q.2.2.1) : ∃ v : d_S, f_X2_keep F q = some (q_z y, q.2.1, v, q.2.2.2) ∧ r_sv 1 v := by
  obtain ⟨m, o, -, h1, h3, h2, h4⟩ := hS
  obtain ⟨z, tr, ⟨ring, old, many⟩, t⟩ := q
  have hq' : z = q_z y := hq
  subst hq'
  have e1 : old = nI o := h4
  have e2 : many = nI m := h2
  subst e1
  subst e2
  have hi : (nI o + nI m) - (nI o + nI m) / nI 6 * nI 6 = nI ((o + m) % 6) := by rw [n_add, n_mod (by omega) (by omega) (by omega)]
  have hi2 : (nI o + nI 1) - (nI o + nI 1) / nI 6 * nI 6 = nI ((o + 1) % 6) := by rw [n_add, n_mod (by omega) (by omega) (by omega)]
  unfold f_X2_keep
  simp only [n_l0, n_l1, n_l2, n_l3, n_l4, n_l5, n_l6, n_l7, n_l8, n_l9, n_l10, n_l11, n_l12, n_l13, n_l14, n_l15, n_l16, n_l17, n_l18, n_l19, n_l20, n_l21, n_l22, n_l23, n_l24, n_l25, n_l30, n_l31, n_l33, n_l48, n_l49, n_l57, n_l60, n_l100, n_l114, n_l115, n_l126, n_l200, n_l214, n_l239, n_l264, n_l294, n_l400, n_l1000, n_l1470, n_l5000, n_l1000000, n_o, n_nM, hi, hi2]
  simp (disch := first | omega | assumption) only [q_g, n_C, q_let, n_le]
  have hcv : q_z y 9 = nI 0 ∨ q_z y 9 = nI 1 := q_cov hI
  rw [q_fif hcv]
  by_cases e : m < 6
  · refine ⟨(va_up ring ((o + m) % 6) (q_z y), nI o, nI (m + 1)), ?_, m + 1, o, by omega, by omega, h3, rfl, rfl⟩
    rw [if_neg (by omega), n_add]
  · have hm : m = 6 := by omega
    subst hm
    refine ⟨(va_up ring ((o + 6) % 6) (q_z y), nI ((o + 1) % 6), nI 6), ?_, 6, (o + 1) % 6, by omega, by omega, by omega, rfl, rfl⟩
    rw [if_pos (by omega), hi2]
theorem r_sv0 {v : d_S} (h : r_sv 1 v) : r_sv 0 v := by
  obtain ⟨m, o, h0, h1⟩ := h
  exact ⟨m, o, Nat.zero_le _, h1⟩
theorem r_in1 {a lo hi : Nat} (hh : hi < 2147483648) (h1 : lo ≤ a) (h2 : a ≤ hi) : f_X3_isWithin F (nI a) (nI lo) (nI hi) = some (nI 1) := by
  rw [q_within (by omega) (by omega) hh, if_pos ⟨h1, h2⟩]
theorem r_len {a : Nat} (h1 : 8 ≤ a) (h2 : a ≤ 24) : f_X3_isLength F (nI a) = some (nI 1) := r_in1 (F := F) (lo := 8) (hi := 24) (by omega) h1 h2
theorem r_n10 : ¬ nI 1 = nI 0 := by decide
theorem p1_begin (hF : 3000 ≤ F) (hI : q_I B y) (hq : q.1 = q_z y) (hS : r_sv 0 q.2.2.1) (ht : q.2.2.2.2.1 = nI 0) (hB : B + 20000 ≤ 1000000000) {a b : Nat} (ha : 20 ≤ a ∧ a ≤ 50) (hb : 2 ≤ b ∧ b ≤ 30) : ∃ q', f_X3_begin F q (nI a) (nI b) = some (.inr (nI (q_on y), q')) ∧ r_rel (B + 20000) (q_u (q_u (q_u (q_u y 12 (y 12 + q_on y)) 2 0) 0 a) 1 b) q' := by
  obtain ⟨v, k1, k2⟩ := r_keep (F := F) hI hq hS
  have hI' := q_begin_I hI hB (a := a) (b := b) ⟨ha.1, by omega⟩ hb
  unfold f_X3_begin
  simp only [q_let, n_l0, n_l1, n_l2, n_l3, n_l4, n_l5, n_l6, n_l7, n_l8, n_l9, n_l10, n_l11, n_l12, n_l13, n_l14, n_l15, n_l16, n_l17, n_l18, n_l19, n_l20, n_l21, n_l22, n_l23, n_l24, n_l25, n_l30, n_l31, n_l33, n_l48, n_l49, n_l57, n_l60, n_l100, n_l114, n_l115, n_l126, n_l200, n_l214, n_l239, n_l264, n_l294, n_l400, n_l1000, n_l1470, n_l5000, n_l1000000, n_o, n_nM]
  rw [r_in1 (by omega) ha.1 (by omega), q_bind, if_neg r_n10, r_in1 (by omega) hb.1 hb.2, q_bind, if_neg r_n10, k1, q_bind]
  simp only [q1_on hF hI, q_bind]
  simp (disch := first | omega | assumption) only [q_zk, n_add, q_zu]
  refine ⟨_, rfl, ⟨hI', ?_, ?_⟩, rfl, k2, ht⟩
  · show q_u (q_u (q_u (q_u y 12 (y 12 + q_on y)) 2 0) 0 a) 1 b 0 ≤ 50
    rw [q_u_ne (by omega), q_u_eq]; exact ha.2
  · show q_u (q_u (q_u (q_u y 12 (y 12 + q_on y)) 2 0) 0 a) 1 b 2 ≤ 50
    rw [q_u_ne (by omega), q_u_ne (by omega), q_u_eq]; omega
theorem r_fin (h : r_rel B y q) {B' : Nat} {y' : Nat → Nat} {v : d_S} (hv : r_sv 1 v) (hI : q_I B' y') (h0 : y' 0 = y 0) (h2 : y' 2 = y 2) (tr : d_Z) : r_rel B' y' (q_z y', tr, v, q.2.2.2) :=
  ⟨⟨hI, by rw [h0]; exact h.1.2.1, by rw [h2]; exact h.1.2.2⟩, rfl, hv, h.2.2.2⟩
theorem p1_set (h : r_rel B y q) (hB : B + 20000 ≤ 1000000000) {k v : Nat} (hk : k = 0 ∧ 2 ≤ v ∧ v ≤ 6 ∨ k = 1 ∧ 1 ≤ v ∧ v ≤ 60 ∨ k = 2 ∧ 1 ≤ v ∧ v ≤ 5) : ∃ q', f_X3_set F q (nI k) (nI v) = some (.inr (nI (y (3 + k)), q')) ∧ r_rel (B + 20000) (q_u y (3 + k) v) q' := by
  obtain ⟨sv, k1, k2⟩ := r_keep (F := F) h.1.1 h.2.1 (r_sv0 h.2.2.1)
  have hI' : q_I (B + 20000) (q_u y (3 + k) v) := q_set_I h.1.1 (by omega) hB (by omega)
  have hr := r_fin h k2 hI' (q_u_ne (by omega)) (q_u_ne (by omega)) q.2.1
  unfold f_X3_set
  simp only [q_let, n_l0, n_l1, n_l2, n_l3, n_l4, n_l5, n_l6, n_l7, n_l8, n_l9, n_l10, n_l11, n_l12, n_l13, n_l14, n_l15, n_l16, n_l17, n_l18, n_l19, n_l20, n_l21, n_l22, n_l23, n_l24, n_l25, n_l30, n_l31, n_l33, n_l48, n_l49, n_l57, n_l60, n_l100, n_l114, n_l115, n_l126, n_l200, n_l214, n_l239, n_l264, n_l294, n_l400, n_l1000, n_l1470, n_l5000, n_l1000000, n_o, n_nM]
  rw [r_in1 (a := k) (by omega) (by omega) (by omega), q_bind, if_neg r_n10, q_vAt (by omega) (by omega), q_vAt (by omega) (by omega), q_bind, q_bind]
  rcases hk with ⟨rfl, a, b⟩ | ⟨rfl, a, b⟩ | ⟨rfl, a, b⟩
  · rw [show a_least 0 = nI 2 from rfl, show a_most 0 = nI 6 from rfl, r_in1 (by omega) a b, q_bind, if_neg r_n10, k1, q_bind]
    have hs : f_X1_settingOf F (q_z y) (nI 0) = some (nI (y 3)) := rfl
    have hc : f_X1_changeSetting F (q_z y) (nI 0) (nI v) = some (q_z (q_u y 3 v)) := by rw [← q_zu]; rfl
    simp only [hs, hc, q_bind]
    exact ⟨_, rfl, hr⟩
  · rw [show a_least 1 = nI 1 from rfl, show a_most 1 = nI 60 from rfl, r_in1 (by omega) a b, q_bind, if_neg r_n10, k1, q_bind]
    have hs : f_X1_settingOf F (q_z y) (nI 1) = some (nI (y 4)) := rfl
    have hc : f_X1_changeSetting F (q_z y) (nI 1) (nI v) = some (q_z (q_u y 4 v)) := by rw [← q_zu]; rfl
    simp only [hs, hc, q_bind]
    exact ⟨_, rfl, hr⟩
  · rw [show a_least 2 = nI 1 from rfl, show a_most 2 = nI 5 from rfl, r_in1 (by omega) a b, q_bind, if_neg r_n10, k1, q_bind]
    have hs : f_X1_settingOf F (q_z y) (nI 2) = some (nI (y 5)) := rfl
    have hc : f_X1_changeSetting F (q_z y) (nI 2) (nI v) = some (q_z (q_u y 5 v)) := by rw [← q_zu]; rfl
    simp only [hs, hc, q_bind]
    exact ⟨_, rfl, hr⟩
/-- the class's count of broken ones and the law's -/
theorem r_ush (x : Int32) : ((x.toUInt32 >>> (((16 : Int32)).toUInt32 &&& Int32.toUInt32 31)).toInt32) - ((x.toUInt32 >>> (((16 : Int32)).toUInt32 &&& Int32.toUInt32 31)).toInt32) / ((32768 : Int32)) * ((32768 : Int32)) = ((x.toUInt32 >>> (((16 : Int32)).toUInt32 &&& Int32.toUInt32 31)).toInt32) &&& ((32767 : Int32)) := by
  have h1 : ∃ a, a < 65536 ∧ (x.toUInt32 >>> (((16 : Int32)).toUInt32 &&& Int32.toUInt32 31)).toInt32 = nI a := by
    refine ⟨x.toUInt32.toNat / 65536, by have := x.toUInt32.toNat_lt; omega, ?_⟩
    have e1 : (((16 : Int32)).toUInt32 &&& Int32.toUInt32 31) = UInt32.ofNat 16 := by decide
    rw [e1]
    apply Int32.toBitVec_inj.mp
    apply BitVec.eq_of_toNat_eq
    show (x.toUInt32 >>> UInt32.ofNat 16).toNat = (BitVec.ofNat 32 (x.toUInt32.toNat / 65536)).toNat
    rw [UInt32.toNat_shiftRight, UInt32.toNat_ofNat', BitVec.toNat_ofNat, Nat.shiftRight_eq_div_pow]
    have := x.toUInt32.toNat_lt
    rw [Nat.mod_eq_of_lt (show x.toUInt32.toNat / 65536 < 2 ^ 32 by omega)]
  obtain ⟨a, ha, e⟩ := h1
  rw [e, show (32768 : Int32) = nI 32768 from rfl, show (32767 : Int32) = nI 32767 from rfl, n_mod (by omega) (by omega) (by omega), n_and]
  exact congrArg nI (Nat.and_two_pow_sub_one_eq_mod a 15).symm
theorem r_brk {a : Nat} (ha : a ≤ 200) : ∀ n k r s, r ≤ k → k ≤ a → a - k < n → ∃ s' r', f_X3_brokenAmong_L7 F (nI a) n s (nI r) (nI k) = some (s', nI r', nI a) ∧ f_L_bought_L9 F (nI a) n s (nI r) (nI k) = some (s', nI r', nI a) ∧ r' ≤ a := by
  intro n
  induction n with
  | zero => intro k r s h1 h2 h3; omega
  | succ n ih =>
    intro k r s h1 h2 h3
    rw [f_X3_brokenAmong_L7, f_L_bought_L9]
    rw [r_ush]
    have hle := n_le (a := a) (b := k) (by omega) (by omega)
    simp only [hle]
    by_cases e : a ≤ k
    · have : k = a := by omega
      subst this
      rw [if_pos e, if_pos e]
      exact ⟨s, r, rfl, rfl, h1⟩
    · rw [if_neg e, if_neg e]
      simp only [n_l0, n_l1, n_add]
      split
      · exact ih (k + 1) (r + 1) _ (by omega) (by omega) (by omega)
      · exact ih (k + 1) r _ (by omega) (by omega) (by omega)
theorem p1_buy (hF : 3000 ≤ F) (h : r_rel B y q) (hB : B + 20000 ≤ 1000000000) {a m : Nat} (ha : 8 ≤ a ∧ a ≤ 24) (hm : 1 ≤ m ∧ m ≤ 200) (s : Int32) (hs : q_sum (fun v => y (264 + v)) 25 + m ≤ 5000) : ∃ q' s' r, f_X3_buy F q (nI a) (nI m) s = some (.inr (nI r, q')) ∧ f_L_bought_L9 F (nI m) F s (nI 0) (nI 0) = some (s', nI r, nI m) ∧ r ≤ m ∧ r_rel (B + 20000) (q_by y a m r) q' := by
  obtain ⟨sv, k1, k2⟩ := r_keep (F := F) h.1.1 h.2.1 (r_sv0 h.2.2.1)
  obtain ⟨s', r, b1, b2, b3⟩ := r_brk (F := F) hm.2 F 0 0 s (by omega) (by omega) (by omega)
  have hI' := q_buy_I h.1.1 hB ha hm.2 b3 hs
  have hq : (fun k => q.1 (264 + k)) = fun k => q_z y (264 + k) := by rw [h.2.1]
  have hs1 : f_X3_sumOf F 25 (fun k => q_z y (264 + k)) = some (nI (q_sum (fun v => y (264 + v)) 25)) := q1_sum (y := y) hF 264
  have hbr : f_X3_brokenAmong F (nI m) s = some (nI r) := by
    unfold f_X3_brokenAmong
    have b1' : f_X3_brokenAmong_L7 F (nI m) F s ((0 : Int32)) ((0 : Int32)) = some (s', nI r, nI m) := b1
    rw [b1']; rfl
  have f1 : ∀ z, q_u y (264 + a) z (214 + a) = y (214 + a) := fun z => q_u_ne (by omega)
  have f2 : ∀ z w, q_u (q_u y (264 + a) z) (214 + a) w (239 + a) = y (239 + a) := fun z w => by rw [q_u_ne (by omega), q_u_ne (by omega)]
  have f3 : ∀ z w u, q_u (q_u (q_u y (264 + a) z) (214 + a) w) (239 + a) u 13 = y 13 := fun z w u => by rw [q_u_ne (by omega), q_u_ne (by omega), q_u_ne (by omega)]
  refine ⟨(q_z (q_by y a m r), q.2.1, sv, q.2.2.2), s', r, ?_, b2, b3, r_fin h k2 hI' ?_ ?_ q.2.1⟩
  · unfold f_X3_buy
    simp only [q_let, n_l0, n_l1, n_l2, n_l3, n_l4, n_l5, n_l6, n_l7, n_l8, n_l9, n_l10, n_l11, n_l12, n_l13, n_l14, n_l15, n_l16, n_l17, n_l18, n_l19, n_l20, n_l21, n_l22, n_l23, n_l24, n_l25, n_l30, n_l31, n_l33, n_l48, n_l49, n_l57, n_l60, n_l100, n_l114, n_l115, n_l126, n_l200, n_l214, n_l239, n_l264, n_l294, n_l400, n_l1000, n_l1470, n_l5000, n_l1000000, n_o, n_nM, hq]
    have hle := n_le (a := q_sum (fun v => y (264 + v)) 25 + m) (b := 5000) (by omega) (by omega)
    rw [r_len ha.1 ha.2, q_bind, if_neg r_n10, r_in1 (by omega) hm.1 hm.2, q_bind, if_neg r_n10, hs1, q_bind, n_add]
    simp only [hle]
    rw [if_pos hs, k1, q_bind, hbr, q_bind]
    simp only []
    rw [q_aAt (by omega) (by omega), n_add, q_bind, q_put (by omega), n_sub b3, q_aAt (by omega) (by omega), f1, n_add, q_bind, q_put (by omega), q_aAt (by omega) (by omega), f2, n_add, q_bind, q_put (by omega), q1_pc ha.2, q_bind, q_zk, f3, n_mul, n_add, q_zu]
    rfl
  · unfold q_by; rw [q_u_ne (by omega), q_u_ne (by omega), q_u_ne (by omega), q_u_ne (by omega)]
  · unfold q_by; rw [q_u_ne (by omega), q_u_ne (by omega), q_u_ne (by omega), q_u_ne (by omega)]
theorem p1_recut (h : r_rel B y q) (hB : B + 20000 ≤ 1000000000) {a t m : Nat} (ha : 8 ≤ a ∧ a ≤ 24) (ht : 8 ≤ t ∧ t ≤ 20) (hta : t ≤ a - 4) (hm : 1 ≤ m ∧ m ≤ 200) (hmy : m ≤ y (239 + a)) : ∃ q', f_X3_recut F q (nI a) (nI t) (nI m) = some (.inr (nI (y (239 + a) - m), q')) ∧ r_rel (B + 20000) (q_rc y a t m) q' := by
  obtain ⟨sv, k1, k2⟩ := r_keep (F := F) h.1.1 h.2.1 (r_sv0 h.2.2.1)
  have hI := h.1.1
  have hb := q_st hI (v := a) (by omega)
  have hI' := q_rc_I (m := m) hI hB ha ht hm.2
  have hq : (fun k => q.1 (239 + k)) = fun k => q_z y (239 + k) := by rw [h.2.1]
  have hle := n_le (a := t) (b := a - 4) (by omega) (by omega)
  have hle2 := n_le (a := m) (b := y (239 + a)) (by omega) (by omega)
  refine ⟨(q_z (q_rc y a t m), q.2.1, sv, q.2.2.2), ?_, r_fin h k2 hI' ?_ ?_ q.2.1⟩
  · unfold f_X3_recut
    simp only [q_let, n_l0, n_l1, n_l2, n_l3, n_l4, n_l5, n_l6, n_l7, n_l8, n_l9, n_l10, n_l11, n_l12, n_l13, n_l14, n_l15, n_l16, n_l17, n_l18, n_l19, n_l20, n_l21, n_l22, n_l23, n_l24, n_l25, n_l30, n_l31, n_l33, n_l48, n_l49, n_l57, n_l60, n_l100, n_l114, n_l115, n_l126, n_l200, n_l214, n_l239, n_l264, n_l294, n_l400, n_l1000, n_l1470, n_l5000, n_l1000000, n_o, n_nM, hq]
    rw [r_len ha.1 ha.2, q_bind, if_neg r_n10, r_in1 (by omega) ht.1 ht.2, q_bind, if_neg r_n10, r_in1 (by omega) hm.1 hm.2, q_bind, if_neg r_n10, n_sub (show 4 ≤ a by omega)]
    simp only [hle]
    rw [if_pos hta, q_vAt (by omega) (by omega), q_bind]
    simp only [q_zk, hle2]
    rw [if_pos hmy, k1, q_bind]
    have hng : nI (y (239 + a)) + -nI m = nI (y (239 + a) - m) := by rw [n_negsub, n_sub hmy]
    have f1 : ∀ z, q_u y (239 + a) z (214 + t) = y (214 + t) := fun z => q_u_ne (by omega)
    have f2 : ∀ z w, q_u (q_u y (239 + a) z) (214 + t) w 10 = y 10 := fun z w => by rw [q_u_ne (by omega), q_u_ne (by omega)]
    have f3 : ∀ z w u, q_u (q_u (q_u y (239 + a) z) (214 + t) w) 10 u (239 + a) = z := fun z w u => by rw [q_u_ne (by omega), q_u_ne (by omega), q_u_eq]
    simp only []
    rw [q_aAt (by omega) (by omega), hng, q_bind, q_put (by omega), q_aAt (by omega) (by omega), f1, n_add, q_bind, q_put (by omega), q_zk, f2, n_add, q_zu, q_vAt (by omega) (by omega), q_bind, q_zk, f3]
    rfl
  · unfold q_rc; rw [q_u_ne (by omega), q_u_ne (by omega), q_u_ne (by omega)]
  · unfold q_rc; rw [q_u_ne (by omega), q_u_ne (by omega), q_u_ne (by omega)]
theorem p1_clear (hF : 3000 ≤ F) (h : r_rel B y q) (hB : B + 20000 ≤ 1000000000) {a : Nat} (ha : 8 ≤ a ∧ a ≤ 25) : ∃ q', f_X3_clearHeap F q (nI a) = some (.inr (nI (q_sum (fun v => y (239 + v)) a), q')) ∧ r_rel (B + 20000) (q_u (q_cl y a) 11 (y 11 + q_sum (fun v => y (239 + v)) a)) q' := by
  obtain ⟨sv, k1, k2⟩ := r_keep (F := F) h.1.1 h.2.1 (r_sv0 h.2.2.1)
  have hI := h.1.1
  have hI' := q_cl_I (w := y 11 + q_sum (fun v => y (239 + v)) a) hI hB ha
  have hc0 := q_sum_0 (f := fun v => y (239 + v)) (n := 8) (fun v hv => ((hI.2.2.2.2.2.2.2.2.2.2.2.2.2.1 v (by omega)).2.2.2 hv).2.1)
  have key := q1_clL (F := F) (y := y) ha.2 (q.2.1, sv, q.2.2.2) F 8 (by omega) ha.1 (by omega)
  rw [hc0, q_cl_8] at key
  have e11 : q_cl y a 11 = y 11 := if_neg (by omega)
  refine ⟨(q_z (q_u (q_cl y a) 11 (y 11 + q_sum (fun v => y (239 + v)) a)), q.2.1, sv, q.2.2.2), ?_, r_fin h k2 hI' ?_ ?_ q.2.1⟩
  · unfold f_X3_clearHeap
    simp only [q_let, n_l0, n_l1, n_l2, n_l3, n_l4, n_l5, n_l6, n_l7, n_l8, n_l9, n_l10, n_l11, n_l12, n_l13, n_l14, n_l15, n_l16, n_l17, n_l18, n_l19, n_l20, n_l21, n_l22, n_l23, n_l24, n_l25, n_l30, n_l31, n_l33, n_l48, n_l49, n_l57, n_l60, n_l100, n_l114, n_l115, n_l126, n_l200, n_l214, n_l239, n_l264, n_l294, n_l400, n_l1000, n_l1470, n_l5000, n_l1000000, n_o, n_nM]
    rw [r_in1 (by omega) ha.1 ha.2, q_bind, if_neg r_n10, k1, q_bind, key, q_bind]
    simp only [q_zk, e11, n_add, q_zu]
  · rw [q_u_ne (by omega)]; exact if_neg (by omega)
  · rw [q_u_ne (by omega)]; exact if_neg (by omega)
theorem p1_cover (h : r_rel B y q) (hB : B + 20000 ≤ 1000000000) {b : Nat} (hb : b ≤ 1) : ∃ q', f_X3_cover F q (nI b) = some (nI (y 9), q') ∧ r_rel (B + 20000) (q_u y 9 b) q' := by
  obtain ⟨sv, k1, k2⟩ := r_keep (F := F) h.1.1 h.2.1 (r_sv0 h.2.2.1)
  have hI' : q_I (B + 20000) (q_u y 9 b) := q_set_I h.1.1 (by omega) hB (by omega)
  have h9 := h.1.1.2.2.2.2.2.2.2.2.2.1
  have hbb : b = 0 ∨ b = 1 := by omega
  refine ⟨(q_z (q_u y 9 b), q.2.1, sv, q.2.2.2), ?_, r_fin h k2 hI' (q_u_ne (by omega)) (q_u_ne (by omega)) q.2.1⟩
  unfold f_X3_cover
  simp only [n_l0, n_l1, n_l2, n_l3, n_l4, n_l5, n_l6, n_l7, n_l8, n_l9, n_l10, n_l11, n_l12, n_l13, n_l14, n_l15, n_l16, n_l17, n_l18, n_l19, n_l20, n_l21, n_l22, n_l23, n_l24, n_l25, n_l30, n_l31, n_l33, n_l48, n_l49, n_l57, n_l60, n_l100, n_l114, n_l115, n_l126, n_l200, n_l214, n_l239, n_l264, n_l294, n_l400, n_l1000, n_l1470, n_l5000, n_l1000000, n_o, n_nM, q_let, k1, q_bind]
  simp (disch := first | omega | assumption) only [q_zk, n_eq, q_zu]
  simp only [q_fif hbb]
  rcases (show y 9 = 0 ∨ y 9 = 1 by omega) with e | e
  · rw [if_pos e, e]
  · rw [if_neg (by omega), e]
theorem p1_pass (hF : 3000 ≤ F) (h : r_rel B y q) (hB : B + 20000 ≤ 1000000000) {w : Nat} (hw : w ≤ 2) (h6 : y 6 < 1000) : ∃ q', f_X3_pass F q (nI w) = some (.inr (nI (q_day y w).1, q')) ∧ r_rel (B + 20000) (q_day y w).2 q' := by
  obtain ⟨sv, k1, k2⟩ := r_keep (F := F) h.1.1 h.2.1 (r_sv0 h.2.2.1)
  have hR' := r_day_I (w := w) h.1 (by omega)
  have hI' := q_I_mono hR'.1 (show B + 63 ≤ B + 20000 by omega) hB
  refine ⟨(q_z (q_day y w).2, q.2.1, sv, q.2.2.2), ?_, ⟨hI', hR'.2⟩, rfl, k2, h.2.2.2⟩
  unfold f_X3_pass
  simp only [q_let, n_l0, n_l1, n_l2, n_l3, n_l4, n_l5, n_l6, n_l7, n_l8, n_l9, n_l10, n_l11, n_l12, n_l13, n_l14, n_l15, n_l16, n_l17, n_l18, n_l19, n_l20, n_l21, n_l22, n_l23, n_l24, n_l25, n_l30, n_l31, n_l33, n_l48, n_l49, n_l57, n_l60, n_l100, n_l114, n_l115, n_l126, n_l200, n_l214, n_l239, n_l264, n_l294, n_l400, n_l1000, n_l1470, n_l5000, n_l1000000, n_o, n_nM, h.2.1]
  have hlt := n_lt (a := y 6) (b := 1000) (by omega) (by omega)
  rw [r_in1 (by omega) (by omega) hw, q_bind, if_neg r_n10]
  simp only [q_zk, hlt]
  rw [if_pos h6, k1, q_bind]
  simp only []
  rw [q1_day hF h.1.1 (by omega) hw, q_bind]
theorem p1_course (hF : 3000 ≤ F) (h : r_rel B y q) (hB : B + 20000 ≤ 1000000000) {a : Nat} (ha : 8 ≤ a ∧ a ≤ q_lo y) (hd : q_dry y = 1) (ht : q_top y (y 2) < y 0) (hg : ¬ (0 < y 2 ∧ q_g0 y (y 2 - 1) < q_pl y (y 2 - 1))) : ∃ q', f_X3_course F q (nI a) = some (.inr (nI (y 2), q')) ∧ r_rel (B + 20000) (q_bg y a) q' := by
  obtain ⟨sv, k1, k2⟩ := r_keep (F := F) h.1.1 h.2.1 (r_sv0 h.2.2.1)
  have hI := h.1.1
  have h6 := q_lo_le hI
  have h2 := h.1.2.2
  have h0 := h.1.2.1
  have hge := r_top_ge hI
  have hI' := q_I_mono (q_bg_I hI ⟨ha.1, by omega⟩ (by omega)) (show B ≤ B + 20000 by omega) hB
  have e6 : q_bg y a 2 = y 2 + 1 := q_u_eq
  have e0 : q_bg y a 0 = y 0 := q_bg_o (by omega) (by omega) (by omega)
  refine ⟨(q_z (q_bg y a), q.2.1, sv, q.2.2.2), ?_, ⟨hI', by rw [e0]; exact h0, by rw [e6]; omega⟩, rfl, k2, h.2.2.2⟩
  unfold f_X3_course
  simp only [q_let, n_l0, n_l1, n_l2, n_l3, n_l4, n_l5, n_l6, n_l7, n_l8, n_l9, n_l10, n_l11, n_l12, n_l13, n_l14, n_l15, n_l16, n_l17, n_l18, n_l19, n_l20, n_l21, n_l22, n_l23, n_l24, n_l25, n_l30, n_l31, n_l33, n_l48, n_l49, n_l57, n_l60, n_l100, n_l114, n_l115, n_l126, n_l200, n_l214, n_l239, n_l264, n_l294, n_l400, n_l1000, n_l1470, n_l5000, n_l1000000, n_o, n_nM, h.2.1]
  have hle := n_le (a := a) (b := q_lo y) (by omega) (by omega)
  rw [r_len ha.1 (by omega), q_bind, if_neg r_n10, q1_dry hI, q_bind, hd, if_neg r_n10, q1_up hF hI, if_pos ⟨ht, by omega, hg⟩, q_bind, if_neg r_n10, q1_lo hI, q_bind]
  simp only [hle]
  rw [if_pos ha.2, k1, q_bind]
  simp only []
  rw [q1_bg hI (by omega), q_bind]
  simp only [q_zk, e6]
  rw [n_sub (show 1 ≤ y 2 + 1 by omega), Nat.add_sub_cancel]
theorem p1_mend (h : r_rel B y q) (hB : B + 20000 ≤ 1000000000) {c p : Nat} (hd : q_dry y = 1) (hc : c < y 2) (hp : p < q_pl y c) (hb : q_b (y (114 + c)) p = 0) (hs : 0 < y (214 + y (14 + c))) (h7 : 3 ≤ y 7) : ∃ q', f_X3_mend F q (nI c) (nI p) = some (.inr (nI (y 7 - 3), q')) ∧ r_rel (B + 20000) (q_ly y c p 3) q' := by
  obtain ⟨sv, k1, k2⟩ := r_keep (F := F) h.1.1 h.2.1 (r_sv0 h.2.2.1)
  have hI := h.1.1
  have h2 := h.1.2.2
  have h5 := q_pl_le (c := c) hI.2.1.2
  have hl := hI.2.2.2.2.2.2.2.2.2.2.2.2.1 c hc
  have hI' := q_I_mono (q_ly_I (x := 3) hI hc hp hb) (show B ≤ B + 20000 by omega) hB
  refine ⟨(q_z (q_ly y c p 3), q.2.1, sv, q.2.2.2), ?_, r_fin h k2 hI' (q_ly_o (by omega) (by omega) (by omega)) (q_ly_o (by omega) (by omega) (by omega)) q.2.1⟩
  have e7 : q_ly y c p 3 7 = y 7 - 3 := q_u_eq
  unfold f_X3_mend
  simp only [q_let, n_l0, n_l1, n_l2, n_l3, n_l4, n_l5, n_l6, n_l7, n_l8, n_l9, n_l10, n_l11, n_l12, n_l13, n_l14, n_l15, n_l16, n_l17, n_l18, n_l19, n_l20, n_l21, n_l22, n_l23, n_l24, n_l25, n_l30, n_l31, n_l33, n_l48, n_l49, n_l57, n_l60, n_l100, n_l114, n_l115, n_l126, n_l200, n_l214, n_l239, n_l264, n_l294, n_l400, n_l1000, n_l1470, n_l5000, n_l1000000, n_o, n_nM, h.2.1]
  rw [q1_hp hI (by omega) (by omega), if_pos ⟨hc, hp⟩, q_bind, if_neg r_n10, q1_dry hI, q_bind, hd, if_neg r_n10, q1_cm hI hc hp hb, if_pos ⟨hs, h7⟩, q_bind, if_neg r_n10, k1, q_bind]
  simp only []
  rw [q1_ly hI hc hp hb hs h7, q_bind]
  simp only [q_zk, e7]
end RC
