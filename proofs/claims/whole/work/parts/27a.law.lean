/-! the law: every script's answers agree -/
section RR
variable {B F : Nat} {y : Nat → Nat} {q : d_C} {M : d_M}
theorem q_ite {p : Prop} [Decidable p] {a b : Option Int32} (h1 : p → a = some 1) (h2 : ¬ p → b = some 1) : (if p then a else b) = some 1 := by
  by_cases h : p
  · rw [if_pos h]; exact h1 h
  · rw [if_neg h]; exact h2 h
theorem q_cmp (a : Int64) : lg_cmp a a = 0 := by
  unfold lg_cmp
  rw [if_neg (Int64.lt_irrefl), if_pos rfl]
theorem q_thE (F : Nat) (M : d_M) : f_X4_thrown F M = some (m_thrown M) := Eq.symm (Eq.symm (Eq.refl _))
theorem q_R_B (h : q_rel B y q M) (hB : B + 20000 ≤ 1000000000) : q_R (B + 20000) q M := ⟨y, q_rel_c (q := q) (M := M) h (by omega) hB ⟨rfl, rfl⟩ ⟨rfl, rfl, rfl, rfl, rfl⟩⟩
theorem q_go_K {fL : Option (Int32 × d_C × Int64)} {fM : Option (Int32 × d_M)} (K : d_C → d_M → Int64 → Option Int32) (g : q_go B fL fM) (hK : ∀ q' M' v', q_R (B + 20000) q' M' → K q' M' v' = some 1) :
    (fL.bind fun x4 => fM.bind fun x7 => f_let x7.2 fun M9 => (f_X4_thrown F M9).bind fun x11 => (if x11 = x4.1 then (if x4.1 = 0 then (if (lg_cmp x4.2.2 x7.1.toInt64) = 0 then K x4.2.1 M9 x4.2.2 else some 0) else K x4.2.1 M9 x4.2.2) else some 0)) = some 1 := by
  obtain ⟨k, q', v', b, M', e1, e2, e3, e4, e5⟩ := g
  rw [e1, q_bind, e2, q_bind, q_let, q_thE, q_bind]
  simp only []
  rw [if_pos e3]
  by_cases e : k = 0
  · rw [if_pos e, e4 e, if_pos (q_cmp _)]
    exact hK _ _ _ e5
  · rw [if_neg e]
    exact hK _ _ _ e5
theorem q_li_K {fL : Option (Int32 × d_C × Int64)} {fM : Option (Int32 × d_M)} (K : d_C → d_M → Int64 → Option Int32) (g : ∃ k v' b M', fL = some (k, q, v') ∧ fM = some (b, M') ∧ m_thrown M' = k ∧ (k = 0 → v' = (if b = 0 then 0 else 1)) ∧ q_R (B + 20000) q M') (hK : ∀ q' M' v', q_R (B + 20000) q' M' → K q' M' v' = some 1) :
    (fL.bind fun x4 => fM.bind fun x7 => f_let x7.2 fun M9 => (f_X4_thrown F M9).bind fun x11 => (if x11 = x4.1 then (if x4.1 = 0 then (if x7.1 = 0 then (if (lg_cmp x4.2.2 ((0 : Int64))) = 0 then K x4.2.1 M9 x4.2.2 else some 0) else (if (lg_cmp x4.2.2 ((1 : Int64))) = 0 then K x4.2.1 M9 x4.2.2 else some 0)) else K x4.2.1 M9 x4.2.2) else some 0)) = some 1 := by
  obtain ⟨k, v', b, M', e1, e2, e3, e4, e5⟩ := g
  rw [e1, q_bind, e2, q_bind, q_let, q_thE, q_bind]
  simp only []
  rw [if_pos e3]
  by_cases e : k = 0
  · rw [if_pos e]
    have e4' := e4 e
    by_cases e0 : b = 0
    · rw [if_pos e0] at e4' ⊢
      rw [e4', if_pos (q_cmp _)]
      exact hK _ _ _ e5
    · rw [if_neg e0] at e4' ⊢
      rw [e4', if_pos (q_cmp _)]
      exact hK _ _ _ e5
  · rw [if_neg e]
    exact hK _ _ _ e5
theorem q_s_K {fL : Option (Int32 × d_C)} {fM : Option (Int32 × d_M)} (K : d_C → d_M → Option Int32) (g : ∃ x q' M', fL = some (x, q') ∧ fM = some (x, M') ∧ q_R (B + 20000) q' M') (hK : ∀ q' M', q_R (B + 20000) q' M' → K q' M' = some 1) :
    (fL.bind fun x4 => f_let x4.2 fun q5 => fM.bind fun x7 => f_let x7.2 fun M9 => (if x4.1 = x7.1 then K q5 M9 else some 0)) = some 1 := by
  obtain ⟨x, q', M', e1, e2, e5⟩ := g
  rw [e1, q_bind, q_let, e2, q_bind, q_let, if_pos rfl]
  exact hK _ _ e5
theorem q_d_K {fL : Option (Int64 × d_C)} {fM : Option (Int64 × d_M)} (K : d_C → d_M → Option Int32) (g : ∃ x q' M', fL = some (x, q') ∧ fM = some (x, M') ∧ q_R (B + 20000) q' M') (hK : ∀ q' M', q_R (B + 20000) q' M' → K q' M' = some 1) :
    (fL.bind fun x4 => f_let x4.2 fun q5 => fM.bind fun x7 => f_let x7.2 fun M9 => (if (lg_cmp x4.1 x7.1) = 0 then K q5 M9 else some 0)) = some 1 := by
  obtain ⟨x, q', M', e1, e2, e5⟩ := g
  rw [e1, q_bind, q_let, e2, q_bind, q_let, if_pos (q_cmp _)]
  exact hK _ _ e5
theorem q_n_K {fL : Option Int32} {fM : Option (Int32 × d_M)} (K : d_C → d_M → Option Int32) (g : ∃ x M', fL = some x ∧ fM = some (x, M') ∧ q_R (B + 20000) q M') (hK : ∀ q' M', q_R (B + 20000) q' M' → K q' M' = some 1) :
    (fL.bind fun x4 => fM.bind fun x7 => f_let x7.2 fun M9 => (if x4 = x7.1 then K q M9 else some 0)) = some 1 := by
  obtain ⟨x, M', e1, e2, e5⟩ := g
  rw [e1, q_bind, e2, q_bind, q_let, if_pos rfl]
  exact hK _ _ e5
theorem q_m_K {fL : Option UInt64} {fM : Option (UInt64 × d_M)} (K : d_C → d_M → Option Int32) (g : ∃ x M', fL = some x ∧ fM = some (x, M') ∧ q_R (B + 20000) q M') (hK : ∀ q' M', q_R (B + 20000) q' M' → K q' M' = some 1) :
    (fL.bind fun x4 => fM.bind fun x7 => f_let x7.2 fun M9 => (if (Op.cmpValue (FP.dcmp x4 x7.1) .l) = 0 then K q M9 else (if (Op.cmpValue (FP.dcmp x4 x4) .l) = 0 then some 0 else (if (Op.cmpValue (FP.dcmp x7.1 x7.1) .l) = 0 then some 0 else K q M9)))) = some 1 := by
  obtain ⟨x, M', e1, e2, e5⟩ := g
  rw [e1, q_bind, e2, q_bind, q_let]
  simp only []
  by_cases e : Op.cmpValue (FP.dcmp x x) .l = 0
  · rw [if_pos e]; exact hK _ _ e5
  · rw [if_neg e, if_neg e, if_neg e]; exact hK _ _ e5
theorem q_c_K {x1 : Int32} {fL fL' : Option (Int32 × d_C)} {fM fM' : Option (Int32 × d_M)} (K : d_C → d_M → Option Int32) (g : ∃ x q' M', fL = some (x, q') ∧ fM = some (x, M') ∧ q_R (B + 20000) q' M') (g' : ∃ x q' M', fL' = some (x, q') ∧ fM' = some (x, M') ∧ q_R (B + 20000) q' M') (hK : ∀ q' M', q_R (B + 20000) q' M' → K q' M' = some 1) :
    (if x1 = 0 then fL.bind fun x4 => f_let x4.2 fun q5 => (if x1 = 0 then fM.bind fun x7 => f_let x7.2 fun M9 => (if x4.1 = x7.1 then K q5 M9 else some 0) else fM'.bind fun x7 => f_let x7.2 fun M9 => (if x4.1 = x7.1 then K q5 M9 else some 0))
      else fL'.bind fun x4 => f_let x4.2 fun q5 => (if x1 = 0 then fM.bind fun x7 => f_let x7.2 fun M9 => (if x4.1 = x7.1 then K q5 M9 else some 0) else fM'.bind fun x7 => f_let x7.2 fun M9 => (if x4.1 = x7.1 then K q5 M9 else some 0))) = some 1 := by
  by_cases e : x1 = 0
  · simp only [if_pos e]
    exact q_s_K K g hK
  · simp only [if_neg e]
    exact q_s_K K g' hK

theorem q_law (hF : 3000 ≤ F) {L : Nat} (hL : L ≤ 2048) (xs : Nat → Int32) : ∀ (n k B : Nat) (q : d_C) (M : d_M) (v : Int64), q_R B q M → B + n * 20000 ≤ 1000000000 → k ≤ L → L < k + 4 * n → f_law_L F L xs n (nI k) q M v = some 1 := by
  intro n
  induction n with
  | zero => intro k B q M v hR hB hk hn; omega
  | succ n ih =>
    intro k B q M v hR hB hk hn
    obtain ⟨y, h⟩ := hR
    have hB' : B + 20000 ≤ 1000000000 := by omega
    rw [f_law_L]
    have hst : ((Int32.ofNat L) - ((4 : Int32)) < nI k) = (L < k + 4) := by
      show (nI L - nI 4 < nI k) = _
      by_cases e4 : 4 ≤ L
      · rw [n_sub e4, n_lt (by omega) (by omega)]
        apply propext; omega
      · have hd : ∀ L, L < 4 → ∀ k, k < 4 → nI L - nI 4 < nI k := by decide +kernel
        apply propext
        exact ⟨fun _ => by omega, fun _ => hd L (by omega) k (by omega)⟩
    simp only [hst]
    by_cases es : L < k + 4
    · rw [if_pos es]
    · have e4 : nI k + (4 : Int32) = nI (k + 4) := n_add k 4
      have g1 : ∀ (K : Option Int32), f_grd (nI k + ((1 : Int32))) L K = K := fun K => by
        rw [show nI k + ((1 : Int32)) = nI (k + 1) from n_add k 1]; exact q_g (by omega) (by omega)
      have g2 : ∀ (K : Option Int32), f_grd (nI k + ((2 : Int32))) L K = K := fun K => by
        rw [show nI k + ((2 : Int32)) = nI (k + 2) from n_add k 2]; exact q_g (by omega) (by omega)
      have g3 : ∀ (K : Option Int32), f_grd (nI k + ((3 : Int32))) L K = K := fun K => by
        rw [show nI k + ((3 : Int32)) = nI (k + 3) from n_add k 3]; exact q_g (by omega) (by omega)
      have hr : ∀ q' M' v', q_R (B + 20000) q' M' → f_law_L F L xs n (nI (k + 4)) q' M' v' = some 1 := fun q' M' v' r => ih (k + 4) (B + 20000) q' M' v' r (by omega) (by omega) (by omega)
      rw [if_neg es, q_g (show k < L by omega) (by omega)]
      refine q_ite (fun _ => ?_) (fun _ => ?_)
      · simp only [g1, g2, g3, e4]
        exact q_go_K (fun q' M' v' => f_law_L F L xs n (nI (k + 4)) q' M' v') (q_op_begin hF h hB' v _ _) hr
      refine q_ite (fun _ => ?_) (fun _ => ?_)
      · simp only [g1, g2, g3, e4]
        exact q_go_K (fun q' M' v' => f_law_L F L xs n (nI (k + 4)) q' M' v') (q_op_set hF h hB' v _ _) hr
      refine q_ite (fun _ => ?_) (fun _ => ?_)
      · simp only [g1, g2, g3, e4]
        exact q_go_K (fun q' M' v' => f_law_L F L xs n (nI (k + 4)) q' M' v') (q_op_buy hF h hB' v _ _ _) hr
      refine q_ite (fun _ => ?_) (fun _ => ?_)
      · simp only [g1, g2, g3, e4]
        exact q_go_K (fun q' M' v' => f_law_L F L xs n (nI (k + 4)) q' M' v') (q_op_recut hF h hB' v _ _ _) hr
      refine q_ite (fun _ => ?_) (fun _ => ?_)
      · simp only [g1, g2, g3, e4]
        exact q_go_K (fun q' M' v' => f_law_L F L xs n (nI (k + 4)) q' M' v') (q_op_clearHeap hF h hB' v _) hr
      refine q_ite (fun _ => ?_) (fun _ => ?_)
      · simp only [g1, g2, g3, e4]
        exact q_go_K (fun q' M' v' => f_law_L F L xs n (nI (k + 4)) q' M' v') (q_op_course hF h hB' v _) hr
      refine q_ite (fun _ => ?_) (fun _ => ?_)
      · simp only [g1, g2, g3, e4]
        exact q_go_K (fun q' M' v' => f_law_L F L xs n (nI (k + 4)) q' M' v') (q_op_lay hF h hB' v _) hr
      refine q_ite (fun _ => ?_) (fun _ => ?_)
      · simp only [g1, g2, g3, e4]
        exact q_go_K (fun q' M' v' => f_law_L F L xs n (nI (k + 4)) q' M' v') (q_op_mend hF h hB' v _ _) hr
      refine q_ite (fun _ => ?_) (fun _ => ?_)
      · simp only [g1, g2, g3, e4]
        exact q_c_K (fun q' M' => f_law_L F L xs n (nI (k + 4)) q' M' v) (q_op_cover hF h hB' (b := 0) (by omega)) (q_op_cover hF h hB' (b := 1) (by omega)) (fun q' M' r => hr q' M' v r)
      refine q_ite (fun _ => ?_) (fun _ => ?_)
      · simp only [g1, g2, g3, e4]
        exact q_go_K (fun q' M' v' => f_law_L F L xs n (nI (k + 4)) q' M' v') (q_op_pass hF h hB' v _) hr
      refine q_ite (fun _ => ?_) (fun _ => ?_)
      · simp only [g1, g2, g3, e4]
        exact q_go_K (fun q' M' v' => f_law_L F L xs n (nI (k + 4)) q' M' v') (q_op_append hF h hB' v _) hr
      refine q_ite (fun _ => ?_) (fun _ => ?_)
      · simp only [g1, g2, g3, e4]
        exact q_s_K (fun q' M' => f_law_L F L xs n (nI (k + 4)) q' M' v) (q_op_clb h hB') (fun q' M' r => hr q' M' v r)
      refine q_ite (fun _ => ?_) (fun _ => ?_)
      · simp only [g1, g2, g3, e4]
        exact q_n_K (fun q' M' => f_law_L F L xs n (nI (k + 4)) q' M' v) (q_op_fe hF h hB') (fun q' M' r => hr q' M' v r)
      refine q_ite (fun _ => ?_) (fun _ => ?_)
      · simp only [g1, g2, g3, e4]
        exact q_go_K (fun q' M' v' => f_law_L F L xs n (nI (k + 4)) q' M' v') (q_op_work hF h hB' v) hr
      refine q_ite (fun _ => ?_) (fun _ => ?_)
      · simp only [g1, g2, g3, e4]
        exact q_go_K (fun q' M' v' => f_law_L F L xs n (nI (k + 4)) q' M' v') (q_op_undo hF h hB' v) hr
      refine q_ite (fun _ => ?_) (fun _ => ?_)
      · simp only [g1, g2, g3, e4]
        exact q_go_K (fun q' M' v' => f_law_L F L xs n (nI (k + 4)) q' M' v') (q_op_courseOf hF h hB' v _ _) hr
      refine q_ite (fun _ => ?_) (fun _ => ?_)
      · simp only [g1, g2, g3, e4]
        exact q_li_K (fun q' M' v' => f_law_L F L xs n (nI (k + 4)) q' M' v') (q_op_lies hF h hB' v _ _) hr
      refine q_ite (fun _ => ?_) (fun _ => ?_)
      · simp only [g1, g2, g3, e4]
        exact q_go_K (fun q' M' v' => f_law_L F L xs n (nI (k + 4)) q' M' v') (q_op_slates hF h hB' v _ _) hr
      refine q_ite (fun _ => ?_) (fun _ => ?_)
      · simp only [g1, g2, g3, e4]
        exact q_go_K (fun q' M' v' => f_law_L F L xs n (nI (k + 4)) q' M' v') (q_op_count hF h hB' v _) hr
      refine q_ite (fun _ => ?_) (fun _ => ?_)
      · simp only [g1, g2, g3, e4]
        exact q_go_K (fun q' M' v' => f_law_L F L xs n (nI (k + 4)) q' M' v') (q_op_setting hF h hB' v _) hr
      refine q_ite (fun _ => ?_) (fun _ => ?_)
      · simp only [g1, g2, g3, e4]
        exact q_go_K (fun q' M' v' => f_law_L F L xs n (nI (k + 4)) q' M' v') (q_op_toTop hF h hB' v _ _) hr
      refine q_ite (fun _ => ?_) (fun _ => ?_)
      · simp only [g1, g2, g3, e4]
        exact q_go_K (fun q' M' v' => f_law_L F L xs n (nI (k + 4)) q' M' v') (q_op_reach hF h hB' v _) hr
      refine q_ite (fun _ => ?_) (fun _ => ?_)
      · simp only [g1, g2, g3, e4]
        exact q_s_K (fun q' M' => f_law_L F L xs n (nI (k + 4)) q' M' v) (q_op_dry hF h hB') (fun q' M' r => hr q' M' v r)
      refine q_ite (fun _ => ?_) (fun _ => ?_)
      · simp only [g1, g2, g3, e4]
        exact q_n_K (fun q' M' => f_law_L F L xs n (nI (k + 4)) q' M' v) (q_op_best hF h hB') (fun q' M' r => hr q' M' v r)
      refine q_ite (fun _ => ?_) (fun _ => ?_)
      · simp only [g1, g2, g3, e4]
        exact q_m_K (fun q' M' => f_law_L F L xs n (nI (k + 4)) q' M' v) (q_op_mean hF h hB') (fun q' M' r => hr q' M' v r)
      refine q_ite (fun _ => ?_) (fun _ => ?_)
      · simp only [g1, g2, g3, e4]
        exact q_d_K (fun q' M' => f_law_L F L xs n (nI (k + 4)) q' M' v) (q_op_digest hF h hB') (fun q' M' r => hr q' M' v r)
      rw [e4]
      exact hr _ _ _ (q_R_B h hB')
end RR
