/-! the start of the law: the classes, the arrays, the statics as the statement gives them -/
theorem a_size3 {n : Nat} (hsz : n < 2 ^ 31) (h : (3 : Int32) = n.toInt32) : n = 3 := by
  have h2 : nI 3 = nI n := h
  exact ((nI_eq (by decide) hsz).mp h2).symm
theorem a_statX {args : Array Value} {s : State} {t : Term} {x0 x1 x2 : Int32} (hlen : (Cond.eq (.length t) (.int 3)).before args s = true) (harr : (Cond.arrayOf t .int).before args s = true) (h0 : (Cond.eq (.elem t (.int 0)) (.int x0)).before args s = true) (h1 : (Cond.eq (.elem t (.int 1)) (.int x1)).before args s = true) (h2 : (Cond.eq (.elem t (.int 2)) (.int x2)).before args s = true) : ∃ a, t.eval args s none [] s = some (.ref a) ∧ va_X a 3 (fun j => if j = 0 then x0 else if j = 1 then x1 else x2) s s.heap ∧ a < s.heap.size := by
  obtain ⟨y, hv, hy⟩ := Cond.eq_one hlen
  obtain ⟨a, cell, ht, ha, hvl⟩ := Term.length_spec hv
  have hsz : cell.slots.size < 2 ^ 31 := by
    simp only [Term.eval, ht, ha, Option.bind_eq_bind, Option.bind_some] at hv
    by_cases hlt : cell.slots.size < 2147483648
    · exact hlt
    · simp [hlt] at hv
  have hy2 : y = .int 3 := (Option.some.inj hy).symm
  have h3 : cell.slots.size = 3 := a_size3 hsz (by rw [hy2] at hvl; exact Value.int.inj hvl)
  obtain ⟨hcell, hkn, -, -⟩ := State.arrayAt?_spec ha
  have hof := (Cond.arrayOf_spec harr ht hcell).1
  have el : ∀ {j x : Int32}, (Cond.eq (.elem t (.int j)) (.int x)).before args s = true → cell.slots[j.toNatClampNeg]? = some (.int x) := by
    intro j x hj
    obtain ⟨y, hv, hy⟩ := Cond.eq_one hj
    obtain ⟨a2, j2, cell2, q1, q2, q3, -, q5⟩ := Term.elem_spec hv
    cases Option.some.inj (q1.symm.trans ht)
    cases Option.some.inj (q3.symm.trans ha)
    have hj2 : j2 = j := by have := Option.some.inj q2; exact (Value.int.inj this).symm
    subst hj2
    rw [q5]; exact hy.symm
  refine ⟨a, ht, ⟨cell, hcell, hof, hkn, h3, fun j hj => ?_⟩, (Array.getElem?_eq_some_iff.mp hcell).1⟩
  rcases (show j = 0 ∨ j = 1 ∨ j = 2 by omega) with rfl | rfl | rfl
  · exact el h0
  · exact el h1
  · exact el h2
theorem va_X_cg {b L : Nat} {xs ys : Nat → Int32} {U : State} {H : Heap} (h : va_X b L xs U H) (e : ∀ j, j < L → xs j = ys j) : va_X b L ys U H := by
  obtain ⟨scr, h1, h2, h3, h4, h5⟩ := h
  exact ⟨scr, h1, h2, h3, h4, fun j hj => by rw [← e j hj]; exact h5 j hj⟩
set_option maxHeartbeats 4000000 in
set_option maxRecDepth 100000 in
theorem a_start {s : State} {b L : Nat} {xs : Nat → Int32} (hts : ∀ w ∈ lw_tbl, w.before #[Value.ref b] s = true) (hX : va_X b L xs s s.heap) (hbl : b < s.heap.size) (hgv : (Jvm.Cond.and given_1 narrow_1).before #[Value.ref b] s = true) : ∃ g : a_G, a_E g s ∧ a_B g = s.heap.size ∧ a_SC g L xs ∧ a_ad g 1002 = b := by
  have hs := flat_of_before _ hgv
  have tb : ∀ {w}, w ∈ tables_1 → w.before #[Value.ref b] s = true := fun h => hts _ (List.mem_append_right _ h)
  obtain ⟨c0, i0, K0⟩ := u_known (C := RX0) (T := TX0) (N := 5) (n := 5) hts (fun w h => a_WS_tbl (in_X0 w h)) (hts _ (a_WS_tbl (a_in1 123 rfl rfl)))
  obtain ⟨c1, i1, K1⟩ := u_known (C := RX1) (T := TX1) (N := 19) (n := 19) hts (fun w h => a_WS_tbl (in_X1 w h)) (hts _ (a_WS_tbl (a_in1 23 rfl rfl)))
  obtain ⟨c2, i2, K2⟩ := u_known (C := RX2) (T := TX2) (N := 3) (n := 3) hts (fun w h => a_WS_tbl (in_X2 w h)) (hts _ (a_WS_tbl (a_in1 103 rfl rfl)))
  obtain ⟨c3, i3, K3⟩ := u_known (C := RX3) (T := TX3) (N := 4) (n := 4) hts (fun w h => a_WS_tbl (in_X3 w h)) (hts _ (a_WS_tbl (a_in1 15 rfl rfl)))
  obtain ⟨t0, k0, p0, f0, g0, j0⟩ := Cond.arrayClass_spec (hts _ (a_WS_tbl (a_in1 101 rfl rfl)))
  obtain ⟨t1, k1, p1, f1, g1, j1⟩ := Cond.arrayClass_spec (hts _ (a_WS_tbl (a_in1 148 rfl rfl)))
  obtain ⟨p3, t3, k3, e3, -, g3, j3, f3⟩ := Cond.arrayOver_spec (n := "SlateRoof$Roof") (tb (by decide +kernel))
  obtain ⟨aL, hL1, hL2, hL3⟩ := a_statX (t := .static "SlateRoof" "LEAST_SETTINGS" "[I") (x0 := 2) (x1 := 1) (x2 := 1) (hs _ (by decide +kernel)) (hs _ (by decide +kernel)) (hs _ (by decide +kernel)) (hs _ (by decide +kernel)) (hs _ (by decide +kernel))
  obtain ⟨aM, hM1, hM2, hM3⟩ := a_statX (t := .static "SlateRoof" "MOST_SETTINGS" "[I") (x0 := 6) (x1 := 60) (x2 := 5) (hs _ (by decide +kernel)) (hs _ (by decide +kernel)) (hs _ (by decide +kernel)) (hs _ (by decide +kernel)) (hs _ (by decide +kernel))
  have hA : ∀ a : Nat, a < s.heap.size → ¬ (fun q : Nat => s.heap.size ≤ q) a := fun a h => Nat.not_le.mpr h
  refine ⟨((fun k => if k = 0 then c0 else if k = 1 then c1 else if k = 2 then c2 else c3, fun k => if k = 0 then i0 else if k = 1 then i1 else if k = 2 then i2 else i3), fun k => if k = 0 then t0 else if k = 1 then t1 else if k = 2 then t0 else t3, fun i => if i < 1000 then s.heap.size + i else if i = 1000 then aL else if i = 1001 then aM else b, s.heap.size, L, xs), ⟨⟨?_, ?_⟩, ?_, Nat.le_refl _, ⟨?_, ?_, ⟨hL3, ?_⟩, ⟨hM3, ?_⟩, ⟨hbl, hX⟩⟩, ?_, ?_⟩, rfl, ⟨rfl, rfl⟩, rfl⟩
  · intro c q hq
    match c, hq with
    | 0, hq => cases hq; exact K0
    | 1, hq => cases hq; exact K1
    | 2, hq => cases hq; exact K2
    | 3, hq => cases hq; exact K3
    | c + 4, hq => simp [a_cl] at hq
  · intro k q hq
    match k, hq with
    | 0, hq => cases hq; exact ⟨fun n z => ⟨fun k h => (by cases h), k0, g0, p0, j0⟩, f0⟩
    | 1, hq => cases hq; exact ⟨fun n z => ⟨fun k h => (by cases h), k1, g1, p1, j1⟩, f1⟩
    | 2, hq => cases hq; exact ⟨fun n z => ⟨fun k h => (by cases h), k0, g0, p0, j0⟩, f0⟩
    | 3, hq => cases hq; exact ⟨fun n z => ⟨fun k h => (by cases h), k3, g3, p3, j3⟩, k3, p3, g3, j3, e3, f3⟩
    | k + 4, hq => simp [a_tys] at hq
  · intro i hi
    show (if i < 1000 then s.heap.size + i else _) = s.heap.size + i
    rw [if_pos hi]
  · exact va_Zref (tb (by decide +kernel)) (tb (by decide +kernel)) hL1 hA
  · exact va_Zref (tb (by decide +kernel)) (tb (by decide +kernel)) hM1 hA
  · exact va_X_cg hL2 (fun j hj => by rcases (show j = 0 ∨ j = 1 ∨ j = 2 by omega) with rfl | rfl | rfl <;> rfl)
  · exact va_X_cg hM2 (fun j hj => by rcases (show j = 0 ∨ j = 1 ∨ j = 2 by omega) with rfl | rfl | rfl <;> rfl)
  · have h9 : ∀ q ∈ a_nest, Cond.methodLinkNest q.1 q.2.1 q.2.2 "SlateRoof" ∈ tables_1 := by decide +kernel
    exact fun q hq => va_Nw.of rfl (tb (h9 q hq))
  · exact va_AO.of (tb (w := .arrayOver (.object "SlateRoof$Roof")) (by decide +kernel))
