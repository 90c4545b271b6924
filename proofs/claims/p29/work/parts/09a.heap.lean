/-! making objects and arrays: while a constructor runs, the heap has as many cells past the base as the world -/
section AZ
variable {p : Program} {l : Launch} {e : Env} {R : Room} {s : State} {m : MethodId} {args : Array Value} {below : List Frame} {meth : Method} {c : Code} {Q : State → Prop} {own : String} {cc : ByteArray} {nL : Nat} {g : a_G} {cells slots : Nat} {sz : Option Nat} {pc pc' : Nat} {ls : List (Nat × Value)} {st : List Value} {h : List va_E}
theorem a_grow {H H1 : Heap} {e9 : va_E} (hP : a_HP g h H) (hlen : h.length < 1000) (o1 : ∀ q, q < H.size → H1[q]? = H[q]?) (hn : va_at (a_D g) a_cl (a_ad g h.length, a_ce g e9) H1) : a_HP g (h ++ [e9]) H1 := by
  refine ⟨by rw [List.length_append]; exact hlen, ?_⟩
  rw [a_cw_app]
  refine (hP.2.kept (fun k x hx => o1 x.1 ((hP.2 k x hx).lt))).app (fun k x hx => ?_)
  have hz : k < 1 := (List.getElem?_eq_some_iff.mp hx).1
  rw [show k = 0 by omega] at hx
  cases hx
  exact hn
theorem a_new {ci idx N : Nat} {C : String} {T : u_T} {ty : Nat → FieldType} (fs : List Value) (hc : a_cl[ci]? = some (C, T, N)) (hin : ∀ w ∈ u_ws C T N, w ∈ a_WS) (hty : ∀ k, k < N → parseFieldDescriptor (T k).2.2.1 = some (ty k)) (hw : ∀ w ∈ [Cond.classLink own idx C, .instantiable C N, .initialized C], w ∈ a_WS) (hfs : ∀ j, j < N → defaultValue (ty j) = vp_V (fs.map (a_cv g)) j) (hlen : h.length < 1000) (hd : decode cc pc = .ok (.new idx, 3)) (hp : pc + 3 = pc') (hcells : cells + 1 ≤ R.cells) (hslots : slots + N ≤ R.slots)
    (kk : a_W p l e R s m args below meth c Q own cc nL g (cells + 1) (slots + N) (some (h.length + 1)) pc' ls (.ref h.length :: st) (h ++ [.inr (ci, fs)])) : a_W p l e R s m args below meth c Q own cc nL g cells slots (some h.length) pc ls st h := by
  intro F H locs lsC hP hS hz hl
  subst hp
  obtain ⟨hx, hb, -, hown, hts, -, hE⟩ := id F
  have hKn := hE.1.1 ci _ hc
  have hsz := hz _ rfl
  have had : a_ad g h.length = H.size := by rw [hE.2.1 _ hlen, hsz]
  refine W.newcK hx hb hown (hts _ (hw _ (by simp))) (hts _ (hw _ (by simp))) (hts _ (hw _ (by simp))) rfl hd hcells hslots hKn.2.1 rfl fun H1 kC hkC e1 z1 o1 => ?_
  have k1 := kk F H1 locs lsC (a_grow hP hlen o1 (by rw [had]; exact ⟨_, hc, (u_born ty hts hin hKn hkC e1 hty).to hfs⟩)) ⟨Nat.le_trans hS.1 (by omega), fun x h1 h2 => (o1 x (Nat.lt_of_lt_of_le h1 hS.1)).trans (hS.2.1 x h1 h2), hS.2.2⟩ (fun n hn => by cases hn; rw [z1, hsz]; omega) hl
  have e9 : (Value.ref h.length :: st).map (a_cv g) = .ref H.size :: st.map (a_cv g) := by rw [List.map_cons]; show Value.ref (a_ad g h.length) :: _ = _; rw [had]
  rw [e9] at k1
  exact k1
theorem a_newarr {kd N : Nat} {atype : ArrayType} {a0 : vp_A} {n : Int32} (hkd : (a_tys g)[kd]? = some (a_ct g kd, newarray.typeOf atype)) (hty : newarray.typeOf atype = .int ∨ newarray.typeOf atype = .char ∨ newarray.typeOf atype = .long) (ha : ∀ cA : ClassId, vp_cell cA (a_ca g a0) = arrV cA N (fun _ => defaultValue (newarray.typeOf atype))) (hw : Cond.arrayClass (newarray.typeOf atype) ∈ a_WS) (hn : ¬ n < 0) (hN : n.toNatClampNeg = N) (hbytes : N * componentBytes (newarray.typeOf atype) ≤ 536870912) (hlen : h.length < 1000) (hd : decode cc pc = .ok (.newarray atype, 2)) (hp : pc + 2 = pc') (hcells : cells + 1 ≤ R.cells) (hslots : slots + N ≤ R.slots)
    (kk : a_W p l e R s m args below meth c Q own cc nL g (cells + 1) (slots + N) (some (h.length + 1)) pc' ls (.ref h.length :: st) (h ++ [.inl (kd, a0)])) : a_W p l e R s m args below meth c Q own cc nL g cells slots (some h.length) pc ls (.int n :: st) h := by
  intro F H locs lsC hP hS hz hl
  subst hp
  obtain ⟨hx, hb, -, hown, hts, -, hE⟩ := id F
  have hsz := hz _ rfl
  have had : a_ad g h.length = H.size := by rw [hE.2.1 _ hlen, hsz]
  have hRA : va_RA s (a_ct g kd) (newarray.typeOf atype) := (hE.1.2 kd _ hkd).2
  have hfc : s.vm.findClass ("[" ++ (newarray.typeOf atype).toString) = some (a_ct g kd) := by
    rcases hty with q | q | q <;> (rw [q] at hRA ⊢; exact hRA)
  subst hN
  refine va_newaK hx hb (hts _ hw) rfl hd rfl hn rfl hbytes hcells hslots rfl fun H1 cA e1 z1 o1 hAr hNm => ?_
  have hcA : cA = a_ct g kd := Option.some.inj (hNm.symm.trans hfc)
  subst hcA
  have k1 := kk F H1 locs lsC (a_grow hP hlen o1 (by rw [had]; show H1[H.size]? = some (vp_cell _ _); rw [ha]; exact e1)) ⟨Nat.le_trans hS.1 (by omega), fun x h1 h2 => (o1 x (Nat.lt_of_lt_of_le h1 hS.1)).trans (hS.2.1 x h1 h2), hS.2.2⟩ (fun n hn => by cases hn; rw [z1, hsz]; omega) hl
  have e9 : (Value.ref h.length :: st).map (a_cv g) = .ref H.size :: st.map (a_cv g) := by rw [List.map_cons]; show Value.ref (a_ad g h.length) :: _ = _; rw [had]
  rw [e9] at k1
  exact k1
theorem a_anew {idx N : Nat} {n : Int32} (hw : Cond.classLink own idx "SlateRoof$Roof" ∈ a_WS) (hn : ¬ n < 0) (hN : n.toNatClampNeg = N) (hbytes : N * 4 ≤ 536870912) (hlen : h.length < 1000) (hd : decode cc pc = .ok (.anewarray idx, 3)) (hp : pc + 3 = pc') (hcells : cells + 1 ≤ R.cells) (hslots : slots + N ≤ R.slots)
    (kk : a_W p l e R s m args below meth c Q own cc nL g (cells + 1) (slots + N) (some (h.length + 1)) pc' ls (.ref h.length :: st) (h ++ [.inl (3, N, .inr (.inr (.inr (.inr (fun _ => none)))))])) : a_W p l e R s m args below meth c Q own cc nL g cells slots (some h.length) pc ls (.int n :: st) h := by
  intro F H locs lsC hP hS hz hl
  subst hp
  obtain ⟨hx, hb, -, hown, hts, -, hE⟩ := id F
  have hsz := hz _ rfl
  have had : a_ad g h.length = H.size := by rw [hE.2.1 _ hlen, hsz]
  obtain ⟨kA, comp, q1, q2, q3, q4⟩ := (hE.1.2 3 _ rfl).2
  subst hN
  refine W.anew hx hb hown (hts _ hw) (va_AO.use hE.2.2.2.2.2) rfl hd rfl hn hbytes hcells hslots fun cA kA comp f1 f2 f3 f4 => ?_
  have hcA : cA = a_ct g 3 := Option.some.inj (f1.symm.trans q4)
  subst hcA
  generalize hH1 : H.push ({ cls := a_ct g 3, slots := Array.replicate n.toNatClampNeg .null, vm := .none } : Cell) = H1
  have z1 : H1.size = H.size + 1 := by rw [← hH1, Array.size_push]
  have e1 : H1[H.size]? = some (arrV (a_ct g 3) n.toNatClampNeg (fun _ => .null)) := by rw [← hH1, Array.getElem?_push_size, ← arrV_new]
  have o1 : ∀ q : Nat, q < H.size → H1[q]? = H[q]? := fun q hq => by rw [← hH1, Array.getElem?_push, if_neg (Nat.ne_of_lt hq)]
  have k1 := kk F H1 locs lsC (a_grow hP hlen o1 (by rw [had]; show H1[H.size]? = some (vp_cell _ _); exact e1)) ⟨Nat.le_trans hS.1 (by omega), fun x h1 h2 => (o1 x (Nat.lt_of_lt_of_le h1 hS.1)).trans (hS.2.1 x h1 h2), hS.2.2⟩ (fun n hn => by cases hn; rw [z1, hsz]; omega) hl
  have e9 : (Value.ref h.length :: st).map (a_cv g) = .ref H.size :: st.map (a_cv g) := by rw [List.map_cons]; show Value.ref (a_ad g h.length) :: _ = _; rw [had]
  rw [e9] at k1
  exact k1
theorem a_aast {i n v : Nat} {x : Int32} {f : Nat → Option Nat} {vs : List Value} (he : h[i]? = some (.inl (3, n, .inr (.inr (.inr (.inr f)))))) (hv : h[v]? = some (.inr (1, vs))) (hi : vp_in x n) (hd : decode cc pc = .ok (.aastore, 1)) (hp : pc + 1 = pc')
    (kk : a_W p l e R s m args below meth c Q own cc nL g cells slots sz pc' ls st (h.set i (.inl (3, n, .inr (.inr (.inr (.inr (va_up f x.toNatClampNeg (some v)))))))) ) : a_W p l e R s m args below meth c Q own cc nL g cells slots sz pc ls (.ref v :: .int x :: .ref i :: st) h := by
  intro F H locs lsC hP hS hz hl
  subst hp
  obtain ⟨hx, hb, -, hown, hts, -, hE⟩ := id F
  have hlt : x.toNatClampNeg < n := Nat.not_le.mp fun q => hi (Or.inr q)
  have h0 : ¬ x < 0 := fun q => hi (Or.inl q)
  have he' := a_cw_get (g := g) he
  have hD := a_Dof hE.2.1 hP.1
  obtain ⟨r', hr', cellV, g1, g2, g3, -⟩ := hP.2 v _ (a_cw_get (g := g) hv)
  have hcls := (hE.1.1 1 _ rfl).2
  obtain ⟨kA, comp, k1, k2, k3, -⟩ := (hE.1.2 3 _ rfl).2
  have hcomp : comp = (a_D g).1 1 := Option.some.inj (k3.symm.trans hcls.1)
  subst hcomp
  obtain ⟨kC, hkC, -⟩ := hcls.2
  refine W.aast hx hb (hP.2 i _ he') (fun q h => by cases h) (fun h => by cases h) k1 k2 rfl hkC ⟨h0, by show _ < (arrV _ _ _).slots.size; rw [arrV_size]; exact hlt⟩ g1 (fun q h => by rw [g3] at h; cases h) (by rw [g2]; exact hkC) (by rw [g2]; exact va_assign hcls) rfl rfl hd fun H1 e1 z1 oq => ?_
  refine kk F H1 _ lsC ⟨by rw [List.length_set]; exact hP.1, ?_⟩ (hS.put z1 oq (hD.2 i _ he')) (fun n hn2 => z1.trans (hz n hn2)) hl
  rw [a_cw_set]
  refine hP.2.set hD he' ?_ oq
  show H1[a_ad g i]? = some (vp_cell _ _)
  rw [e1]
  show some ((vp_cell _ (n, .inr (.inr (.inr (.inr (fun j => (f j).map (a_ad g))))))).setSlot _ _) = some (vp_cell _ (n, .inr (.inr (.inr (.inr _)))))
  rw [vp_cell_q, vp_cell_q, arrV_store]
  congr 2
  funext q
  by_cases hq : q = x.toNatClampNeg
  · subst hq
    simp [updV, va_up, va_rf]
  · simp [updV, va_up, hq]
theorem a_heq {h2 : List va_E} (he : h = h2) (kk : a_W p l e R s m args below meth c Q own cc nL g cells slots sz pc ls st h2) : a_W p l e R s m args below meth c Q own cc nL g cells slots sz pc ls st h := by rw [he]; exact kk
theorem a_seq {k : Nat} (he : sz = some k) (kk : a_W p l e R s m args below meth c Q own cc nL g cells slots (some k) pc ls st h) : a_W p l e R s m args below meth c Q own cc nL g cells slots sz pc ls st h := by rw [he]; exact kk
end AZ
theorem d_pre_at {α : Type} (pre l : List α) (j : Nat) : (pre ++ l)[pre.length + j]? = l[j]? := by
  rw [List.getElem?_append_right (by omega), Nat.add_sub_cancel_left]
theorem d_pre_set {α : Type} (pre l : List α) (j : Nat) (x : α) : (pre ++ l).set (pre.length + j) x = pre ++ l.set j x := by
  rw [List.set_append_right _ _ (by omega), Nat.add_sub_cancel_left]
theorem a_top {p : Program} {l : Launch} {e : Env} {R : Room} {s : State} {m : MethodId} {args : Array Value} {below : List Frame} {meth : Method} {c : Code} {Q : State → Prop} {own : String} {cc : ByteArray} {nL : Nat} {g : a_G} {cells slots : Nat} {sz : Option Nat} {pc : Nat} {ls : List (Nat × Value)} {st : List Value} {h : List va_E} {u v : Value} (he : u = v) (kk : a_W p l e R s m args below meth c Q own cc nL g cells slots sz pc ls (v :: st) h) : a_W p l e R s m args below meth c Q own cc nL g cells slots sz pc ls (u :: st) h := by rw [he]; exact kk
