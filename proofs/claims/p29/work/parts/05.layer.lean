/-! the abstract layer: a world is a list of cells, the cell i lies at the address B + i; references are places in the list -/
abbrev a_G : Type := va_G × (Nat → ClassId) × (Nat → Nat) × Nat × Nat × (Nat → Int32)
def a_D (g : a_G) : va_G := g.1
def a_ct (g : a_G) : Nat → ClassId := g.2.1
def a_ad (g : a_G) : Nat → Nat := g.2.2.1
def a_B (g : a_G) : Nat := g.2.2.2.1
def a_L (g : a_G) : Nat := g.2.2.2.2.1
def a_xs (g : a_G) : Nat → Int32 := g.2.2.2.2.2
/-- the script: its length and its ints -/
def a_SC (g : a_G) (L : Nat) (xs : Nat → Int32) : Prop := a_L g = L ∧ a_xs g = xs
abbrev a_cl : List vw_C := [(RX0, TX0, 5), (RX1, TX1, 19), (RX2, TX2, 3), (RX3, TX3, 4)]
def a_tys (g : a_G) : List (ClassId × FieldType) := [(a_ct g 0, .int), (a_ct g 1, .char), (a_ct g 2, .int), (a_ct g 3, .object "SlateRoof$Roof")]
def a_A (g : a_G) : Nat → Prop := fun q => a_B g ≤ q
def a_cv (g : a_G) : Value → Value
  | .ref i => .ref (a_ad g i)
  | v => v
def a_lv (g : a_G) (q : Nat × Value) : Nat × Value := (q.1, a_cv g q.2)
def a_ca (g : a_G) : vp_A → vp_A
  | (n, .inr (.inr (.inr (.inr f)))) => (n, .inr (.inr (.inr (.inr (fun j => (f j).map (a_ad g))))))
  | a => a
def a_ce (g : a_G) : va_E → va_E
  | .inl (k, a) => .inl (a_ct g k, a_ca g a)
  | .inr (ci, fs) => .inr (ci, fs.map (a_cv g))
def a_cw (g : a_G) (h : List va_E) : va_W := h.mapIdx fun i e => (a_ad g i, a_ce g e)
theorem a_cat (g : a_G) (v : Value) : (a_cv g v).category = v.category := by cases v <;> rfl
theorem a_cw_at (g : a_G) (h : List va_E) (i : Nat) : (a_cw g h)[i]? = h[i]?.map fun e => (a_ad g i, a_ce g e) := by
  unfold a_cw
  rw [List.getElem?_mapIdx]
theorem a_cw_get {g : a_G} {h : List va_E} {i : Nat} {e : va_E} (hh : h[i]? = some e) : (a_cw g h)[i]? = some (a_ad g i, a_ce g e) := by
  rw [a_cw_at, hh]; rfl
theorem a_cw_len (g : a_G) (h : List va_E) : (a_cw g h).length = h.length := by unfold a_cw; rw [List.length_mapIdx]
theorem a_cw_set (g : a_G) (h : List va_E) (i : Nat) (e : va_E) : a_cw g (h.set i e) = (a_cw g h).set i (a_ad g i, a_ce g e) := by
  apply List.ext_getElem?
  intro j
  rw [a_cw_at, List.getElem?_set, List.getElem?_set, a_cw_at, a_cw_len]
  by_cases hj : i = j
  · subst hj
    by_cases hl : i < h.length
    · simp [hl]
    · simp [hl]
  · simp [hj]
theorem a_cw_app (g : a_G) (h : List va_E) (e : va_E) : a_cw g (h ++ [e]) = a_cw g h ++ [(a_ad g h.length, a_ce g e)] := by
  apply List.ext_getElem?
  intro j
  rw [a_cw_at, List.getElem?_append, List.getElem?_append, a_cw_at, a_cw_len]
  by_cases hl : j < h.length
  · simp [hl]
  · by_cases hj : j = h.length
    · subst hj; simp
    · rw [if_neg hl, if_neg hl, List.getElem?_eq_none (by simp; omega), List.getElem?_eq_none (by simp; omega)]
      rfl
def a_HP (g : a_G) (h : List va_E) (H : Heap) : Prop := h.length ≤ 1000 ∧ va_P (a_D g) a_cl (a_cw g h) H
def a_SZ (g : a_G) (sz : Option Nat) (H : Heap) : Prop := ∀ n, sz = some n → H.size = a_B g + n
def a_least (j : Nat) : Int32 := if j = 0 then 2 else 1
def a_most (j : Nat) : Int32 := if j = 0 then 6 else if j = 1 then 60 else 5
def a_nest : List (String × Nat × MethodName) := [(RX3, 9, yX1_init), (RX2, 17, yX1_init), (RX3, 28, yX0_init), (RX1, 49, yX3_copyRow), (RX1, 83, yX3_valueAt), (RX1, 119, yX3_addAt)]

/-- what of the start stays known: the classes, the static fields, the links within the nest, the texts -/
def a_ES (g : a_G) (U : State) : Prop := va_Z "SlateRoof" "LEAST_SETTINGS" "[I" (.ref (a_ad g 1000)) (a_A g) U U.heap ∧ va_Z "SlateRoof" "MOST_SETTINGS" "[I" (.ref (a_ad g 1001)) (a_A g) U U.heap ∧ (a_ad g 1000 < a_B g ∧ va_X (a_ad g 1000) 3 a_least U U.heap) ∧ (a_ad g 1001 < a_B g ∧ va_X (a_ad g 1001) 3 a_most U U.heap) ∧ (a_ad g 1002 < a_B g ∧ va_X (a_ad g 1002) (a_L g) (a_xs g) U U.heap)
def a_EN (U : State) : Prop := (∀ q ∈ a_nest, va_Nw (.methodLinkNest q.1 q.2.1 q.2.2 "SlateRoof") U) ∧ va_AO "SlateRoof$Roof" U
def a_E (g : a_G) (U : State) : Prop := va_K (a_D g) a_cl (a_tys g) U ∧ (∀ i, i < 1000 → a_ad g i = a_B g + i) ∧ a_B g ≤ U.heap.size ∧ a_ES g U ∧ a_EN U
theorem a_E.moved {g : a_G} {s U : State} {H : Heap} {locs : List Loc} (h : a_E g s) (hS : va_S (a_A g) s.heap H locs) (hW : s.WarmedH U.vm) (hU : U.heap = H) : a_E g U := by
  obtain ⟨hK, hB, hz, ⟨h1, h2, ⟨h3, h4⟩, ⟨h5, h6⟩, ⟨h7, h8⟩⟩, hn, ho⟩ := h
  have hvm := hW.alike
  have hk : ∀ a : Nat, a < s.heap.size → ¬ a_A g a → U.heap[a]? = s.heap[a]? := fun a ha hb => by rw [hU]; exact hS.2.1 a ha hb
  have hx : ∀ a : Nat, a < a_B g → U.heap[a]? = s.heap[a]? := fun a ha => hk a (Nat.lt_of_lt_of_le ha hz) (fun q => absurd ha (Nat.not_lt.mpr q))
  exact ⟨va_K.moved hvm hK, hB, by rw [hU]; exact Nat.le_trans hz hS.1, ⟨(va_Z.moved hvm h1).kept hk, (va_Z.moved hvm h2).kept hk, ⟨h3, (va_X.moved hvm h4).kept (hx _ h3)⟩, ⟨h5, (va_X.moved hvm h6).kept (hx _ h5)⟩, ⟨h7, (va_X.moved hvm h8).kept (hx _ h7)⟩⟩, fun q hq => va_Nw.warmM hW (hn q hq), va_AO.moved hvm ho⟩
theorem a_E.same {g : a_G} {u U : State} (hv : U.vm = u.vm) (hh : U.heap = u.heap) (h : a_E g u) : a_E g U := by
  obtain ⟨hK, hB, hz, ⟨h1, h2, ⟨h3, h4⟩, ⟨h5, h6⟩, ⟨h7, h8⟩⟩, hn, ho⟩ := h
  have hvm : u.vm.Alike U.vm := by rw [hv]; exact Vm.Alike.refl _
  refine ⟨va_K.moved hvm hK, hB, by rw [hh]; exact hz, ⟨?_, ?_, ⟨h3, ?_⟩, ⟨h5, ?_⟩, ⟨h7, ?_⟩⟩, fun q hq => va_Nw.same rfl hv.symm (hn q hq), va_AO.moved hvm ho⟩
  · rw [hh]; exact va_Z.moved hvm h1
  · rw [hh]; exact va_Z.moved hvm h2
  · rw [hh]; exact va_X.moved hvm h4
  · rw [hh]; exact va_X.moved hvm h6
  · rw [hh]; exact va_X.moved hvm h8
theorem a_Dof {g : a_G} {h : List va_E} (hB : ∀ i, i < 1000 → a_ad g i = a_B g + i) (hl : h.length ≤ 1000) : va_D (a_A g) (a_cw g h) := by
  have key : ∀ (i : Nat) (q : Nat × va_E), (a_cw g h)[i]? = some q → i < 1000 ∧ q.1 = a_B g + i := by
    intro i q hq
    rw [a_cw_at] at hq
    cases hh : h[i]? with
    | none => rw [hh] at hq; cases hq
    | some e =>
      rw [hh] at hq
      cases hq
      have hi : i < h.length := (List.getElem?_eq_some_iff.mp hh).1
      exact ⟨by omega, hB i (by omega)⟩
  refine ⟨fun i j p q hp hq he => ?_, fun k q hq => ?_⟩
  · have h1 := key i p hp
    have h2 := key j q hq
    omega
  · have h1 := key k q hq
    show a_B g ≤ q.1
    omega
def a_FX (p : Program) (s : State) (m : MethodId) (args : Array Value) (meth : Method) (c : Code) (own : String) (cc : ByteArray) (nL : Nat) (g : a_G) : Prop :=
  p.tables.exec = Jvm.exec ∧ c.code = cc ∧ c.maxLocals = nL ∧ s.vm.findClass own = some m.cls ∧ (∀ w ∈ a_WS, w.before args s = true) ∧ meth.locks = false ∧ a_E g s
def a_W (p : Program) (l : Launch) (e : Env) (R : Room) (s : State) (m : MethodId) (args : Array Value) (below : List Frame) (meth : Method) (c : Code) (Q : State → Prop) (own : String) (cc : ByteArray) (nL : Nat) (g : a_G) (cells slots : Nat) (sz : Option Nat) (pc : Nat) (ls : List (Nat × Value)) (st : List Value) (h : List va_E) : Prop :=
  a_FX p s m args meth c own cc nL g → ∀ (H : Heap) (locs : List Loc) (lsC : Array Slot), a_HP g h H → va_S (a_A g) s.heap H locs → a_SZ g sz H → lv_has lsC nL (ls.map (a_lv g)) → W p l e R s m args below meth c H locs cells slots Q (F0 m pc lsC (st.map (a_cv g)))
theorem a_lat {g : a_G} {ls : List (Nat × Value)} {k i : Nat} {v : Value} (hk : ls[k]? = some (i, v)) : (ls.map (a_lv g))[k]? = some (i, a_cv g v) := by
  rw [List.getElem?_map, hk]; rfl
theorem a_lst1 {g : a_G} {ls ls' : List (Nat × Value)} {i : Nat} {v : Value} (hl : (i, v) :: ls.filter (fun q => !(q.1 == i) && !(q.1 + 1 == i && q.2.category == 2)) = ls') : (i, a_cv g v) :: (ls.map (a_lv g)).filter (fun q => !(q.1 == i) && !(q.1 + 1 == i && q.2.category == 2)) = ls'.map (a_lv g) := by
  subst hl
  rw [List.filter_map, List.map_cons]
  congr 2
  apply List.filter_congr
  intro q _
  simp [a_lv, a_cat]
theorem a_lst2 {g : a_G} {ls ls' : List (Nat × Value)} {i : Nat} {v : Value} (hl : (i, v) :: ls.filter (fun q => !(q.1 == i) && (!(q.1 == i + 1) && !(q.1 + 1 == i && q.2.category == 2))) = ls') : (i, a_cv g v) :: (ls.map (a_lv g)).filter (fun q => !(q.1 == i) && (!(q.1 == i + 1) && !(q.1 + 1 == i && q.2.category == 2))) = ls'.map (a_lv g) := by
  subst hl
  rw [List.filter_map, List.map_cons]
  congr 2
  apply List.filter_congr
  intro q _
  simp [a_lv, a_cat]

section AR
variable {p : Program} {l : Launch} {e : Env} {R : Room} {s : State} {m : MethodId} {args : Array Value} {below : List Frame} {meth : Method} {c : Code} {Q : State → Prop} {own : String} {cc : ByteArray} {nL : Nat} {g : a_G} {cells slots : Nat} {sz : Option Nat} {pc pc' : Nat} {ls : List (Nat × Value)} {st : List Value} {h : List va_E}
theorem a_iconst {n : Int} {v : Int32} (hd : decode cc pc = .ok (.iconst n, 1)) (hp : pc + 1 = pc') (hv : Int32.ofInt n = v) (k : a_W p l e R s m args below meth c Q own cc nL g cells slots sz (pc') ls (.int v :: st) h) : a_W p l e R s m args below meth c Q own cc nL g cells slots sz (pc) ls (st) h := fun F H locs lsC hP hS hz hl => by subst hp; exact lv_iconst F.1 F.2.1 hd hv (k F H locs lsC hP hS hz hl)
theorem a_bipush {n : Int} {v : Int32} (hd : decode cc pc = .ok (.bipush n, 2)) (hp : pc + 2 = pc') (hv : (Int8.ofInt n).toInt32 = v) (k : a_W p l e R s m args below meth c Q own cc nL g cells slots sz (pc') ls (.int v :: st) h) : a_W p l e R s m args below meth c Q own cc nL g cells slots sz (pc) ls (st) h := fun F H locs lsC hP hS hz hl => by subst hp; exact lv_bipush F.1 F.2.1 hd hv (k F H locs lsC hP hS hz hl)
theorem a_sipush {n : Int} {v : Int32} (hd : decode cc pc = .ok (.sipush n, 3)) (hp : pc + 3 = pc') (hv : (Int16.ofInt n).toInt32 = v) (k : a_W p l e R s m args below meth c Q own cc nL g cells slots sz (pc') ls (.int v :: st) h) : a_W p l e R s m args below meth c Q own cc nL g cells slots sz (pc) ls (st) h := fun F H locs lsC hP hS hz hl => by subst hp; exact lv_sipush F.1 F.2.1 hd hv (k F H locs lsC hP hS hz hl)
theorem a_lconst {n : Fin 2} {v : Int64} (hd : decode cc pc = .ok (.lconst n, 1)) (hp : pc + 1 = pc') (hv : Int64.ofNat (n : Nat) = v) (k : a_W p l e R s m args below meth c Q own cc nL g cells slots sz (pc') ls (.long v :: st) h) : a_W p l e R s m args below meth c Q own cc nL g cells slots sz (pc) ls (st) h := fun F H locs lsC hP hS hz hl => by subst hp; exact lv_lconst F.1 F.2.1 hd hv (k F H locs lsC hP hS hz hl)
theorem a_dconst0  (hd : decode cc pc = .ok (.dconst 0, 1)) (hp : pc + 1 = pc')  (k : a_W p l e R s m args below meth c Q own cc nL g cells slots sz (pc') ls (.double FP.dconst0 :: st) h) : a_W p l e R s m args below meth c Q own cc nL g cells slots sz (pc) ls (st) h := fun F H locs lsC hP hS hz hl => by subst hp; exact lv_dconst0 F.1 F.2.1 hd  (k F H locs lsC hP hS hz hl)
theorem a_dconst1  (hd : decode cc pc = .ok (.dconst 1, 1)) (hp : pc + 1 = pc')  (k : a_W p l e R s m args below meth c Q own cc nL g cells slots sz (pc') ls (.double FP.dconst1 :: st) h) : a_W p l e R s m args below meth c Q own cc nL g cells slots sz (pc) ls (st) h := fun F H locs lsC hP hS hz hl => by subst hp; exact lv_dconst1 F.1 F.2.1 hd  (k F H locs lsC hP hS hz hl)
theorem a_iload_n {kf : Fin 4} {i : Nat} {x : Int32} (q : Nat) (hd : decode cc pc = .ok (.iload_n kf, 1)) (hi : (kf : Nat) = i) (hk : ls[q]? = some (i, .int x)) (hp : pc + 1 = pc') (k : a_W p l e R s m args below meth c Q own cc nL g cells slots sz (pc') ls (.int x :: st) h) : a_W p l e R s m args below meth c Q own cc nL g cells slots sz (pc) ls (st) h := fun F H locs lsC hP hS hz hl => by subst hp; exact lv_iload_n F.1 F.2.1 hd hi (lv_at hl q (a_lat hk)) (k F H locs lsC hP hS hz hl)
theorem a_iload {i : Nat} {x : Int32} (q : Nat) (hd : decode cc pc = .ok (.iload i, 2)) (hk : ls[q]? = some (i, .int x)) (hp : pc + 2 = pc') (k : a_W p l e R s m args below meth c Q own cc nL g cells slots sz (pc') ls (.int x :: st) h) : a_W p l e R s m args below meth c Q own cc nL g cells slots sz (pc) ls (st) h := fun F H locs lsC hP hS hz hl => by subst hp; exact lv_iload F.1 F.2.1 hd (lv_at hl q (a_lat hk)) (k F H locs lsC hP hS hz hl)
theorem a_istore_n {kf : Fin 4} {i : Nat} {x : Int32} {ls' : List (Nat × Value)} (hd : decode cc pc = .ok (.istore_n kf, 1)) (hi : (kf : Nat) = i) (hn : i < nL) (hls : (i, Value.int x) :: ls.filter (fun q => !(q.1 == i) && !(q.1 + 1 == i && q.2.category == 2)) = ls') (hp : pc + 1 = pc') (k : a_W p l e R s m args below meth c Q own cc nL g cells slots sz (pc') ls' (st) h) : a_W p l e R s m args below meth c Q own cc nL g cells slots sz (pc) ls (.int x :: st) h := fun F H locs lsC hP hS hz hl => by subst hp; exact lv_istore_n F.1 F.2.1 hd hi hl hn (a_lst1 (g := g) hls) (fun lsC2 hl2 => k F H locs lsC2 hP hS hz hl2)
theorem a_istore {i : Nat} {x : Int32} {ls' : List (Nat × Value)} (hd : decode cc pc = .ok (.istore i, 2)) (hn : i < nL) (hls : (i, Value.int x) :: ls.filter (fun q => !(q.1 == i) && !(q.1 + 1 == i && q.2.category == 2)) = ls') (hp : pc + 2 = pc') (k : a_W p l e R s m args below meth c Q own cc nL g cells slots sz (pc') ls' (st) h) : a_W p l e R s m args below meth c Q own cc nL g cells slots sz (pc) ls (.int x :: st) h := fun F H locs lsC hP hS hz hl => by subst hp; exact lv_istore F.1 F.2.1 hd hl hn (a_lst1 (g := g) hls) (fun lsC2 hl2 => k F H locs lsC2 hP hS hz hl2)
theorem a_lload_n {kf : Fin 4} {i : Nat} {x : Int64} (q : Nat) (hd : decode cc pc = .ok (.lload_n kf, 1)) (hi : (kf : Nat) = i) (hk : ls[q]? = some (i, .long x)) (hp : pc + 1 = pc') (k : a_W p l e R s m args below meth c Q own cc nL g cells slots sz (pc') ls (.long x :: st) h) : a_W p l e R s m args below meth c Q own cc nL g cells slots sz (pc) ls (st) h := fun F H locs lsC hP hS hz hl => by subst hp; exact lv_lload_n F.1 F.2.1 hd hi (lv_at hl q (a_lat hk)) (k F H locs lsC hP hS hz hl)
theorem a_lload {i : Nat} {x : Int64} (q : Nat) (hd : decode cc pc = .ok (.lload i, 2)) (hk : ls[q]? = some (i, .long x)) (hp : pc + 2 = pc') (k : a_W p l e R s m args below meth c Q own cc nL g cells slots sz (pc') ls (.long x :: st) h) : a_W p l e R s m args below meth c Q own cc nL g cells slots sz (pc) ls (st) h := fun F H locs lsC hP hS hz hl => by subst hp; exact lv_lload F.1 F.2.1 hd (lv_at hl q (a_lat hk)) (k F H locs lsC hP hS hz hl)
theorem a_lstore_n {kf : Fin 4} {i : Nat} {x : Int64} {ls' : List (Nat × Value)} (hd : decode cc pc = .ok (.lstore_n kf, 1)) (hi : (kf : Nat) = i) (hn : i + 1 < nL) (hls : (i, Value.long x) :: ls.filter (fun q => !(q.1 == i) && (!(q.1 == i + 1) && !(q.1 + 1 == i && q.2.category == 2))) = ls') (hp : pc + 1 = pc') (k : a_W p l e R s m args below meth c Q own cc nL g cells slots sz (pc') ls' (st) h) : a_W p l e R s m args below meth c Q own cc nL g cells slots sz (pc) ls (.long x :: st) h := fun F H locs lsC hP hS hz hl => by subst hp; exact lv_lstore_n F.1 F.2.1 hd hi hl hn (a_lst2 (g := g) hls) (fun lsC2 hl2 => k F H locs lsC2 hP hS hz hl2)
theorem a_lstore {i : Nat} {x : Int64} {ls' : List (Nat × Value)} (hd : decode cc pc = .ok (.lstore i, 2)) (hn : i + 1 < nL) (hls : (i, Value.long x) :: ls.filter (fun q => !(q.1 == i) && (!(q.1 == i + 1) && !(q.1 + 1 == i && q.2.category == 2))) = ls') (hp : pc + 2 = pc') (k : a_W p l e R s m args below meth c Q own cc nL g cells slots sz (pc') ls' (st) h) : a_W p l e R s m args below meth c Q own cc nL g cells slots sz (pc) ls (.long x :: st) h := fun F H locs lsC hP hS hz hl => by subst hp; exact lv_lstore F.1 F.2.1 hd hl hn (a_lst2 (g := g) hls) (fun lsC2 hl2 => k F H locs lsC2 hP hS hz hl2)
theorem a_dload_n {kf : Fin 4} {i : Nat} {x : UInt64} (q : Nat) (hd : decode cc pc = .ok (.dload_n kf, 1)) (hi : (kf : Nat) = i) (hk : ls[q]? = some (i, .double x)) (hp : pc + 1 = pc') (k : a_W p l e R s m args below meth c Q own cc nL g cells slots sz (pc') ls (.double x :: st) h) : a_W p l e R s m args below meth c Q own cc nL g cells slots sz (pc) ls (st) h := fun F H locs lsC hP hS hz hl => by subst hp; exact lv_dload_n F.1 F.2.1 hd hi (lv_at hl q (a_lat hk)) (k F H locs lsC hP hS hz hl)
theorem a_dload {i : Nat} {x : UInt64} (q : Nat) (hd : decode cc pc = .ok (.dload i, 2)) (hk : ls[q]? = some (i, .double x)) (hp : pc + 2 = pc') (k : a_W p l e R s m args below meth c Q own cc nL g cells slots sz (pc') ls (.double x :: st) h) : a_W p l e R s m args below meth c Q own cc nL g cells slots sz (pc) ls (st) h := fun F H locs lsC hP hS hz hl => by subst hp; exact lv_dload F.1 F.2.1 hd (lv_at hl q (a_lat hk)) (k F H locs lsC hP hS hz hl)
theorem a_dstore_n {kf : Fin 4} {i : Nat} {x : UInt64} {ls' : List (Nat × Value)} (hd : decode cc pc = .ok (.dstore_n kf, 1)) (hi : (kf : Nat) = i) (hn : i + 1 < nL) (hls : (i, Value.double x) :: ls.filter (fun q => !(q.1 == i) && (!(q.1 == i + 1) && !(q.1 + 1 == i && q.2.category == 2))) = ls') (hp : pc + 1 = pc') (k : a_W p l e R s m args below meth c Q own cc nL g cells slots sz (pc') ls' (st) h) : a_W p l e R s m args below meth c Q own cc nL g cells slots sz (pc) ls (.double x :: st) h := fun F H locs lsC hP hS hz hl => by subst hp; exact lv_dstore_n F.1 F.2.1 hd hi hl hn (a_lst2 (g := g) hls) (fun lsC2 hl2 => k F H locs lsC2 hP hS hz hl2)
theorem a_dstore {i : Nat} {x : UInt64} {ls' : List (Nat × Value)} (hd : decode cc pc = .ok (.dstore i, 2)) (hn : i + 1 < nL) (hls : (i, Value.double x) :: ls.filter (fun q => !(q.1 == i) && (!(q.1 == i + 1) && !(q.1 + 1 == i && q.2.category == 2))) = ls') (hp : pc + 2 = pc') (k : a_W p l e R s m args below meth c Q own cc nL g cells slots sz (pc') ls' (st) h) : a_W p l e R s m args below meth c Q own cc nL g cells slots sz (pc) ls (.double x :: st) h := fun F H locs lsC hP hS hz hl => by subst hp; exact lv_dstore F.1 F.2.1 hd hl hn (a_lst2 (g := g) hls) (fun lsC2 hl2 => k F H locs lsC2 hP hS hz hl2)
theorem a_aload_n {kf : Fin 4} {i : Nat} {x : Nat} (q : Nat) (hd : decode cc pc = .ok (.aload_n kf, 1)) (hi : (kf : Nat) = i) (hk : ls[q]? = some (i, .ref x)) (hp : pc + 1 = pc') (k : a_W p l e R s m args below meth c Q own cc nL g cells slots sz (pc') ls (.ref x :: st) h) : a_W p l e R s m args below meth c Q own cc nL g cells slots sz (pc) ls (st) h := fun F H locs lsC hP hS hz hl => by subst hp; exact lv_aload_n F.1 F.2.1 hd hi (lv_at hl q (a_lat hk)) (k F H locs lsC hP hS hz hl)
theorem a_aload {i : Nat} {x : Nat} (q : Nat) (hd : decode cc pc = .ok (.aload i, 2)) (hk : ls[q]? = some (i, .ref x)) (hp : pc + 2 = pc') (k : a_W p l e R s m args below meth c Q own cc nL g cells slots sz (pc') ls (.ref x :: st) h) : a_W p l e R s m args below meth c Q own cc nL g cells slots sz (pc) ls (st) h := fun F H locs lsC hP hS hz hl => by subst hp; exact lv_aload F.1 F.2.1 hd (lv_at hl q (a_lat hk)) (k F H locs lsC hP hS hz hl)
theorem a_astore_n {kf : Fin 4} {i : Nat} {x : Nat} {ls' : List (Nat × Value)} (hd : decode cc pc = .ok (.astore_n kf, 1)) (hi : (kf : Nat) = i) (hn : i < nL) (hls : (i, Value.ref x) :: ls.filter (fun q => !(q.1 == i) && !(q.1 + 1 == i && q.2.category == 2)) = ls') (hp : pc + 1 = pc') (k : a_W p l e R s m args below meth c Q own cc nL g cells slots sz (pc') ls' (st) h) : a_W p l e R s m args below meth c Q own cc nL g cells slots sz (pc) ls (.ref x :: st) h := fun F H locs lsC hP hS hz hl => by subst hp; exact lv_astore_n F.1 F.2.1 hd hi hl hn (a_lst1 (g := g) hls) (fun lsC2 hl2 => k F H locs lsC2 hP hS hz hl2)
theorem a_astore {i : Nat} {x : Nat} {ls' : List (Nat × Value)} (hd : decode cc pc = .ok (.astore i, 2)) (hn : i < nL) (hls : (i, Value.ref x) :: ls.filter (fun q => !(q.1 == i) && !(q.1 + 1 == i && q.2.category == 2)) = ls') (hp : pc + 2 = pc') (k : a_W p l e R s m args below meth c Q own cc nL g cells slots sz (pc') ls' (st) h) : a_W p l e R s m args below meth c Q own cc nL g cells slots sz (pc) ls (.ref x :: st) h := fun F H locs lsC hP hS hz hl => by subst hp; exact lv_astore F.1 F.2.1 hd hl hn (a_lst1 (g := g) hls) (fun lsC2 hl2 => k F H locs lsC2 hP hS hz hl2)
theorem a_iinc {i : Nat} {n : Int} {x v : Int32} {ls' : List (Nat × Value)} (q : Nat) (hd : decode cc pc = .ok (.iinc i n, 3)) (hk : ls[q]? = some (i, .int x)) (hv : x + Int32.ofInt n = v) (hn : i < nL) (hls : (i, Value.int v) :: ls.filter (fun q => !(q.1 == i) && !(q.1 + 1 == i && q.2.category == 2)) = ls') (hp : pc + 3 = pc') (k : a_W p l e R s m args below meth c Q own cc nL g cells slots sz (pc') ls' (st) h) : a_W p l e R s m args below meth c Q own cc nL g cells slots sz (pc) ls (st) h := fun F H locs lsC hP hS hz hl => by subst hp; exact lv_iinc F.1 F.2.1 hd hl (k := q) (a_lat hk) hv hn (a_lst1 (g := g) (v := .int v) hls) (fun lsC2 hl2 => k F H locs lsC2 hP hS hz hl2)
theorem a_iinc_w {i : Nat} {n : Int} {x v : Int32} {ls' : List (Nat × Value)} (q : Nat) (hd : decode cc pc = .ok (.iinc i n, 6)) (hk : ls[q]? = some (i, .int x)) (hv : x + Int32.ofInt n = v) (hn : i < nL) (hls : (i, Value.int v) :: ls.filter (fun q => !(q.1 == i) && !(q.1 + 1 == i && q.2.category == 2)) = ls') (hp : pc + 6 = pc') (k : a_W p l e R s m args below meth c Q own cc nL g cells slots sz (pc') ls' (st) h) : a_W p l e R s m args below meth c Q own cc nL g cells slots sz (pc) ls (st) h := fun F H locs lsC hP hS hz hl => by subst hp; exact lv_iincW F.1 F.2.1 hd hl (k := q) (a_lat hk) hv hn (a_lst1 (g := g) (v := .int v) hls) (fun lsC2 hl2 => k F H locs lsC2 hP hS hz hl2)
theorem a_pop {v : Value} (hd : decode cc pc = .ok (.pop, 1)) (hc : v.category = 1) (hp : pc + 1 = pc') (k : a_W p l e R s m args below meth c Q own cc nL g cells slots sz (pc') ls (st) h) : a_W p l e R s m args below meth c Q own cc nL g cells slots sz (pc) ls (v :: st) h := fun F H locs lsC hP hS hz hl => by subst hp; exact lv_pop F.1 F.2.1 (va := a_cv g v) hd ((a_cat g v).trans hc) (k F H locs lsC hP hS hz hl)
theorem a_dup {v : Value} (hd : decode cc pc = .ok (.dup, 1)) (hc : v.category = 1) (hp : pc + 1 = pc') (k : a_W p l e R s m args below meth c Q own cc nL g cells slots sz (pc') ls (v :: v :: st) h) : a_W p l e R s m args below meth c Q own cc nL g cells slots sz (pc) ls (v :: st) h := fun F H locs lsC hP hS hz hl => by subst hp; exact lv_dup F.1 F.2.1 (va := a_cv g v) hd ((a_cat g v).trans hc) (k F H locs lsC hP hS hz hl)
theorem a_dup2 {v u : Value} (hd : decode cc pc = .ok (.dup2, 1)) (hc : v.category = 1) (hc2 : u.category = 1) (hp : pc + 1 = pc') (k : a_W p l e R s m args below meth c Q own cc nL g cells slots sz (pc') ls (v :: u :: v :: u :: st) h) : a_W p l e R s m args below meth c Q own cc nL g cells slots sz (pc) ls (v :: u :: st) h := fun F H locs lsC hP hS hz hl => by subst hp; exact lv_dup2_11 F.1 F.2.1 (va := a_cv g v) (vb := a_cv g u) hd ((a_cat g v).trans hc) ((a_cat g u).trans hc2) (k F H locs lsC hP hS hz hl)
theorem a_iadd {x y : Int32} (hd : decode cc pc = .ok (.iadd, 1)) (hp : pc + 1 = pc')  (k : a_W p l e R s m args below meth c Q own cc nL g cells slots sz (pc') ls (.int (x + y) :: st) h) : a_W p l e R s m args below meth c Q own cc nL g cells slots sz (pc) ls (.int y :: .int x :: st) h := fun F H locs lsC hP hS hz hl => by subst hp; exact lv_iadd F.1 F.2.1 hd  (k F H locs lsC hP hS hz hl)
theorem a_isub {x y : Int32} (hd : decode cc pc = .ok (.isub, 1)) (hp : pc + 1 = pc')  (k : a_W p l e R s m args below meth c Q own cc nL g cells slots sz (pc') ls (.int (x - y) :: st) h) : a_W p l e R s m args below meth c Q own cc nL g cells slots sz (pc) ls (.int y :: .int x :: st) h := fun F H locs lsC hP hS hz hl => by subst hp; exact lv_isub F.1 F.2.1 hd  (k F H locs lsC hP hS hz hl)
theorem a_imul {x y : Int32} (hd : decode cc pc = .ok (.imul, 1)) (hp : pc + 1 = pc')  (k : a_W p l e R s m args below meth c Q own cc nL g cells slots sz (pc') ls (.int (x * y) :: st) h) : a_W p l e R s m args below meth c Q own cc nL g cells slots sz (pc) ls (.int y :: .int x :: st) h := fun F H locs lsC hP hS hz hl => by subst hp; exact lv_imul F.1 F.2.1 hd  (k F H locs lsC hP hS hz hl)
theorem a_iand {x y : Int32} (hd : decode cc pc = .ok (.iand, 1)) (hp : pc + 1 = pc')  (k : a_W p l e R s m args below meth c Q own cc nL g cells slots sz (pc') ls (.int (x &&& y) :: st) h) : a_W p l e R s m args below meth c Q own cc nL g cells slots sz (pc) ls (.int y :: .int x :: st) h := fun F H locs lsC hP hS hz hl => by subst hp; exact lv_iand F.1 F.2.1 hd  (k F H locs lsC hP hS hz hl)
theorem a_ior {x y : Int32} (hd : decode cc pc = .ok (.ior, 1)) (hp : pc + 1 = pc')  (k : a_W p l e R s m args below meth c Q own cc nL g cells slots sz (pc') ls (.int (x ||| y) :: st) h) : a_W p l e R s m args below meth c Q own cc nL g cells slots sz (pc) ls (.int y :: .int x :: st) h := fun F H locs lsC hP hS hz hl => by subst hp; exact lv_ior F.1 F.2.1 hd  (k F H locs lsC hP hS hz hl)
theorem a_ixor {x y : Int32} (hd : decode cc pc = .ok (.ixor, 1)) (hp : pc + 1 = pc')  (k : a_W p l e R s m args below meth c Q own cc nL g cells slots sz (pc') ls (.int (x ^^^ y) :: st) h) : a_W p l e R s m args below meth c Q own cc nL g cells slots sz (pc) ls (.int y :: .int x :: st) h := fun F H locs lsC hP hS hz hl => by subst hp; exact lv_ixor F.1 F.2.1 hd  (k F H locs lsC hP hS hz hl)
theorem a_ishl {x y : Int32} (hd : decode cc pc = .ok (.ishl, 1)) (hp : pc + 1 = pc')  (k : a_W p l e R s m args below meth c Q own cc nL g cells slots sz (pc') ls (.int (x <<< (y &&& 31)) :: st) h) : a_W p l e R s m args below meth c Q own cc nL g cells slots sz (pc) ls (.int y :: .int x :: st) h := fun F H locs lsC hP hS hz hl => by subst hp; exact lv_ishl F.1 F.2.1 hd  (k F H locs lsC hP hS hz hl)
theorem a_ishr {x y : Int32} (hd : decode cc pc = .ok (.ishr, 1)) (hp : pc + 1 = pc')  (k : a_W p l e R s m args below meth c Q own cc nL g cells slots sz (pc') ls (.int (x >>> (y &&& 31)) :: st) h) : a_W p l e R s m args below meth c Q own cc nL g cells slots sz (pc) ls (.int y :: .int x :: st) h := fun F H locs lsC hP hS hz hl => by subst hp; exact lv_ishr F.1 F.2.1 hd  (k F H locs lsC hP hS hz hl)
theorem a_iushr {x y : Int32} (hd : decode cc pc = .ok (.iushr, 1)) (hp : pc + 1 = pc')  (k : a_W p l e R s m args below meth c Q own cc nL g cells slots sz (pc') ls (.int ((x.toUInt32 >>> (y.toUInt32 &&& Int32.toUInt32 31)).toInt32) :: st) h) : a_W p l e R s m args below meth c Q own cc nL g cells slots sz (pc) ls (.int y :: .int x :: st) h := fun F H locs lsC hP hS hz hl => by subst hp; exact lv_iushr F.1 F.2.1 hd rfl (k F H locs lsC hP hS hz hl)
theorem a_idiv {x y : Int32} (hd : decode cc pc = .ok (.idiv, 1)) (hp : pc + 1 = pc') (hne : ¬ y = 0) (k : a_W p l e R s m args below meth c Q own cc nL g cells slots sz (pc') ls (.int (x / y) :: st) h) : a_W p l e R s m args below meth c Q own cc nL g cells slots sz (pc) ls (.int y :: .int x :: st) h := fun F H locs lsC hP hS hz hl => by subst hp; exact lv_idiv F.1 F.2.1 hd hne (k F H locs lsC hP hS hz hl)
theorem a_irem {x y : Int32} (hd : decode cc pc = .ok (.irem, 1)) (hp : pc + 1 = pc') (hne : ¬ y = 0) (k : a_W p l e R s m args below meth c Q own cc nL g cells slots sz (pc') ls (.int (x - x / y * y) :: st) h) : a_W p l e R s m args below meth c Q own cc nL g cells slots sz (pc) ls (.int y :: .int x :: st) h := fun F H locs lsC hP hS hz hl => by subst hp; exact lv_irem F.1 F.2.1 hd hne (k F H locs lsC hP hS hz hl)
theorem a_ineg {x : Int32} (hd : decode cc pc = .ok (.ineg, 1)) (hp : pc + 1 = pc')  (k : a_W p l e R s m args below meth c Q own cc nL g cells slots sz (pc') ls (.int (-x) :: st) h) : a_W p l e R s m args below meth c Q own cc nL g cells slots sz (pc) ls (.int x :: st) h := fun F H locs lsC hP hS hz hl => by subst hp; exact lv_ineg F.1 F.2.1 hd  (k F H locs lsC hP hS hz hl)
theorem a_i2c {x : Int32} (hd : decode cc pc = .ok (.i2c, 1)) (hp : pc + 1 = pc')  (k : a_W p l e R s m args below meth c Q own cc nL g cells slots sz (pc') ls (.int ((x.toUInt32 % 65536).toInt32) :: st) h) : a_W p l e R s m args below meth c Q own cc nL g cells slots sz (pc) ls (.int x :: st) h := fun F H locs lsC hP hS hz hl => by subst hp; exact lv_i2c F.1 F.2.1 hd rfl (k F H locs lsC hP hS hz hl)
theorem a_i2l {x : Int32} (hd : decode cc pc = .ok (.i2l, 1)) (hp : pc + 1 = pc')  (k : a_W p l e R s m args below meth c Q own cc nL g cells slots sz (pc') ls (.long x.toInt64 :: st) h) : a_W p l e R s m args below meth c Q own cc nL g cells slots sz (pc) ls (.int x :: st) h := fun F H locs lsC hP hS hz hl => by subst hp; exact lv_i2l F.1 F.2.1 hd rfl (k F H locs lsC hP hS hz hl)
theorem a_i2d {x : Int32} (hd : decode cc pc = .ok (.i2d, 1)) (hp : pc + 1 = pc')  (k : a_W p l e R s m args below meth c Q own cc nL g cells slots sz (pc') ls (.double (FP.i2d x) :: st) h) : a_W p l e R s m args below meth c Q own cc nL g cells slots sz (pc) ls (.int x :: st) h := fun F H locs lsC hP hS hz hl => by subst hp; exact lv_i2d F.1 F.2.1 hd  (k F H locs lsC hP hS hz hl)
theorem a_d2l {x : UInt64} (hd : decode cc pc = .ok (.d2l, 1)) (hp : pc + 1 = pc')  (k : a_W p l e R s m args below meth c Q own cc nL g cells slots sz (pc') ls (.long (FP.d2l x) :: st) h) : a_W p l e R s m args below meth c Q own cc nL g cells slots sz (pc) ls (.double x :: st) h := fun F H locs lsC hP hS hz hl => by subst hp; exact lv_d2l F.1 F.2.1 hd  (k F H locs lsC hP hS hz hl)
theorem a_ladd {x y : Int64} (hd : decode cc pc = .ok (.ladd, 1)) (hp : pc + 1 = pc')  (k : a_W p l e R s m args below meth c Q own cc nL g cells slots sz (pc') ls (.long (x + y) :: st) h) : a_W p l e R s m args below meth c Q own cc nL g cells slots sz (pc) ls (.long y :: .long x :: st) h := fun F H locs lsC hP hS hz hl => by subst hp; exact lv_ladd F.1 F.2.1 hd  (k F H locs lsC hP hS hz hl)
theorem a_lsub {x y : Int64} (hd : decode cc pc = .ok (.lsub, 1)) (hp : pc + 1 = pc')  (k : a_W p l e R s m args below meth c Q own cc nL g cells slots sz (pc') ls (.long (x - y) :: st) h) : a_W p l e R s m args below meth c Q own cc nL g cells slots sz (pc) ls (.long y :: .long x :: st) h := fun F H locs lsC hP hS hz hl => by subst hp; exact lv_lsub F.1 F.2.1 hd  (k F H locs lsC hP hS hz hl)
theorem a_lmul {x y : Int64} (hd : decode cc pc = .ok (.lmul, 1)) (hp : pc + 1 = pc')  (k : a_W p l e R s m args below meth c Q own cc nL g cells slots sz (pc') ls (.long (x * y) :: st) h) : a_W p l e R s m args below meth c Q own cc nL g cells slots sz (pc) ls (.long y :: .long x :: st) h := fun F H locs lsC hP hS hz hl => by subst hp; exact lv_lmul F.1 F.2.1 hd  (k F H locs lsC hP hS hz hl)
theorem a_lor {x y : Int64} (hd : decode cc pc = .ok (.lor, 1)) (hp : pc + 1 = pc')  (k : a_W p l e R s m args below meth c Q own cc nL g cells slots sz (pc') ls (.long (x ||| y) :: st) h) : a_W p l e R s m args below meth c Q own cc nL g cells slots sz (pc) ls (.long y :: .long x :: st) h := fun F H locs lsC hP hS hz hl => by subst hp; exact lv_lor F.1 F.2.1 hd  (k F H locs lsC hP hS hz hl)
theorem a_lshl {x : Int64} {y : Int32} (hd : decode cc pc = .ok (.lshl, 1)) (hp : pc + 1 = pc')  (k : a_W p l e R s m args below meth c Q own cc nL g cells slots sz (pc') ls (.long (x <<< (y.toInt64 &&& 63)) :: st) h) : a_W p l e R s m args below meth c Q own cc nL g cells slots sz (pc) ls (.int y :: .long x :: st) h := fun F H locs lsC hP hS hz hl => by subst hp; exact lv_lshl F.1 F.2.1 hd rfl (k F H locs lsC hP hS hz hl)
theorem a_ddiv {x y : UInt64} (hd : decode cc pc = .ok (.ddiv, 1)) (hp : pc + 1 = pc') (hne : vf_n64 (FP.ddiv x y)) (k : a_W p l e R s m args below meth c Q own cc nL g cells slots sz (pc') ls (.double (FP.ddiv x y) :: st) h) : a_W p l e R s m args below meth c Q own cc nL g cells slots sz (pc) ls (.double y :: .double x :: st) h := fun F H locs lsC hP hS hz hl => by subst hp; exact lv_ddiv F.1 F.2.1 hd hne (k F H locs lsC hP hS hz hl)
theorem a_dmul {x y : UInt64} (hd : decode cc pc = .ok (.dmul, 1)) (hp : pc + 1 = pc') (hne : vf_n64 (FP.dmul x y)) (k : a_W p l e R s m args below meth c Q own cc nL g cells slots sz (pc') ls (.double (FP.dmul x y) :: st) h) : a_W p l e R s m args below meth c Q own cc nL g cells slots sz (pc) ls (.double y :: .double x :: st) h := fun F H locs lsC hP hS hz hl => by subst hp; exact lv_dmul F.1 F.2.1 hd hne (k F H locs lsC hP hS hz hl)
theorem a_dsub {x y : UInt64} (hd : decode cc pc = .ok (.dsub, 1)) (hp : pc + 1 = pc') (hne : vf_n64 (FP.dsub x y)) (k : a_W p l e R s m args below meth c Q own cc nL g cells slots sz (pc') ls (.double (FP.dsub x y) :: st) h) : a_W p l e R s m args below meth c Q own cc nL g cells slots sz (pc) ls (.double y :: .double x :: st) h := fun F H locs lsC hP hS hz hl => by subst hp; exact lv_dsub F.1 F.2.1 hd hne (k F H locs lsC hP hS hz hl)
theorem a_dcmp {x y : UInt64} {op : CmpOp} (hd : decode cc pc = .ok (.dcmp op, 1)) (hp : pc + 1 = pc')  (k : a_W p l e R s m args below meth c Q own cc nL g cells slots sz (pc') ls (.int (Op.cmpValue (FP.dcmp x y) op) :: st) h) : a_W p l e R s m args below meth c Q own cc nL g cells slots sz (pc) ls (.double y :: .double x :: st) h := fun F H locs lsC hP hS hz hl => by subst hp; exact lv_dcmp F.1 F.2.1 hd  (k F H locs lsC hP hS hz hl)
theorem a_lcmp {x y : Int64} (hd : decode cc pc = .ok (.lcmp, 1)) (hp : pc + 1 = pc') (k : a_W p l e R s m args below meth c Q own cc nL g cells slots sz (pc') ls (.int (lg_cmp x y) :: st) h) : a_W p l e R s m args below meth c Q own cc nL g cells slots sz (pc) ls (.long y :: .long x :: st) h := fun F H locs lsC hP hS hz hl => by subst hp; exact W.lcmp F.1 F.2.1 hd (k F H locs lsC hP hS hz hl)
theorem a_goto {off : Int} (tgt : Nat) (hd : decode cc pc = .ok (.goto off, 3)) (ht : (pc : Int) + off = (tgt : Int)) (k : a_W p l e R s m args below meth c Q own cc nL g cells slots sz (tgt) ls (st) h) : a_W p l e R s m args below meth c Q own cc nL g cells slots sz (pc) ls (st) h := fun F H locs lsC hP hS hz hl => lv_goto F.1 F.2.1 hd ht (k F H locs lsC hP hS hz hl)
theorem a_icmp_eq {x y : Int32} {off : Int} (tgt : Nat) (hd : decode cc pc = .ok (.if_icmp .eq off, 3)) (ht : (pc : Int) + off = (tgt : Int)) (hp : pc + 3 = pc') (kt : x = y → a_W p l e R s m args below meth c Q own cc nL g cells slots sz (tgt) ls (st) h) (kf : ¬ x = y → a_W p l e R s m args below meth c Q own cc nL g cells slots sz (pc') ls (st) h) : a_W p l e R s m args below meth c Q own cc nL g cells slots sz (pc) ls (.int y :: .int x :: st) h := fun F H locs lsC hP hS hz hl => by subst hp; exact lv_icmp_eq F.1 F.2.1 hd ht (fun q => kt q F H locs lsC hP hS hz hl) (fun q => kf q F H locs lsC hP hS hz hl)
theorem a_if_eq {x : Int32} {off : Int} (tgt : Nat) (hd : decode cc pc = .ok (.ifCond .eq off, 3)) (ht : (pc : Int) + off = (tgt : Int)) (hp : pc + 3 = pc') (kt : x = 0 → a_W p l e R s m args below meth c Q own cc nL g cells slots sz (tgt) ls (st) h) (kf : ¬ x = 0 → a_W p l e R s m args below meth c Q own cc nL g cells slots sz (pc') ls (st) h) : a_W p l e R s m args below meth c Q own cc nL g cells slots sz (pc) ls (.int x :: st) h := fun F H locs lsC hP hS hz hl => by subst hp; exact lv_if_eq F.1 F.2.1 hd ht (fun q => kt q F H locs lsC hP hS hz hl) (fun q => kf q F H locs lsC hP hS hz hl)
theorem a_icmp_ne {x y : Int32} {off : Int} (tgt : Nat) (hd : decode cc pc = .ok (.if_icmp .ne off, 3)) (ht : (pc : Int) + off = (tgt : Int)) (hp : pc + 3 = pc') (kt : ¬ x = y → a_W p l e R s m args below meth c Q own cc nL g cells slots sz (tgt) ls (st) h) (kf : x = y → a_W p l e R s m args below meth c Q own cc nL g cells slots sz (pc') ls (st) h) : a_W p l e R s m args below meth c Q own cc nL g cells slots sz (pc) ls (.int y :: .int x :: st) h := fun F H locs lsC hP hS hz hl => by subst hp; exact lv_icmp_ne F.1 F.2.1 hd ht (fun q => kt q F H locs lsC hP hS hz hl) (fun q => kf q F H locs lsC hP hS hz hl)
theorem a_if_ne {x : Int32} {off : Int} (tgt : Nat) (hd : decode cc pc = .ok (.ifCond .ne off, 3)) (ht : (pc : Int) + off = (tgt : Int)) (hp : pc + 3 = pc') (kt : ¬ x = 0 → a_W p l e R s m args below meth c Q own cc nL g cells slots sz (tgt) ls (st) h) (kf : x = 0 → a_W p l e R s m args below meth c Q own cc nL g cells slots sz (pc') ls (st) h) : a_W p l e R s m args below meth c Q own cc nL g cells slots sz (pc) ls (.int x :: st) h := fun F H locs lsC hP hS hz hl => by subst hp; exact lv_if_ne F.1 F.2.1 hd ht (fun q => kt q F H locs lsC hP hS hz hl) (fun q => kf q F H locs lsC hP hS hz hl)
theorem a_icmp_lt {x y : Int32} {off : Int} (tgt : Nat) (hd : decode cc pc = .ok (.if_icmp .lt off, 3)) (ht : (pc : Int) + off = (tgt : Int)) (hp : pc + 3 = pc') (kt : x < y → a_W p l e R s m args below meth c Q own cc nL g cells slots sz (tgt) ls (st) h) (kf : ¬ x < y → a_W p l e R s m args below meth c Q own cc nL g cells slots sz (pc') ls (st) h) : a_W p l e R s m args below meth c Q own cc nL g cells slots sz (pc) ls (.int y :: .int x :: st) h := fun F H locs lsC hP hS hz hl => by subst hp; exact lv_icmp_lt F.1 F.2.1 hd ht (fun q => kt q F H locs lsC hP hS hz hl) (fun q => kf q F H locs lsC hP hS hz hl)
theorem a_if_lt {x : Int32} {off : Int} (tgt : Nat) (hd : decode cc pc = .ok (.ifCond .lt off, 3)) (ht : (pc : Int) + off = (tgt : Int)) (hp : pc + 3 = pc') (kt : x < 0 → a_W p l e R s m args below meth c Q own cc nL g cells slots sz (tgt) ls (st) h) (kf : ¬ x < 0 → a_W p l e R s m args below meth c Q own cc nL g cells slots sz (pc') ls (st) h) : a_W p l e R s m args below meth c Q own cc nL g cells slots sz (pc) ls (.int x :: st) h := fun F H locs lsC hP hS hz hl => by subst hp; exact lv_if_lt F.1 F.2.1 hd ht (fun q => kt q F H locs lsC hP hS hz hl) (fun q => kf q F H locs lsC hP hS hz hl)
theorem a_icmp_ge {x y : Int32} {off : Int} (tgt : Nat) (hd : decode cc pc = .ok (.if_icmp .ge off, 3)) (ht : (pc : Int) + off = (tgt : Int)) (hp : pc + 3 = pc') (kt : y ≤ x → a_W p l e R s m args below meth c Q own cc nL g cells slots sz (tgt) ls (st) h) (kf : ¬ y ≤ x → a_W p l e R s m args below meth c Q own cc nL g cells slots sz (pc') ls (st) h) : a_W p l e R s m args below meth c Q own cc nL g cells slots sz (pc) ls (.int y :: .int x :: st) h := fun F H locs lsC hP hS hz hl => by subst hp; exact lv_icmp_ge F.1 F.2.1 hd ht (fun q => kt q F H locs lsC hP hS hz hl) (fun q => kf q F H locs lsC hP hS hz hl)
theorem a_if_ge {x : Int32} {off : Int} (tgt : Nat) (hd : decode cc pc = .ok (.ifCond .ge off, 3)) (ht : (pc : Int) + off = (tgt : Int)) (hp : pc + 3 = pc') (kt : 0 ≤ x → a_W p l e R s m args below meth c Q own cc nL g cells slots sz (tgt) ls (st) h) (kf : ¬ 0 ≤ x → a_W p l e R s m args below meth c Q own cc nL g cells slots sz (pc') ls (st) h) : a_W p l e R s m args below meth c Q own cc nL g cells slots sz (pc) ls (.int x :: st) h := fun F H locs lsC hP hS hz hl => by subst hp; exact lv_if_ge F.1 F.2.1 hd ht (fun q => kt q F H locs lsC hP hS hz hl) (fun q => kf q F H locs lsC hP hS hz hl)
theorem a_icmp_gt {x y : Int32} {off : Int} (tgt : Nat) (hd : decode cc pc = .ok (.if_icmp .gt off, 3)) (ht : (pc : Int) + off = (tgt : Int)) (hp : pc + 3 = pc') (kt : y < x → a_W p l e R s m args below meth c Q own cc nL g cells slots sz (tgt) ls (st) h) (kf : ¬ y < x → a_W p l e R s m args below meth c Q own cc nL g cells slots sz (pc') ls (st) h) : a_W p l e R s m args below meth c Q own cc nL g cells slots sz (pc) ls (.int y :: .int x :: st) h := fun F H locs lsC hP hS hz hl => by subst hp; exact lv_icmp_gt F.1 F.2.1 hd ht (fun q => kt q F H locs lsC hP hS hz hl) (fun q => kf q F H locs lsC hP hS hz hl)
theorem a_if_gt {x : Int32} {off : Int} (tgt : Nat) (hd : decode cc pc = .ok (.ifCond .gt off, 3)) (ht : (pc : Int) + off = (tgt : Int)) (hp : pc + 3 = pc') (kt : 0 < x → a_W p l e R s m args below meth c Q own cc nL g cells slots sz (tgt) ls (st) h) (kf : ¬ 0 < x → a_W p l e R s m args below meth c Q own cc nL g cells slots sz (pc') ls (st) h) : a_W p l e R s m args below meth c Q own cc nL g cells slots sz (pc) ls (.int x :: st) h := fun F H locs lsC hP hS hz hl => by subst hp; exact lv_if_gt F.1 F.2.1 hd ht (fun q => kt q F H locs lsC hP hS hz hl) (fun q => kf q F H locs lsC hP hS hz hl)
theorem a_icmp_le {x y : Int32} {off : Int} (tgt : Nat) (hd : decode cc pc = .ok (.if_icmp .le off, 3)) (ht : (pc : Int) + off = (tgt : Int)) (hp : pc + 3 = pc') (kt : x ≤ y → a_W p l e R s m args below meth c Q own cc nL g cells slots sz (tgt) ls (st) h) (kf : ¬ x ≤ y → a_W p l e R s m args below meth c Q own cc nL g cells slots sz (pc') ls (st) h) : a_W p l e R s m args below meth c Q own cc nL g cells slots sz (pc) ls (.int y :: .int x :: st) h := fun F H locs lsC hP hS hz hl => by subst hp; exact lv_icmp_le F.1 F.2.1 hd ht (fun q => kt q F H locs lsC hP hS hz hl) (fun q => kf q F H locs lsC hP hS hz hl)
theorem a_if_le {x : Int32} {off : Int} (tgt : Nat) (hd : decode cc pc = .ok (.ifCond .le off, 3)) (ht : (pc : Int) + off = (tgt : Int)) (hp : pc + 3 = pc') (kt : x ≤ 0 → a_W p l e R s m args below meth c Q own cc nL g cells slots sz (tgt) ls (st) h) (kf : ¬ x ≤ 0 → a_W p l e R s m args below meth c Q own cc nL g cells slots sz (pc') ls (st) h) : a_W p l e R s m args below meth c Q own cc nL g cells slots sz (pc) ls (.int x :: st) h := fun F H locs lsC hP hS hz hl => by subst hp; exact lv_if_le F.1 F.2.1 hd ht (fun q => kt q F H locs lsC hP hS hz hl) (fun q => kf q F H locs lsC hP hS hz hl)
theorem a_ifnull {i : Nat} {off : Int} (hd : decode cc pc = .ok (.ifnull off, 3)) (hp : pc + 3 = pc') (k : a_W p l e R s m args below meth c Q own cc nL g cells slots sz (pc') ls (st) h) : a_W p l e R s m args below meth c Q own cc nL g cells slots sz (pc) ls (.ref i :: st) h := fun F H locs lsC hP hS hz hl => by subst hp; exact lv_ifnull F.1 F.2.1 hd (k F H locs lsC hP hS hz hl)
theorem a_ifnullN {off : Int} (tgt : Nat) (hd : decode cc pc = .ok (.ifnull off, 3)) (ht : (pc : Int) + off = (tgt : Int)) (k : a_W p l e R s m args below meth c Q own cc nL g cells slots sz (tgt) ls (st) h) : a_W p l e R s m args below meth c Q own cc nL g cells slots sz (pc) ls (.null :: st) h := fun F H locs lsC hP hS hz hl => lv_ifnullN F.1 F.2.1 hd ht (k F H locs lsC hP hS hz hl)
theorem a_null (hd : decode cc pc = .ok (.aconst_null, 1)) (hp : pc + 1 = pc') (k : a_W p l e R s m args below meth c Q own cc nL g cells slots sz (pc') ls (.null :: st) h) : a_W p l e R s m args below meth c Q own cc nL g cells slots sz (pc) ls (st) h := fun F H locs lsC hP hS hz hl => by subst hp; exact lv_null F.1 F.2.1 hd (k F H locs lsC hP hS hz hl)
theorem a_lookup {dflt : Int} {ps : Array (Int × Int)} {len : Nat} {x : Int32} {off : Int} (tgt : Nat) (hd : decode cc pc = .ok (.lookupswitch dflt ps, len)) (hs : (ps.toList.zip (ps.toList.drop 1)).all (fun (a, next) => a.1 < next.1) = true) (ho : Op.lookupswitch.offset ps.toList dflt x.toInt = off) (ht : (pc : Int) + off = (tgt : Int)) (k : a_W p l e R s m args below meth c Q own cc nL g cells slots sz (tgt) ls (st) h) : a_W p l e R s m args below meth c Q own cc nL g cells slots sz (pc) ls (.int x :: st) h := fun F H locs lsC hP hS hz hl => lv_lookup F.1 F.2.1 hd hs ho ht (k F H locs lsC hP hS hz hl)
theorem a_tableOut {dflt lo hi : Int} {offs : Array Int} {len : Nat} {x : Int32} (tgt : Nat) (hd : decode cc pc = .ok (.tableswitch dflt lo hi offs, len)) (hx : x.toInt < lo ∨ hi < x.toInt) (ht : (pc : Int) + dflt = (tgt : Int)) (k : a_W p l e R s m args below meth c Q own cc nL g cells slots sz (tgt) ls (st) h) : a_W p l e R s m args below meth c Q own cc nL g cells slots sz (pc) ls (.int x :: st) h := fun F H locs lsC hP hS hz hl => lv_tableOut F.1 F.2.1 hd hx ht (k F H locs lsC hP hS hz hl)
theorem a_tableIn {dflt lo hi : Int} {offs : Array Int} {len : Nat} {x : Int32} {off : Int} (tgt : Nat) (hd : decode cc pc = .ok (.tableswitch dflt lo hi offs, len)) (h1 : ¬ x.toInt < lo) (h2 : ¬ hi < x.toInt) (ho : offs[(x.toInt - lo).toNat]? = some off) (ht : (pc : Int) + off = (tgt : Int)) (k : a_W p l e R s m args below meth c Q own cc nL g cells slots sz (tgt) ls (st) h) : a_W p l e R s m args below meth c Q own cc nL g cells slots sz (pc) ls (.int x :: st) h := fun F H locs lsC hP hS hz hl => lv_tableIn F.1 F.2.1 hd h1 h2 ho ht (k F H locs lsC hP hS hz hl)
theorem a_ldc {idx : Nat} {v : Int32} (hm : Cond.constant own idx v ∈ a_WS) (hd : decode cc pc = .ok (.ldc idx, 2)) (hp : pc + 2 = pc') (k : a_W p l e R s m args below meth c Q own cc nL g cells slots sz (pc') ls (.int v :: st) h) : a_W p l e R s m args below meth c Q own cc nL g cells slots sz (pc) ls (st) h := fun F H locs lsC hP hS hz hl => by subst hp; exact lv_ldc F.1 F.2.1 F.2.2.2.1 (F.2.2.2.2.1 _ hm) hd (k F H locs lsC hP hS hz hl)
theorem a_ldcw {idx : Nat} {v : Int32} (hm : Cond.constant own idx v ∈ a_WS) (hd : decode cc pc = .ok (.ldc_w idx, 3)) (hp : pc + 3 = pc') (k : a_W p l e R s m args below meth c Q own cc nL g cells slots sz (pc') ls (.int v :: st) h) : a_W p l e R s m args below meth c Q own cc nL g cells slots sz (pc) ls (st) h := fun F H locs lsC hP hS hz hl => by subst hp; exact lv_ldcw F.1 F.2.1 F.2.2.2.1 (F.2.2.2.2.1 _ hm) hd (k F H locs lsC hP hS hz hl)
theorem a_ldc2 {idx : Nat} {v : Int64} (hm : Cond.constantLong own idx v ∈ a_WS) (hd : decode cc pc = .ok (.ldc2_w idx, 3)) (hp : pc + 3 = pc') (k : a_W p l e R s m args below meth c Q own cc nL g cells slots sz (pc') ls (.long v :: st) h) : a_W p l e R s m args below meth c Q own cc nL g cells slots sz (pc) ls (st) h := fun F H locs lsC hP hS hz hl => by subst hp; exact lv_ldc2 F.1 F.2.1 F.2.2.2.1 (F.2.2.2.2.1 _ hm) hd (k F H locs lsC hP hS hz hl)
theorem a_ldc2d {idx : Nat} {v : UInt64} (hm : Cond.constantDouble own idx v ∈ a_WS) (hd : decode cc pc = .ok (.ldc2_w idx, 3)) (hp : pc + 3 = pc') (k : a_W p l e R s m args below meth c Q own cc nL g cells slots sz (pc') ls (.double v :: st) h) : a_W p l e R s m args below meth c Q own cc nL g cells slots sz (pc) ls (st) h := fun F H locs lsC hP hS hz hl => by subst hp; exact lv_ldc2d F.1 F.2.1 F.2.2.2.1 (F.2.2.2.2.1 _ hm) hd (k F H locs lsC hP hS hz hl)
theorem a_get {ci k i idx : Nat} {C : String} {T : u_T} {N : Nat} {fs : List Value} {v : Value} (hc : a_cl[ci]? = some (C, T, N)) (hin : ∀ w ∈ u_ws C T N, w ∈ a_WS) (hk : k < N) (hm : Cond.fieldLink own idx (T k).1 (T k).2.1 (T k).2.2.1 ∈ a_WS) (he : h[i]? = some (.inr (ci, fs))) (hv : fs[k]? = some v) (hd : decode cc pc = .ok (.getfield idx, 3)) (hp : pc + 3 = pc') (kk : a_W p l e R s m args below meth c Q own cc nL g cells slots sz (pc') ls (v :: st) h) : a_W p l e R s m args below meth c Q own cc nL g cells slots sz (pc) ls (.ref i :: st) h := fun F H locs lsC hP hS hz hl => by subst hp; exact va_get F.1 F.2.1 F.2.2.2.2.1 hin F.2.2.2.1 F.2.2.2.2.2.2.1 hP.2 i (a_cw_get he) hc k hk (F.2.2.2.2.1 _ hm) (fun _ h => h) (v := a_cv g v) (by rw [List.getElem?_map, hv]; rfl) hd (kk F H locs lsC hP hS hz hl)
theorem a_put {ci k i idx : Nat} {C : String} {T : u_T} {N : Nat} {ty0 : Nat → FieldType} {fs : List Value} {v : Value} {ty : FieldType} (hc : a_cl[ci]? = some (C, T, N)) (hin : ∀ w ∈ u_ws C T N, w ∈ a_WS) (hty : ∀ k, k < N → parseFieldDescriptor (T k).2.2.1 = some (ty0 k)) (hnm : ∀ a, a < N → ∀ b, b < N → a ≠ b → (T a).2.1 ≠ (T b).2.1) (hk : k < N) (hm : Cond.fieldLink own idx (T k).1 (T k).2.1 (T k).2.2.1 ∈ a_WS) (hfin : (T k).2.2.2 = false) (hdt : parseFieldDescriptor (T k).2.2.1 = some ty) (he : h[i]? = some (.inr (ci, fs))) (hlen : k < fs.length) (hn : narrow ty (a_cv g v) = a_cv g v) (hfit : fits ty (a_cv g v) = true) (hd : decode cc pc = .ok (.putfield idx, 3)) (hp : pc + 3 = pc') (kk : a_W p l e R s m args below meth c Q own cc nL g cells slots sz (pc') ls (st) (h.set i (.inr (ci, fs.set k v)))) : a_W p l e R s m args below meth c Q own cc nL g cells slots sz (pc) ls (v :: .ref i :: st) h := by
  intro F H locs lsC hP hS hz hl
  subst hp
  obtain ⟨hx, hb, -, hown, hts, -, hE⟩ := id F
  have hD := a_Dof hE.2.1 hP.1
  have he' := a_cw_get (g := g) he
  have hap := va_apart (own := own) hts hin ty0 hty hnm hE.1 hc
  obtain ⟨r, h1, cell, q1, q2, q3, q4⟩ := hP.2 i _ he'
  have hr : r = (C, T, N) := Option.some.inj (h1.symm.trans hc)
  subst hr
  obtain ⟨hSl, hfc, kC, hkC, hkind⟩ := hE.1.1 ci _ hc
  obtain ⟨cf, kf, fi, f, hi, hsl⟩ := hSl k hk
  have hlay := hts _ (hin _ (u_in_lay hk))
  unfold u_lay at hlay
  rw [if_neg (by rw [hfin]; decide)] at hlay
  have hst := (u_facts hfc hkC (u_lays hts hin hk) hi).1
  have h6 := u_store hfc hkC hkind hlay hi hdt hn hfit
  have hl2 : k < (fs.map (a_cv g)).length := by rw [List.length_map]; exact hlen
  refine W.putK hx hb (f := f) ⟨hown, hts _ hm, ⟨_, _, _, hi⟩, hst⟩ (by rw [q2]; exact h6) q1 q3 (by rw [hsl]; exact k2_hasslot (q4 k hk)) rfl rfl hd fun H' e1 e2 e3 => ?_
  rw [hsl] at e1 ⊢
  have hP1 := hP.2.set hD he' (e := .inr (ci, (fs.map (a_cv g)).set k (a_cv g v))) ⟨_, hc, t_OB.to (V := updV (vp_V (fs.map (a_cv g))) k (a_cv g v)) ⟨_, e1, q2, q3, t_set q4 hap hk (a_cv g v)⟩ (fun j _ => vp_updV_set hl2 (a_cv g v) j)⟩ e3
  refine kk F H' _ lsC ⟨by rw [List.length_set]; exact hP.1, ?_⟩ (hS.put e2 e3 (hD.2 i _ he')) (fun n hn2 => e2.trans (hz n hn2)) hl
  rw [a_cw_set]
  show va_P _ _ ((a_cw g h).set i (a_ad g i, .inr (ci, (fs.set k v).map (a_cv g)))) H'
  rw [List.map_set]
  exact hP1
theorem a_putF {ci k i idx : Nat} {C : String} {T : u_T} {N : Nat} {ty0 : Nat → FieldType} {fs : List Value} {v : Value} {ty : FieldType} (hc : a_cl[ci]? = some (C, T, N)) (hin : ∀ w ∈ u_ws C T N, w ∈ a_WS) (hty : ∀ k, k < N → parseFieldDescriptor (T k).2.2.1 = some (ty0 k)) (hnm : ∀ a, a < N → ∀ b, b < N → a ≠ b → (T a).2.1 ≠ (T b).2.1) (hk : k < N) (hm : Cond.fieldLink own idx (T k).1 (T k).2.1 (T k).2.2.1 ∈ a_WS) (hfin : (T k).2.2.2 = true) (hin2 : meth.name = "<init>") (hdecl : (T k).1 = own) (hdt : parseFieldDescriptor (T k).2.2.1 = some ty) (he : h[i]? = some (.inr (ci, fs))) (hlen : k < fs.length) (hn : narrow ty (a_cv g v) = a_cv g v) (hfit : fits ty (a_cv g v) = true) (hd : decode cc pc = .ok (.putfield idx, 3)) (hp : pc + 3 = pc') (kk : a_W p l e R s m args below meth c Q own cc nL g cells slots sz (pc') ls (st) (h.set i (.inr (ci, fs.set k v)))) : a_W p l e R s m args below meth c Q own cc nL g cells slots sz (pc) ls (v :: .ref i :: st) h := by
  intro F H locs lsC hP hS hz hl
  subst hp
  obtain ⟨hx, hb, -, hown, hts, -, hE⟩ := id F
  have hD := a_Dof hE.2.1 hP.1
  have he' := a_cw_get (g := g) he
  have hap := va_apart (own := own) hts hin ty0 hty hnm hE.1 hc
  obtain ⟨r, h1, cell, q1, q2, q3, q4⟩ := hP.2 i _ he'
  have hr : r = (C, T, N) := Option.some.inj (h1.symm.trans hc)
  subst hr
  obtain ⟨hSl, hfc, kC, hkC, hkind⟩ := hE.1.1 ci _ hc
  obtain ⟨cf, kf, fi, f, hi, hsl⟩ := hSl k hk
  have hlay := hts _ (hin _ (u_in_lay hk))
  unfold u_lay at hlay
  rw [if_pos hfin] at hlay
  have hst := (u_facts hfc hkC (u_lays hts hin hk) hi).1
  have hcf : m.cls = cf := by
    obtain ⟨_, _, c', _, _, _, -, -, hf', -, -, -, hown2, -⟩ := Cond.laysFinal_spec hlay
    have e1 : c' = cf := by have := hi.symm.trans hf'; simp at this; exact this.1.symm
    rw [hdecl] at hown2
    rw [← e1]; exact Option.some.inj (hown.symm.trans hown2)
  have h6 := u_fits hfc hkC hkind (Or.inr hlay) hi hdt hn hfit
  have hl2 : k < (fs.map (a_cv g)).length := by rw [List.length_map]; exact hlen
  refine W.putFinK hx hb hown (hts _ hm) hi hst hcf hin2 (by rw [q2]; exact h6) q1 q3 (by rw [hsl]; exact k2_hasslot (q4 k hk)) rfl rfl hd fun H' e1 e2 e3 => ?_
  rw [hsl] at e1 ⊢
  have hP1 := hP.2.set hD he' (e := .inr (ci, (fs.map (a_cv g)).set k (a_cv g v))) ⟨_, hc, t_OB.to (V := updV (vp_V (fs.map (a_cv g))) k (a_cv g v)) ⟨_, e1, q2, q3, t_set q4 hap hk (a_cv g v)⟩ (fun j _ => vp_updV_set hl2 (a_cv g v) j)⟩ e3
  refine kk F H' _ lsC ⟨by rw [List.length_set]; exact hP.1, ?_⟩ (hS.put e2 e3 (hD.2 i _ he')) (fun n hn2 => e2.trans (hz n hn2)) hl
  rw [a_cw_set]
  show va_P _ _ ((a_cw g h).set i (a_ad g i, .inr (ci, (fs.set k v).map (a_cv g)))) H'
  rw [List.map_set]
  exact hP1
theorem a_iald {i n : Nat} {x : Int32} {f : Nat → Int32} (he : h[i]? = some (.inl (0, n, .inl f))) (hi : vp_in x n) (hd : decode cc pc = .ok (.iaload, 1)) (hp : pc + 1 = pc') (kk : a_W p l e R s m args below meth c Q own cc nL g cells slots sz (pc') ls (.int (f x.toNatClampNeg) :: st) h) : a_W p l e R s m args below meth c Q own cc nL g cells slots sz (pc) ls (.int x :: .ref i :: st) h := fun F H locs lsC hP hS hz hl => by subst hp; exact va_iald F.1 F.2.1 F.2.2.2.2.2.2.1 hP.2 i 0 (a_cw_get he) rfl hi hd (kk F H locs lsC hP hS hz hl)
theorem a_cald {i n : Nat} {x : Int32} {f : Nat → Int32} (he : h[i]? = some (.inl (1, n, .inl f))) (hi : vp_in x n) (hd : decode cc pc = .ok (.caload, 1)) (hp : pc + 1 = pc') (kk : a_W p l e R s m args below meth c Q own cc nL g cells slots sz (pc') ls (.int (f x.toNatClampNeg) :: st) h) : a_W p l e R s m args below meth c Q own cc nL g cells slots sz (pc) ls (.int x :: .ref i :: st) h := fun F H locs lsC hP hS hz hl => by subst hp; exact va_cald F.1 F.2.1 F.2.2.2.2.2.2.1 hP.2 i 1 (a_cw_get he) rfl hi hd (kk F H locs lsC hP hS hz hl)
theorem a_alen {i kd : Nat} {x : vp_A} {v : Int32} (hkd : kd < 4) (he : h[i]? = some (.inl (kd, x))) (hv : Int32.ofNat x.1 = v) (hd : decode cc pc = .ok (.arraylength, 1)) (hp : pc + 1 = pc') (kk : a_W p l e R s m args below meth c Q own cc nL g cells slots sz (pc') ls (.int v :: st) h) : a_W p l e R s m args below meth c Q own cc nL g cells slots sz (pc) ls (.ref i :: st) h := fun F H locs lsC hP hS hz hl => by
  subst hp
  obtain ⟨ty, hty⟩ : ∃ ty, (a_tys g)[kd]? = some (a_ct g kd, ty) := by
    rcases (show kd = 0 ∨ kd = 1 ∨ kd = 2 ∨ kd = 3 by omega) with rfl | rfl | rfl | rfl <;> exact ⟨_, rfl⟩
  exact va_alen F.1 F.2.1 F.2.2.2.2.2.2.1 hP.2 i kd (a_cw_get he) hty (by obtain ⟨n, f | f | f | f | f⟩ := x <;> exact hv) hd (kk F H locs lsC hP hS hz hl)
theorem a_iast {i n : Nat} {j x : Int32} {f : Nat → Int32} (he : h[i]? = some (.inl (0, n, .inl f))) (hi : vp_in j n) (hd : decode cc pc = .ok (.iastore, 1)) (hp : pc + 1 = pc') (kk : a_W p l e R s m args below meth c Q own cc nL g cells slots sz (pc') ls (st) (h.set i (.inl (0, n, .inl (upd f j.toNatClampNeg x))))) : a_W p l e R s m args below meth c Q own cc nL g cells slots sz (pc) ls (.int x :: .int j :: .ref i :: st) h := by
  intro F H locs lsC hP hS hz hl
  subst hp
  have hD := a_Dof F.2.2.2.2.2.2.2.1 hP.1
  have he' := a_cw_get (g := g) he
  refine W.iast F.1 F.2.1 (hP.2 i _ he') ((F.2.2.2.2.2.2.1.2 0 _ rfl).1 n (fun q => .int (f q))) (fun q => by cases q) (by show ¬ (j < 0 ∨ (arrV _ _ _).slots.size ≤ _); rw [arrV_size]; exact hi) rfl rfl hd fun H1 e1 z1 oq => ?_
  refine kk F H1 _ lsC ⟨by rw [List.length_set]; exact hP.1, ?_⟩ (hS.put z1 oq (hD.2 i _ he')) (fun n hn2 => z1.trans (hz n hn2)) hl
  rw [a_cw_set]
  refine hP.2.set hD he' ?_ oq
  show H1[a_ad g i]? = some (vp_cell _ _)
  rw [e1]
  show some ((vp_cell _ (n, .inl f)).setSlot _ _) = some (vp_cell _ (n, .inl _))
  rw [vp_cell_i, vp_cell_i, arrV_store]
  congr 2
  funext q
  by_cases hq : q = j.toNatClampNeg
  · subst hq
    first
    | (simp [updV, upd]; done)
    | (simp [updV, upd, vp_nar, narrow]; done)
  · simp [updV, upd, hq]
theorem a_cast {i n : Nat} {j x : Int32} {f : Nat → Int32} (he : h[i]? = some (.inl (1, n, .inl f))) (hi : vp_in j n) (hd : decode cc pc = .ok (.castore, 1)) (hp : pc + 1 = pc') (kk : a_W p l e R s m args below meth c Q own cc nL g cells slots sz (pc') ls (st) (h.set i (.inl (1, n, .inl (upd f j.toNatClampNeg (vp_nar .char x)))))) : a_W p l e R s m args below meth c Q own cc nL g cells slots sz (pc) ls (.int x :: .int j :: .ref i :: st) h := by
  intro F H locs lsC hP hS hz hl
  subst hp
  have hD := a_Dof F.2.2.2.2.2.2.2.1 hP.1
  have he' := a_cw_get (g := g) he
  refine W.cast F.1 F.2.1 (hP.2 i _ he') ((F.2.2.2.2.2.2.1.2 1 _ rfl).1 n (fun q => .int (f q))) (fun q => by cases q) (by show ¬ (j < 0 ∨ (arrV _ _ _).slots.size ≤ _); rw [arrV_size]; exact hi) rfl rfl hd fun H1 e1 z1 oq => ?_
  refine kk F H1 _ lsC ⟨by rw [List.length_set]; exact hP.1, ?_⟩ (hS.put z1 oq (hD.2 i _ he')) (fun n hn2 => z1.trans (hz n hn2)) hl
  rw [a_cw_set]
  refine hP.2.set hD he' ?_ oq
  show H1[a_ad g i]? = some (vp_cell _ _)
  rw [e1]
  show some ((vp_cell _ (n, .inl f)).setSlot _ _) = some (vp_cell _ (n, .inl _))
  rw [vp_cell_i, vp_cell_i, arrV_store]
  congr 2
  funext q
  by_cases hq : q = j.toNatClampNeg
  · subst hq
    first
    | (simp [updV, upd]; done)
    | (simp [updV, upd, vp_nar, narrow]; done)
  · simp [updV, upd, hq]
theorem a_aald {i n : Nat} {x : Int32} {v : Nat} {f : Nat → Option Nat} (he : h[i]? = some (.inl (3, n, .inr (.inr (.inr (.inr f)))))) (hi : vp_in x n) (hv : f x.toNatClampNeg = some v) (hd : decode cc pc = .ok (.aaload, 1)) (hp : pc + 1 = pc') (kk : a_W p l e R s m args below meth c Q own cc nL g cells slots sz (pc') ls (.ref v :: st) h) : a_W p l e R s m args below meth c Q own cc nL g cells slots sz (pc) ls (.int x :: .ref i :: st) h := fun F H locs lsC hP hS hz hl => by
  subst hp
  refine va_aldq F.1 F.2.1 F.2.2.2.2.2.2.1 hP.2 i 3 (f := fun j => (f j).map (a_ad g)) (a_cw_get he) rfl hi hd ?_
  have e1 : (f x.toNatClampNeg).map (a_ad g) = some (a_ad g v) := by rw [hv]; rfl
  rw [e1]
  exact kk F H locs lsC hP hS hz hl
theorem a_sub {ls' : List (Nat × Value)} (ks : List Nat) (hk : ks.filterMap (fun k => ls[k]?) = ls') (kk : a_W p l e R s m args below meth c Q own cc nL g cells slots sz (pc) ls' (st) h) : a_W p l e R s m args below meth c Q own cc nL g cells slots sz (pc) ls (st) h := fun F H locs lsC hP hS hz hl => by
  refine kk F H locs lsC hP hS hz ⟨hl.1, hl.2.1, fun q hq => ?_⟩
  subst hk
  obtain ⟨z, hz1, rfl⟩ := List.mem_map.mp hq
  obtain ⟨k, -, hk2⟩ := List.mem_filterMap.mp hz1
  exact hl.2.2 _ (List.mem_map.mpr ⟨z, List.mem_of_getElem? hk2, rfl⟩)
theorem a_widen {k n : Nat} (h1 : cells ≤ k) (h2 : slots ≤ n) (kk : a_W p l e R s m args below meth c Q own cc nL g k n sz (pc) ls (st) h) : a_W p l e R s m args below meth c Q own cc nL g cells slots sz (pc) ls (st) h := fun F H locs lsC hP hS hz hl => W.widen h1 h2 (kk F H locs lsC hP hS hz hl)
theorem a_forget (kk : a_W p l e R s m args below meth c Q own cc nL g cells slots none (pc) ls (st) h) : a_W p l e R s m args below meth c Q own cc nL g cells slots sz (pc) ls (st) h := fun F H locs lsC hP hS hz hl => kk F H locs lsC hP hS (fun n hn => nomatch hn) hl
theorem a_jn {α : Type} {f : Option Int32} {k : Int32 → Option α} {o : α} (hf : f.bind k = some o) (pcJ : Nat) {st2 : List Value} (h1 : ∀ x, f = some x → k x = some o → a_W p l e R s m args below meth c Q own cc nL g cells slots sz (pcJ) ls (.int x :: st2) h) (h2 : ∀ x, f = some x → a_W p l e R s m args below meth c Q own cc nL g cells slots sz (pcJ) ls (.int x :: st2) h → a_W p l e R s m args below meth c Q own cc nL g cells slots sz (pc) ls (st) h) : a_W p l e R s m args below meth c Q own cc nL g cells slots sz (pc) ls (st) h := by
  obtain ⟨x, e, q⟩ := Option.bind_eq_some_iff.mp hf
  exact h2 x e (h1 x e q)
theorem a_resz {n0 k0 : Nat} (hs0 : s.heap.size = a_B g + n0) (hk : h.length = n0 + k0) (hpos : 0 < h.length) (hlm : h.length ≤ 1000) (kk : a_W p l e R s m args below meth c Q own cc nL g k0 slots (some h.length) pc ls st h) : a_W p l e R s m args below meth c Q own cc nL g k0 slots sz pc ls st h := by
  intro F H locs lsC hP hS hz hl T hT X
  have h1 := X.heapSize
  rw [hT, hs0] at h1
  obtain ⟨j, hj⟩ : ∃ j, h.length = j + 1 := ⟨h.length - 1, by omega⟩
  have h2 : a_B g + j < H.size := by
    have hje : h[j]? = some (h[j]'(by omega)) := List.getElem?_eq_getElem _
    have h3 := (hP.2 j _ (a_cw_get hje)).lt
    have h4 := F.2.2.2.2.2.2.2.1 j (by omega)
    have h5 : a_ad g j < H.size := h3
    omega
  exact kk F H locs lsC hP hS (fun m hm => by cases hm; omega) hl T hT X
end AR
