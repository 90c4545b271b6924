/-! contracts over the abstract layer, entering, returning, calling -/
theorem a_sl_len (g : a_G) (vs : List Value) : (lg_sl (vs.map (a_cv g))).length = (lg_sl vs).length := by
  induction vs with
  | nil => rfl
  | cons v vs ih =>
    unfold lg_sl at ih ⊢
    rw [List.map_cons, List.flatMap_cons, List.flatMap_cons, List.length_append, List.length_append, ih, a_cat]
    by_cases hc : v.category = 2 <;> simp [hc]
theorem a_args_map (g : a_G) (vs : List Value) (i : Nat) : lv_args i (vs.map (a_cv g)) = (lv_args i vs).map (a_lv g) := by
  induction vs generalizing i with
  | nil => rfl
  | cons v vs ih =>
    rw [List.map_cons]
    unfold lv_args
    rw [List.map_cons, ih, a_cat]
    rfl
def a_Q (g : a_G) (szO : Option Nat) (post : Option Value → List va_E → Prop) : Array Value → State → Outcome → State → Prop := fun _ st oc t => (∃ (r : Option Value) (h' : List va_E), oc = .returned (r.map (a_cv g)) ∧ post r h' ∧ a_HP g h' t.heap ∧ a_SZ g szO t.heap) ∧ va_F (a_A g) st t
def a_X (g : a_G) (post : String → List va_E → Prop) : String → State → State → Prop := fun E st t => (∃ h' : List va_E, post E h' ∧ a_HP g h' t.heap) ∧ va_F (a_A g) st t
def a_Pre (g : a_G) (av : List Value) (h : List va_E) (szI : Option Nat) : Array Value → State → Prop := va_Pc (av.map (a_cv g)) (fun U => a_E g U ∧ a_HP g h U.heap ∧ a_SZ g szI U.heap)
/-- a contract of a method that throws nothing -/
def a_CT (l : Launch) (g : a_G) (y : MethodName) (bytes : ByteArray) (maxL : Nat) (ret : Option FieldType) (rm : Room) (av : List Value) (h : List va_E) (szI szO : Option Nat) (post : Option Value → List va_E → Prop) : Prop :=
  Met l y (.code y bytes maxL ret :: a_WS) rm (a_Pre g av h szI) (a_Q g szO post) rm.cells rm.slots (a_A g)
/-- .. of one that returns or throws -/
def a_CX (l : Launch) (g : a_G) (y : MethodName) (bytes : ByteArray) (maxL : Nat) (ret : Option FieldType) (rm : Room) (av : List Value) (h : List va_E) (post : Option Value → List va_E → Prop) (postX : String → List va_E → Prop) : Prop :=
  vx_Met l y (.code y bytes maxL ret :: a_WS) rm (a_Pre g av h none) (a_Q g none post) (a_X g postX) rm.cells rm.slots (a_A g)
theorem a_Pre_blind {g : a_G} {av : List Value} {h : List va_E} {szI : Option Nat} : FrameBlind (a_Pre g av h szI) := fun a U gg mk q => by
  obtain ⟨q1, q2, q3, q4⟩ := q
  exact ⟨q1, a_E.same (u := U) (U := U.calling gg mk a) rfl rfl q2, q3, q4⟩
theorem a_good {ws : List Cond} {y : MethodName} {bytes : ByteArray} {maxL : Nat} {ret : Option FieldType} (hw : ∀ w ∈ ws, w ∈ a_WS) (hc : Cond.code y bytes maxL ret ∈ a_WS) : GoodIn a_WS (ws ++ (.code y bytes maxL ret :: a_WS)) := by
  have key : ∀ w ∈ a_WS, w ∈ a_WS ∧ ((w.onTables && w.keeps) = true ∨ ∃ ty, w = .arrayClass ty) := fun w h => ⟨h, good_of_word (a_WS_good h)⟩
  intro w h
  rcases List.mem_append.mp h with h | h
  · exact key w (hw w h)
  · rcases List.mem_cons.mp h with rfl | h
    · exact key _ hc
    · exact key w h
section AE
variable {l : Launch} {g : a_G} {y : MethodName} {bytes : ByteArray} {maxL : Nat} {ret : Option FieldType} {rm : Room} {av : List Value} {h : List va_E} {szI szO : Option Nat} {own : String} {post : Option Value → List va_E → Prop} {postX : String → List va_E → Prop}
theorem a_enter (hy : plainName y.cls = true ∧ y.cls = own ∧ (lg_sl av).length ≤ maxL)
    (body : ∀ (p : Program) (e : Env) (s : State) (m : MethodId) (args : Array Value) (below : List Frame) (meth : Method) (c : Code), meth.sig.returnType = ret → meth.name = y.name → a_W p l e rm s m args below meth c (MQ below (a_Q g szO post) args s rm.cells rm.slots (a_A g)) own bytes maxL g 0 0 szI 0 (lv_args 0 av) [] h) : a_CT l g y bytes maxL ret rm av h szI szO post := by
  refine Met.ofW (cc := bytes) (maxL := maxL) (ret := ret) hy.1 rfl ?_
  intro p e s m args below meth c s₁ B hml hv
  obtain ⟨rfl, hE, hP, hz⟩ := hv
  have hts := atoms_spec (ws := .code y bytes maxL ret :: a_WS) B.pre
  have hown : s.vm.findClass own = some m.cls := by rw [← hy.2.1]; exact findClass_of_methodNamed B.named
  have hin : meth.name = y.name := (name_of_methodNamed B.named B.method).1
  have hl := lv_entry (av.map (a_cv g)) (n := maxL) (by rw [a_sl_len]; exact hy.2.2)
  rw [a_args_map] at hl
  rw [lg_entry_eq]
  exact body p e s m _ below meth c B.returns hin ⟨B.exec, B.bytes, hml, hown, fun w hw => hts w (List.mem_cons_of_mem _ hw), B.notSynchronized, hE⟩ s.heap [] _ hP va_S.rf hz hl
theorem a_enterX (hy : plainName y.cls = true ∧ y.cls = own ∧ (lg_sl av).length ≤ maxL)
    (body : ∀ (p : Program) (e : Env) (s : State) (m : MethodId) (args : Array Value) (below : List Frame) (meth : Method) (c : Code), meth.sig.returnType = ret → (∀ x ∈ c.exceptionTable.toList, False) → a_W p l e rm s m args below meth c (vx_MQ below (a_Q g none post) (a_X g postX) args s rm.cells rm.slots (a_A g)) own bytes maxL g 0 0 none 0 (lv_args 0 av) [] h) : a_CX l g y bytes maxL ret rm av h post postX := by
  refine vx_ofW (cc := bytes) (maxL := maxL) (ret := ret) hy.1 rfl ?_
  intro p e s m args below meth c s₁ B hml hnx hv
  obtain ⟨rfl, hE, hP, hz⟩ := hv
  have hts := atoms_spec (ws := .code y bytes maxL ret :: a_WS) B.pre
  have hown : s.vm.findClass own = some m.cls := by rw [← hy.2.1]; exact findClass_of_methodNamed B.named
  have hl := lv_entry (av.map (a_cv g)) (n := maxL) (by rw [a_sl_len]; exact hy.2.2)
  rw [a_args_map] at hl
  rw [lg_entry_eq]
  exact body p e s m _ below meth c B.returns hnx ⟨B.exec, B.bytes, hml, hown, fun w hw => hts w (List.mem_cons_of_mem _ hw), B.notSynchronized, hE⟩ s.heap [] _ hP va_S.rf hz hl
theorem a_enterS (hy : plainName y.cls = true ∧ y.cls = own ∧ (lg_sl av).length ≤ maxL)
    (body : ∀ (p : Program) (e : Env) (s : State) (m : MethodId) (args : Array Value) (below : List Frame) (meth : Method) (c : Code), meth.sig.returnType = ret → (∀ n, szI = some n → s.heap.size = a_B g + n) → a_W p l e rm s m args below meth c (MQ below (a_Q g szO post) args s rm.cells rm.slots (a_A g)) own bytes maxL g 0 0 szI 0 (lv_args 0 av) [] h) : a_CT l g y bytes maxL ret rm av h szI szO post := by
  refine Met.ofW (cc := bytes) (maxL := maxL) (ret := ret) hy.1 rfl ?_
  intro p e s m args below meth c s₁ B hml hv
  obtain ⟨rfl, hE, hP, hz⟩ := hv
  have hts := atoms_spec (ws := .code y bytes maxL ret :: a_WS) B.pre
  have hown : s.vm.findClass own = some m.cls := by rw [← hy.2.1]; exact findClass_of_methodNamed B.named
  have hl := lv_entry (av.map (a_cv g)) (n := maxL) (by rw [a_sl_len]; exact hy.2.2)
  rw [a_args_map] at hl
  rw [lg_entry_eq]
  exact body p e s m _ below meth c B.returns hz ⟨B.exec, B.bytes, hml, hown, fun w hw => hts w (List.mem_cons_of_mem _ hw), B.notSynchronized, hE⟩ s.heap [] _ hP va_S.rf hz hl
theorem a_CT_mono {post2 : Option Value → List va_E → Prop} (hM : a_CT l g y bytes maxL ret rm av h szI szO post) (hp : ∀ r h', post r h' → post2 r h') : a_CT l g y bytes maxL ret rm av h szI szO post2 := by
  unfold a_CT Met at hM ⊢
  refine Jvm.Free.MetFree.mono hM (fun _ _ h => h) (fun _ _ _ _ _ h => h) (fun a s o t _ hq => ?_)
  obtain ⟨⟨⟨r, h', h1, h2, h3⟩, h4⟩, h5⟩ := hq
  exact ⟨⟨⟨r, h', h1, hp r h' h2, h3⟩, h4⟩, h5⟩
end AE
section AC
variable {p : Program} {l : Launch} {e : Env} {R : Room} {s : State} {m : MethodId} {args : Array Value} {below : List Frame} {meth : Method} {c : Code} {Q : State → Prop} {own : String} {cc : ByteArray} {nL : Nat} {g : a_G} {cells slots : Nat} {sz : Option Nat} {pc pc' : Nat} {ls : List (Nat × Value)} {st : List Value} {h : List va_E}
theorem a_fin {post : Option Value → List va_E → Prop} {r : Option Value} {H : Heap} {locs : List Loc} {t : State} (hq : post r h) (hP : a_HP g h H) (hS : va_S (a_A g) s.heap H locs) (hz : a_SZ g sz H) (ht : t.heap = H) : a_Q g sz post args s (.returned (r.map (a_cv g))) t := ⟨⟨r, h, rfl, hq, by rw [ht]; exact hP, by rw [ht]; exact hz⟩, hS.F ht⟩

theorem a_iret {v : Int32} {post : Option Value → List va_E → Prop} (hr : meth.sig.returnType = some .int)  (hq : post (some (.int v)) h) (hd : decode cc pc = .ok (.ireturn, 1)) : a_W p l e R s m args below meth c (MQ below (a_Q g sz post) args s cells slots (a_A g)) own cc nL g cells slots sz pc ls [.int v] h := fun F H locs lsC hP hS hz hl => W.iret F.1 F.2.1 hr  (fun t ht hW => a_fin (r := (some (.int v))) hq hP hS hz ht) hS.2.2 hd F.2.2.2.2.2.1
theorem a_iretX {v : Int32} {post : Option Value → List va_E → Prop} {XC : String → State → State → Prop} (hr : meth.sig.returnType = some .int)  (hq : post (some (.int v)) h) (hd : decode cc pc = .ok (.ireturn, 1)) : a_W p l e R s m args below meth c (vx_MQ below (a_Q g sz post) XC args s cells slots (a_A g)) own cc nL g cells slots sz pc ls [.int v] h := fun F H locs lsC hP hS hz hl => vx_ret (a_iret hr  hq hd F H locs lsC hP hS hz hl)
theorem a_zret {v : Int32} {ty : FieldType} {post : Option Value → List va_E → Prop} (hr : meth.sig.returnType = some ty) (hn : narrow ty (.int v) = .int v) (hq : post (some (.int v)) h) (hd : decode cc pc = .ok (.ireturn, 1)) : a_W p l e R s m args below meth c (MQ below (a_Q g sz post) args s cells slots (a_A g)) own cc nL g cells slots sz pc ls [.int v] h := fun F H locs lsC hP hS hz hl => W.zret F.1 F.2.1 hr hn (fun t ht hW => a_fin (r := (some (.int v))) hq hP hS hz ht) hS.2.2 hd F.2.2.2.2.2.1
theorem a_zretX {v : Int32} {ty : FieldType} {post : Option Value → List va_E → Prop} {XC : String → State → State → Prop} (hr : meth.sig.returnType = some ty) (hn : narrow ty (.int v) = .int v) (hq : post (some (.int v)) h) (hd : decode cc pc = .ok (.ireturn, 1)) : a_W p l e R s m args below meth c (vx_MQ below (a_Q g sz post) XC args s cells slots (a_A g)) own cc nL g cells slots sz pc ls [.int v] h := fun F H locs lsC hP hS hz hl => vx_ret (a_zret hr hn hq hd F H locs lsC hP hS hz hl)
theorem a_lret {v : Int64} {post : Option Value → List va_E → Prop} (hr : meth.sig.returnType = some .long)  (hq : post (some (.long v)) h) (hd : decode cc pc = .ok (.lreturn, 1)) : a_W p l e R s m args below meth c (MQ below (a_Q g sz post) args s cells slots (a_A g)) own cc nL g cells slots sz pc ls [.long v] h := fun F H locs lsC hP hS hz hl => W.lret F.1 F.2.1 hr  (fun t ht hW => a_fin (r := (some (.long v))) hq hP hS hz ht) hS.2.2 hd F.2.2.2.2.2.1
theorem a_lretX {v : Int64} {post : Option Value → List va_E → Prop} {XC : String → State → State → Prop} (hr : meth.sig.returnType = some .long)  (hq : post (some (.long v)) h) (hd : decode cc pc = .ok (.lreturn, 1)) : a_W p l e R s m args below meth c (vx_MQ below (a_Q g sz post) XC args s cells slots (a_A g)) own cc nL g cells slots sz pc ls [.long v] h := fun F H locs lsC hP hS hz hl => vx_ret (a_lret hr  hq hd F H locs lsC hP hS hz hl)
theorem a_dret {v : UInt64} {post : Option Value → List va_E → Prop} (hr : meth.sig.returnType = some .double)  (hq : post (some (.double v)) h) (hd : decode cc pc = .ok (.dreturn, 1)) : a_W p l e R s m args below meth c (MQ below (a_Q g sz post) args s cells slots (a_A g)) own cc nL g cells slots sz pc ls [.double v] h := fun F H locs lsC hP hS hz hl => W.dret F.1 F.2.1 hr  (fun t ht hW => a_fin (r := (some (.double v))) hq hP hS hz ht) hS.2.2 hd F.2.2.2.2.2.1
theorem a_dretX {v : UInt64} {post : Option Value → List va_E → Prop} {XC : String → State → State → Prop} (hr : meth.sig.returnType = some .double)  (hq : post (some (.double v)) h) (hd : decode cc pc = .ok (.dreturn, 1)) : a_W p l e R s m args below meth c (vx_MQ below (a_Q g sz post) XC args s cells slots (a_A g)) own cc nL g cells slots sz pc ls [.double v] h := fun F H locs lsC hP hS hz hl => vx_ret (a_dret hr  hq hd F H locs lsC hP hS hz hl)
theorem a_vret  {post : Option Value → List va_E → Prop} (hr : meth.sig.returnType = none)  (hq : post none h) (hd : decode cc pc = .ok (.return_, 1)) : a_W p l e R s m args below meth c (MQ below (a_Q g sz post) args s cells slots (a_A g)) own cc nL g cells slots sz pc ls [] h := fun F H locs lsC hP hS hz hl => W.vret F.1 F.2.1 hr  (fun t ht hW => a_fin (r := none) hq hP hS hz ht) hS.2.2 hd F.2.2.2.2.2.1
theorem a_vretX  {post : Option Value → List va_E → Prop} {XC : String → State → State → Prop} (hr : meth.sig.returnType = none)  (hq : post none h) (hd : decode cc pc = .ok (.return_, 1)) : a_W p l e R s m args below meth c (vx_MQ below (a_Q g sz post) XC args s cells slots (a_A g)) own cc nL g cells slots sz pc ls [] h := fun F H locs lsC hP hS hz hl => vx_ret (a_vret hr  hq hd F H locs lsC hP hS hz hl)
theorem a_aret {v : Value} {nm : String} {post : Option Value → List va_E → Prop} (hr : meth.sig.returnType = some (.object nm)) (hv : v = .null ∨ ∃ i, v = .ref i) (hq : post (some v) h) (hd : decode cc pc = .ok (.areturn, 1)) : a_W p l e R s m args below meth c (MQ below (a_Q g sz post) args s cells slots (a_A g)) own cc nL g cells slots sz pc ls [v] h := fun F H locs lsC hP hS hz hl => W.aret F.1 F.2.1 hr (Or.inl ⟨_, rfl⟩) (by rcases hv with rfl | ⟨i, rfl⟩; exact Or.inl rfl; exact Or.inr ⟨_, rfl⟩) (fun t ht hW => a_fin (r := some v) hq hP hS hz ht) hS.2.2 hd F.2.2.2.2.2.1
theorem a_stk (g : a_G) (As : List Value) (i : Nat) (st : List Value) : (As.reverse ++ .ref i :: st).map (a_cv g) = (As.map (a_cv g)).reverse ++ .ref (a_ad g i) :: st.map (a_cv g) := by
  rw [List.map_append, List.map_reverse, List.map_cons]; rfl
theorem a_stkS (g : a_G) (As : List Value) (st : List Value) : (As.reverse ++ st).map (a_cv g) = (As.map (a_cv g)).reverse ++ st.map (a_cv g) := by
  rw [List.map_append, List.map_reverse]
theorem a_catsum (g : a_G) (st : List Value) : ((st.map (a_cv g)).map fun v => v.category).sum = (st.map fun v => v.category).sum := by
  rw [List.map_map]
  congr 1
  apply List.map_congr_left
  intro v _
  exact a_cat g v
/-- behind a call -/
theorem a_back {H : Heap} {locs : List Loc} {lsC : Array Slot} {rm : Room} {as : Array Value} {szO : Option Nat} {post : Option Value → List va_E → Prop} {st0 : List Value} (F : a_FX p s m args meth c own cc nL g) (hS : va_S (a_A g) s.heap H locs) (hl : lv_has lsC nL (ls.map (a_lv g)))
    (run : va_Run p l e R s m args below meth c H locs cells slots rm.cells rm.slots (F0 m pc lsC st0) (st.map (a_cv g)) (a_Q g szO post as) (a_A g))
    (kk : ∀ (r : Option Value) (h' : List va_E), post r h' → a_W p l e R s m args below meth c Q own cc nL g (cells + rm.cells) (slots + rm.slots) szO (pc + 3) ls (r.toList ++ st) h') : W p l e R s m args below meth c H locs cells slots Q (F0 m pc lsC st0) := by
  intro T hT X
  obtain ⟨v, st₀, t, T', L, h0, X', hL, e1, e2, ⟨⟨r, h', hv, hq, hP', hz'⟩, hF⟩, go⟩ := run T hT X
  have hv2 : v = r.map (a_cv g) := Outcome.returned.inj hv
  subst hv2
  obtain ⟨k1, k2, k3⟩ := vx_keep h0 e1 hS (fun _ _ q => q) (fun _ q => q) hL hF
  obtain ⟨t2, a1, b1⟩ := kk r h' hq F T'.heap (locs ++ L) lsC (by rw [e1]; exact hP') k3 (by rw [e1]; exact hz') hl T' rfl X'
  refine ⟨t2, go t2 ?_, b1⟩
  have e9 : (r.toList ++ st).map (a_cv g) = (r.map (a_cv g)).toList ++ st.map (a_cv g) := by cases r <;> rfl
  rw [e9] at a1
  exact a1
theorem a_pre {H : Heap} {locs : List Loc} {As : List Value} (F : a_FX p s m args meth c own cc nL g) (hP : a_HP g h H) (hS : va_S (a_A g) s.heap H locs) (hz : a_SZ g sz H) (U : State) (hU : U.heap = H) (hW : s.WarmedH U.vm) : a_Pre g As h sz (As.map (a_cv g)).toArray U := ⟨rfl, F.2.2.2.2.2.2.moved hS hW hU, by rw [hU]; exact hP, by rw [hU]; exact hz⟩
section Calls
variable {ci i idx n N maxL : Nat} {C : String} {T : u_T} {y : MethodName} {bytes : ByteArray} {ret : Option FieldType} {rm : Room} {As : List Value} {fs : List Value} {szO : Option Nat} {post : Option Value → List va_E → Prop} {postX : String → List va_E → Prop}
theorem a_callV (hM : a_CT l g y bytes maxL ret rm (.ref i :: As) h sz szO post) (hw : ∀ w ∈ [Cond.methodLink own idx y, .instanceMethod y, .selects C y y, .initialized C], w ∈ a_WS) (hcode : Cond.code y bytes maxL ret ∈ a_WS)
    (hy : y.cls = C ∧ y.cls ≠ "java/lang/invoke/MethodHandle" ∧ y.cls ≠ "java/lang/invoke/VarHandle" ∧ (parseMethodDescriptor y.desc).map (fun d => d.parameters.length) = some n) (hc : a_cl[ci]? = some (C, T, N)) (hn : As.length = n)
    (hR : rm.frames + 1 ≤ R.frames ∧ 8 + (maxL + 11) + rm.locals ≤ R.locals) (hf : cells + rm.cells ≤ R.cells ∧ slots + rm.slots ≤ R.slots) (he : h[i]? = some (.inr (ci, fs))) (hcat : (st.map fun v => v.category).sum ≤ 8) (hd : decode cc pc = .ok (.invokevirtual idx, 3)) (hp : pc + 3 = pc')
    (kk : ∀ (r : Option Value) (h' : List va_E), post r h' → a_W p l e R s m args below meth c Q own cc nL g (cells + rm.cells) (slots + rm.slots) szO pc' ls (r.toList ++ st) h') : a_W p l e R s m args below meth c Q own cc nL g cells slots sz pc ls (As.reverse ++ .ref i :: st) h := by
  intro F H locs lsC hP hS hz hl
  subst hp
  rw [a_stk]
  exact a_back F hS hl (va_runV (As := As.map (a_cv g)) (rest := st.map (a_cv g)) ⟨F.1, F.2.1, F.2.2.1, F.2.2.2.1, F.2.2.2.2.1⟩ hM (cwV n F.2.2.2.2.1 (a_good hw hcode) rfl rfl rfl hy hR) ⟨a_Pre_blind, va_recv F.2.2.2.2.2.2.1 hP.2 hc (a_cw_get he), fun U hU hW => a_pre F hP hS hz U hU hW⟩ rfl ((List.length_map ..).trans hn) hl.1 rfl (lv_room (by rw [a_catsum]; exact hcat)) hd hf) kk
theorem a_callS (hM : a_CT l g y bytes maxL ret rm As h sz szO post) (hw : ∀ w ∈ [Cond.methodLink own idx y, .static y, .initialized y.cls], w ∈ a_WS) (hcode : Cond.code y bytes maxL ret ∈ a_WS)
    (hy : y.cls ≠ "java/lang/invoke/MethodHandle" ∧ y.cls ≠ "java/lang/invoke/VarHandle" ∧ (parseMethodDescriptor y.desc).map (fun d => d.parameters.length) = some n) (hn : As.length = n)
    (hR : rm.frames + 1 ≤ R.frames ∧ 8 + (maxL + 11) + rm.locals ≤ R.locals) (hf : cells + rm.cells ≤ R.cells ∧ slots + rm.slots ≤ R.slots) (hcat : (st.map fun v => v.category).sum ≤ 8) (hd : decode cc pc = .ok (.invokestatic idx, 3)) (hp : pc + 3 = pc')
    (kk : ∀ (r : Option Value) (h' : List va_E), post r h' → a_W p l e R s m args below meth c Q own cc nL g (cells + rm.cells) (slots + rm.slots) szO pc' ls (r.toList ++ st) h') : a_W p l e R s m args below meth c Q own cc nL g cells slots sz pc ls (As.reverse ++ st) h := by
  intro F H locs lsC hP hS hz hl
  subst hp
  rw [a_stkS]
  exact a_back F hS hl (va_runS (As := As.map (a_cv g)) (rest := st.map (a_cv g)) ⟨F.1, F.2.1, F.2.2.1, F.2.2.2.1, F.2.2.2.2.1⟩ hM (va_cwS n F.2.2.2.2.1 (a_good hw hcode) rfl rfl rfl hy hR) ⟨a_Pre_blind, fun U hU hW => a_pre F hP hS hz U hU hW⟩ rfl ((List.length_map ..).trans hn) hl.1 rfl (lv_room (by rw [a_catsum]; exact hcat)) hd hf) kk
theorem a_callSN (hM : a_CT l g y bytes maxL ret rm As h sz szO post) (hnest : (own, idx, y) ∈ a_nest) (hw : ∀ w ∈ [Cond.static y, .initialized y.cls], w ∈ a_WS) (hcode : Cond.code y bytes maxL ret ∈ a_WS)
    (hy : y.cls ≠ "java/lang/invoke/MethodHandle" ∧ y.cls ≠ "java/lang/invoke/VarHandle" ∧ (parseMethodDescriptor y.desc).map (fun d => d.parameters.length) = some n) (hn : As.length = n)
    (hR : rm.frames + 1 ≤ R.frames ∧ 8 + (maxL + 11) + rm.locals ≤ R.locals) (hf : cells + rm.cells ≤ R.cells ∧ slots + rm.slots ≤ R.slots) (hcat : (st.map fun v => v.category).sum ≤ 8) (hd : decode cc pc = .ok (.invokestatic idx, 3)) (hp : pc + 3 = pc')
    (kk : ∀ (r : Option Value) (h' : List va_E), post r h' → a_W p l e R s m args below meth c Q own cc nL g (cells + rm.cells) (slots + rm.slots) szO pc' ls (r.toList ++ st) h') : a_W p l e R s m args below meth c Q own cc nL g cells slots sz pc ls (As.reverse ++ st) h := by
  intro F H locs lsC hP hS hz hl
  subst hp
  rw [a_stkS]
  exact a_back F hS hl (va_runSN (host := "SlateRoof") (As := As.map (a_cv g)) (rest := st.map (a_cv g)) ⟨F.1, F.2.1, F.2.2.1, F.2.2.2.1, F.2.2.2.2.1⟩ hM ⟨va_cnB n F.2.2.2.2.1 (a_good (ws := []) (fun _ h => nomatch h) hcode) rfl rfl rfl (F.2.2.2.2.2.2.2.2.2.2.1 _ hnest) (F.2.2.2.2.1 _ (hw _ (by simp))) hy hR, F.2.2.2.2.1 _ (hw _ (by simp)), trivial⟩ ⟨a_Pre_blind, fun U hU hW => a_pre F hP hS hz U hU hW⟩ rfl ((List.length_map ..).trans hn) hl.1 rfl (lv_room (by rw [a_catsum]; exact hcat)) hd hf) kk
theorem a_callI (hM : a_CT l g y bytes maxL none rm (.ref i :: As) h sz szO post) (hw : ∀ w ∈ [Cond.methodLink own idx y, .instanceMethod y, .initialized y.cls], w ∈ a_WS) (hcode : Cond.code y bytes maxL none ∈ a_WS)
    (hy : y.cls ≠ "java/lang/invoke/MethodHandle" ∧ y.cls ≠ "java/lang/invoke/VarHandle" ∧ (parseMethodDescriptor y.desc).map (fun d => d.parameters.length) = some n) (hy1 : y.name = "<init>") (hn : As.length = n)
    (hR : rm.frames + 1 ≤ R.frames ∧ 8 + (maxL + 11) + rm.locals ≤ R.locals) (hf : cells + rm.cells ≤ R.cells ∧ slots + rm.slots ≤ R.slots) (hcat : (st.map fun v => v.category).sum ≤ 8) (hd : decode cc pc = .ok (.invokespecial idx, 3)) (hp : pc + 3 = pc')
    (kk : ∀ (r : Option Value) (h' : List va_E), post r h' → a_W p l e R s m args below meth c Q own cc nL g (cells + rm.cells) (slots + rm.slots) szO pc' ls (r.toList ++ st) h') : a_W p l e R s m args below meth c Q own cc nL g cells slots sz pc ls (As.reverse ++ .ref i :: st) h := by
  intro F H locs lsC hP hS hz hl
  subst hp
  rw [a_stk]
  exact a_back F hS hl (va_runI (As := As.map (a_cv g)) (rest := st.map (a_cv g)) ⟨F.1, F.2.1, F.2.2.1, F.2.2.2.1, F.2.2.2.2.1⟩ hM (cwI n F.2.2.2.2.1 (a_good (ws := []) (fun _ h => nomatch h) hcode) rfl rfl rfl (F.2.2.2.2.1 _ (hw _ (by simp))) (F.2.2.2.2.1 _ (hw _ (by simp))) (F.2.2.2.2.1 _ (hw _ (by simp))) hy1 hy hR) ⟨a_Pre_blind, fun U hU hW => a_pre F hP hS hz U hU hW⟩ rfl ((List.length_map ..).trans hn) hl.1 rfl (lv_room (by rw [a_catsum]; exact hcat)) hd hf) kk
theorem a_callIN (hM : a_CT l g y bytes maxL none rm (.ref i :: As) h sz szO post) (hnest : (own, idx, y) ∈ a_nest) (hw : ∀ w ∈ [Cond.instanceMethod y, .initialized y.cls], w ∈ a_WS) (hcode : Cond.code y bytes maxL none ∈ a_WS)
    (hy : y.cls ≠ "java/lang/invoke/MethodHandle" ∧ y.cls ≠ "java/lang/invoke/VarHandle" ∧ (parseMethodDescriptor y.desc).map (fun d => d.parameters.length) = some n) (hy1 : y.name = "<init>") (hn : As.length = n)
    (hR : rm.frames + 1 ≤ R.frames ∧ 8 + (maxL + 11) + rm.locals ≤ R.locals) (hf : cells + rm.cells ≤ R.cells ∧ slots + rm.slots ≤ R.slots) (hcat : (st.map fun v => v.category).sum ≤ 8) (hd : decode cc pc = .ok (.invokespecial idx, 3)) (hp : pc + 3 = pc')
    (kk : ∀ (r : Option Value) (h' : List va_E), post r h' → a_W p l e R s m args below meth c Q own cc nL g (cells + rm.cells) (slots + rm.slots) szO pc' ls (r.toList ++ st) h') : a_W p l e R s m args below meth c Q own cc nL g cells slots sz pc ls (As.reverse ++ .ref i :: st) h := by
  intro F H locs lsC hP hS hz hl
  subst hp
  rw [a_stk]
  exact a_back F hS hl (va_runIN (host := "SlateRoof") (As := As.map (a_cv g)) (rest := st.map (a_cv g)) ⟨F.1, F.2.1, F.2.2.1, F.2.2.2.1, F.2.2.2.2.1⟩ hM ⟨va_cnB n F.2.2.2.2.1 (a_good (ws := []) (fun _ h => nomatch h) hcode) rfl rfl rfl (F.2.2.2.2.2.2.2.2.2.2.1 _ hnest) (F.2.2.2.2.1 _ (hw _ (by simp))) hy hR, hy1, F.2.2.2.2.1 _ (hw _ (by simp))⟩ ⟨a_Pre_blind, fun U hU hW => a_pre F hP hS hz U hU hW⟩ rfl ((List.length_map ..).trans hn) hl.1 rfl (lv_room (by rw [a_catsum]; exact hcat)) hd hf) kk
end Calls
theorem a_objI {i idx : Nat} (hw : ∀ w ∈ [Cond.methodLink own idx objectInit, .instanceMethod objectInit, .code objectInit ⟨#[0xb1]⟩ 1 none], w ∈ a_WS) (hd : decode cc pc = .ok (.invokespecial idx, 3)) (hf : 1 ≤ R.frames) (hlo : (st.map fun v => v.category).sum + 12 ≤ R.locals) (hp : pc + 3 = pc')
    (kk : a_W p l e R s m args below meth c Q own cc nL g cells slots sz pc' ls st h) : a_W p l e R s m args below meth c Q own cc nL g cells slots sz pc ls (.ref i :: st) h := by
  intro F H locs lsC hP hS hz hl
  subst hp
  refine W.objInit F.1 F.2.1 F.2.2.2.1 (F.2.2.2.2.1 _ (hw _ (by simp))) (F.2.2.2.2.1 _ (hw _ (by simp))) (F.2.2.2.2.1 _ (hw _ (by simp))) rfl (by rw [F.2.2.1]; exact hl.1) rfl hd hf (by show 2 * 0 + ((st.map (a_cv g)).map fun v => v.category).sum + 12 ≤ _; rw [a_catsum]; omega) ?_
  exact kk F H locs lsC hP hS hz hl
theorem a_mmax {idx : Nat} {x y : Int32} (hw : ∀ w ∈ [Cond.methodLink own idx Lib.Math.max.name, .static Lib.Math.max.name, .initialized "java/lang/Math", .code Lib.Math.max.name Lib.Math.max.code 2 (some .int)], w ∈ a_WS) (hd : decode cc pc = .ok (.invokestatic idx, 3)) (hf : 1 ≤ R.frames) (hlo : (st.map fun v => v.category).sum + 13 ≤ R.locals) (hcs : cells ≤ R.cells ∧ slots ≤ R.slots) (hp : pc + 3 = pc')
    (kk : a_W p l e R s m args below meth c Q own cc nL g cells slots sz pc' ls (.int (if x < y then y else x) :: st) h) : a_W p l e R s m args below meth c Q own cc nL g cells slots sz pc ls (.int y :: .int x :: st) h := by
  intro F H locs lsC hP hS hz hl
  subst hp
  exact va_mmax F.1 F.2.1 (F.2.2.1.trans hl.1.symm) F.2.2.2.1 (F.2.2.2.2.1 _ (hw _ (by simp))) (F.2.2.2.2.1 _ (hw _ (by simp))) (F.2.2.2.2.1 _ (hw _ (by simp))) (F.2.2.2.2.1 _ (hw _ (by simp))) hf (by rw [a_catsum]; exact hlo) hcs.1 hcs.2 hd (kk F H locs lsC hP hS hz hl)
theorem a_mmin {idx : Nat} {x y : Int32} (hw : ∀ w ∈ [Cond.methodLink own idx Lib.Math.min.name, .static Lib.Math.min.name, .initialized "java/lang/Math", .code Lib.Math.min.name Lib.Math.min.code 2 (some .int)], w ∈ a_WS) (hd : decode cc pc = .ok (.invokestatic idx, 3)) (hf : 1 ≤ R.frames) (hlo : (st.map fun v => v.category).sum + 13 ≤ R.locals) (hcs : cells ≤ R.cells ∧ slots ≤ R.slots) (hp : pc + 3 = pc')
    (kk : a_W p l e R s m args below meth c Q own cc nL g cells slots sz pc' ls (.int (if y < x then y else x) :: st) h) : a_W p l e R s m args below meth c Q own cc nL g cells slots sz pc ls (.int y :: .int x :: st) h := by
  intro F H locs lsC hP hS hz hl
  subst hp
  exact va_mmin F.1 F.2.1 (F.2.2.1.trans hl.1.symm) F.2.2.2.1 (F.2.2.2.2.1 _ (hw _ (by simp))) (F.2.2.2.2.1 _ (hw _ (by simp))) (F.2.2.2.2.1 _ (hw _ (by simp))) (F.2.2.2.2.1 _ (hw _ (by simp))) hf (by rw [a_catsum]; exact hlo) hcs.1 hcs.2 hd (kk F H locs lsC hP hS hz hl)
theorem a_copyi {idx i j n0 n1 : Nat} {sp dp n : Int32} {f f2 : Nat → Int32} (hw : ∀ w ∈ [Cond.methodLink own idx arraycopyName, .native arraycopyName, .static arraycopyName, .initialized "java/lang/System"], w ∈ a_WS) (he0 : h[i]? = some (.inl (0, n0, .inl f))) (he1 : h[j]? = some (.inl (0, n1, .inl f2))) (h1 : ¬ sp < 0) (h2 : ¬ dp < 0) (h3 : ¬ n < 0) (h4 : sp.toNatClampNeg + n.toNatClampNeg ≤ n0) (h5 : dp.toNatClampNeg + n.toNatClampNeg ≤ n1) (hd : decode cc pc = .ok (.invokestatic idx, 3)) (hf : 1 ≤ R.frames) (hlo : (st.map fun v => v.category).sum + (nativeFrameWords "java/lang/System" "arraycopy" 5 + 11) ≤ R.locals) (hp : pc + 3 = pc')
    (kk : a_W p l e R s m args below meth c Q own cc nL g cells slots none pc' ls st (h.set j (.inl (0, n1, .inl (va_cpy f f2 sp.toNatClampNeg dp.toNatClampNeg n.toNatClampNeg))))) : a_W p l e R s m args below meth c Q own cc nL g cells slots none pc ls (.int n :: .int dp :: .ref j :: .int sp :: .ref i :: st) h := by
  intro F H locs lsC hP hS hz hl
  subst hp
  refine va_copyi F.1 F.2.1 (F.2.2.1.trans hl.1.symm) F.2.2.2.1 (F.2.2.2.2.1 _ (hw _ (by simp))) (F.2.2.2.2.1 _ (hw _ (by simp))) (F.2.2.2.2.1 _ (hw _ (by simp))) (F.2.2.2.2.1 _ (hw _ (by simp))) F.2.2.2.2.2.2.1 hP.2 (a_Dof F.2.2.2.2.2.2.2.1 hP.1) hS i j 0 0 (a_cw_get he0) (a_cw_get he1) rfl rfl rfl h1 h2 h3 h4 h5 (fun _ _ => rfl) hf (by rw [a_catsum]; exact hlo) hd (fun H1 locs1 hP1 hD1 hS1 => ?_)
  refine kk F H1 locs1 lsC ⟨by rw [List.length_set]; exact hP.1, ?_⟩ hS1 (fun n hn => nomatch hn) hl
  rw [a_cw_set]
  exact hP1
end AC
