/-! methods with a table: calling what throws, catching it -/
def a_CW (l : Launch) (g : a_G) (y : MethodName) (bytes : ByteArray) (maxL : Nat) (ret : Option FieldType) (hh : List (Nat × Nat × Nat × Nat)) (rm : Room) (av : List Value) (h : List va_E) (szI szO : Option Nat) (post : Option Value → List va_E → Prop) : Prop :=
  Met l y (.codeWith y bytes maxL ret hh :: a_WS) rm (a_Pre g av h szI) (a_Q g szO post) rm.cells rm.slots (a_A g)
theorem a_enterW {l : Launch} {g : a_G} {y : MethodName} {bytes : ByteArray} {maxL : Nat} {ret : Option FieldType} {hh : List (Nat × Nat × Nat × Nat)} {rm : Room} {av : List Value} {h : List va_E} {szI szO : Option Nat} {own : String} {post : Option Value → List va_E → Prop} (hy : plainName y.cls = true ∧ y.cls = own ∧ (lg_sl av).length ≤ maxL)
    (body : ∀ (p : Program) (e : Env) (s : State) (m : MethodId) (args : Array Value) (below : List Frame) (meth : Method) (c : Code), meth.sig.returnType = ret → c.exceptionTable.toList = tableOf hh → a_W p l e rm s m args below meth c (MQ below (a_Q g szO post) args s rm.cells rm.slots (a_A g)) own bytes maxL g 0 0 szI 0 (lv_args 0 av) [] h) : a_CW l g y bytes maxL ret hh rm av h szI szO post := by
  refine va_MetW (cc := bytes) (maxL := maxL) (ret := ret) (hh := hh) hy.1 rfl ?_
  intro p e s m args below meth c s₁ B hml hv
  obtain ⟨rfl, hE, hP, hz⟩ := hv
  have hts := atoms_spec (ws := .codeWith y bytes maxL ret hh :: a_WS) B.pre
  have hown : s.vm.findClass own = some m.cls := by rw [← hy.2.1]; exact findClass_of_methodNamed B.named
  have hl := lv_entry (av.map (a_cv g)) (n := maxL) (by rw [a_sl_len]; exact hy.2.2)
  rw [a_args_map] at hl
  rw [lg_entry_eq]
  exact body p e s m _ below meth c B.returns (vx_table (x := y) B (hts _ List.mem_cons_self)) ⟨B.exec, B.bytes, hml, hown, fun w hw => hts w (List.mem_cons_of_mem _ hw), B.notSynchronized, hE⟩ s.heap [] _ hP va_S.rf hz hl
def a_XW (p : Program) (l : Launch) (e : Env) (R : Room) (s : State) (m : MethodId) (args : Array Value) (below : List Frame) (meth : Method) (c : Code) (Q : State → Prop) (own : String) (cc : ByteArray) (nL : Nat) (g : a_G) (cells slots : Nat) (E : String) (pc : Nat) (ls : List (Nat × Value)) (st : List Value) (h : List va_E) : Prop :=
  a_FX p s m args meth c own cc nL g → ∀ (H : Heap) (locs : List Loc) (lsC : Array Slot) (q : Addr) (ce : Cell), a_HP g h H → va_S (a_A g) s.heap H locs → lv_has lsC nL (ls.map (a_lv g)) → H[q]? = some ce → ce.vm = .none → s.vm.findClass E = some ce.cls → vx_W p l e R s m args below meth c H locs cells slots Q (F0 m pc lsC (st.map (a_cv g))) q
section AX
variable {p : Program} {l : Launch} {e : Env} {R : Room} {s : State} {m : MethodId} {args : Array Value} {below : List Frame} {meth : Method} {c : Code} {Q : State → Prop} {own : String} {cc : ByteArray} {nL : Nat} {g : a_G} {cells slots : Nat} {sz : Option Nat} {pc pc' : Nat} {ls : List (Nat × Value)} {st : List Value} {h : List va_E}
theorem a_callX {ci i idx n N maxL : Nat} {C : String} {T : u_T} {y : MethodName} {bytes : ByteArray} {ret : Option FieldType} {rm : Room} {As : List Value} {fs : List Value} {post : Option Value → List va_E → Prop} {postX : String → List va_E → Prop} (hM : a_CX l g y bytes maxL ret rm (.ref i :: As) h post postX) (hw : ∀ w ∈ [Cond.methodLink own idx y, .instanceMethod y, .selects C y y, .initialized C], w ∈ a_WS) (hcode : Cond.code y bytes maxL ret ∈ a_WS)
    (hy : y.cls = C ∧ y.cls ≠ "java/lang/invoke/MethodHandle" ∧ y.cls ≠ "java/lang/invoke/VarHandle" ∧ (parseMethodDescriptor y.desc).map (fun d => d.parameters.length) = some n) (hc : a_cl[ci]? = some (C, T, N)) (hn : As.length = n)
    (hR : rm.frames + 1 ≤ R.frames ∧ 8 + (maxL + 11) + rm.locals ≤ R.locals) (hf : cells + rm.cells ≤ R.cells ∧ slots + rm.slots ≤ R.slots) (he : h[i]? = some (.inr (ci, fs))) (hcat : (st.map fun v => v.category).sum ≤ 8) (hd : decode cc pc = .ok (.invokevirtual idx, 3)) (hp : pc + 3 = pc')
    (kk : ∀ (r : Option Value) (h' : List va_E), post r h' → a_W p l e R s m args below meth c Q own cc nL g (cells + rm.cells) (slots + rm.slots) none pc' ls (r.toList ++ st) h')
    (kx : ∀ (E : String) (h' : List va_E), postX E h' → a_XW p l e R s m args below meth c Q own cc nL g (cells + rm.cells) (slots + rm.slots) E pc ls st h') : a_W p l e R s m args below meth c Q own cc nL g cells slots none pc ls (As.reverse ++ .ref i :: st) h := by
  intro F H locs lsC hP hS hz hl
  subst hp
  rw [a_stk]
  have run := vx_runV (As := As.map (a_cv g)) (rest := st.map (a_cv g)) (p := p) (e := e) (below := below) (meth := meth) (locs := locs) (cells := cells) (slots := slots) (g := F0 m pc lsC ((As.map (a_cv g)).reverse ++ .ref (a_ad g i) :: st.map (a_cv g))) ⟨F.1, F.2.1, F.2.2.1, F.2.2.2.1, F.2.2.2.2.1⟩ hM (cwV n F.2.2.2.2.1 (a_good hw hcode) rfl rfl rfl hy hR) ⟨a_Pre_blind, va_recv F.2.2.2.2.2.2.1 hP.2 hc (a_cw_get he), fun U hU hW => a_pre F hP hS hz U hU hW⟩ rfl ((List.length_map ..).trans hn) hl.1 rfl (lv_room (by rw [a_catsum]; exact hcat)) hd hf
  intro T hT X
  rcases run T hT X with ⟨v, st₀, t, T', L, h0, X', hL, e1, e2, ⟨⟨r, h', hv, hq, hP', hz'⟩, hF⟩, go⟩ | ⟨q, st₀, t, T', L, E, ce, h0, X', hL, e1, e2, ⟨⟨h', hq, hP'⟩, hF⟩, hce, hcv, hcl, go⟩
  · have hv2 : v = r.map (a_cv g) := Outcome.returned.inj hv
    subst hv2
    obtain ⟨k1, k2, k3⟩ := vx_keep h0 e1 hS (fun _ _ q => q) (fun _ q => q) hL hF
    obtain ⟨t2, a1, b1⟩ := kk r h' hq F T'.heap (locs ++ L) lsC (by rw [e1]; exact hP') k3 (fun n hn => nomatch hn) hl T' rfl X'
    refine ⟨t2, go t2 ?_, b1⟩
    have e9 : (r.toList ++ st).map (a_cv g) = (r.map (a_cv g)).toList ++ st.map (a_cv g) := by cases r <;> rfl
    rw [e9] at a1
    exact a1
  · obtain ⟨k1, k2, k3⟩ := vx_keep h0 e1 hS (fun _ _ q => q) (fun _ q => q) hL hF
    obtain ⟨t2, a1, b1⟩ := kx E h' hq F T'.heap (locs ++ L) lsC q ce (by rw [e1]; exact hP') k3 hl (by rw [e1]; exact hce) hcv hcl T' rfl X'
    exact ⟨t2, go.trans a1, b1⟩
theorem a_catch0 {hh : List (Nat × Nat × Nat × Nat)} {E : String} {k : Nat} (htab : c.exceptionTable.toList = tableOf hh) (pre : List ExceptionTableEntry) (x : ExceptionTableEntry) (suf : List ExceptionTableEntry) (hsplit : tableOf hh = pre ++ x :: suf) (hpass : ∀ z ∈ pre, z.catchType ≠ 0 ∧ ∃ nm : String, Cond.classLink own z.catchType nm ∈ a_WS ∧ nm ∈ a_xs ∧ E ≠ nm) (hx : covers x pc = true) (h0 : x.catchType ≠ 0) (hlk : Cond.classLink own x.catchType E ∈ a_WS) (hE : E ∈ a_xs) (hk : k < nL)
    (hst : ∀ (H : Heap) (locs : List Loc) (lsC : Array Slot) (q : Addr), lv_has lsC nL (ls.map (a_lv g)) → a_FX p s m args meth c own cc nL g → (∀ ls' : Array Slot, lv_has ls' nL ((k, .ref q) :: (ls.map (a_lv g)).filter (fun q => !(q.1 == k) && !(q.1 + 1 == k && q.2.category == 2))) → W p l e R s m args below meth c H locs cells slots Q (F0 m pc' ls' [])) → W p l e R s m args below meth c H locs cells slots Q (F0 m x.handlerPc lsC [.ref q]))
    (kk : a_W p l e R s m args below meth c Q own cc nL g cells slots none pc' (ls.filter (fun q => !(q.1 == k) && !(q.1 + 1 == k && q.2.category == 2))) [] h) : a_XW p l e R s m args below meth c Q own cc nL g cells slots E pc ls st h := by
  intro F H locs lsC q ce hP hS hl hce hcv hcl
  have hE2 := F.2.2.2.2.2.2
  refine vx_catch F.2.2.2.1 pre x suf (htab.trans hsplit) (fun z hz => Or.inr ⟨(hpass z hz).1, ?_⟩) hx h0 (F.2.2.2.2.1 _ hlk) (va_Nw.use rfl (hE2.2.2.2.2.2.2.2.1 E hE)) hce hcv hcl (hst H locs lsC q hl F fun ls' hl' => ?_)
  · obtain ⟨nm, h1, h2, h3⟩ := (hpass z hz).2
    exact ⟨nm, F.2.2.2.2.1 _ h1, hE2.2.2.2.2.2.2.2.2.1 E hE nm h2 h3⟩
  · have e1 := (List.cons.inj (a_lst1 (g := g) (ls := ls) (i := k) (v := .null) rfl)).2
    exact kk F H locs ls' hP hS (fun n hn => nomatch hn) ⟨hl'.1, hl'.2.1, fun z hz => hl'.2.2 z (List.mem_cons_of_mem _ (by rw [e1]; exact hz))⟩
theorem a_catch {hh : List (Nat × Nat × Nat × Nat)} {E : String} {k : Nat} (htab : c.exceptionTable.toList = tableOf hh) (pre : List ExceptionTableEntry) (x : ExceptionTableEntry) (suf : List ExceptionTableEntry) (hsplit : tableOf hh = pre ++ x :: suf) (hpass : ∀ z ∈ pre, z.catchType ≠ 0 ∧ ∃ nm : String, Cond.classLink own z.catchType nm ∈ a_WS ∧ nm ∈ a_xs ∧ E ≠ nm) (hx : covers x pc = true) (h0 : x.catchType ≠ 0) (hlk : Cond.classLink own x.catchType E ∈ a_WS) (hE : E ∈ a_xs) (hk : k < nL) (hd : decode cc x.handlerPc = .ok (.astore k, 2)) (hp : x.handlerPc + 2 = pc')
    (kk : a_W p l e R s m args below meth c Q own cc nL g cells slots none pc' (ls.filter (fun q => !(q.1 == k) && !(q.1 + 1 == k && q.2.category == 2))) [] h) : a_XW p l e R s m args below meth c Q own cc nL g cells slots E pc ls st h :=
  a_catch0 (pc' := pc') htab pre x suf hsplit hpass hx h0 hlk hE hk (fun H locs lsC q hl F kk2 => by subst hp; exact lv_astore F.1 F.2.1 hd hl hk rfl (fun ls' hl' => kk2 ls' hl')) kk
theorem a_catch_n {hh : List (Nat × Nat × Nat × Nat)} {E : String} {k : Nat} {kf : Fin 4} (htab : c.exceptionTable.toList = tableOf hh) (pre : List ExceptionTableEntry) (x : ExceptionTableEntry) (suf : List ExceptionTableEntry) (hsplit : tableOf hh = pre ++ x :: suf) (hpass : ∀ z ∈ pre, z.catchType ≠ 0 ∧ ∃ nm : String, Cond.classLink own z.catchType nm ∈ a_WS ∧ nm ∈ a_xs ∧ E ≠ nm) (hx : covers x pc = true) (h0 : x.catchType ≠ 0) (hlk : Cond.classLink own x.catchType E ∈ a_WS) (hE : E ∈ a_xs) (hk : k < nL) (hkf : (kf : Nat) = k) (hd : decode cc x.handlerPc = .ok (.astore_n kf, 1)) (hp : x.handlerPc + 1 = pc')
    (kk : a_W p l e R s m args below meth c Q own cc nL g cells slots none pc' (ls.filter (fun q => !(q.1 == k) && !(q.1 + 1 == k && q.2.category == 2))) [] h) : a_XW p l e R s m args below meth c Q own cc nL g cells slots E pc ls st h :=
  a_catch0 (pc' := pc') htab pre x suf hsplit hpass hx h0 hlk hE hk (fun H locs lsC q hl F kk2 => by subst hp; exact lv_astore_n F.1 F.2.1 hd hkf hl hk rfl (fun ls' hl' => kk2 ls' hl')) kk
theorem a_callSW {idx n maxL : Nat} {y : MethodName} {bytes : ByteArray} {ret : Option FieldType} {hh : List (Nat × Nat × Nat × Nat)} {rm : Room} {As : List Value} {szO : Option Nat} {post : Option Value → List va_E → Prop} (hM : a_CW l g y bytes maxL ret hh rm As h sz szO post) (hw : ∀ w ∈ [Cond.methodLink own idx y, .static y, .initialized y.cls], w ∈ a_WS) (hcode : Cond.codeWith y bytes maxL ret hh ∈ a_WS)
    (hy : y.cls ≠ "java/lang/invoke/MethodHandle" ∧ y.cls ≠ "java/lang/invoke/VarHandle" ∧ (parseMethodDescriptor y.desc).map (fun d => d.parameters.length) = some n) (hn : As.length = n)
    (hR : rm.frames + 1 ≤ R.frames ∧ 8 + (maxL + 11) + rm.locals ≤ R.locals) (hf : cells + rm.cells ≤ R.cells ∧ slots + rm.slots ≤ R.slots) (hcat : (st.map fun v => v.category).sum ≤ 8) (hd : decode cc pc = .ok (.invokestatic idx, 3)) (hp : pc + 3 = pc')
    (kk : ∀ (r : Option Value) (h' : List va_E), post r h' → a_W p l e R s m args below meth c Q own cc nL g (cells + rm.cells) (slots + rm.slots) szO pc' ls (r.toList ++ st) h') : a_W p l e R s m args below meth c Q own cc nL g cells slots sz pc ls (As.reverse ++ st) h := by
  intro F H locs lsC hP hS hz hl
  subst hp
  rw [a_stkS]
  have key : ∀ w ∈ a_WS, w ∈ a_WS ∧ ((w.onTables && w.keeps) = true ∨ ∃ ty, w = .arrayClass ty) := fun w h => ⟨h, good_of_word (a_WS_good h)⟩
  have hG : GoodIn a_WS (va_wsS own idx y (.codeWith y bytes maxL ret hh :: a_WS)) := by
    intro w h
    rcases List.mem_append.mp h with h | h
    · exact key w (hw w h)
    · rcases List.mem_cons.mp h with rfl | h
      · exact key _ hcode
      · exact key w h
  exact a_back F hS hl (vx_runSW (As := As.map (a_cv g)) (rest := st.map (a_cv g)) ⟨F.1, F.2.1, F.2.2.1, F.2.2.2.1, F.2.2.2.2.1⟩ hM (vx_cwSW n F.2.2.2.2.1 hG rfl rfl rfl hy hR) ⟨a_Pre_blind, fun U hU hW => a_pre F hP hS hz U hU hW⟩ rfl ((List.length_map ..).trans hn) hl.1 rfl (lv_room (by rw [a_catsum]; exact hcat)) hd hf) kk
end AX
/-- the whole world of the law: the class at 0, the check at 55, the row of one long at 61 -/
def d_out (h : List va_E) (v : Int64) : Prop := ∃ fo : Nat → Int64, h[61]? = some (.inl (2, 1, .inr (.inl fo))) ∧ fo 0 = v
def d_all (h : List va_E) (q : d_C) (M : d_M) (v : Int64) : Prop := d_cls h q ∧ d_mod h M ∧ d_out h v
theorem d_out.kp {h h' : List va_E} {j k : Nat} {v : Int64} (hO : d_out h v) (hf : d_frm j k h h') (hd : j + k ≤ 61) : d_out h' v := by
  obtain ⟨fo, h1, h2⟩ := hO
  exact ⟨fo, (hf.2 61 (by omega)).trans h1, h2⟩
theorem d_all_c {h h' : List va_E} {q q2 : d_C} {M : d_M} {v : Int64} (hA : d_all h q M v) (hz : d_cls h' q2) (hf : d_frm 0 55 h h') : d_all h' q2 M v := ⟨hz, hA.2.1.kp hf (by omega), hA.2.2.kp hf (by omega)⟩
theorem d_all_m {h h' : List va_E} {q : d_C} {M M2 : d_M} {v : Int64} (hA : d_all h q M v) (hz : d_mod h' M2) (hf : d_frm 55 6 h h') : d_all h' q M2 v := ⟨hA.1.kp hf (by omega), hz, hA.2.2.kp hf (by omega)⟩
section AY2
variable {p : Program} {l : Launch} {e : Env} {R : Room} {s : State} {m : MethodId} {args : Array Value} {below : List Frame} {meth : Method} {c : Code} {Q : State → Prop} {own : String} {cc : ByteArray} {nL : Nat} {g : a_G} {cells slots : Nat} {sz : Option Nat} {pc pc' : Nat} {ls : List (Nat × Value)} {st : List Value} {h : List va_E}
theorem b_last {q : d_C} {M : d_M} {v : Int64} {x : Int64} (hA : d_all h q M v) (hd : decode cc pc = .ok (.lastore, 1)) (hp : pc + 1 = pc') (kk : ∀ h', d_all h' q M x → a_W p l e R s m args below meth c Q own cc nL g cells slots sz pc' ls st h') : a_W p l e R s m args below meth c Q own cc nL g cells slots sz pc ls (.long x :: .int 0 :: .ref 61 :: st) h := by
  obtain ⟨fo, h1, h2⟩ := hA.2.2
  have hl : 61 < h.length := (List.getElem?_eq_some_iff.mp h1).1
  refine a_last h1 (by unfold vp_in; decide) hd hp (kk _ ⟨hA.1.kp (d_frm.set _) (by omega), hA.2.1.kp (d_frm.set _) (by omega), ⟨_, List.getElem?_set_self hl, rfl⟩⟩)
theorem b_lald {q : d_C} {M : d_M} {v : Int64} (hA : d_all h q M v) (hd : decode cc pc = .ok (.laload, 1)) (hp : pc + 1 = pc') (kk : a_W p l e R s m args below meth c Q own cc nL g cells slots sz pc' ls (.long v :: st) h) : a_W p l e R s m args below meth c Q own cc nL g cells slots sz pc ls (.int 0 :: .ref 61 :: st) h := by
  obtain ⟨fo, h1, h2⟩ := hA.2.2
  refine a_lald h1 (by unfold vp_in; decide) hd hp ?_
  have e : fo (0 : Int32).toNatClampNeg = v := h2
  rw [e]
  exact kk
end AY2
