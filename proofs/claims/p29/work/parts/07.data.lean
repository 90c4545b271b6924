/-! the data: what the cells of a roof, of the text, of the class, of the check hold -/
abbrev d_Z : Type := Nat → Int32
def d_arr (h : List va_E) (a n kd : Nat) (f : d_Z) : Prop := ∃ f' : d_Z, h[a]? = some (.inl (kd, n, .inl f')) ∧ ∀ k, k < n → f' k = f k
def d_frm (i n : Nat) (h h' : List va_E) : Prop := h'.length = h.length ∧ ∀ q : Nat, (q < i ∨ i + n ≤ q) → h'[q]? = h[q]?
def d_rO (i : Nat) (z : d_Z) : List Value := [.int (z 0), .int (z 1), .int (z 2), .ref (i + 1), .ref (i + 2), .ref (i + 3), .ref (i + 4), .ref (i + 5), .int (z 3), .int (z 4), .int (z 5), .int (z 6), .int (z 7), .int (z 8), .int (z 9), .int (z 10), .int (z 11), .int (z 12), .int (z 13)]
def d_roof (h : List va_E) (i : Nat) (z : d_Z) : Prop := h[i]? = some (.inr (1, d_rO i z)) ∧ d_arr h (i + 1) 100 0 (fun k => z (14 + k)) ∧ d_arr h (i + 2) 100 0 (fun k => z (114 + k)) ∧ d_arr h (i + 3) 25 0 (fun k => z (214 + k)) ∧ d_arr h (i + 4) 25 0 (fun k => z (239 + k)) ∧ d_arr h (i + 5) 25 0 (fun k => z (264 + k))
abbrev d_T : Type := d_Z × Int32 × d_Z × d_Z × Int32
def d_tO (t : d_T) : List Value := [.ref 52, .int t.2.1, .ref 53, .ref 54, .int t.2.2.2.2]
def d_text (h : List va_E) (t : d_T) : Prop := h[51]? = some (.inr (0, d_tO t)) ∧ d_arr h 52 60 1 t.1 ∧ d_arr h 53 60 0 t.2.2.1 ∧ d_arr h 54 60 0 t.2.2.2.1
abbrev d_S : Type := (Nat → d_Z) × Int32 × Int32
def d_ringf (k : Nat) : Option Nat := if k < 6 then some (15 + 6 * k) else none
def d_saves (h : List va_E) (v : d_S) : Prop := h[13]? = some (.inr (2, [.ref 14, .int v.2.1, .int v.2.2])) ∧ h[14]? = some (.inl (3, 6, .inr (.inr (.inr (.inr d_ringf))))) ∧ ∀ k, k < 6 → d_roof h (15 + 6 * k) (v.1 k)
abbrev d_C : Type := d_Z × d_Z × d_S × d_T
def d_cls (h : List va_E) (c : d_C) : Prop := h[0]? = some (.inr (3, [.ref 1, .ref 7, .ref 13, .ref 51])) ∧ d_roof h 1 c.1 ∧ d_roof h 7 c.2.1 ∧ d_saves h c.2.2.1 ∧ d_text h c.2.2.2
abbrev d_M : Type := d_Z × d_Z × d_Z × d_Z × d_Z × Int32 × Int32 × Int32 × Int32 × Int32 × Int32 × Int32 × Int32 × Int64

abbrev m_z (M : d_M) : d_Z := M.1
abbrev m_aside (M : d_M) : d_Z := M.2.1
abbrev m_rows (M : d_M) : d_Z := M.2.2.1
abbrev m_text (M : d_M) : d_Z := M.2.2.2.1
abbrev m_weather (M : d_M) : d_Z := M.2.2.2.2.1
abbrev m_days (M : d_M) : Int32 := M.2.2.2.2.2.1
abbrev m_isWhole (M : d_M) : Int32 := M.2.2.2.2.2.2.1
abbrev m_saved (M : d_M) : Int32 := M.2.2.2.2.2.2.2.1
abbrev m_length (M : d_M) : Int32 := M.2.2.2.2.2.2.2.2.1
abbrev m_thrown (M : d_M) : Int32 := M.2.2.2.2.2.2.2.2.2.1
abbrev m_reachLast (M : d_M) : Int32 := M.2.2.2.2.2.2.2.2.2.2.1
abbrev m_reachTop (M : d_M) : Int32 := M.2.2.2.2.2.2.2.2.2.2.2.1
abbrev m_reachLeft (M : d_M) : Int32 := M.2.2.2.2.2.2.2.2.2.2.2.2.1
abbrev m_h (M : d_M) : Int64 := M.2.2.2.2.2.2.2.2.2.2.2.2.2
abbrev ms_z (M : d_M) (v : d_Z) : d_M := (v, M.2.1, M.2.2.1, M.2.2.2.1, M.2.2.2.2.1, M.2.2.2.2.2.1, M.2.2.2.2.2.2.1, M.2.2.2.2.2.2.2.1, M.2.2.2.2.2.2.2.2.1, M.2.2.2.2.2.2.2.2.2.1, M.2.2.2.2.2.2.2.2.2.2.1, M.2.2.2.2.2.2.2.2.2.2.2.1, M.2.2.2.2.2.2.2.2.2.2.2.2.1, M.2.2.2.2.2.2.2.2.2.2.2.2.2)
abbrev ms_aside (M : d_M) (v : d_Z) : d_M := (M.1, v, M.2.2.1, M.2.2.2.1, M.2.2.2.2.1, M.2.2.2.2.2.1, M.2.2.2.2.2.2.1, M.2.2.2.2.2.2.2.1, M.2.2.2.2.2.2.2.2.1, M.2.2.2.2.2.2.2.2.2.1, M.2.2.2.2.2.2.2.2.2.2.1, M.2.2.2.2.2.2.2.2.2.2.2.1, M.2.2.2.2.2.2.2.2.2.2.2.2.1, M.2.2.2.2.2.2.2.2.2.2.2.2.2)
abbrev ms_rows (M : d_M) (v : d_Z) : d_M := (M.1, M.2.1, v, M.2.2.2.1, M.2.2.2.2.1, M.2.2.2.2.2.1, M.2.2.2.2.2.2.1, M.2.2.2.2.2.2.2.1, M.2.2.2.2.2.2.2.2.1, M.2.2.2.2.2.2.2.2.2.1, M.2.2.2.2.2.2.2.2.2.2.1, M.2.2.2.2.2.2.2.2.2.2.2.1, M.2.2.2.2.2.2.2.2.2.2.2.2.1, M.2.2.2.2.2.2.2.2.2.2.2.2.2)
abbrev ms_text (M : d_M) (v : d_Z) : d_M := (M.1, M.2.1, M.2.2.1, v, M.2.2.2.2.1, M.2.2.2.2.2.1, M.2.2.2.2.2.2.1, M.2.2.2.2.2.2.2.1, M.2.2.2.2.2.2.2.2.1, M.2.2.2.2.2.2.2.2.2.1, M.2.2.2.2.2.2.2.2.2.2.1, M.2.2.2.2.2.2.2.2.2.2.2.1, M.2.2.2.2.2.2.2.2.2.2.2.2.1, M.2.2.2.2.2.2.2.2.2.2.2.2.2)
abbrev ms_weather (M : d_M) (v : d_Z) : d_M := (M.1, M.2.1, M.2.2.1, M.2.2.2.1, v, M.2.2.2.2.2.1, M.2.2.2.2.2.2.1, M.2.2.2.2.2.2.2.1, M.2.2.2.2.2.2.2.2.1, M.2.2.2.2.2.2.2.2.2.1, M.2.2.2.2.2.2.2.2.2.2.1, M.2.2.2.2.2.2.2.2.2.2.2.1, M.2.2.2.2.2.2.2.2.2.2.2.2.1, M.2.2.2.2.2.2.2.2.2.2.2.2.2)
abbrev ms_days (M : d_M) (v : Int32) : d_M := (M.1, M.2.1, M.2.2.1, M.2.2.2.1, M.2.2.2.2.1, v, M.2.2.2.2.2.2.1, M.2.2.2.2.2.2.2.1, M.2.2.2.2.2.2.2.2.1, M.2.2.2.2.2.2.2.2.2.1, M.2.2.2.2.2.2.2.2.2.2.1, M.2.2.2.2.2.2.2.2.2.2.2.1, M.2.2.2.2.2.2.2.2.2.2.2.2.1, M.2.2.2.2.2.2.2.2.2.2.2.2.2)
abbrev ms_isWhole (M : d_M) (v : Int32) : d_M := (M.1, M.2.1, M.2.2.1, M.2.2.2.1, M.2.2.2.2.1, M.2.2.2.2.2.1, v, M.2.2.2.2.2.2.2.1, M.2.2.2.2.2.2.2.2.1, M.2.2.2.2.2.2.2.2.2.1, M.2.2.2.2.2.2.2.2.2.2.1, M.2.2.2.2.2.2.2.2.2.2.2.1, M.2.2.2.2.2.2.2.2.2.2.2.2.1, M.2.2.2.2.2.2.2.2.2.2.2.2.2)
abbrev ms_saved (M : d_M) (v : Int32) : d_M := (M.1, M.2.1, M.2.2.1, M.2.2.2.1, M.2.2.2.2.1, M.2.2.2.2.2.1, M.2.2.2.2.2.2.1, v, M.2.2.2.2.2.2.2.2.1, M.2.2.2.2.2.2.2.2.2.1, M.2.2.2.2.2.2.2.2.2.2.1, M.2.2.2.2.2.2.2.2.2.2.2.1, M.2.2.2.2.2.2.2.2.2.2.2.2.1, M.2.2.2.2.2.2.2.2.2.2.2.2.2)
abbrev ms_length (M : d_M) (v : Int32) : d_M := (M.1, M.2.1, M.2.2.1, M.2.2.2.1, M.2.2.2.2.1, M.2.2.2.2.2.1, M.2.2.2.2.2.2.1, M.2.2.2.2.2.2.2.1, v, M.2.2.2.2.2.2.2.2.2.1, M.2.2.2.2.2.2.2.2.2.2.1, M.2.2.2.2.2.2.2.2.2.2.2.1, M.2.2.2.2.2.2.2.2.2.2.2.2.1, M.2.2.2.2.2.2.2.2.2.2.2.2.2)
abbrev ms_thrown (M : d_M) (v : Int32) : d_M := (M.1, M.2.1, M.2.2.1, M.2.2.2.1, M.2.2.2.2.1, M.2.2.2.2.2.1, M.2.2.2.2.2.2.1, M.2.2.2.2.2.2.2.1, M.2.2.2.2.2.2.2.2.1, v, M.2.2.2.2.2.2.2.2.2.2.1, M.2.2.2.2.2.2.2.2.2.2.2.1, M.2.2.2.2.2.2.2.2.2.2.2.2.1, M.2.2.2.2.2.2.2.2.2.2.2.2.2)
abbrev ms_reachLast (M : d_M) (v : Int32) : d_M := (M.1, M.2.1, M.2.2.1, M.2.2.2.1, M.2.2.2.2.1, M.2.2.2.2.2.1, M.2.2.2.2.2.2.1, M.2.2.2.2.2.2.2.1, M.2.2.2.2.2.2.2.2.1, M.2.2.2.2.2.2.2.2.2.1, v, M.2.2.2.2.2.2.2.2.2.2.2.1, M.2.2.2.2.2.2.2.2.2.2.2.2.1, M.2.2.2.2.2.2.2.2.2.2.2.2.2)
abbrev ms_reachTop (M : d_M) (v : Int32) : d_M := (M.1, M.2.1, M.2.2.1, M.2.2.2.1, M.2.2.2.2.1, M.2.2.2.2.2.1, M.2.2.2.2.2.2.1, M.2.2.2.2.2.2.2.1, M.2.2.2.2.2.2.2.2.1, M.2.2.2.2.2.2.2.2.2.1, M.2.2.2.2.2.2.2.2.2.2.1, v, M.2.2.2.2.2.2.2.2.2.2.2.2.1, M.2.2.2.2.2.2.2.2.2.2.2.2.2)
abbrev ms_reachLeft (M : d_M) (v : Int32) : d_M := (M.1, M.2.1, M.2.2.1, M.2.2.2.1, M.2.2.2.2.1, M.2.2.2.2.2.1, M.2.2.2.2.2.2.1, M.2.2.2.2.2.2.2.1, M.2.2.2.2.2.2.2.2.1, M.2.2.2.2.2.2.2.2.2.1, M.2.2.2.2.2.2.2.2.2.2.1, M.2.2.2.2.2.2.2.2.2.2.2.1, v, M.2.2.2.2.2.2.2.2.2.2.2.2.2)
abbrev ms_h (M : d_M) (v : Int64) : d_M := (M.1, M.2.1, M.2.2.1, M.2.2.2.1, M.2.2.2.2.1, M.2.2.2.2.2.1, M.2.2.2.2.2.2.1, M.2.2.2.2.2.2.2.1, M.2.2.2.2.2.2.2.2.1, M.2.2.2.2.2.2.2.2.2.1, M.2.2.2.2.2.2.2.2.2.2.1, M.2.2.2.2.2.2.2.2.2.2.2.1, M.2.2.2.2.2.2.2.2.2.2.2.2.1, v)
def d_mO (M : d_M) : List Value := [.ref 56, .ref 57, .ref 58, .ref 59, .ref 60, .int (m_days M), .int (m_isWhole M), .int (m_saved M), .int (m_length M), .int (m_thrown M), .int (m_reachLast M), .int (m_reachTop M), .int (m_reachLeft M), .long (m_h M)]
def d_mod (h : List va_E) (M : d_M) : Prop := h[55]? = some (.inr (4, d_mO M)) ∧ d_arr h 56 294 0 (m_z M) ∧ d_arr h 57 294 0 (m_aside M) ∧ d_arr h 58 1764 0 (m_rows M) ∧ d_arr h 59 60 0 (m_text M) ∧ d_arr h 60 200 0 (m_weather M)
theorem d_frm.rf {i n : Nat} {h : List va_E} : d_frm i n h h := ⟨rfl, fun _ _ => rfl⟩
theorem d_frm.tr {lo n i k : Nat} {h0 h h' : List va_E} (a : d_frm lo n h0 h) (b : d_frm i k h h') (hi : lo ≤ i ∧ i + k ≤ lo + n) : d_frm lo n h0 h' := ⟨b.1.trans a.1, fun q hq => (b.2 q (by omega)).trans (a.2 q hq)⟩
theorem d_frm.mono {lo n i k : Nat} {h h' : List va_E} (b : d_frm i k h h') (hi : lo ≤ i ∧ i + k ≤ lo + n) : d_frm lo n h h' := d_frm.tr d_frm.rf b hi
theorem d_frm.set {h : List va_E} {i : Nat} (e : va_E) : d_frm i 1 h (h.set i e) := ⟨List.length_set, fun q hq => List.getElem?_set_ne (by omega)⟩
theorem d_arr.kp {h h' : List va_E} {a n kd i k : Nat} {f : d_Z} (ha : d_arr h a n kd f) (hf : d_frm i k h h') (hd : a < i ∨ i + k ≤ a) : d_arr h' a n kd f := by
  obtain ⟨f', h1, h2⟩ := ha
  exact ⟨f', (hf.2 a hd).trans h1, h2⟩
theorem d_arr.cg {h : List va_E} {a n kd : Nat} {f f2 : d_Z} (ha : d_arr h a n kd f) (hc : ∀ k, k < n → f k = f2 k) : d_arr h a n kd f2 := by
  obtain ⟨f', h1, h2⟩ := ha
  exact ⟨f', h1, fun k hk => (h2 k hk).trans (hc k hk)⟩
theorem d_roof.kp {h h' : List va_E} {i j k : Nat} {z : d_Z} (hR : d_roof h i z) (hf : d_frm j k h h') (hd : i + 6 ≤ j ∨ j + k ≤ i) : d_roof h' i z := ⟨(hf.2 i (by omega)).trans hR.1, hR.2.1.kp hf (by omega), hR.2.2.1.kp hf (by omega), hR.2.2.2.1.kp hf (by omega), hR.2.2.2.2.1.kp hf (by omega), hR.2.2.2.2.2.kp hf (by omega)⟩
theorem d_roof.cg {h : List va_E} {i : Nat} {z z2 : d_Z} (hR : d_roof h i z) (hz : ∀ k, k < 289 → z k = z2 k) : d_roof h i z2 := by
  refine ⟨hR.1.trans ?_, hR.2.1.cg (fun k hk => hz _ (by omega)), hR.2.2.1.cg (fun k hk => hz _ (by omega)), hR.2.2.2.1.cg (fun k hk => hz _ (by omega)), hR.2.2.2.2.1.cg (fun k hk => hz _ (by omega)), hR.2.2.2.2.2.cg (fun k hk => hz _ (by omega))⟩
  unfold d_rO
  simp only [hz 0 (by omega), hz 1 (by omega), hz 2 (by omega), hz 3 (by omega), hz 4 (by omega), hz 5 (by omega), hz 6 (by omega), hz 7 (by omega), hz 8 (by omega), hz 9 (by omega), hz 10 (by omega), hz 11 (by omega), hz 12 (by omega), hz 13 (by omega)]
theorem d_text.kp {h h' : List va_E} {j k : Nat} {t : d_T} (hT : d_text h t) (hf : d_frm j k h h') (hd : 55 ≤ j ∨ j + k ≤ 51) : d_text h' t := ⟨(hf.2 51 (by omega)).trans hT.1, hT.2.1.kp hf (by omega), hT.2.2.1.kp hf (by omega), hT.2.2.2.kp hf (by omega)⟩
theorem d_saves.kp {h h' : List va_E} {j k : Nat} {v : d_S} (hV : d_saves h v) (hf : d_frm j k h h') (hd : 51 ≤ j ∨ j + k ≤ 13) : d_saves h' v := ⟨(hf.2 13 (by omega)).trans hV.1, (hf.2 14 (by omega)).trans hV.2.1, fun q hq => (hV.2.2 q hq).kp hf (by omega)⟩
theorem d_cls.kp {h h' : List va_E} {j k : Nat} {c : d_C} (hC : d_cls h c) (hf : d_frm j k h h') (hd : 55 ≤ j) : d_cls h' c := ⟨(hf.2 0 (by omega)).trans hC.1, hC.2.1.kp hf (by omega), hC.2.2.1.kp hf (by omega), hC.2.2.2.1.kp hf (by omega), hC.2.2.2.2.kp hf (by omega)⟩
theorem d_mod.kp {h h' : List va_E} {j k : Nat} {M : d_M} (hM : d_mod h M) (hf : d_frm j k h h') (hd : 61 ≤ j ∨ j + k ≤ 55) : d_mod h' M := ⟨(hf.2 55 (by omega)).trans hM.1, hM.2.1.kp hf (by omega), hM.2.2.1.kp hf (by omega), hM.2.2.2.1.kp hf (by omega), hM.2.2.2.2.1.kp hf (by omega), hM.2.2.2.2.2.kp hf (by omega)⟩
/-- parts of the class -/
theorem d_c_now {h h' : List va_E} {c : d_C} {z : d_Z} (hC : d_cls h c) (hz : d_roof h' 1 z) (hf : d_frm 1 6 h h') : d_cls h' (z, c.2) := ⟨(hf.2 0 (by omega)).trans hC.1, hz, hC.2.2.1.kp hf (by omega), hC.2.2.2.1.kp hf (by omega), hC.2.2.2.2.kp hf (by omega)⟩
theorem d_c_trial {h h' : List va_E} {c : d_C} {z : d_Z} (hC : d_cls h c) (hz : d_roof h' 7 z) (hf : d_frm 7 6 h h') : d_cls h' (c.1, z, c.2.2) := ⟨(hf.2 0 (by omega)).trans hC.1, hC.2.1.kp hf (by omega), hz, hC.2.2.2.1.kp hf (by omega), hC.2.2.2.2.kp hf (by omega)⟩
theorem d_c_text {h h' : List va_E} {c : d_C} {t : d_T} (hC : d_cls h c) (hz : d_text h' t) (hf : d_frm 51 4 h h') : d_cls h' (c.1, c.2.1, c.2.2.1, t) := ⟨(hf.2 0 (by omega)).trans hC.1, hC.2.1.kp hf (by omega), hC.2.2.1.kp hf (by omega), hC.2.2.2.1.kp hf (by omega), hz⟩
theorem d_c_saves {h h' : List va_E} {c : d_C} {v : d_S} (hC : d_cls h c) (hz : d_saves h' v) (hf : d_frm 13 38 h h') : d_cls h' (c.1, c.2.1, v, c.2.2.2) := ⟨(hf.2 0 (by omega)).trans hC.1, hC.2.1.kp hf (by omega), hC.2.2.1.kp hf (by omega), hz, hC.2.2.2.2.kp hf (by omega)⟩
/-- arrays within a roof -/
def d_put (z : d_Z) (off n : Nat) (f : d_Z) : d_Z := fun j => if off ≤ j ∧ j < off + n then f (j - off) else z j
theorem d_put_in {z f : d_Z} {off n k : Nat} (hk : k < n) : d_put z off n f (off + k) = f k := by
  unfold d_put
  rw [if_pos ⟨by omega, by omega⟩, Nat.add_sub_cancel_left]
theorem d_put_out {z f : d_Z} {off n j : Nat} (hj : j < off ∨ off + n ≤ j) : d_put z off n f j = z j := if_neg (by omega)
theorem d_put_upd {z : d_Z} {off n x : Nat} {v : Int32} (hx : x < n) : d_put z off n (upd (fun k => z (off + k)) x v) = upd z (off + x) v := by
  funext j
  unfold d_put upd
  by_cases hj : off ≤ j ∧ j < off + n
  · rw [if_pos hj]
    by_cases h2 : j - off = x
    · rw [if_pos h2, if_pos (by omega)]
    · rw [if_neg h2, if_neg (by omega)]
      show z (off + (j - off)) = z j
      rw [show off + (j - off) = j by omega]
  · rw [if_neg hj, if_neg (by omega)]
theorem d_put_id {z : d_Z} {off n : Nat} : d_put z off n (fun k => z (off + k)) = z := by
  funext j
  unfold d_put
  by_cases hj : off ≤ j ∧ j < off + n
  · rw [if_pos hj]
    show z (off + (j - off)) = z j
    rw [show off + (j - off) = j by omega]
  · rw [if_neg hj]
theorem d_r_a1 {h h' : List va_E} {i : Nat} {z f : d_Z} (hR : d_roof h i z) (ha : d_arr h' (i + 1) 100 0 f) (hf : d_frm (i + 1) 1 h h') : d_roof h' i (d_put z 14 100 f) := by
  refine ⟨(hf.2 i (by omega)).trans (hR.1.trans ?_), (ha.cg (fun k hk => (d_put_in hk).symm)), ((hR.2.2.1.kp hf (by omega)).cg (fun k hk => (d_put_out (by omega)).symm)), ((hR.2.2.2.1.kp hf (by omega)).cg (fun k hk => (d_put_out (by omega)).symm)), ((hR.2.2.2.2.1.kp hf (by omega)).cg (fun k hk => (d_put_out (by omega)).symm)), ((hR.2.2.2.2.2.kp hf (by omega)).cg (fun k hk => (d_put_out (by omega)).symm))⟩
  unfold d_rO
  simp only [d_put_out (z := z) (f := f) (off := 14) (n := 100) (j := 0) (by omega), d_put_out (z := z) (f := f) (off := 14) (n := 100) (j := 1) (by omega), d_put_out (z := z) (f := f) (off := 14) (n := 100) (j := 2) (by omega), d_put_out (z := z) (f := f) (off := 14) (n := 100) (j := 3) (by omega), d_put_out (z := z) (f := f) (off := 14) (n := 100) (j := 4) (by omega), d_put_out (z := z) (f := f) (off := 14) (n := 100) (j := 5) (by omega), d_put_out (z := z) (f := f) (off := 14) (n := 100) (j := 6) (by omega), d_put_out (z := z) (f := f) (off := 14) (n := 100) (j := 7) (by omega), d_put_out (z := z) (f := f) (off := 14) (n := 100) (j := 8) (by omega), d_put_out (z := z) (f := f) (off := 14) (n := 100) (j := 9) (by omega), d_put_out (z := z) (f := f) (off := 14) (n := 100) (j := 10) (by omega), d_put_out (z := z) (f := f) (off := 14) (n := 100) (j := 11) (by omega), d_put_out (z := z) (f := f) (off := 14) (n := 100) (j := 12) (by omega), d_put_out (z := z) (f := f) (off := 14) (n := 100) (j := 13) (by omega)]
theorem d_r_a2 {h h' : List va_E} {i : Nat} {z f : d_Z} (hR : d_roof h i z) (ha : d_arr h' (i + 2) 100 0 f) (hf : d_frm (i + 2) 1 h h') : d_roof h' i (d_put z 114 100 f) := by
  refine ⟨(hf.2 i (by omega)).trans (hR.1.trans ?_), ((hR.2.1.kp hf (by omega)).cg (fun k hk => (d_put_out (by omega)).symm)), (ha.cg (fun k hk => (d_put_in hk).symm)), ((hR.2.2.2.1.kp hf (by omega)).cg (fun k hk => (d_put_out (by omega)).symm)), ((hR.2.2.2.2.1.kp hf (by omega)).cg (fun k hk => (d_put_out (by omega)).symm)), ((hR.2.2.2.2.2.kp hf (by omega)).cg (fun k hk => (d_put_out (by omega)).symm))⟩
  unfold d_rO
  simp only [d_put_out (z := z) (f := f) (off := 114) (n := 100) (j := 0) (by omega), d_put_out (z := z) (f := f) (off := 114) (n := 100) (j := 1) (by omega), d_put_out (z := z) (f := f) (off := 114) (n := 100) (j := 2) (by omega), d_put_out (z := z) (f := f) (off := 114) (n := 100) (j := 3) (by omega), d_put_out (z := z) (f := f) (off := 114) (n := 100) (j := 4) (by omega), d_put_out (z := z) (f := f) (off := 114) (n := 100) (j := 5) (by omega), d_put_out (z := z) (f := f) (off := 114) (n := 100) (j := 6) (by omega), d_put_out (z := z) (f := f) (off := 114) (n := 100) (j := 7) (by omega), d_put_out (z := z) (f := f) (off := 114) (n := 100) (j := 8) (by omega), d_put_out (z := z) (f := f) (off := 114) (n := 100) (j := 9) (by omega), d_put_out (z := z) (f := f) (off := 114) (n := 100) (j := 10) (by omega), d_put_out (z := z) (f := f) (off := 114) (n := 100) (j := 11) (by omega), d_put_out (z := z) (f := f) (off := 114) (n := 100) (j := 12) (by omega), d_put_out (z := z) (f := f) (off := 114) (n := 100) (j := 13) (by omega)]
theorem d_r_a3 {h h' : List va_E} {i : Nat} {z f : d_Z} (hR : d_roof h i z) (ha : d_arr h' (i + 3) 25 0 f) (hf : d_frm (i + 3) 1 h h') : d_roof h' i (d_put z 214 25 f) := by
  refine ⟨(hf.2 i (by omega)).trans (hR.1.trans ?_), ((hR.2.1.kp hf (by omega)).cg (fun k hk => (d_put_out (by omega)).symm)), ((hR.2.2.1.kp hf (by omega)).cg (fun k hk => (d_put_out (by omega)).symm)), (ha.cg (fun k hk => (d_put_in hk).symm)), ((hR.2.2.2.2.1.kp hf (by omega)).cg (fun k hk => (d_put_out (by omega)).symm)), ((hR.2.2.2.2.2.kp hf (by omega)).cg (fun k hk => (d_put_out (by omega)).symm))⟩
  unfold d_rO
  simp only [d_put_out (z := z) (f := f) (off := 214) (n := 25) (j := 0) (by omega), d_put_out (z := z) (f := f) (off := 214) (n := 25) (j := 1) (by omega), d_put_out (z := z) (f := f) (off := 214) (n := 25) (j := 2) (by omega), d_put_out (z := z) (f := f) (off := 214) (n := 25) (j := 3) (by omega), d_put_out (z := z) (f := f) (off := 214) (n := 25) (j := 4) (by omega), d_put_out (z := z) (f := f) (off := 214) (n := 25) (j := 5) (by omega), d_put_out (z := z) (f := f) (off := 214) (n := 25) (j := 6) (by omega), d_put_out (z := z) (f := f) (off := 214) (n := 25) (j := 7) (by omega), d_put_out (z := z) (f := f) (off := 214) (n := 25) (j := 8) (by omega), d_put_out (z := z) (f := f) (off := 214) (n := 25) (j := 9) (by omega), d_put_out (z := z) (f := f) (off := 214) (n := 25) (j := 10) (by omega), d_put_out (z := z) (f := f) (off := 214) (n := 25) (j := 11) (by omega), d_put_out (z := z) (f := f) (off := 214) (n := 25) (j := 12) (by omega), d_put_out (z := z) (f := f) (off := 214) (n := 25) (j := 13) (by omega)]
theorem d_r_a4 {h h' : List va_E} {i : Nat} {z f : d_Z} (hR : d_roof h i z) (ha : d_arr h' (i + 4) 25 0 f) (hf : d_frm (i + 4) 1 h h') : d_roof h' i (d_put z 239 25 f) := by
  refine ⟨(hf.2 i (by omega)).trans (hR.1.trans ?_), ((hR.2.1.kp hf (by omega)).cg (fun k hk => (d_put_out (by omega)).symm)), ((hR.2.2.1.kp hf (by omega)).cg (fun k hk => (d_put_out (by omega)).symm)), ((hR.2.2.2.1.kp hf (by omega)).cg (fun k hk => (d_put_out (by omega)).symm)), (ha.cg (fun k hk => (d_put_in hk).symm)), ((hR.2.2.2.2.2.kp hf (by omega)).cg (fun k hk => (d_put_out (by omega)).symm))⟩
  unfold d_rO
  simp only [d_put_out (z := z) (f := f) (off := 239) (n := 25) (j := 0) (by omega), d_put_out (z := z) (f := f) (off := 239) (n := 25) (j := 1) (by omega), d_put_out (z := z) (f := f) (off := 239) (n := 25) (j := 2) (by omega), d_put_out (z := z) (f := f) (off := 239) (n := 25) (j := 3) (by omega), d_put_out (z := z) (f := f) (off := 239) (n := 25) (j := 4) (by omega), d_put_out (z := z) (f := f) (off := 239) (n := 25) (j := 5) (by omega), d_put_out (z := z) (f := f) (off := 239) (n := 25) (j := 6) (by omega), d_put_out (z := z) (f := f) (off := 239) (n := 25) (j := 7) (by omega), d_put_out (z := z) (f := f) (off := 239) (n := 25) (j := 8) (by omega), d_put_out (z := z) (f := f) (off := 239) (n := 25) (j := 9) (by omega), d_put_out (z := z) (f := f) (off := 239) (n := 25) (j := 10) (by omega), d_put_out (z := z) (f := f) (off := 239) (n := 25) (j := 11) (by omega), d_put_out (z := z) (f := f) (off := 239) (n := 25) (j := 12) (by omega), d_put_out (z := z) (f := f) (off := 239) (n := 25) (j := 13) (by omega)]
theorem d_r_a5 {h h' : List va_E} {i : Nat} {z f : d_Z} (hR : d_roof h i z) (ha : d_arr h' (i + 5) 25 0 f) (hf : d_frm (i + 5) 1 h h') : d_roof h' i (d_put z 264 25 f) := by
  refine ⟨(hf.2 i (by omega)).trans (hR.1.trans ?_), ((hR.2.1.kp hf (by omega)).cg (fun k hk => (d_put_out (by omega)).symm)), ((hR.2.2.1.kp hf (by omega)).cg (fun k hk => (d_put_out (by omega)).symm)), ((hR.2.2.2.1.kp hf (by omega)).cg (fun k hk => (d_put_out (by omega)).symm)), ((hR.2.2.2.2.1.kp hf (by omega)).cg (fun k hk => (d_put_out (by omega)).symm)), (ha.cg (fun k hk => (d_put_in hk).symm))⟩
  unfold d_rO
  simp only [d_put_out (z := z) (f := f) (off := 264) (n := 25) (j := 0) (by omega), d_put_out (z := z) (f := f) (off := 264) (n := 25) (j := 1) (by omega), d_put_out (z := z) (f := f) (off := 264) (n := 25) (j := 2) (by omega), d_put_out (z := z) (f := f) (off := 264) (n := 25) (j := 3) (by omega), d_put_out (z := z) (f := f) (off := 264) (n := 25) (j := 4) (by omega), d_put_out (z := z) (f := f) (off := 264) (n := 25) (j := 5) (by omega), d_put_out (z := z) (f := f) (off := 264) (n := 25) (j := 6) (by omega), d_put_out (z := z) (f := f) (off := 264) (n := 25) (j := 7) (by omega), d_put_out (z := z) (f := f) (off := 264) (n := 25) (j := 8) (by omega), d_put_out (z := z) (f := f) (off := 264) (n := 25) (j := 9) (by omega), d_put_out (z := z) (f := f) (off := 264) (n := 25) (j := 10) (by omega), d_put_out (z := z) (f := f) (off := 264) (n := 25) (j := 11) (by omega), d_put_out (z := z) (f := f) (off := 264) (n := 25) (j := 12) (by omega), d_put_out (z := z) (f := f) (off := 264) (n := 25) (j := 13) (by omega)]
theorem d_upd_ne {z : d_Z} {k j : Nat} {v : Int32} (h : j ≠ k) : upd z k v j = z j := by unfold upd; exact if_neg h
theorem d_upd_eq {z : d_Z} {k : Nat} {v : Int32} : upd z k v k = v := by unfold upd; exact if_pos rfl
theorem d_r_put {h : List va_E} {i k fp : Nat} {z : d_Z} {v : Int32} (hR : d_roof h i z) (hk : k < 14) (he : (d_rO i z).set fp (.int v) = d_rO i (upd z k v)) : d_roof (h.set i (.inr (1, (d_rO i z).set fp (.int v)))) i (upd z k v) := by
  have hl : i < h.length := (List.getElem?_eq_some_iff.mp hR.1).1
  have hf : d_frm i 1 h (h.set i (.inr (1, (d_rO i z).set fp (.int v)))) := d_frm.set _
  refine ⟨?_, ((hR.2.1.kp hf (by omega)).cg (fun j hj => (d_upd_ne (by omega)).symm)), ((hR.2.2.1.kp hf (by omega)).cg (fun j hj => (d_upd_ne (by omega)).symm)), ((hR.2.2.2.1.kp hf (by omega)).cg (fun j hj => (d_upd_ne (by omega)).symm)), ((hR.2.2.2.2.1.kp hf (by omega)).cg (fun j hj => (d_upd_ne (by omega)).symm)), ((hR.2.2.2.2.2.kp hf (by omega)).cg (fun j hj => (d_upd_ne (by omega)).symm))⟩
  rw [List.getElem?_set_self hl, he]
theorem d_rp_height {i : Nat} {z : d_Z} {v : Int32} : (d_rO i z).set 0 (.int v) = d_rO i (upd z 0 v) := by simp [d_rO, upd]
theorem d_rp_width {i : Nat} {z : d_Z} {v : Int32} : (d_rO i z).set 1 (.int v) = d_rO i (upd z 1 v) := by simp [d_rO, upd]
theorem d_rp_courses {i : Nat} {z : d_Z} {v : Int32} : (d_rO i z).set 2 (.int v) = d_rO i (upd z 2 v) := by simp [d_rO, upd]
theorem d_rp_lap {i : Nat} {z : d_Z} {v : Int32} : (d_rO i z).set 8 (.int v) = d_rO i (upd z 3 v) := by simp [d_rO, upd]
theorem d_rp_pace {i : Nat} {z : d_Z} {v : Int32} : (d_rO i z).set 9 (.int v) = d_rO i (upd z 4 v) := by simp [d_rO, upd]
theorem d_rp_drying {i : Nat} {z : d_Z} {v : Int32} : (d_rO i z).set 10 (.int v) = d_rO i (upd z 5 v) := by simp [d_rO, upd]
theorem d_rp_day {i : Nat} {z : d_Z} {v : Int32} : (d_rO i z).set 11 (.int v) = d_rO i (upd z 6 v) := by simp [d_rO, upd]
theorem d_rp_effort {i : Nat} {z : d_Z} {v : Int32} : (d_rO i z).set 12 (.int v) = d_rO i (upd z 7 v) := by simp [d_rO, upd]
theorem d_rp_damp {i : Nat} {z : d_Z} {v : Int32} : (d_rO i z).set 13 (.int v) = d_rO i (upd z 8 v) := by simp [d_rO, upd]
theorem d_rp_covered {i : Nat} {z : d_Z} {v : Int32} : (d_rO i z).set 14 (.int v) = d_rO i (upd z 9 v) := by simp [d_rO, upd]
theorem d_rp_cut {i : Nat} {z : d_Z} {v : Int32} : (d_rO i z).set 15 (.int v) = d_rO i (upd z 10 v) := by simp [d_rO, upd]
theorem d_rp_thrown {i : Nat} {z : d_Z} {v : Int32} : (d_rO i z).set 16 (.int v) = d_rO i (upd z 11 v) := by simp [d_rO, upd]
theorem d_rp_elder {i : Nat} {z : d_Z} {v : Int32} : (d_rO i z).set 17 (.int v) = d_rO i (upd z 12 v) := by simp [d_rO, upd]
theorem d_rp_cost {i : Nat} {z : d_Z} {v : Int32} : (d_rO i z).set 18 (.int v) = d_rO i (upd z 13 v) := by simp [d_rO, upd]
theorem d_tp_length {h : List va_E} {t : d_T} {v : Int32} (hT : d_text h t) : d_text (h.set 51 (.inr (0, (d_tO t).set 1 (.int v)))) (t.1, v, t.2.2) ∧ d_frm 51 4 h (h.set 51 (.inr (0, (d_tO t).set 1 (.int v)))) := by
  have hl : 51 < h.length := (List.getElem?_eq_some_iff.mp hT.1).1
  have hf : d_frm 51 1 h (h.set 51 (.inr (0, (d_tO t).set 1 (.int v)))) := d_frm.set _
  exact ⟨⟨by rw [List.getElem?_set_self hl]; rfl, hT.2.1.kp hf (by omega), hT.2.2.1.kp hf (by omega), hT.2.2.2.kp hf (by omega)⟩, hf.mono (by omega)⟩
theorem d_tp_parts {h : List va_E} {t : d_T} {v : Int32} (hT : d_text h t) : d_text (h.set 51 (.inr (0, (d_tO t).set 4 (.int v)))) (t.1, t.2.1, t.2.2.1, t.2.2.2.1, v) ∧ d_frm 51 4 h (h.set 51 (.inr (0, (d_tO t).set 4 (.int v)))) := by
  have hl : 51 < h.length := (List.getElem?_eq_some_iff.mp hT.1).1
  have hf : d_frm 51 1 h (h.set 51 (.inr (0, (d_tO t).set 4 (.int v)))) := d_frm.set _
  exact ⟨⟨by rw [List.getElem?_set_self hl]; rfl, hT.2.1.kp hf (by omega), hT.2.2.1.kp hf (by omega), hT.2.2.2.kp hf (by omega)⟩, hf.mono (by omega)⟩
theorem d_ta_signs {h h' : List va_E} {t : d_T} {f : d_Z} (hT : d_text h t) (ha : d_arr h' 52 60 1 f) (hf : d_frm 52 1 h h') : d_text h' (f, t.2) ∧ d_frm 51 4 h h' := ⟨⟨(hf.2 51 (by omega)).trans hT.1, ha, hT.2.2.1.kp hf (by omega), hT.2.2.2.kp hf (by omega)⟩, hf.mono (by omega)⟩
theorem d_ta_weathers {h h' : List va_E} {t : d_T} {f : d_Z} (hT : d_text h t) (ha : d_arr h' 53 60 0 f) (hf : d_frm 53 1 h h') : d_text h' (t.1, t.2.1, f, t.2.2.2) ∧ d_frm 51 4 h h' := ⟨⟨(hf.2 51 (by omega)).trans hT.1, hT.2.1.kp hf (by omega), ha, hT.2.2.2.kp hf (by omega)⟩, hf.mono (by omega)⟩
theorem d_ta_repeats {h h' : List va_E} {t : d_T} {f : d_Z} (hT : d_text h t) (ha : d_arr h' 54 60 0 f) (hf : d_frm 54 1 h h') : d_text h' (t.1, t.2.1, t.2.2.1, f, t.2.2.2.2) ∧ d_frm 51 4 h h' := ⟨⟨(hf.2 51 (by omega)).trans hT.1, hT.2.1.kp hf (by omega), hT.2.2.1.kp hf (by omega), ha⟩, hf.mono (by omega)⟩
theorem d_sp_oldest {h : List va_E} {t : d_S} {v : Int32} (hT : d_saves h t) : d_saves (h.set 13 (.inr (2, ([.ref 14, .int t.2.1, .int t.2.2] : List Value).set 1 (.int v)))) (t.1, v, t.2.2) ∧ d_frm 13 38 h (h.set 13 (.inr (2, ([.ref 14, .int t.2.1, .int t.2.2] : List Value).set 1 (.int v)))) := by
  have hl : 13 < h.length := (List.getElem?_eq_some_iff.mp hT.1).1
  have hf : d_frm 13 1 h (h.set 13 (.inr (2, ([.ref 14, .int t.2.1, .int t.2.2] : List Value).set 1 (.int v)))) := d_frm.set _
  exact ⟨⟨by rw [List.getElem?_set_self hl]; rfl, (hf.2 14 (by omega)).trans hT.2.1, fun q hq => (hT.2.2 q hq).kp hf (by omega)⟩, hf.mono (by omega)⟩
theorem d_sp_many {h : List va_E} {t : d_S} {v : Int32} (hT : d_saves h t) : d_saves (h.set 13 (.inr (2, ([.ref 14, .int t.2.1, .int t.2.2] : List Value).set 2 (.int v)))) (t.1, t.2.1, v) ∧ d_frm 13 38 h (h.set 13 (.inr (2, ([.ref 14, .int t.2.1, .int t.2.2] : List Value).set 2 (.int v)))) := by
  have hl : 13 < h.length := (List.getElem?_eq_some_iff.mp hT.1).1
  have hf : d_frm 13 1 h (h.set 13 (.inr (2, ([.ref 14, .int t.2.1, .int t.2.2] : List Value).set 2 (.int v)))) := d_frm.set _
  exact ⟨⟨by rw [List.getElem?_set_self hl]; rfl, (hf.2 14 (by omega)).trans hT.2.1, fun q hq => (hT.2.2 q hq).kp hf (by omega)⟩, hf.mono (by omega)⟩
theorem d_ma_z {h h' : List va_E} {M : d_M} {f : d_Z} (hM : d_mod h M) (ha : d_arr h' 56 294 0 f) (hf : d_frm 56 1 h h') : d_mod h' (ms_z M f) ∧ d_frm 55 6 h h' := ⟨⟨(hf.2 55 (by omega)).trans hM.1, ha, hM.2.2.1.kp hf (by omega), hM.2.2.2.1.kp hf (by omega), hM.2.2.2.2.1.kp hf (by omega), hM.2.2.2.2.2.kp hf (by omega)⟩, hf.mono (by omega)⟩
theorem d_ma_aside {h h' : List va_E} {M : d_M} {f : d_Z} (hM : d_mod h M) (ha : d_arr h' 57 294 0 f) (hf : d_frm 57 1 h h') : d_mod h' (ms_aside M f) ∧ d_frm 55 6 h h' := ⟨⟨(hf.2 55 (by omega)).trans hM.1, hM.2.1.kp hf (by omega), ha, hM.2.2.2.1.kp hf (by omega), hM.2.2.2.2.1.kp hf (by omega), hM.2.2.2.2.2.kp hf (by omega)⟩, hf.mono (by omega)⟩
theorem d_ma_rows {h h' : List va_E} {M : d_M} {f : d_Z} (hM : d_mod h M) (ha : d_arr h' 58 1764 0 f) (hf : d_frm 58 1 h h') : d_mod h' (ms_rows M f) ∧ d_frm 55 6 h h' := ⟨⟨(hf.2 55 (by omega)).trans hM.1, hM.2.1.kp hf (by omega), hM.2.2.1.kp hf (by omega), ha, hM.2.2.2.2.1.kp hf (by omega), hM.2.2.2.2.2.kp hf (by omega)⟩, hf.mono (by omega)⟩
theorem d_ma_text {h h' : List va_E} {M : d_M} {f : d_Z} (hM : d_mod h M) (ha : d_arr h' 59 60 0 f) (hf : d_frm 59 1 h h') : d_mod h' (ms_text M f) ∧ d_frm 55 6 h h' := ⟨⟨(hf.2 55 (by omega)).trans hM.1, hM.2.1.kp hf (by omega), hM.2.2.1.kp hf (by omega), hM.2.2.2.1.kp hf (by omega), ha, hM.2.2.2.2.2.kp hf (by omega)⟩, hf.mono (by omega)⟩
theorem d_ma_weather {h h' : List va_E} {M : d_M} {f : d_Z} (hM : d_mod h M) (ha : d_arr h' 60 200 0 f) (hf : d_frm 60 1 h h') : d_mod h' (ms_weather M f) ∧ d_frm 55 6 h h' := ⟨⟨(hf.2 55 (by omega)).trans hM.1, hM.2.1.kp hf (by omega), hM.2.2.1.kp hf (by omega), hM.2.2.2.1.kp hf (by omega), hM.2.2.2.2.1.kp hf (by omega), ha⟩, hf.mono (by omega)⟩
theorem d_mp_days {h : List va_E} {M : d_M} {v : Int32} (hM : d_mod h M) : d_mod (h.set 55 (.inr (4, (d_mO M).set 5 (.int v)))) (ms_days M v) ∧ d_frm 55 6 h (h.set 55 (.inr (4, (d_mO M).set 5 (.int v)))) := by
  have hl : 55 < h.length := (List.getElem?_eq_some_iff.mp hM.1).1
  have hf : d_frm 55 1 h (h.set 55 (.inr (4, (d_mO M).set 5 (.int v)))) := d_frm.set _
  exact ⟨⟨by rw [List.getElem?_set_self hl]; rfl, hM.2.1.kp hf (by omega), hM.2.2.1.kp hf (by omega), hM.2.2.2.1.kp hf (by omega), hM.2.2.2.2.1.kp hf (by omega), hM.2.2.2.2.2.kp hf (by omega)⟩, hf.mono (by omega)⟩
theorem d_mp_isWhole {h : List va_E} {M : d_M} {v : Int32} (hM : d_mod h M) : d_mod (h.set 55 (.inr (4, (d_mO M).set 6 (.int v)))) (ms_isWhole M v) ∧ d_frm 55 6 h (h.set 55 (.inr (4, (d_mO M).set 6 (.int v)))) := by
  have hl : 55 < h.length := (List.getElem?_eq_some_iff.mp hM.1).1
  have hf : d_frm 55 1 h (h.set 55 (.inr (4, (d_mO M).set 6 (.int v)))) := d_frm.set _
  exact ⟨⟨by rw [List.getElem?_set_self hl]; rfl, hM.2.1.kp hf (by omega), hM.2.2.1.kp hf (by omega), hM.2.2.2.1.kp hf (by omega), hM.2.2.2.2.1.kp hf (by omega), hM.2.2.2.2.2.kp hf (by omega)⟩, hf.mono (by omega)⟩
theorem d_mp_saved {h : List va_E} {M : d_M} {v : Int32} (hM : d_mod h M) : d_mod (h.set 55 (.inr (4, (d_mO M).set 7 (.int v)))) (ms_saved M v) ∧ d_frm 55 6 h (h.set 55 (.inr (4, (d_mO M).set 7 (.int v)))) := by
  have hl : 55 < h.length := (List.getElem?_eq_some_iff.mp hM.1).1
  have hf : d_frm 55 1 h (h.set 55 (.inr (4, (d_mO M).set 7 (.int v)))) := d_frm.set _
  exact ⟨⟨by rw [List.getElem?_set_self hl]; rfl, hM.2.1.kp hf (by omega), hM.2.2.1.kp hf (by omega), hM.2.2.2.1.kp hf (by omega), hM.2.2.2.2.1.kp hf (by omega), hM.2.2.2.2.2.kp hf (by omega)⟩, hf.mono (by omega)⟩
theorem d_mp_length {h : List va_E} {M : d_M} {v : Int32} (hM : d_mod h M) : d_mod (h.set 55 (.inr (4, (d_mO M).set 8 (.int v)))) (ms_length M v) ∧ d_frm 55 6 h (h.set 55 (.inr (4, (d_mO M).set 8 (.int v)))) := by
  have hl : 55 < h.length := (List.getElem?_eq_some_iff.mp hM.1).1
  have hf : d_frm 55 1 h (h.set 55 (.inr (4, (d_mO M).set 8 (.int v)))) := d_frm.set _
  exact ⟨⟨by rw [List.getElem?_set_self hl]; rfl, hM.2.1.kp hf (by omega), hM.2.2.1.kp hf (by omega), hM.2.2.2.1.kp hf (by omega), hM.2.2.2.2.1.kp hf (by omega), hM.2.2.2.2.2.kp hf (by omega)⟩, hf.mono (by omega)⟩
theorem d_mp_thrown {h : List va_E} {M : d_M} {v : Int32} (hM : d_mod h M) : d_mod (h.set 55 (.inr (4, (d_mO M).set 9 (.int v)))) (ms_thrown M v) ∧ d_frm 55 6 h (h.set 55 (.inr (4, (d_mO M).set 9 (.int v)))) := by
  have hl : 55 < h.length := (List.getElem?_eq_some_iff.mp hM.1).1
  have hf : d_frm 55 1 h (h.set 55 (.inr (4, (d_mO M).set 9 (.int v)))) := d_frm.set _
  exact ⟨⟨by rw [List.getElem?_set_self hl]; rfl, hM.2.1.kp hf (by omega), hM.2.2.1.kp hf (by omega), hM.2.2.2.1.kp hf (by omega), hM.2.2.2.2.1.kp hf (by omega), hM.2.2.2.2.2.kp hf (by omega)⟩, hf.mono (by omega)⟩
theorem d_mp_reachLast {h : List va_E} {M : d_M} {v : Int32} (hM : d_mod h M) : d_mod (h.set 55 (.inr (4, (d_mO M).set 10 (.int v)))) (ms_reachLast M v) ∧ d_frm 55 6 h (h.set 55 (.inr (4, (d_mO M).set 10 (.int v)))) := by
  have hl : 55 < h.length := (List.getElem?_eq_some_iff.mp hM.1).1
  have hf : d_frm 55 1 h (h.set 55 (.inr (4, (d_mO M).set 10 (.int v)))) := d_frm.set _
  exact ⟨⟨by rw [List.getElem?_set_self hl]; rfl, hM.2.1.kp hf (by omega), hM.2.2.1.kp hf (by omega), hM.2.2.2.1.kp hf (by omega), hM.2.2.2.2.1.kp hf (by omega), hM.2.2.2.2.2.kp hf (by omega)⟩, hf.mono (by omega)⟩
theorem d_mp_reachTop {h : List va_E} {M : d_M} {v : Int32} (hM : d_mod h M) : d_mod (h.set 55 (.inr (4, (d_mO M).set 11 (.int v)))) (ms_reachTop M v) ∧ d_frm 55 6 h (h.set 55 (.inr (4, (d_mO M).set 11 (.int v)))) := by
  have hl : 55 < h.length := (List.getElem?_eq_some_iff.mp hM.1).1
  have hf : d_frm 55 1 h (h.set 55 (.inr (4, (d_mO M).set 11 (.int v)))) := d_frm.set _
  exact ⟨⟨by rw [List.getElem?_set_self hl]; rfl, hM.2.1.kp hf (by omega), hM.2.2.1.kp hf (by omega), hM.2.2.2.1.kp hf (by omega), hM.2.2.2.2.1.kp hf (by omega), hM.2.2.2.2.2.kp hf (by omega)⟩, hf.mono (by omega)⟩
theorem d_mp_reachLeft {h : List va_E} {M : d_M} {v : Int32} (hM : d_mod h M) : d_mod (h.set 55 (.inr (4, (d_mO M).set 12 (.int v)))) (ms_reachLeft M v) ∧ d_frm 55 6 h (h.set 55 (.inr (4, (d_mO M).set 12 (.int v)))) := by
  have hl : 55 < h.length := (List.getElem?_eq_some_iff.mp hM.1).1
  have hf : d_frm 55 1 h (h.set 55 (.inr (4, (d_mO M).set 12 (.int v)))) := d_frm.set _
  exact ⟨⟨by rw [List.getElem?_set_self hl]; rfl, hM.2.1.kp hf (by omega), hM.2.2.1.kp hf (by omega), hM.2.2.2.1.kp hf (by omega), hM.2.2.2.2.1.kp hf (by omega), hM.2.2.2.2.2.kp hf (by omega)⟩, hf.mono (by omega)⟩
theorem d_mp_h {h : List va_E} {M : d_M} {v : Int64} (hM : d_mod h M) : d_mod (h.set 55 (.inr (4, (d_mO M).set 13 (.long v)))) (ms_h M v) ∧ d_frm 55 6 h (h.set 55 (.inr (4, (d_mO M).set 13 (.long v)))) := by
  have hl : 55 < h.length := (List.getElem?_eq_some_iff.mp hM.1).1
  have hf : d_frm 55 1 h (h.set 55 (.inr (4, (d_mO M).set 13 (.long v)))) := d_frm.set _
  exact ⟨⟨by rw [List.getElem?_set_self hl]; rfl, hM.2.1.kp hf (by omega), hM.2.2.1.kp hf (by omega), hM.2.2.2.1.kp hf (by omega), hM.2.2.2.2.1.kp hf (by omega), hM.2.2.2.2.2.kp hf (by omega)⟩, hf.mono (by omega)⟩
/-- guards of the functions -/
def f_grd {α : Type} (i : Int32) (n : Nat) (k : Option α) : Option α := if i < 0 ∨ n ≤ i.toNatClampNeg then none else k
theorem f_grd_x {α : Type} {i : Int32} {n : Nat} {k : Option α} {o : α} (h : f_grd i n k = some o) : vp_in i n ∧ k = some o := by
  unfold f_grd at h
  by_cases c : i < 0 ∨ n ≤ i.toNatClampNeg
  · rw [if_pos c] at h; cases h
  · rw [if_neg c] at h; exact ⟨c, h⟩
def f_if {α : Type} (p : Prop) [Decidable p] (k : Option α) : Option α := if p then k else none
theorem f_if_x {α : Type} {p : Prop} [Decidable p] {k : Option α} {o : α} (h : f_if p k = some o) : p ∧ k = some o := by
  unfold f_if at h
  by_cases c : p
  · rw [if_pos c] at h; exact ⟨c, h⟩
  · rw [if_neg c] at h; cases h
def f_let {α β : Type} (a : α) (k : α → Option β) : Option β := k a
theorem f_let_x {α β : Type} {a : α} {k : α → Option β} {o : β} {P : α → Prop} (h : f_let a k = some o) (p : P a) : ∃ b, k b = some o ∧ P b := ⟨a, h, p⟩
abbrev a_rm (f lo : Nat) : Room := { frames := f, cells := 0, slots := 0, locals := lo }
abbrev a_rx (f lo : Nat) : Room := { frames := f, cells := 1, slots := 6, locals := lo }
section AY
variable {p : Program} {l : Launch} {e : Env} {R : Room} {s : State} {m : MethodId} {args : Array Value} {below : List Frame} {meth : Method} {c : Code} {Q : State → Prop} {own : String} {cc : ByteArray} {nL : Nat} {g : a_G} {cells slots : Nat} {sz : Option Nat} {pc pc' : Nat} {ls : List (Nat × Value)} {st : List Value} {h : List va_E}
theorem b_iald {a n : Nat} {x : Int32} {f : d_Z} (ha : d_arr h a n 0 f) (hi : vp_in x n) (hd : decode cc pc = .ok (.iaload, 1)) (hp : pc + 1 = pc') (kk : a_W p l e R s m args below meth c Q own cc nL g cells slots sz pc' ls (.int (f x.toNatClampNeg) :: st) h) : a_W p l e R s m args below meth c Q own cc nL g cells slots sz pc ls (.int x :: .ref a :: st) h := by
  obtain ⟨f', h1, h2⟩ := ha
  refine a_iald h1 hi hd hp ?_
  rw [h2 _ (Nat.not_le.mp fun q => hi (Or.inr q))]
  exact kk
theorem b_cald {a n : Nat} {x : Int32} {f : d_Z} (ha : d_arr h a n 1 f) (hi : vp_in x n) (hd : decode cc pc = .ok (.caload, 1)) (hp : pc + 1 = pc') (kk : a_W p l e R s m args below meth c Q own cc nL g cells slots sz pc' ls (.int (f x.toNatClampNeg) :: st) h) : a_W p l e R s m args below meth c Q own cc nL g cells slots sz pc ls (.int x :: .ref a :: st) h := by
  obtain ⟨f', h1, h2⟩ := ha
  refine a_cald h1 hi hd hp ?_
  rw [h2 _ (Nat.not_le.mp fun q => hi (Or.inr q))]
  exact kk
theorem b_alen {a n kd : Nat} {f : d_Z} (hk : kd < 4) (ha : d_arr h a n kd f) (hd : decode cc pc = .ok (.arraylength, 1)) (hp : pc + 1 = pc') (kk : a_W p l e R s m args below meth c Q own cc nL g cells slots sz pc' ls (.int (Int32.ofNat n) :: st) h) : a_W p l e R s m args below meth c Q own cc nL g cells slots sz pc ls (.ref a :: st) h := by
  obtain ⟨f', h1, h2⟩ := ha
  exact a_alen hk h1 rfl hd hp kk
theorem b_iast {a n : Nat} {j x : Int32} {f : d_Z} (ha : d_arr h a n 0 f) (hi : vp_in j n) (hd : decode cc pc = .ok (.iastore, 1)) (hp : pc + 1 = pc') (kk : ∀ h', d_arr h' a n 0 (upd f j.toNatClampNeg x) → d_frm a 1 h h' → a_W p l e R s m args below meth c Q own cc nL g cells slots sz pc' ls st h') : a_W p l e R s m args below meth c Q own cc nL g cells slots sz pc ls (.int x :: .int j :: .ref a :: st) h := by
  obtain ⟨f', h1, h2⟩ := ha
  have hl : a < h.length := (List.getElem?_eq_some_iff.mp h1).1
  refine a_iast h1 hi hd hp (kk _ ⟨_, List.getElem?_set_self hl, fun k hk => ?_⟩ (d_frm.set _))
  unfold upd
  by_cases c : k = j.toNatClampNeg
  · rw [if_pos c, if_pos c]
  · rw [if_neg c, if_neg c]; exact h2 k hk
theorem b_cast {a n : Nat} {j x : Int32} {f : d_Z} (ha : d_arr h a n 1 f) (hi : vp_in j n) (hd : decode cc pc = .ok (.castore, 1)) (hp : pc + 1 = pc') (kk : ∀ h', d_arr h' a n 1 (upd f j.toNatClampNeg (vp_nar .char x)) → d_frm a 1 h h' → a_W p l e R s m args below meth c Q own cc nL g cells slots sz pc' ls st h') : a_W p l e R s m args below meth c Q own cc nL g cells slots sz pc ls (.int x :: .int j :: .ref a :: st) h := by
  obtain ⟨f', h1, h2⟩ := ha
  have hl : a < h.length := (List.getElem?_eq_some_iff.mp h1).1
  refine a_cast h1 hi hd hp (kk _ ⟨_, List.getElem?_set_self hl, fun k hk => ?_⟩ (d_frm.set _))
  unfold upd
  by_cases c : k = j.toNatClampNeg
  · rw [if_pos c, if_pos c]
  · rw [if_neg c, if_neg c]; exact h2 k hk
end AY
/-! the law's own rows: le, sl, st, he, d (and ev, which the copies haven't) -/
abbrev d_P : Type := Nat × Nat × Nat × Nat × Nat
abbrev d_W : Type := d_Z × d_Z × d_Z × d_Z × d_Z
abbrev d_A : Type := d_C × d_Z × d_W
abbrev d_X : Type := d_A × d_W
abbrev d_P0 : d_P := (55, 56, 57, 58, 60)
abbrev d_P1 (b : Nat) : d_P := (b + 0, b + 1, b + 2, b + 3, b + 4)
def d_pd (P : d_P) : Prop := P.1 ≠ P.2.1 ∧ P.1 ≠ P.2.2.1 ∧ P.1 ≠ P.2.2.2.1 ∧ P.1 ≠ P.2.2.2.2 ∧ P.2.1 ≠ P.2.2.1 ∧ P.2.1 ≠ P.2.2.2.1 ∧ P.2.1 ≠ P.2.2.2.2 ∧ P.2.2.1 ≠ P.2.2.2.1 ∧ P.2.2.1 ≠ P.2.2.2.2 ∧ P.2.2.2.1 ≠ P.2.2.2.2
def d_lw (h : List va_E) (P : d_P) (u : d_W) : Prop := d_pd P ∧ d_arr h P.1 61 0 u.1 ∧ d_arr h P.2.1 61 0 u.2.1 ∧ d_arr h P.2.2.1 25 0 u.2.2.1 ∧ d_arr h P.2.2.2.1 25 0 u.2.2.2.1 ∧ d_arr h P.2.2.2.2 14 0 u.2.2.2.2
def d_al (h : List va_E) (Y : d_A) : Prop := d_cls h Y.1 ∧ d_arr h 59 25 0 Y.2.1 ∧ d_lw h d_P0 Y.2.2
def d_bl (h : List va_E) (b : Nat) (Z : d_X) : Prop := d_al h Z.1 ∧ d_lw h (d_P1 b) Z.2 ∧ 61 ≤ b
abbrev d_fl (h h' : List va_E) : Prop := h'.length = h.length
def d_fw (P : d_P) (h h' : List va_E) : Prop := h'.length = h.length ∧ ∀ q, q ≠ P.1 → q ≠ P.2.1 → q ≠ P.2.2.1 → q ≠ P.2.2.2.1 → q ≠ P.2.2.2.2 → h'[q]? = h[q]?
theorem d_fw.rf {P : d_P} {h : List va_E} : d_fw P h h := ⟨rfl, fun _ _ _ _ _ _ => rfl⟩
theorem d_fw.tr {P : d_P} {h0 h h' : List va_E} (a : d_fw P h0 h) (b : d_fw P h h') : d_fw P h0 h' := ⟨b.1.trans a.1, fun q h1 h2 h3 h4 h5 => (b.2 q h1 h2 h3 h4 h5).trans (a.2 q h1 h2 h3 h4 h5)⟩
theorem d_arr.kw {h h' : List va_E} {a n kd : Nat} {f : d_Z} {P : d_P} (ha : d_arr h a n kd f) (hf : d_fw P h h') (h1 : a ≠ P.1) (h2 : a ≠ P.2.1) (h3 : a ≠ P.2.2.1) (h4 : a ≠ P.2.2.2.1) (h5 : a ≠ P.2.2.2.2) : d_arr h' a n kd f := by
  obtain ⟨f', g1, g2⟩ := ha
  exact ⟨f', (hf.2 a h1 h2 h3 h4 h5).trans g1, g2⟩
theorem d_arr.k1 {h h' : List va_E} {a n kd j : Nat} {f : d_Z} (ha : d_arr h a n kd f) (hf : d_frm j 1 h h') (h1 : a ≠ j) : d_arr h' a n kd f := ha.kp hf (by omega)
theorem d_lw_s0 {h h' : List va_E} {P : d_P} {u : d_W} {f : d_Z} (hz : d_lw h P u) (ha : d_arr h' P.1 61 0 f) (hf : d_frm P.1 1 h h') : d_lw h' P (f, u.2.1, u.2.2.1, u.2.2.2.1, u.2.2.2.2) ∧ d_fw P h h' := by
  obtain ⟨⟨p1, p2, p3, p4, p5, p6, p7, p8, p9, p10⟩, h1, h2, h3, h4, h5⟩ := hz
  exact ⟨⟨⟨p1, p2, p3, p4, p5, p6, p7, p8, p9, p10⟩, ha, h2.k1 hf p1.symm, h3.k1 hf p2.symm, h4.k1 hf p3.symm, h5.k1 hf p4.symm⟩, hf.1, fun q g1 _ _ _ _ => hf.2 q (by omega)⟩
theorem d_lw_s1 {h h' : List va_E} {P : d_P} {u : d_W} {f : d_Z} (hz : d_lw h P u) (ha : d_arr h' P.2.1 61 0 f) (hf : d_frm P.2.1 1 h h') : d_lw h' P (u.1, f, u.2.2.1, u.2.2.2.1, u.2.2.2.2) ∧ d_fw P h h' := by
  obtain ⟨⟨p1, p2, p3, p4, p5, p6, p7, p8, p9, p10⟩, h1, h2, h3, h4, h5⟩ := hz
  exact ⟨⟨⟨p1, p2, p3, p4, p5, p6, p7, p8, p9, p10⟩, h1.k1 hf p1, ha, h3.k1 hf p5.symm, h4.k1 hf p6.symm, h5.k1 hf p7.symm⟩, hf.1, fun q _ g1 _ _ _ => hf.2 q (by omega)⟩
theorem d_lw_s2 {h h' : List va_E} {P : d_P} {u : d_W} {f : d_Z} (hz : d_lw h P u) (ha : d_arr h' P.2.2.1 25 0 f) (hf : d_frm P.2.2.1 1 h h') : d_lw h' P (u.1, u.2.1, f, u.2.2.2.1, u.2.2.2.2) ∧ d_fw P h h' := by
  obtain ⟨⟨p1, p2, p3, p4, p5, p6, p7, p8, p9, p10⟩, h1, h2, h3, h4, h5⟩ := hz
  exact ⟨⟨⟨p1, p2, p3, p4, p5, p6, p7, p8, p9, p10⟩, h1.k1 hf p2, h2.k1 hf p5, ha, h4.k1 hf p8.symm, h5.k1 hf p9.symm⟩, hf.1, fun q _ _ g1 _ _ => hf.2 q (by omega)⟩
theorem d_lw_s3 {h h' : List va_E} {P : d_P} {u : d_W} {f : d_Z} (hz : d_lw h P u) (ha : d_arr h' P.2.2.2.1 25 0 f) (hf : d_frm P.2.2.2.1 1 h h') : d_lw h' P (u.1, u.2.1, u.2.2.1, f, u.2.2.2.2) ∧ d_fw P h h' := by
  obtain ⟨⟨p1, p2, p3, p4, p5, p6, p7, p8, p9, p10⟩, h1, h2, h3, h4, h5⟩ := hz
  exact ⟨⟨⟨p1, p2, p3, p4, p5, p6, p7, p8, p9, p10⟩, h1.k1 hf p3, h2.k1 hf p6, h3.k1 hf p8, ha, h5.k1 hf p10.symm⟩, hf.1, fun q _ _ _ g1 _ => hf.2 q (by omega)⟩
theorem d_lw_s4 {h h' : List va_E} {P : d_P} {u : d_W} {f : d_Z} (hz : d_lw h P u) (ha : d_arr h' P.2.2.2.2 14 0 f) (hf : d_frm P.2.2.2.2 1 h h') : d_lw h' P (u.1, u.2.1, u.2.2.1, u.2.2.2.1, f) ∧ d_fw P h h' := by
  obtain ⟨⟨p1, p2, p3, p4, p5, p6, p7, p8, p9, p10⟩, h1, h2, h3, h4, h5⟩ := hz
  exact ⟨⟨⟨p1, p2, p3, p4, p5, p6, p7, p8, p9, p10⟩, h1.k1 hf p4, h2.k1 hf p7, h3.k1 hf p9, h4.k1 hf p10, ha⟩, hf.1, fun q _ _ _ _ g1 => hf.2 q (by omega)⟩
theorem d_lw.kp {h h' : List va_E} {P : d_P} {u : d_W} {j k : Nat} (hz : d_lw h P u) (hf : d_frm j k h h') (h1 : P.1 < j ∨ j + k ≤ P.1) (h2 : P.2.1 < j ∨ j + k ≤ P.2.1) (h3 : P.2.2.1 < j ∨ j + k ≤ P.2.2.1) (h4 : P.2.2.2.1 < j ∨ j + k ≤ P.2.2.2.1) (h5 : P.2.2.2.2 < j ∨ j + k ≤ P.2.2.2.2) : d_lw h' P u := ⟨hz.1, hz.2.1.kp hf h1, hz.2.2.1.kp hf h2, hz.2.2.2.1.kp hf h3, hz.2.2.2.2.1.kp hf h4, hz.2.2.2.2.2.kp hf h5⟩
theorem d_al_len {h : List va_E} {Y : d_A} (hz : d_al h Y) : 61 ≤ h.length := by
  obtain ⟨f', g1, g2⟩ := hz.2.2.2.2.2.2.2
  have g3 : 60 < h.length := (List.getElem?_eq_some_iff.mp g1).1
  omega
theorem d_al_c {h h' : List va_E} {Y : d_A} {q : d_C} (hz : d_al h Y) (hq : d_cls h' q) (hf : d_frm 0 55 h h') : d_al h' (q, Y.2) := ⟨hq, hz.2.1.kp hf (by omega), hz.2.2.kp hf (by show 55 < 0 ∨ 0 + 55 ≤ 55; omega) (by show 56 < 0 ∨ 0 + 55 ≤ 56; omega) (by show 57 < 0 ∨ 0 + 55 ≤ 57; omega) (by show 58 < 0 ∨ 0 + 55 ≤ 58; omega) (by show 60 < 0 ∨ 0 + 55 ≤ 60; omega)⟩
theorem d_al_e {h h' : List va_E} {Y : d_A} {f : d_Z} (hz : d_al h Y) (ha : d_arr h' 59 25 0 f) (hf : d_frm 59 1 h h') : d_al h' (Y.1, f, Y.2.2) := ⟨hz.1.kp hf (by omega), ha, hz.2.2.kp hf (by show 55 < 59 ∨ 59 + 1 ≤ 55; omega) (by show 56 < 59 ∨ 59 + 1 ≤ 56; omega) (by show 57 < 59 ∨ 59 + 1 ≤ 57; omega) (by show 58 < 59 ∨ 59 + 1 ≤ 58; omega) (by show 60 < 59 ∨ 59 + 1 ≤ 60; omega)⟩
theorem d_roof.kq {h h' : List va_E} {i : Nat} {z : d_Z} (hR : d_roof h i z) (hf : ∀ q, q < i + 6 → h'[q]? = h[q]?) : d_roof h' i z := by
  have k : ∀ {a n kd : Nat} {f : d_Z}, a < i + 6 → d_arr h a n kd f → d_arr h' a n kd f := by
    rintro a n kd f hq ⟨f', h1, h2⟩
    exact ⟨f', (hf a hq).trans h1, h2⟩
  exact ⟨(hf i (by omega)).trans hR.1, k (by omega) hR.2.1, k (by omega) hR.2.2.1, k (by omega) hR.2.2.2.1, k (by omega) hR.2.2.2.2.1, k (by omega) hR.2.2.2.2.2⟩
theorem d_cls.kq {h h' : List va_E} {q : d_C} (hC : d_cls h q) (hf : ∀ k, k < 55 → h'[k]? = h[k]?) : d_cls h' q := by
  have k : ∀ {a n kd : Nat} {f : d_Z}, a < 55 → d_arr h a n kd f → d_arr h' a n kd f := by
    rintro a n kd f hq ⟨f', h1, h2⟩
    exact ⟨f', (hf a hq).trans h1, h2⟩
  refine ⟨(hf 0 (by omega)).trans hC.1, hC.2.1.kq (fun q hq => hf q (by omega)), hC.2.2.1.kq (fun q hq => hf q (by omega)), ⟨(hf 13 (by omega)).trans hC.2.2.2.1.1, (hf 14 (by omega)).trans hC.2.2.2.1.2.1, fun j hj => (hC.2.2.2.1.2.2 j hj).kq (fun q hq => hf q (by omega))⟩, ⟨(hf 51 (by omega)).trans hC.2.2.2.2.1, k (by omega) hC.2.2.2.2.2.1, k (by omega) hC.2.2.2.2.2.2.1, k (by omega) hC.2.2.2.2.2.2.2⟩⟩
theorem d_al_w {h h' : List va_E} {Y : d_A} {u : d_W} (hz : d_al h Y) (hu : d_lw h' d_P0 u) (hf : d_fw d_P0 h h') : d_al h' (Y.1, Y.2.1, u) := ⟨hz.1.kq (fun q hq => hf.2 q (by show q ≠ 55; omega) (by show q ≠ 56; omega) (by show q ≠ 57; omega) (by show q ≠ 58; omega) (by show q ≠ 60; omega)), hz.2.1.kw hf (by decide) (by decide) (by decide) (by decide) (by decide), hu⟩
theorem d_bl_c {h h' : List va_E} {b : Nat} {Z : d_X} {q : d_C} (hz : d_bl h b Z) (hq : d_cls h' q) (hf : d_frm 0 55 h h') : d_bl h' b ((q, Z.1.2), Z.2) := by
  have hb := hz.2.2
  exact ⟨d_al_c hz.1 hq hf, hz.2.1.kp hf (by show b + 0 < 0 ∨ 0 + 55 ≤ b + 0; omega) (by show b + 1 < 0 ∨ 0 + 55 ≤ b + 1; omega) (by show b + 2 < 0 ∨ 0 + 55 ≤ b + 2; omega) (by show b + 3 < 0 ∨ 0 + 55 ≤ b + 3; omega) (by show b + 4 < 0 ∨ 0 + 55 ≤ b + 4; omega), hb⟩
theorem d_bl_p {h h' : List va_E} {b : Nat} {Z : d_X} {u : d_W} (hz : d_bl h b Z) (hu : d_lw h' (d_P1 b) u) (hf : d_fw (d_P1 b) h h') : d_bl h' b (Z.1, u) := by
  have hb := hz.2.2
  have k : ∀ q, q < 61 → h'[q]? = h[q]? := fun q hq => hf.2 q (by show q ≠ b + 0; omega) (by show q ≠ b + 1; omega) (by show q ≠ b + 2; omega) (by show q ≠ b + 3; omega) (by show q ≠ b + 4; omega)
  have ka : ∀ {a n kd : Nat} {f : d_Z}, a < 61 → d_arr h a n kd f → d_arr h' a n kd f := by
    rintro a n kd f hq ⟨f', h1, h2⟩
    exact ⟨f', (k a hq).trans h1, h2⟩
  exact ⟨⟨hz.1.1.kq (fun q hq => k q (by omega)), ka (by omega) hz.1.2.1, hz.1.2.2.1, ka (by show 55 < 61; omega) hz.1.2.2.2.1, ka (by show 56 < 61; omega) hz.1.2.2.2.2.1, ka (by show 57 < 61; omega) hz.1.2.2.2.2.2.1, ka (by show 58 < 61; omega) hz.1.2.2.2.2.2.2.1, ka (by show 60 < 61; omega) hz.1.2.2.2.2.2.2.2⟩, hu, hb⟩
theorem d_bl_ne {h : List va_E} {b j k : Nat} {Z : d_X} (hz : d_bl h b Z) (hk : k < 61) : b + j ≠ k := by
  have := hz.2.2
  omega
theorem d_app_len {h : List va_E} {e : va_E} {n : Nat} (hn : h.length = n) : (h ++ [e]).length = n + 1 := by rw [List.length_append, hn]; rfl
def d_ai (n : Nat) : va_E := .inl (0, n, .inl (fun _ => 0))
def d_w0 : d_W := (fun _ => 0, fun _ => 0, fun _ => 0, fun _ => 0, fun _ => 0)
theorem d_bl_new {h : List va_E} {b : Nat} {Y : d_A} (hb : h.length = b + 0) (hz : d_al h Y) : d_bl (((((h ++ [d_ai 61]) ++ [d_ai 61]) ++ [d_ai 25]) ++ [d_ai 25]) ++ [d_ai 14]) b (Y, d_w0) := by
  have h61 := d_al_len hz
  have h1 := d_app_len (e := d_ai 61) hb
  have h2 := d_app_len (e := d_ai 61) h1
  have h3 := d_app_len (e := d_ai 25) h2
  have h4 := d_app_len (e := d_ai 25) h3
  have kp : ∀ {l : List va_E} {e : va_E} {q : Nat}, q < l.length → (l ++ [e])[q]? = l[q]? := fun hq => List.getElem?_append_left hq
  have kn : ∀ {l : List va_E} {e : va_E} {q : Nat}, l.length = q → (l ++ [e])[q]? = some e := fun hq => by subst hq; exact List.getElem?_concat_length
  have k : ∀ q, q < h.length → (((((h ++ [d_ai 61]) ++ [d_ai 61]) ++ [d_ai 25]) ++ [d_ai 25]) ++ [d_ai 14])[q]? = h[q]? := fun q hq => (kp (by omega)).trans ((kp (by omega)).trans ((kp (by omega)).trans ((kp (by omega)).trans (kp hq))))
  have ka : ∀ {a n kd : Nat} {f : d_Z}, a < 61 → d_arr h a n kd f → d_arr (((((h ++ [d_ai 61]) ++ [d_ai 61]) ++ [d_ai 25]) ++ [d_ai 25]) ++ [d_ai 14]) a n kd f := by
    rintro a n kd f hq ⟨f', g1, g2⟩
    exact ⟨f', (k a (by omega)).trans g1, g2⟩
  refine ⟨⟨hz.1.kq (fun q hq => k q (by omega)), ka (by omega) hz.2.1, hz.2.2.1, ka (by show 55 < 61; omega) hz.2.2.2.1, ka (by show 56 < 61; omega) hz.2.2.2.2.1, ka (by show 57 < 61; omega) hz.2.2.2.2.2.1, ka (by show 58 < 61; omega) hz.2.2.2.2.2.2.1, ka (by show 60 < 61; omega) hz.2.2.2.2.2.2.2⟩, ⟨?_, ⟨fun _ => 0, ?_, fun _ _ => rfl⟩, ⟨fun _ => 0, ?_, fun _ _ => rfl⟩, ⟨fun _ => 0, ?_, fun _ _ => rfl⟩, ⟨fun _ => 0, ?_, fun _ _ => rfl⟩, ⟨fun _ => 0, ?_, fun _ _ => rfl⟩⟩, by omega⟩
  · show b + 0 ≠ b + 1 ∧ b + 0 ≠ b + 2 ∧ b + 0 ≠ b + 3 ∧ b + 0 ≠ b + 4 ∧ b + 1 ≠ b + 2 ∧ b + 1 ≠ b + 3 ∧ b + 1 ≠ b + 4 ∧ b + 2 ≠ b + 3 ∧ b + 2 ≠ b + 4 ∧ b + 3 ≠ b + 4
    omega
  · exact (kp (by show b + 0 < _; omega)).trans ((kp (by show b + 0 < _; omega)).trans ((kp (by show b + 0 < _; omega)).trans ((kp (by show b + 0 < _; omega)).trans (kn hb))))
  · exact (kp (by show b + 1 < _; omega)).trans ((kp (by show b + 1 < _; omega)).trans ((kp (by show b + 1 < _; omega)).trans (kn h1)))
  · exact (kp (by show b + 2 < _; omega)).trans ((kp (by show b + 2 < _; omega)).trans (kn h2))
  · exact (kp (by show b + 3 < _; omega)).trans (kn h3)
  · exact kn h4
abbrev a_r5 (f lo : Nat) : Room := { frames := f, cells := 5, slots := 186, locals := lo }

