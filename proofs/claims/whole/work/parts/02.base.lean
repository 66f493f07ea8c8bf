/-! ===== BASE: worlds as functions from addresses to cells; the judgement J; contracts Mt ===== -/
abbrev HF : Type := Nat → Option va_E
abbrev LV : Type := List (Option Value)
abbrev En : Type := va_G × (Nat → ClassId)
abbrev HP : Type := HF → Prop
def e_tys (E : En) : List (ClassId × FieldType) := [(E.2 0, .int), (E.2 1, .boolean), (E.2 2, .object "ManorRolls$Person"), (E.2 3, .object "ManorRolls$Right"), (E.2 4, .object "ManorRolls$Suit")]
abbrev e_K (E : En) (U : State) : Prop := va_K E.1 vwCl (e_tys E) U ∧ va_AO "ManorRolls$Person" U ∧ va_AO "ManorRolls$Right" U ∧ va_AO "ManorRolls$Suit" U ∧ va_Nw (.methodLinkNest RX7 27 yX3_init "ManorRolls") U
def hf (ws : va_W) : HF := fun a => (ws.find? (fun q => q.1 == a)).map (fun q => q.2)
def hset (h : HF) (a : Nat) (e : va_E) : HF := fun b => if b = a then some e else h b
theorem hset_same (h : HF) (a : Nat) (e : va_E) : hset h a e a = some e := by simp [hset]
theorem hset_ne (h : HF) {a b : Nat} (e : va_E) (hn : b ≠ a) : hset h a e b = h b := by simp [hset, hn]
theorem hf_mem {ws : va_W} {a : Nat} {e : va_E} (h : hf ws a = some e) : ∃ k : Nat, ws[k]? = some (a, e) := by
  unfold hf at h
  cases hq : ws.find? (fun q => q.1 == a) with
  | none => rw [hq] at h; cases h
  | some q =>
    rw [hq] at h
    have h1 := List.mem_of_find?_eq_some hq
    have h2 := List.find?_some hq
    obtain ⟨k, hk⟩ := List.getElem?_of_mem h1
    have h3 : q.1 = a := by simpa using h2
    have h4 : q.2 = e := by simpa using h
    exact ⟨k, by rw [hk, ← h3, ← h4]⟩
theorem hf_of {A : Nat → Prop} {ws : va_W} {a k : Nat} {e : va_E} (hD : va_D A ws) (hk : ws[k]? = some (a, e)) : hf ws a = some e := by
  cases hq : hf ws a with
  | none =>
    exfalso
    have hm : (a, e) ∈ ws := List.mem_of_getElem? hk
    unfold hf at hq
    rw [Option.map_eq_none_iff, List.find?_eq_none] at hq
    exact hq _ hm (by simp)
  | some e' =>
    obtain ⟨k', hk'⟩ := hf_mem hq
    have := hD.1 k k' _ _ hk hk' rfl
    subst this
    rw [hk] at hk'
    cases hk'
    rfl
theorem hf_ext {ws ws' : va_W} {A A' : Nat → Prop} {b : Nat} (hD : va_D A ws) (hD' : va_D A' ws') (h : ∀ e, (∃ j : Nat, ws[j]? = some (b, e)) ↔ ∃ j : Nat, ws'[j]? = some (b, e)) : hf ws b = hf ws' b := by
  cases hq : hf ws b with
  | some e =>
    obtain ⟨j, hj⟩ := (h e).mp (hf_mem hq)
    exact (hf_of hD' hj).symm
  | none =>
    cases hq' : hf ws' b with
    | none => rfl
    | some e =>
      obtain ⟨j, hj⟩ := (h e).mpr (hf_mem hq')
      rw [hf_of hD hj] at hq
      cases hq
theorem hf_set {A : Nat → Prop} {ws : va_W} {a k : Nat} {e0 e : va_E} (hD : va_D A ws) (hk : ws[k]? = some (a, e0)) : hf (ws.set k (a, e)) = hset (hf ws) a e := by
  have hl := (List.getElem?_eq_some_iff.mp hk).1
  funext b
  by_cases hb : b = a
  · subst hb
    rw [hset_same]
    exact hf_of (hD.set hk) (List.getElem?_set_self hl)
  · rw [hset_ne _ _ hb]
    refine hf_ext (hD.set hk) hD (fun e' => ⟨fun ⟨j, hj⟩ => ?_, fun ⟨j, hj⟩ => ?_⟩)
    · by_cases hjk : j = k
      · subst hjk
        rw [List.getElem?_set_self hl] at hj
        cases hj
        exact absurd rfl hb
      · rw [List.getElem?_set_ne (Ne.symm hjk)] at hj
        exact ⟨j, hj⟩
    · by_cases hjk : j = k
      · subst hjk
        rw [hk] at hj
        cases hj
        exact absurd rfl hb
      · exact ⟨j, by rw [List.getElem?_set_ne (Ne.symm hjk)]; exact hj⟩
theorem hf_push {A : Nat → Prop} {ws : va_W} {a : Nat} {e : va_E} (hD : va_D A ws) (hD' : va_D A (ws ++ [(a, e)])) : hf (ws ++ [(a, e)]) = hset (hf ws) a e := by
  funext b
  by_cases hb : b = a
  · subst hb
    rw [hset_same]
    exact hf_of (k := ws.length) hD' (by simp)
  · rw [hset_ne _ _ hb]
    refine hf_ext hD' hD (fun e' => ⟨fun ⟨j, hj⟩ => ?_, fun ⟨j, hj⟩ => ?_⟩)
    · by_cases hjk : j < ws.length
      · rw [List.getElem?_append_left hjk] at hj
        exact ⟨j, hj⟩
      · rw [List.getElem?_append_right (Nat.le_of_not_lt hjk)] at hj
        have hz : j - ws.length < 1 := (List.getElem?_eq_some_iff.mp hj).1
        rw [show j - ws.length = 0 by omega] at hj
        cases hj
        exact absurd rfl hb
    · have hjk := (List.getElem?_eq_some_iff.mp hj).1
      exact ⟨j, by rw [List.getElem?_append_left hjk]; exact hj⟩
theorem hf_fresh {A : Nat → Prop} {ws : va_W} {a : Nat} {e : va_E} (hD' : va_D A (ws ++ [(a, e)])) : hf ws a = none := by
  cases hq : hf ws a with
  | none => rfl
  | some e' =>
    exfalso
    obtain ⟨k, hk⟩ := hf_mem hq
    have hl := (List.getElem?_eq_some_iff.mp hk).1
    have h1 : (ws ++ [(a, e)])[k]? = some (a, e') := by rw [List.getElem?_append_left hl]; exact hk
    have h2 : (ws ++ [(a, e)])[ws.length]? = some (a, e) := by simp
    have := hD'.1 _ _ _ _ h1 h2 rfl
    omega
/-! locals as a list by places -/
def lvs (ls : Array Slot) (nL : Nat) (lv : LV) : Prop := lv.length = nL ∧ ls.size = nL ∧ lv_wf ls ∧ ∀ (i : Nat) (v : Value), lv[i]? = some (some v) → ls[i]? = some (.val v)
def lva (lv : LV) : List (Nat × Value) := (List.range lv.length).filterMap (fun i => match lv[i]? with
  | some (some v) => some (i, v)
  | _ => none)
theorem lva_mem {lv : LV} {q : Nat × Value} : q ∈ lva lv ↔ lv[q.1]? = some (some q.2) := by
  unfold lva
  rw [List.mem_filterMap]
  constructor
  · rintro ⟨i, -, hi⟩
    cases hv : lv[i]? with
    | none => rw [hv] at hi; cases hi
    | some ov =>
      rw [hv] at hi
      cases ov with
      | none => cases hi
      | some v => cases hi; exact hv
  · intro h
    have hl := (List.getElem?_eq_some_iff.mp h).1
    exact ⟨q.1, List.mem_range.mpr hl, by rw [h]⟩
theorem lvs_has {ls : Array Slot} {nL : Nat} {lv : LV} (h : lvs ls nL lv) : lv_has ls nL (lva lv) := ⟨h.2.1, h.2.2.1, fun q hq => h.2.2.2 _ _ (lva_mem.mp hq)⟩
def ok1 (lv : LV) (i : Nat) : Bool := match i with
  | 0 => true
  | k + 1 => match lv[k]? with
    | some (some v) => v.category == 1
    | _ => true
theorem ok1_spec {lv : LV} {i j : Nat} {v : Value} (h : ok1 lv i = true) (hj : j + 1 = i) (hv : lv[j]? = some (some v)) : v.category = 1 := by
  subst hj
  simpa [ok1, hv] using h
theorem lvs_set1 {ls' : Array Slot} {nL i : Nat} {lv : LV} {v : Value} (h0 : lv.length = nL) (h : lv_has ls' nL ((i, v) :: (lva lv).filter (fun q => !(q.1 == i) && !(q.1 + 1 == i && q.2.category == 2)))) (hk : ok1 lv i = true) : lvs ls' nL (lv.set i (some v)) := by
  refine ⟨by rw [List.length_set]; exact h0, h.1, h.2.1, fun j w hj => ?_⟩
  by_cases hji : j = i
  · subst hji
    have hl := (List.getElem?_eq_some_iff.mp hj).1
    rw [List.length_set] at hl
    rw [List.getElem?_set_self hl] at hj
    cases hj
    exact h.2.2 (j, v) List.mem_cons_self
  · rw [List.getElem?_set_ne (Ne.symm hji)] at hj
    refine h.2.2 (j, w) (List.mem_cons_of_mem _ (List.mem_filter.mpr ⟨lva_mem.mpr hj, ?_⟩))
    by_cases hj1 : j + 1 = i
    · have := ok1_spec hk hj1 hj
      simp [hji, this]
    · simp [hji, hj1]
theorem lvs_set2 {ls' : Array Slot} {nL i : Nat} {lv : LV} {v : Value} (h0 : lv.length = nL) (h : lv_has ls' nL ((i, v) :: (lva lv).filter (fun q => !(q.1 == i) && (!(q.1 == i + 1) && !(q.1 + 1 == i && q.2.category == 2))))) (hk : ok1 lv i = true) : lvs ls' nL ((lv.set i (some v)).set (i + 1) none) := by
  refine ⟨by rw [List.length_set, List.length_set]; exact h0, h.1, h.2.1, fun j w hj => ?_⟩
  have hl := (List.getElem?_eq_some_iff.mp hj).1
  by_cases hji : j = i + 1
  · subst hji
    rw [List.length_set] at hl
    rw [List.getElem?_set_self hl] at hj
    cases hj
  · rw [List.getElem?_set_ne (Ne.symm hji)] at hj
    by_cases hji2 : j = i
    · subst hji2
      rw [List.length_set, List.length_set] at hl
      rw [List.getElem?_set_self hl] at hj
      cases hj
      exact h.2.2 (j, v) List.mem_cons_self
    · rw [List.getElem?_set_ne (Ne.symm hji2)] at hj
      refine h.2.2 (j, w) (List.mem_cons_of_mem _ (List.mem_filter.mpr ⟨lva_mem.mpr hj, ?_⟩))
      by_cases hj1 : j + 1 = i
      · have := ok1_spec hk hj1 hj
        simp [hji, hji2, this]
      · simp [hji, hji2, hj1]
/-- fewer locals known -/
def lvle (a b : LV) : Prop := a.length = b.length ∧ ∀ (i : Nat) (v : Value), a[i]? = some (some v) → b[i]? = some (some v)
theorem lvs_le {ls : Array Slot} {nL : Nat} {a b : LV} (h : lvs ls nL b) (hab : lvle a b) : lvs ls nL a := ⟨hab.1.trans h.1, h.2.1, h.2.2.1, fun i v hv => h.2.2.2 i v (hab.2 i v hv)⟩
def lvleB : LV → LV → Prop
  | [], [] => True
  | none :: a, _ :: b => lvleB a b
  | some v :: a, x :: b => x = some v ∧ lvleB a b
  | _, _ => False
theorem lvle_of : ∀ {a b : LV}, lvleB a b → lvle a b
  | [], [], _ => ⟨rfl, fun i v h => by simp at h⟩
  | none :: a, _ :: b, h => by
    have h2 := lvle_of (a := a) (b := b) h
    refine ⟨by simp [h2.1], fun i v hv => ?_⟩
    cases i with
    | zero => simp at hv
    | succ i => simp only [List.getElem?_cons_succ] at hv ⊢; exact h2.2 i v hv
  | some v :: a, x :: b, h => by
    obtain ⟨hx, h⟩ := h
    have h2 := lvle_of (a := a) (b := b) h
    refine ⟨by simp [h2.1], fun i v hv => ?_⟩
    cases i with
    | zero => simp at hv; simp [hx, hv]
    | succ i => simp only [List.getElem?_cons_succ] at hv ⊢; exact h2.2 i v hv
  | [], _ :: _, h => absurd h id
  | none :: _, [], h => absurd h id
  | some _ :: _, [], h => absurd h id
/-! the judgement -/
def J0 (p : Program) (l : Launch) (e : Env) (R : Room) (s : State) (m : MethodId) (args : Array Value) (below : List Frame) (meth : Method) (c : Code) (E : En) (A : Nat → Prop) (nL : Nat) (Q : State → Prop) (P : HP) (ce sl pc : Nat) (lv : LV) (st : List Value) : Prop :=
  ∀ (H : Heap) (locs : List Loc) (ls : Array Slot) (ws : va_W), va_P E.1 vwCl ws H → va_D A ws → P (hf ws) → va_S A s.heap H locs → lvs ls nL lv → W p l e R s m args below meth c H locs ce sl Q (F0 m pc ls st)
abbrev Jt : Type := HP → Nat → Nat → Nat → LV → List Value → Prop
abbrev Ft : Type := Option Value → HP → Nat → Nat → Prop
def retI : Option Value → Instr
  | none => .return_
  | some (.int _) => .ireturn
  | some (.long _) => .lreturn
  | _ => .areturn
def retOk (ret : Option FieldType) (v : Option Value) : Prop := match v, ret with
  | none, none => True
  | some (.int x), some ty => narrow ty (.int x) = .int x
  | some (.long _), some .long => True
  | some (.ref _), some (.object _) => True
  | some (.ref _), some (.array _) => True
  | some .null, some (.object _) => True
  | _, _ => False
def Ok (l : Launch) (E : En) (cc : ByteArray) (own nm : String) (nL : Nat) (R : Room) (ret : Option FieldType) (Fn : Ft) (J : Jt) : Prop :=
  ∃ (p : Program) (e : Env) (s : State) (m : MethodId) (args : Array Value) (below : List Frame) (meth : Method) (c : Code) (A : Nat → Prop) (Q : State → Prop),
    J = J0 p l e R s m args below meth c E A nL Q ∧ p.tables.exec = Jvm.exec ∧ c.code = cc ∧ c.maxLocals = nL ∧ s.vm.findClass own = some m.cls ∧ (∀ w ∈ wsL_law, w.before args s = true) ∧ e_K E s ∧ (∀ q, s.heap.size ≤ q → A q) ∧ meth.name = nm ∧
    (∀ (v : Option Value) (P : HP) (ce sl pc : Nat) (lv : LV), Fn v P ce sl → retOk ret v → decode cc pc = .ok (retI v, 1) → J0 p l e R s m args below meth c E A nL Q P ce sl pc lv v.toList)

theorem x_iconst {l : Launch} {E : En} {cc : ByteArray} {own nm : String} {nL : Nat} {R : Room} {ret : Option FieldType} {Fn : Ft} {J : Jt} (O : Ok l E cc own nm nL R ret Fn J) {pc : Nat} {n : Int} {v : Int32} {P : HP} {ce sl : Nat} {lv : LV} {st : List Value} (d : decode cc pc = .ok (.iconst n, 1)) (hv : Int32.ofInt n = v) (k : J P ce sl (pc + 1) lv (.int v :: st)) : J P ce sl pc lv st := by
  obtain ⟨p, e, s, m, args, below, meth, c, A, Q, rfl, hx, hb, C⟩ := O
  intro H locs ls ws h1 h2 h3 h4 h5
  exact lv_iconst hx hb d hv (k H locs ls ws h1 h2 h3 h4 h5)
theorem x_bipush {l : Launch} {E : En} {cc : ByteArray} {own nm : String} {nL : Nat} {R : Room} {ret : Option FieldType} {Fn : Ft} {J : Jt} (O : Ok l E cc own nm nL R ret Fn J) {pc : Nat} {n : Int} {v : Int32} {P : HP} {ce sl : Nat} {lv : LV} {st : List Value} (d : decode cc pc = .ok (.bipush n, 2)) (hv : (Int8.ofInt n).toInt32 = v) (k : J P ce sl (pc + 2) lv (.int v :: st)) : J P ce sl pc lv st := by
  obtain ⟨p, e, s, m, args, below, meth, c, A, Q, rfl, hx, hb, C⟩ := O
  intro H locs ls ws h1 h2 h3 h4 h5
  exact lv_bipush hx hb d hv (k H locs ls ws h1 h2 h3 h4 h5)
theorem x_sipush {l : Launch} {E : En} {cc : ByteArray} {own nm : String} {nL : Nat} {R : Room} {ret : Option FieldType} {Fn : Ft} {J : Jt} (O : Ok l E cc own nm nL R ret Fn J) {pc : Nat} {n : Int} {v : Int32} {P : HP} {ce sl : Nat} {lv : LV} {st : List Value} (d : decode cc pc = .ok (.sipush n, 3)) (hv : (Int16.ofInt n).toInt32 = v) (k : J P ce sl (pc + 3) lv (.int v :: st)) : J P ce sl pc lv st := by
  obtain ⟨p, e, s, m, args, below, meth, c, A, Q, rfl, hx, hb, C⟩ := O
  intro H locs ls ws h1 h2 h3 h4 h5
  exact lv_sipush hx hb d hv (k H locs ls ws h1 h2 h3 h4 h5)
theorem x_lconst {l : Launch} {E : En} {cc : ByteArray} {own nm : String} {nL : Nat} {R : Room} {ret : Option FieldType} {Fn : Ft} {J : Jt} (O : Ok l E cc own nm nL R ret Fn J) {pc : Nat} {n : Fin 2} {v : Int64} {P : HP} {ce sl : Nat} {lv : LV} {st : List Value} (d : decode cc pc = .ok (.lconst n, 1)) (hv : Int64.ofNat (n : Nat) = v) (k : J P ce sl (pc + 1) lv (.long v :: st)) : J P ce sl pc lv st := by
  obtain ⟨p, e, s, m, args, below, meth, c, A, Q, rfl, hx, hb, C⟩ := O
  intro H locs ls ws h1 h2 h3 h4 h5
  exact lv_lconst hx hb d hv (k H locs ls ws h1 h2 h3 h4 h5)
theorem x_null {l : Launch} {E : En} {cc : ByteArray} {own nm : String} {nL : Nat} {R : Room} {ret : Option FieldType} {Fn : Ft} {J : Jt} (O : Ok l E cc own nm nL R ret Fn J) {pc : Nat}  {P : HP} {ce sl : Nat} {lv : LV} {st : List Value} (d : decode cc pc = .ok (.aconst_null, 1))  (k : J P ce sl (pc + 1) lv (.null :: st)) : J P ce sl pc lv st := by
  obtain ⟨p, e, s, m, args, below, meth, c, A, Q, rfl, hx, hb, C⟩ := O
  intro H locs ls ws h1 h2 h3 h4 h5
  exact lv_null hx hb d  (k H locs ls ws h1 h2 h3 h4 h5)
theorem x_iadd {l : Launch} {E : En} {cc : ByteArray} {own nm : String} {nL : Nat} {R : Room} {ret : Option FieldType} {Fn : Ft} {J : Jt} (O : Ok l E cc own nm nL R ret Fn J) {pc : Nat} {x y : Int32} {P : HP} {ce sl : Nat} {lv : LV} {st : List Value} (d : decode cc pc = .ok (.iadd, 1))  (k : J P ce sl (pc + 1) lv (.int (x + y) :: st)) : J P ce sl pc lv (.int y :: .int x :: st) := by
  obtain ⟨p, e, s, m, args, below, meth, c, A, Q, rfl, hx, hb, C⟩ := O
  intro H locs ls ws h1 h2 h3 h4 h5
  exact lv_iadd hx hb d  (k H locs ls ws h1 h2 h3 h4 h5)
theorem x_isub {l : Launch} {E : En} {cc : ByteArray} {own nm : String} {nL : Nat} {R : Room} {ret : Option FieldType} {Fn : Ft} {J : Jt} (O : Ok l E cc own nm nL R ret Fn J) {pc : Nat} {x y : Int32} {P : HP} {ce sl : Nat} {lv : LV} {st : List Value} (d : decode cc pc = .ok (.isub, 1))  (k : J P ce sl (pc + 1) lv (.int (x - y) :: st)) : J P ce sl pc lv (.int y :: .int x :: st) := by
  obtain ⟨p, e, s, m, args, below, meth, c, A, Q, rfl, hx, hb, C⟩ := O
  intro H locs ls ws h1 h2 h3 h4 h5
  exact lv_isub hx hb d  (k H locs ls ws h1 h2 h3 h4 h5)
theorem x_imul {l : Launch} {E : En} {cc : ByteArray} {own nm : String} {nL : Nat} {R : Room} {ret : Option FieldType} {Fn : Ft} {J : Jt} (O : Ok l E cc own nm nL R ret Fn J) {pc : Nat} {x y : Int32} {P : HP} {ce sl : Nat} {lv : LV} {st : List Value} (d : decode cc pc = .ok (.imul, 1))  (k : J P ce sl (pc + 1) lv (.int (x * y) :: st)) : J P ce sl pc lv (.int y :: .int x :: st) := by
  obtain ⟨p, e, s, m, args, below, meth, c, A, Q, rfl, hx, hb, C⟩ := O
  intro H locs ls ws h1 h2 h3 h4 h5
  exact lv_imul hx hb d  (k H locs ls ws h1 h2 h3 h4 h5)
theorem x_iand {l : Launch} {E : En} {cc : ByteArray} {own nm : String} {nL : Nat} {R : Room} {ret : Option FieldType} {Fn : Ft} {J : Jt} (O : Ok l E cc own nm nL R ret Fn J) {pc : Nat} {x y : Int32} {P : HP} {ce sl : Nat} {lv : LV} {st : List Value} (d : decode cc pc = .ok (.iand, 1))  (k : J P ce sl (pc + 1) lv (.int (x &&& y) :: st)) : J P ce sl pc lv (.int y :: .int x :: st) := by
  obtain ⟨p, e, s, m, args, below, meth, c, A, Q, rfl, hx, hb, C⟩ := O
  intro H locs ls ws h1 h2 h3 h4 h5
  exact lv_iand hx hb d  (k H locs ls ws h1 h2 h3 h4 h5)
theorem x_ladd {l : Launch} {E : En} {cc : ByteArray} {own nm : String} {nL : Nat} {R : Room} {ret : Option FieldType} {Fn : Ft} {J : Jt} (O : Ok l E cc own nm nL R ret Fn J) {pc : Nat} {x y : Int64} {P : HP} {ce sl : Nat} {lv : LV} {st : List Value} (d : decode cc pc = .ok (.ladd, 1))  (k : J P ce sl (pc + 1) lv (.long (x + y) :: st)) : J P ce sl pc lv (.long y :: .long x :: st) := by
  obtain ⟨p, e, s, m, args, below, meth, c, A, Q, rfl, hx, hb, C⟩ := O
  intro H locs ls ws h1 h2 h3 h4 h5
  exact lv_ladd hx hb d  (k H locs ls ws h1 h2 h3 h4 h5)
theorem x_lsub {l : Launch} {E : En} {cc : ByteArray} {own nm : String} {nL : Nat} {R : Room} {ret : Option FieldType} {Fn : Ft} {J : Jt} (O : Ok l E cc own nm nL R ret Fn J) {pc : Nat} {x y : Int64} {P : HP} {ce sl : Nat} {lv : LV} {st : List Value} (d : decode cc pc = .ok (.lsub, 1))  (k : J P ce sl (pc + 1) lv (.long (x - y) :: st)) : J P ce sl pc lv (.long y :: .long x :: st) := by
  obtain ⟨p, e, s, m, args, below, meth, c, A, Q, rfl, hx, hb, C⟩ := O
  intro H locs ls ws h1 h2 h3 h4 h5
  exact lv_lsub hx hb d  (k H locs ls ws h1 h2 h3 h4 h5)
theorem x_land {l : Launch} {E : En} {cc : ByteArray} {own nm : String} {nL : Nat} {R : Room} {ret : Option FieldType} {Fn : Ft} {J : Jt} (O : Ok l E cc own nm nL R ret Fn J) {pc : Nat} {x y : Int64} {P : HP} {ce sl : Nat} {lv : LV} {st : List Value} (d : decode cc pc = .ok (.land, 1))  (k : J P ce sl (pc + 1) lv (.long (x &&& y) :: st)) : J P ce sl pc lv (.long y :: .long x :: st) := by
  obtain ⟨p, e, s, m, args, below, meth, c, A, Q, rfl, hx, hb, C⟩ := O
  intro H locs ls ws h1 h2 h3 h4 h5
  exact lv_land hx hb d  (k H locs ls ws h1 h2 h3 h4 h5)
theorem x_lor {l : Launch} {E : En} {cc : ByteArray} {own nm : String} {nL : Nat} {R : Room} {ret : Option FieldType} {Fn : Ft} {J : Jt} (O : Ok l E cc own nm nL R ret Fn J) {pc : Nat} {x y : Int64} {P : HP} {ce sl : Nat} {lv : LV} {st : List Value} (d : decode cc pc = .ok (.lor, 1))  (k : J P ce sl (pc + 1) lv (.long (x ||| y) :: st)) : J P ce sl pc lv (.long y :: .long x :: st) := by
  obtain ⟨p, e, s, m, args, below, meth, c, A, Q, rfl, hx, hb, C⟩ := O
  intro H locs ls ws h1 h2 h3 h4 h5
  exact lv_lor hx hb d  (k H locs ls ws h1 h2 h3 h4 h5)
theorem x_lxor {l : Launch} {E : En} {cc : ByteArray} {own nm : String} {nL : Nat} {R : Room} {ret : Option FieldType} {Fn : Ft} {J : Jt} (O : Ok l E cc own nm nL R ret Fn J) {pc : Nat} {x y : Int64} {P : HP} {ce sl : Nat} {lv : LV} {st : List Value} (d : decode cc pc = .ok (.lxor, 1))  (k : J P ce sl (pc + 1) lv (.long (x ^^^ y) :: st)) : J P ce sl pc lv (.long y :: .long x :: st) := by
  obtain ⟨p, e, s, m, args, below, meth, c, A, Q, rfl, hx, hb, C⟩ := O
  intro H locs ls ws h1 h2 h3 h4 h5
  exact lv_lxor hx hb d  (k H locs ls ws h1 h2 h3 h4 h5)
theorem x_idiv {l : Launch} {E : En} {cc : ByteArray} {own nm : String} {nL : Nat} {R : Room} {ret : Option FieldType} {Fn : Ft} {J : Jt} (O : Ok l E cc own nm nL R ret Fn J) {pc : Nat} {x y : Int32} {P : HP} {ce sl : Nat} {lv : LV} {st : List Value} (d : decode cc pc = .ok (.idiv, 1)) (hne : ¬ y = 0) (k : J P ce sl (pc + 1) lv (.int (x / y) :: st)) : J P ce sl pc lv (.int y :: .int x :: st) := by
  obtain ⟨p, e, s, m, args, below, meth, c, A, Q, rfl, hx, hb, C⟩ := O
  intro H locs ls ws h1 h2 h3 h4 h5
  exact lv_idiv hx hb d hne (k H locs ls ws h1 h2 h3 h4 h5)
theorem x_irem {l : Launch} {E : En} {cc : ByteArray} {own nm : String} {nL : Nat} {R : Room} {ret : Option FieldType} {Fn : Ft} {J : Jt} (O : Ok l E cc own nm nL R ret Fn J) {pc : Nat} {x y : Int32} {P : HP} {ce sl : Nat} {lv : LV} {st : List Value} (d : decode cc pc = .ok (.irem, 1)) (hne : ¬ y = 0) (k : J P ce sl (pc + 1) lv (.int (x - x / y * y) :: st)) : J P ce sl pc lv (.int y :: .int x :: st) := by
  obtain ⟨p, e, s, m, args, below, meth, c, A, Q, rfl, hx, hb, C⟩ := O
  intro H locs ls ws h1 h2 h3 h4 h5
  exact lv_irem hx hb d hne (k H locs ls ws h1 h2 h3 h4 h5)
theorem x_lneg {l : Launch} {E : En} {cc : ByteArray} {own nm : String} {nL : Nat} {R : Room} {ret : Option FieldType} {Fn : Ft} {J : Jt} (O : Ok l E cc own nm nL R ret Fn J) {pc : Nat} {x : Int64} {P : HP} {ce sl : Nat} {lv : LV} {st : List Value} (d : decode cc pc = .ok (.lneg, 1))  (k : J P ce sl (pc + 1) lv (.long (-x) :: st)) : J P ce sl pc lv (.long x :: st) := by
  obtain ⟨p, e, s, m, args, below, meth, c, A, Q, rfl, hx, hb, C⟩ := O
  intro H locs ls ws h1 h2 h3 h4 h5
  exact lv_lneg hx hb d  (k H locs ls ws h1 h2 h3 h4 h5)
theorem x_lshl {l : Launch} {E : En} {cc : ByteArray} {own nm : String} {nL : Nat} {R : Room} {ret : Option FieldType} {Fn : Ft} {J : Jt} (O : Ok l E cc own nm nL R ret Fn J) {pc : Nat} {x : Int64} {y : Int32} {P : HP} {ce sl : Nat} {lv : LV} {st : List Value} (d : decode cc pc = .ok (.lshl, 1))  (k : J P ce sl (pc + 1) lv (.long (x <<< (y.toInt64 &&& 63)) :: st)) : J P ce sl pc lv (.int y :: .long x :: st) := by
  obtain ⟨p, e, s, m, args, below, meth, c, A, Q, rfl, hx, hb, C⟩ := O
  intro H locs ls ws h1 h2 h3 h4 h5
  exact lv_lshl hx hb d rfl (k H locs ls ws h1 h2 h3 h4 h5)
theorem x_lshr {l : Launch} {E : En} {cc : ByteArray} {own nm : String} {nL : Nat} {R : Room} {ret : Option FieldType} {Fn : Ft} {J : Jt} (O : Ok l E cc own nm nL R ret Fn J) {pc : Nat} {x : Int64} {y : Int32} {P : HP} {ce sl : Nat} {lv : LV} {st : List Value} (d : decode cc pc = .ok (.lshr, 1))  (k : J P ce sl (pc + 1) lv (.long (x >>> (y.toInt64 &&& 63)) :: st)) : J P ce sl pc lv (.int y :: .long x :: st) := by
  obtain ⟨p, e, s, m, args, below, meth, c, A, Q, rfl, hx, hb, C⟩ := O
  intro H locs ls ws h1 h2 h3 h4 h5
  exact lv_lshr hx hb d rfl (k H locs ls ws h1 h2 h3 h4 h5)
theorem x_lushr {l : Launch} {E : En} {cc : ByteArray} {own nm : String} {nL : Nat} {R : Room} {ret : Option FieldType} {Fn : Ft} {J : Jt} (O : Ok l E cc own nm nL R ret Fn J) {pc : Nat} {x : Int64} {y : Int32} {P : HP} {ce sl : Nat} {lv : LV} {st : List Value} (d : decode cc pc = .ok (.lushr, 1))  (k : J P ce sl (pc + 1) lv (.long ((x.toUInt64 >>> (y.toInt64.toUInt64 &&& Int64.toUInt64 63)).toInt64) :: st)) : J P ce sl pc lv (.int y :: .long x :: st) := by
  obtain ⟨p, e, s, m, args, below, meth, c, A, Q, rfl, hx, hb, C⟩ := O
  intro H locs ls ws h1 h2 h3 h4 h5
  exact lv_lushr hx hb d rfl (k H locs ls ws h1 h2 h3 h4 h5)
theorem x_l2i {l : Launch} {E : En} {cc : ByteArray} {own nm : String} {nL : Nat} {R : Room} {ret : Option FieldType} {Fn : Ft} {J : Jt} (O : Ok l E cc own nm nL R ret Fn J) {pc : Nat} {x : Int64} {P : HP} {ce sl : Nat} {lv : LV} {st : List Value} (d : decode cc pc = .ok (.l2i, 1))  (k : J P ce sl (pc + 1) lv (.int x.toInt32 :: st)) : J P ce sl pc lv (.long x :: st) := by
  obtain ⟨p, e, s, m, args, below, meth, c, A, Q, rfl, hx, hb, C⟩ := O
  intro H locs ls ws h1 h2 h3 h4 h5
  exact lv_l2i hx hb d rfl (k H locs ls ws h1 h2 h3 h4 h5)
theorem x_lcmp {l : Launch} {E : En} {cc : ByteArray} {own nm : String} {nL : Nat} {R : Room} {ret : Option FieldType} {Fn : Ft} {J : Jt} (O : Ok l E cc own nm nL R ret Fn J) {pc : Nat} {x y : Int64} {P : HP} {ce sl : Nat} {lv : LV} {st : List Value} (d : decode cc pc = .ok (.lcmp, 1))  (k : J P ce sl (pc + 1) lv (.int (lg_cmp x y) :: st)) : J P ce sl pc lv (.long y :: .long x :: st) := by
  obtain ⟨p, e, s, m, args, below, meth, c, A, Q, rfl, hx, hb, C⟩ := O
  intro H locs ls ws h1 h2 h3 h4 h5
  exact W.lcmp hx hb d  (k H locs ls ws h1 h2 h3 h4 h5)
theorem x_dup {l : Launch} {E : En} {cc : ByteArray} {own nm : String} {nL : Nat} {R : Room} {ret : Option FieldType} {Fn : Ft} {J : Jt} (O : Ok l E cc own nm nL R ret Fn J) {pc : Nat} {v : Value} {P : HP} {ce sl : Nat} {lv : LV} {st : List Value} (d : decode cc pc = .ok (.dup, 1)) (hv : v.category = 1) (k : J P ce sl (pc + 1) lv (v :: v :: st)) : J P ce sl pc lv (v :: st) := by
  obtain ⟨p, e, s, m, args, below, meth, c, A, Q, rfl, hx, hb, C⟩ := O
  intro H locs ls ws h1 h2 h3 h4 h5
  exact lv_dup hx hb d hv (k H locs ls ws h1 h2 h3 h4 h5)
theorem x_pop {l : Launch} {E : En} {cc : ByteArray} {own nm : String} {nL : Nat} {R : Room} {ret : Option FieldType} {Fn : Ft} {J : Jt} (O : Ok l E cc own nm nL R ret Fn J) {pc : Nat} {v : Value} {P : HP} {ce sl : Nat} {lv : LV} {st : List Value} (d : decode cc pc = .ok (.pop, 1)) (hv : v.category = 1) (k : J P ce sl (pc + 1) lv st) : J P ce sl pc lv (v :: st) := by
  obtain ⟨p, e, s, m, args, below, meth, c, A, Q, rfl, hx, hb, C⟩ := O
  intro H locs ls ws h1 h2 h3 h4 h5
  exact lv_pop hx hb d hv (k H locs ls ws h1 h2 h3 h4 h5)
theorem x_dup2 {l : Launch} {E : En} {cc : ByteArray} {own nm : String} {nL : Nat} {R : Room} {ret : Option FieldType} {Fn : Ft} {J : Jt} (O : Ok l E cc own nm nL R ret Fn J) {pc : Nat} {v u : Value} {P : HP} {ce sl : Nat} {lv : LV} {st : List Value} (d : decode cc pc = .ok (.dup2, 1)) (hv : v.category = 1) (hu : u.category = 1) (k : J P ce sl (pc + 1) lv (v :: u :: v :: u :: st)) : J P ce sl pc lv (v :: u :: st) := by
  obtain ⟨p, e, s, m, args, below, meth, c, A, Q, rfl, hx, hb, C⟩ := O
  intro H locs ls ws h1 h2 h3 h4 h5
  exact lv_dup2_11 hx hb d hv hu (k H locs ls ws h1 h2 h3 h4 h5)
theorem x_dup2l {l : Launch} {E : En} {cc : ByteArray} {own nm : String} {nL : Nat} {R : Room} {ret : Option FieldType} {Fn : Ft} {J : Jt} (O : Ok l E cc own nm nL R ret Fn J) {pc : Nat} {v : Value} {P : HP} {ce sl : Nat} {lv : LV} {st : List Value} (d : decode cc pc = .ok (.dup2, 1)) (hv : v.category = 2) (k : J P ce sl (pc + 1) lv (v :: v :: st)) : J P ce sl pc lv (v :: st) := by
  obtain ⟨p, e, s, m, args, below, meth, c, A, Q, rfl, hx, hb, C⟩ := O
  intro H locs ls ws h1 h2 h3 h4 h5
  exact lv_dup2_2 hx hb d hv (k H locs ls ws h1 h2 h3 h4 h5)
theorem x_iload_n {l : Launch} {E : En} {cc : ByteArray} {own nm : String} {nL : Nat} {R : Room} {ret : Option FieldType} {Fn : Ft} {J : Jt} (O : Ok l E cc own nm nL R ret Fn J) {pc : Nat} {j : Fin 4} {x : Int32} {P : HP} {ce sl : Nat} {lv : LV} {st : List Value} (d : decode cc pc = .ok (.iload_n j, 1)) (hl : lv[(j : Nat)]? = some (some (.int x))) (k : J P ce sl (pc + 1) lv (.int x :: st)) : J P ce sl pc lv st := by
  obtain ⟨p, e, s, m, args, below, meth, c, A, Q, rfl, hx, hb, C⟩ := O
  intro H locs ls ws h1 h2 h3 h4 h5
  exact lv_iload_n hx hb d rfl (h5.2.2.2 _ _ hl) (k H locs ls ws h1 h2 h3 h4 h5)
theorem x_iload {l : Launch} {E : En} {cc : ByteArray} {own nm : String} {nL : Nat} {R : Room} {ret : Option FieldType} {Fn : Ft} {J : Jt} (O : Ok l E cc own nm nL R ret Fn J) {pc : Nat} {j : Nat} {x : Int32} {P : HP} {ce sl : Nat} {lv : LV} {st : List Value} (d : decode cc pc = .ok (.iload j, 2)) (hl : lv[j]? = some (some (.int x))) (k : J P ce sl (pc + 2) lv (.int x :: st)) : J P ce sl pc lv st := by
  obtain ⟨p, e, s, m, args, below, meth, c, A, Q, rfl, hx, hb, C⟩ := O
  intro H locs ls ws h1 h2 h3 h4 h5
  exact lv_iload hx hb d (h5.2.2.2 _ _ hl) (k H locs ls ws h1 h2 h3 h4 h5)
theorem x_lload_n {l : Launch} {E : En} {cc : ByteArray} {own nm : String} {nL : Nat} {R : Room} {ret : Option FieldType} {Fn : Ft} {J : Jt} (O : Ok l E cc own nm nL R ret Fn J) {pc : Nat} {j : Fin 4} {x : Int64} {P : HP} {ce sl : Nat} {lv : LV} {st : List Value} (d : decode cc pc = .ok (.lload_n j, 1)) (hl : lv[(j : Nat)]? = some (some (.long x))) (k : J P ce sl (pc + 1) lv (.long x :: st)) : J P ce sl pc lv st := by
  obtain ⟨p, e, s, m, args, below, meth, c, A, Q, rfl, hx, hb, C⟩ := O
  intro H locs ls ws h1 h2 h3 h4 h5
  exact lv_lload_n hx hb d rfl (h5.2.2.2 _ _ hl) (k H locs ls ws h1 h2 h3 h4 h5)
theorem x_lload {l : Launch} {E : En} {cc : ByteArray} {own nm : String} {nL : Nat} {R : Room} {ret : Option FieldType} {Fn : Ft} {J : Jt} (O : Ok l E cc own nm nL R ret Fn J) {pc : Nat} {j : Nat} {x : Int64} {P : HP} {ce sl : Nat} {lv : LV} {st : List Value} (d : decode cc pc = .ok (.lload j, 2)) (hl : lv[j]? = some (some (.long x))) (k : J P ce sl (pc + 2) lv (.long x :: st)) : J P ce sl pc lv st := by
  obtain ⟨p, e, s, m, args, below, meth, c, A, Q, rfl, hx, hb, C⟩ := O
  intro H locs ls ws h1 h2 h3 h4 h5
  exact lv_lload hx hb d (h5.2.2.2 _ _ hl) (k H locs ls ws h1 h2 h3 h4 h5)
def rfv : Value → Bool
  | .ref _ => true
  | .null => true
  | _ => false
theorem x_aload_n {l : Launch} {E : En} {cc : ByteArray} {own nm : String} {nL : Nat} {R : Room} {ret : Option FieldType} {Fn : Ft} {J : Jt} (O : Ok l E cc own nm nL R ret Fn J) {pc : Nat} {j : Fin 4} {v : Value} {P : HP} {ce sl : Nat} {lv : LV} {st : List Value} (d : decode cc pc = .ok (.aload_n j, 1)) (hl : lv[((j : Nat))]? = some (some v)) (hv : rfv v = true) (k : J P ce sl (pc + 1) lv (v :: st)) : J P ce sl pc lv st := by
  obtain ⟨p, e, s, m, args, below, meth, c, A, Q, rfl, hx, hb, C⟩ := O
  intro H locs ls ws h1 h2 h3 h4 h5
  cases v <;> first | (cases hv; done) | exact lv_aload_n hx hb d rfl (h5.2.2.2 _ _ hl) (k H locs ls ws h1 h2 h3 h4 h5) | exact lv_aload_nN hx hb d rfl (h5.2.2.2 _ _ hl) (k H locs ls ws h1 h2 h3 h4 h5)
theorem x_aload {l : Launch} {E : En} {cc : ByteArray} {own nm : String} {nL : Nat} {R : Room} {ret : Option FieldType} {Fn : Ft} {J : Jt} (O : Ok l E cc own nm nL R ret Fn J) {pc : Nat} {j : Nat} {v : Value} {P : HP} {ce sl : Nat} {lv : LV} {st : List Value} (d : decode cc pc = .ok (.aload j, 2)) (hl : lv[(j)]? = some (some v)) (hv : rfv v = true) (k : J P ce sl (pc + 2) lv (v :: st)) : J P ce sl pc lv st := by
  obtain ⟨p, e, s, m, args, below, meth, c, A, Q, rfl, hx, hb, C⟩ := O
  intro H locs ls ws h1 h2 h3 h4 h5
  cases v <;> first | (cases hv; done) | exact lv_aload hx hb d (h5.2.2.2 _ _ hl) (k H locs ls ws h1 h2 h3 h4 h5) | exact lv_aloadN hx hb d (h5.2.2.2 _ _ hl) (k H locs ls ws h1 h2 h3 h4 h5)
theorem x_istore_n {l : Launch} {E : En} {cc : ByteArray} {own nm : String} {nL : Nat} {R : Room} {ret : Option FieldType} {Fn : Ft} {J : Jt} (O : Ok l E cc own nm nL R ret Fn J) {pc : Nat} {j : Fin 4} {x : Int32} {P : HP} {ce sl : Nat} {lv : LV} {st : List Value} (d : decode cc pc = .ok (.istore_n j, 1)) (hj : (j : Nat) < nL) (ho : ok1 lv (j : Nat) = true) (k : J P ce sl (pc + 1) (lv.set (j : Nat) (some (.int x))) st) : J P ce sl pc lv (.int x :: st) := by
  obtain ⟨p, e, s, m, args, below, meth, c, A, Q, rfl, hx, hb, C⟩ := O
  intro H locs ls ws h1 h2 h3 h4 h5
  exact lv_istore_n hx hb d rfl (lvs_has h5) hj rfl (fun ls' h6 => k H locs ls' ws h1 h2 h3 h4 (lvs_set1 h5.1 h6 ho))
theorem x_istore {l : Launch} {E : En} {cc : ByteArray} {own nm : String} {nL : Nat} {R : Room} {ret : Option FieldType} {Fn : Ft} {J : Jt} (O : Ok l E cc own nm nL R ret Fn J) {pc : Nat} {j : Nat} {x : Int32} {P : HP} {ce sl : Nat} {lv : LV} {st : List Value} (d : decode cc pc = .ok (.istore j, 2)) (hj : j < nL) (ho : ok1 lv j = true) (k : J P ce sl (pc + 2) (lv.set j (some (.int x))) st) : J P ce sl pc lv (.int x :: st) := by
  obtain ⟨p, e, s, m, args, below, meth, c, A, Q, rfl, hx, hb, C⟩ := O
  intro H locs ls ws h1 h2 h3 h4 h5
  exact lv_istore hx hb d (lvs_has h5) hj rfl (fun ls' h6 => k H locs ls' ws h1 h2 h3 h4 (lvs_set1 h5.1 h6 ho))
theorem x_lstore_n {l : Launch} {E : En} {cc : ByteArray} {own nm : String} {nL : Nat} {R : Room} {ret : Option FieldType} {Fn : Ft} {J : Jt} (O : Ok l E cc own nm nL R ret Fn J) {pc : Nat} {j : Fin 4} {x : Int64} {P : HP} {ce sl : Nat} {lv : LV} {st : List Value} (d : decode cc pc = .ok (.lstore_n j, 1)) (hj : (j : Nat) + 1 < nL) (ho : ok1 lv (j : Nat) = true) (k : J P ce sl (pc + 1) ((lv.set (j : Nat) (some (.long x))).set ((j : Nat) + 1) none) st) : J P ce sl pc lv (.long x :: st) := by
  obtain ⟨p, e, s, m, args, below, meth, c, A, Q, rfl, hx, hb, C⟩ := O
  intro H locs ls ws h1 h2 h3 h4 h5
  exact lv_lstore_n hx hb d rfl (lvs_has h5) hj rfl (fun ls' h6 => k H locs ls' ws h1 h2 h3 h4 (lvs_set2 h5.1 h6 ho))
theorem x_lstore {l : Launch} {E : En} {cc : ByteArray} {own nm : String} {nL : Nat} {R : Room} {ret : Option FieldType} {Fn : Ft} {J : Jt} (O : Ok l E cc own nm nL R ret Fn J) {pc : Nat} {j : Nat} {x : Int64} {P : HP} {ce sl : Nat} {lv : LV} {st : List Value} (d : decode cc pc = .ok (.lstore j, 2)) (hj : j + 1 < nL) (ho : ok1 lv j = true) (k : J P ce sl (pc + 2) ((lv.set j (some (.long x))).set (j + 1) none) st) : J P ce sl pc lv (.long x :: st) := by
  obtain ⟨p, e, s, m, args, below, meth, c, A, Q, rfl, hx, hb, C⟩ := O
  intro H locs ls ws h1 h2 h3 h4 h5
  exact lv_lstore hx hb d (lvs_has h5) hj rfl (fun ls' h6 => k H locs ls' ws h1 h2 h3 h4 (lvs_set2 h5.1 h6 ho))
theorem x_astore_n {l : Launch} {E : En} {cc : ByteArray} {own nm : String} {nL : Nat} {R : Room} {ret : Option FieldType} {Fn : Ft} {J : Jt} (O : Ok l E cc own nm nL R ret Fn J) {pc : Nat} {j : Fin 4} {v : Value} {P : HP} {ce sl : Nat} {lv : LV} {st : List Value} (d : decode cc pc = .ok (.astore_n j, 1)) (hj : (j : Nat) < nL) (ho : ok1 lv (j : Nat) = true) (hv : rfv v = true) (k : J P ce sl (pc + 1) (lv.set (j : Nat) (some v)) st) : J P ce sl pc lv (v :: st) := by
  obtain ⟨p, e, s, m, args, below, meth, c, A, Q, rfl, hx, hb, C⟩ := O
  intro H locs ls ws h1 h2 h3 h4 h5
  cases v <;> first | (cases hv; done) | exact lv_astore_n hx hb d rfl (lvs_has h5) hj rfl (fun ls' h6 => k H locs ls' ws h1 h2 h3 h4 (lvs_set1 h5.1 h6 ho)) | exact lv_astore_nN hx hb d rfl (lvs_has h5) hj rfl (fun ls' h6 => k H locs ls' ws h1 h2 h3 h4 (lvs_set1 h5.1 h6 ho))
theorem x_astore {l : Launch} {E : En} {cc : ByteArray} {own nm : String} {nL : Nat} {R : Room} {ret : Option FieldType} {Fn : Ft} {J : Jt} (O : Ok l E cc own nm nL R ret Fn J) {pc : Nat} {j : Nat} {v : Value} {P : HP} {ce sl : Nat} {lv : LV} {st : List Value} (d : decode cc pc = .ok (.astore j, 2)) (hj : j < nL) (ho : ok1 lv j = true) (hv : rfv v = true) (k : J P ce sl (pc + 2) (lv.set j (some v)) st) : J P ce sl pc lv (v :: st) := by
  obtain ⟨p, e, s, m, args, below, meth, c, A, Q, rfl, hx, hb, C⟩ := O
  intro H locs ls ws h1 h2 h3 h4 h5
  cases v <;> first | (cases hv; done) | exact lv_astore hx hb d (lvs_has h5) hj rfl (fun ls' h6 => k H locs ls' ws h1 h2 h3 h4 (lvs_set1 h5.1 h6 ho)) | exact lv_astoreN hx hb d (lvs_has h5) hj rfl (fun ls' h6 => k H locs ls' ws h1 h2 h3 h4 (lvs_set1 h5.1 h6 ho))
theorem x_iinc {l : Launch} {E : En} {cc : ByteArray} {own nm : String} {nL : Nat} {R : Room} {ret : Option FieldType} {Fn : Ft} {J : Jt} (O : Ok l E cc own nm nL R ret Fn J) {pc j : Nat} {n : Int} {x v : Int32} {P : HP} {ce sl : Nat} {lv : LV} {st : List Value} (d : decode cc pc = .ok (.iinc j n, 3)) (hl : lv[j]? = some (some (.int x))) (hv : x + Int32.ofInt n = v) (ho : ok1 lv j = true) (k : J P ce sl (pc + 3) (lv.set j (some (.int v))) st) : J P ce sl pc lv st := by
  obtain ⟨p, e, s, m, args, below, meth, c, A, Q, rfl, hx, hb, C⟩ := O
  intro H locs ls ws h1 h2 h3 h4 h5
  obtain ⟨i, hi⟩ := List.getElem?_of_mem (lva_mem.mpr (show lv[((j, Value.int x) : Nat × Value).1]? = some (some (.int x)) from hl))
  have hj : j < nL := by rw [← h5.1]; exact (List.getElem?_eq_some_iff.mp hl).1
  exact lv_iinc hx hb d (lvs_has h5) hi hv hj rfl (fun ls' h6 => k H locs ls' ws h1 h2 h3 h4 (lvs_set1 h5.1 h6 ho))
theorem x_if_eq {l : Launch} {E : En} {cc : ByteArray} {own nm : String} {nL : Nat} {R : Room} {ret : Option FieldType} {Fn : Ft} {J : Jt} (O : Ok l E cc own nm nL R ret Fn J) {pc : Nat} {x : Int32} {off : Int} (tgt : Nat) {P : HP} {ce sl : Nat} {lv : LV} {st : List Value} (d : decode cc pc = .ok (.ifCond .eq off, 3)) (ht : (pc : Int) + off = (tgt : Int)) (kt : x = 0 → J P ce sl tgt lv st) (kf : ¬ x = 0 → J P ce sl (pc + 3) lv st) : J P ce sl pc lv (.int x :: st) := by
  obtain ⟨p, e, s, m, args, below, meth, c, A, Q, rfl, hx, hb, C⟩ := O
  intro H locs ls ws h1 h2 h3 h4 h5
  exact lv_if_eq hx hb d ht (fun q => kt q H locs ls ws h1 h2 h3 h4 h5) (fun q => kf q H locs ls ws h1 h2 h3 h4 h5)
theorem x_icmp_eq {l : Launch} {E : En} {cc : ByteArray} {own nm : String} {nL : Nat} {R : Room} {ret : Option FieldType} {Fn : Ft} {J : Jt} (O : Ok l E cc own nm nL R ret Fn J) {pc : Nat} {x y : Int32} {off : Int} (tgt : Nat) {P : HP} {ce sl : Nat} {lv : LV} {st : List Value} (d : decode cc pc = .ok (.if_icmp .eq off, 3)) (ht : (pc : Int) + off = (tgt : Int)) (kt : x = y → J P ce sl tgt lv st) (kf : ¬ x = y → J P ce sl (pc + 3) lv st) : J P ce sl pc lv (.int y :: .int x :: st) := by
  obtain ⟨p, e, s, m, args, below, meth, c, A, Q, rfl, hx, hb, C⟩ := O
  intro H locs ls ws h1 h2 h3 h4 h5
  exact lv_icmp_eq hx hb d ht (fun q => kt q H locs ls ws h1 h2 h3 h4 h5) (fun q => kf q H locs ls ws h1 h2 h3 h4 h5)
theorem x_if_ne {l : Launch} {E : En} {cc : ByteArray} {own nm : String} {nL : Nat} {R : Room} {ret : Option FieldType} {Fn : Ft} {J : Jt} (O : Ok l E cc own nm nL R ret Fn J) {pc : Nat} {x : Int32} {off : Int} (tgt : Nat) {P : HP} {ce sl : Nat} {lv : LV} {st : List Value} (d : decode cc pc = .ok (.ifCond .ne off, 3)) (ht : (pc : Int) + off = (tgt : Int)) (kt : ¬ x = 0 → J P ce sl tgt lv st) (kf : x = 0 → J P ce sl (pc + 3) lv st) : J P ce sl pc lv (.int x :: st) := by
  obtain ⟨p, e, s, m, args, below, meth, c, A, Q, rfl, hx, hb, C⟩ := O
  intro H locs ls ws h1 h2 h3 h4 h5
  exact lv_if_ne hx hb d ht (fun q => kt q H locs ls ws h1 h2 h3 h4 h5) (fun q => kf q H locs ls ws h1 h2 h3 h4 h5)
theorem x_icmp_ne {l : Launch} {E : En} {cc : ByteArray} {own nm : String} {nL : Nat} {R : Room} {ret : Option FieldType} {Fn : Ft} {J : Jt} (O : Ok l E cc own nm nL R ret Fn J) {pc : Nat} {x y : Int32} {off : Int} (tgt : Nat) {P : HP} {ce sl : Nat} {lv : LV} {st : List Value} (d : decode cc pc = .ok (.if_icmp .ne off, 3)) (ht : (pc : Int) + off = (tgt : Int)) (kt : ¬ x = y → J P ce sl tgt lv st) (kf : x = y → J P ce sl (pc + 3) lv st) : J P ce sl pc lv (.int y :: .int x :: st) := by
  obtain ⟨p, e, s, m, args, below, meth, c, A, Q, rfl, hx, hb, C⟩ := O
  intro H locs ls ws h1 h2 h3 h4 h5
  exact lv_icmp_ne hx hb d ht (fun q => kt q H locs ls ws h1 h2 h3 h4 h5) (fun q => kf q H locs ls ws h1 h2 h3 h4 h5)
theorem x_if_lt {l : Launch} {E : En} {cc : ByteArray} {own nm : String} {nL : Nat} {R : Room} {ret : Option FieldType} {Fn : Ft} {J : Jt} (O : Ok l E cc own nm nL R ret Fn J) {pc : Nat} {x : Int32} {off : Int} (tgt : Nat) {P : HP} {ce sl : Nat} {lv : LV} {st : List Value} (d : decode cc pc = .ok (.ifCond .lt off, 3)) (ht : (pc : Int) + off = (tgt : Int)) (kt : x < 0 → J P ce sl tgt lv st) (kf : ¬ x < 0 → J P ce sl (pc + 3) lv st) : J P ce sl pc lv (.int x :: st) := by
  obtain ⟨p, e, s, m, args, below, meth, c, A, Q, rfl, hx, hb, C⟩ := O
  intro H locs ls ws h1 h2 h3 h4 h5
  exact lv_if_lt hx hb d ht (fun q => kt q H locs ls ws h1 h2 h3 h4 h5) (fun q => kf q H locs ls ws h1 h2 h3 h4 h5)
theorem x_icmp_lt {l : Launch} {E : En} {cc : ByteArray} {own nm : String} {nL : Nat} {R : Room} {ret : Option FieldType} {Fn : Ft} {J : Jt} (O : Ok l E cc own nm nL R ret Fn J) {pc : Nat} {x y : Int32} {off : Int} (tgt : Nat) {P : HP} {ce sl : Nat} {lv : LV} {st : List Value} (d : decode cc pc = .ok (.if_icmp .lt off, 3)) (ht : (pc : Int) + off = (tgt : Int)) (kt : x < y → J P ce sl tgt lv st) (kf : ¬ x < y → J P ce sl (pc + 3) lv st) : J P ce sl pc lv (.int y :: .int x :: st) := by
  obtain ⟨p, e, s, m, args, below, meth, c, A, Q, rfl, hx, hb, C⟩ := O
  intro H locs ls ws h1 h2 h3 h4 h5
  exact lv_icmp_lt hx hb d ht (fun q => kt q H locs ls ws h1 h2 h3 h4 h5) (fun q => kf q H locs ls ws h1 h2 h3 h4 h5)
theorem x_if_ge {l : Launch} {E : En} {cc : ByteArray} {own nm : String} {nL : Nat} {R : Room} {ret : Option FieldType} {Fn : Ft} {J : Jt} (O : Ok l E cc own nm nL R ret Fn J) {pc : Nat} {x : Int32} {off : Int} (tgt : Nat) {P : HP} {ce sl : Nat} {lv : LV} {st : List Value} (d : decode cc pc = .ok (.ifCond .ge off, 3)) (ht : (pc : Int) + off = (tgt : Int)) (kt : 0 ≤ x → J P ce sl tgt lv st) (kf : ¬ 0 ≤ x → J P ce sl (pc + 3) lv st) : J P ce sl pc lv (.int x :: st) := by
  obtain ⟨p, e, s, m, args, below, meth, c, A, Q, rfl, hx, hb, C⟩ := O
  intro H locs ls ws h1 h2 h3 h4 h5
  exact lv_if_ge hx hb d ht (fun q => kt q H locs ls ws h1 h2 h3 h4 h5) (fun q => kf q H locs ls ws h1 h2 h3 h4 h5)
theorem x_icmp_ge {l : Launch} {E : En} {cc : ByteArray} {own nm : String} {nL : Nat} {R : Room} {ret : Option FieldType} {Fn : Ft} {J : Jt} (O : Ok l E cc own nm nL R ret Fn J) {pc : Nat} {x y : Int32} {off : Int} (tgt : Nat) {P : HP} {ce sl : Nat} {lv : LV} {st : List Value} (d : decode cc pc = .ok (.if_icmp .ge off, 3)) (ht : (pc : Int) + off = (tgt : Int)) (kt : y ≤ x → J P ce sl tgt lv st) (kf : ¬ y ≤ x → J P ce sl (pc + 3) lv st) : J P ce sl pc lv (.int y :: .int x :: st) := by
  obtain ⟨p, e, s, m, args, below, meth, c, A, Q, rfl, hx, hb, C⟩ := O
  intro H locs ls ws h1 h2 h3 h4 h5
  exact lv_icmp_ge hx hb d ht (fun q => kt q H locs ls ws h1 h2 h3 h4 h5) (fun q => kf q H locs ls ws h1 h2 h3 h4 h5)
theorem x_if_gt {l : Launch} {E : En} {cc : ByteArray} {own nm : String} {nL : Nat} {R : Room} {ret : Option FieldType} {Fn : Ft} {J : Jt} (O : Ok l E cc own nm nL R ret Fn J) {pc : Nat} {x : Int32} {off : Int} (tgt : Nat) {P : HP} {ce sl : Nat} {lv : LV} {st : List Value} (d : decode cc pc = .ok (.ifCond .gt off, 3)) (ht : (pc : Int) + off = (tgt : Int)) (kt : 0 < x → J P ce sl tgt lv st) (kf : ¬ 0 < x → J P ce sl (pc + 3) lv st) : J P ce sl pc lv (.int x :: st) := by
  obtain ⟨p, e, s, m, args, below, meth, c, A, Q, rfl, hx, hb, C⟩ := O
  intro H locs ls ws h1 h2 h3 h4 h5
  exact lv_if_gt hx hb d ht (fun q => kt q H locs ls ws h1 h2 h3 h4 h5) (fun q => kf q H locs ls ws h1 h2 h3 h4 h5)
theorem x_icmp_gt {l : Launch} {E : En} {cc : ByteArray} {own nm : String} {nL : Nat} {R : Room} {ret : Option FieldType} {Fn : Ft} {J : Jt} (O : Ok l E cc own nm nL R ret Fn J) {pc : Nat} {x y : Int32} {off : Int} (tgt : Nat) {P : HP} {ce sl : Nat} {lv : LV} {st : List Value} (d : decode cc pc = .ok (.if_icmp .gt off, 3)) (ht : (pc : Int) + off = (tgt : Int)) (kt : y < x → J P ce sl tgt lv st) (kf : ¬ y < x → J P ce sl (pc + 3) lv st) : J P ce sl pc lv (.int y :: .int x :: st) := by
  obtain ⟨p, e, s, m, args, below, meth, c, A, Q, rfl, hx, hb, C⟩ := O
  intro H locs ls ws h1 h2 h3 h4 h5
  exact lv_icmp_gt hx hb d ht (fun q => kt q H locs ls ws h1 h2 h3 h4 h5) (fun q => kf q H locs ls ws h1 h2 h3 h4 h5)
theorem x_if_le {l : Launch} {E : En} {cc : ByteArray} {own nm : String} {nL : Nat} {R : Room} {ret : Option FieldType} {Fn : Ft} {J : Jt} (O : Ok l E cc own nm nL R ret Fn J) {pc : Nat} {x : Int32} {off : Int} (tgt : Nat) {P : HP} {ce sl : Nat} {lv : LV} {st : List Value} (d : decode cc pc = .ok (.ifCond .le off, 3)) (ht : (pc : Int) + off = (tgt : Int)) (kt : x ≤ 0 → J P ce sl tgt lv st) (kf : ¬ x ≤ 0 → J P ce sl (pc + 3) lv st) : J P ce sl pc lv (.int x :: st) := by
  obtain ⟨p, e, s, m, args, below, meth, c, A, Q, rfl, hx, hb, C⟩ := O
  intro H locs ls ws h1 h2 h3 h4 h5
  exact lv_if_le hx hb d ht (fun q => kt q H locs ls ws h1 h2 h3 h4 h5) (fun q => kf q H locs ls ws h1 h2 h3 h4 h5)
theorem x_icmp_le {l : Launch} {E : En} {cc : ByteArray} {own nm : String} {nL : Nat} {R : Room} {ret : Option FieldType} {Fn : Ft} {J : Jt} (O : Ok l E cc own nm nL R ret Fn J) {pc : Nat} {x y : Int32} {off : Int} (tgt : Nat) {P : HP} {ce sl : Nat} {lv : LV} {st : List Value} (d : decode cc pc = .ok (.if_icmp .le off, 3)) (ht : (pc : Int) + off = (tgt : Int)) (kt : x ≤ y → J P ce sl tgt lv st) (kf : ¬ x ≤ y → J P ce sl (pc + 3) lv st) : J P ce sl pc lv (.int y :: .int x :: st) := by
  obtain ⟨p, e, s, m, args, below, meth, c, A, Q, rfl, hx, hb, C⟩ := O
  intro H locs ls ws h1 h2 h3 h4 h5
  exact lv_icmp_le hx hb d ht (fun q => kt q H locs ls ws h1 h2 h3 h4 h5) (fun q => kf q H locs ls ws h1 h2 h3 h4 h5)
theorem x_goto {l : Launch} {E : En} {cc : ByteArray} {own nm : String} {nL : Nat} {R : Room} {ret : Option FieldType} {Fn : Ft} {J : Jt} (O : Ok l E cc own nm nL R ret Fn J) {pc : Nat}  {off : Int} (tgt : Nat) {P : HP} {ce sl : Nat} {lv : LV} {st : List Value} (d : decode cc pc = .ok (.goto off, 3)) (ht : (pc : Int) + off = (tgt : Int)) (k : J P ce sl tgt lv st) : J P ce sl pc lv st := by
  obtain ⟨p, e, s, m, args, below, meth, c, A, Q, rfl, hx, hb, C⟩ := O
  intro H locs ls ws h1 h2 h3 h4 h5
  exact lv_goto hx hb d ht (k H locs ls ws h1 h2 h3 h4 h5)
theorem x_ifnull {l : Launch} {E : En} {cc : ByteArray} {own nm : String} {nL : Nat} {R : Room} {ret : Option FieldType} {Fn : Ft} {J : Jt} (O : Ok l E cc own nm nL R ret Fn J) {pc : Nat} {x : Nat} {off : Int} {P : HP} {ce sl : Nat} {lv : LV} {st : List Value} (d : decode cc pc = .ok (.ifnull off, 3)) (k : J P ce sl (pc + 3) lv st) : J P ce sl pc lv (.ref x :: st) := by
  obtain ⟨p, e, s, m, args, below, meth, c, A, Q, rfl, hx, hb, C⟩ := O
  intro H locs ls ws h1 h2 h3 h4 h5
  exact lv_ifnull hx hb d (k H locs ls ws h1 h2 h3 h4 h5)
theorem x_ifnullN {l : Launch} {E : En} {cc : ByteArray} {own nm : String} {nL : Nat} {R : Room} {ret : Option FieldType} {Fn : Ft} {J : Jt} (O : Ok l E cc own nm nL R ret Fn J) {pc : Nat}  {off : Int} (tgt : Nat) {P : HP} {ce sl : Nat} {lv : LV} {st : List Value} (d : decode cc pc = .ok (.ifnull off, 3)) (ht : (pc : Int) + off = (tgt : Int)) (k : J P ce sl tgt lv st) : J P ce sl pc lv (.null :: st) := by
  obtain ⟨p, e, s, m, args, below, meth, c, A, Q, rfl, hx, hb, C⟩ := O
  intro H locs ls ws h1 h2 h3 h4 h5
  exact lv_ifnullN hx hb d ht (k H locs ls ws h1 h2 h3 h4 h5)
theorem x_ifnonnull {l : Launch} {E : En} {cc : ByteArray} {own nm : String} {nL : Nat} {R : Room} {ret : Option FieldType} {Fn : Ft} {J : Jt} (O : Ok l E cc own nm nL R ret Fn J) {pc : Nat} {x : Nat} {off : Int} (tgt : Nat) {P : HP} {ce sl : Nat} {lv : LV} {st : List Value} (d : decode cc pc = .ok (.ifnonnull off, 3)) (ht : (pc : Int) + off = (tgt : Int)) (k : J P ce sl tgt lv st) : J P ce sl pc lv (.ref x :: st) := by
  obtain ⟨p, e, s, m, args, below, meth, c, A, Q, rfl, hx, hb, C⟩ := O
  intro H locs ls ws h1 h2 h3 h4 h5
  exact lv_ifnonnull hx hb d ht (k H locs ls ws h1 h2 h3 h4 h5)
theorem x_ifnonnullN {l : Launch} {E : En} {cc : ByteArray} {own nm : String} {nL : Nat} {R : Room} {ret : Option FieldType} {Fn : Ft} {J : Jt} (O : Ok l E cc own nm nL R ret Fn J) {pc : Nat}  {off : Int} {P : HP} {ce sl : Nat} {lv : LV} {st : List Value} (d : decode cc pc = .ok (.ifnonnull off, 3)) (k : J P ce sl (pc + 3) lv st) : J P ce sl pc lv (.null :: st) := by
  obtain ⟨p, e, s, m, args, below, meth, c, A, Q, rfl, hx, hb, C⟩ := O
  intro H locs ls ws h1 h2 h3 h4 h5
  exact lv_ifnonnullN hx hb d (k H locs ls ws h1 h2 h3 h4 h5)
theorem x_tout {l : Launch} {E : En} {cc : ByteArray} {own nm : String} {nL : Nat} {R : Room} {ret : Option FieldType} {Fn : Ft} {J : Jt} (O : Ok l E cc own nm nL R ret Fn J) {pc len : Nat} {dflt lo hi : Int} {offs : Array Int} {x : Int32} (tgt : Nat) {P : HP} {ce sl : Nat} {lv : LV} {st : List Value} (d : decode cc pc = .ok (.tableswitch dflt lo hi offs, len)) (h : x.toInt < lo ∨ hi < x.toInt) (ht : (pc : Int) + dflt = (tgt : Int)) (k : J P ce sl tgt lv st) : J P ce sl pc lv (.int x :: st) := by
  obtain ⟨p, e, s, m, args, below, meth, c, A, Q, rfl, hx, hb, C⟩ := O
  intro H locs ls ws h1 h2 h3 h4 h5
  exact lv_tableOut hx hb d h ht (k H locs ls ws h1 h2 h3 h4 h5)
theorem x_tin {l : Launch} {E : En} {cc : ByteArray} {own nm : String} {nL : Nat} {R : Room} {ret : Option FieldType} {Fn : Ft} {J : Jt} (O : Ok l E cc own nm nL R ret Fn J) {pc len : Nat} {dflt lo hi : Int} {offs : Array Int} {x : Int32} {off : Int} (tgt : Nat) {P : HP} {ce sl : Nat} {lv : LV} {st : List Value} (d : decode cc pc = .ok (.tableswitch dflt lo hi offs, len)) (q1 : ¬ x.toInt < lo) (q2 : ¬ hi < x.toInt) (ho : offs[(x.toInt - lo).toNat]? = some off) (ht : (pc : Int) + off = (tgt : Int)) (k : J P ce sl tgt lv st) : J P ce sl pc lv (.int x :: st) := by
  obtain ⟨p, e, s, m, args, below, meth, c, A, Q, rfl, hx, hb, C⟩ := O
  intro H locs ls ws h1 h2 h3 h4 h5
  exact lv_tableIn hx hb d q1 q2 ho ht (k H locs ls ws h1 h2 h3 h4 h5)
theorem x_ldc {l : Launch} {E : En} {cc : ByteArray} {own nm : String} {nL : Nat} {R : Room} {ret : Option FieldType} {Fn : Ft} {J : Jt} (O : Ok l E cc own nm nL R ret Fn J) {pc index : Nat} {v : Int32} {P : HP} {ce sl : Nat} {lv : LV} {st : List Value} (d : decode cc pc = .ok (.ldc index, 2)) (hc : Cond.constant own index v ∈ wsL_law) (k : J P ce sl (pc + 2) lv (.int v :: st)) : J P ce sl pc lv st := by
  obtain ⟨p, e, s, m, args, below, meth, c, A, Q, rfl, hx, hb, hml, hown, hts, C⟩ := O
  intro H locs ls ws h1 h2 h3 h4 h5
  exact lv_ldc hx hb hown (hts _ hc) d (k H locs ls ws h1 h2 h3 h4 h5)
theorem x_ldc2 {l : Launch} {E : En} {cc : ByteArray} {own nm : String} {nL : Nat} {R : Room} {ret : Option FieldType} {Fn : Ft} {J : Jt} (O : Ok l E cc own nm nL R ret Fn J) {pc index : Nat} {v : Int64} {P : HP} {ce sl : Nat} {lv : LV} {st : List Value} (d : decode cc pc = .ok (.ldc2_w index, 3)) (hc : Cond.constantLong own index v ∈ wsL_law) (k : J P ce sl (pc + 3) lv (.long v :: st)) : J P ce sl pc lv st := by
  obtain ⟨p, e, s, m, args, below, meth, c, A, Q, rfl, hx, hb, hml, hown, hts, C⟩ := O
  intro H locs ls ws h1 h2 h3 h4 h5
  exact lv_ldc2 hx hb hown (hts _ hc) d (k H locs ls ws h1 h2 h3 h4 h5)
theorem x_ret {l : Launch} {E : En} {cc : ByteArray} {own nm : String} {nL : Nat} {R : Room} {ret : Option FieldType} {Fn : Ft} {J : Jt} (O : Ok l E cc own nm nL R ret Fn J) {pc : Nat} {v : Option Value} {P : HP} {ce sl : Nat} {lv : LV} {st : List Value} (d : decode cc pc = .ok (retI v, 1)) (hst : st = v.toList) (hr : retOk ret v) (k : Fn v P ce sl) : J P ce sl pc lv st := by
  obtain ⟨p, e, s, m, args, below, meth, c, A, Q, rfl, hx, hb, hml, hown, hts, hK, hA, hnm, hret⟩ := O
  subst hst
  exact hret v P ce sl pc lv k hr d
theorem x_mono {l : Launch} {E : En} {cc : ByteArray} {own nm : String} {nL : Nat} {R : Room} {ret : Option FieldType} {Fn : Ft} {J : Jt} (O : Ok l E cc own nm nL R ret Fn J) {pc : Nat} {P P' : HP} {ce sl ce' sl' : Nat} {lv lv' : LV} {st : List Value} (k : J P' ce' sl' pc lv' st) (hP : ∀ h, P h → P' h) (hl : lvle lv' lv) (hc : ce ≤ ce') (hs : sl ≤ sl') : J P ce sl pc lv st := by
  obtain ⟨p, e, s, m, args, below, meth, c, A, Q, rfl, C⟩ := O
  intro H locs ls ws h1 h2 h3 h4 h5
  exact W.widen hc hs (k H locs ls ws h1 h2 (hP _ h3) h4 (lvs_le h5 hl))
theorem x_imp {l : Launch} {E : En} {cc : ByteArray} {own nm : String} {nL : Nat} {R : Room} {ret : Option FieldType} {Fn : Ft} {J : Jt} (O : Ok l E cc own nm nL R ret Fn J) {pc : Nat} {P P' : HP} {ce sl : Nat} {lv : LV} {st : List Value} (hP : ∀ h, P h → P' h) (k : J P' ce sl pc lv st) : J P ce sl pc lv st := by
  obtain ⟨p, e, s, m, args, below, meth, c, A, Q, rfl, C⟩ := O
  intro H locs ls ws h1 h2 h3 h4 h5
  exact k H locs ls ws h1 h2 (hP _ h3) h4 h5
theorem x_pure {l : Launch} {E : En} {cc : ByteArray} {own nm : String} {nL : Nat} {R : Room} {ret : Option FieldType} {Fn : Ft} {J : Jt} (O : Ok l E cc own nm nL R ret Fn J) {pc : Nat} {φ : Prop} {P : HP} {ce sl : Nat} {lv : LV} {st : List Value} (k : φ → J P ce sl pc lv st) : J (fun h => φ ∧ P h) ce sl pc lv st := by
  obtain ⟨p, e, s, m, args, below, meth, c, A, Q, rfl, C⟩ := O
  intro H locs ls ws h1 h2 h3 h4 h5
  exact k h3.1 H locs ls ws h1 h2 h3.2 h4 h5
theorem x_ex {l : Launch} {E : En} {cc : ByteArray} {own nm : String} {nL : Nat} {R : Room} {ret : Option FieldType} {Fn : Ft} {J : Jt} (O : Ok l E cc own nm nL R ret Fn J) {pc : Nat} {X : Type} {P : X → HP} {ce sl : Nat} {lv : LV} {st : List Value} (k : ∀ x, J (P x) ce sl pc lv st) : J (fun h => ∃ x, P x h) ce sl pc lv st := by
  obtain ⟨p, e, s, m, args, below, meth, c, A, Q, rfl, C⟩ := O
  intro H locs ls ws h1 h2 h3 h4 h5
  obtain ⟨x, h3⟩ := h3
  exact k x H locs ls ws h1 h2 h3 h4 h5
theorem x_fact {l : Launch} {E : En} {cc : ByteArray} {own nm : String} {nL : Nat} {R : Room} {ret : Option FieldType} {Fn : Ft} {J : Jt} (O : Ok l E cc own nm nL R ret Fn J) {pc : Nat} {φ : Prop} {P : HP} {ce sl : Nat} {lv : LV} {st : List Value} (hφ : ∀ h, P h → φ) (k : φ → J P ce sl pc lv st) : J P ce sl pc lv st := by
  obtain ⟨p, e, s, m, args, below, meth, c, A, Q, rfl, C⟩ := O
  intro H locs ls ws h1 h2 h3 h4 h5
  exact k (hφ _ h3) H locs ls ws h1 h2 h3 h4 h5
theorem x_widen {l : Launch} {E : En} {cc : ByteArray} {own nm : String} {nL : Nat} {R : Room} {ret : Option FieldType} {Fn : Ft} {J : Jt} (O : Ok l E cc own nm nL R ret Fn J) {pc : Nat} {P : HP} {ce sl ce' sl' : Nat} {lv : LV} {st : List Value} (hc : ce ≤ ce') (hs : sl ≤ sl') (k : J P ce' sl' pc lv st) : J P ce sl pc lv st := by
  obtain ⟨p, e, s, m, args, below, meth, c, A, Q, rfl, C⟩ := O
  intro H locs ls ws h1 h2 h3 h4 h5
  exact W.widen hc hs (k H locs ls ws h1 h2 h3 h4 h5)
theorem x_lv {l : Launch} {E : En} {cc : ByteArray} {own nm : String} {nL : Nat} {R : Room} {ret : Option FieldType} {Fn : Ft} {J : Jt} (O : Ok l E cc own nm nL R ret Fn J) {pc : Nat} {P : HP} {ce sl : Nat} {lv : LV} (lv' : LV) {st : List Value} (hl : lvleB lv' lv) (k : J P ce sl pc lv' st) : J P ce sl pc lv st := by
  obtain ⟨p, e, s, m, args, below, meth, c, A, Q, rfl, C⟩ := O
  intro H locs ls ws h1 h2 h3 h4 h5
  exact k H locs ls ws h1 h2 h3 h4 (lvs_le h5 (lvle_of hl))

