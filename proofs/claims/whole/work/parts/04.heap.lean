/-! ===== HEAP: fields, arrays, makings, calls ===== -/
theorem x_get {l : Launch} {E : En} {cc : ByteArray} {own nm : String} {nL : Nat} {R : Room} {ret : Option FieldType} {Fn : Ft} {J : Jt} (O : Ok l E cc own nm nL R ret Fn J) {pc index : Nat} {ci k a : Nat} {v : Value} {P : HP} {ce sl : Nat} {lv : LV} {st : List Value} (d : decode cc pc = .ok (.getfield index, 3)) (hl : FD own index ci k) (hv : ∀ h, P h → ∃ fs, h a = some (.inr (ci, fs)) ∧ fs[k]? = some v) (kk : J P ce sl (pc + 3) lv (v :: st)) : J P ce sl pc lv (.ref a :: st) := by
  obtain ⟨p, e, s, m, args, below, meth, c, A, Q, rfl, hx, hb, hml, hown, hts, hK, hA, hnm, hret⟩ := O
  intro H locs ls ws h1 h2 h3 h4 h5
  obtain ⟨C, T, N, g1, g2, g3, g4⟩ := hl
  obtain ⟨fs, f1, f2⟩ := hv _ h3
  obtain ⟨q0, f3⟩ := hf_mem f1
  exact va_get (C := C) (T := T) (N := N) hx hb hts g4 hown hK.1 h1 q0 f3 g1 k g2 (hts _ g3) (fun _ h9 => h9) f2 d (kk H locs ls ws h1 h2 h3 h4 h5)
theorem x_put {l : Launch} {E : En} {cc : ByteArray} {own nm : String} {nL : Nat} {R : Room} {ret : Option FieldType} {Fn : Ft} {J : Jt} (O : Ok l E cc own nm nL R ret Fn J) {pc index : Nat} {ci k a : Nat} {ty : FieldType} {v : Value} {P P' : HP} {ce sl : Nat} {lv : LV} {st : List Value} (d : decode cc pc = .ok (.putfield index, 3)) (hl : FP own index ci k ty false) (hn : narrow ty v = v) (hfit : fits ty v = true) (hv : ∀ h, P h → ∃ fs, h a = some (.inr (ci, fs)) ∧ k < fs.length ∧ P' (hset h a (.inr (ci, fs.set k v)))) (kk : J P' ce sl (pc + 3) lv st) : J P ce sl pc lv (v :: .ref a :: st) := by
  obtain ⟨p, e, s, m, args, below, meth, c, A, Q, rfl, hx, hb, hml, hown, hts, hK, hA, hnm, hret⟩ := O
  intro H locs ls ws h1 h2 h3 h4 h5
  obtain ⟨C, T, N, ty0, g1, g2, g3, g4, g5, g6, g7, g8, -⟩ := hl
  obtain ⟨fs, f1, f2, f5⟩ := hv _ h3
  obtain ⟨q0, f3⟩ := hf_mem f1
  refine va_put (C := C) (T := T) (N := N) hx hb hts g4 ty0 g5 g6 hown hK.1 h1 h2 h4 q0 f3 g1 k g2 (hts _ g3) (fun _ h9 => h9) g7 g8 hn hfit f2 d (fun H1 locs1 q1 q2 q3 => ?_)
  exact kk H1 locs1 ls _ q1 q2 (by rw [hf_set h2 f3]; exact f5) q3 h5
theorem x_putF {l : Launch} {E : En} {cc : ByteArray} {own nm : String} {nL : Nat} {R : Room} {ret : Option FieldType} {Fn : Ft} {J : Jt} (O : Ok l E cc own nm nL R ret Fn J) {pc index : Nat} {ci k a : Nat} {ty : FieldType} {v : Value} {P P' : HP} {ce sl : Nat} {lv : LV} {st : List Value} (hi : nm = "<init>") (d : decode cc pc = .ok (.putfield index, 3)) (hl : FP own index ci k ty true) (hn : narrow ty v = v) (hfit : fits ty v = true) (hv : ∀ h, P h → ∃ fs, h a = some (.inr (ci, fs)) ∧ k < fs.length ∧ P' (hset h a (.inr (ci, fs.set k v)))) (kk : J P' ce sl (pc + 3) lv st) : J P ce sl pc lv (v :: .ref a :: st) := by
  obtain ⟨p, e, s, m, args, below, meth, c, A, Q, rfl, hx, hb, hml, hown, hts, hK, hA, hnm, hret⟩ := O
  intro H locs ls ws h1 h2 h3 h4 h5
  obtain ⟨C, T, N, ty0, g1, g2, g3, g4, g5, g6, g7, g8, g9⟩ := hl
  obtain ⟨fs, f1, f2, f5⟩ := hv _ h3
  obtain ⟨q0, f3⟩ := hf_mem f1
  refine va_putF (C := C) (T := T) (N := N) hx hb hts g4 ty0 g5 g6 hown hK.1 h1 h2 h4 q0 f3 g1 k g2 (hts _ g3) (fun _ h9 => h9) g7 (hnm.trans hi) (g9 rfl) g8 hn hfit f2 d (fun H1 locs1 q1 q2 q3 => ?_)
  exact kk H1 locs1 ls _ q1 q2 (by rw [hf_set h2 f3]; exact f5) q3 h5
theorem x_iald {l : Launch} {E : En} {cc : ByteArray} {own nm : String} {nL : Nat} {R : Room} {ret : Option FieldType} {Fn : Ft} {J : Jt} (O : Ok l E cc own nm nL R ret Fn J) {pc : Nat} {a : Nat} {i v : Int32} {P : HP} {ce sl : Nat} {lv : LV} {st : List Value} (d : decode cc pc = .ok (.iaload, 1)) (hv : ∀ h, P h → ∃ N f, h a = some (.inl (E.2 0, N, .inl f)) ∧ vp_in i N ∧ f i.toNatClampNeg = v) (kk : J P ce sl (pc + 1) lv (.int v :: st)) : J P ce sl pc lv (.int i :: .ref a :: st) := by
  obtain ⟨p, e, s, m, args, below, meth, c, A, Q, rfl, hx, hb, hml, hown, hts, hK, hA, hnm, hret⟩ := O
  intro H locs ls ws h1 h2 h3 h4 h5
  obtain ⟨N, f, f1, f2, f4⟩ := hv _ h3
  obtain ⟨q0, f3⟩ := hf_mem f1
  subst f4
  exact va_iald hx hb hK.1 h1 q0 0 f3 rfl f2 d (kk H locs ls ws h1 h2 h3 h4 h5)
theorem x_zald {l : Launch} {E : En} {cc : ByteArray} {own nm : String} {nL : Nat} {R : Room} {ret : Option FieldType} {Fn : Ft} {J : Jt} (O : Ok l E cc own nm nL R ret Fn J) {pc : Nat} {a : Nat} {i v : Int32} {P : HP} {ce sl : Nat} {lv : LV} {st : List Value} (d : decode cc pc = .ok (.baload, 1)) (hv : ∀ h, P h → ∃ N f, h a = some (.inl (E.2 1, N, .inl f)) ∧ vp_in i N ∧ f i.toNatClampNeg = v) (kk : J P ce sl (pc + 1) lv (.int v :: st)) : J P ce sl pc lv (.int i :: .ref a :: st) := by
  obtain ⟨p, e, s, m, args, below, meth, c, A, Q, rfl, hx, hb, hml, hown, hts, hK, hA, hnm, hret⟩ := O
  intro H locs ls ws h1 h2 h3 h4 h5
  obtain ⟨N, f, f1, f2, f4⟩ := hv _ h3
  obtain ⟨q0, f3⟩ := hf_mem f1
  subst f4
  exact va_zald hx hb hK.1 h1 q0 1 f3 rfl f2 d (kk H locs ls ws h1 h2 h3 h4 h5)
theorem x_iast {l : Launch} {E : En} {cc : ByteArray} {own nm : String} {nL : Nat} {R : Room} {ret : Option FieldType} {Fn : Ft} {J : Jt} (O : Ok l E cc own nm nL R ret Fn J) {pc : Nat} {a : Nat} {i x : Int32} {P P' : HP} {ce sl : Nat} {lv : LV} {st : List Value} (d : decode cc pc = .ok (.iastore, 1)) (hv : ∀ h, P h → ∃ N f, h a = some (.inl (E.2 0, N, .inl f)) ∧ vp_in i N ∧ P' (hset h a (.inl (E.2 0, N, .inl (upd f i.toNatClampNeg x))))) (kk : J P' ce sl (pc + 1) lv st) : J P ce sl pc lv (.int x :: .int i :: .ref a :: st) := by
  obtain ⟨p, e, s, m, args, below, meth, c, A, Q, rfl, hx, hb, hml, hown, hts, hK, hA, hnm, hret⟩ := O
  intro H locs ls ws h1 h2 h3 h4 h5
  obtain ⟨N, f, f1, f2, f5⟩ := hv _ h3
  obtain ⟨q0, f3⟩ := hf_mem f1
  refine va_iast hx hb hK.1 h1 h2 h4 q0 0 f3 rfl f2 d (fun H1 locs1 q1 q2 q3 => ?_)
  exact kk H1 locs1 ls _ q1 q2 (by rw [hf_set h2 f3]; exact f5) q3 h5
theorem x_zast {l : Launch} {E : En} {cc : ByteArray} {own nm : String} {nL : Nat} {R : Room} {ret : Option FieldType} {Fn : Ft} {J : Jt} (O : Ok l E cc own nm nL R ret Fn J) {pc : Nat} {a : Nat} {i x : Int32} {P P' : HP} {ce sl : Nat} {lv : LV} {st : List Value} (d : decode cc pc = .ok (.bastore, 1)) (hv : ∀ h, P h → ∃ N f, h a = some (.inl (E.2 1, N, .inl f)) ∧ vp_in i N ∧ P' (hset h a (.inl (E.2 1, N, .inl (upd f i.toNatClampNeg (vp_nar .boolean x)))))) (kk : J P' ce sl (pc + 1) lv st) : J P ce sl pc lv (.int x :: .int i :: .ref a :: st) := by
  obtain ⟨p, e, s, m, args, below, meth, c, A, Q, rfl, hx, hb, hml, hown, hts, hK, hA, hnm, hret⟩ := O
  intro H locs ls ws h1 h2 h3 h4 h5
  obtain ⟨N, f, f1, f2, f5⟩ := hv _ h3
  obtain ⟨q0, f3⟩ := hf_mem f1
  refine va_zast hx hb hK.1 h1 h2 h4 q0 1 f3 rfl f2 d (fun H1 locs1 q1 q2 q3 => ?_)
  exact kk H1 locs1 ls _ q1 q2 (by rw [hf_set h2 f3]; exact f5) q3 h5
theorem x_alen {l : Launch} {E : En} {cc : ByteArray} {own nm : String} {nL : Nat} {R : Room} {ret : Option FieldType} {Fn : Ft} {J : Jt} (O : Ok l E cc own nm nL R ret Fn J) {pc : Nat} {a N t0 : Nat} {ty : FieldType} {v : Int32} {P : HP} {ce sl : Nat} {lv : LV} {st : List Value} (d : decode cc pc = .ok (.arraylength, 1)) (hv : ∀ h, P h → ∃ cA f, h a = some (.inl (cA, N, f)) ∧ (e_tys E)[t0]? = some (cA, ty)) (hN : Int32.ofNat N = v) (kk : J P ce sl (pc + 1) lv (.int v :: st)) : J P ce sl pc lv (.ref a :: st) := by
  obtain ⟨p, e, s, m, args, below, meth, c, A, Q, rfl, hx, hb, hml, hown, hts, hK, hA, hnm, hret⟩ := O
  intro H locs ls ws h1 h2 h3 h4 h5
  obtain ⟨cA, f, f1, f2⟩ := hv _ h3
  obtain ⟨q0, f3⟩ := hf_mem f1
  exact va_alen hx hb hK.1 h1 q0 t0 f3 f2 hN d (kk H locs ls ws h1 h2 h3 h4 h5)
theorem x_aald {l : Launch} {E : En} {cc : ByteArray} {own nm : String} {nL : Nat} {R : Room} {ret : Option FieldType} {Fn : Ft} {J : Jt} (O : Ok l E cc own nm nL R ret Fn J) {pc : Nat} {a t0 : Nat} {C : String} {i : Int32} {v : Option Nat} {P : HP} {ce sl : Nat} {lv : LV} {st : List Value} (d : decode cc pc = .ok (.aaload, 1)) (ht : (e_tys E)[t0]? = some (E.2 t0, .object C)) (hv : ∀ h, P h → ∃ N f, h a = some (.inl (E.2 t0, N, .inr (.inr (.inr (.inr f))))) ∧ vp_in i N ∧ f i.toNatClampNeg = v) (kk : J P ce sl (pc + 1) lv (va_rf v :: st)) : J P ce sl pc lv (.int i :: .ref a :: st) := by
  obtain ⟨p, e, s, m, args, below, meth, c, A, Q, rfl, hx, hb, hml, hown, hts, hK, hA, hnm, hret⟩ := O
  intro H locs ls ws h1 h2 h3 h4 h5
  obtain ⟨N, f, f1, f2, f4⟩ := hv _ h3
  obtain ⟨q0, f3⟩ := hf_mem f1
  subst f4
  exact va_aldq hx hb hK.1 h1 q0 t0 f3 ht f2 d (kk H locs ls ws h1 h2 h3 h4 h5)
theorem x_aast {l : Launch} {E : En} {cc : ByteArray} {own nm : String} {nL : Nat} {R : Room} {ret : Option FieldType} {Fn : Ft} {J : Jt} (O : Ok l E cc own nm nL R ret Fn J) {pc : Nat} {a b t0 ci : Nat} {r : vw_C} {i : Int32} {P P' : HP} {ce sl : Nat} {lv : LV} {st : List Value} (d : decode cc pc = .ok (.aastore, 1)) (ht : (e_tys E)[t0]? = some (E.2 t0, .object r.1)) (hc : vwCl[ci]? = some r) (hv : ∀ h, P h → ∃ N f fs, h a = some (.inl (E.2 t0, N, .inr (.inr (.inr (.inr f))))) ∧ h b = some (.inr (ci, fs)) ∧ vp_in i N ∧ P' (hset h a (.inl (E.2 t0, N, .inr (.inr (.inr (.inr (va_up f i.toNatClampNeg (some b))))))))) (kk : J P' ce sl (pc + 1) lv st) : J P ce sl pc lv (.ref b :: .int i :: .ref a :: st) := by
  obtain ⟨p, e, s, m, args, below, meth, c, A, Q, rfl, hx, hb, hml, hown, hts, hK, hA, hnm, hret⟩ := O
  intro H locs ls ws h1 h2 h3 h4 h5
  obtain ⟨N, f, fs, f1, f6, f2, f5⟩ := hv _ h3
  obtain ⟨q0, f3⟩ := hf_mem f1
  obtain ⟨qk, f7⟩ := hf_mem f6
  refine va_astq hx hb hK.1 h1 h2 h4 q0 t0 qk ci f3 ht f7 hc f2 d (fun H1 locs1 q1 q2 q3 => ?_)
  exact kk H1 locs1 ls _ q1 q2 (by rw [hf_set h2 f3]; exact f5) q3 h5
theorem x_new {l : Launch} {E : En} {cc : ByteArray} {own nm : String} {nL : Nat} {R : Room} {ret : Option FieldType} {Fn : Ft} {J : Jt} (O : Ok l E cc own nm nL R ret Fn J) {pc index : Nat} {ci N : Nat} {C : String} {T : u_T} {fs : List Value} {P P' : HP} {ce sl : Nat} {lv : LV} {st : List Value} (ty0 : Nat → FieldType) (d : decode cc pc = .ok (.new index, 3)) (hc : vwCl[ci]? = some (C, T, N)) (hin : ∀ w ∈ u_ws C T N, w ∈ wsL_law) (hty : ∀ k, k < N → parseFieldDescriptor (T k).2.2.1 = some (ty0 k)) (hl : Cond.classLink own index C ∈ wsL_law) (hi : Cond.instantiable C N ∈ wsL_law) (hini : Cond.initialized C ∈ wsL_law) (hfs : ∀ j, j < N → defaultValue (ty0 j) = vp_V fs j) (hce : ce + 1 ≤ R.cells) (hsl : sl + N ≤ R.slots) (kk : ∀ q, J (fun h => ∃ h0, P h0 ∧ h0 q = none ∧ h = hset h0 q (.inr (ci, fs))) (ce + 1) (sl + N) (pc + 3) lv (.ref q :: st)) : J P ce sl pc lv st := by
  obtain ⟨p, e, s, m, args, below, meth, c, A, Q, rfl, hx, hb, hml, hown, hts, hK, hA, hnm, hret⟩ := O
  intro H locs ls ws h1 h2 h3 h4 h5
  refine va_new (ci := ci) (fs := fs) (C := C) (T := T) (N := N) hx hb hts hin ty0 hty hown (hts _ hl) (hts _ hi) (hts _ hini) hK.1 h1 h2 h4 hA hc hfs hce hsl d (fun q H1 q1 q2 q3 => ?_)
  exact kk q H1 locs ls _ q1 q2 ⟨hf ws, h3, hf_fresh q2, hf_push h2 q2⟩ q3 h5
theorem x_newi {l : Launch} {E : En} {cc : ByteArray} {own nm : String} {nL : Nat} {R : Room} {ret : Option FieldType} {Fn : Ft} {J : Jt} (O : Ok l E cc own nm nL R ret Fn J) {pc : Nat} {i : Int32} {N : Nat} {P : HP} {ce sl : Nat} {lv : LV} {st : List Value} (d : decode cc pc = .ok (.newarray .int, 2)) (hn : ¬ i < 0) (hN : i.toNatClampNeg = N) (hN2 : N ≤ 131072) (hce : ce + 1 ≤ R.cells) (hsl : sl + N ≤ R.slots) (kk : ∀ q, J (fun h => ∃ h0, P h0 ∧ h0 q = none ∧ h = hset h0 q (.inl (E.2 0, N, .inl (fun _ => 0)))) (ce + 1) (sl + N) (pc + 2) lv (.ref q :: st)) : J P ce sl pc lv (.int i :: st) := by
  obtain ⟨p, e, s, m, args, below, meth, c, A, Q, rfl, hx, hb, hml, hown, hts, hK, hA, hnm, hret⟩ := O
  intro H locs ls ws h1 h2 h3 h4 h5
  refine va_newa (atype := .int) (a0 := (N, .inl (fun _ => 0))) (ty := .int) hx hb (hts _ ac_int) rfl hK.1 h1 h2 h4 hA (fun cA => rfl) hn hN (by simp only [componentBytes]; omega) hce hsl d (fun q cA H1 q0 q1 q2 q3 => ?_)
  have e1 := (q0.2 5 (cA, .int) rfl).2
  have e2 := (hK.1.2 0 (E.2 0, .int) rfl).2
  have e3 : cA = E.2 0 := Option.some.inj (e1.symm.trans e2)
  subst e3
  exact kk q H1 locs ls _ q1 q2 ⟨hf ws, h3, hf_fresh q2, hf_push h2 q2⟩ q3 h5
theorem x_newz {l : Launch} {E : En} {cc : ByteArray} {own nm : String} {nL : Nat} {R : Room} {ret : Option FieldType} {Fn : Ft} {J : Jt} (O : Ok l E cc own nm nL R ret Fn J) {pc : Nat} {i : Int32} {N : Nat} {P : HP} {ce sl : Nat} {lv : LV} {st : List Value} (d : decode cc pc = .ok (.newarray .boolean, 2)) (hn : ¬ i < 0) (hN : i.toNatClampNeg = N) (hN2 : N ≤ 131072) (hce : ce + 1 ≤ R.cells) (hsl : sl + N ≤ R.slots) (kk : ∀ q, J (fun h => ∃ h0, P h0 ∧ h0 q = none ∧ h = hset h0 q (.inl (E.2 1, N, .inl (fun _ => 0)))) (ce + 1) (sl + N) (pc + 2) lv (.ref q :: st)) : J P ce sl pc lv (.int i :: st) := by
  obtain ⟨p, e, s, m, args, below, meth, c, A, Q, rfl, hx, hb, hml, hown, hts, hK, hA, hnm, hret⟩ := O
  intro H locs ls ws h1 h2 h3 h4 h5
  refine va_newa (atype := .boolean) (a0 := (N, .inl (fun _ => 0))) (ty := .boolean) hx hb (hts _ ac_boolean) rfl hK.1 h1 h2 h4 hA (fun cA => rfl) hn hN (by simp only [componentBytes]; omega) hce hsl d (fun q cA H1 q0 q1 q2 q3 => ?_)
  have e1 := (q0.2 5 (cA, .boolean) rfl).2
  have e2 := (hK.1.2 1 (E.2 1, .boolean) rfl).2
  have e3 : cA = E.2 1 := Option.some.inj (e1.symm.trans e2)
  subst e3
  exact kk q H1 locs ls _ q1 q2 ⟨hf ws, h3, hf_fresh q2, hf_push h2 q2⟩ q3 h5
theorem x_newq {l : Launch} {E : En} {cc : ByteArray} {own nm : String} {nL : Nat} {R : Room} {ret : Option FieldType} {Fn : Ft} {J : Jt} (O : Ok l E cc own nm nL R ret Fn J) {pc index : Nat} {i : Int32} {N t0 : Nat} {C : String} {P : HP} {ce sl : Nat} {lv : LV} {st : List Value} (d : decode cc pc = .ok (.anewarray index, 3)) (ht : (e_tys E)[t0]? = some (E.2 t0, .object C)) (hao : ∀ U, e_K E U → va_AO C U) (hl : Cond.classLink own index C ∈ wsL_law) (hn : ¬ i < 0) (hN : i.toNatClampNeg = N) (hN2 : N ≤ 131072) (hce : ce + 1 ≤ R.cells) (hsl : sl + N ≤ R.slots) (kk : ∀ q, J (fun h => ∃ h0, P h0 ∧ h0 q = none ∧ h = hset h0 q (.inl (E.2 t0, N, .inr (.inr (.inr (.inr (fun _ => none))))))) (ce + 1) (sl + N) (pc + 3) lv (.ref q :: st)) : J P ce sl pc lv (.int i :: st) := by
  obtain ⟨p, e, s, m, args, below, meth, c, A, Q, rfl, hx, hb, hml, hown, hts, hK, hA, hnm, hret⟩ := O
  intro H locs ls ws h1 h2 h3 h4 h5
  refine va_newq (C := C) hx hb hown (hts _ hl) (hao s hK) hK.1 h1 h2 h4 hA hn hN (by omega) hce hsl d (fun q cA H1 q0 q1 q2 q3 => ?_)
  obtain ⟨-, -, -, -, -, e1⟩ := (q0.2 5 (cA, .object C) rfl).2
  obtain ⟨-, -, -, -, -, e2⟩ := (hK.1.2 t0 (E.2 t0, .object C) ht).2
  have e3 : cA = E.2 t0 := Option.some.inj (e1.symm.trans e2)
  subst e3
  exact kk q H1 locs ls _ q1 q2 ⟨hf ws, h3, hf_fresh q2, hf_push h2 q2⟩ q3 h5
theorem x_obj {l : Launch} {E : En} {cc : ByteArray} {own nm : String} {nL : Nat} {R : Room} {ret : Option FieldType} {Fn : Ft} {J : Jt} (O : Ok l E cc own nm nL R ret Fn J) {pc index a : Nat} {P : HP} {ce sl : Nat} {lv : LV} {st : List Value} (d : decode cc pc = .ok (.invokespecial index, 3)) (hl : Cond.methodLink own index objectInit ∈ wsL_law) (hf1 : 1 ≤ R.frames) (hf2 : (st.map fun v => v.category).sum + 12 ≤ R.locals) (kk : J P ce sl (pc + 3) lv st) : J P ce sl pc lv (.ref a :: st) := by
  obtain ⟨p, e, s, m, args, below, meth, c, A, Q, rfl, hx, hb, hml, hown, hts, hK, hA, hnm, hret⟩ := O
  intro H locs ls ws h1 h2 h3 h4 h5
  exact W.objInit hx hb hown (hts _ hl) (hts _ oi_inst) (hts _ oi_code) rfl (by rw [hml]; exact h5.2.1) rfl d hf1 (by show 2 * 0 + _ + 12 ≤ _; omega) (kk H locs ls ws h1 h2 h3 h4 h5)
theorem x_min {l : Launch} {E : En} {cc : ByteArray} {own nm : String} {nL : Nat} {R : Room} {ret : Option FieldType} {Fn : Ft} {J : Jt} (O : Ok l E cc own nm nL R ret Fn J) {pc index : Nat} {x y : Int32} {P : HP} {ce sl : Nat} {lv : LV} {st : List Value} (d : decode cc pc = .ok (.invokestatic index, 3)) (hl : Cond.methodLink own index Lib.Math.min.name ∈ wsL_law) (hf1 : 1 ≤ R.frames) (hf2 : (st.map fun v => v.category).sum + 13 ≤ R.locals) (hce : ce ≤ R.cells) (hsl : sl ≤ R.slots) (kk : J P ce sl (pc + 3) lv (.int (if y < x then y else x) :: st)) : J P ce sl pc lv (.int y :: .int x :: st) := by
  obtain ⟨p, e, s, m, args, below, meth, c, A, Q, rfl, hx, hb, hml, hown, hts, hK, hA, hnm, hret⟩ := O
  intro H locs ls ws h1 h2 h3 h4 h5
  exact va_mmin hx hb (by rw [hml]; exact h5.2.1.symm) hown (hts _ hl) (hts _ mi_st) (hts _ mm_ini) (hts _ mi_code) hf1 hf2 hce hsl d (kk H locs ls ws h1 h2 h3 h4 h5)
theorem x_max {l : Launch} {E : En} {cc : ByteArray} {own nm : String} {nL : Nat} {R : Room} {ret : Option FieldType} {Fn : Ft} {J : Jt} (O : Ok l E cc own nm nL R ret Fn J) {pc index : Nat} {x y : Int32} {P : HP} {ce sl : Nat} {lv : LV} {st : List Value} (d : decode cc pc = .ok (.invokestatic index, 3)) (hl : Cond.methodLink own index Lib.Math.max.name ∈ wsL_law) (hf1 : 1 ≤ R.frames) (hf2 : (st.map fun v => v.category).sum + 13 ≤ R.locals) (hce : ce ≤ R.cells) (hsl : sl ≤ R.slots) (kk : J P ce sl (pc + 3) lv (.int (if x < y then y else x) :: st)) : J P ce sl pc lv (.int y :: .int x :: st) := by
  obtain ⟨p, e, s, m, args, below, meth, c, A, Q, rfl, hx, hb, hml, hown, hts, hK, hA, hnm, hret⟩ := O
  intro H locs ls ws h1 h2 h3 h4 h5
  exact va_mmax hx hb (by rw [hml]; exact h5.2.1.symm) hown (hts _ hl) (hts _ mx_st) (hts _ mm_ini) (hts _ mx_code) hf1 hf2 hce hsl d (kk H locs ls ws h1 h2 h3 h4 h5)
/-! ===== contracts ===== -/
def mtPc (E : En) (ws : va_W) (sz : Nat) (av : List Value) : Array Value → State → Prop := va_Pc av (fun U => U.heap.size = sz ∧ va_P E.1 vwCl ws U.heap ∧ e_K E U ∧ va_D (fun _ => True) ws)
def mtQc {X : Type} (E : En) (ws : va_W) (sz : Nat) (val : X → Option Value) (P' : X → HP) : Array Value → State → Outcome → State → Prop := fun _ st oc t => (∃ (x : X) (ws' : va_W), oc = .returned (val x) ∧ P' x (hf ws') ∧ va_P E.1 vwCl ws' t.heap ∧ va_D (va_A ws sz) ws') ∧ va_F (va_A ws sz) st t
def Mt {X : Type} (l : Launch) (E : En) (y : MethodName) (bytes : ByteArray) (maxL : Nat) (ret : Option FieldType) (rm : Room) (av : List Value) (P : HP) (val : X → Option Value) (P' : X → HP) : Prop :=
  ∀ (ws : va_W) (sz : Nat), P (hf ws) → Met l y (.code y bytes maxL ret :: wsL_law) rm (mtPc E ws sz av) (mtQc E ws sz val P') rm.cells rm.slots (va_A ws sz)
theorem e_K_warm {E : En} {s U : State} (hW : s.WarmedH U.vm) (h : e_K E s) : e_K E U := ⟨va_K.moved hW.alike h.1, h.2.1.moved hW.alike, h.2.2.1.moved hW.alike, h.2.2.2.1.moved hW.alike, va_Nw.warmM hW h.2.2.2.2⟩
theorem e_K_same {E : En} {u U : State} (hvm : u.vm = U.vm) (h : e_K E u) : e_K E U := by
  have ha : u.vm.Alike U.vm := by rw [hvm]; exact Vm.Alike.refl _
  exact ⟨va_K.moved ha h.1, h.2.1.moved ha, h.2.2.1.moved ha, h.2.2.2.1.moved ha, va_Nw.same rfl hvm h.2.2.2.2⟩
theorem lawgood : ∀ w ∈ wsL_law, ((w.onTables && w.keeps) = true ∨ ∃ ty, w = .arrayClass ty) := fun w h => good_of_word (List.all_eq_true.mp wsL_law_gw w h)
theorem callB_law {R : Room} {s : State} {args : Array Value} {own : String} {index : Nat} {y : MethodName} {bytes : ByteArray} {maxL n : Nat} {ret : Option FieldType} {rm : Room} (hts : ∀ w ∈ wsL_law, w.before args s = true) (hc : CB own index y bytes maxL ret n) (hR : rm.frames + 1 ≤ R.frames ∧ 8 + (maxL + 11) + rm.locals ≤ R.locals) : CallB R s args own index y bytes maxL ret (.code y bytes maxL ret :: wsL_law) rm rm.cells rm.slots n :=
  callB_of (Ts := wsL_law) (ws' := wsL_law) n hts (fun w h => by
    rcases List.mem_cons.mp h with rfl | h
    · exact ⟨hc.2.2.1, lawgood _ hc.2.2.1⟩
    · exact ⟨h, lawgood _ h⟩) rfl rfl rfl (hts _ hc.2.1) (hts _ hc.1) hc.2.2.2 hR
section CALLX
variable {p : Program} {l : Launch} {e : Env} {R : Room} {s : State} {m : MethodId} {args : Array Value} {below : List Frame} {meth : Method} {c : Code} {H : Heap} {locs : List Loc} {cells slots : Nat} {Q : State → Prop}
variable {pc : Nat} {ls : Array Slot} {rest st0 : List Value} {a : Array Value} {A0 : Nat → Prop} {mc ms : Nat}
theorem x_back {X : Type} {E : En} {ws : va_W} {val : X → Option Value} {P' : X → HP} (hr : va_Run p l e R s m args below meth c H locs cells slots mc ms (F0 m pc ls st0) rest (mtQc E ws H.size val P' a) (va_A ws H.size)) (hD : va_D A0 ws) (hS : va_S A0 s.heap H locs) (hA : ∀ q, s.heap.size ≤ q → A0 q)
    (kk : ∀ (x : X) (ws' : va_W) (H1 : Heap) (locs1 : List Loc), P' x (hf ws') → va_P E.1 vwCl ws' H1 → va_D A0 ws' → va_S A0 s.heap H1 locs1 → W p l e R s m args below meth c H1 locs1 (cells + mc) (slots + ms) Q (F0 m (pc + 3) ls ((val x).toList ++ rest))) : W p l e R s m args below meth c H locs cells slots Q (F0 m pc ls st0) := by
  have hf : ∀ q, va_A ws H.size q → A0 q := fun q h => by
    rcases h with ⟨k, e, h⟩ | h
    · exact hD.2 k (q, e) h
    · exact hA q (Nat.le_trans hS.1 h)
  intro T hT X
  obtain ⟨v, st₀, t, T', L, h0, X', hL, e1, e2, ⟨⟨x, ws', hv, hp, hb, hd⟩, hz, hk⟩, st⟩ := hr T hT X
  cases hv
  rw [h0] at hz hk
  obtain ⟨t2, a1, b1⟩ := kk x ws' T'.heap (locs ++ L) hp (by rw [e1]; exact hb) (hd.weaken (fun _ _ _ h => hf _ h))
    ⟨Nat.le_trans hS.1 (by rw [e1]; exact hz), fun q h1 h2 => by rw [e1, hk q (Nat.lt_of_lt_of_le h1 hS.1) (fun z => h2 (hf q z))]; exact hS.2.1 q h1 h2, fun q hq => by
      rcases List.mem_append.mp hq with h | h
      · exact hS.2.2 q h
      · exact hf _ (hL q h)⟩ T' rfl X'
  exact ⟨t2, st t2 a1, b1⟩
end CALLX
theorem mt_pre {E : En} {s : State} {H : Heap} {ws : va_W} {A : Nat → Prop} {av : List Value} (hK : e_K E s) (hP : va_P E.1 vwCl ws H) (hD : va_D A ws) : PreS s H (mtPc E ws H.size av) av := ⟨fun a U g mk q => by
    obtain ⟨q0, q1, qP, qK, qD⟩ := q
    exact ⟨q0, q1, qP, e_K_same (u := U) (U := U.calling g mk a) rfl qK, qD⟩, fun U hU hW => ⟨rfl, by rw [hU], by rw [hU]; exact hP, e_K_warm hW hK, hD.weaken (fun _ _ _ _ => trivial)⟩⟩
theorem x_callV {l : Launch} {E : En} {cc : ByteArray} {own nm : String} {nL : Nat} {R : Room} {ret : Option FieldType} {Fn : Ft} {J : Jt} (O : Ok l E cc own nm nL R ret Fn J) {pc index : Nat} {X : Type} {y : MethodName} {bytes : ByteArray} {maxL n : Nat} {ret' : Option FieldType} {rm : Room} {val : X → Option Value} {P' : X → HP} {P : HP} {ce sl : Nat} {lv : LV} {st : List Value} {b : Nat} {As : List Value} (rest : List Value) (ci : Nat) (hM : Mt l E y bytes maxL ret' rm (.ref b :: As) P val P') (d : decode cc pc = .ok (.invokevirtual index, 3)) (hc : CB own index y bytes maxL ret' n) (him : Cond.instanceMethod y ∈ wsL_law) (hse : Cond.selects y.cls y y ∈ wsL_law) (hci : (vwCl[ci]?).map (fun q => q.1) = some y.cls) (hb0 : ∀ h, P h → ∃ fs, h b = some (.inr (ci, fs))) (hst : st = As.reverse ++ .ref b :: rest) (hn : As.length = n) (hw : (rest.map fun v => v.category).sum ≤ 8) (hR : rm.frames + 1 ≤ R.frames ∧ 8 + (maxL + 11) + rm.locals ≤ R.locals) (hce : ce + rm.cells ≤ R.cells ∧ sl + rm.slots ≤ R.slots) (kk : ∀ x, J (P' x) (ce + rm.cells) (sl + rm.slots) (pc + 3) lv ((val x).toList ++ rest)) : J P ce sl pc lv st := by
  obtain ⟨p, e, s, m, args, below, meth, c, A, Q, rfl, hx, hb, hml, hown, hts, hK, hA, hnm, hret⟩ := O
  intro H locs ls ws h1 h2 h3 h4 h5
  subst hst
  obtain ⟨fs, f1⟩ := hb0 _ h3
  obtain ⟨q0, f2⟩ := hf_mem f1
  cases hq : vwCl[ci]? with
  | none => rw [hq] at hci; cases hci
  | some q =>
    rw [hq] at hci
    have hq1 : q.1 = y.cls := Option.some.inj hci
    have hrec := va_recv hK.1 h1 hq f2
    rw [hq1] at hrec
    have hps := mt_pre (av := .ref b :: As) hK h1 h2
    exact x_back (va_runV (As := As) (rest := rest) ⟨hx, hb, hml, hown, hts⟩ (hM ws H.size h3) ⟨callB_law hts hc hR, hts _ him, hts _ hse⟩ ⟨hps.1, hrec, hps.2⟩ rfl hn h5.2.1 rfl (lv_room hw) d hce) h2 h4 hA (fun x ws' H1 locs1 g1 g2 g3 g4 => kk x H1 locs1 ls ws' g2 g3 g1 g4 h5)
theorem x_callS {l : Launch} {E : En} {cc : ByteArray} {own nm : String} {nL : Nat} {R : Room} {ret : Option FieldType} {Fn : Ft} {J : Jt} (O : Ok l E cc own nm nL R ret Fn J) {pc index : Nat} {X : Type} {y : MethodName} {bytes : ByteArray} {maxL n : Nat} {ret' : Option FieldType} {rm : Room} {val : X → Option Value} {P' : X → HP} {P : HP} {ce sl : Nat} {lv : LV} {st : List Value} {As : List Value} (rest : List Value) (hM : Mt l E y bytes maxL ret' rm As P val P') (d : decode cc pc = .ok (.invokestatic index, 3)) (hc : CB own index y bytes maxL ret' n) (him : Cond.static y ∈ wsL_law) (hst : st = As.reverse ++ rest) (hn : As.length = n) (hw : (rest.map fun v => v.category).sum ≤ 8) (hR : rm.frames + 1 ≤ R.frames ∧ 8 + (maxL + 11) + rm.locals ≤ R.locals) (hce : ce + rm.cells ≤ R.cells ∧ sl + rm.slots ≤ R.slots) (kk : ∀ x, J (P' x) (ce + rm.cells) (sl + rm.slots) (pc + 3) lv ((val x).toList ++ rest)) : J P ce sl pc lv st := by
  obtain ⟨p, e, s, m, args, below, meth, c, A, Q, rfl, hx, hb, hml, hown, hts, hK, hA, hnm, hret⟩ := O
  intro H locs ls ws h1 h2 h3 h4 h5
  subst hst
  exact x_back (va_runS (As := As) (rest := rest) ⟨hx, hb, hml, hown, hts⟩ (hM ws H.size h3) ⟨callB_law hts hc hR, hts _ him⟩ (mt_pre hK h1 h2) rfl hn h5.2.1 rfl (lv_room hw) d hce) h2 h4 hA (fun x ws' H1 locs1 g1 g2 g3 g4 => kk x H1 locs1 ls ws' g2 g3 g1 g4 h5)
theorem x_callI {l : Launch} {E : En} {cc : ByteArray} {own nm : String} {nL : Nat} {R : Room} {ret : Option FieldType} {Fn : Ft} {J : Jt} (O : Ok l E cc own nm nL R ret Fn J) {pc index : Nat} {X : Type} {y : MethodName} {bytes : ByteArray} {maxL n : Nat} {rm : Room} {val : X → Option Value} {P' : X → HP} {P : HP} {ce sl : Nat} {lv : LV} {st : List Value} {b : Nat} {As : List Value} (rest : List Value) (hM : Mt l E y bytes maxL none rm (.ref b :: As) P val P') (hy : y.name = "<init>") (d : decode cc pc = .ok (.invokespecial index, 3)) (hc : CB own index y bytes maxL none n) (him : Cond.instanceMethod y ∈ wsL_law) (hst : st = As.reverse ++ .ref b :: rest) (hn : As.length = n) (hw : (rest.map fun v => v.category).sum ≤ 8) (hR : rm.frames + 1 ≤ R.frames ∧ 8 + (maxL + 11) + rm.locals ≤ R.locals) (hce : ce + rm.cells ≤ R.cells ∧ sl + rm.slots ≤ R.slots) (kk : ∀ x, J (P' x) (ce + rm.cells) (sl + rm.slots) (pc + 3) lv ((val x).toList ++ rest)) : J P ce sl pc lv st := by
  obtain ⟨p, e, s, m, args, below, meth, c, A, Q, rfl, hx, hb, hml, hown, hts, hK, hA, hnm, hret⟩ := O
  intro H locs ls ws h1 h2 h3 h4 h5
  subst hst
  exact x_back (va_runI (As := As) (rest := rest) ⟨hx, hb, hml, hown, hts⟩ (hM ws H.size h3) ⟨callB_law hts hc hR, hy, hts _ him⟩ (mt_pre hK h1 h2) rfl hn h5.2.1 rfl (lv_room hw) d hce) h2 h4 hA (fun x ws' H1 locs1 g1 g2 g3 g4 => kk x H1 locs1 ls ws' g2 g3 g1 g4 h5)
theorem x_callP {l : Launch} {E : En} {cc : ByteArray} {own nm : String} {nL : Nat} {R : Room} {ret : Option FieldType} {Fn : Ft} {J : Jt} (O : Ok l E cc RX7 nm nL R ret Fn J) {pc : Nat} {X : Type} {bytes : ByteArray} {maxL : Nat} {rm : Room} {val : X → Option Value} {P' : X → HP} {P : HP} {ce sl : Nat} {lv : LV} {st : List Value} {b : Nat} (rest : List Value) (hM : Mt l E yX3_init bytes maxL none rm [.ref b] P val P') (d : decode cc pc = .ok (.invokespecial 27, 3)) (hcode : Cond.code yX3_init bytes maxL none ∈ wsL_law) (him : Cond.instanceMethod yX3_init ∈ wsL_law) (hst : st = .ref b :: rest) (hw : (rest.map fun v => v.category).sum ≤ 8) (hR : rm.frames + 1 ≤ R.frames ∧ 8 + (maxL + 11) + rm.locals ≤ R.locals) (hce : ce + rm.cells ≤ R.cells ∧ sl + rm.slots ≤ R.slots) (kk : ∀ x, J (P' x) (ce + rm.cells) (sl + rm.slots) (pc + 3) lv ((val x).toList ++ rest)) : J P ce sl pc lv st := by
  obtain ⟨p, e, s, m, args, below, meth, c, A, Q, rfl, hx, hb, hml, hown, hts, hK, hA, hnm, hret⟩ := O
  intro H locs ls ws h1 h2 h3 h4 h5
  subst hst
  exact x_back (va_runIN (As := []) (rest := rest) ⟨hx, hb, hml, hown, hts⟩ (hM ws H.size h3) ⟨va_cnB (Ts := wsL_law) (ws' := wsL_law) 0 hts (fun w h => by
    rcases List.mem_cons.mp h with rfl | h
    · exact ⟨hcode, lawgood _ hcode⟩
    · exact ⟨h, lawgood _ h⟩) rfl rfl rfl hK.2.2.2.2 (hts _ ini_RX3) (by decide +kernel) hR, rfl, hts _ him⟩ (mt_pre hK h1 h2) rfl rfl h5.2.1 rfl (lv_room hw) d hce) h2 h4 hA (fun x ws' H1 locs1 g1 g2 g3 g4 => kk x H1 locs1 ls ws' g2 g3 g1 g4 h5)
/-! ===== a contract out of its body ===== -/
def ent1 : List Value → LV
  | [] => []
  | .long x :: r => some (.long x) :: none :: ent1 r
  | .double x :: r => some (.double x) :: none :: ent1 r
  | v :: r => some v :: ent1 r
def ent (vs : List Value) (n : Nat) : LV := ent1 vs ++ List.replicate (n - (ent1 vs).length) none
theorem ent1_len : ∀ vs : List Value, (ent1 vs).length = (lg_sl vs).length
  | [] => rfl
  | v :: r => by
    have ih := ent1_len r
    cases v <;> simp [ent1, lg_sl, Value.category] at ih ⊢ <;> omega
theorem ent1_mem : ∀ (vs : List Value) (i j : Nat) (v : Value), (ent1 vs)[j]? = some (some v) → (i + j, v) ∈ lv_args i vs
  | [], i, j, v, h => by simp [ent1] at h
  | u :: r, i, j, v, h => by
    have ih := fun i j v => ent1_mem r i j v
    by_cases hc : u.category = 2
    · have he : ent1 (u :: r) = some u :: none :: ent1 r := by cases u <;> first | rfl | (simp [Value.category] at hc)
      rw [he] at h
      simp only [lv_args, hc, if_true]
      rcases j with _ | _ | j
      · simp at h; subst h; exact List.mem_cons_self
      · simp at h
      · simp only [List.getElem?_cons_succ] at h
        have := ih (i + 2) j v h
        refine List.mem_cons_of_mem _ ?_
        rw [show i + (j + 1 + 1) = i + 2 + j by omega]
        exact this
    · have he : ent1 (u :: r) = some u :: ent1 r := by cases u <;> first | rfl | (simp [Value.category] at hc)
      rw [he] at h
      simp only [lv_args, hc, if_false]
      rcases j with _ | j
      · simp at h; subst h; exact List.mem_cons_self
      · simp only [List.getElem?_cons_succ] at h
        have := ih (i + 1) j v h
        refine List.mem_cons_of_mem _ ?_
        rw [show i + (j + 1) = i + 1 + j by omega]
        exact this
theorem ent_lvs (vs : List Value) (n : Nat) (h : (ent1 vs).length ≤ n) : lvs ((lg_sl vs ++ List.replicate (n - (lg_sl vs).length) Slot.unset).toArray) n (ent vs n) := by
  have hl := lv_entry vs (n := n) (by rw [← ent1_len]; exact h)
  refine ⟨by simp [ent]; omega, hl.1, hl.2.1, fun i v hv => ?_⟩
  unfold ent at hv
  by_cases hi : i < (ent1 vs).length
  · rw [List.getElem?_append_left hi] at hv
    have := ent1_mem vs 0 i v hv
    rw [Nat.zero_add] at this
    exact hl.2.2 _ this
  · rw [List.getElem?_append_right (Nat.le_of_not_lt hi), List.getElem?_replicate] at hv
    split at hv <;> cases hv
def mtFin {X : Type} (rm : Room) (val : X → Option Value) (P' : X → HP) : Ft := fun v P ce sl => ce ≤ rm.cells ∧ sl ≤ rm.slots ∧ ∃ x, v = val x ∧ ∀ h, P h → P' x h
theorem Mt_of {X : Type} {l : Launch} {E : En} {y : MethodName} {bytes : ByteArray} {maxL : Nat} {ret : Option FieldType} {rm : Room} {av : List Value} {P : HP} {val : X → Option Value} {P' : X → HP} (hy : plainName y.cls = true) (hlen : (ent1 av).length ≤ maxL) (body : ∀ J, Ok l E bytes y.cls y.name maxL rm ret (mtFin rm val P') J → J P 0 0 0 (ent av maxL) []) : Mt l E y bytes maxL ret rm av P val P' := by
  intro ws sz hP
  refine Met.ofW (cc := bytes) (maxL := maxL) (ret := ret) hy rfl ?_
  intro p e s m args below meth c s₁ B hml hv
  obtain ⟨rfl, rfl, hP0, hK, hD0⟩ := hv
  have hx := B.exec
  have hb := B.bytes
  have hr := B.returns
  have hlocks := B.notSynchronized
  have hts := atoms_spec (ws := .code y bytes maxL ret :: wsL_law) B.pre
  have hown : s.vm.findClass y.cls = some m.cls := findClass_of_methodNamed B.named
  have hnm : meth.name = y.name := (name_of_methodNamed B.named B.method).1
  have hD := hD0.self (sz := s.heap.size)
  have hA : ∀ q : Nat, s.heap.size ≤ q → va_A ws s.heap.size q := fun q h => Or.inr h
  rw [lg_entry_eq]
  refine body _ ⟨p, e, s, m, av.toArray, below, meth, c, va_A ws s.heap.size, MQ below (mtQc E ws s.heap.size val P') av.toArray s rm.cells rm.slots (va_A ws s.heap.size), rfl, hx, hb, hml, hown, fun w h => hts w (List.mem_cons_of_mem _ h), hK, hA, hnm, ?_⟩ s.heap [] _ ws hP0 hD hP va_S.rf (ent_lvs av maxL hlen)
  intro v P2 ce sl pc lv hF hrt hd H locs ls ws' g1 g2 g3 g4 g5
  obtain ⟨hc, hs, x, rfl, hx9⟩ := hF
  have hq : ∀ t : State, t.heap = H → s.WarmedH t.vm → mtQc E ws s.heap.size val P' av.toArray s (.returned (val x)) t := fun t ht hW => ⟨⟨x, ws', rfl, hx9 _ g3, by rw [ht]; exact g1, g2⟩, g4.F ht⟩
  refine W.widen hc hs ?_
  cases hv : val x with
  | none =>
    rw [hv] at hq hd hrt
    cases ret with
    | none => exact W.vret hx hb hr hq g4.2.2 hd
    | some ty => cases hrt
  | some u =>
    rw [hv] at hq hd hrt
    cases ret with
    | none => cases u <;> cases hrt
    | some ty =>
      cases u with
      | int z => exact W.zret hx hb hr hrt hq g4.2.2 hd
      | long z =>
        cases ty <;> first | (cases hrt; done) | exact W.lret hx hb hr hq g4.2.2 hd
      | ref z =>
        cases ty <;> first | (cases hrt; done) | exact W.aret hx hb hr (Or.inl ⟨_, rfl⟩) (Or.inr ⟨_, rfl⟩) hq g4.2.2 hd | exact W.aret hx hb hr (Or.inr ⟨_, rfl⟩) (Or.inr ⟨_, rfl⟩) hq g4.2.2 hd
      | null =>
        cases ty <;> first | (cases hrt; done) | exact W.aret hx hb hr (Or.inl ⟨_, rfl⟩) (Or.inl rfl) hq g4.2.2 hd
      | _ => cases ty <;> cases hrt
