/-! ===== CLS: the class as cells by index: (0, kind) the single ones, (0, 10 .. 15) the arrays, (1, p) persons, (2, s) suits, (3, k) rights in the order of their making ===== -/
def okS (n : Nat) : Bool := (n == 0 || n == 1 || n == 2 || n == 3 || n == 7 || n == 10 || n == 11 || n == 12 || n == 13 || n == 14 || n == 15)
def okC (m ns nr t n : Nat) : Bool := match t with
  | 0 => okS n
  | 1 => decide (n < m)
  | 2 => decide (n < ns)
  | 3 => decide (n < nr)
  | _ => false
def cellS (E : En) (adr : Nat → Nat → Nat) (v : Nat → Int32) (x : Nat → Int64) (m ns : Nat) (hd : Nat → Nat) (n : Nat) : va_E := match n with
  | 0 => .inr (0, [.int (v 0), .int (v 1), .int (v 2), .int (v 3), .int (v 4), .int (v 5), .int (v 6)])
  | 1 => .inr (1, [.ref (adr 0 14), .int (v 1), .ref (adr 0 15), .ref (adr 0 3), .int (v 4), .long (x 5), .long (x 6)])
  | 2 => .inr (2, [.ref (adr 0 11), .int (v 1), .ref (adr 0 13), .int (v 3)])
  | 3 => .inr (3, [.ref (adr 0 10), .int (v 1)])
  | 7 => .inr (7, [.int (v 0), .ref (adr 0 0), .int (v 2), .ref (adr 0 3), .ref (adr 0 2), .ref (adr 0 1), .ref (adr 0 12), .int (v 7), .int (v 8)])
  | 10 => .inl (E.2 2, 60, .inr (.inr (.inr (.inr (fun p => if p < m then some (adr 1 p) else none)))))
  | 11 => .inl (E.2 3, 120, .inr (.inr (.inr (.inr (fun s => if s < 120 then some (adr 3 (hd s)) else none)))))
  | 12 => .inl (E.2 4, 40, .inr (.inr (.inr (.inr (fun s => if s < ns then some (adr 2 s) else none)))))
  | 13 => .inl (E.2 0, 12, .inl v)
  | 14 => .inl (E.2 0, 40, .inl v)
  | _ => .inl (E.2 0, 12, .inl v)
def cellC (E : En) (adr : Nat → Nat → Nat) (v : Nat → Int32) (x : Nat → Int64) (m ns : Nat) (hd : Nat → Nat) (rn : Nat → Option Nat) (t n : Nat) : va_E := match t with
  | 0 => cellS E adr v x m ns hd n
  | 1 => .inr (4, [.int (v 0), .int (v 1), .int (v 2), .int (v 3), .int (v 4), .int (v 5), .int (v 6), .int (v 7), .int (v 8), .int (v 9), .int (v 10), .int (v 11), .long (x 12), .long (x 13)])
  | 2 => .inr (6, [.int (v 0), .int (v 1), .int (v 2), .int (v 3), .int (v 4), .int (v 5), .int (v 6)])
  | _ => .inr (5, [.int (v 0), .int (v 1), .int (v 2), va_rf ((rn n).map (adr 3))])
def CW (E : En) (adr : Nat → Nat → Nat) (V : Nat → Nat → Nat → Int32) (VL : Nat → Nat → Nat → Int64) (m ns nr : Nat) (hd : Nat → Nat) (rn : Nat → Option Nat) : HP := fun h =>
  (∀ t n, okC m ns nr t n = true → h (adr t n) = some (cellC E adr (V t n) (VL t n) m ns hd rn t n)) ∧ ∀ t n t' n', okC m ns nr t n = true → okC m ns nr t' n' = true → adr t n = adr t' n' → t = t' ∧ n = n'
def up3 {α : Type} (V : Nat → Nat → Nat → α) (t n k : Nat) (v : α) : Nat → Nat → Nat → α := fun t' n' => if t' = t ∧ n' = n then va_up (V t n) k v else V t' n'
theorem up3_eq {α : Type} (V : Nat → Nat → Nat → α) (t n k : Nat) (v : α) : up3 V t n k v t n = va_up (V t n) k v := by simp [up3]
theorem up3_ne {α : Type} (V : Nat → Nat → Nat → α) {t n t' n' : Nat} (k : Nat) (v : α) (h : ¬ (t' = t ∧ n' = n)) : up3 V t n k v t' n' = V t' n' := by simp only [up3, if_neg h]
theorem CW.set {E : En} {adr : Nat → Nat → Nat} {V V' : Nat → Nat → Nat → Int32} {VL VL' : Nat → Nat → Nat → Int64} {m ns nr : Nat} {hd : Nat → Nat} {rn : Nat → Option Nat} {h : HF} {t n : Nat} {e : va_E} (H : CW E adr V VL m ns nr hd rn h) (hk : okC m ns nr t n = true) (hV : ∀ t' n', ¬ (t' = t ∧ n' = n) → V' t' n' = V t' n' ∧ VL' t' n' = VL t' n') (he : e = cellC E adr (V' t n) (VL' t n) m ns hd rn t n) : CW E adr V' VL' m ns nr hd rn (hset h (adr t n) e) := by
  refine ⟨fun t' n' hk' => ?_, H.2⟩
  by_cases c : t' = t ∧ n' = n
  · obtain ⟨rfl, rfl⟩ := c
    rw [hset_same, he]
  · rw [hset_ne _ _ (fun e2 => c (H.2 t' n' t n hk' hk e2)), (hV t' n' c).1, (hV t' n' c).2]
    exact H.1 t' n' hk' 
theorem c_get {l : Launch} {E : En} {cc : ByteArray} {own nm : String} {nL : Nat} {R : Room} {ret : Option FieldType} {Fn : Ft} {J : Jt} (O : Ok l E cc own nm nL R ret Fn J) {pc index : Nat} {t n ci k : Nat} {fs : List Value} {v : Value} {adr : Nat → Nat → Nat} {V : Nat → Nat → Nat → Int32} {VL : Nat → Nat → Nat → Int64} {m ns nr : Nat} {hd : Nat → Nat} {rn : Nat → Option Nat} {ce sl : Nat} {lv : LV} {st : List Value} (dd : decode cc pc = .ok (.getfield index, 3)) (hl : FD own index ci k) (hk : okC m ns nr t n = true) (hc : cellC E adr (V t n) (VL t n) m ns hd rn t n = .inr (ci, fs)) (hv : fs[k]? = some v) (kk : J (CW E adr V VL m ns nr hd rn) ce sl (pc + 3) lv (v :: st)) : J (CW E adr V VL m ns nr hd rn) ce sl pc lv (.ref (adr t n) :: st) :=
  x_get O dd hl (fun h H => ⟨fs, by rw [← hc]; exact H.1 t n hk, hv⟩) kk
theorem c_put {l : Launch} {E : En} {cc : ByteArray} {own nm : String} {nL : Nat} {R : Room} {ret : Option FieldType} {Fn : Ft} {J : Jt} (O : Ok l E cc own nm nL R ret Fn J) {pc index : Nat} {t n ci k : Nat} {ty : FieldType} {fs : List Value} {v : Int32} {adr : Nat → Nat → Nat} {V : Nat → Nat → Nat → Int32} {VL : Nat → Nat → Nat → Int64} {m ns nr : Nat} {hd : Nat → Nat} {rn : Nat → Option Nat} {ce sl : Nat} {lv : LV} {st : List Value} (dd : decode cc pc = .ok (.putfield index, 3)) (hl : FP own index ci k ty false) (hn : narrow ty (.int v) = .int v) (hfit : fits ty (.int v) = true) (hk : okC m ns nr t n = true) (hc : cellC E adr (V t n) (VL t n) m ns hd rn t n = .inr (ci, fs)) (hkl : k < fs.length) (hs : Sum.inr (ci, fs.set k (.int v)) = cellC E adr (va_up (V t n) k v) (VL t n) m ns hd rn t n) (kk : J (CW E adr (up3 V t n k v) VL m ns nr hd rn) ce sl (pc + 3) lv st) : J (CW E adr V VL m ns nr hd rn) ce sl pc lv (.int v :: .ref (adr t n) :: st) :=
  x_put O dd hl hn hfit (fun h H => ⟨fs, by rw [← hc]; exact H.1 t n hk, hkl, H.set hk (fun t' n' c => ⟨up3_ne _ _ _ c, rfl⟩) (by rw [up3_eq]; exact hs)⟩) kk
theorem c_putl {l : Launch} {E : En} {cc : ByteArray} {own nm : String} {nL : Nat} {R : Room} {ret : Option FieldType} {Fn : Ft} {J : Jt} (O : Ok l E cc own nm nL R ret Fn J) {pc index : Nat} {t n ci k : Nat} {fs : List Value} {v : Int64} {adr : Nat → Nat → Nat} {V : Nat → Nat → Nat → Int32} {VL : Nat → Nat → Nat → Int64} {m ns nr : Nat} {hd : Nat → Nat} {rn : Nat → Option Nat} {ce sl : Nat} {lv : LV} {st : List Value} (dd : decode cc pc = .ok (.putfield index, 3)) (hl : FP own index ci k .long false) (hk : okC m ns nr t n = true) (hc : cellC E adr (V t n) (VL t n) m ns hd rn t n = .inr (ci, fs)) (hkl : k < fs.length) (hs : Sum.inr (ci, fs.set k (.long v)) = cellC E adr (V t n) (va_up (VL t n) k v) m ns hd rn t n) (kk : J (CW E adr V (up3 VL t n k v) m ns nr hd rn) ce sl (pc + 3) lv st) : J (CW E adr V VL m ns nr hd rn) ce sl pc lv (.long v :: .ref (adr t n) :: st) :=
  x_put O dd hl rfl rfl (fun h H => ⟨fs, by rw [← hc]; exact H.1 t n hk, hkl, H.set hk (fun t' n' c => ⟨rfl, up3_ne _ _ _ c⟩) (by rw [up3_eq]; exact hs)⟩) kk
theorem c_ald {l : Launch} {E : En} {cc : ByteArray} {own nm : String} {nL : Nat} {R : Room} {ret : Option FieldType} {Fn : Ft} {J : Jt} (O : Ok l E cc own nm nL R ret Fn J) {pc : Nat} {n j N : Nat} {x : Int32} {adr : Nat → Nat → Nat} {V : Nat → Nat → Nat → Int32} {VL : Nat → Nat → Nat → Int64} {m ns nr : Nat} {hd : Nat → Nat} {rn : Nat → Option Nat} {ce sl : Nat} {lv : LV} {st : List Value} (dd : decode cc pc = .ok (.iaload, 1)) (hk : okS n = true) (hc : cellS E adr (V 0 n) (VL 0 n) m ns hd n = .inl (E.2 0, N, .inl (V 0 n))) (hx : x = nI j) (hj : j < N) (hj2 : j < 2 ^ 31) (kk : J (CW E adr V VL m ns nr hd rn) ce sl (pc + 1) lv (.int (V 0 n j) :: st)) : J (CW E adr V VL m ns nr hd rn) ce sl pc lv (.int x :: .ref (adr 0 n) :: st) := by
  subst hx
  refine x_iald O dd (fun h H => ⟨N, V 0 n, ?_, ?_, ?_⟩) kk
  · rw [← hc]; exact H.1 0 n hk
  · intro h9
    rw [nI_clamp hj2] at h9
    rcases h9 with h9 | h9
    · exact nI_pos hj2 h9
    · omega
  · rw [nI_clamp hj2]
theorem c_ast {l : Launch} {E : En} {cc : ByteArray} {own nm : String} {nL : Nat} {R : Room} {ret : Option FieldType} {Fn : Ft} {J : Jt} (O : Ok l E cc own nm nL R ret Fn J) {pc : Nat} {n j N : Nat} {x v : Int32} {adr : Nat → Nat → Nat} {V : Nat → Nat → Nat → Int32} {VL : Nat → Nat → Nat → Int64} {m ns nr : Nat} {hd : Nat → Nat} {rn : Nat → Option Nat} {ce sl : Nat} {lv : LV} {st : List Value} (dd : decode cc pc = .ok (.iastore, 1)) (hk : okS n = true) (hc : cellS E adr (V 0 n) (VL 0 n) m ns hd n = .inl (E.2 0, N, .inl (V 0 n))) (hs : Sum.inl (E.2 0, N, .inl (upd (V 0 n) j v)) = cellS E adr (va_up (V 0 n) j v) (VL 0 n) m ns hd n) (hx : x = nI j) (hj : j < N) (hj2 : j < 2 ^ 31) (kk : J (CW E adr (up3 V 0 n j v) VL m ns nr hd rn) ce sl (pc + 1) lv st) : J (CW E adr V VL m ns nr hd rn) ce sl pc lv (.int v :: .int x :: .ref (adr 0 n) :: st) := by
  subst hx
  refine x_iast O dd (fun h H => ⟨N, V 0 n, ?_, ?_, ?_⟩) kk
  · rw [← hc]; exact H.1 0 n hk
  · intro h9
    rw [nI_clamp hj2] at h9
    rcases h9 with h9 | h9
    · exact nI_pos hj2 h9
    · omega
  · rw [nI_clamp hj2]
    exact H.set (t := 0) hk (fun t' n' c => ⟨up3_ne _ _ _ c, rfl⟩) (by rw [up3_eq]; exact hs)
theorem c_aald {l : Launch} {E : En} {cc : ByteArray} {own nm : String} {nL : Nat} {R : Room} {ret : Option FieldType} {Fn : Ft} {J : Jt} (O : Ok l E cc own nm nL R ret Fn J) {pc : Nat} {n j N t0 : Nat} {C : String} {x : Int32} {f : Nat → Option Nat} {v : Option Nat} {adr : Nat → Nat → Nat} {V : Nat → Nat → Nat → Int32} {VL : Nat → Nat → Nat → Int64} {m ns nr : Nat} {hd : Nat → Nat} {rn : Nat → Option Nat} {ce sl : Nat} {lv : LV} {st : List Value} (dd : decode cc pc = .ok (.aaload, 1)) (ht : (e_tys E)[t0]? = some (E.2 t0, .object C)) (hk : okS n = true) (hc : cellS E adr (V 0 n) (VL 0 n) m ns hd n = .inl (E.2 t0, N, .inr (.inr (.inr (.inr f))))) (hx : x = nI j) (hj : j < N) (hj2 : j < 2 ^ 31) (hv : f j = v) (kk : J (CW E adr V VL m ns nr hd rn) ce sl (pc + 1) lv (va_rf v :: st)) : J (CW E adr V VL m ns nr hd rn) ce sl pc lv (.int x :: .ref (adr 0 n) :: st) := by
  subst hx
  refine x_aald O dd ht (fun h H => ⟨N, f, ?_, ?_, ?_⟩) kk
  · rw [← hc]; exact H.1 0 n hk
  · intro h9
    rw [nI_clamp hj2] at h9
    rcases h9 with h9 | h9
    · exact nI_pos hj2 h9
    · omega
  · rw [nI_clamp hj2]; exact hv
theorem c_len {l : Launch} {E : En} {cc : ByteArray} {own nm : String} {nL : Nat} {R : Room} {ret : Option FieldType} {Fn : Ft} {J : Jt} (O : Ok l E cc own nm nL R ret Fn J) {pc : Nat} {n N t0 : Nat} {ty : FieldType} {cA : ClassId} {f : (Nat → Int32) ⊕ (Nat → Int64) ⊕ (Nat → UInt32) ⊕ (Nat → UInt64) ⊕ (Nat → Option Nat)} {adr : Nat → Nat → Nat} {V : Nat → Nat → Nat → Int32} {VL : Nat → Nat → Nat → Int64} {m ns nr : Nat} {hd : Nat → Nat} {rn : Nat → Option Nat} {ce sl : Nat} {lv : LV} {st : List Value} (dd : decode cc pc = .ok (.arraylength, 1)) (ht : (e_tys E)[t0]? = some (cA, ty)) (hk : okS n = true) (hc : cellS E adr (V 0 n) (VL 0 n) m ns hd n = .inl (cA, N, f)) (kk : J (CW E adr V VL m ns nr hd rn) ce sl (pc + 1) lv (.int (nI N) :: st)) : J (CW E adr V VL m ns nr hd rn) ce sl pc lv (.ref (adr 0 n) :: st) :=
  x_alen (t0 := t0) O dd (fun h H => ⟨cA, f, by rw [← hc]; exact H.1 0 n hk, ht⟩) rfl kk
theorem c_recv {E : En} {adr : Nat → Nat → Nat} {V : Nat → Nat → Nat → Int32} {VL : Nat → Nat → Nat → Int64} {m ns nr : Nat} {hd : Nat → Nat} {rn : Nat → Option Nat} {t n ci : Nat} {fs : List Value} (hk : okC m ns nr t n = true) (hc : cellC E adr (V t n) (VL t n) m ns hd rn t n = .inr (ci, fs)) : ∀ h, CW E adr V VL m ns nr hd rn h → ∃ fs, h (adr t n) = some (.inr (ci, fs)) := fun h H => ⟨fs, by rw [← hc]; exact H.1 t n hk⟩
