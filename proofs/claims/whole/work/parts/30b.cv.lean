/-! ===== CV: the class with its rights hidden: of each strip the list of its rights, newest ahead ===== -/
def mrg {α : Type} (f : Nat → Nat → α) (g : Nat → α) : Nat → Nat → α := fun t n => if t = 3 then g n else f t n
theorem mrg_ne {α : Type} (f : Nat → Nat → α) (g : Nat → α) {t : Nat} (n : Nat) (h : t ≠ 3) : mrg f g t n = f t n := by simp [mrg, h]
theorem mrg_3 {α : Type} (f : Nat → Nat → α) (g : Nat → α) (n : Nat) : mrg f g 3 n = g n := by simp [mrg]
theorem mrg_up3 {α : Type} (f : Nat → Nat → Nat → α) (g : Nat → Nat → α) {t : Nat} (n k : Nat) (v : α) (h : t ≠ 3) : up3 (mrg f g) t n k v = mrg (up3 f t n k v) g := by
  funext t' n'
  by_cases h3 : t' = 3
  · subst h3
    rw [mrg_3, up3_ne _ _ _ (fun z => h z.1.symm), mrg_3]
  · rw [mrg_ne _ _ _ h3]
    simp only [up3, mrg_ne _ _ _ h, mrg_ne _ _ _ h3]
def chC (v : Nat → Nat → Int32) (rn : Nat → Option Nat) : Nat → Nat → List Rt
  | 0, _ => []
  | f + 1, k => (v k 0, v k 1, v k 2) :: (match rn k with
    | none => []
    | some k2 => chC v rn f k2)
abbrev Hid : Type := (Nat → Nat) × (Nat → Nat → Int32) × Nat × (Nat → Nat) × (Nat → Option Nat)
def CRel (y : Hid) (ch : Nat → List Rt) : Prop := (∀ s, s < 120 → y.2.2.2.1 s < y.2.2.1) ∧ (∀ k k2, y.2.2.2.2 k = some k2 → k2 < k) ∧ ∀ s, s < 120 → ch s = chC y.2.1 y.2.2.2.2 (y.2.2.2.1 s + 1) (y.2.2.2.1 s)
def CV (E : En) (adr : Nat → Nat → Nat) (V : Nat → Nat → Nat → Int32) (VL : Nat → Nat → Nat → Int64) (m ns : Nat) (ch : Nat → List Rt) : HP := fun h => ∃ y : Hid, CRel y ch ∧ CW E (mrg adr y.1) (mrg V y.2.1) VL m ns y.2.2.1 y.2.2.2.1 y.2.2.2.2 h
def fldC (adr : Nat → Nat → Nat) (v : Nat → Int32) (x : Nat → Int64) (t n : Nat) : Option (Nat × List Value) := match t with
  | 0 => (match n with
    | 0 => some (0, [.int (v 0), .int (v 1), .int (v 2), .int (v 3), .int (v 4), .int (v 5), .int (v 6)])
    | 1 => some (1, [.ref (adr 0 14), .int (v 1), .ref (adr 0 15), .ref (adr 0 3), .int (v 4), .long (x 5), .long (x 6)])
    | 2 => some (2, [.ref (adr 0 11), .int (v 1), .ref (adr 0 13), .int (v 3)])
    | 3 => some (3, [.ref (adr 0 10), .int (v 1)])
    | 7 => some (7, [.int (v 0), .ref (adr 0 0), .int (v 2), .ref (adr 0 3), .ref (adr 0 2), .ref (adr 0 1), .ref (adr 0 12), .int (v 7), .int (v 8)])
    | _ => none)
  | 1 => some (4, [.int (v 0), .int (v 1), .int (v 2), .int (v 3), .int (v 4), .int (v 5), .int (v 6), .int (v 7), .int (v 8), .int (v 9), .int (v 10), .int (v 11), .long (x 12), .long (x 13)])
  | 2 => some (6, [.int (v 0), .int (v 1), .int (v 2), .int (v 3), .int (v 4), .int (v 5), .int (v 6)])
  | _ => none
theorem fldC_cell {E : En} {adr : Nat → Nat → Nat} {a3 : Nat → Nat} {v : Nat → Int32} {x : Nat → Int64} {t n ci : Nat} {fs : List Value} (h : fldC adr v x t n = some (ci, fs)) (m ns : Nat) (hd : Nat → Nat) (rn : Nat → Option Nat) : cellC E (mrg adr a3) v x m ns hd rn t n = .inr (ci, fs) := by
  rcases t with _ | _ | _ | t
  · rcases n with _ | _ | _ | _ | _ | _ | _ | _ | n
    all_goals (simp only [fldC, Option.some.injEq, Prod.mk.injEq] at h)
    all_goals (first | (cases h; done) | (obtain ⟨rfl, rfl⟩ := h; rfl))
  · simp only [fldC, Option.some.injEq, Prod.mk.injEq] at h
    obtain ⟨rfl, rfl⟩ := h; rfl
  · simp only [fldC, Option.some.injEq, Prod.mk.injEq] at h
    obtain ⟨rfl, rfl⟩ := h; rfl
  · simp [fldC] at h
theorem okC_up {m ns t n : Nat} (nr : Nat) (h : okC m ns 0 t n = true) : okC m ns nr t n = true := by
  rcases t with _ | _ | _ | _ | t <;> simp [okC] at h ⊢ <;> exact h
theorem okC_t3 {m ns t n : Nat} (h : okC m ns 0 t n = true) : t ≠ 3 := by
  intro e; subst e; simp [okC] at h
theorem CV.cell {E : En} {adr : Nat → Nat → Nat} {V : Nat → Nat → Nat → Int32} {VL : Nat → Nat → Nat → Int64} {m ns : Nat} {ch : Nat → List Rt} {h : HF} {t n ci : Nat} {fs : List Value} (H : CV E adr V VL m ns ch h) (hk : okC m ns 0 t n = true) (hc : fldC adr (V t n) (VL t n) t n = some (ci, fs)) : h (adr t n) = some (.inr (ci, fs)) := by
  obtain ⟨y, hy, H⟩ := H
  have := H.1 t n (okC_up _ hk)
  rw [mrg_ne _ _ _ (okC_t3 hk), mrg_ne _ _ _ (okC_t3 hk), fldC_cell hc] at this
  exact this
theorem CV.set {E : En} {adr : Nat → Nat → Nat} {V V' : Nat → Nat → Nat → Int32} {VL VL' : Nat → Nat → Nat → Int64} {m ns : Nat} {ch : Nat → List Rt} {h : HF} {t n ci : Nat} {fs : List Value} (H : CV E adr V VL m ns ch h) (hk : okC m ns 0 t n = true) (hV : ∀ t' n', ¬ (t' = t ∧ n' = n) → V' t' n' = V t' n' ∧ VL' t' n' = VL t' n') (he : fldC adr (V' t n) (VL' t n) t n = some (ci, fs)) : CV E adr V' VL' m ns ch (hset h (adr t n) (.inr (ci, fs))) := by
  obtain ⟨y, hy, H⟩ := H
  refine ⟨y, hy, ?_⟩
  have h3 := okC_t3 hk
  have := H.set (V' := mrg V' y.2.1) (VL' := VL') (t := t) (n := n) (e := .inr (ci, fs)) (okC_up _ hk) (fun t' n' c => ⟨by
    by_cases e3 : t' = 3
    · subst e3; rw [mrg_3, mrg_3]
    · rw [mrg_ne _ _ _ e3, mrg_ne _ _ _ e3]; exact (hV t' n' c).1, (hV t' n' c).2⟩) (by rw [mrg_ne _ _ _ h3, fldC_cell he])
  rw [mrg_ne _ _ _ h3] at this
  exact this
def arrN (n : Nat) : Nat := if n = 14 then 40 else 12
abbrev isAr (n : Nat) : Prop := n = 13 ∨ n = 14 ∨ n = 15
theorem CV.arr {E : En} {adr : Nat → Nat → Nat} {V : Nat → Nat → Nat → Int32} {VL : Nat → Nat → Nat → Int64} {m ns : Nat} {ch : Nat → List Rt} {h : HF} {n : Nat} (H : CV E adr V VL m ns ch h) (hn : isAr n) : h (adr 0 n) = some (.inl (E.2 0, arrN n, .inl (V 0 n))) := by
  obtain ⟨y, hy, H⟩ := H
  rcases hn with rfl | rfl | rfl
  · exact H.1 0 13 rfl
  · exact H.1 0 14 rfl
  · exact H.1 0 15 rfl
theorem CV.arrset {E : En} {adr : Nat → Nat → Nat} {V : Nat → Nat → Nat → Int32} {VL : Nat → Nat → Nat → Int64} {m ns : Nat} {ch : Nat → List Rt} {h : HF} {n j : Nat} {v : Int32} (H : CV E adr V VL m ns ch h) (hn : isAr n) : CV E adr (up3 V 0 n j v) VL m ns ch (hset h (adr 0 n) (.inl (E.2 0, arrN n, .inl (upd (V 0 n) j v)))) := by
  obtain ⟨y, hy, H⟩ := H
  refine ⟨y, hy, ?_⟩
  rw [← mrg_up3 _ _ _ _ _ (by decide)]
  rcases hn with rfl | rfl | rfl
  · exact H.set (t := 0) (n := 13) rfl (fun t' n' c => ⟨up3_ne _ _ _ c, rfl⟩) (by rw [up3_eq]; rfl)
  · exact H.set (t := 0) (n := 14) rfl (fun t' n' c => ⟨up3_ne _ _ _ c, rfl⟩) (by rw [up3_eq]; rfl)
  · exact H.set (t := 0) (n := 15) rfl (fun t' n' c => ⟨up3_ne _ _ _ c, rfl⟩) (by rw [up3_eq]; rfl)
theorem CV.pers {E : En} {adr : Nat → Nat → Nat} {V : Nat → Nat → Nat → Int32} {VL : Nat → Nat → Nat → Int64} {m ns : Nat} {ch : Nat → List Rt} {h : HF} (H : CV E adr V VL m ns ch h) : h (adr 0 10) = some (.inl (E.2 2, 60, .inr (.inr (.inr (.inr (fun p => if p < m then some (adr 1 p) else none)))))) := by
  obtain ⟨y, hy, H⟩ := H
  exact H.1 0 10 rfl
theorem CV.suits {E : En} {adr : Nat → Nat → Nat} {V : Nat → Nat → Nat → Int32} {VL : Nat → Nat → Nat → Int64} {m ns : Nat} {ch : Nat → List Rt} {h : HF} (H : CV E adr V VL m ns ch h) : h (adr 0 12) = some (.inl (E.2 4, 40, .inr (.inr (.inr (.inr (fun s => if s < ns then some (adr 2 s) else none)))))) := by
  obtain ⟨y, hy, H⟩ := H
  exact H.1 0 12 rfl
/-- the world with one cell more -/
def Nq (P : HP) (q : Nat) (e : va_E) : HP := fun h => ∃ h0, P h0 ∧ h0 q = none ∧ h = hset h0 q e
theorem Nq.at {P : HP} {q : Nat} {e : va_E} {h : HF} (H : Nq P q e h) : h q = some e := by
  obtain ⟨h0, -, -, rfl⟩ := H; exact hset_same _ _ _
theorem Nq.set {P : HP} {q : Nat} {e e' : va_E} {h : HF} (H : Nq P q e h) : Nq P q e' (hset h q e') := by
  obtain ⟨h0, h1, h2, rfl⟩ := H
  refine ⟨h0, h1, h2, ?_⟩
  funext b
  by_cases hb : b = q
  · subst hb; rw [hset_same, hset_same]
  · rw [hset_ne _ _ hb, hset_ne _ _ hb, hset_ne _ _ hb]
theorem CW.more {E : En} {adr : Nat → Nat → Nat} {V : Nat → Nat → Nat → Int32} {VL : Nat → Nat → Nat → Int64} {m ns nr : Nat} {hd : Nat → Nat} {rn : Nat → Option Nat} {h : HF} {q : Nat} {e : va_E} (H : CW E adr V VL m ns nr hd rn h) (hq : h q = none) : CW E adr V VL m ns nr hd rn (hset h q e) ∧ ∀ t n, okC m ns nr t n = true → adr t n ≠ q := by
  have hne : ∀ t n, okC m ns nr t n = true → adr t n ≠ q := fun t n hk e2 => by
    have := H.1 t n hk
    rw [e2, hq] at this
    cases this
  exact ⟨⟨fun t n hk => by rw [hset_ne _ _ (hne t n hk)]; exact H.1 t n hk, H.2⟩, hne⟩
theorem Nq.drop {E : En} {adr : Nat → Nat → Nat} {V : Nat → Nat → Nat → Int32} {VL : Nat → Nat → Nat → Int64} {m ns : Nat} {ch : Nat → List Rt} {h : HF} {q : Nat} {e : va_E} (H : Nq (CV E adr V VL m ns ch) q e h) : CV E adr V VL m ns ch h := by
  obtain ⟨h0, ⟨y, hy, H⟩, h2, rfl⟩ := H
  exact ⟨y, hy, (H.more h2).1⟩
theorem cv_get {l : Launch} {E : En} {cc : ByteArray} {own nm : String} {nL : Nat} {R : Room} {ret : Option FieldType} {Fn : Ft} {J : Jt} (O : Ok l E cc own nm nL R ret Fn J) {pc index : Nat} {t n ci k : Nat} {fs : List Value} {v : Value} {adr : Nat → Nat → Nat} {V : Nat → Nat → Nat → Int32} {VL : Nat → Nat → Nat → Int64} {m ns : Nat} {ch : Nat → List Rt} {ce sl : Nat} {lv : LV} {st : List Value} (dd : decode cc pc = .ok (.getfield index, 3)) (hl : FD own index ci k) (hk : okC m ns 0 t n = true) (hc : fldC adr (V t n) (VL t n) t n = some (ci, fs)) (hv : fs[k]? = some v) (kk : J (CV E adr V VL m ns ch) ce sl (pc + 3) lv (v :: st)) : J (CV E adr V VL m ns ch) ce sl pc lv (.ref (adr t n) :: st) :=
  x_get O dd hl (fun h H => ⟨fs, H.cell hk hc, hv⟩) kk
theorem cvP_get {l : Launch} {E : En} {cc : ByteArray} {own nm : String} {nL : Nat} {R : Room} {ret : Option FieldType} {Fn : Ft} {J : Jt} (O : Ok l E cc own nm nL R ret Fn J) {pc index : Nat} {t n ci k : Nat} {fs : List Value} {v : Value} {P : HP} {adr : Nat → Nat → Nat} {V : Nat → Nat → Nat → Int32} {VL : Nat → Nat → Nat → Int64} {m ns : Nat} {ch : Nat → List Rt} {ce sl : Nat} {lv : LV} {st : List Value} (hP : ∀ h, P h → CV E adr V VL m ns ch h) (dd : decode cc pc = .ok (.getfield index, 3)) (hl : FD own index ci k) (hk : okC m ns 0 t n = true) (hc : fldC adr (V t n) (VL t n) t n = some (ci, fs)) (hv : fs[k]? = some v) (kk : J P ce sl (pc + 3) lv (v :: st)) : J P ce sl pc lv (.ref (adr t n) :: st) :=
  x_get O dd hl (fun h H => ⟨fs, (hP h H).cell hk hc, hv⟩) kk
theorem cv_put {l : Launch} {E : En} {cc : ByteArray} {own nm : String} {nL : Nat} {R : Room} {ret : Option FieldType} {Fn : Ft} {J : Jt} (O : Ok l E cc own nm nL R ret Fn J) {pc index : Nat} {t n ci k : Nat} {ty : FieldType} {fs : List Value} {v : Int32} {adr : Nat → Nat → Nat} {V : Nat → Nat → Nat → Int32} {VL : Nat → Nat → Nat → Int64} {m ns : Nat} {ch : Nat → List Rt} {ce sl : Nat} {lv : LV} {st : List Value} (dd : decode cc pc = .ok (.putfield index, 3)) (hl : FP own index ci k ty false) (hn : narrow ty (.int v) = .int v) (hfit : fits ty (.int v) = true) (hk : okC m ns 0 t n = true) (hc : fldC adr (V t n) (VL t n) t n = some (ci, fs)) (hkl : k < fs.length) (hs : fldC adr (va_up (V t n) k v) (VL t n) t n = some (ci, fs.set k (.int v))) (kk : J (CV E adr (up3 V t n k v) VL m ns ch) ce sl (pc + 3) lv st) : J (CV E adr V VL m ns ch) ce sl pc lv (.int v :: .ref (adr t n) :: st) :=
  x_put O dd hl hn hfit (fun h H => ⟨fs, H.cell hk hc, hkl, H.set hk (fun t' n' c => ⟨up3_ne _ _ _ c, rfl⟩) (by rw [up3_eq]; exact hs)⟩) kk
theorem cv_putl {l : Launch} {E : En} {cc : ByteArray} {own nm : String} {nL : Nat} {R : Room} {ret : Option FieldType} {Fn : Ft} {J : Jt} (O : Ok l E cc own nm nL R ret Fn J) {pc index : Nat} {t n ci k : Nat} {fs : List Value} {v : Int64} {adr : Nat → Nat → Nat} {V : Nat → Nat → Nat → Int32} {VL : Nat → Nat → Nat → Int64} {m ns : Nat} {ch : Nat → List Rt} {ce sl : Nat} {lv : LV} {st : List Value} (dd : decode cc pc = .ok (.putfield index, 3)) (hl : FP own index ci k .long false) (hk : okC m ns 0 t n = true) (hc : fldC adr (V t n) (VL t n) t n = some (ci, fs)) (hkl : k < fs.length) (hs : fldC adr (V t n) (va_up (VL t n) k v) t n = some (ci, fs.set k (.long v))) (kk : J (CV E adr V (up3 VL t n k v) m ns ch) ce sl (pc + 3) lv st) : J (CV E adr V VL m ns ch) ce sl pc lv (.long v :: .ref (adr t n) :: st) :=
  x_put O dd hl rfl rfl (fun h H => ⟨fs, H.cell hk hc, hkl, H.set hk (fun t' n' c => ⟨rfl, up3_ne _ _ _ c⟩) (by rw [up3_eq]; exact hs)⟩) kk
theorem cv_ald {l : Launch} {E : En} {cc : ByteArray} {own nm : String} {nL : Nat} {R : Room} {ret : Option FieldType} {Fn : Ft} {J : Jt} (O : Ok l E cc own nm nL R ret Fn J) {pc : Nat} {n j : Nat} {x : Int32} {adr : Nat → Nat → Nat} {V : Nat → Nat → Nat → Int32} {VL : Nat → Nat → Nat → Int64} {m ns : Nat} {ch : Nat → List Rt} {ce sl : Nat} {lv : LV} {st : List Value} (dd : decode cc pc = .ok (.iaload, 1)) (hn : isAr n) (hx : x = nI j) (hj : j < arrN n) (hj2 : j < 2 ^ 31) (kk : J (CV E adr V VL m ns ch) ce sl (pc + 1) lv (.int (V 0 n j) :: st)) : J (CV E adr V VL m ns ch) ce sl pc lv (.int x :: .ref (adr 0 n) :: st) := by
  subst hx
  refine x_iald O dd (fun h H => ⟨arrN n, V 0 n, H.arr hn, ?_, ?_⟩) kk
  · intro h9
    rw [nI_clamp hj2] at h9
    rcases h9 with h9 | h9
    · exact nI_pos hj2 h9
    · omega
  · rw [nI_clamp hj2]
theorem cv_ast {l : Launch} {E : En} {cc : ByteArray} {own nm : String} {nL : Nat} {R : Room} {ret : Option FieldType} {Fn : Ft} {J : Jt} (O : Ok l E cc own nm nL R ret Fn J) {pc : Nat} {n j : Nat} {x v : Int32} {adr : Nat → Nat → Nat} {V : Nat → Nat → Nat → Int32} {VL : Nat → Nat → Nat → Int64} {m ns : Nat} {ch : Nat → List Rt} {ce sl : Nat} {lv : LV} {st : List Value} (dd : decode cc pc = .ok (.iastore, 1)) (hn : isAr n) (hx : x = nI j) (hj : j < arrN n) (hj2 : j < 2 ^ 31) (kk : J (CV E adr (up3 V 0 n j v) VL m ns ch) ce sl (pc + 1) lv st) : J (CV E adr V VL m ns ch) ce sl pc lv (.int v :: .int x :: .ref (adr 0 n) :: st) := by
  subst hx
  refine x_iast O dd (fun h H => ⟨arrN n, V 0 n, H.arr hn, ?_, ?_⟩) kk
  · intro h9
    rw [nI_clamp hj2] at h9
    rcases h9 with h9 | h9
    · exact nI_pos hj2 h9
    · omega
  · rw [nI_clamp hj2]
    exact H.arrset hn
theorem cv_alen {l : Launch} {E : En} {cc : ByteArray} {own nm : String} {nL : Nat} {R : Room} {ret : Option FieldType} {Fn : Ft} {J : Jt} (O : Ok l E cc own nm nL R ret Fn J) {pc : Nat} {n : Nat} {adr : Nat → Nat → Nat} {V : Nat → Nat → Nat → Int32} {VL : Nat → Nat → Nat → Int64} {m ns : Nat} {ch : Nat → List Rt} {ce sl : Nat} {lv : LV} {st : List Value} (dd : decode cc pc = .ok (.arraylength, 1)) (hn : isAr n) (kk : J (CV E adr V VL m ns ch) ce sl (pc + 1) lv (.int (nI (arrN n)) :: st)) : J (CV E adr V VL m ns ch) ce sl pc lv (.ref (adr 0 n) :: st) :=
  x_alen (t0 := 0) O dd (fun h H => ⟨_, _, H.arr hn, rfl⟩) rfl kk
theorem cv_plen {l : Launch} {E : En} {cc : ByteArray} {own nm : String} {nL : Nat} {R : Room} {ret : Option FieldType} {Fn : Ft} {J : Jt} (O : Ok l E cc own nm nL R ret Fn J) {pc : Nat} {P : HP} {adr : Nat → Nat → Nat} {V : Nat → Nat → Nat → Int32} {VL : Nat → Nat → Nat → Int64} {m ns : Nat} {ch : Nat → List Rt} {ce sl : Nat} {lv : LV} {st : List Value} (hP : ∀ h, P h → CV E adr V VL m ns ch h) (dd : decode cc pc = .ok (.arraylength, 1)) (kk : J P ce sl (pc + 1) lv (.int (nI 60) :: st)) : J P ce sl pc lv (.ref (adr 0 10) :: st) :=
  x_alen (t0 := 2) O dd (fun h H => ⟨_, _, (hP h H).pers, rfl⟩) rfl kk
theorem cv_slen {l : Launch} {E : En} {cc : ByteArray} {own nm : String} {nL : Nat} {R : Room} {ret : Option FieldType} {Fn : Ft} {J : Jt} (O : Ok l E cc own nm nL R ret Fn J) {pc : Nat} {P : HP} {adr : Nat → Nat → Nat} {V : Nat → Nat → Nat → Int32} {VL : Nat → Nat → Nat → Int64} {m ns : Nat} {ch : Nat → List Rt} {ce sl : Nat} {lv : LV} {st : List Value} (hP : ∀ h, P h → CV E adr V VL m ns ch h) (dd : decode cc pc = .ok (.arraylength, 1)) (kk : J P ce sl (pc + 1) lv (.int (nI 40) :: st)) : J P ce sl pc lv (.ref (adr 0 12) :: st) :=
  x_alen (t0 := 4) O dd (fun h H => ⟨_, _, (hP h H).suits, rfl⟩) rfl kk
theorem cv_pld {l : Launch} {E : En} {cc : ByteArray} {own nm : String} {nL : Nat} {R : Room} {ret : Option FieldType} {Fn : Ft} {J : Jt} (O : Ok l E cc own nm nL R ret Fn J) {pc : Nat} {j : Nat} {adr : Nat → Nat → Nat} {V : Nat → Nat → Nat → Int32} {VL : Nat → Nat → Nat → Int64} {m ns : Nat} {ch : Nat → List Rt} {ce sl : Nat} {lv : LV} {st : List Value} (dd : decode cc pc = .ok (.aaload, 1)) (hj : j < m) (h60 : m ≤ 60) (kk : J (CV E adr V VL m ns ch) ce sl (pc + 1) lv (.ref (adr 1 j) :: st)) : J (CV E adr V VL m ns ch) ce sl pc lv (.int (nI j) :: .ref (adr 0 10) :: st) := by
  refine x_aald (t0 := 2) (v := some (adr 1 j)) O dd rfl (fun h H => ⟨60, _, H.pers, ?_, ?_⟩) kk
  · intro h9
    rw [nI_clamp (by omega)] at h9
    rcases h9 with h9 | h9
    · exact nI_pos (by omega) h9
    · omega
  · rw [nI_clamp (by omega)]; exact if_pos hj
theorem cv_sld {l : Launch} {E : En} {cc : ByteArray} {own nm : String} {nL : Nat} {R : Room} {ret : Option FieldType} {Fn : Ft} {J : Jt} (O : Ok l E cc own nm nL R ret Fn J) {pc : Nat} {j : Nat} {adr : Nat → Nat → Nat} {V : Nat → Nat → Nat → Int32} {VL : Nat → Nat → Nat → Int64} {m ns : Nat} {ch : Nat → List Rt} {ce sl : Nat} {lv : LV} {st : List Value} (dd : decode cc pc = .ok (.aaload, 1)) (hj : j < ns) (h40 : ns ≤ 40) (kk : J (CV E adr V VL m ns ch) ce sl (pc + 1) lv (.ref (adr 2 j) :: st)) : J (CV E adr V VL m ns ch) ce sl pc lv (.int (nI j) :: .ref (adr 0 12) :: st) := by
  refine x_aald (t0 := 4) (v := some (adr 2 j)) O dd rfl (fun h H => ⟨40, _, H.suits, ?_, ?_⟩) kk
  · intro h9
    rw [nI_clamp (by omega)] at h9
    rcases h9 with h9 | h9
    · exact nI_pos (by omega) h9
    · omega
  · rw [nI_clamp (by omega)]; exact if_pos hj
theorem cv_recv {E : En} {adr : Nat → Nat → Nat} {V : Nat → Nat → Nat → Int32} {VL : Nat → Nat → Nat → Int64} {m ns : Nat} {ch : Nat → List Rt} {t n ci : Nat} {fs : List Value} (hk : okC m ns 0 t n = true) (hc : fldC adr (V t n) (VL t n) t n = some (ci, fs)) : ∀ h, CV E adr V VL m ns ch h → ∃ fs, h (adr t n) = some (.inr (ci, fs)) := fun h H => ⟨fs, H.cell hk hc⟩
theorem cvP_recv {E : En} {adr : Nat → Nat → Nat} {V : Nat → Nat → Nat → Int32} {VL : Nat → Nat → Nat → Int64} {m ns : Nat} {ch : Nat → List Rt} {t n ci : Nat} {fs : List Value} {P : HP} (hP : ∀ h, P h → CV E adr V VL m ns ch h) (hk : okC m ns 0 t n = true) (hc : fldC adr (V t n) (VL t n) t n = some (ci, fs)) : ∀ h, P h → ∃ fs, h (adr t n) = some (.inr (ci, fs)) := fun h H => ⟨fs, (hP h H).cell hk hc⟩
/-- opening the hidden rights -/
theorem cv_open {l : Launch} {E : En} {cc : ByteArray} {own nm : String} {nL : Nat} {R : Room} {ret : Option FieldType} {Fn : Ft} {J : Jt} (O : Ok l E cc own nm nL R ret Fn J) {pc : Nat} {adr : Nat → Nat → Nat} {V : Nat → Nat → Nat → Int32} {VL : Nat → Nat → Nat → Int64} {m ns : Nat} {ch : Nat → List Rt} {ce sl : Nat} {lv : LV} {st : List Value} (kk : ∀ y : Hid, CRel y ch → J (CW E (mrg adr y.1) (mrg V y.2.1) VL m ns y.2.2.1 y.2.2.2.1 y.2.2.2.2) ce sl pc lv st) : J (CV E adr V VL m ns ch) ce sl pc lv st :=
  x_ex (P := fun (y : Hid) h => CRel y ch ∧ CW E (mrg adr y.1) (mrg V y.2.1) VL m ns y.2.2.1 y.2.2.2.1 y.2.2.2.2 h) O (fun y => x_pure O (fun hy => kk y hy))
/-- a new cell for the custom in force -/
def up0 {α : Type} (f : Nat → Nat → α) (t n : Nat) (v : α) : Nat → Nat → α := fun t' n' => if t' = t ∧ n' = n then v else f t' n'
theorem up0_eq {α : Type} (f : Nat → Nat → α) (t n : Nat) (v : α) : up0 f t n v t n = v := by simp [up0]
theorem up0_ne {α : Type} (f : Nat → Nat → α) {t n t' n' : Nat} (v : α) (h : ¬ (t' = t ∧ n' = n)) : up0 f t n v t' n' = f t' n' := by simp only [up0, if_neg h]
