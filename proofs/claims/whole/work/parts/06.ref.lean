/-! ===== REF: the reference as numbers i (its int fields by slot) and rows a (its arrays by slot) ===== -/
def b2i (p : Prop) [Decidable p] : Int32 := if p then 1 else 0
theorem b2i_0 {p : Prop} [Decidable p] : b2i p = 0 ↔ ¬ p := by unfold b2i; by_cases h : p <;> simp [h]
theorem b2i_1 {p : Prop} [Decidable p] : b2i p = 1 ↔ p := by unfold b2i; by_cases h : p <;> simp [h]
theorem b2i_t {p : Prop} [Decidable p] (h : p) : b2i p = 1 := b2i_1.mpr h
theorem b2i_f {p : Prop} [Decidable p] (h : ¬ p) : b2i p = 0 := b2i_0.mpr h
theorem b2i_nar (p : Prop) [Decidable p] : narrow .boolean (.int (b2i p)) = .int (b2i p) := by unfold b2i; by_cases h : p <;> simp only [h, if_true, if_false] <;> rfl
def isI (k : Nat) : Bool := (k == 0 || k == 1 || k == 2 || k == 3 || k == 4 || k == 5 || k == 6 || k == 7 || k == 8 || k == 22 || k == 23 || k == 28 || k == 38 || k == 40 || k == 41 || k == 42)
def isA (k : Nat) : Bool := (k == 9 || k == 10 || k == 11 || k == 12 || k == 13 || k == 14 || k == 15 || k == 16 || k == 17 || k == 18 || k == 19 || k == 20 || k == 21 || k == 24 || k == 25 || k == 26 || k == 27 || k == 29 || k == 30 || k == 31 || k == 32 || k == 33 || k == 34 || k == 35 || k == 36 || k == 37 || k == 39 || k == 43)
def isZ (k : Nat) : Bool := (k == 20 || k == 21)
def rlen (N k : Nat) : Nat := if k ≤ 21 then 60 else if k ≤ 27 then N else if k ≤ 30 then 120 else if k ≤ 37 then 40 else if k ≤ 39 then 3720 else 12
def rfs (d : Nat → Nat) (i : Nat → Int32) : List Value := [.int (i 0), .int (i 1), .int (i 2), .int (i 3), .int (i 4), .int (i 5), .int (i 6), .int (i 7), .int (i 8), .ref (d 9), .ref (d 10), .ref (d 11), .ref (d 12), .ref (d 13), .ref (d 14), .ref (d 15), .ref (d 16), .ref (d 17), .ref (d 18), .ref (d 19), .ref (d 20), .ref (d 21), .int (i 22), .int (i 23), .ref (d 24), .ref (d 25), .ref (d 26), .ref (d 27), .int (i 28), .ref (d 29), .ref (d 30), .ref (d 31), .ref (d 32), .ref (d 33), .ref (d 34), .ref (d 35), .ref (d 36), .ref (d 37), .int (i 38), .ref (d 39), .int (i 40), .int (i 41), .int (i 42), .ref (d 43)]
def rty (k : Nat) : Nat := if isZ k = true then 1 else 0
def up2 (a : Nat → Nat → Int32) (k j : Nat) (x : Int32) : Nat → Nat → Int32 := fun k' => if k' = k then upd (a k) j x else a k'
theorem up2_eq (a : Nat → Nat → Int32) (k j : Nat) (x : Int32) : up2 a k j x k = upd (a k) j x := by simp [up2]
theorem up2_ne (a : Nat → Nat → Int32) {k k' : Nat} (j : Nat) (x : Int32) (h : k' ≠ k) : up2 a k j x k' = a k' := by simp [up2, h]
theorem upd_eq (f : Nat → Int32) (k : Nat) (x : Int32) : upd f k x k = x := by simp [upd]
theorem upd_ne (f : Nat → Int32) {k j : Nat} (x : Int32) (h : j ≠ k) : upd f k x j = f j := by simp [upd, h]
def RW (E : En) (o : Nat) (d : Nat → Nat) (N : Nat) (i : Nat → Int32) (a : Nat → Nat → Int32) : HP := fun h =>
  h o = some (.inr (8, rfs d i)) ∧ (∀ k, isA k = true → h (d k) = some (.inl (E.2 (rty k), rlen N k, .inl (a k)))) ∧ ∀ j k, isA j = true → isA k = true → d j = d k → j = k
theorem RW.ne {E : En} {o N : Nat} {d : Nat → Nat} {i : Nat → Int32} {a : Nat → Nat → Int32} {h : HF} (H : RW E o d N i a h) {k : Nat} (hk : isA k = true) : d k ≠ o := fun e => by
  have h1 := H.2.1 k hk
  rw [e, H.1] at h1
  cases h1
theorem isA_lt {k : Nat} (h : isA k = true) : k < 44 := by
  simp only [isA, Bool.or_eq_true, beq_iff_eq] at h
  omega
theorem isI_lt {k : Nat} (h : isI k = true) : k < 44 := by
  simp only [isI, Bool.or_eq_true, beq_iff_eq] at h
  omega
set_option maxRecDepth 20000 in
theorem rfs_set (d : Nat → Nat) (i : Nat → Int32) (v : Int32) : ∀ k, isI k = true → (rfs d i).set k (.int v) = rfs d (upd i k v)
  | 0, _ => rfl
  | 1, _ => rfl
  | 2, _ => rfl
  | 3, _ => rfl
  | 4, _ => rfl
  | 5, _ => rfl
  | 6, _ => rfl
  | 7, _ => rfl
  | 8, _ => rfl
  | 9, h => by cases h
  | 10, h => by cases h
  | 11, h => by cases h
  | 12, h => by cases h
  | 13, h => by cases h
  | 14, h => by cases h
  | 15, h => by cases h
  | 16, h => by cases h
  | 17, h => by cases h
  | 18, h => by cases h
  | 19, h => by cases h
  | 20, h => by cases h
  | 21, h => by cases h
  | 22, _ => rfl
  | 23, _ => rfl
  | 24, h => by cases h
  | 25, h => by cases h
  | 26, h => by cases h
  | 27, h => by cases h
  | 28, _ => rfl
  | 29, h => by cases h
  | 30, h => by cases h
  | 31, h => by cases h
  | 32, h => by cases h
  | 33, h => by cases h
  | 34, h => by cases h
  | 35, h => by cases h
  | 36, h => by cases h
  | 37, h => by cases h
  | 38, _ => rfl
  | 39, h => by cases h
  | 40, _ => rfl
  | 41, _ => rfl
  | 42, _ => rfl
  | 43, h => by cases h
  | k + 44, h => absurd (isI_lt h) (by omega)
set_option maxRecDepth 20000 in
theorem rfs_setA (d : Nat → Nat) (i : Nat → Int32) (q : Nat) : ∀ k, isA k = true → (rfs d i).set k (.ref q) = rfs (va_up d k q) i
  | 0, h => by cases h
  | 1, h => by cases h
  | 2, h => by cases h
  | 3, h => by cases h
  | 4, h => by cases h
  | 5, h => by cases h
  | 6, h => by cases h
  | 7, h => by cases h
  | 8, h => by cases h
  | 9, _ => rfl
  | 10, _ => rfl
  | 11, _ => rfl
  | 12, _ => rfl
  | 13, _ => rfl
  | 14, _ => rfl
  | 15, _ => rfl
  | 16, _ => rfl
  | 17, _ => rfl
  | 18, _ => rfl
  | 19, _ => rfl
  | 20, _ => rfl
  | 21, _ => rfl
  | 22, h => by cases h
  | 23, h => by cases h
  | 24, _ => rfl
  | 25, _ => rfl
  | 26, _ => rfl
  | 27, _ => rfl
  | 28, h => by cases h
  | 29, _ => rfl
  | 30, _ => rfl
  | 31, _ => rfl
  | 32, _ => rfl
  | 33, _ => rfl
  | 34, _ => rfl
  | 35, _ => rfl
  | 36, _ => rfl
  | 37, _ => rfl
  | 38, h => by cases h
  | 39, _ => rfl
  | 40, h => by cases h
  | 41, h => by cases h
  | 42, h => by cases h
  | 43, _ => rfl
  | k + 44, h => absurd (isA_lt h) (by omega)
theorem r_get {l : Launch} {E : En} {cc : ByteArray} {own nm : String} {nL : Nat} {R : Room} {ret : Option FieldType} {Fn : Ft} {J : Jt} (O : Ok l E cc own nm nL R ret Fn J) {pc index : Nat} {k : Nat} {v : Value} {o N : Nat} {d : Nat → Nat} {i : Nat → Int32} {a : Nat → Nat → Int32} {ce sl : Nat} {lv : LV} {st : List Value} (dd : decode cc pc = .ok (.getfield index, 3)) (hl : FD own index 8 k) (hv : (rfs d i)[k]? = some v) (kk : J (RW E o d N i a) ce sl (pc + 3) lv (v :: st)) : J (RW E o d N i a) ce sl pc lv (.ref o :: st) :=
  x_get O dd hl (fun h H => ⟨_, H.1, hv⟩) kk
theorem r_put {l : Launch} {E : En} {cc : ByteArray} {own nm : String} {nL : Nat} {R : Room} {ret : Option FieldType} {Fn : Ft} {J : Jt} (O : Ok l E cc own nm nL R ret Fn J) {pc index : Nat} {k : Nat} {v : Int32} {o N : Nat} {d : Nat → Nat} {i : Nat → Int32} {a : Nat → Nat → Int32} {ce sl : Nat} {lv : LV} {st : List Value} (dd : decode cc pc = .ok (.putfield index, 3)) (hl : FP own index 8 k .int false) (hk : isI k = true) (kk : J (RW E o d N (upd i k v) a) ce sl (pc + 3) lv st) : J (RW E o d N i a) ce sl pc lv (.int v :: .ref o :: st) :=
  x_put O dd hl rfl rfl (fun h H => ⟨_, H.1, by simp only [rfs, List.length_cons, List.length_nil]; exact isI_lt hk, by
    rw [rfs_set d i v k hk]
    exact ⟨hset_same _ _ _, fun j hj => by rw [hset_ne _ _ (H.ne hj)]; exact H.2.1 j hj, H.2.2⟩⟩) kk
theorem r_ald {l : Launch} {E : En} {cc : ByteArray} {own nm : String} {nL : Nat} {R : Room} {ret : Option FieldType} {Fn : Ft} {J : Jt} (O : Ok l E cc own nm nL R ret Fn J) {pc : Nat} {k j : Nat} {x : Int32} {o N : Nat} {d : Nat → Nat} {i : Nat → Int32} {a : Nat → Nat → Int32} {ce sl : Nat} {lv : LV} {st : List Value} (dd : decode cc pc = .ok (.iaload, 1)) (hk : isA k = true) (hz : isZ k = false) (hx : x = nI j) (hj : j < rlen N k) (hj2 : j < 2 ^ 31) (kk : J (RW E o d N i a) ce sl (pc + 1) lv (.int (a k j) :: st)) : J (RW E o d N i a) ce sl pc lv (.int x :: .ref (d k) :: st) := by
  subst hx
  refine x_iald O dd (fun h H => ⟨rlen N k, a k, ?_, ?_, ?_⟩) kk


  · have h1 := H.2.1 k hk
    simpa only [rty, hz, Bool.false_eq_true, if_false] using h1
  · intro h9
    rw [nI_clamp hj2] at h9
    rcases h9 with h9 | h9
    · exact nI_pos hj2 h9
    · omega
  · rw [nI_clamp hj2]
theorem r_zld {l : Launch} {E : En} {cc : ByteArray} {own nm : String} {nL : Nat} {R : Room} {ret : Option FieldType} {Fn : Ft} {J : Jt} (O : Ok l E cc own nm nL R ret Fn J) {pc : Nat} {k j : Nat} {x : Int32} {o N : Nat} {d : Nat → Nat} {i : Nat → Int32} {a : Nat → Nat → Int32} {ce sl : Nat} {lv : LV} {st : List Value} (dd : decode cc pc = .ok (.baload, 1)) (hz : isZ k = true) (hx : x = nI j) (hj : j < 60) (kk : J (RW E o d N i a) ce sl (pc + 1) lv (.int (a k j) :: st)) : J (RW E o d N i a) ce sl pc lv (.int x :: .ref (d k) :: st) := by
  subst hx
  have hk2 : k = 20 ∨ k = 21 := by simpa [isZ] using hz
  have hk : isA k = true := by rcases hk2 with rfl | rfl <;> rfl
  have hr : rlen N k = 60 := by rcases hk2 with rfl | rfl <;> rfl
  refine x_zald O dd (fun h H => ⟨60, a k, ?_, vp_in_nI hj (by decide), by rw [nI_clamp (by omega)]⟩) kk
  have h1 := H.2.1 k hk
  simpa only [rty, hz, if_true, hr] using h1
theorem r_ast {l : Launch} {E : En} {cc : ByteArray} {own nm : String} {nL : Nat} {R : Room} {ret : Option FieldType} {Fn : Ft} {J : Jt} (O : Ok l E cc own nm nL R ret Fn J) {pc : Nat} {k j : Nat} {x v : Int32} {o N : Nat} {d : Nat → Nat} {i : Nat → Int32} {a : Nat → Nat → Int32} {ce sl : Nat} {lv : LV} {st : List Value} (dd : decode cc pc = .ok (.iastore, 1)) (hk : isA k = true) (hz : isZ k = false) (hx : x = nI j) (hj : j < rlen N k) (hj2 : j < 2 ^ 31) (kk : J (RW E o d N i (up2 a k j v)) ce sl (pc + 1) lv st) : J (RW E o d N i a) ce sl pc lv (.int v :: .int x :: .ref (d k) :: st) := by
  subst hx
  refine x_iast O dd (fun h H => ⟨rlen N k, a k, ?_, ?_, ?_⟩) kk
  · have h1 := H.2.1 k hk
    simpa only [rty, hz, Bool.false_eq_true, if_false] using h1
  · intro h9
    rw [nI_clamp hj2] at h9
    rcases h9 with h9 | h9
    · exact nI_pos hj2 h9
    · omega
  · rw [nI_clamp hj2]
    refine ⟨by rw [hset_ne _ _ (H.ne hk).symm]; exact H.1, fun q hq => ?_, H.2.2⟩
    by_cases hqk : q = k
    · subst hqk
      rw [hset_same, up2_eq]
      simp only [rty, hz, Bool.false_eq_true, if_false]
    · rw [hset_ne _ _ (fun e => hqk (H.2.2 q k hq hk e)), up2_ne _ _ _ hqk]
      exact H.2.1 q hq
theorem r_zst {l : Launch} {E : En} {cc : ByteArray} {own nm : String} {nL : Nat} {R : Room} {ret : Option FieldType} {Fn : Ft} {J : Jt} (O : Ok l E cc own nm nL R ret Fn J) {pc : Nat} {k j : Nat} {x v : Int32} {o N : Nat} {d : Nat → Nat} {i : Nat → Int32} {a : Nat → Nat → Int32} {ce sl : Nat} {lv : LV} {st : List Value} (dd : decode cc pc = .ok (.bastore, 1)) (hz : isZ k = true) (hx : x = nI j) (hj : j < 60) (hv : vp_nar .boolean v = v) (kk : J (RW E o d N i (up2 a k j v)) ce sl (pc + 1) lv st) : J (RW E o d N i a) ce sl pc lv (.int v :: .int x :: .ref (d k) :: st) := by
  subst hx
  have hk2 : k = 20 ∨ k = 21 := by simpa [isZ] using hz
  have hk : isA k = true := by rcases hk2 with rfl | rfl <;> rfl
  have hr : rlen N k = 60 := by rcases hk2 with rfl | rfl <;> rfl
  refine x_zast O dd (fun h H => ⟨60, a k, ?_, vp_in_nI hj (by decide), ?_⟩) kk
  · have h1 := H.2.1 k hk
    simpa only [rty, hz, if_true, hr] using h1
  · rw [nI_clamp (by omega), hv]
    refine ⟨by rw [hset_ne _ _ (H.ne hk).symm]; exact H.1, fun q hq => ?_, H.2.2⟩
    by_cases hqk : q = k
    · subst hqk
      rw [hset_same, up2_eq]
      simp only [rty, hz, if_true, hr]
    · rw [hset_ne _ _ (fun e => hqk (H.2.2 q k hq hk e)), up2_ne _ _ _ hqk]
      exact H.2.1 q hq
theorem r_len {l : Launch} {E : En} {cc : ByteArray} {own nm : String} {nL : Nat} {R : Room} {ret : Option FieldType} {Fn : Ft} {J : Jt} (O : Ok l E cc own nm nL R ret Fn J) {pc : Nat} {k : Nat} {o N : Nat} {d : Nat → Nat} {i : Nat → Int32} {a : Nat → Nat → Int32} {ce sl : Nat} {lv : LV} {st : List Value} (dd : decode cc pc = .ok (.arraylength, 1)) (hk : isA k = true) (hz : isZ k = false) (kk : J (RW E o d N i a) ce sl (pc + 1) lv (.int (nI (rlen N k)) :: st)) : J (RW E o d N i a) ce sl pc lv (.ref (d k) :: st) :=
  x_alen (t0 := 0) O dd (fun h H => ⟨E.2 0, _, by
    have h1 := H.2.1 k hk
    simpa only [rty, hz, Bool.false_eq_true, if_false] using h1, rfl⟩) rfl kk
theorem r_aldv {l : Launch} {E : En} {cc : ByteArray} {own nm : String} {nL : Nat} {R : Room} {ret : Option FieldType} {Fn : Ft} {J : Jt} (O : Ok l E cc own nm nL R ret Fn J) {pc : Nat} {k j : Nat} {x v : Int32} {o N : Nat} {d : Nat → Nat} {i : Nat → Int32} {a : Nat → Nat → Int32} {ce sl : Nat} {lv : LV} {st : List Value} (dd : decode cc pc = .ok (.iaload, 1)) (hk : isA k = true) (hz : isZ k = false) (hx : x = nI j) (hj : j < rlen N k) (hj2 : j < 2 ^ 31) (hv : a k j = v) (kk : J (RW E o d N i a) ce sl (pc + 1) lv (.int v :: st)) : J (RW E o d N i a) ce sl pc lv (.int x :: .ref (d k) :: st) := r_ald O dd hk hz hx hj hj2 (by rw [hv]; exact kk)
theorem r_zldv {l : Launch} {E : En} {cc : ByteArray} {own nm : String} {nL : Nat} {R : Room} {ret : Option FieldType} {Fn : Ft} {J : Jt} (O : Ok l E cc own nm nL R ret Fn J) {pc : Nat} {k j : Nat} {x v : Int32} {o N : Nat} {d : Nat → Nat} {i : Nat → Int32} {a : Nat → Nat → Int32} {ce sl : Nat} {lv : LV} {st : List Value} (dd : decode cc pc = .ok (.baload, 1)) (hz : isZ k = true) (hx : x = nI j) (hj : j < 60) (hv : a k j = v) (kk : J (RW E o d N i a) ce sl (pc + 1) lv (.int v :: st)) : J (RW E o d N i a) ce sl pc lv (.int x :: .ref (d k) :: st) := r_zld O dd hz hx hj (by rw [hv]; exact kk)
theorem r_recv {E : En} {o N : Nat} {d : Nat → Nat} {i : Nat → Int32} {a : Nat → Nat → Int32} : ∀ h, RW E o d N i a h → ∃ fs, h o = some (.inr (8, fs)) := fun h H => ⟨_, H.1⟩
theorem b2i_n0 {p : Prop} [Decidable p] (h : ¬ b2i p = 0) : p := Classical.byContradiction fun q => h (b2i_f q)
theorem b2i_z {p : Prop} [Decidable p] (h : b2i p = 0) : ¬ p := b2i_0.mp h
abbrev isP (i : Nat → Int32) (p : Int32) : Prop := 0 ≤ p ∧ p ≤ i 22 - 1
abbrev isS (i : Nat → Int32) (p : Int32) : Prop := 0 ≤ p ∧ p ≤ i 38 - 1
abbrev lvP (i : Nat → Int32) (a : Nat → Nat → Int32) (p : Int32) : Prop := isP i p ∧ ¬ a 20 p.toNatClampNeg = 0
theorem nI_pred1 {m : Nat} (h : 0 < m) : nI m - 1 = nI (m - 1) := by
  obtain ⟨k, rfl⟩ : ∃ k, m = k + 1 := ⟨m - 1, by omega⟩
  rw [nI_pred]
  rfl
theorem in_nat {m : Nat} {x p : Int32} (hm : x = nI m) (h60 : m ≤ 1000000) (h : 0 ≤ p ∧ p ≤ x - 1) : p = nI p.toNatClampNeg ∧ p.toNatClampNeg < m := by
  obtain ⟨h1, h2⟩ := h
  subst hm
  obtain ⟨j, hj, rfl⟩ := nI_of (x := p) (Int32.not_lt.mpr h1)
  rw [nI_clamp hj]
  refine ⟨rfl, ?_⟩
  rcases Nat.eq_zero_or_pos m with rfl | hm
  · exfalso
    rw [Int32.le_iff_toInt_le, nI_toInt hj, show (nI 0 - 1).toInt = -1 from by decide] at h2
    omega
  · rw [nI_pred1 hm, nI_leI hj (by omega)] at h2
    omega
theorem nat_in {m j : Nat} {x : Int32} (hm : x = nI m) (h60 : m ≤ 1000000) (h : j < m) : 0 ≤ nI j ∧ nI j ≤ x - 1 := by
  subst hm
  refine ⟨nI_pos' (by omega), ?_⟩
  rw [nI_pred1 (by omega), nI_leI (by omega) (by omega)]
  omega
theorem up_ind {Φ : Nat → Prop} (M : Nat) (h : ∀ k, k ≤ M → (k < M → Φ (k + 1)) → Φ k) : ∀ k, k ≤ M → Φ k := by
  have key : ∀ t k, k + t = M → Φ k := by
    intro t
    induction t with
    | zero => intro k hk; exact h k (by omega) (fun q => absurd q (by omega))
    | succ t ih => intro k hk; exact h k (by omega) (fun _ => ih (k + 1) (by omega))
  exact fun k hk => key (M - k) k (by omega)
theorem dn_ind {Φ : Nat → Prop} (h0 : Φ 0) (h : ∀ k, Φ k → Φ (k + 1)) : ∀ k, Φ k := fun k => Nat.rec h0 h k

