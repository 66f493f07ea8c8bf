/-! ===== REFV: the reference's rights as a list for each strip, newest ahead ===== -/
abbrev Rt : Type := Int32 × Int32 × Int32
def isRr (k : Nat) : Bool := (k == 24 || k == 25 || k == 26 || k == 27)
def chainR (a : Nat → Nat → Int32) (s : Nat) : Nat → List Rt
  | 0 => []
  | k + 1 => if a 24 k = nI s then (a 25 k, a 26 k, a 27 k) :: chainR a s k else chainR a s k
def cap (r : Nat) : Nat := if r ≤ 256 then 256 else if r ≤ 512 then 512 else if r ≤ 1024 then 1024 else if r ≤ 2048 then 2048 else if r ≤ 4096 then 4096 else if r ≤ 8192 then 8192 else if r ≤ 16384 then 16384 else if r ≤ 32768 then 32768 else 65536
theorem cap_ge {r : Nat} (h : r ≤ 65536) : r ≤ cap r := by unfold cap; (repeat' split) <;> omega
theorem cap_lo (r : Nat) : 256 ≤ cap r := by unfold cap; (repeat' split) <;> omega
theorem cap_hi (r : Nat) : cap r ≤ 65536 := by unfold cap; (repeat' split) <;> omega
theorem cap_mono {r q : Nat} (h : r ≤ q) : cap r ≤ cap q := by unfold cap; (repeat' split) <;> omega
theorem cap_same {r : Nat} (h : ¬ r = cap r) (h2 : r ≤ 65536) : cap (r + 1) = cap r := by revert h; unfold cap; (repeat' split) <;> omega
theorem cap_next {r : Nat} (h : r = cap r) (h2 : r < 65536) : cap (r + 1) = 2 * cap r := by revert h; unfold cap; (repeat' split) <;> omega
def RC (d d' : Nat → Nat) (i : Nat → Int32) (b a : Nat → Nat → Int32) (ch : Nat → List Rt) (r : Nat) : Prop :=
  (∀ k, isRr k = false → d' k = d k ∧ a k = b k) ∧ i 28 = nI r ∧ r ≤ 61560 ∧ (∀ k, k < r → ∃ s, s < 120 ∧ a 24 k = nI s) ∧ ∀ s, s < 120 → chainR a s r = ch s
def RV (E : En) (o : Nat) (d : Nat → Nat) (i : Nat → Int32) (b : Nat → Nat → Int32) (ch : Nat → List Rt) : HP := fun h => ∃ q : (Nat → Nat) × (Nat → Nat → Int32) × Nat, RC d q.1 i b q.2.1 ch q.2.2 ∧ RW E o q.1 (cap q.2.2) i q.2.1 h
theorem v_open {l : Launch} {E : En} {cc : ByteArray} {own nm : String} {nL : Nat} {R : Room} {ret : Option FieldType} {Fn : Ft} {J : Jt} (O : Ok l E cc own nm nL R ret Fn J) {pc : Nat} {o : Nat} {d : Nat → Nat} {i : Nat → Int32} {a : Nat → Nat → Int32} {ch : Nat → List Rt} {ce sl : Nat} {lv : LV} {st : List Value} (k : ∀ d' a' r, RC d d' i a a' ch r → J (RW E o d' (cap r) i a') ce sl pc lv st) : J (RV E o d i a ch) ce sl pc lv st :=
  x_ex O (fun q => x_pure O (fun hq => k q.1 q.2.1 q.2.2 hq))
theorem v_close {l : Launch} {E : En} {cc : ByteArray} {own nm : String} {nL : Nat} {R : Room} {ret : Option FieldType} {Fn : Ft} {J : Jt} (O : Ok l E cc own nm nL R ret Fn J) {pc : Nat} {o : Nat} {d : Nat → Nat} {i : Nat → Int32} {a : Nat → Nat → Int32} {ch : Nat → List Rt} {ce sl : Nat} {lv : LV} {st : List Value} {d' : Nat → Nat} {a' : Nat → Nat → Int32} {r : Nat} (hq : RC d d' i a a' ch r) (k : J (RV E o d i a ch) ce sl pc lv st) : J (RW E o d' (cap r) i a') ce sl pc lv st :=
  x_imp O (fun h hh => ⟨(d', a', r), hq, hh⟩) k
theorem rfs_rc0 {d d' : Nat → Nat} {i : Nat → Int32} (hd : ∀ k, isRr k = false → d' k = d k) : ∀ k, isRr k = false → (rfs d' i)[k]? = (rfs d i)[k]?
  | 0, _ => rfl
  | 1, _ => rfl
  | 2, _ => rfl
  | 3, _ => rfl
  | 4, _ => rfl
  | 5, _ => rfl
  | 6, _ => rfl
  | 7, _ => rfl
  | 8, _ => rfl
  | 9, _ => by show some (Value.ref (d' 9)) = some (Value.ref (d 9)); rw [hd 9 rfl]
  | 10, _ => by show some (Value.ref (d' 10)) = some (Value.ref (d 10)); rw [hd 10 rfl]
  | 11, _ => by show some (Value.ref (d' 11)) = some (Value.ref (d 11)); rw [hd 11 rfl]
  | 12, _ => by show some (Value.ref (d' 12)) = some (Value.ref (d 12)); rw [hd 12 rfl]
  | 13, _ => by show some (Value.ref (d' 13)) = some (Value.ref (d 13)); rw [hd 13 rfl]
  | 14, _ => by show some (Value.ref (d' 14)) = some (Value.ref (d 14)); rw [hd 14 rfl]
  | 15, _ => by show some (Value.ref (d' 15)) = some (Value.ref (d 15)); rw [hd 15 rfl]
  | 16, _ => by show some (Value.ref (d' 16)) = some (Value.ref (d 16)); rw [hd 16 rfl]
  | 17, _ => by show some (Value.ref (d' 17)) = some (Value.ref (d 17)); rw [hd 17 rfl]
  | 18, _ => by show some (Value.ref (d' 18)) = some (Value.ref (d 18)); rw [hd 18 rfl]
  | 19, _ => by show some (Value.ref (d' 19)) = some (Value.ref (d 19)); rw [hd 19 rfl]
  | 20, _ => by show some (Value.ref (d' 20)) = some (Value.ref (d 20)); rw [hd 20 rfl]
  | 21, _ => by show some (Value.ref (d' 21)) = some (Value.ref (d 21)); rw [hd 21 rfl]
  | 22, _ => rfl
  | 23, _ => rfl
  | 24, h => by cases h
  | 25, h => by cases h
  | 26, h => by cases h
  | 27, h => by cases h
  | 28, _ => rfl
  | 29, _ => by show some (Value.ref (d' 29)) = some (Value.ref (d 29)); rw [hd 29 rfl]
  | 30, _ => by show some (Value.ref (d' 30)) = some (Value.ref (d 30)); rw [hd 30 rfl]
  | 31, _ => by show some (Value.ref (d' 31)) = some (Value.ref (d 31)); rw [hd 31 rfl]
  | 32, _ => by show some (Value.ref (d' 32)) = some (Value.ref (d 32)); rw [hd 32 rfl]
  | 33, _ => by show some (Value.ref (d' 33)) = some (Value.ref (d 33)); rw [hd 33 rfl]
  | 34, _ => by show some (Value.ref (d' 34)) = some (Value.ref (d 34)); rw [hd 34 rfl]
  | 35, _ => by show some (Value.ref (d' 35)) = some (Value.ref (d 35)); rw [hd 35 rfl]
  | 36, _ => by show some (Value.ref (d' 36)) = some (Value.ref (d 36)); rw [hd 36 rfl]
  | 37, _ => by show some (Value.ref (d' 37)) = some (Value.ref (d 37)); rw [hd 37 rfl]
  | 38, _ => rfl
  | 39, _ => by show some (Value.ref (d' 39)) = some (Value.ref (d 39)); rw [hd 39 rfl]
  | 40, _ => rfl
  | 41, _ => rfl
  | 42, _ => rfl
  | 43, _ => by show some (Value.ref (d' 43)) = some (Value.ref (d 43)); rw [hd 43 rfl]
  | k + 44, _ => rfl
theorem rfs_rc {d d' : Nat → Nat} {i : Nat → Int32} {k : Nat} {v : Value} (hd : ∀ k, isRr k = false → d' k = d k) (hk : isRr k = false) (hv : (rfs d i)[k]? = some v) : (rfs d' i)[k]? = some v := (rfs_rc0 hd k hk).trans hv
theorem v_get {l : Launch} {E : En} {cc : ByteArray} {own nm : String} {nL : Nat} {R : Room} {ret : Option FieldType} {Fn : Ft} {J : Jt} (O : Ok l E cc own nm nL R ret Fn J) {pc index : Nat} {k : Nat} {v : Value} {o : Nat} {d : Nat → Nat} {i : Nat → Int32} {a : Nat → Nat → Int32} {ch : Nat → List Rt} {ce sl : Nat} {lv : LV} {st : List Value} (dd : decode cc pc = .ok (.getfield index, 3)) (hl : FD own index 8 k) (hk : isRr k = false) (hv : (rfs d i)[k]? = some v) (kk : J (RV E o d i a ch) ce sl (pc + 3) lv (v :: st)) : J (RV E o d i a ch) ce sl pc lv (.ref o :: st) :=
  v_open O fun d' a' r hq => r_get O dd hl (rfs_rc (fun k hk => (hq.1 k hk).1) hk hv) (v_close O hq kk)
theorem RC.put {d d' : Nat → Nat} {i : Nat → Int32} {b a : Nat → Nat → Int32} {ch : Nat → List Rt} {r k : Nat} {v : Int32} (h : RC d d' i b a ch r) (hk : k ≠ 28) : RC d d' (upd i k v) b a ch r := ⟨h.1, by rw [upd_ne _ _ (fun e => hk e.symm)]; exact h.2.1, h.2.2⟩
theorem v_put {l : Launch} {E : En} {cc : ByteArray} {own nm : String} {nL : Nat} {R : Room} {ret : Option FieldType} {Fn : Ft} {J : Jt} (O : Ok l E cc own nm nL R ret Fn J) {pc index : Nat} {k : Nat} {v : Int32} {o : Nat} {d : Nat → Nat} {i : Nat → Int32} {a : Nat → Nat → Int32} {ch : Nat → List Rt} {ce sl : Nat} {lv : LV} {st : List Value} (dd : decode cc pc = .ok (.putfield index, 3)) (hl : FP own index 8 k .int false) (hk : isI k = true) (hk2 : (k == 28) = false) (kk : J (RV E o d (upd i k v) a ch) ce sl (pc + 3) lv st) : J (RV E o d i a ch) ce sl pc lv (.int v :: .ref o :: st) :=
  v_open O fun d' a' r hq => r_put O dd hl hk (v_close O (hq.put (by simpa using hk2)) kk)
theorem v_ald {l : Launch} {E : En} {cc : ByteArray} {own nm : String} {nL : Nat} {R : Room} {ret : Option FieldType} {Fn : Ft} {J : Jt} (O : Ok l E cc own nm nL R ret Fn J) {pc : Nat} {k j : Nat} {x : Int32} {o : Nat} {d : Nat → Nat} {i : Nat → Int32} {a : Nat → Nat → Int32} {ch : Nat → List Rt} {ce sl : Nat} {lv : LV} {st : List Value} (dd : decode cc pc = .ok (.iaload, 1)) (hr : isRr k = false) (hk : isA k = true) (hz : isZ k = false) (hx : x = nI j) (hj : j < rlen 0 k) (kk : J (RV E o d i a ch) ce sl (pc + 1) lv (.int (a k j) :: st)) : J (RV E o d i a ch) ce sl pc lv (.int x :: .ref (d k) :: st) :=
  v_open O fun d' a' r hq => by
    have h2 : rlen (cap r) k = rlen 0 k ∧ rlen 0 k ≤ 3720 := by
      have q1 : k ≠ 22 := by rintro rfl; cases hk
      have q2 : k ≠ 23 := by rintro rfl; cases hk
      have q3 : k ≤ 23 ∨ 28 ≤ k := by simp [isRr] at hr; omega
      unfold rlen
      constructor <;> ((repeat' split) <;> omega)
    rw [← (hq.1 k hr).1]
    refine r_ald O dd hk hz hx (by omega) (by omega) ?_
    rw [(hq.1 k hr).2]
    exact v_close O hq kk
theorem v_aldv {l : Launch} {E : En} {cc : ByteArray} {own nm : String} {nL : Nat} {R : Room} {ret : Option FieldType} {Fn : Ft} {J : Jt} (O : Ok l E cc own nm nL R ret Fn J) {pc : Nat} {k j : Nat} {x v : Int32} {o : Nat} {d : Nat → Nat} {i : Nat → Int32} {a : Nat → Nat → Int32} {ch : Nat → List Rt} {ce sl : Nat} {lv : LV} {st : List Value} (dd : decode cc pc = .ok (.iaload, 1)) (hr : isRr k = false) (hk : isA k = true) (hz : isZ k = false) (hx : x = nI j) (hj : j < rlen 0 k) (hv : a k j = v) (kk : J (RV E o d i a ch) ce sl (pc + 1) lv (.int v :: st)) : J (RV E o d i a ch) ce sl pc lv (.int x :: .ref (d k) :: st) := v_ald O dd hr hk hz hx hj (by rw [hv]; exact kk)
theorem v_zld {l : Launch} {E : En} {cc : ByteArray} {own nm : String} {nL : Nat} {R : Room} {ret : Option FieldType} {Fn : Ft} {J : Jt} (O : Ok l E cc own nm nL R ret Fn J) {pc : Nat} {k j : Nat} {x : Int32} {o : Nat} {d : Nat → Nat} {i : Nat → Int32} {a : Nat → Nat → Int32} {ch : Nat → List Rt} {ce sl : Nat} {lv : LV} {st : List Value} (dd : decode cc pc = .ok (.baload, 1)) (hz : isZ k = true) (hx : x = nI j) (hj : j < 60) (kk : J (RV E o d i a ch) ce sl (pc + 1) lv (.int (a k j) :: st)) : J (RV E o d i a ch) ce sl pc lv (.int x :: .ref (d k) :: st) :=
  v_open O fun d' a' r hq => by
    have hr : isRr k = false := by
      have hk2 : k = 20 ∨ k = 21 := by simpa [isZ] using hz
      rcases hk2 with rfl | rfl <;> rfl
    rw [← (hq.1 k hr).1]
    refine r_zld O dd hz hx hj ?_
    rw [(hq.1 k hr).2]
    exact v_close O hq kk
theorem v_zldv {l : Launch} {E : En} {cc : ByteArray} {own nm : String} {nL : Nat} {R : Room} {ret : Option FieldType} {Fn : Ft} {J : Jt} (O : Ok l E cc own nm nL R ret Fn J) {pc : Nat} {k j : Nat} {x v : Int32} {o : Nat} {d : Nat → Nat} {i : Nat → Int32} {a : Nat → Nat → Int32} {ch : Nat → List Rt} {ce sl : Nat} {lv : LV} {st : List Value} (dd : decode cc pc = .ok (.baload, 1)) (hz : isZ k = true) (hx : x = nI j) (hj : j < 60) (hv : a k j = v) (kk : J (RV E o d i a ch) ce sl (pc + 1) lv (.int v :: st)) : J (RV E o d i a ch) ce sl pc lv (.int x :: .ref (d k) :: st) := v_zld O dd hz hx hj (by rw [hv]; exact kk)
theorem chainR_congr {a b : Nat → Nat → Int32} (h : a 24 = b 24 ∧ a 25 = b 25 ∧ a 26 = b 26 ∧ a 27 = b 27) (s : Nat) : ∀ k, chainR a s k = chainR b s k
  | 0 => rfl
  | k + 1 => by simp only [chainR, h.1, h.2.1, h.2.2.1, h.2.2.2, chainR_congr h s k]
theorem RC.st {d d' : Nat → Nat} {i : Nat → Int32} {b a : Nat → Nat → Int32} {ch : Nat → List Rt} {r k j : Nat} {v : Int32} (h : RC d d' i b a ch r) (hk : isRr k = false) : RC d d' i (up2 b k j v) (up2 a k j v) ch r := by
  have hk2 : 24 ≠ k ∧ 25 ≠ k ∧ 26 ≠ k ∧ 27 ≠ k := by simp [isRr] at hk; omega
  refine ⟨fun q hq => ⟨(h.1 q hq).1, ?_⟩, h.2.1, h.2.2.1, ?_, ?_⟩
  · by_cases e : q = k
    · subst e; rw [up2_eq, up2_eq, (h.1 q hq).2]
    · rw [up2_ne _ _ _ e, up2_ne _ _ _ e]; exact (h.1 q hq).2
  · rw [up2_ne _ _ _ hk2.1]; exact h.2.2.2.1
  · intro s hs
    rw [chainR_congr (b := a) ⟨up2_ne _ _ _ hk2.1, up2_ne _ _ _ hk2.2.1, up2_ne _ _ _ hk2.2.2.1, up2_ne _ _ _ hk2.2.2.2⟩]
    exact h.2.2.2.2 s hs
theorem v_ast {l : Launch} {E : En} {cc : ByteArray} {own nm : String} {nL : Nat} {R : Room} {ret : Option FieldType} {Fn : Ft} {J : Jt} (O : Ok l E cc own nm nL R ret Fn J) {pc : Nat} {k j : Nat} {x v : Int32} {o : Nat} {d : Nat → Nat} {i : Nat → Int32} {a : Nat → Nat → Int32} {ch : Nat → List Rt} {ce sl : Nat} {lv : LV} {st : List Value} (dd : decode cc pc = .ok (.iastore, 1)) (hr : isRr k = false) (hk : isA k = true) (hz : isZ k = false) (hx : x = nI j) (hj : j < rlen 0 k) (kk : J (RV E o d i (up2 a k j v) ch) ce sl (pc + 1) lv st) : J (RV E o d i a ch) ce sl pc lv (.int v :: .int x :: .ref (d k) :: st) :=
  v_open O fun d' a' r hq => by
    have h2 : rlen (cap r) k = rlen 0 k ∧ rlen 0 k ≤ 3720 := by
      have q1 : k ≠ 22 := by rintro rfl; cases hk
      have q2 : k ≠ 23 := by rintro rfl; cases hk
      have q3 : k ≤ 23 ∨ 28 ≤ k := by simp [isRr] at hr; omega
      unfold rlen
      constructor <;> ((repeat' split) <;> omega)
    rw [← (hq.1 k hr).1]
    refine r_ast O dd hk hz hx (by omega) (by omega) ?_
    exact v_close O (hq.st hr) kk
theorem v_zst {l : Launch} {E : En} {cc : ByteArray} {own nm : String} {nL : Nat} {R : Room} {ret : Option FieldType} {Fn : Ft} {J : Jt} (O : Ok l E cc own nm nL R ret Fn J) {pc : Nat} {k j : Nat} {x v : Int32} {o : Nat} {d : Nat → Nat} {i : Nat → Int32} {a : Nat → Nat → Int32} {ch : Nat → List Rt} {ce sl : Nat} {lv : LV} {st : List Value} (dd : decode cc pc = .ok (.bastore, 1)) (hz : isZ k = true) (hx : x = nI j) (hj : j < 60) (hv : vp_nar .boolean v = v) (kk : J (RV E o d i (up2 a k j v) ch) ce sl (pc + 1) lv st) : J (RV E o d i a ch) ce sl pc lv (.int v :: .int x :: .ref (d k) :: st) :=
  v_open O fun d' a' r hq => by
    have hr : isRr k = false := by
      have hk2 : k = 20 ∨ k = 21 := by simpa [isZ] using hz
      rcases hk2 with rfl | rfl <;> rfl
    rw [← (hq.1 k hr).1]
    refine r_zst O dd hz hx hj hv ?_
    exact v_close O (hq.st hr) kk
theorem v_recv {E : En} {o : Nat} {d : Nat → Nat} {i : Nat → Int32} {a : Nat → Nat → Int32} {ch : Nat → List Rt} : ∀ h, RV E o d i a ch h → ∃ fs, h o = some (.inr (8, fs)) := fun h H => by
  obtain ⟨q, -, H⟩ := H
  exact ⟨_, H.1⟩
