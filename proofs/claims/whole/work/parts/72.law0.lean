/-! ===== THE LAW 0: the judgement of the law's own body ===== -/
def FnL : Ft := fun v _ ce sl => v = some (.int 1) ∧ ce ≤ 600000 ∧ sl ≤ 7302250
def Okl (l : Launch) (E : En) (b L : Nat) (xs : Nat → Int32) (J : Jt) : Prop :=
  Ok l E cL_law RL "law" 4 room_1 (some .boolean) FnL J ∧
  (∀ (pc : Nat) (i : Int32) (P : HP) (ce sl : Nat) (lv : LV) (st : List Value), vp_in i L → decode cL_law pc = .ok (.iaload, 1) → J P ce sl (pc + 1) lv (.int (xs i.toNatClampNeg) :: st) → J P ce sl pc lv (.int i :: .ref b :: st)) ∧
  ∀ (pc : Nat) (P : HP) (ce sl : Nat) (lv : LV) (st : List Value), decode cL_law pc = .ok (.arraylength, 1) → J P ce sl (pc + 1) lv (.int (Int32.ofNat L) :: st) → J P ce sl pc lv (.ref b :: st)
def lvL (b q o j : Nat) : LV := [some (.ref b), some (.ref q), some (.ref o), some (.int (nI (6 * j)))]
theorem nI_addk (a k : Nat) : nI a + Int32.ofInt (k : Int) = nI (a + k) := by
  unfold nI
  rw [Int32.ofNat_add, ← Int32.ofInt_eq_ofNat, ← Int32.ofInt_eq_ofNat]
theorem L_arg {l : Launch} {E : En} {b L : Nat} {xs : Nat → Int32} {J : Jt} (O : Okl l E b L xs J) {q o j : Nat} (hj : 6 * j + 5 < L) (hL : L ≤ 3072) {pc k : Nat} {P : HP} {ce sl : Nat} {st : List Value} (hk : k ≤ 5) (d0 : decode cL_law pc = .ok (.aload_n 0, 1)) (d1 : decode cL_law (pc + 1) = .ok (.iload_n 3, 1)) (d2 : decode cL_law (pc + 2) = .ok (.iconst (k : Int), 1)) (d3 : decode cL_law (pc + 3) = .ok (.iadd, 1)) (d4 : decode cL_law (pc + 4) = .ok (.iaload, 1)) (kk : J P ce sl (pc + 5) (lvL b q o j) (.int (xs (6 * j + k)) :: st)) : J P ce sl pc (lvL b q o j) st := by
  refine x_aload_n (v := .ref b) O.1 d0 rfl rfl ?_
  refine x_iload_n (x := nI (6 * j)) O.1 d1 rfl ?_
  refine x_iconst (v := Int32.ofInt (k : Int)) O.1 d2 rfl ?_
  refine x_iadd O.1 d3 ?_
  rw [nI_addk]
  refine O.2.1 (pc + 4) _ _ _ _ _ _ (nI_in (N := L) (by omega) (by omega)) d4 ?_
  rw [nI_clamp (by omega)]
  exact kk
theorem L_arg0 {l : Launch} {E : En} {b L : Nat} {xs : Nat → Int32} {J : Jt} (O : Okl l E b L xs J) {q o j : Nat} (hj : 6 * j + 5 < L) (hL : L ≤ 3072) {pc : Nat} {P : HP} {ce sl : Nat} {st : List Value} (d0 : decode cL_law pc = .ok (.aload_n 0, 1)) (d1 : decode cL_law (pc + 1) = .ok (.iload_n 3, 1)) (d4 : decode cL_law (pc + 2) = .ok (.iaload, 1)) (kk : J P ce sl (pc + 3) (lvL b q o j) (.int (xs (6 * j)) :: st)) : J P ce sl pc (lvL b q o j) st := by
  refine x_aload_n (v := .ref b) O.1 d0 rfl rfl ?_
  refine x_iload_n (x := nI (6 * j)) O.1 d1 rfl ?_
  refine O.2.1 (pc + 2) _ _ _ _ _ _ (nI_in (N := L) (by omega) (by omega)) d4 ?_
  rw [nI_clamp (by omega)]
  exact kk
/-- what the loop hands on -/
def cB (r j : Nat) : Nat := 60 + r + 2 * j + ccost 120 (r - 120)
def sB (r j : Nat) : Nat := 7000 + 4 * r + 14 * j + scost 120 (r - 120)
def LK (E : En) (b q o j : Nat) (pc : Nat) (J : Jt) : Prop := ∀ (adr : Nat → Nat → Nat) (V : VTt) (VL : VLt) (m ns : Nat) (ch : Nat → List Rt) (d : Nat → Nat) (i : Nat → Int32) (a : Ar) (cr : Nat → List Rt) (D r ce sl : Nat), adr 0 7 = q → Rel D r m ns V VL ch i a cr → 120 ≤ r → r ≤ 120 * (j + 2) → ce ≤ cB r (j + 1) → sl ≤ sB r (j + 1) → J (Star (CV E adr V VL m ns ch) (RV E o d i a cr)) ce sl pc (lvL b q o j) []
theorem LS_recv {E : En} {adr : Nat → Nat → Nat} {V : VTt} {VL : VLt} {m ns : Nat} {ch : Nat → List Rt} {R : HP} : ∀ h, Star (CV E adr V VL m ns ch) R h → ∃ fs, h (adr 0 7) = some (.inr (7, fs)) := fun h hs => by
  obtain ⟨f, g, h1, h2, h3, h4⟩ := hs
  obtain ⟨fs, hfs⟩ := cv_recv (t := 0) (n := 7) (ci := 7) rfl rfl f h1
  exact ⟨fs, by rw [h4, hor_some (h3 _)]; exact Or.inl hfs⟩
theorem LS_recvR {E : En} {o : Nat} {d : Nat → Nat} {i : Nat → Int32} {a : Nat → Nat → Int32} {ch : Nat → List Rt} {R : HP} : ∀ h, Star R (RV E o d i a ch) h → ∃ fs, h o = some (.inr (8, fs)) := fun h hs => by
  obtain ⟨f, g, h1, h2, h3, h4⟩ := hs
  obtain ⟨fs, hfs⟩ := v_recv g h2
  exact ⟨fs, by rw [h4, hor_some (h3 _)]; exact Or.inr hfs⟩
