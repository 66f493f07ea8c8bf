/-! ===== SIM 8: weeks ===== -/
def st1 (al : Prop) [Decidable al] (x : Int32) (t : Int32 × Int32 × Int32) : Int32 × Int32 × Int32 := if t.2.2 ≤ 0 then (t.1 + x, t.2.1, t.2.2) else (t.1, t.2.1 + x, if al then t.2.2 - 1 else t.2.2)
abbrev tri (a : Ar) (p : Nat) : Int32 × Int32 × Int32 := (a 15 p, a 18 p, a 19 p)
theorem hcnt_congr {a a' : Ar} (h29 : a' 29 = a 29) (h30 : a' 30 = a 30) (p u : Int32) : ∀ k, hcnt a' p u k = hcnt a p u k
  | 0 => rfl
  | k + 1 => by simp only [hcnt]; rw [hcnt_congr h29 h30 p u k, h29, h30]
theorem wstep_k (w0 : Int32) (A : Ar) (p : Nat) {q : Nat} (h1 : q ≠ 15) (h2 : q ≠ 18) (h3 : q ≠ 19) : wstep w0 A p q = A q := by
  unfold wstep
  try dsimp only
  (repeat' split) <;> simp only [up2_ne _ _ _ h1, up2_ne _ _ _ h2, up2_ne _ _ _ h3]
theorem wstep_o (w0 : Int32) (A : Ar) (p p' : Nat) (h : p' ≠ p) : tri (wstep w0 A p) p' = tri A p' := by
  have e : ∀ (B : Ar) (k q : Nat) (v : Int32), up2 B k p v q p' = B q p' := fun B k q v => by
    by_cases c : q = k
    · subst c; rw [up2_eq, upd_ne _ _ h]
    · rw [up2_ne _ _ _ c]
  unfold tri wstep
  try dsimp only
  (repeat' split) <;> simp only [e]
theorem wstep_s (w0 : Int32) (A : Ar) (p : Nat) : tri (wstep w0 A p) p = st1 (¬ A 20 p = 0) (w0 * hcnt A (nI p) 0 120) (tri A p) := by
  have e : ∀ (B : Ar) (k : Nat) (v : Int32), up2 B k p v k p = v := fun B k v => by rw [up2_eq, upd_eq]
  have e2 : ∀ (B : Ar) {k q : Nat} (v : Int32), q ≠ k → up2 B k p v q p = B q p := fun B k q v h => by rw [up2_ne _ _ _ h]
  unfold tri wstep st1
  try dsimp only
  by_cases c1 : A 19 p ≤ 0
  · by_cases c2 : A 20 p = 0
    · simp [up2, upd, c1, c2]
    · simp [up2, upd, c1, c2]
  · by_cases c2 : A 20 p = 0
    · simp [up2, upd, c1, c2]
    · simp [up2, upd, c1, c2]
theorem wrow_k (w0 : Int32) (A : Ar) {q : Nat} (h1 : q ≠ 15) (h2 : q ≠ 18) (h3 : q ≠ 19) : ∀ j, wrow w0 A j q = A q
  | 0 => rfl
  | j + 1 => by show wstep w0 (wrow w0 A j) j q = _; rw [wstep_k _ _ _ h1 h2 h3, wrow_k w0 A h1 h2 h3 j]
theorem wrow_at (w0 : Int32) (A : Ar) : ∀ j p, tri (wrow w0 A j) p = if p < j then st1 (¬ A 20 p = 0) (w0 * hcnt A (nI p) 0 120) (tri A p) else tri A p
  | 0, p => by rw [if_neg (Nat.not_lt_zero _)]; rfl
  | j + 1, p => by
    show tri (wstep w0 (wrow w0 A j) j) p = _
    by_cases c : p = j
    · subst c
      rw [wstep_s, wrow_at w0 A p p, if_neg (Nat.lt_irrefl _), if_pos (Nat.lt_succ_self _), wrow_k w0 A (by decide) (by decide) (by decide), hcnt_congr (wrow_k w0 A (by decide) (by decide) (by decide) p) (wrow_k w0 A (by decide) (by decide) (by decide) p)]
    · rw [wstep_o _ _ _ _ c, wrow_at w0 A j p]
      by_cases c2 : p < j
      · rw [if_pos c2, if_pos (by omega)]
      · rw [if_neg c2, if_neg (by omega)]
def its (al : Prop) [Decidable al] (x : Int32) (t : Int32 × Int32 × Int32) : Nat → Int32 × Int32 × Int32
  | 0 => t
  | k + 1 => st1 al x (its al x t k)
theorem wksA_k (w0 : Int32) (a : Ar) (m : Nat) {q : Nat} (h1 : q ≠ 15) (h2 : q ≠ 18) (h3 : q ≠ 19) : ∀ k, wksA w0 a m k q = a q
  | 0 => rfl
  | k + 1 => by show wrow w0 (wksA w0 a m k) m q = _; rw [wrow_k _ _ h1 h2 h3, wksA_k w0 a m h1 h2 h3 k]
theorem wksA_at (w0 : Int32) (a : Ar) (m : Nat) : ∀ k p, tri (wksA w0 a m k) p = if p < m then its (¬ a 20 p = 0) (w0 * hcnt a (nI p) 0 120) (tri a p) k else tri a p
  | 0, p => by split <;> rfl
  | k + 1, p => by
    show tri (wrow w0 (wksA w0 a m k) m) p = _
    rw [wrow_at, wksA_at w0 a m k p, wksA_k w0 a m (by decide) (by decide) (by decide) k, hcnt_congr (wksA_k w0 a m (by decide) (by decide) (by decide) k) (wksA_k w0 a m (by decide) (by decide) (by decide) k)]
    by_cases c : p < m
    · rw [if_pos c, if_pos c, if_pos c]; rfl
    · rw [if_neg c, if_neg c, if_neg c]
theorem nI_s_mul (z : Nat) (x : Int32) : nI (z + 1) * x = nI z * x + x := by
  rw [nI_succ, Int32.add_mul, Int32.one_mul]
theorem its_al {al : Prop} [Decidable al] (ha : al) (x d e : Int32) (s0 : Nat) (h60 : s0 ≤ 60) : ∀ k, its al x (d, e, nI s0) k = (d + nI (k - min k s0) * x, e + nI (min k s0) * x, nI (s0 - min k s0))
  | 0 => by
    show (d, e, nI s0) = _
    rw [Nat.zero_min, Nat.sub_zero, Nat.sub_zero, show nI 0 * x = 0 from by rw [nI_0, Int32.zero_mul], Int32.add_zero, Int32.add_zero]
  | k + 1 => by
    show st1 al x (its al x (d, e, nI s0) k) = _
    rw [its_al ha x d e s0 h60 k]
    unfold st1
    try dsimp only
    rcases Nat.lt_or_ge k s0 with h | h
    · rw [Nat.min_eq_left (Nat.le_of_lt h), Nat.min_eq_left (show k + 1 ≤ s0 from h), if_neg (by rw [show (0 : Int32) = nI 0 from rfl, nI_leI (by omega) (by decide)]; omega), if_pos ha, Nat.sub_self, Nat.sub_self, nI_s_mul, ← Int32.add_assoc]
      rw [show s0 - k = (s0 - (k + 1)) + 1 by omega, nI_pred]
    · rw [Nat.min_eq_right h, Nat.min_eq_right (show s0 ≤ k + 1 by omega), if_pos (by rw [Nat.sub_self]; decide), show k + 1 - s0 = (k - s0) + 1 by omega, nI_s_mul, ← Int32.add_assoc]
theorem its_0 {al : Prop} [Decidable al] (ha : ¬ al) (t : Int32 × Int32 × Int32) : ∀ k, its al 0 t k = t
  | 0 => rfl
  | k + 1 => by
    show st1 al 0 (its al 0 t k) = _
    rw [its_0 ha t k]
    unfold st1
    rw [if_neg ha, Int32.add_zero, Int32.add_zero]
    split <;> rfl
theorem swV_congr {V V' : VTt} {p : Nat} (h : V 1 p = V' 1 p) (n k : Int32) (f : Nat) : swV V p n k 1 p f = swV V' p n k 1 p f := by
  have e : ∀ {W W' : VTt} (g : Nat) (v : Int32), W 1 p = W' 1 p → up3 W 1 p g v 1 p = up3 W' 1 p g v 1 p := fun g v hw => by rw [up3_eq, up3_eq, hw]
  unfold swV
  try dsimp only
  rw [h]
  split
  · rw [e 7 _ (e 10 _ h)]
  · rw [e 11 _ (e 7 _ (e 10 _ h))]
theorem wkC_at (V : VTt) (ch : Nat → List Rt) (n : Int32) : ∀ j p, wkC V ch n j 1 p = if p < j then (fun f => swV V p n (hcC ch (nI p) 120 * V 0 0 2) 1 p f) else V 1 p
  | 0, p => by rw [if_neg (Nat.not_lt_zero _)]; rfl
  | j + 1, p => by
    show swV (wkC V ch n j) j n _ 1 p = _
    by_cases c : p = j
    · subst c
      rw [if_pos (Nat.lt_succ_self _)]
      funext f
      refine swV_congr ?_ _ _ _
      rw [wkC_at V ch n p p, if_neg (Nat.lt_irrefl _)]
    · have : swV (wkC V ch n j) j n (hcC ch (nI j) 120 * V 0 0 2) 1 p = wkC V ch n j 1 p := by
        funext f; exact swV_k _ _ _ _ _ _ _ (fun z => c z.2)
      rw [this, wkC_at V ch n j p]
      by_cases c2 : p < j
      · rw [if_pos c2, if_pos (by omega)]
      · rw [if_neg c2, if_neg (by omega)]
theorem wkC_2 (V : VTt) (ch : Nat → List Rt) (n : Int32) (t : Nat) (ht : t ≠ 1) : ∀ j, wkC V ch n j t = V t
  | 0 => rfl
  | j + 1 => by
    show swV (wkC V ch n j) j n _ t = _
    rw [← wkC_2 V ch n t ht j]
    funext q f
    exact swV_k _ _ _ _ _ _ _ (fun z => ht z.1)
theorem swV_f (V : VTt) (p : Nat) (n k : Int32) : swV V p n k 1 p 7 = V 1 p 7 + (n - (if V 1 p 11 < n then V 1 p 11 else n)) * k ∧ swV V p n k 1 p 10 = V 1 p 10 + (if V 1 p 11 < n then V 1 p 11 else n) * k ∧ swV V p n k 1 p 11 = (if V 1 p 4 = 0 then V 1 p 11 else V 1 p 11 - (if V 1 p 11 < n then V 1 p 11 else n)) ∧ ∀ f, f ≠ 7 → f ≠ 10 → f ≠ 11 → swV V p n k 1 p f = V 1 p f := by
  unfold swV
  try dsimp only
  generalize (if V 1 p 11 < n then V 1 p 11 else n) = s
  have e : ∀ (W : VTt) (g : Nat) (v : Int32), up3 W 1 p g v 1 p g = v := fun W g v => by rw [up3_eq, va_up_self]
  have e2 : ∀ (W : VTt) {g f : Nat} (v : Int32), f ≠ g → up3 W 1 p g v 1 p f = W 1 p f := fun W g f v h => by rw [up3_eq, va_up_ne _ _ h]
  by_cases c : V 1 p 4 = 0
  · rw [if_pos c, if_pos c]
    refine ⟨by rw [e], by rw [e2 _ _ (by decide), e], by rw [e2 _ _ (by decide), e2 _ _ (by decide)], fun f h1 h2 h3 => by rw [e2 _ _ h1, e2 _ _ h2]⟩
  · rw [if_neg c, if_neg c]
    refine ⟨by rw [e2 _ _ (by decide), e], by rw [e2 _ _ (by decide), e2 _ _ (by decide), e], by rw [e], fun f h1 h2 h3 => by rw [e2 _ _ h3, e2 _ _ h1, e2 _ _ h2]⟩
theorem wksI_8 (i : Nat → Int32) (D : Nat) (h : i 8 = nI D) : ∀ k, wksI i k 8 = nI (D + 7 * k)
  | 0 => h
  | k + 1 => by
    show upd (wksI i k) 8 (wksI i k 8 + 7) 8 = _
    rw [upd_eq, wksI_8 i D h k, show (7 : Int32) = nI 7 from rfl, nI_add, show D + 7 * k + 7 = D + 7 * (k + 1) by omega]
theorem dead_0 {D m r : Nat} {a : Ar} {ch cr : Nat → List Rt} (hl : RLd D m a ch) (h : LR (lsOf a cr r) ch) {p : Nat} (hp : p < m) (h60 : m ≤ 60) (hd : a 20 p = 0) : ∀ k, k ≤ 120 → hcnt a (nI p) 0 k = 0
  | 0, _ => rfl
  | k + 1, hk => by
    have z : a 29 k = (hdR ch k).1 := (h k (by omega)).2.1
    simp only [hcnt]
    rw [dead_0 hl h hp h60 hd k (by omega), if_neg (fun y => ?_)]
    · rfl
    · rcases (hl.1 k (by omega)).2.1 with q | ⟨p', q1, q2, q3⟩
      · rw [z, q] at y; exact nI_nm1 (by omega) y.1.symm
      · rw [z, q2, nI_eq (by omega) (by omega)] at y
        exact q3 (by rw [y.1]; exact hd)
