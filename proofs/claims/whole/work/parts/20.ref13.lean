/-! ===== REF 13: shares ===== -/
def sumP (n len k : Nat) : Nat := k * (n / len) + min k (n % len)
theorem sumP_0 (n len : Nat) : sumP n len 0 = 0 := by simp [sumP]
theorem sumP_s (n len k : Nat) : sumP n len (k + 1) = sumP n len k + partK n len k := by
  unfold sumP partK
  rw [Nat.succ_mul]
  split <;> simp only [Nat.min_def] <;> (repeat' split) <;> omega
theorem sumP_all {n len : Nat} (h : 0 < len) : sumP n len len = n := by
  have h1 := Nat.div_add_mod n len
  have h2 := Nat.mod_lt n h
  unfold sumP
  rw [Nat.min_eq_right (by omega)]
  exact h1
theorem sumP_mono (n len k : Nat) : ∀ t, sumP n len k ≤ sumP n len (k + t)
  | 0 => Nat.le_refl _
  | t + 1 => by
    have := sumP_mono n len k t
    rw [← Nat.add_assoc, sumP_s]
    omega
theorem sumP_le {n len k : Nat} (h : 0 < len) (hk : k ≤ len) : sumP n len k ≤ n := by
  have := sumP_mono n len k (len - k)
  rw [show k + (len - k) = len by omega, sumP_all h] at this
  exact this
def shB (a : Ar) (al ln : Nat → Bool) (m : Nat) (ord : Int32) (f : Nat) (g : List Nat) (n k : Nat) : List Nat := if partK n g.length k = 0 then [] else if al (g.getD k 0) = true then List.replicate (partK n g.length k) (g.getD k 0) else shareF a al ln m ord f (grp a ln m ord (g.getD k 0) (-1)) (partK n g.length k)
def shK (a : Ar) (al ln : Nat → Bool) (m : Nat) (ord : Int32) (f : Nat) (g : List Nat) (n k : Nat) : List Nat := (List.range k).flatMap (shB a al ln m ord f g n)
theorem shK_s (a : Ar) (al ln : Nat → Bool) (m : Nat) (ord : Int32) (f : Nat) (g : List Nat) (n k : Nat) : shK a al ln m ord f g n (k + 1) = shK a al ln m ord f g n k ++ shB a al ln m ord f g n k := by
  unfold shK
  rw [List.range_succ, List.flatMap_append]
  simp
theorem shareF_shK (a : Ar) (al ln : Nat → Bool) (m : Nat) (ord : Int32) (f : Nat) (g : List Nat) (n : Nat) : shareF a al ln m ord (f + 1) g n = shK a al ln m ord f g n g.length := rfl
theorem getD_mem {l : List Nat} {k : Nat} (h : k < l.length) : l.getD k 0 ∈ l := by
  rw [List.getD_eq_getElem?_getD, List.getElem?_eq_getElem h]; exact List.getElem_mem _
abbrev lnOk (a : Ar) (al ln : Nat → Bool) (m : Nat) (ord : Int32) : Prop := ∀ q, q < m → ln q = true → al q = true ∨ ¬ grp a ln m ord q (-1) = []
abbrev kinOk (a : Ar) (m : Nat) : Prop := ∀ c p, c < m → p < m → chd a c p → p < c
theorem shB_len {a : Ar} {al ln : Nat → Bool} {m : Nat} {ord : Int32} {f : Nat} (IH : ∀ (g : List Nat) (n : Nat), ¬ g = [] → (∀ q ∈ g, q < m ∧ 60 ≤ q + f ∧ ln q = true) → (shareF a al ln m ord f g n).length = n) (hl : lnOk a al ln m ord) (hk : kinOk a m) {g : List Nat} {n k : Nat} (hg : ∀ q ∈ g, q < m ∧ 60 ≤ q + (f + 1) ∧ ln q = true) (hkl : k < g.length) : (shB a al ln m ord f g n k).length = partK n g.length k := by
  unfold shB
  split
  · rename_i h; rw [h]; rfl
  · split
    · simp
    · rename_i h
      obtain ⟨q1, q2, q3⟩ := hg _ (getD_mem hkl)
      refine IH _ _ ((hl _ q1 q3).resolve_left h) (fun c hc => ?_)
      obtain ⟨c1, c2, c3, -⟩ := grp_sub hc
      have := hk _ _ c1 q1 c3
      exact ⟨c1, by omega, c2⟩
theorem shK_len {a : Ar} {al ln : Nat → Bool} {m : Nat} {ord : Int32} {f : Nat} (IH : ∀ (g : List Nat) (n : Nat), ¬ g = [] → (∀ q ∈ g, q < m ∧ 60 ≤ q + f ∧ ln q = true) → (shareF a al ln m ord f g n).length = n) (hl : lnOk a al ln m ord) (hk : kinOk a m) {g : List Nat} {n : Nat} (hg : ∀ q ∈ g, q < m ∧ 60 ≤ q + (f + 1) ∧ ln q = true) : ∀ k, k ≤ g.length → (shK a al ln m ord f g n k).length = sumP n g.length k
  | 0, _ => by simp [shK, sumP]
  | k + 1, h => by
    rw [shK_s, List.length_append, shK_len IH hl hk hg k (by omega), shB_len IH hl hk hg (by omega), sumP_s]
theorem shareF_len {a : Ar} {al ln : Nat → Bool} {m : Nat} {ord : Int32} (hm : m ≤ 60) (hl : lnOk a al ln m ord) (hk : kinOk a m) : ∀ (f : Nat) (g : List Nat) (n : Nat), ¬ g = [] → (∀ q ∈ g, q < m ∧ 60 ≤ q + f ∧ ln q = true) → (shareF a al ln m ord f g n).length = n
  | 0, g, n, h0, hg => by
    obtain ⟨x, r, hx⟩ := List.exists_cons_of_ne_nil h0
    have := hg x (by rw [hx]; exact List.mem_cons_self)
    omega
  | f + 1, g, n, h0, hg => by
    rw [shareF_shK, shK_len (shareF_len hm hl hk f) hl hk hg g.length (Nat.le_refl _)]
    exact sumP_all (List.length_pos_iff.mpr h0)
/-- strips and takers, one by one -/
def ents : List Nat → List Nat → List (Nat × Int32 × Int32)
  | _, [] => []
  | hs, t :: T => (hs.headD 0, nI t, 2) :: ents hs.tail T
theorem ents_len : ∀ (hs T : List Nat), (ents hs T).length = T.length
  | _, [] => rfl
  | hs, t :: T => by simp [ents, ents_len hs.tail T]
theorem ents_app : ∀ (hs T1 T2 : List Nat), ents hs (T1 ++ T2) = ents hs T1 ++ ents (hs.drop T1.length) T2
  | hs, [], T2 => by simp [ents]
  | hs, t :: T1, T2 => by
    simp only [List.cons_append, ents, List.length_cons]
    rw [ents_app hs.tail T1 T2]
    cases hs <;> simp
theorem ents_take : ∀ (hs T : List Nat) (p : Nat), T.length ≤ p → ents (hs.take p) T = ents hs T
  | hs, [], p, _ => rfl
  | hs, t :: T, p, h => by
    obtain ⟨p, rfl⟩ : ∃ q, p = q + 1 := ⟨p - 1, by simp at h; omega⟩
    simp only [ents]
    cases hs with
    | nil => simp
    | cons x r =>
      simp only [List.take_succ_cons, List.headD_cons, List.tail_cons]
      rw [ents_take r T p (by simp at h; omega)]
theorem ents_one (hs : List Nat) (t : Nat) : ents hs [t] = [(hs.headD 0, nI t, 2)] := rfl
theorem drop_head (hs : List Nat) (k : Nat) : (hs.drop k).headD 0 = hs.getD k 0 := by
  rw [List.headD_eq_head?_getD, List.head?_drop, List.getD_eq_getElem?_getD]
def SIq (i : Nat → Int32) (a : Ar) (u : Nat) (q : Ls) (x : (Nat → Int32) × Ar × (Nat → List Rt)) : Prop := (∀ k, k ≠ 28 → x.1 k = i k) ∧ (∀ k, k ≠ 29 → k ≠ 30 → k ≠ 39 → x.2.1 k = a k) ∧ (∀ j, j < u → x.2.1 39 j = a 39 j) ∧ x.2.1 29 = q.1 ∧ x.2.1 30 = q.2.1 ∧ x.2.2 = q.2.2.1 ∧ x.1 28 = nI q.2.2.2
theorem SIq.come {i : Nat → Int32} {a : Ar} {u : Nat} {q : Ls} {x : (Nat → Int32) × Ar × (Nat → List Rt)} (h : SIq i a u q x) (s : Nat) (who how : Int32) : SIq i a u (cm1 (i 8) q (s, who, how)) (upd x.1 28 (x.1 28 + 1), up2 (up2 x.2.1 29 s who) 30 s (-1), va_up x.2.2 s ((who, how, x.1 8) :: x.2.2 s)) := by
  obtain ⟨h1, h2, h7, h3, h4, h5, h6⟩ := h
  refine ⟨fun k hk => by show upd x.1 28 (x.1 28 + 1) k = _; rw [upd_ne _ _ hk]; exact h1 k hk, fun k k1 k2 k3 => by show up2 (up2 x.2.1 29 s who) 30 s (-1) k = _; rw [up2_ne _ _ _ k2, up2_ne _ _ _ k1]; exact h2 k k1 k2 k3, fun j hj => by show up2 (up2 x.2.1 29 s who) 30 s (-1) 39 j = _; rw [up2_ne _ _ _ (by decide), up2_ne _ _ _ (by decide)]; exact h7 j hj, ?_, ?_, ?_, ?_⟩
  · show up2 (up2 x.2.1 29 s who) 30 s (-1) 29 = upd q.1 s who
    rw [up2_ne _ _ _ (by decide), up2_eq, h3]
  · show up2 (up2 x.2.1 29 s who) 30 s (-1) 30 = upd q.2.1 s (-1)
    rw [up2_eq, up2_ne _ _ _ (by decide), h4]
  · show va_up x.2.2 s _ = va_up q.2.2.1 s _
    rw [h5, h1 8 (by decide)]
  · show upd x.1 28 (x.1 28 + 1) 28 = nI (q.2.2.2 + 1)
    rw [upd_eq, h6, ← nI_succ]
