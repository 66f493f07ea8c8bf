/-! ===== PURE: families ===== -/
abbrev Ar : Type := Nat → Nat → Int32
abbrev chd (a : Ar) (c p : Nat) : Prop := a 10 c = nI p ∨ a 11 c = nI p
def alB (a : Ar) (p : Nat) : Bool := decide (¬ a 20 p = 0)
def lnB (a : Ar) (p : Nat) : Bool := decide (¬ a 21 p = 0)
/-- who lasts: is alive, or has somebody below who is (children have greater numbers) -/
def lastsF (a : Ar) (al : Nat → Bool) (m : Nat) : Nat → Nat → Bool
  | 0, _ => false
  | f + 1, p => al p || (List.range m).any (fun c => decide (p < c) && (lastsF a al m f c && decide (chd a c p)))
def lasts (a : Ar) (al : Nat → Bool) (m p : Nat) : Bool := lastsF a al m 60 p
theorem lastsF_iff (a : Ar) (al : Nat → Bool) (m f p : Nat) : lastsF a al m (f + 1) p = true ↔ (al p = true ∨ ∃ c, p < c ∧ c < m ∧ lastsF a al m f c = true ∧ chd a c p) := by
  simp only [lastsF, Bool.or_eq_true, List.any_eq_true, List.mem_range, Bool.and_eq_true, decide_eq_true_eq]
  constructor
  · rintro (h | ⟨c, h1, h2, h3, h4⟩)
    · exact Or.inl h
    · exact Or.inr ⟨c, h2, h1, h3, h4⟩
  · rintro (h | ⟨c, h1, h2, h3, h4⟩)
    · exact Or.inl h
    · exact Or.inr ⟨c, h2, h1, h3, h4⟩
theorem lastsF_more (a : Ar) (al : Nat → Bool) (m : Nat) : ∀ f p, p < m → m ≤ p + f → lastsF a al m (f + 1) p = lastsF a al m f p
  | 0, p, h0, h => absurd h (by omega)
  | f + 1, p, h0, h => by
    have key : lastsF a al m (f + 1 + 1) p = true ↔ lastsF a al m (f + 1) p = true := by
      rw [lastsF_iff, lastsF_iff]
      constructor
      · rintro (h1 | ⟨c, h1, h2, h3, h4⟩)
        · exact Or.inl h1
        · exact Or.inr ⟨c, h1, h2, by rw [← lastsF_more a al m f c h2 (by omega)]; exact h3, h4⟩
      · rintro (h1 | ⟨c, h1, h2, h3, h4⟩)
        · exact Or.inl h1
        · exact Or.inr ⟨c, h1, h2, by rw [lastsF_more a al m f c h2 (by omega)]; exact h3, h4⟩
    exact Bool.eq_iff_iff.mpr key
theorem lasts_iff (a : Ar) (al : Nat → Bool) {m p : Nat} (hm : m ≤ 60) (hp : p < m) : lasts a al m p = true ↔ (al p = true ∨ ∃ c, p < c ∧ c < m ∧ lasts a al m c = true ∧ chd a c p) := by
  unfold lasts
  rw [lastsF_iff]
  constructor
  · rintro (h | ⟨c, h1, h2, h3, h4⟩)
    · exact Or.inl h
    · exact Or.inr ⟨c, h1, h2, by rw [lastsF_more a al m 59 c h2 (by omega)]; exact h3, h4⟩
  · rintro (h | ⟨c, h1, h2, h3, h4⟩)
    · exact Or.inl h
    · exact Or.inr ⟨c, h1, h2, by rw [← lastsF_more a al m 59 c h2 (by omega)]; exact h3, h4⟩
/-- the children of one sex, among those that last, but for one -/
def kidP (a : Ar) (ln : Nat → Bool) (of : Nat) (but s : Int32) (c : Nat) : Prop := ¬ nI c = but ∧ a 9 c = s ∧ ln c = true ∧ chd a c of
def kidB (a : Ar) (ln : Nat → Bool) (of : Nat) (but s : Int32) (c : Nat) : Bool := decide (¬ nI c = but) && (decide (a 9 c = s) && (ln c && decide (chd a c of)))
theorem kidB_iff {a : Ar} {ln : Nat → Bool} {of : Nat} {but s : Int32} {c : Nat} : kidB a ln of but s c = true ↔ kidP a ln of but s c := by
  simp [kidB, kidP]
def kids (a : Ar) (ln : Nat → Bool) (of : Nat) (but s : Int32) (m : Nat) : List Nat := (List.range m).filter (kidB a ln of but s)
theorem kids_t {a : Ar} {ln : Nat → Bool} {of : Nat} {but s : Int32} {m : Nat} (h : kidP a ln of but s m) : kids a ln of but s (m + 1) = kids a ln of but s m ++ [m] := by
  simp [kids, List.range_succ, List.filter_append, kidB_iff.mpr h]
theorem kids_f {a : Ar} {ln : Nat → Bool} {of : Nat} {but s : Int32} {m : Nat} (h : ¬ kidP a ln of but s m) : kids a ln of but s (m + 1) = kids a ln of but s m := by
  have : kidB a ln of but s m = false := by
    cases h2 : kidB a ln of but s m with
    | false => rfl
    | true => exact absurd (kidB_iff.mp h2) h
  simp [kids, List.range_succ, List.filter_append, this]
theorem kids_mem {a : Ar} {ln : Nat → Bool} {of : Nat} {but s : Int32} {m c : Nat} : c ∈ kids a ln of but s m ↔ c < m ∧ kidP a ln of but s c := by
  simp [kids, kidB_iff]
theorem kids_len {a : Ar} {ln : Nat → Bool} {of : Nat} {but s : Int32} {m : Nat} : (kids a ln of but s m).length ≤ m := by
  have := List.length_filter_le (kidB a ln of but s) (List.range m)
  simpa [kids] using this
def hd1 (l : List Nat) : Int32 := match l with
  | [] => -1
  | c :: _ => nI c
def la1 (l : List Nat) : Int32 := match l.getLast? with
  | none => -1
  | some c => nI c
theorem hd1_app (l : List Nat) (c : Nat) : hd1 (l ++ [c]) = if l = [] then nI c else hd1 l := by cases l <;> simp [hd1]
theorem la1_app (l : List Nat) (c : Nat) : la1 (l ++ [c]) = nI c := by simp [la1]
/-- among whom a part is shared -/
def grp (a : Ar) (ln : Nat → Bool) (m : Nat) (ord : Int32) (of : Nat) (but : Int32) : List Nat :=
  let s := kids a ln of but 0 m
  if s = [] then kids a ln of but 1 m
  else if ord < 2 then [if ord = 0 then s.headD 0 else s.getLastD 0] else s
theorem grp_sub {a : Ar} {ln : Nat → Bool} {m : Nat} {ord : Int32} {of : Nat} {but : Int32} {c : Nat} (h : c ∈ grp a ln m ord of but) : c < m ∧ ln c = true ∧ chd a c of ∧ (a 9 c = 0 ∨ a 9 c = 1) ∧ ¬ nI c = but := by
  have key : ∀ s, (s = 0 ∨ s = 1) → c ∈ kids a ln of but s m → c < m ∧ ln c = true ∧ chd a c of ∧ (a 9 c = 0 ∨ a 9 c = 1) ∧ ¬ nI c = but := by
    intro s hs hc
    obtain ⟨h1, h2, h3, h4, h5⟩ := kids_mem.mp hc
    exact ⟨h1, h4, h5, by rw [h3]; exact hs, h2⟩
  unfold grp at h
  dsimp only at h
  split at h
  · exact key 1 (Or.inr rfl) h
  · rename_i hne
    split at h
    · simp only [List.mem_singleton] at h
      refine key 0 (Or.inl rfl) ?_
      obtain ⟨x, r, hx⟩ := List.exists_cons_of_ne_nil hne
      split at h
      · rw [hx] at h ⊢
        simp at h
        subst h
        exact List.mem_cons_self
      · rw [hx] at h ⊢
        subst h
        rw [List.getLastD_cons]
        cases r with
        | nil => simp
        | cons y t => exact List.mem_cons_of_mem _ (by simp [List.getLastD])
    · exact key 0 (Or.inl rfl) h
theorem grp_len {a : Ar} {ln : Nat → Bool} {m : Nat} {ord : Int32} {of : Nat} {but : Int32} (hm : m ≤ 60) : (grp a ln m ord of but).length ≤ 60 := by
  have h0 := kids_len (a := a) (ln := ln) (of := of) (but := but) (s := 0) (m := m)
  have h1 := kids_len (a := a) (ln := ln) (of := of) (but := but) (s := 1) (m := m)
  unfold grp
  dsimp only
  (repeat' split) <;> simp <;> omega
/-- the heirs, in order -/
def heirsF (a : Ar) (al ln : Nat → Bool) (m : Nat) (ord : Int32) : Nat → List Nat → List Nat
  | 0, _ => []
  | f + 1, g => g.flatMap (fun q => if al q = true then [q] else heirsF a al ln m ord f (grp a ln m ord q (-1)))
/-- the takers of n strips, in order -/
def partK (n len k : Nat) : Nat := n / len + (if k < n % len then 1 else 0)
def shareF (a : Ar) (al ln : Nat → Bool) (m : Nat) (ord : Int32) : Nat → List Nat → Nat → List Nat
  | 0, _, _ => []
  | f + 1, g, n => (List.range g.length).flatMap (fun k => if partK n g.length k = 0 then [] else if al (g.getD k 0) = true then List.replicate (partK n g.length k) (g.getD k 0) else shareF a al ln m ord f (grp a ln m ord (g.getD k 0) (-1)) (partK n g.length k))
/-- the first line: one's own, else the father's (but for oneself) -/
def fstG (a : Ar) (ln : Nat → Bool) (m : Nat) (ord : Int32) (p : Nat) : List Nat :=
  let g := grp a ln m ord p (-1)
  if g = [] then (if a 10 p = -1 then [] else grp a ln m ord (a 10 p).toNatClampNeg (nI p)) else g
