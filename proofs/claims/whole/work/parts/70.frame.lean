/-! ===== the frame rule: a contract beside cells that it does not know ===== -/
def hor (f g : HF) : HF := fun a => match f a with
  | some e => some e
  | none => g a
def Star (P R : HP) : HP := fun h => ∃ f g, P f ∧ R g ∧ (∀ a, f a = none ∨ g a = none) ∧ h = hor f g
theorem vaD_mem {A : Nat → Prop} {ws : va_W} (h : va_D A ws) {a : Nat} {e e' : va_E} (h1 : (a, e) ∈ ws) (h2 : (a, e') ∈ ws) : e = e' := by
  obtain ⟨i, hi⟩ := List.getElem?_of_mem h1
  obtain ⟨j, hj⟩ := List.getElem?_of_mem h2
  have := h.1 _ _ _ _ hi hj rfl
  subst this
  rw [hi] at hj
  cases hj
  rfl
theorem hf_iff {A : Nat → Prop} {ws : va_W} (h : va_D A ws) {a : Nat} {e : va_E} : hf ws a = some e ↔ (a, e) ∈ ws := by
  constructor
  · intro h1
    obtain ⟨k, hk⟩ := hf_mem h1
    exact List.mem_of_getElem? hk
  · intro h1
    obtain ⟨i, hi⟩ := List.getElem?_of_mem h1
    exact hf_of h hi
theorem vaD_iff {A : Nat → Prop} {ws : va_W} : va_D A ws ↔ ws.Pairwise (fun p q => p.1 ≠ q.1) ∧ ∀ q ∈ ws, A q.1 := by
  constructor
  · intro h
    refine ⟨List.pairwise_iff_getElem.mpr (fun i j hi hj hij he => ?_), fun q hq => ?_⟩
    · have := h.1 i j _ _ (List.getElem?_eq_getElem hi) (List.getElem?_eq_getElem hj) he
      omega
    · obtain ⟨i, hi⟩ := List.getElem?_of_mem hq
      exact h.2 i q hi
  · rintro ⟨h1, h2⟩
    refine ⟨fun i j p q hp hq he => ?_, fun k q hk => h2 q (List.mem_of_getElem? hk)⟩
    obtain ⟨hi, e1⟩ := List.getElem?_eq_some_iff.mp hp
    obtain ⟨hj, e2⟩ := List.getElem?_eq_some_iff.mp hq
    rw [List.pairwise_iff_getElem] at h1
    rcases Nat.lt_trichotomy i j with c | c | c
    · exact absurd (by rw [e1, e2]; exact he) (h1 i j hi hj c)
    · exact c
    · exact absurd (by rw [e1, e2]; exact he.symm) (h1 j i hj hi c)
theorem vaD_filter {A : Nat → Prop} {ws : va_W} (f : Nat × va_E → Bool) (h : va_D A ws) : va_D A (ws.filter f) := by
  rw [vaD_iff] at h ⊢
  exact ⟨h.1.filter f, fun q hq => h.2 q (List.mem_filter.mp hq).1⟩
theorem vaP_mem {D : va_G} {cl : List vw_C} {ws : va_W} {H : Heap} : va_P D cl ws H ↔ ∀ q ∈ ws, va_at D cl q H := by
  constructor
  · intro h q hq
    obtain ⟨i, hi⟩ := List.getElem?_of_mem hq
    exact h i q hi
  · intro h k q hk
    exact h q (List.mem_of_getElem? hk)
theorem vaA_iff {ws : va_W} {sz q : Nat} : va_A ws sz q ↔ (∃ e, (q, e) ∈ ws) ∨ sz ≤ q := by
  constructor
  · rintro (⟨k, e, h⟩ | h)
    · exact Or.inl ⟨e, List.mem_of_getElem? h⟩
    · exact Or.inr h
  · rintro (⟨e, h⟩ | h)
    · obtain ⟨i, hi⟩ := List.getElem?_of_mem h
      exact Or.inl ⟨i, e, hi⟩
    · exact Or.inr h
theorem hf_eq {A : Nat → Prop} {ws : va_W} {f : HF} (h : va_D A ws) (hq : ∀ a e, (a, e) ∈ ws ↔ f a = some e) : hf ws = f := by
  funext a
  cases hc : f a with
  | some e => exact (hf_iff h).mpr ((hq a e).mpr hc)
  | none =>
    cases hd : hf ws a with
    | none => rfl
    | some e =>
      have := (hq a e).mp ((hf_iff h).mp hd)
      rw [hc] at this
      cases this
theorem hor_some {f g : HF} {a : Nat} {e : va_E} (hd : f a = none ∨ g a = none) : hor f g a = some e ↔ f a = some e ∨ g a = some e := by
  unfold hor
  cases hc : f a with
  | none => simp
  | some x =>
    rw [hc] at hd
    rcases hd with hd | hd
    · cases hd
    · rw [hd]; simp
theorem Mt_frame {X : Type} {l : Launch} {E : En} {y : MethodName} {bytes : ByteArray} {maxL : Nat} {ret : Option FieldType} {rm : Room} {av : List Value} {P : HP} {val : X → Option Value} {P' : X → HP} (R : HP) (hM : Mt l E y bytes maxL ret rm av P val P') : Mt l E y bytes maxL ret rm av (Star P R) val (fun x => Star (P' x) R) := by
  intro ws sz hP p e h1 h2 h3 s m args below h4 h5 h6 h7
  obtain ⟨f, g, hf1, hg1, hap, hh⟩ := hP
  obtain ⟨e6, hsz, hP0, hK, hD0⟩ := h6
  have hmem : ∀ a e, (a, e) ∈ ws ↔ f a = some e ∨ g a = some e := fun a e => by
    rw [← hor_some (hap a), ← hh]
    exact (hf_iff hD0).symm
  have hD1 := vaD_filter (fun q => (f q.1).isSome) hD0
  have hD2 := vaD_filter (fun q => (f q.1).isNone) hD0
  have m1 : ∀ a e, (a, e) ∈ ws.filter (fun q => (f q.1).isSome) ↔ f a = some e := fun a e => by
    rw [List.mem_filter, hmem]
    constructor
    · rintro ⟨z | z, z2⟩
      · exact z
      · rcases hap a with z3 | z3
        · rw [z3] at z2; cases z2
        · rw [z3] at z; cases z
    · intro z
      exact ⟨Or.inl z, by simp [z]⟩
  have m2 : ∀ a e, (a, e) ∈ ws.filter (fun q => (f q.1).isNone) ↔ g a = some e := fun a e => by
    rw [List.mem_filter, hmem]
    constructor
    · rintro ⟨z | z, z2⟩
      · simp [z] at z2
      · exact z
    · intro z
      rcases hap a with z3 | z3
      · exact ⟨Or.inr z, by simp [z3]⟩
      · rw [z3] at z; cases z
  generalize hw1 : ws.filter (fun q => (f q.1).isSome) = w1 at hD1 m1
  generalize hw2 : ws.filter (fun q => (f q.1).isNone) = w2 at hD2 m2
  have sub1 : ∀ q ∈ w1, q ∈ ws := fun q hq => by rw [← hw1] at hq; exact (List.mem_filter.mp hq).1
  have sub2 : ∀ q ∈ w2, q ∈ ws := fun q hq => by rw [← hw2] at hq; exact (List.mem_filter.mp hq).1
  have ef : hf w1 = f := hf_eq hD1 m1
  have eg : hf w2 = g := hf_eq hD2 m2
  have hA1 : ∀ q, va_A w1 sz q → va_A ws sz q := fun q hq => by
    rw [vaA_iff] at hq ⊢
    rcases hq with ⟨e, z⟩ | z
    · exact Or.inl ⟨e, sub1 _ z⟩
    · exact Or.inr z
  have apart : ∀ q ∈ w2, q.1 < s.heap.size ∧ ¬ va_A w1 sz q.1 := fun q hq => by
    have hl := (vaP_mem.mp hP0 q (sub2 q hq)).lt
    refine ⟨hl, fun z => ?_⟩
    rw [vaA_iff] at z
    rcases z with ⟨e, z⟩ | z
    · have z1 := (m1 _ _).mp z
      have z2 := (m2 q.1 q.2).mp hq
      rcases hap q.1 with z3 | z3
      · rw [z3] at z1; cases z1
      · rw [z3] at z2; cases z2
    · omega
  obtain ⟨n, o, r1, r2, r3, ⟨⟨⟨x, ws', q1, q2, q3, q4⟩, q5⟩, L, q6, q7⟩⟩ := hM w1 sz (by rw [ef]; exact hf1) p e h1 h2 h3 s m args below h4 h5 ⟨e6, hsz, vaP_mem.mpr (fun q hq => vaP_mem.mp hP0 q (sub1 q hq)), hK, hD1⟩ h7
  have dj : ∀ a, hf ws' a = none ∨ hf w2 a = none := fun a => by
    cases hc : hf ws' a with
    | none => exact Or.inl rfl
    | some e1 =>
      cases hd : hf w2 a with
      | none => exact Or.inr rfl
      | some e2 =>
        exfalso
        have z := (vaD_iff.mp q4).2 (a, e1) ((hf_iff q4).mp hc)
        exact (apart (a, e2) ((hf_iff hD2).mp hd)).2 z
  have hDn : va_D (va_A ws sz) (ws' ++ w2) := by
    rw [vaD_iff]
    refine ⟨List.pairwise_append.mpr ⟨(vaD_iff.mp q4).1, (vaD_iff.mp hD2).1, fun a ha b hb he => ?_⟩, fun q hq => ?_⟩
    · have z := (vaD_iff.mp q4).2 _ ha
      rw [he] at z
      exact (apart b hb).2 z
    · rcases List.mem_append.mp hq with z | z
      · exact hA1 _ ((vaD_iff.mp q4).2 _ z)
      · exact vaA_iff.mpr (Or.inl ⟨q.2, sub2 q z⟩)
  refine ⟨n, o, r1, r2, r3, ⟨⟨⟨x, ws' ++ w2, q1, ⟨hf ws', hf w2, q2, by rw [eg]; exact hg1, dj, ?_⟩, ?_, hDn⟩, ⟨q5.1, fun q hq hn => q5.2 q hq (fun z => hn (hA1 q z))⟩⟩, L, q6, fun q hq => hA1 _ (q7 q hq)⟩⟩
  · refine hf_eq hDn (fun a e => ?_)
    rw [hor_some (dj a), List.mem_append, hf_iff q4, hf_iff hD2]
  · refine vaP_mem.mpr (fun q hq => ?_)
    rcases List.mem_append.mp hq with z | z
    · exact vaP_mem.mp q3 q z
    · exact (vaP_mem.mp hP0 q (sub2 q z)).kept (q5.2 _ (apart q z).1 (apart q z).2)
/-- the other way about -/
theorem Star_comm {P R : HP} {h : HF} (hs : Star P R h) : Star R P h := by
  obtain ⟨f, g, h1, h2, h3, h4⟩ := hs
  refine ⟨g, f, h2, h1, fun a => (h3 a).symm, ?_⟩
  rw [h4]
  funext a
  unfold hor
  rcases h3 a with z | z
  · rw [z]; cases hc : g a <;> rfl
  · rw [z]; cases hc : f a <;> rfl
theorem Mt_frameR {X : Type} {l : Launch} {E : En} {y : MethodName} {bytes : ByteArray} {maxL : Nat} {ret : Option FieldType} {rm : Room} {av : List Value} {P : HP} {val : X → Option Value} {P' : X → HP} (R : HP) (hM : Mt l E y bytes maxL ret rm av P val P') : Mt l E y bytes maxL ret rm av (Star R P) val (fun x => Star R (P' x)) :=
  Mt_mono (Mt_frame R hM) (fun _ h => Star_comm h) (fun x => ⟨x, rfl, fun _ h => Star_comm h⟩)
theorem Star_left {P P2 R : HP} {h : HF} (hs : Star P R h) (k : ∀ f, P f → P2 f) : Star P2 R h := by
  obtain ⟨f, g, h1, h2, h3, h4⟩ := hs
  exact ⟨f, g, k f h1, h2, h3, h4⟩
theorem Star_at {P R : HP} {h : HF} (hs : Star P R h) {a : Nat} {e : va_E} (k : ∀ f, P f → f a = some e) : h a = some e := by
  obtain ⟨f, g, h1, h2, h3, h4⟩ := hs
  rw [h4, hor_some (h3 a)]
  exact Or.inl (k f h1)
