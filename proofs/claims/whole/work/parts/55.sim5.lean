/-! ===== SIM 5: the plain calls ===== -/
theorem b2i_congr {p q : Prop} [Decidable p] [Decidable q] (h : p ↔ q) : b2i p = b2i q := by
  unfold b2i
  by_cases c : p
  · rw [if_pos c, if_pos (h.mp c)]
  · rw [if_neg c, if_neg (fun z => c (h.mpr z))]
theorem Rel.ri {D r m ns D' r' : Nat} {V V' : VTt} {VL : VLt} {ch : Nat → List Rt} {i i' : Nat → Int32} {a : Ar} {cr : Nat → List Rt} (h : Rel D r m ns V VL ch i a cr) (hR : RI D' r' m ns V' i') (hr : r' = r) (hD : D' = D) (hV1 : ∀ p f, V' 1 p f = V 1 p f) (hV2 : ∀ s, V' 2 s = V 2 s) : Rel D' r' m ns V' VL ch i' a cr := by
  subst hr; subst hD
  obtain ⟨h1, h2, h3, h4, h5, h6, h7⟩ := h
  exact ⟨hR, h2.fr (fun p f _ => hV1 p f) (fun _ _ _ => rfl), h3.fr (fun s _ => hV2 s) (fun _ _ _ => rfl), h4, h5, h6, h7⟩
theorem s_sick {D r m ns : Nat} {V : VTt} {VL : VLt} {ch : Nat → List Rt} {i : Nat → Int32} {a : Ar} {cr : Nat → List Rt} (h : Rel D r m ns V VL ch i a cr) (p x : Int32) : b2i (lvC V m p ∧ 0 ≤ x ∧ x ≤ 60) = b2i (lvP i a p ∧ 0 ≤ x ∧ x ≤ 60) ∧ Rel D r m ns (if lvC V m p ∧ 0 ≤ x ∧ x ≤ 60 then up3 V 1 p.toNatClampNeg 11 x else V) VL ch i (if lvP i a p ∧ 0 ≤ x ∧ x ≤ 60 then up2 a 19 p.toNatClampNeg x else a) cr := by
  have hm := h.1.2.1.2
  have h60 := h.1.1.1
  have e : (lvC V m p ∧ 0 ≤ x ∧ x ≤ 60) ↔ (lvP i a p ∧ 0 ≤ x ∧ x ≤ 60) := and_congr (lv_iff h.2.1 hm h60 p) Iff.rfl
  refine ⟨b2i_congr e, ?_⟩
  by_cases c : lvC V m p ∧ 0 ≤ x ∧ x ≤ 60
  · rw [if_pos c, if_pos (e.mp c)]
    exact h.person (f := 11) (in_nat rfl (by omega) c.1.1).2 (by decide) (by decide) x (fun _ => ⟨x.toNatClampNeg, Nat.lt_succ_iff.mp (in_nat (m := 61) (x := nI 61) rfl (by decide) ⟨c.2.1, c.2.2⟩).2, (in_nat (m := 61) (x := nI 61) rfl (by decide) ⟨c.2.1, c.2.2⟩).1⟩)
  · rw [if_neg c, if_neg (fun z => c (e.mpr z))]; exact h
theorem s_works {D r m ns : Nat} {V : VTt} {VL : VLt} {ch : Nat → List Rt} {i : Nat → Int32} {a : Ar} {cr : Nat → List Rt} (h : Rel D r m ns V VL ch i a cr) (p x s : Int32) : (if isPc m p ∧ 1 ≤ x ∧ x ≤ V 1 p.toNatClampNeg 7 then V 1 p.toNatClampNeg 7 - x else -1) = (if isP i p ∧ 1 ≤ x ∧ x ≤ a 15 p.toNatClampNeg then a 15 p.toNatClampNeg - x else -1) ∧ Rel D r m ns (if isPc m p ∧ 1 ≤ x ∧ x ≤ V 1 p.toNatClampNeg 7 then (if s = 0 then up3 (up3 V 1 p.toNatClampNeg 7 (V 1 p.toNatClampNeg 7 - x)) 1 p.toNatClampNeg 8 (V 1 p.toNatClampNeg 8 + x) else up3 (up3 (up3 V 1 p.toNatClampNeg 7 (V 1 p.toNatClampNeg 7 - x)) 1 p.toNatClampNeg 9 (V 1 p.toNatClampNeg 9 + x)) 1 p.toNatClampNeg 6 (V 1 p.toNatClampNeg 6 + x)) else V) VL ch i (if isP i p ∧ 1 ≤ x ∧ x ≤ a 15 p.toNatClampNeg then (if s = 0 then up2 (up2 a 15 p.toNatClampNeg (a 15 p.toNatClampNeg - x)) 16 p.toNatClampNeg (a 16 p.toNatClampNeg + x) else up2 (up2 (up2 a 15 p.toNatClampNeg (a 15 p.toNatClampNeg - x)) 17 p.toNatClampNeg (a 17 p.toNatClampNeg + x)) 14 p.toNatClampNeg (a 14 p.toNatClampNeg + x)) else a) cr := by
  have hm := h.1.2.1.2
  have h60 := h.1.1.1
  by_cases hp : isPc m p
  · have hj := (in_nat rfl (by omega) hp).2
    have hp2 : isP i p := by unfold isP; rw [hm]; exact hp
    have e7 := h.2.1.1 _ hj 7 (by decide)
    have e8 := h.2.1.1 _ hj 8 (by decide)
    have e9 := h.2.1.1 _ hj 9 (by decide)
    have e6 := h.2.1.1 _ hj 6 (by decide)
    rw [show a 15 = a (pF 7) from rfl, show a 16 = a (pF 8) from rfl, show a 17 = a (pF 9) from rfl, show a 14 = a (pF 6) from rfl, e7, e8, e9, e6]
    by_cases c : 1 ≤ x ∧ x ≤ V 1 p.toNatClampNeg 7
    · have c1 : isPc m p ∧ 1 ≤ x ∧ x ≤ V 1 p.toNatClampNeg 7 := ⟨hp, c⟩
      have c2 : isP i p ∧ 1 ≤ x ∧ x ≤ V 1 p.toNatClampNeg 7 := ⟨hp2, c⟩
      rw [if_pos c1, if_pos c2, if_pos c1, if_pos c2]
      refine ⟨rfl, ?_⟩
      by_cases cs : s = 0
      · rw [if_pos cs, if_pos cs]
        exact (h.person (f := 7) hj (by decide) (by decide) _ (fun z => absurd z (by decide))).person (f := 8) hj (by decide) (by decide) _ (fun z => absurd z (by decide))
      · rw [if_neg cs, if_neg cs]
        exact ((h.person (f := 7) hj (by decide) (by decide) _ (fun z => absurd z (by decide))).person (f := 9) hj (by decide) (by decide) _ (fun z => absurd z (by decide))).person (f := 6) hj (by decide) (by decide) _ (fun z => absurd z (by decide))
    · rw [if_neg (fun z => c z.2), if_neg (fun z => c z.2), if_neg (fun z => c z.2), if_neg (fun z => c z.2)]
      exact ⟨rfl, h⟩
  · have hp2 : ¬ isP i p := by unfold isP; rw [hm]; exact hp
    rw [if_neg (fun z => hp z.1), if_neg (fun z => hp2 z.1), if_neg (fun z => hp z.1), if_neg (fun z => hp2 z.1)]
    exact ⟨rfl, h⟩
theorem s_pay {D r m ns : Nat} {V : VTt} {VL : VLt} {ch : Nat → List Rt} {i : Nat → Int32} {a : Ar} {cr : Nat → List Rt} (h : Rel D r m ns V VL ch i a cr) (p x : Int32) : (if isPc m p ∧ 1 ≤ x ∧ x ≤ V 1 p.toNatClampNeg 6 then V 1 p.toNatClampNeg 6 - x else -1) = (if isP i p ∧ 1 ≤ x ∧ x ≤ a 14 p.toNatClampNeg then a 14 p.toNatClampNeg - x else -1) ∧ Rel D r m ns (if isPc m p ∧ 1 ≤ x ∧ x ≤ V 1 p.toNatClampNeg 6 then up3 (up3 V 1 p.toNatClampNeg 6 (V 1 p.toNatClampNeg 6 - x)) 0 7 8 (V 0 7 8 + x) else V) VL ch (if isP i p ∧ 1 ≤ x ∧ x ≤ a 14 p.toNatClampNeg then upd i 23 (i 23 + x) else i) (if isP i p ∧ 1 ≤ x ∧ x ≤ a 14 p.toNatClampNeg then up2 a 14 p.toNatClampNeg (a 14 p.toNatClampNeg - x) else a) cr := by
  have hm := h.1.2.1.2
  have h60 := h.1.1.1
  by_cases hp : isPc m p
  · have hj := (in_nat rfl (by omega) hp).2
    have hp2 : isP i p := by unfold isP; rw [hm]; exact hp
    have e6 := h.2.1.1 _ hj 6 (by decide)
    rw [show a 14 = a (pF 6) from rfl, e6]
    by_cases c : 1 ≤ x ∧ x ≤ V 1 p.toNatClampNeg 6
    · rw [if_pos ⟨hp, c⟩, if_pos ⟨hp2, c⟩, if_pos ⟨hp, c⟩, if_pos ⟨hp2, c⟩, if_pos ⟨hp2, c⟩]
      refine ⟨rfl, ?_⟩
      have h' := h.person (f := 6) hj (by decide) (by decide) (V 1 p.toNatClampNeg 6 - x) (fun z => absurd z (by decide))
      refine h'.ri ?_ rfl rfl (fun q f => by rw [up3_ne _ _ _ (fun z => absurd z.1 (by decide))]) (fun s => up3_ne _ _ _ (fun z => absurd z.1 (by decide)))
      have h1 := h'.1
      obtain ⟨q1, q2, q3, q4, q5, q6, q7, q8, q9⟩ := h1
      have n7 : ∀ f, f ≠ 8 → up3 (up3 V 1 p.toNatClampNeg 6 (V 1 p.toNatClampNeg 6 - x)) 0 7 8 (V 0 7 8 + x) 0 7 f = up3 V 1 p.toNatClampNeg 6 (V 1 p.toNatClampNeg 6 - x) 0 7 f := fun f hf => by rw [up3_eq, va_up_ne _ _ hf]
      have n0 : ∀ n, n ≠ 7 → up3 (up3 V 1 p.toNatClampNeg 6 (V 1 p.toNatClampNeg 6 - x)) 0 7 8 (V 0 7 8 + x) 0 n = up3 V 1 p.toNatClampNeg 6 (V 1 p.toNatClampNeg 6 - x) 0 n := fun n hn => up3_ne _ _ _ (fun z => hn z.2)
      have ni : ∀ k, k ≠ 23 → upd i 23 (i 23 + x) k = i k := fun k hk => upd_ne _ _ hk
      unfold RI
      rw [n0 3 (by decide), n0 2 (by decide), n0 0 (by decide), n7 7 (by decide), n7 0 (by decide), n7 2 (by decide), ni 22 (by decide), ni 38 (by decide), ni 8 (by decide), ni 28 (by decide), ni 7 (by decide), ni 0 (by decide), ni 1 (by decide), ni 5 (by decide), ni 6 (by decide), ni 2 (by decide), ni 3 (by decide), ni 4 (by decide)]
      refine ⟨q1, q2, q3, q4, q5, ⟨q6.1, ?_⟩, q7, q8, q9⟩
      rw [up3_eq, va_up_self, upd_eq]
      have := q6.2
      rw [up3_ne _ _ _ (fun z => absurd z.1 (by decide))] at this
      rw [this]
    · rw [if_neg (fun z => c z.2), if_neg (fun z => c z.2), if_neg (fun z => c z.2), if_neg (fun z => c z.2), if_neg (fun z => c z.2)]
      exact ⟨rfl, h⟩
  · have hp2 : ¬ isP i p := by unfold isP; rw [hm]; exact hp
    rw [if_neg (fun z => hp z.1), if_neg (fun z => hp2 z.1), if_neg (fun z => hp z.1), if_neg (fun z => hp2 z.1), if_neg (fun z => hp2 z.1)]
    exact ⟨rfl, h⟩
theorem in03 {x : Int32} (h : 0 ≤ x ∧ x ≤ 3) : x = 0 ∨ x = 1 ∨ x = 2 ∨ x = 3 := by
  obtain ⟨h1, h2⟩ := in_nat (m := 4) (x := nI 4) (p := x) rfl (by decide) ⟨h.1, h.2⟩
  rw [h1]
  rcases (show x.toNatClampNeg = 0 ∨ x.toNatClampNeg = 1 ∨ x.toNatClampNeg = 2 ∨ x.toNatClampNeg = 3 by omega) with e | e | e | e <;> rw [e] <;> decide
theorem s_appear {D r m ns : Nat} {V : VTt} {VL : VLt} {ch : Nat → List Rt} {i : Nat → Int32} {a : Ar} {cr : Nat → List Rt} (h : Rel D r m ns V VL ch i a cr) (p x : Int32) : b2i ((0 ≤ p ∧ p ≤ nI ns - 1) ∧ V 2 p.toNatClampNeg 3 = 0 ∧ 0 ≤ x ∧ x ≤ 3) = b2i (isS i p ∧ a 35 p.toNatClampNeg = 0 ∧ 0 ≤ x ∧ x ≤ 3) ∧ Rel D r m ns (if (0 ≤ p ∧ p ≤ nI ns - 1) ∧ V 2 p.toNatClampNeg 3 = 0 ∧ 0 ≤ x ∧ x ≤ 3 then up3 V 2 p.toNatClampNeg 4 x else V) VL ch i (if isS i p ∧ a 35 p.toNatClampNeg = 0 ∧ 0 ≤ x ∧ x ≤ 3 then up2 a 34 p.toNatClampNeg x else a) cr := by
  have hs := h.1.2.2.1.2
  have h40 := h.1.1.2.1
  have e : ((0 ≤ p ∧ p ≤ nI ns - 1) ∧ V 2 p.toNatClampNeg 3 = 0 ∧ 0 ≤ x ∧ x ≤ 3) ↔ (isS i p ∧ a 35 p.toNatClampNeg = 0 ∧ 0 ≤ x ∧ x ≤ 3) := by
    unfold isS
    rw [hs]
    constructor
    · rintro ⟨z1, z2, z3⟩
      exact ⟨z1, by rw [show a 35 = a (sF 3) from rfl, h.2.2.1.1 _ (in_nat rfl (by omega) z1).2 3 (by decide)]; exact z2, z3⟩
    · rintro ⟨z1, z2, z3⟩
      exact ⟨z1, by rw [← h.2.2.1.1 _ (in_nat rfl (by omega) z1).2 3 (by decide)]; exact z2, z3⟩
  refine ⟨b2i_congr e, ?_⟩
  by_cases c : (0 ≤ p ∧ p ≤ nI ns - 1) ∧ V 2 p.toNatClampNeg 3 = 0 ∧ 0 ≤ x ∧ x ≤ 3
  · rw [if_pos c, if_pos (e.mp c)]
    exact h.suit (f := 4) (in_nat rfl (by omega) c.1).2 (by decide) (by decide) x (fun _ => in03 c.2.2)
  · rw [if_neg c, if_neg (fun z => c (e.mpr z))]; exact h
theorem s_suited {D r m ns : Nat} {V : VTt} {VL : VLt} {ch : Nat → List Rt} {i : Nat → Int32} {a : Ar} {cr : Nat → List Rt} (h : Rel D r m ns V VL ch i a cr) (p x : Int32) : (if 0 ≤ p ∧ p ≤ nI ns - 1 then (if x = nI 0 then V 2 p.toNatClampNeg 3 else if x = nI 1 then V 2 p.toNatClampNeg 5 else if x = nI 2 then V 2 p.toNatClampNeg 6 else -1) else -1) = (if isS i p then (if x = 0 then a 35 p.toNatClampNeg else if x = 1 then a 36 p.toNatClampNeg else if x = 2 then a 37 p.toNatClampNeg else -1) else -1) := by
  have hs := h.1.2.2.1.2
  have h40 := h.1.1.2.1
  unfold isS
  rw [hs]
  by_cases c : 0 ≤ p ∧ p ≤ nI ns - 1
  · have hk := (in_nat rfl (by omega) c).2
    rw [if_pos c, if_pos c, show a 35 = a (sF 3) from rfl, show a 36 = a (sF 5) from rfl, show a 37 = a (sF 6) from rfl, h.2.2.1.1 _ hk 3 (by decide), h.2.2.1.1 _ hk 5 (by decide), h.2.2.1.1 _ hk 6 (by decide)]
    rfl
  · rw [if_neg c, if_neg c]
theorem hc_is {a : Ar} {cr : Nat → List Rt} {r : Nat} {ch : Nat → List Rt} (h : LR (lsOf a cr r) ch) (p : Int32) : ∀ k, k ≤ 120 → hcC ch p k = hcnt a p 0 k
  | 0, _ => rfl
  | k + 1, hk => by
    have z := (h k (by omega)).2.1
    simp only [hcC, hcnt]
    rw [hc_is h p k (by omega), ← z]
    congr 1
    show (if a 29 k = p then (1 : Int32) else 0) = _
    simp
theorem wd_of {D m : Nat} {a : Ar} {ch : Nat → List Rt} (h60 : m ≤ 60) (hl : RLd D m a ch) {s : Nat} (hs : s < 120) (h3 : (hdR ch s).2.1 = 3) : ¬ wdo (ch s) = -1 := by
  obtain ⟨l1, l2, l3, l4⟩ := hl.1 s hs
  obtain ⟨g, p', g1, g2, g3, g4, g5, g6⟩ := l3 h3
  rw [(wdo_gv (by omega)).mpr ⟨h3, g1⟩]; exact nI_nm1 (by omega)
theorem pc_is {D m : Nat} {a : Ar} {cr : Nat → List Rt} {r : Nat} {ch : Nat → List Rt} (h60 : m ≤ 60) (h : LR (lsOf a cr r) ch) (hl : RLd D m a ch) (p : Int32) : ∀ k, k ≤ 120 → pcC ch p k = hcnt a p 1 k
  | 0, _ => rfl
  | k + 1, hk => by
    obtain ⟨z0, z1, z2⟩ := h k (by omega)
    simp only [pcC, hcnt]
    rw [pc_is h60 h hl p k (by omega), ← z1]
    congr 1
    have e : (hdR ch k).2.1 = 3 ↔ ¬ a 30 k = -1 := by
      have z3 : a 30 k = wdo (ch k) := z2
      rw [z3]
      obtain ⟨l1, l2, l3, -⟩ := hl.1 k (by omega)
      constructor
      · intro h3
        exact wd_of h60 hl (by omega) h3
      · intro h3
        exact Classical.byContradiction fun z => h3 (by
          obtain ⟨e, r, hr⟩ := List.exists_cons_of_ne_nil l1
          unfold hdR at z
          rw [hr] at z ⊢
          exact wdo_n z)
    show (if a 29 k = p ∧ _ then (1 : Int32) else 0) = _
    simp [e]
theorem s_told {D r m ns : Nat} {V : VTt} {VL : VLt} {ch : Nat → List Rt} {i : Nat → Int32} {a : Ar} {cr : Nat → List Rt} (h : Rel D r m ns V VL ch i a cr) (p x : Int32) : (if isPc m p then toldC V ch p.toNatClampNeg p x else -2) = (if isP i p then toldV a p.toNatClampNeg p x else -2) := by
  have hm := h.1.2.1.2
  have h60 := h.1.1.1
  unfold isP
  rw [hm]
  by_cases c : isPc m p
  · have hj := (in_nat rfl (by omega) c).2
    have e := fun f hf => h.2.1.1 _ hj f hf
    rw [if_pos c, if_pos c]
    unfold toldC toldV
    rw [hc_is h.2.2.2.2.2.2 p 120 (Nat.le_refl _), pc_is h60 h.2.2.2.2.2.2 h.2.2.2.2.2.1 p 120 (Nat.le_refl _), ← e 0 (by decide), ← e 1 (by decide), ← e 2 (by decide), ← e 3 (by decide), ← e 4 (by decide), ← e 5 (by decide), ← e 6 (by decide), ← e 7 (by decide), ← e 8 (by decide), ← e 9 (by decide), ← e 10 (by decide), ← e 11 (by decide)]
    rfl
  · rw [if_neg c, if_neg c]
theorem cs_is {m : Nat} {V : VTt} {a : Ar} (h : RP m V a) : ∀ k, k ≤ m → csum V k = osum a k
  | 0, _ => rfl
  | k + 1, hk => by
    simp only [csum, osum]
    rw [cs_is h k (by omega), ← h.1 k (by omega) 6 (by decide)]
    rfl
theorem s_count {D r m ns : Nat} {V : VTt} {VL : VLt} {ch : Nat → List Rt} {i : Nat → Int32} {a : Ar} {cr : Nat → List Rt} (h : Rel D r m ns V VL ch i a cr) (x : Int32) : countC V ch m x = countV i a m x := by
  obtain ⟨q1, q2, q3, q4, q5, q6, q7, q8, q9⟩ := h.1
  unfold countC countV
  rw [hc_is h.2.2.2.2.2.2 (-1) 120 (Nat.le_refl _), cs_is h.2.1 m (Nat.le_refl _), q4.1, q4.2, q2.2, q3.1, q3.2, q5.1, q5.2, q6.1, q6.2]
theorem flt_dw {day : Int32} : ∀ (c : List Rt), c.Pairwise (fun e f => f.2.2 ≤ e.2.2) → flt day c = c.dropWhile (fun e => !decide (e.2.2 ≤ day))
  | [], _ => rfl
  | e :: c, h => by
    rw [List.pairwise_cons] at h
    unfold flt
    by_cases z : e.2.2 ≤ day
    · rw [List.filter_cons_of_pos (by simpa using z), List.dropWhile_cons_of_neg (by simp [z])]
      congr 1
      rw [List.filter_eq_self]
      intro f hf
      simpa using Int32.le_trans (h.1 f hf) z
    · rw [List.filter_cons_of_neg (by simpa using z), List.dropWhile_cons_of_pos (by simp [z])]
      exact flt_dw c h.2
theorem rg_is {day : Int32} {c : List Rt} (h : c.Pairwise (fun e f => f.2.2 ≤ e.2.2)) (T : Nat) (x : Int32) : rgC c day T x = rgtV c day T x := by
  unfold rgC rgtV
  rw [flt_dw c h]
  unfold rgE
  cases (c.dropWhile (fun e => !decide (e.2.2 ≤ day)))[T]? <;> rfl
theorem st_lt {g s : Int32} (hg : 0 ≤ g ∧ g ≤ 9) (hs : 0 ≤ s ∧ s ≤ 11) : 12 * g.toNatClampNeg + s.toNatClampNeg < 120 := by
  have := (st12 hg hs).2.2.1
  have := (st12 hg hs).2.2.2.1
  omega
theorem s_right {D r m ns : Nat} {V : VTt} {VL : VLt} {ch : Nat → List Rt} {i : Nat → Int32} {a : Ar} {cr : Nat → List Rt} (h : Rel D r m ns V VL ch i a cr) (g s q k x : Int32) : (if ((0 ≤ g ∧ g ≤ 9) ∧ (0 ≤ s ∧ s ≤ 11) ∧ 0 ≤ q ∧ q ≤ V 0 7 0) ∧ 0 ≤ k then rgC (ch (12 * g.toNatClampNeg + s.toNatClampNeg)) q k.toNatClampNeg x else -2) = (if ((0 ≤ g ∧ g ≤ 9) ∧ (0 ≤ s ∧ s ≤ 11) ∧ 0 ≤ q ∧ q ≤ i 8) ∧ 0 ≤ k then rgtV (cr (12 * g.toNatClampNeg + s.toNatClampNeg)) q k.toNatClampNeg x else -2) := by
  rw [h.1.2.2.2.1.1, h.1.2.2.2.1.2]
  by_cases c : ((0 ≤ g ∧ g ≤ 9) ∧ (0 ≤ s ∧ s ≤ 11) ∧ 0 ≤ q ∧ q ≤ nI D) ∧ 0 ≤ k
  · have hl := st_lt c.1.1 c.1.2.1
    rw [if_pos c, if_pos c, rg_is (h.2.2.2.2.2.1.1 _ hl).2.2.2.2.1]
    have := (h.2.2.2.2.2.2 _ hl).1
    rw [show cr (12 * g.toNatClampNeg + s.toNatClampNeg) = ch (12 * g.toNatClampNeg + s.toNatClampNeg) from this]
  · rw [if_neg c, if_neg c]
theorem s_hch {D r m ns : Nat} {V : VTt} {VL : VLt} {ch : Nat → List Rt} {i : Nat → Int32} {a : Ar} {cr : Nat → List Rt} (h : Rel D r m ns V VL ch i a cr) : ∀ t, t < 120 → ∀ q : Int32, 0 ≤ q → ¬ (flt q (cr t))[0]? = none := by
  intro t ht q hq hn
  rw [show cr t = ch t from (h.2.2.2.2.2.2 t ht).1] at hn
  obtain ⟨e, he, h0⟩ := (h.2.2.2.2.2.1.1 t ht).2.2.2.2.2
  have hm : e ∈ flt q (ch t) := by
    unfold flt
    rw [List.mem_filter]
    exact ⟨he, by rw [h0]; exact decide_eq_true hq⟩
  rw [List.getElem?_eq_none_iff] at hn
  have := List.length_pos_of_mem hm
  omega
theorem s_holder {D r m ns : Nat} {V : VTt} {VL : VLt} {ch : Nat → List Rt} {i : Nat → Int32} {a : Ar} {cr : Nat → List Rt} (h : Rel D r m ns V VL ch i a cr) (g s q : Int32) : (if ((0 ≤ g ∧ g ≤ 9) ∧ (0 ≤ s ∧ s ≤ 11) ∧ 0 ≤ q ∧ q ≤ V 0 7 0) ∧ (0 : Int32) ≤ 0 then rgC (ch (12 * g.toNatClampNeg + s.toNatClampNeg)) q (0 : Int32).toNatClampNeg 0 else -2) = (if (0 ≤ g ∧ g ≤ 9) ∧ (0 ≤ s ∧ s ≤ 11) ∧ 0 ≤ q ∧ q ≤ i 8 then hldV (cr (12 * g.toNatClampNeg + s.toNatClampNeg)) q else -2) := by
  rw [s_right h g s q 0 0]
  by_cases c : (0 ≤ g ∧ g ≤ 9) ∧ (0 ≤ s ∧ s ≤ 11) ∧ 0 ≤ q ∧ q ≤ i 8
  · rw [if_pos ⟨c, by decide⟩, if_pos c]
    unfold rgtV hldV
    show (match (flt q _)[0]? with | none => _ | some e => _) = _
    cases (flt q (cr (12 * g.toNatClampNeg + s.toNatClampNeg)))[0]? <;> rfl
  · rw [if_neg (fun z => c z.1), if_neg c]
