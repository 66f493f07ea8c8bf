/-! ===== SIM 7: court, weeks ===== -/
theorem up2_comm (a : Ar) {k k' : Nat} (h : k ≠ k') (j : Nat) (x : Int32) (j' : Nat) (x' : Int32) : up2 (up2 a k j x) k' j' x' = up2 (up2 a k' j' x') k j x := by
  funext q
  by_cases c : q = k
  · subst c
    rw [up2_ne _ _ _ h, up2_eq, up2_eq, up2_ne _ _ _ h]
  · rw [up2_ne (up2 a k' j' x') _ _ c]
    by_cases c2 : q = k'
    · subst c2; rw [up2_eq, up2_eq, up2_ne _ _ _ c]
    · rw [up2_ne _ _ _ c2, up2_ne _ _ _ c2, up2_ne _ _ _ c]
section
variable {D r m ns : Nat} {V : VTt} {VL : VLt} {ch : Nat → List Rt} {i : Nat → Int32} {a : Ar} {cr : Nat → List Rt}
theorem Rel.p6 (h : Rel D r m ns V VL ch i a cr) {j : Nat} (hj : j < m) (v : Int32) : Rel D r m ns (up3 V 1 j 6 (V 1 j 6 + v)) VL ch i (up2 a 14 j (a 14 j + v)) cr := by
  rw [show a 14 j = V 1 j 6 from h.2.1.1 j hj 6 (by decide)]
  exact h.person (f := 6) hj (by decide) (by decide) _ (fun z => absurd z (by decide))
theorem falls_sim (h : Rel D r m ns V VL ch i a cr) {k b1 b2 : Nat} (hk : k < ns) (hb1 : b1 < m) (hb2 : b2 < m) : Rel D r m ns (dfV V k b1 b2) VL ch i (fallsA a k b1 b2) cr := by
  have e4 : a 20 b2 = V 1 b2 4 := h.2.1.1 b2 hb2 4 (by decide)
  have e6 : a 37 k = V 2 k 6 := h.2.2.1.1 k hk 6 (by decide)
  unfold dfV fallsA
  dsimp only
  rw [e4]
  have ht : (if V 1 b2 4 = 0 then b1 else b2) < m := by split <;> assumption
  generalize (if V 1 b2 4 = 0 then b1 else b2) = t at ht
  have h1 := h.p6 ht 3
  have h2 : Rel D r m ns (up3 (up3 V 1 t 6 (V 1 t 6 + 3)) 2 k 6 (V 2 k 6 + 1)) VL ch i (up2 (up2 a 14 t (a 14 t + 3)) 37 k (a 37 k + 1)) cr := by
    rw [e6]
    exact h1.suit (f := 6) hk (by decide) (by decide) _ (fun z => absurd z (by decide))
  by_cases c : 2 ≤ V 2 k 6 + 1
  · rw [if_pos c, if_pos (by rw [e6]; exact c)]
    exact (h2.suit (f := 3) hk (by decide) (by decide) 2 (fun z => absurd z (by decide))).p6 hb1 6
  · rw [if_neg c, if_neg (by rw [e6]; exact c)]
    exact h2
theorem falls_34 (a : Ar) (k b1 b2 : Nat) : fallsA (up2 a 34 k 0) k b1 b2 = up2 (fallsA a k b1 b2) 34 k 0 := by
  have n : ∀ q, q ≠ 34 → up2 a 34 k 0 q = a q := fun q hq => up2_ne _ _ _ hq
  unfold fallsA
  dsimp only
  rw [n 20 (by decide), n 14 (by decide), n 37 (by decide)]
  generalize (if a 20 b2 = 0 then b1 else b2) = t
  rw [up2_comm a (k := 34) (k' := 14) (by decide), up2_comm _ (k := 34) (k' := 37) (by decide)]
  by_cases c : 2 ≤ a 37 k + 1
  · rw [if_pos c, if_pos c, up2_comm _ (k := 34) (k' := 35) (by decide), up2_ne _ _ _ (show (14 : Nat) ≠ 34 by decide), up2_comm _ (k := 34) (k' := 14) (by decide)]
  · rw [if_neg c, if_neg c]
theorem court_one (h : Rel D r m ns V VL ch i a cr) {k : Nat} (hk : k < ns) : Rel D r m ns (ctOne V k) VL ch i (crtOne i a k) cr := by
  have s3 : a 35 k = V 2 k 3 := h.2.2.1.1 k hk 3 (by decide)
  have s4 : a 34 k = V 2 k 4 := h.2.2.1.1 k hk 4 (by decide)
  have s5 : a 36 k = V 2 k 5 := h.2.2.1.1 k hk 5 (by decide)
  have s0 : a 31 k = V 2 k 0 := h.2.2.1.1 k hk 0 (by decide)
  have s1 : a 32 k = V 2 k 1 := h.2.2.1.1 k hk 1 (by decide)
  have s2 : a 33 k = V 2 k 2 := h.2.2.1.1 k hk 2 (by decide)
  obtain ⟨⟨b0, hb0, g0⟩, ⟨b1, hb1, g1⟩, ⟨b2, hb2, g2⟩, hz⟩ := h.2.2.1.2.2 k hk
  have h60 := h.1.1.1
  have e4 : a 20 b1 = V 1 b1 4 := h.2.1.1 b1 hb1 4 (by decide)
  have i6 : i 6 = V 0 0 3 := h.1.2.2.2.2.2.2.1.2.2.2.1.symm
  unfold ctOne crtOne
  rw [← s3]
  by_cases c : a 35 k = 0
  · rw [if_pos c, if_pos c, ← s0, ← s1, ← s2, g0, g1, g2, nI_clamp (by omega), nI_clamp (by omega), nI_clamp (by omega)]
    unfold heV crtStep
    dsimp only
    rw [e4, s4, s5, i6]
    rw [s4] at hz
    have z4 : ∀ {V' : VTt} {a' : Ar}, Rel D r m ns V' VL ch i a' cr → Rel D r m ns (up3 V' 2 k 4 0) VL ch i (up2 a' 34 k 0) cr := fun h' => h'.suit (f := 4) hk (by decide) (by decide) 0 (fun _ => Or.inl rfl)
    by_cases ca : V 1 b1 4 = 0
    · rw [if_pos ca, if_pos ca, up2_comm _ (k := 34) (k' := 35) (by decide)]
      exact z4 (h.suit (f := 3) hk (by decide) (by decide) 1 (fun z => absurd z (by decide)))
    · rw [if_neg ca, if_neg ca]
      by_cases c2 : V 2 k 4 = 2
      · rw [if_pos c2, if_neg (by rw [c2]; decide), if_pos c2, c2, up2_comm _ (k := 34) (k' := 35) (by decide), up2_comm _ (k := 34) (k' := 14) (by decide)]
        refine z4 ?_
        have := (h.suit (f := 3) hk (by decide) (by decide) 2 (fun z => absurd z (by decide))).p6 hb1 6
        rw [up3_ne _ _ _ (fun z => absurd z.1 (by decide)), up2_ne _ _ _ (show (14 : Nat) ≠ sF 3 by decide)] at this
        exact this
      · rw [if_neg c2]
        by_cases c3 : V 2 k 4 = 3
        · rw [if_pos c3, if_neg (by rw [c3]; decide), if_neg (by rw [c3]; decide), c3, up2_comm _ (k := 34) (k' := 35) (by decide), up2_comm _ (k := 34) (k' := 14) (by decide)]
          refine z4 ?_
          have := (h.suit (f := 3) hk (by decide) (by decide) 3 (fun z => absurd z (by decide))).p6 hb0 6
          rw [up3_ne _ _ _ (fun z => absurd z.1 (by decide)), up2_ne _ _ _ (show (14 : Nat) ≠ sF 3 by decide)] at this
          exact this
        · have cle : V 2 k 4 ≤ 1 := by
            rcases hz with z | z | z | z
            · rw [z]; decide
            · rw [z]; decide
            · exact absurd z c2
            · exact absurd z c3
          rw [if_neg c3, if_pos cle]
          by_cases ce : V 2 k 4 = 1 ∧ V 2 k 5 < V 0 0 3
          · rw [if_pos ce, if_pos ce, up2_comm _ (k := 34) (k' := 36) (by decide)]
            exact z4 (h.suit (f := 5) hk (by decide) (by decide) _ (fun z => absurd z (by decide)))
          · rw [if_neg ce, if_neg ce, falls_34]
            exact z4 (falls_sim h hk hb1 hb2)
  · rw [if_neg c, if_neg c]; exact h
theorem s_court (h : Rel D r m ns V VL ch i a cr) : ∀ k, k ≤ ns → (ctC V k).2 = (crt i a k).2 ∧ Rel D r m ns (ctC V k).1 VL ch i (crt i a k).1 cr
  | 0, _ => ⟨rfl, h⟩
  | k + 1, hk => by
    obtain ⟨i1, i2⟩ := s_court h k (by omega)
    have i3 := court_one i2 (show k < ns by omega)
    refine ⟨?_, i3⟩
    show (ctC V k).2 + _ = (crt i a k).2 + _
    rw [i1, show (ctC V k).1 2 k 3 = (crt i a k).1 35 k from (i2.2.2.1.1 k (by omega) 3 (by decide)).symm, show ctOne (ctC V k).1 k 2 k 3 = crtOne i (crt i a k).1 k 35 k from (i3.2.2.1.1 k (by omega) 3 (by decide)).symm]
end
