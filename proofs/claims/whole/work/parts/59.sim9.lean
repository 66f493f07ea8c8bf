/-! ===== SIM 9: weeks ===== -/
theorem dyC.mono {D D' : Nat} (h : D ≤ D') {c : List Rt} (hc : dyC D c) : dyC D' c := ⟨fun e he => by
  obtain ⟨d, h1, h2⟩ := hc.1 e he
  exact ⟨d, by omega, h2⟩, hc.2⟩
theorem RLd.mono {D D' m : Nat} {a : Ar} {ch : Nat → List Rt} (h : D ≤ D') (hl : RLd D m a ch) : RLd D' m a ch := ⟨fun s hs => by
  obtain ⟨h1, h2, h3, h4⟩ := hl.1 s hs
  exact ⟨h1, h2, h3, h4.mono h⟩, hl.2⟩
theorem s_weeks {D r m ns : Nat} {V : VTt} {VL : VLt} {ch : Nat → List Rt} {i : Nat → Int32} {a : Ar} {cr : Nat → List Rt} (h : Rel D r m ns V VL ch i a cr) (n : Int32) : (((0 ≤ n ∧ n ≤ 60) ∧ V 0 7 0 + n * 7 ≤ 40000) ↔ ((0 ≤ n ∧ n ≤ 60) ∧ i 8 + 7 * n ≤ 40000)) ∧ (((0 ≤ n ∧ n ≤ 60) ∧ V 0 7 0 + n * 7 ≤ 40000) → V 0 7 0 + n * 7 = wksI i n.toNatClampNeg 8 ∧ ∃ D', Rel D' r m ns (up3 (wkC V ch n m) 0 7 0 (V 0 7 0 + n * 7)) VL ch (wksI i n.toNatClampNeg) (wksA (i 5) a m n.toNatClampNeg) cr) := by
  obtain ⟨h1, h2, h3, h4, h5, h6, h7⟩ := h
  have h60 := h1.1.1
  have d1 := h1.2.2.2.1.1
  have d2 := h1.2.2.2.1.2
  refine ⟨by rw [d1, d2, Int32.mul_comm n 7], fun hc => ?_⟩
  obtain ⟨N, hN⟩ : ∃ N, N = n.toNatClampNeg := ⟨_, rfl⟩
  have z := in_nat (m := 61) (x := nI 61) (p := n) rfl (by decide) ⟨hc.1.1, hc.1.2⟩
  rw [← hN] at z ⊢
  obtain ⟨hn, hN61⟩ := z
  have eD : V 0 7 0 + n * 7 = nI (D + 7 * N) := by
    rw [d1, hn, show (7 : Int32) = nI 7 from rfl, pk_mul, nI_add, Nat.mul_comm]
  have hD' : D + 7 * N ≤ 40000 := by
    have := hc.2
    rw [eD] at this
    have h40 := h1.1.2.2
    exact (nI_leI (by omega) (by decide)).mp this
  refine ⟨by rw [eD, wksI_8 i D d2], D + 7 * N, ?_⟩
  have ka : ∀ q, q ≠ 15 → q ≠ 18 → q ≠ 19 → wksA (i 5) a m N q = a q := fun q q1 q2 q3 => wksA_k _ _ _ q1 q2 q3 N
  have ki : ∀ q, q ≠ 8 → wksI i N q = i q := fun q hq => wksI_keep i hq N
  have kV : ∀ t k, ¬ (t = 0 ∧ k = 7) → up3 (wkC V ch n m) 0 7 0 (V 0 7 0 + n * 7) t k = wkC V ch n m t k := fun t k hk => up3_ne _ _ _ hk
  have kV0 : ∀ t, t ≠ 1 → ∀ k, ¬ (t = 0 ∧ k = 7) → up3 (wkC V ch n m) 0 7 0 (V 0 7 0 + n * 7) t k = V t k := fun t ht k hk => by rw [kV t k hk, wkC_2 V ch n t ht]
  have k7 : ∀ f, f ≠ 0 → up3 (wkC V ch n m) 0 7 0 (V 0 7 0 + n * 7) 0 7 f = V 0 7 f := fun f hf => by rw [up3_eq, va_up_ne _ _ hf, wkC_2 V ch n 0 (by decide)]
  refine ⟨?_, ?_, h3.fr (fun s _ => kV0 2 (by decide) s (fun z => absurd z.1 (by decide))) (fun k k1 k2 => ka k (by omega) (by omega) (by omega)), h4.fr (fun _ _ => rfl) (ka 9 (by decide) (by decide) (by decide)) (ka 10 (by decide) (by decide) (by decide)) (ka 11 (by decide) (by decide) (by decide)) (ka 20 (by decide) (by decide) (by decide)), h5.fr (ka 12 (by decide) (by decide) (by decide)) (ka 20 (by decide) (by decide) (by decide)), (h6.fr (ka 12 (by decide) (by decide) (by decide)) (ka 20 (by decide) (by decide) (by decide))).mono (by omega), h7.fr (ka 29 (by decide) (by decide) (by decide)) (ka 30 (by decide) (by decide) (by decide))⟩
  · obtain ⟨q1, q2, q3, q4, q5, q6, q7, q8, q9⟩ := h1
    unfold RI
    rw [kV0 0 (by decide) 3 (by decide), kV0 0 (by decide) 2 (by decide), kV0 0 (by decide) 0 (by decide), k7 7 (by decide), k7 2 (by decide), k7 8 (by decide), ki 22 (by decide), ki 38 (by decide), ki 28 (by decide), ki 7 (by decide), ki 23 (by decide), ki 0 (by decide), ki 1 (by decide), ki 5 (by decide), ki 6 (by decide), ki 2 (by decide), ki 3 (by decide), ki 4 (by decide)]
    exact ⟨⟨q1.1, q1.2.1, hD'⟩, q2, q3, ⟨by rw [up3_eq, va_up_self, eD], wksI_8 i D d2 N⟩, q5, q6, q7, q8, q9⟩
  · have hx : ∀ p, hcC ch (nI p) 120 * V 0 0 2 = i 5 * hcnt a (nI p) 0 120 := fun p => by
      rw [hc_is h7 (nI p) 120 (Nat.le_refl _), h1.2.2.2.2.2.2.1.2.2.1, Int32.mul_comm]
    have key : ∀ p, p < m → (wksA (i 5) a m N 15 p = swV V p n (hcC ch (nI p) 120 * V 0 0 2) 1 p 7 ∧ wksA (i 5) a m N 18 p = swV V p n (hcC ch (nI p) 120 * V 0 0 2) 1 p 10 ∧ wksA (i 5) a m N 19 p = swV V p n (hcC ch (nI p) 120 * V 0 0 2) 1 p 11) ∧ ∃ z, z ≤ 60 ∧ wksA (i 5) a m N 19 p = nI z := by
      intro p hp
      have ht := wksA_at (i 5) a m N p
      rw [if_pos hp] at ht
      obtain ⟨w7, w10, w11, -⟩ := swV_f V p n (hcC ch (nI p) 120 * V 0 0 2)
      rw [w7, w10, w11, hx]
      obtain ⟨s0, hs0, e19⟩ := h2.2.2 p hp
      have v7 : V 1 p 7 = a 15 p := (h2.1 p hp 7 (by decide)).symm
      have v10 : V 1 p 10 = a 18 p := (h2.1 p hp 10 (by decide)).symm
      have v11 : V 1 p 11 = nI s0 := by rw [← e19]; exact (h2.1 p hp 11 (by decide)).symm
      have v4 : V 1 p 4 = a 20 p := (h2.1 p hp 4 (by decide)).symm
      rw [v7, v10, v11, v4]
      have es : (if nI s0 < n then nI s0 else n) = nI (min N s0) := by
        rw [hn]
        by_cases c : s0 < N
        · rw [if_pos ((nI_ltI (by omega) (by omega)).mpr c), Nat.min_eq_right (by omega)]
        · rw [if_neg (fun z => c ((nI_ltI (by omega) (by omega)).mp z)), Nat.min_eq_left (by omega)]
      rw [es]
      by_cases al : a 20 p = 0
      · have h0 := dead_0 h6 h7 hp h60 al 120 (Nat.le_refl _)
        rw [h0, Int32.mul_zero, its_0 (fun z => z al)] at ht
        rw [h0, Int32.mul_zero, Int32.mul_zero, Int32.mul_zero, Int32.add_zero, Int32.add_zero, if_pos al]
        have t1 := congrArg (fun t => t.1) ht
        have t2 := congrArg (fun t => t.2.1) ht
        have t3 := congrArg (fun t => t.2.2) ht
        dsimp only at t1 t2 t3
        exact ⟨⟨t1, t2, by rw [t3, e19]⟩, s0, hs0, by rw [t3, e19]⟩
      · rw [show tri a p = (a 15 p, a 18 p, nI s0) from by unfold tri; rw [e19], its_al al _ _ _ s0 hs0] at ht
        rw [if_neg al, hn, pk_sub (Nat.min_le_left _ _), pk_sub (Nat.min_le_right _ _)]
        have t1 := congrArg (fun t => t.1) ht
        have t2 := congrArg (fun t => t.2.1) ht
        have t3 := congrArg (fun t => t.2.2) ht
        dsimp only at t1 t2 t3
        exact ⟨⟨t1, t2, t3⟩, s0 - min N s0, by omega, t3⟩
    refine ⟨fun p hp f hf => ?_, fun p hp k k1 k2 => ?_, fun p hp => (key p hp).2⟩
    · have e1 : up3 (wkC V ch n m) 0 7 0 (V 0 7 0 + n * 7) 1 p f = swV V p n (hcC ch (nI p) 120 * V 0 0 2) 1 p f := by
        rw [kV 1 p (fun z => absurd z.1 (by decide)), wkC_at, if_pos hp]
      rw [e1]
      obtain ⟨⟨k1, k2, k3⟩, -⟩ := key p hp
      by_cases f7 : f = 7
      · subst f7; exact k1
      · by_cases f10 : f = 10
        · subst f10; exact k2
        · by_cases f11 : f = 11
          · subst f11; exact k3
          · obtain ⟨-, -, -, w⟩ := swV_f V p n (hcC ch (nI p) 120 * V 0 0 2)
            rw [w f f7 f10 f11, ka _ (fun z => f7 (pF_inj f hf 7 (by decide) z)) (fun z => f10 (pF_inj f hf 10 (by decide) z)) (fun z => f11 (pF_inj f hf 11 (by decide) z))]
            exact h2.1 p hp f hf
    · have ht := wksA_at (i 5) a m N p
      rw [if_neg (by omega)] at ht
      have t1 := congrArg (fun t => t.1) ht
      have t2 := congrArg (fun t => t.2.1) ht
      have t3 := congrArg (fun t => t.2.2) ht
      dsimp only at t1 t2 t3
      have g := fun q q1 q2 => h2.2.1 p hp q q1 q2
      by_cases c15 : k = 15
      · subst c15; rw [t1]; exact g 15 (by decide) (by decide)
      · by_cases c18 : k = 18
        · subst c18; rw [t2]; exact g 18 (by decide) (by decide)
        · by_cases c19 : k = 19
          · subst c19; rw [t3]; exact g 19 (by decide) (by decide)
          · rw [ka k c15 c18 c19]; exact g k k1 k2
