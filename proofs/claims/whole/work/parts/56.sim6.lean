/-! ===== SIM 6: custom, suit, court, weeks ===== -/
theorem cu_ord {what dues : Int32} (h : ¬ cuBad what dues) : (what / 100000 = 0 ∨ what / 100000 = 1 ∨ what / 100000 = 2) ∧ ∃ wd, wd ≤ 12 ∧ rem (what / 1000) 100 = nI wd := by
  have h0 : ¬ what < 0 := fun z => h (Or.inl z)
  have h2 : ¬ 2 < what / 100000 := fun z => h (Or.inr (Or.inr (Or.inl z)))
  have h3 : ¬ 12 < rem (what / 1000) 100 := fun z => h (Or.inr (Or.inr (Or.inr (Or.inl z))))
  obtain ⟨w, hw, rfl⟩ := nI_of h0
  have e1 : nI w / 100000 = nI (w / 100000) := pk_div hw (by decide) (by decide)
  have e2 : nI w / 1000 = nI (w / 1000) := pk_div hw (by decide) (by decide)
  have hq : w / 1000 < 2 ^ 31 := by omega
  have e3 : rem (nI (w / 1000)) 100 = nI (w / 1000 % 100) := pk_rem hq (by decide) (by decide)
  rw [e1] at h2 ⊢
  rw [e2, e3] at h3 ⊢
  have h2' : w / 100000 ≤ 2 := by
    have := Int32.not_lt.mp h2
    exact (nI_leI (by omega) (by decide)).mp this
  have h3' : w / 1000 % 100 ≤ 12 := by
    have := Int32.not_lt.mp h3
    exact (nI_leI (by omega) (by decide)).mp this
  refine ⟨?_, _, h3', rfl⟩
  rcases (show w / 100000 = 0 ∨ w / 100000 = 1 ∨ w / 100000 = 2 by omega) with z | z | z <;> rw [z] <;> decide
theorem s_custom {D r m ns : Nat} {V : VTt} {VL : VLt} {ch : Nat → List Rt} {i : Nat → Int32} {a : Ar} {cr : Nat → List Rt} (h : Rel D r m ns V VL ch i a cr) (what dues : Int32) (hb : ¬ cuBad what dues) : Rel D r m ns (up3 (up0 V 0 0 (cuV what dues)) 0 7 2 (V 0 7 2 + 1)) VL ch (upd (upd (upd (upd (upd (upd (upd (upd i 0 (what / 100000)) 1 (rem (what / 1000) 100)) 5 (rem (what / 100) 10)) 6 (rem (what / 10) 10)) 2 (dues / 10000)) 3 (rem (dues / 100) 100)) 4 (rem dues 100)) 7 (i 7 + 1)) a cr := by
  obtain ⟨q1, q2, q3, q4, q5, q6, q7, q8, q9⟩ := h.1
  obtain ⟨o1, o2⟩ := cu_ord hb
  have nU : ∀ t n, ¬ (t = 0 ∧ n = 0) → up0 V 0 0 (cuV what dues) t n = V t n := fun t n hn => up0_ne _ _ hn
  have n3 : ∀ n, n ≠ 7 → n ≠ 0 → up3 (up0 V 0 0 (cuV what dues)) 0 7 2 (V 0 7 2 + 1) 0 n = V 0 n := fun n h7 h0 => by rw [up3_ne _ _ _ (fun z => h7 z.2), nU 0 n (fun z => h0 z.2)]
  have n7 : ∀ f, f ≠ 2 → up3 (up0 V 0 0 (cuV what dues)) 0 7 2 (V 0 7 2 + 1) 0 7 f = V 0 7 f := fun f hf => by rw [up3_eq, va_up_ne _ _ hf, nU 0 7 (by decide)]
  have n72 : up3 (up0 V 0 0 (cuV what dues)) 0 7 2 (V 0 7 2 + 1) 0 7 2 = V 0 7 2 + 1 := by rw [up3_eq, va_up_self]
  have n00 : up3 (up0 V 0 0 (cuV what dues)) 0 7 2 (V 0 7 2 + 1) 0 0 = cuV what dues := by rw [up3_ne _ _ _ (by decide), up0_eq]
  refine h.ri ?_ rfl rfl (fun p f => by rw [up3_ne _ _ _ (fun z => absurd z.1 (by decide)), nU 1 p (fun z => absurd z.1 (by decide))]) (fun s => by rw [up3_ne _ _ _ (fun z => absurd z.1 (by decide)), nU 2 s (fun z => absurd z.1 (by decide))])
  unfold RI
  rw [n3 3 (by decide) (by decide), n3 2 (by decide) (by decide), n7 7 (by decide), n7 0 (by decide), n72, n7 8 (by decide), n00]
  refine ⟨q1, ⟨q2.1, ?_⟩, ⟨q3.1, ?_⟩, ⟨q4.1, ?_⟩, ⟨q5.1, ?_⟩, ⟨?_, ?_⟩, ⟨?_, ?_, ?_, ?_, ?_, ?_, ?_⟩, ?_, ?_⟩
  · simp only [upd]; exact q2.2
  · simp only [upd]; exact q3.2
  · simp only [upd]; exact q4.2
  · simp only [upd]; exact q5.2
  · rw [q6.1]; simp only [upd]; rfl
  · rw [q6.2]; simp only [upd]; rfl
  · rfl
  · rfl
  · rfl
  · rfl
  · rfl
  · rfl
  · rfl
  · exact o1
  · exact o2
theorem s_suit {D r m ns : Nat} {V : VTt} {VL : VLt} {ch : Nat → List Rt} {i : Nat → Int32} {a : Ar} {cr : Nat → List Rt} (h : Rel D r m ns V VL ch i a cr) (p q u : Int32) : ((lvC V m p ∧ lvC V m q ∧ lvC V m u ∧ ¬ p = q ∧ ¬ q = u ∧ ¬ p = u ∧ ns < 40) ↔ (lvP i a p ∧ lvP i a q ∧ lvP i a u ∧ ¬ p = q ∧ ¬ q = u ∧ ¬ p = u ∧ ¬ i 38 = 40)) ∧ ((lvC V m p ∧ lvC V m q ∧ lvC V m u ∧ ¬ p = q ∧ ¬ q = u ∧ ¬ p = u ∧ ns < 40) → Rel D r m (ns + 1) (up3 (up0 V 2 ns (nsV p q u)) 0 7 7 (nI ns + 1)) VL ch (upd i 38 (i 38 + 1)) (up2 (up2 (up2 a 31 ns p) 32 ns q) 33 ns u) cr) := by
  obtain ⟨h1, h2, h3, h4, h5, h6, h7⟩ := h
  have hm := h1.2.1.2
  have h60 := h1.1.1
  have h40 := h1.1.2.1
  have hs := h1.2.2.1.2
  have e40 : ns < 40 ↔ ¬ i 38 = 40 := by
    rw [hs, show (40 : Int32) = nI 40 from rfl, nI_eq (by omega) (by decide)]; omega
  refine ⟨and_congr (lv_iff h2 hm h60 p) (and_congr (lv_iff h2 hm h60 q) (and_congr (lv_iff h2 hm h60 u) (and_congr Iff.rfl (and_congr Iff.rfl (and_congr Iff.rfl e40))))), fun hc => ?_⟩
  obtain ⟨c1, c2, c3, -, -, -, c7⟩ := hc
  have n : ∀ k, k ≠ 31 → k ≠ 32 → k ≠ 33 → up2 (up2 (up2 a 31 ns p) 32 ns q) 33 ns u k = a k := fun k k1 k2 k3 => by rw [up2_ne _ _ _ k3, up2_ne _ _ _ k2, up2_ne _ _ _ k1]
  have b31 : up2 (up2 (up2 a 31 ns p) 32 ns q) 33 ns u 31 = upd (a 31) ns p := by rw [up2_ne _ _ _ (by decide), up2_ne _ _ _ (by decide), up2_eq]
  have b32 : up2 (up2 (up2 a 31 ns p) 32 ns q) 33 ns u 32 = upd (a 32) ns q := by rw [up2_ne _ _ _ (by decide), up2_eq, up2_ne _ _ _ (by decide)]
  have b33 : up2 (up2 (up2 a 31 ns p) 32 ns q) 33 ns u 33 = upd (a 33) ns u := by rw [up2_eq, up2_ne _ _ _ (by decide), up2_ne _ _ _ (by decide)]
  have nV : ∀ t k, ¬ (t = 0 ∧ k = 7) → ¬ (t = 2 ∧ k = ns) → up3 (up0 V 2 ns (nsV p q u)) 0 7 7 (nI ns + 1) t k = V t k := fun t k z1 z2 => by rw [up3_ne _ _ _ z1, up0_ne _ _ z2]
  have nV2 : up3 (up0 V 2 ns (nsV p q u)) 0 7 7 (nI ns + 1) 2 ns = nsV p q u := by rw [up3_ne _ _ _ (fun z => absurd z.1 (by decide)), up0_eq]
  have n7 : ∀ f, f ≠ 7 → up3 (up0 V 2 ns (nsV p q u)) 0 7 7 (nI ns + 1) 0 7 f = V 0 7 f := fun f hf => by rw [up3_eq, va_up_ne _ _ hf, up0_ne _ _ (fun z => absurd z.1 (by decide))]
  refine ⟨?_, h2.fr (fun p' f _ => by rw [nV 1 p' (fun z => absurd z.1 (by decide)) (fun z => absurd z.1 (by decide))]) (fun k k1 k2 => n k (by omega) (by omega) (by omega)), ?_, h4.fr (fun _ _ => rfl) (n 9 (by decide) (by decide) (by decide)) (n 10 (by decide) (by decide) (by decide)) (n 11 (by decide) (by decide) (by decide)) (n 20 (by decide) (by decide) (by decide)), h5.fr (n 12 (by decide) (by decide) (by decide)) (n 20 (by decide) (by decide) (by decide)), h6.fr (n 12 (by decide) (by decide) (by decide)) (n 20 (by decide) (by decide) (by decide)), h7.fr (n 29 (by decide) (by decide) (by decide)) (n 30 (by decide) (by decide) (by decide))⟩
  · obtain ⟨q1, q2, q3, q4, q5, q6, q7, q8, q9⟩ := h1
    have ni : ∀ k, k ≠ 38 → upd i 38 (i 38 + 1) k = i k := fun k hk => upd_ne _ _ hk
    unfold RI
    rw [nV 0 3 (by decide) (by omega), nV 0 2 (by decide) (by omega), nV 0 0 (by decide) (by omega), n7 0 (by decide), n7 2 (by decide), n7 8 (by decide), ni 22 (by decide), ni 8 (by decide), ni 28 (by decide), ni 7 (by decide), ni 23 (by decide), ni 0 (by decide), ni 1 (by decide), ni 5 (by decide), ni 6 (by decide), ni 2 (by decide), ni 3 (by decide), ni 4 (by decide)]
    refine ⟨⟨q1.1, by omega, q1.2.2⟩, q2, ⟨?_, ?_⟩, q4, q5, q6, q7, q8, q9⟩
    · rw [up3_eq, va_up_self, nI_succ]
    · rw [upd_eq, q3.2, nI_succ]
  · obtain ⟨r1, r2, r3⟩ := h3
    refine ⟨fun s hs' f hf => ?_, fun s hs' k k1 k2 => ?_, fun s hs' => ?_⟩
    · by_cases c : s = ns
      · subst c
        rw [nV2]
        rcases (show f = 0 ∨ f = 1 ∨ f = 2 ∨ f = 3 ∨ f = 4 ∨ f = 5 ∨ f = 6 by omega) with rfl | rfl | rfl | rfl | rfl | rfl | rfl
        · show up2 (up2 (up2 a 31 s p) 32 s q) 33 s u 31 s = p
          rw [b31, upd_eq]
        · show up2 (up2 (up2 a 31 s p) 32 s q) 33 s u 32 s = q
          rw [b32, upd_eq]
        · show up2 (up2 (up2 a 31 s p) 32 s q) 33 s u 33 s = u
          rw [b33, upd_eq]
        · show up2 (up2 (up2 a 31 s p) 32 s q) 33 s u 35 s = 0
          rw [n 35 (by decide) (by decide) (by decide)]; exact r2 s (Nat.le_refl _) 35 (by decide) (by decide)
        · show up2 (up2 (up2 a 31 s p) 32 s q) 33 s u 34 s = 0
          rw [n 34 (by decide) (by decide) (by decide)]; exact r2 s (Nat.le_refl _) 34 (by decide) (by decide)
        · show up2 (up2 (up2 a 31 s p) 32 s q) 33 s u 36 s = 0
          rw [n 36 (by decide) (by decide) (by decide)]; exact r2 s (Nat.le_refl _) 36 (by decide) (by decide)
        · show up2 (up2 (up2 a 31 s p) 32 s q) 33 s u 37 s = 0
          rw [n 37 (by decide) (by decide) (by decide)]; exact r2 s (Nat.le_refl _) 37 (by decide) (by decide)
      · rw [nV 2 s (fun z => absurd z.1 (by decide)) (fun z => c z.2), ← r1 s (by omega) f hf]
        rcases (show f = 0 ∨ f = 1 ∨ f = 2 ∨ 3 ≤ f by omega) with rfl | rfl | rfl | hf3
        · show up2 (up2 (up2 a 31 ns p) 32 ns q) 33 ns u 31 s = a 31 s
          rw [b31, upd_ne _ _ c]
        · show up2 (up2 (up2 a 31 ns p) 32 ns q) 33 ns u 32 s = a 32 s
          rw [b32, upd_ne _ _ c]
        · show up2 (up2 (up2 a 31 ns p) 32 ns q) 33 ns u 33 s = a 33 s
          rw [b33, upd_ne _ _ c]
        · have := (by decide : ∀ f, f < 7 → 3 ≤ f → sF f ≠ 31 ∧ sF f ≠ 32 ∧ sF f ≠ 33) f hf hf3
          rw [n _ this.1 this.2.1 this.2.2]
    · rw [n k (by omega) (by omega) (by omega)]; exact r2 s (by omega) k k1 k2
    · by_cases c : s = ns
      · subst c
        have i1 := in_nat (m := m) rfl (by omega) c1.1
        have i2 := in_nat (m := m) rfl (by omega) c2.1
        have i3 := in_nat (m := m) rfl (by omega) c3.1
        rw [b31, b32, b33, upd_eq, upd_eq, upd_eq, n 34 (by decide) (by decide) (by decide)]
        exact ⟨⟨_, i1.2, i1.1⟩, ⟨_, i2.2, i2.1⟩, ⟨_, i3.2, i3.1⟩, Or.inl (r2 s (Nat.le_refl _) 34 (by decide) (by decide))⟩
      · rw [b31, b32, b33, upd_ne _ _ c, upd_ne _ _ c, upd_ne _ _ c, n 34 (by decide) (by decide) (by decide)]
        exact r3 s (by omega)
