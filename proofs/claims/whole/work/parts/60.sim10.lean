/-! ===== SIM 10: person ===== -/
theorem adC_12 {VL : VLt} {M c : Nat} {x s : Int32} (hM : M ≤ 61) (hc : c < 64) {p : Nat} (hp : p < M) (b : Nat) : bt6 (adC VL M x c s 1 p 12) b = true ↔ bt6 (VL 1 p 12) b = true ∨ (s = 0 ∧ x = nI p ∧ c = b) := by
  unfold adC
  by_cases hx : 0 ≤ x ∧ x ≤ nI M - 1
  · rw [if_pos hx]
    obtain ⟨e1, e2⟩ := in_nat rfl (by omega) hx
    unfold adK
    by_cases hs : s = 0
    · rw [if_pos hs]
      by_cases hpx : p = x.toNatClampNeg
      · subst hpx
        rw [up3_eq, va_up_self, bt6_or, Bool.or_eq_true, bt6_one hc, decide_eq_true_eq]
        exact ⟨fun z => z.imp id (fun z => ⟨hs, e1, z⟩), fun z => z.imp id (fun z => z.2.2)⟩
      · rw [up3_ne _ _ _ (fun z => hpx z.2)]
        exact ⟨Or.inl, fun z => z.elim id (fun z => absurd (by rw [z.2.1, nI_clamp (by omega)]) hpx)⟩
    · rw [if_neg hs]
      by_cases hpx : p = x.toNatClampNeg
      · subst hpx
        rw [up3_eq, va_up_ne _ _ (by decide)]
        exact ⟨Or.inl, fun z => z.elim id (fun z => absurd z.1 hs)⟩
      · rw [up3_ne _ _ _ (fun z => hpx z.2)]
        exact ⟨Or.inl, fun z => z.elim id (fun z => absurd z.1 hs)⟩
  · rw [if_neg hx]
    exact ⟨Or.inl, fun z => z.elim id (fun z => absurd (by rw [z.2.1]; exact nat_in rfl (by omega) hp) hx)⟩
theorem adC_13 {VL : VLt} {M c : Nat} {x s : Int32} (hM : M ≤ 61) (hc : c < 64) {p : Nat} (hp : p < M) (b : Nat) : bt6 (adC VL M x c s 1 p 13) b = true ↔ bt6 (VL 1 p 13) b = true ∨ (¬ s = 0 ∧ x = nI p ∧ c = b) := by
  unfold adC
  by_cases hx : 0 ≤ x ∧ x ≤ nI M - 1
  · rw [if_pos hx]
    obtain ⟨e1, e2⟩ := in_nat rfl (by omega) hx
    unfold adK
    by_cases hs : s = 0
    · rw [if_pos hs]
      by_cases hpx : p = x.toNatClampNeg
      · subst hpx
        rw [up3_eq, va_up_ne _ _ (by decide)]
        exact ⟨Or.inl, fun z => z.elim id (fun z => absurd hs z.1)⟩
      · rw [up3_ne _ _ _ (fun z => hpx z.2)]
        exact ⟨Or.inl, fun z => z.elim id (fun z => absurd hs z.1)⟩
    · rw [if_neg hs]
      by_cases hpx : p = x.toNatClampNeg
      · subst hpx
        rw [up3_eq, va_up_self, bt6_or, Bool.or_eq_true, bt6_one hc, decide_eq_true_eq]
        exact ⟨fun z => z.imp id (fun z => ⟨hs, e1, z⟩), fun z => z.imp id (fun z => z.2.2)⟩
      · rw [up3_ne _ _ _ (fun z => hpx z.2)]
        exact ⟨Or.inl, fun z => z.elim id (fun z => absurd (by rw [z.2.1, nI_clamp (by omega)]) hpx)⟩
  · rw [if_neg hx]
    exact ⟨Or.inl, fun z => z.elim id (fun z => absurd (by rw [z.2.1]; exact nat_in rfl (by omega) hp) hx)⟩
theorem in01 {x : Int32} : (x = 0 ∨ x = 1) ↔ (0 ≤ x ∧ x ≤ 1) := by
  constructor
  · rintro (rfl | rfl) <;> decide
  · intro h
    obtain ⟨h1, h2⟩ := in_nat (m := 2) (x := nI 2) (p := x) rfl (by decide) ⟨h.1, h.2⟩
    rw [h1]
    rcases (show x.toNatClampNeg = 0 ∨ x.toNatClampNeg = 1 by omega) with e | e <;> rw [e] <;> decide
theorem s_person {D r m ns : Nat} {V : VTt} {VL : VLt} {ch : Nat → List Rt} {i : Nat → Int32} {a : Ar} {cr : Nat → List Rt} (h : Rel D r m ns V VL ch i a cr) (sx f g : Int32) : (((sx = 0 ∨ sx = 1) ∧ (f = -1 ∨ isPc m f ∧ V 1 f.toNatClampNeg 0 = 0) ∧ (g = -1 ∨ isPc m g ∧ V 1 g.toNatClampNeg 0 = 1) ∧ m < 60) ↔ ((0 ≤ sx ∧ sx ≤ 1) ∧ (f = -1 ∨ isP i f ∧ a 9 f.toNatClampNeg = 0) ∧ (g = -1 ∨ isP i g ∧ a 9 g.toNatClampNeg = 1) ∧ ¬ i 22 = 60)) ∧ (((sx = 0 ∨ sx = 1) ∧ (f = -1 ∨ isPc m f ∧ V 1 f.toNatClampNeg 0 = 0) ∧ (g = -1 ∨ isPc m g ∧ V 1 g.toNatClampNeg 0 = 1) ∧ m < 60) → Rel D r (m + 1) ns (up3 (up0 V 1 m (npV sx f g (V 0 7 0))) 0 3 1 (nI m + 1)) (adC (adC (up0 VL 1 m (fun _ => 0)) (m + 1) f m sx) (m + 1) g m sx) ch (upd i 22 (i 22 + 1)) (up2 (up2 (up2 (up2 (up2 (up2 a 9 m sx) 10 m f) 11 m g) 12 m (-1)) 13 m (i 8)) 20 m 1) cr) := by
  obtain ⟨h1, h2, h3, h4, h5, h6, h7⟩ := h
  have hm := h1.2.1.2
  have h60 := h1.1.1
  have ep : ∀ (x s : Int32), (x = -1 ∨ isPc m x ∧ V 1 x.toNatClampNeg 0 = s) ↔ (x = -1 ∨ isP i x ∧ a 9 x.toNatClampNeg = s) := fun x s => by
    unfold isP
    rw [hm]
    refine or_congr Iff.rfl ⟨fun z => ⟨z.1, ?_⟩, fun z => ⟨z.1, ?_⟩⟩
    · rw [show a 9 = a (pF 0) from rfl, h2.1 _ (in_nat rfl (by omega) z.1).2 0 (by decide)]; exact z.2
    · rw [← h2.1 _ (in_nat rfl (by omega) z.1).2 0 (by decide)]; exact z.2
  have e60 : m < 60 ↔ ¬ i 22 = 60 := by
    rw [hm, show (60 : Int32) = nI 60 from rfl, nI_eq (by omega) (by decide)]; omega
  refine ⟨and_congr in01 (and_congr (ep f 0) (and_congr (ep g 1) e60)), fun hc => ?_⟩
  obtain ⟨c1, c2, c3, c4⟩ := hc
  generalize hA : up2 (up2 (up2 (up2 (up2 (up2 a 9 m sx) 10 m f) 11 m g) 12 m (-1)) 13 m (i 8)) 20 m 1 = A
  have A9 : A 9 = upd (a 9) m sx := by rw [← hA, up2_ne _ _ _ (by decide), up2_ne _ _ _ (by decide), up2_ne _ _ _ (by decide), up2_ne _ _ _ (by decide), up2_ne _ _ _ (by decide), up2_eq]
  have A10 : A 10 = upd (a 10) m f := by rw [← hA, up2_ne _ _ _ (by decide), up2_ne _ _ _ (by decide), up2_ne _ _ _ (by decide), up2_ne _ _ _ (by decide), up2_eq, up2_ne _ _ _ (by decide)]
  have A11 : A 11 = upd (a 11) m g := by rw [← hA, up2_ne _ _ _ (by decide), up2_ne _ _ _ (by decide), up2_ne _ _ _ (by decide), up2_eq, up2_ne _ _ _ (by decide), up2_ne _ _ _ (by decide)]
  have A12 : A 12 = upd (a 12) m (-1) := by rw [← hA, up2_ne _ _ _ (by decide), up2_ne _ _ _ (by decide), up2_eq, up2_ne _ _ _ (by decide), up2_ne _ _ _ (by decide), up2_ne _ _ _ (by decide)]
  have A13 : A 13 = upd (a 13) m (i 8) := by rw [← hA, up2_ne _ _ _ (by decide), up2_eq, up2_ne _ _ _ (by decide), up2_ne _ _ _ (by decide), up2_ne _ _ _ (by decide), up2_ne _ _ _ (by decide)]
  have A20 : A 20 = upd (a 20) m 1 := by rw [← hA, up2_eq, up2_ne _ _ _ (by decide), up2_ne _ _ _ (by decide), up2_ne _ _ _ (by decide), up2_ne _ _ _ (by decide), up2_ne _ _ _ (by decide)]
  have n : ∀ k, (k < 9 ∨ 13 < k) → k ≠ 20 → A k = a k := fun k hk k20 => by rw [← hA, up2_ne _ _ _ k20, up2_ne _ _ _ (by omega), up2_ne _ _ _ (by omega), up2_ne _ _ _ (by omega), up2_ne _ _ _ (by omega), up2_ne _ _ _ (by omega)]
  clear hA
  have old : ∀ k p, p < m → A k p = a k p := fun k p hp => by
    have hne : p ≠ m := by omega
    by_cases k9 : k = 9
    · subst k9; rw [A9, upd_ne _ _ hne]
    · by_cases k10 : k = 10
      · subst k10; rw [A10, upd_ne _ _ hne]
      · by_cases k11 : k = 11
        · subst k11; rw [A11, upd_ne _ _ hne]
        · by_cases k12 : k = 12
          · subst k12; rw [A12, upd_ne _ _ hne]
          · by_cases k13 : k = 13
            · subst k13; rw [A13, upd_ne _ _ hne]
            · by_cases k20 : k = 20
              · subst k20; rw [A20, upd_ne _ _ hne]
              · rw [n k (by omega) k20]
  have par : ∀ (x s : Int32), (x = -1 ∨ isPc m x ∧ V 1 x.toNatClampNeg 0 = s) → x = -1 ∨ ∃ q, q < m ∧ x = nI q := fun x s hx => hx.imp id (fun z => ⟨_, (in_nat rfl (by omega) z.1).2, (in_nat rfl (by omega) z.1).1⟩)
  have kV : ∀ t k, ¬ (t = 0 ∧ k = 3) → ¬ (t = 1 ∧ k = m) → up3 (up0 V 1 m (npV sx f g (V 0 7 0))) 0 3 1 (nI m + 1) t k = V t k := fun t k z1 z2 => by rw [up3_ne _ _ _ z1, up0_ne _ _ z2]
  have kVm : up3 (up0 V 1 m (npV sx f g (V 0 7 0))) 0 3 1 (nI m + 1) 1 m = npV sx f g (V 0 7 0) := by rw [up3_ne _ _ _ (fun z => absurd z.1 (by decide)), up0_eq]
  have chn : ∀ c p, c < m → (chd A c p ↔ chd a c p) := fun c p hcm => by unfold chd; rw [old 10 c hcm, old 11 c hcm]
  have chm : ∀ p, chd A m p ↔ (f = nI p ∨ g = nI p) := fun p => by unfold chd; rw [A10, A11, upd_eq, upd_eq]
  refine ⟨?_, ⟨fun p hp q hq => ?_, fun p hp k k1 k2 => ?_, fun p hp => ?_⟩, ?_, ?_, ?_, ?_, h7.fr (n 29 (by decide) (by decide)) (n 30 (by decide) (by decide))⟩
  · obtain ⟨q1, q2, q3, q4, q5, q6, q7, q8, q9⟩ := h1
    have ni : ∀ k, k ≠ 22 → upd i 22 (i 22 + 1) k = i k := fun k hk => upd_ne _ _ hk
    unfold RI
    rw [kV 0 7 (by decide) (by omega), kV 0 2 (by decide) (by omega), kV 0 0 (by decide) (by omega), ni 38 (by decide), ni 8 (by decide), ni 28 (by decide), ni 7 (by decide), ni 23 (by decide), ni 0 (by decide), ni 1 (by decide), ni 5 (by decide), ni 6 (by decide), ni 2 (by decide), ni 3 (by decide), ni 4 (by decide)]
    refine ⟨⟨by omega, q1.2⟩, ⟨?_, ?_⟩, q3, q4, q5, q6, q7, q8, q9⟩
    · rw [up3_eq, va_up_self, nI_succ]
    · rw [upd_eq, q2.2, nI_succ]
  · by_cases c : p = m
    · subst c
      rw [kVm]
      have z := fun k k1 k2 => h2.2.1 p (Nat.le_refl _) k k1 k2
      rcases (show q = 0 ∨ q = 1 ∨ q = 2 ∨ q = 3 ∨ q = 4 ∨ q = 5 ∨ q = 6 ∨ q = 7 ∨ q = 8 ∨ q = 9 ∨ q = 10 ∨ q = 11 by omega) with rfl | rfl | rfl | rfl | rfl | rfl | rfl | rfl | rfl | rfl | rfl | rfl
      · show A 9 p = sx
        rw [A9, upd_eq]
      · show A 10 p = f
        rw [A10, upd_eq]
      · show A 11 p = g
        rw [A11, upd_eq]
      · show A 13 p = V 0 7 0
        rw [A13, upd_eq, h1.2.2.2.1.1, h1.2.2.2.1.2]
      · show A 20 p = 1
        rw [A20, upd_eq]
      · show A 12 p = -1
        rw [A12, upd_eq]
      · show A 14 p = 0
        rw [n 14 (by decide) (by decide)]; exact z 14 (by decide) (by decide)
      · show A 15 p = 0
        rw [n 15 (by decide) (by decide)]; exact z 15 (by decide) (by decide)
      · show A 16 p = 0
        rw [n 16 (by decide) (by decide)]; exact z 16 (by decide) (by decide)
      · show A 17 p = 0
        rw [n 17 (by decide) (by decide)]; exact z 17 (by decide) (by decide)
      · show A 18 p = 0
        rw [n 18 (by decide) (by decide)]; exact z 18 (by decide) (by decide)
      · show A 19 p = 0
        rw [n 19 (by decide) (by decide)]; exact z 19 (by decide) (by decide)
    · rw [kV 1 p (fun z => absurd z.1 (by decide)) (fun z => c z.2), old _ p (by omega)]
      exact h2.1 p (by omega) q hq
  · by_cases k20 : k = 20
    · subst k20; rw [A20, upd_ne _ _ (by omega)]; exact h2.2.1 p (by omega) 20 k1 k2
    · rw [n k (by omega) k20]; exact h2.2.1 p (by omega) k k1 k2
  · rw [n 19 (by decide) (by decide)]
    by_cases c : p = m
    · subst c
      exact ⟨0, by decide, h2.2.1 p (Nat.le_refl _) 19 (by decide) (by decide)⟩
    · exact h2.2.2 p (by omega)
  · obtain ⟨r1, r2, r3⟩ := h3.fr (V' := up3 (up0 V 1 m (npV sx f g (V 0 7 0))) 0 3 1 (nI m + 1)) (a' := A) (fun s _ => kV 2 s (fun z => absurd z.1 (by decide)) (fun z => absurd z.1 (by decide))) (fun k k1 k2 => n k (by omega) (by omega))
    refine ⟨r1, r2, fun s hs => ?_⟩
    obtain ⟨⟨b0, y0, z0⟩, ⟨b1, y1, z1⟩, ⟨b2, y2, z2⟩, w⟩ := r3 s hs
    exact ⟨⟨b0, by omega, z0⟩, ⟨b1, by omega, z1⟩, ⟨b2, by omega, z2⟩, w⟩
  · obtain ⟨k1, k2, k3, k4, k5, k6⟩ := h4
    have hpf := par f 0 c2
    have hpg := par g 1 c3
    have u0 : ∀ p F, up0 VL 1 m (fun _ => 0) 1 p F = if p = m then 0 else VL 1 p F := fun p F => by
      by_cases z : p = m
      · subst z; rw [up0_eq, if_pos rfl]
      · rw [up0_ne _ _ (fun y => z y.2), if_neg z]
    have noC : ∀ c, c < m → ¬ chd a c m := fun c hcm z => by
      unfold chd at z
      obtain ⟨q1, q2⟩ := k4 c hcm
      rcases z with z | z
      · rcases q1 with y | ⟨q, u1, u2⟩
        · rw [y] at z; exact nI_nm1 (by omega) z.symm
        · rw [u2, nI_eq (by omega) (by omega)] at z; omega
      · rcases q2 with y | ⟨q, u1, u2⟩
        · rw [y] at z; exact nI_nm1 (by omega) z.symm
        · rw [u2, nI_eq (by omega) (by omega)] at z; omega
    have sx1 : ¬ sx = 0 ↔ sx = 1 := by
      rcases c1 with rfl | rfl <;> decide
    refine ⟨fun p c hp => ?_, fun p c hp => ?_, fun c hcm => ?_, fun p hp => ?_, fun c p hcm hpm hch => ?_, fun p hp => ?_⟩
    · rw [adC_12 (by omega) (by omega) hp, adC_12 (by omega) (by omega) hp, u0]
      by_cases cm : c = m
      · subst cm
        rw [A9, upd_eq, chm]
        constructor
        · rintro ((z | z) | z)
          · exfalso
            by_cases pm : p = c
            · rw [if_pos pm, bt6_z] at z; cases z
            · rw [if_neg pm] at z; have := ((k1 p c (by omega)).mp z).1; omega
          · exact ⟨by omega, z.1, Or.inl z.2.1⟩
          · exact ⟨by omega, z.1, Or.inr z.2.1⟩
        · rintro ⟨-, z1, z2 | z2⟩
          · exact Or.inl (Or.inr ⟨z1, z2, rfl⟩)
          · exact Or.inr ⟨z1, z2, rfl⟩
      · constructor
        · rintro ((z | z) | z)
          · by_cases pm : p = m
            · rw [if_pos pm, bt6_z] at z; cases z
            · rw [if_neg pm] at z
              obtain ⟨y1, y2, y3⟩ := (k1 p c (by omega)).mp z
              exact ⟨by omega, by rw [old 9 c y1]; exact y2, (chn c p y1).mpr y3⟩
          · exact absurd z.2.2.symm cm
          · exact absurd z.2.2.symm cm
        · rintro ⟨z1, z2, z3⟩
          have hcm : c < m := by omega
          rw [old 9 c hcm] at z2
          rw [chn c p hcm] at z3
          left; left
          by_cases pm : p = m
          · subst pm
            exact absurd z3 (noC c hcm)
          · rw [if_neg pm]; exact (k1 p c (by omega)).mpr ⟨hcm, z2, z3⟩
    · rw [adC_13 (by omega) (by omega) hp, adC_13 (by omega) (by omega) hp, u0]
      by_cases cm : c = m
      · subst cm
        rw [A9, upd_eq, chm, sx1]
        constructor
        · rintro ((z | z) | z)
          · exfalso
            by_cases pm : p = c
            · rw [if_pos pm, bt6_z] at z; cases z
            · rw [if_neg pm] at z; have := ((k2 p c (by omega)).mp z).1; omega
          · exact ⟨by omega, z.1, Or.inl z.2.1⟩
          · exact ⟨by omega, z.1, Or.inr z.2.1⟩
        · rintro ⟨-, z1, z2 | z2⟩
          · exact Or.inl (Or.inr ⟨z1, z2, rfl⟩)
          · exact Or.inr ⟨z1, z2, rfl⟩
      · constructor
        · rintro ((z | z) | z)
          · by_cases pm : p = m
            · rw [if_pos pm, bt6_z] at z; cases z
            · rw [if_neg pm] at z
              obtain ⟨y1, y2, y3⟩ := (k2 p c (by omega)).mp z
              exact ⟨by omega, by rw [old 9 c y1]; exact y2, (chn c p y1).mpr y3⟩
          · exact absurd z.2.2.symm cm
          · exact absurd z.2.2.symm cm
        · rintro ⟨z1, z2, z3⟩
          have hcm : c < m := by omega
          rw [old 9 c hcm] at z2
          rw [chn c p hcm] at z3
          left; left
          by_cases pm : p = m
          · subst pm
            exact absurd z3 (noC c hcm)
          · rw [if_neg pm]; exact (k2 p c (by omega)).mpr ⟨hcm, z2, z3⟩
    · by_cases cm : c = m
      · subst cm; rw [A9, upd_eq]; exact c1
      · rw [old 9 c (by omega)]; exact k3 c (by omega)
    · by_cases pm : p = m
      · subst pm
        rw [A10, A11, upd_eq, upd_eq]
        exact ⟨hpf.imp id (fun ⟨q, q1, q2⟩ => ⟨q, by omega, q2⟩), hpg.imp id (fun ⟨q, q1, q2⟩ => ⟨q, by omega, q2⟩)⟩
      · rw [old 10 p (by omega), old 11 p (by omega)]
        exact ⟨(k4 p (by omega)).1.imp id (fun ⟨q, q1, q2⟩ => ⟨q, by omega, q2⟩), (k4 p (by omega)).2.imp id (fun ⟨q, q1, q2⟩ => ⟨q, by omega, q2⟩)⟩
    · by_cases cm : c = m
      · subst cm
        rw [chm] at hch
        rcases hch with z | z
        · rcases hpf with y | ⟨q, q1, q2⟩
          · rw [y] at z; exact absurd z.symm (nI_nm1 (by omega))
          · rw [q2, nI_eq (by omega) (by omega)] at z; omega
        · rcases hpg with y | ⟨q, q1, q2⟩
          · rw [y] at z; exact absurd z.symm (nI_nm1 (by omega))
          · rw [q2, nI_eq (by omega) (by omega)] at z; omega
      · rw [chn c p (by omega)] at hch
        by_cases pm : p = m
        · subst pm; exact absurd hch (noC c (by omega))
        · exact k5 c p (by omega) (by omega) hch
    · by_cases pm : p = m
      · subst pm; rw [A20, upd_eq]; exact Or.inr rfl
      · rw [old 20 p (by omega)]; exact k6 p (by omega)
  · intro p hp
    by_cases pm : p = m
    · subst pm; rw [A12, upd_eq]; exact Or.inl rfl
    · rw [old 12 p (by omega), old 20 p (by omega)]
      refine (h5 p (by omega)).imp id (fun ⟨w, w1, w2, w3, w4, w5⟩ => ⟨w, by omega, w2, by rw [old 12 w w1]; exact w3, w4, w5⟩)
  · refine ⟨fun s hs => ?_, h6.2⟩
    obtain ⟨l1, l2, l3, l4⟩ := h6.1 s hs
    refine ⟨l1, l2.imp id (fun ⟨q, q1, q2, q3⟩ => ⟨q, by omega, q2, by rw [old 20 q q1]; exact q3⟩), fun z => ?_, l4⟩
    obtain ⟨g', p', y1, y2, y3, y4, y5, y6⟩ := l3 z
    exact ⟨g', p', y1, by omega, by rw [old 20 g' y2]; exact y3, y4, by omega, by rw [old 12 p' y5]; exact y6⟩
