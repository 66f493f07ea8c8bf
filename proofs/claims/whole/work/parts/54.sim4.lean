/-! ===== SIM 4: the relation ===== -/
abbrev VTt : Type := Nat → Nat → Nat → Int32
abbrev VLt : Type := Nat → Nat → Nat → Int64
def RI (D r m ns : Nat) (V : VTt) (i : Nat → Int32) : Prop := (m ≤ 60 ∧ ns ≤ 40 ∧ D ≤ 40000) ∧ (V 0 3 1 = nI m ∧ i 22 = nI m) ∧ (V 0 7 7 = nI ns ∧ i 38 = nI ns) ∧ (V 0 7 0 = nI D ∧ i 8 = nI D) ∧ (V 0 2 1 = nI r ∧ i 28 = nI r) ∧ (V 0 7 2 = i 7 ∧ V 0 7 8 = i 23) ∧ (V 0 0 0 = i 0 ∧ V 0 0 1 = i 1 ∧ V 0 0 2 = i 5 ∧ V 0 0 3 = i 6 ∧ V 0 0 4 = i 2 ∧ V 0 0 5 = i 3 ∧ V 0 0 6 = i 4) ∧ (i 0 = 0 ∨ i 0 = 1 ∨ i 0 = 2) ∧ ∃ wd, wd ≤ 12 ∧ i 1 = nI wd
def pF (f : Nat) : Nat := match f with
  | 0 => 9 | 1 => 10 | 2 => 11 | 3 => 13 | 4 => 20 | 5 => 12 | 6 => 14 | 7 => 15 | 8 => 16 | 9 => 17 | 10 => 18 | _ => 19
def sF (f : Nat) : Nat := match f with
  | 0 => 31 | 1 => 32 | 2 => 33 | 3 => 35 | 4 => 34 | 5 => 36 | _ => 37
theorem pF_inj : ∀ f, f < 12 → ∀ g, g < 12 → pF f = pF g → f = g := by decide
theorem pF_r : ∀ f, f < 12 → 9 ≤ pF f ∧ pF f ≤ 20 := by decide
theorem sF_inj : ∀ f, f < 7 → ∀ g, g < 7 → sF f = sF g → f = g := by decide
theorem sF_r : ∀ f, f < 7 → 31 ≤ sF f ∧ sF f ≤ 37 := by decide
def RP (m : Nat) (V : VTt) (a : Ar) : Prop := (∀ p, p < m → ∀ f, f < 12 → a (pF f) p = V 1 p f) ∧ (∀ p, m ≤ p → ∀ k, 14 ≤ k → k ≤ 20 → a k p = 0) ∧ ∀ p, p < m → ∃ z, z ≤ 60 ∧ a 19 p = nI z
def RS (m ns : Nat) (V : VTt) (a : Ar) : Prop := (∀ s, s < ns → ∀ f, f < 7 → a (sF f) s = V 2 s f) ∧ (∀ s, ns ≤ s → ∀ k, 34 ≤ k → k ≤ 37 → a k s = 0) ∧ ∀ s, s < ns → (∃ b, b < m ∧ a 31 s = nI b) ∧ (∃ b, b < m ∧ a 32 s = nI b) ∧ (∃ b, b < m ∧ a 33 s = nI b) ∧ (a 34 s = 0 ∨ a 34 s = 1 ∨ a 34 s = 2 ∨ a 34 s = 3)
def RK (m : Nat) (VL : VLt) (a : Ar) : Prop := (∀ p c, p < m → (bt6 (VL 1 p 12) c = true ↔ c < m ∧ a 9 c = 0 ∧ chd a c p)) ∧ (∀ p c, p < m → (bt6 (VL 1 p 13) c = true ↔ c < m ∧ a 9 c = 1 ∧ chd a c p)) ∧ (∀ c, c < m → a 9 c = 0 ∨ a 9 c = 1) ∧ (∀ p, p < m → (a 10 p = -1 ∨ ∃ f, f < m ∧ a 10 p = nI f) ∧ (a 11 p = -1 ∨ ∃ f, f < m ∧ a 11 p = nI f)) ∧ kinOk a m ∧ ∀ p, p < m → a 20 p = 0 ∨ a 20 p = 1
def RM (m : Nat) (a : Ar) : Prop := ∀ p, p < m → a 12 p = -1 ∨ ∃ w, w < m ∧ a 12 p = nI w ∧ a 12 w = nI p ∧ ¬ a 20 p = 0 ∧ ¬ w = p
abbrev dyC (D : Nat) (c : List Rt) : Prop := (∀ e ∈ c, ∃ d, d ≤ D ∧ e.2.2 = nI d) ∧ c.Pairwise (fun e f => f.2.2 ≤ e.2.2) ∧ ∃ e ∈ c, e.2.2 = nI 0
def RLd (D m : Nat) (a : Ar) (ch : Nat → List Rt) : Prop := (∀ s, s < 120 → ¬ ch s = [] ∧ ((hdR ch s).1 = -1 ∨ ∃ p, p < m ∧ (hdR ch s).1 = nI p ∧ ¬ a 20 p = 0) ∧ ((hdR ch s).2.1 = 3 → ∃ g p, gv2 (ch s) = nI g ∧ g < m ∧ a 20 g = 0 ∧ (hdR ch s).1 = nI p ∧ p < m ∧ a 12 p = -1) ∧ dyC D (ch s)) ∧ ∀ s s', s < 120 → s' < 120 → (hdR ch s).2.1 = 3 → (hdR ch s').2.1 = 3 → (hdR ch s).1 = (hdR ch s').1 → gv2 (ch s) = gv2 (ch s')
def Rel (D r m ns : Nat) (V : VTt) (VL : VLt) (ch : Nat → List Rt) (i : Nat → Int32) (a : Ar) (cr : Nat → List Rt) : Prop := RI D r m ns V i ∧ RP m V a ∧ RS m ns V a ∧ RK m VL a ∧ RM m a ∧ RLd D m a ch ∧ LR (lsOf a cr r) ch
theorem RP.up {m : Nat} {V : VTt} {a : Ar} (h : RP m V a) {j f : Nat} (hj : j < m) (hf : f < 12) (v : Int32) (hv : f = 11 → ∃ z, z ≤ 60 ∧ v = nI z) : RP m (up3 V 1 j f v) (up2 a (pF f) j v) := by
  refine ⟨fun p hp g hg => ?_, fun p hp k k1 k2 => ?_, fun p hp => ?_⟩
  · by_cases c : p = j
    · subst c
      rw [up3_eq]
      by_cases e : g = f
      · subst e; rw [up2_eq, upd_eq, va_up_self]
      · rw [up2_ne _ _ _ (fun z => e (pF_inj g hg f hf z)), va_up_ne _ _ e]; exact h.1 p hp g hg
    · rw [up3_ne _ _ _ (fun z => c z.2)]
      by_cases e : pF g = pF f
      · rw [e, up2_eq, upd_ne _ _ c, ← e]; exact h.1 p hp g hg
      · rw [up2_ne _ _ _ e]; exact h.1 p hp g hg
  · by_cases e : k = pF f
    · rw [e, up2_eq, upd_ne _ _ (by omega), ← e]; exact h.2.1 p hp k k1 k2
    · rw [up2_ne _ _ _ e]; exact h.2.1 p hp k k1 k2
  · by_cases e : f = 11
    · subst e
      show ∃ z, z ≤ 60 ∧ up2 a 19 j v 19 p = nI z
      rw [up2_eq]
      by_cases c : p = j
      · subst c; rw [upd_eq]; exact hv rfl
      · rw [upd_ne _ _ c]; exact h.2.2 p hp
    · rw [show up2 a (pF f) j v 19 = a 19 from up2_ne _ _ _ (fun z => e (pF_inj f hf 11 (by decide) z.symm))]; exact h.2.2 p hp
theorem RP.fr {m : Nat} {V V' : VTt} {a a' : Ar} (h : RP m V a) (hV : ∀ p f, p < m → V' 1 p f = V 1 p f) (ha : ∀ k, 9 ≤ k → k ≤ 20 → a' k = a k) : RP m V' a' := ⟨fun p hp f hf => by rw [ha _ (pF_r f hf).1 (pF_r f hf).2, hV p f hp]; exact h.1 p hp f hf, fun p hp k k1 k2 => by rw [ha k (by omega) k2]; exact h.2.1 p hp k k1 k2, fun p hp => by rw [ha 19 (by decide) (by decide)]; exact h.2.2 p hp⟩
theorem RS.fr {m ns : Nat} {V V' : VTt} {a a' : Ar} (h : RS m ns V a) (hV : ∀ s, s < ns → V' 2 s = V 2 s) (ha : ∀ k, 31 ≤ k → k ≤ 37 → a' k = a k) : RS m ns V' a' := by
  refine ⟨fun s hs f hf => by rw [ha _ (sF_r f hf).1 (sF_r f hf).2, hV s hs]; exact h.1 s hs f hf, fun s hs k k1 k2 => by rw [ha k (by omega) k2]; exact h.2.1 s hs k k1 k2, fun s hs => ?_⟩
  rw [ha 31 (by omega) (by omega), ha 32 (by omega) (by omega), ha 33 (by omega) (by omega), ha 34 (by omega) (by omega)]
  exact h.2.2 s hs
theorem RS.up {m ns : Nat} {V : VTt} {a : Ar} (h : RS m ns V a) {k f : Nat} (hk : k < ns) (hf : f < 7) (hf3 : 3 ≤ f) (v : Int32) (hv : f = 4 → (v = 0 ∨ v = 1 ∨ v = 2 ∨ v = 3)) : RS m ns (up3 V 2 k f v) (up2 a (sF f) k v) := by
  have n31 : ∀ g, g < 3 → up2 a (sF f) k v (sF g) = a (sF g) := fun g hg => up2_ne _ _ _ (fun z => by have := sF_inj g (by omega) f hf z; omega)
  refine ⟨fun s hs g hg => ?_, fun s hs q k1 k2 => ?_, fun s hs => ?_⟩
  · by_cases c : s = k
    · subst c
      rw [up3_eq]
      by_cases e : g = f
      · subst e; rw [up2_eq, upd_eq, va_up_self]
      · rw [up2_ne _ _ _ (fun z => e (sF_inj g hg f hf z)), va_up_ne _ _ e]; exact h.1 s hs g hg
    · rw [up3_ne _ _ _ (fun z => c z.2)]
      by_cases e : sF g = sF f
      · rw [e, up2_eq, upd_ne _ _ c, ← e]; exact h.1 s hs g hg
      · rw [up2_ne _ _ _ e]; exact h.1 s hs g hg
  · by_cases e : q = sF f
    · rw [e, up2_eq, upd_ne _ _ (by omega), ← e]; exact h.2.1 s hs q k1 k2
    · rw [up2_ne _ _ _ e]; exact h.2.1 s hs q k1 k2
  · obtain ⟨g1, g2, g3, g4⟩ := h.2.2 s hs
    refine ⟨by rw [show (31 : Nat) = sF 0 from rfl, n31 0 (by decide)]; exact g1, by rw [show (32 : Nat) = sF 1 from rfl, n31 1 (by decide)]; exact g2, by rw [show (33 : Nat) = sF 2 from rfl, n31 2 (by decide)]; exact g3, ?_⟩
    by_cases e : f = 4
    · subst e
      show up2 a 34 k v 34 s = 0 ∨ up2 a 34 k v 34 s = 1 ∨ up2 a 34 k v 34 s = 2 ∨ up2 a 34 k v 34 s = 3
      rw [up2_eq]
      by_cases c : s = k
      · subst c; rw [upd_eq]; exact hv rfl
      · rw [upd_ne _ _ c]; exact g4
    · rw [show up2 a (sF f) k v 34 = a 34 from up2_ne _ _ _ (fun z => e (sF_inj f hf 4 (by decide) (z.symm)))]; exact g4
theorem RK.fr {m : Nat} {VL VL' : VLt} {a a' : Ar} (h : RK m VL a) (hV : ∀ p, p < m → VL' 1 p = VL 1 p) (h9 : a' 9 = a 9) (h10 : a' 10 = a 10) (h11 : a' 11 = a 11) (h20 : a' 20 = a 20) : RK m VL' a' := by
  obtain ⟨g1, g2, g3, g4, g5, g6⟩ := h
  have hc : ∀ x y, chd a' x y ↔ chd a x y := fun x y => by unfold chd; rw [h10, h11]
  refine ⟨fun p c hp => by rw [hV p hp, h9, hc]; exact g1 p c hp, fun p c hp => by rw [hV p hp, h9, hc]; exact g2 p c hp, by rw [h9]; exact g3, by rw [h10, h11]; exact g4, fun c p hc1 hp9 hch => g5 c p hc1 hp9 ((hc c p).mp hch), by rw [h20]; exact g6⟩
theorem RM.fr {m : Nat} {a a' : Ar} (h : RM m a) (h12 : a' 12 = a 12) (h20 : a' 20 = a 20) : RM m a' := by
  unfold RM; rw [h12, h20]; exact h
theorem RLd.fr {D m : Nat} {a a' : Ar} {ch : Nat → List Rt} (h : RLd D m a ch) (h12 : a' 12 = a 12) (h20 : a' 20 = a 20) : RLd D m a' ch := by
  unfold RLd; rw [h12, h20]; exact h
theorem LR.fr {a a' : Ar} {cr : Nat → List Rt} {r r' : Nat} {ch : Nat → List Rt} (h : LR (lsOf a cr r) ch) (h29 : a' 29 = a 29) (h30 : a' 30 = a 30) : LR (lsOf a' cr r') ch := by
  intro s hs
  show cr s = ch s ∧ a' 29 s = _ ∧ a' 30 s = _
  rw [h29, h30]; exact h s hs
theorem RI.fr {D r r' m ns : Nat} {V V' : VTt} {i i' : Nat → Int32} (h : RI D r m ns V i) (h0 : V' 0 0 = V 0 0) (h3 : V' 0 3 = V 0 3) (h7 : V' 0 7 = V 0 7) (h2 : V' 0 2 1 = nI r') (hi : ∀ k, k < 39 → k ≠ 28 → i' k = i k) (h28 : i' 28 = nI r') : RI D r' m ns V' i' := by
  unfold RI at h ⊢
  rw [h0, h3, h7, hi 22 (by decide) (by decide), hi 38 (by decide) (by decide), hi 8 (by decide) (by decide), hi 7 (by decide) (by decide), hi 23 (by decide) (by decide), hi 0 (by decide) (by decide), hi 1 (by decide) (by decide), hi 5 (by decide) (by decide), hi 6 (by decide) (by decide), hi 2 (by decide) (by decide), hi 3 (by decide) (by decide), hi 4 (by decide) (by decide)]
  exact ⟨h.1, h.2.1, h.2.2.1, h.2.2.2.1, ⟨h2, h28⟩, h.2.2.2.2.2⟩
theorem RP.ka {m : Nat} {V : VTt} {VL : VLt} {a : Ar} (h : RP m V a) (hk : RK m VL a) : KA V VL a m := ⟨fun p hp => ⟨h.1 p hp 0 (by decide), h.1 p hp 1 (by decide), h.1 p hp 2 (by decide), h.1 p hp 4 (by decide)⟩, hk.1, hk.2.1⟩
theorem lv_iff {m : Nat} {V : VTt} {a : Ar} {i : Nat → Int32} (h : RP m V a) (hm : i 22 = nI m) (h60 : m ≤ 60) (p : Int32) : lvC V m p ↔ lvP i a p := by
  unfold lvC lvP isPc isP
  rw [hm]
  constructor
  · rintro ⟨h1, h2⟩
    exact ⟨h1, by rw [show a 20 = a (pF 4) from rfl, h.1 _ (in_nat rfl (by omega) h1).2 4 (by decide)]; exact h2⟩
  · rintro ⟨h1, h2⟩
    exact ⟨h1, by rw [← h.1 _ (in_nat rfl (by omega) h1).2 4 (by decide)]; exact h2⟩
/-- a person's field that is nobody's kin -/
theorem Rel.person {D r m ns : Nat} {V : VTt} {VL : VLt} {ch : Nat → List Rt} {i : Nat → Int32} {a : Ar} {cr : Nat → List Rt} (h : Rel D r m ns V VL ch i a cr) {j f : Nat} (hj : j < m) (hf : f < 12) (hf6 : 6 ≤ f) (v : Int32) (hv : f = 11 → ∃ z, z ≤ 60 ∧ v = nI z) : Rel D r m ns (up3 V 1 j f v) VL ch i (up2 a (pF f) j v) cr := by
  obtain ⟨h1, h2, h3, h4, h5, h6, h7⟩ := h
  have hp : 14 ≤ pF f ∧ pF f ≤ 19 := (by decide : ∀ f, f < 12 → 6 ≤ f → 14 ≤ pF f ∧ pF f ≤ 19) f hf hf6
  have n : ∀ k, (k < 14 ∨ 19 < k) → up2 a (pF f) j v k = a k := fun k hk => up2_ne _ _ _ (by omega)
  have nV : ∀ t, t ≠ 1 → up3 V 1 j f v t = V t := fun t ht => by funext x; exact up3_ne _ _ _ (fun z => ht z.1)
  refine ⟨?_, h2.up hj hf v hv, h3.fr (fun s hs => by rw [nV 2 (by decide)]) (fun k k1 k2 => n k (by omega)), h4.fr (fun _ _ => rfl) (n 9 (by omega)) (n 10 (by omega)) (n 11 (by omega)) (n 20 (by omega)), h5.fr (n 12 (by omega)) (n 20 (by omega)), h6.fr (n 12 (by omega)) (n 20 (by omega)), h7.fr (n 29 (by omega)) (n 30 (by omega))⟩
  unfold RI at h1 ⊢
  rw [nV 0 (by decide)]; exact h1
theorem Rel.suit {D r m ns : Nat} {V : VTt} {VL : VLt} {ch : Nat → List Rt} {i : Nat → Int32} {a : Ar} {cr : Nat → List Rt} (h : Rel D r m ns V VL ch i a cr) {k f : Nat} (hk : k < ns) (hf : f < 7) (hf3 : 3 ≤ f) (v : Int32) (hv : f = 4 → (v = 0 ∨ v = 1 ∨ v = 2 ∨ v = 3)) : Rel D r m ns (up3 V 2 k f v) VL ch i (up2 a (sF f) k v) cr := by
  obtain ⟨h1, h2, h3, h4, h5, h6, h7⟩ := h
  have hp := sF_r f hf
  have n : ∀ k', (k' < 31 ∨ 37 < k') → up2 a (sF f) k v k' = a k' := fun k' hk => up2_ne _ _ _ (by omega)
  have nV : ∀ t, t ≠ 2 → up3 V 2 k f v t = V t := fun t ht => by funext x; exact up3_ne _ _ _ (fun z => ht z.1)
  refine ⟨?_, h2.fr (fun p f _ => by rw [nV 1 (by decide)]) (fun k k1 k2 => n k (by omega)), h3.up hk hf hf3 v hv, h4.fr (fun _ _ => rfl) (n 9 (by omega)) (n 10 (by omega)) (n 11 (by omega)) (n 20 (by omega)), h5.fr (n 12 (by omega)) (n 20 (by omega)), h6.fr (n 12 (by omega)) (n 20 (by omega)), h7.fr (n 29 (by omega)) (n 30 (by omega))⟩
  unfold RI at h1 ⊢
  rw [nV 0 (by decide)]; exact h1
/-- the reference's scratch rows and numbers, the class's scratch -/
theorem Rel.scr {D r m ns : Nat} {V V' : VTt} {VL VL' : VLt} {ch : Nat → List Rt} {i i' : Nat → Int32} {a a' : Ar} {cr : Nat → List Rt} (h : Rel D r m ns V VL ch i a cr) (hS : SQ V VL V' VL') (hr : V' 0 2 1 = nI r) (hi : ∀ k, k < 39 → i' k = i k) (ha : ∀ k, k ≠ 21 → k ≠ 39 → k ≠ 43 → a' k = a k) : Rel D r m ns V' VL' ch i' a' cr := by
  obtain ⟨h1, h2, h3, h4, h5, h6, h7⟩ := h
  have n : ∀ k, k ≠ 21 → k ≠ 39 → k ≠ 43 → a' k = a k := ha
  exact ⟨h1.fr (hS.c 0 (by omega)) (hS.c 3 (by omega)) (hS.c 7 (by omega)) hr (fun k hk _ => hi k hk) (by rw [hi 28 (by decide)]; exact h1.2.2.2.2.1.2), h2.fr (fun p f _ => by rw [hS.1 1 p (fun z => absurd z.1 (by decide))]) (fun k k1 k2 => n k (by omega) (by omega) (by omega)), h3.fr (fun s _ => hS.1 2 s (fun z => absurd z.1 (by decide))) (fun k k1 k2 => n k (by omega) (by omega) (by omega)), h4.fr (fun p _ => hS.2 1 p (fun z => absurd z.1 (by decide))) (n 9 (by decide) (by decide) (by decide)) (n 10 (by decide) (by decide) (by decide)) (n 11 (by decide) (by decide) (by decide)) (n 20 (by decide) (by decide) (by decide)), h5.fr (n 12 (by decide) (by decide) (by decide)) (n 20 (by decide) (by decide) (by decide)), h6.fr (n 12 (by decide) (by decide) (by decide)) (n 20 (by decide) (by decide) (by decide)), h7.fr (n 29 (by decide) (by decide) (by decide)) (n 30 (by decide) (by decide) (by decide))⟩
