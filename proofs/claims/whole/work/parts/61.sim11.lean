/-! ===== SIM 11: land goes on; grant, rod ===== -/
abbrev stU (m : Nat) (a a' : Ar) (c c' : List Rt) : Prop := c' = c ∧ (∀ p, p < m → (c.headD (0, 0, 0)).1 = nI p → ¬ a 20 p = 0 → ¬ a' 20 p = 0) ∧ ((c.headD (0, 0, 0)).2.1 = 3 → ∀ p, p < m → (c.headD (0, 0, 0)).1 = nI p → a 12 p = -1 → a' 12 p = -1)
abbrev stH (D m : Nat) (a' : Ar) (c c' : List Rt) : Prop := ∃ t how, c' = (t, how, nI D) :: c ∧ ¬ how = 3 ∧ (t = -1 ∨ ∃ q, q < m ∧ t = nI q ∧ ¬ a' 20 q = 0)
abbrev stW (D m J0 : Nat) (a a' : Ar) (c c' : List Rt) : Prop := ∃ w0, c' = (nI w0, 3, nI D) :: c ∧ (c.headD (0, 0, 0)).1 = nI J0 ∧ J0 < m ∧ a' 20 J0 = 0 ∧ w0 < m ∧ ¬ a' 20 w0 = 0 ∧ a' 12 w0 = -1 ∧ ¬ a 12 w0 = -1
theorem dyC.cons {D : Nat} (hD : D ≤ 40000) {c : List Rt} (h : dyC D c) (t how : Int32) : dyC D ((t, how, nI D) :: c) := by
  obtain ⟨h1, h2, e0, h3, h4⟩ := h
  refine ⟨fun e he => ?_, List.pairwise_cons.mpr ⟨fun f hf => ?_, h2⟩, e0, List.mem_cons_of_mem _ h3, h4⟩
  · rcases List.mem_cons.mp he with rfl | he
    · exact ⟨D, Nat.le_refl _, rfl⟩
    · exact h1 e he
  · obtain ⟨d, d1, d2⟩ := h1 f hf
    show f.2.2 ≤ nI D
    rw [d2, nI_leI (by omega) (by omega)]
    exact d1
theorem RLd.step {D m J0 : Nat} {a a' : Ar} {ch ch' : Nat → List Rt} (h60 : m ≤ 60) (hD : D ≤ 40000) (hl : RLd D m a ch) (hs : ∀ s, s < 120 → stU m a a' (ch s) (ch' s) ∨ stH D m a' (ch s) (ch' s) ∨ stW D m J0 a a' (ch s) (ch' s)) (hg : ∀ g, g < m → a 20 g = 0 → a' 20 g = 0) : RLd D m a' ch' := by
  refine ⟨fun s hs1 => ?_, fun s s' hs1 hs2 e1 e2 e3 => ?_⟩
  · obtain ⟨l1, l2, l3, l4⟩ := hl.1 s hs1
    rcases hs s hs1 with ⟨u1, u2, u3⟩ | ⟨t, how, u1, u2, u3⟩ | ⟨w0, u1, u2, u3, u4, u5, u6, u7, u8⟩
    · unfold hdR at l2 l3 ⊢
      rw [u1]
      refine ⟨l1, l2.imp id (fun ⟨p, p1, p2, p3⟩ => ⟨p, p1, p2, u2 p p1 p2 p3⟩), fun h3 => ?_, l4⟩
      obtain ⟨g, p, g1, g2, g3, g4, g5, g6⟩ := l3 h3
      exact ⟨g, p, g1, g2, hg g g2 g3, g4, g5, u3 h3 p g5 g4 g6⟩
    · unfold hdR
      rw [u1]
      exact ⟨by simp, u3, fun z => absurd z u2, l4.cons hD _ _⟩
    · unfold hdR
      rw [u1]
      refine ⟨by simp, Or.inr ⟨w0, u5, rfl, u6⟩, fun _ => ⟨J0, w0, ?_, u3, u4, rfl, u5, u7⟩, l4.cons hD _ _⟩
      obtain ⟨e, r, hr⟩ := List.exists_cons_of_ne_nil l1
      rw [hr] at u2 ⊢
      exact u2
  · have gW : ∀ s, s < 120 → stW D m J0 a a' (ch s) (ch' s) → gv2 (ch' s) = nI J0 := fun s hs1 ⟨w0, u1, u2, _⟩ => by
      obtain ⟨e, r, hr⟩ := List.exists_cons_of_ne_nil (hl.1 s hs1).1
      rw [u1, hr]
      rw [hr] at u2
      exact u2
    have nW : ∀ s s', s < 120 → s' < 120 → stW D m J0 a a' (ch s) (ch' s) → stU m a a' (ch s') (ch' s') → (hdR ch' s').2.1 = 3 → ¬ (hdR ch' s).1 = (hdR ch' s').1 := fun s s' q1 q2 ⟨w0, u1, u2, u3, u4, u5, u6, u7, u8⟩ ⟨v1, _, _⟩ h3 h4 => by
      unfold hdR at h3 h4
      rw [v1] at h3 h4
      rw [u1] at h4
      obtain ⟨g, p, g1, g2, g3, g4, g5, g6⟩ := (hl.1 s' q2).2.2.1 h3
      unfold hdR at g4
      rw [g4] at h4
      have h4' : nI w0 = nI p := h4
      rw [nI_eq (by omega) (by omega)] at h4'
      exact u8 (by rw [h4']; exact g6)
    have nH : ∀ s, stH D m a' (ch s) (ch' s) → ¬ (hdR ch' s).2.1 = 3 := fun s ⟨t, how, u1, u2, _⟩ => by
      unfold hdR
      rw [u1]; exact u2
    rcases hs s hs1 with u | u | u
    · rcases hs s' hs2 with v | v | v
      · unfold hdR at e1 e2 e3
        rw [u.1] at e1 e3 ⊢
        rw [v.1] at e2 e3 ⊢
        exact hl.2 s s' hs1 hs2 e1 e2 e3
      · exact absurd e2 (nH s' v)
      · exact absurd e3.symm (nW s' s hs2 hs1 v u e1)
    · exact absurd e1 (nH s u)
    · rcases hs s' hs2 with v | v | v
      · exact absurd e3 (nW s s' hs1 hs2 u v e2)
      · exact absurd e2 (nH s' v)
      · rw [gW s hs1 u, gW s' hs2 v]
theorem Rel.mk2 {D r r' m ns : Nat} {V Vb V1 : VTt} {VL VL1 : VLt} {ch1 : Nat → List Rt} {i i1 : Nat → Int32} {ab a1 : Ar} {cr1 : Nat → List Rt} {q : Ls} (hI : RI D r m ns V i) (hV0 : ∀ k, k = 0 ∨ k = 3 ∨ k = 7 → Vb 0 k = V 0 k) (hP : RP m Vb ab) (hS : RS m ns Vb ab) (hK : RK m VL ab) (hM : RM m ab) (hSQ : SQ Vb VL V1 VL1) (hr1 : V1 0 2 1 = nI r') (hL : RLd D m ab ch1) (hLR : LR q ch1) (hi : ∀ k, k ≠ 28 → k ≠ 40 → i1 k = i k) (h28 : i1 28 = nI r') (ha : ∀ k, k ≠ 21 → k ≠ 29 → k ≠ 30 → k ≠ 39 → k ≠ 43 → a1 k = ab k) (h29 : a1 29 = q.1) (h30 : a1 30 = q.2.1) (hcr : cr1 = q.2.2.1) : Rel D r' m ns V1 VL1 ch1 i1 a1 cr1 := by
  have n : ∀ k, (k < 21 ∨ (30 < k ∧ k < 39)) → a1 k = ab k := fun k hk => ha k (by omega) (by omega) (by omega) (by omega) (by omega)
  refine ⟨hI.fr (by rw [hSQ.c 0 (by omega), hV0 0 (by omega)]) (by rw [hSQ.c 3 (by omega), hV0 3 (by omega)]) (by rw [hSQ.c 7 (by omega), hV0 7 (by omega)]) hr1 (fun k hk h => hi k h (by omega)) h28, hP.fr (fun p f _ => by rw [hSQ.1 1 p (fun z => absurd z.1 (by decide))]) (fun k k1 k2 => n k (by omega)), hS.fr (fun s _ => hSQ.1 2 s (fun z => absurd z.1 (by decide))) (fun k k1 k2 => n k (by omega)), hK.fr (fun p _ => hSQ.2 1 p (fun z => absurd z.1 (by decide))) (n 9 (by omega)) (n 10 (by omega)) (n 11 (by omega)) (n 20 (by omega)), hM.fr (n 12 (by omega)) (n 20 (by omega)), hL.fr (n 12 (by omega)) (n 20 (by omega)), fun s hs => ?_⟩
  obtain ⟨g1, g2, g3⟩ := hLR s hs
  refine ⟨?_, ?_, ?_⟩
  · show cr1 s = ch1 s
    rw [hcr]; exact g1
  · show a1 29 s = _
    rw [h29]; exact g2
  · show a1 30 s = _
    rw [h30]; exact g3
section
variable {D r m ns : Nat} {V : VTt} {VL : VLt} {ch : Nat → List Rt} {i : Nat → Int32} {a : Ar} {cr : Nat → List Rt}
theorem own_is (h : Rel D r m ns V VL ch i a cr) (p : Int32) {g : Nat} (hg : g < 10) : pkL (ownB a p) g 12 = pkL (pkC ch p 0) g 12 := pkL_congr (fun s q1 q2 => by
  have hl := h.2.2.2.2.2.1
  rw [Bool.eq_iff_iff]
  exact ownQ_is (q := lsOf a cr r) h.2.2.2.2.2.2 (by omega) (hl.1 s (by omega)).1 (fun z => wd_of h.1.1.1 hl (by omega) z))
theorem gm_is (h : Rel D r m ns V VL ch i a cr) (g n fr : Int32) : (gmC ch g n fr ↔ mvC a g n fr) ∧ gmN ch g n fr = mvN a g n fr ∧ ∀ to how, gmE ch g n fr to how = mvE a g n fr to how := by
  by_cases hg : 0 ≤ g ∧ g ≤ 9
  · have e := own_is h fr (hold_nat hg).2
    have e1 : gmC ch g n fr ↔ mvC a g n fr := by unfold gmC mvC; rw [e]
    have e2 : gmN ch g n fr = mvN a g n fr := by
      unfold gmN mvN
      by_cases c : gmC ch g n fr
      · rw [if_pos c, if_pos (e1.mp c)]
      · rw [if_neg c, if_neg (fun z => c (e1.mpr z))]
    refine ⟨e1, e2, fun to how => ?_⟩
    unfold gmE mvE
    rw [e, e2]
  · have c1 : ¬ gmC ch g n fr := fun z => hg z.1
    have c2 : ¬ mvC a g n fr := fun z => hg z.1
    have n2 : mvN a g n fr = 0 := if_neg c2
    refine ⟨⟨fun z => absurd z c1, fun z => absurd z c2⟩, by rw [gm_no c1, n2], fun to how => ?_⟩
    rw [gmE_no c1]
    unfold mvE
    rw [n2]; rfl
theorem gm_st (h : Rel D r m ns V VL ch i a cr) (g n fr to how : Int32) (hh : ¬ how = 3) {a' : Ar} (h20 : a' 20 = a 20) (h12 : a' 12 = a 12) (ht : ∃ q, q < m ∧ to = nI q ∧ ¬ a 20 q = 0) : (gmN ch g n fr ≤ 12) ∧ (∀ e ∈ gmE ch g n fr to how, ¬ e.2.2 = 3) ∧ (gmE ch g n fr to how).length = gmN ch g n fr ∧ ∀ s, s < 120 → stU m a a' (ch s) (clL (nI D) ch (gmE ch g n fr to how) s) ∨ stH D m a' (ch s) (clL (nI D) ch (gmE ch g n fr to how) s) := by
  have hle : gmN ch g n fr ≤ (pkL (pkC ch fr 0) g.toNatClampNeg 12).length := by
    unfold gmN
    split
    · rename_i c
      obtain ⟨k, hk, hk2⟩ := nI_of (x := n) (fun z => absurd (Int32.le_trans c.2.1 (Int32.le_of_lt z)) (by decide))
      have := c.2.2
      rw [hk2, nI_leI hk (Nat.lt_of_le_of_lt (pkL_len _ _ _) (by decide))] at this
      rw [hk2, nI_clamp hk]; exact this
    · exact Nat.zero_le _
  have h12l := pkL_len (pkC ch fr 0) g.toNatClampNeg 12
  refine ⟨by omega, fun e he => ?_, ?_, fun s hs => ?_⟩
  · unfold gmE at he
    simp only [List.mem_map] at he
    obtain ⟨x, -, rfl⟩ := he
    exact hh
  · unfold gmE
    rw [List.length_map, List.length_take, Nat.min_eq_left hle]
  · by_cases c : s ∈ (pkL (pkC ch fr 0) g.toNatClampNeg 12).take (gmN ch g n fr)
    · right
      refine ⟨to, how, ?_, hh, Or.inr ?_⟩
      · exact clL_in (gmE ch g n fr to how) ch (by
          unfold gmE
          rw [List.map_map]
          have := (pkL_nd (pkC ch fr 0) g.toNatClampNeg 12).sublist (List.take_sublist (gmN ch g n fr) _)
          simpa [Function.comp_def] using this) (s, to, how) (List.mem_map.mpr ⟨s, c, rfl⟩)
      · rw [h20]; exact ht
    · left
      refine ⟨clL_out _ _ (fun e he z => c ?_), fun p _ _ h => by rw [h20]; exact h, fun _ p _ _ h => by rw [h12]; exact h⟩
      unfold gmE at he
      simp only [List.mem_map] at he
      obtain ⟨x, hx, rfl⟩ := he
      exact z ▸ hx
theorem s_grant (h : Rel D r m ns V VL ch i a cr) (g n p : Int32) : b2i (lvC V m p ∧ gmC ch g n (-1)) = b2i (lvP i a p ∧ mvC a g n (-1)) ∧ cgN V m ch g n p = grN i a g n p ∧ cgN V m ch g n p ≤ 12 ∧ ∀ V1 x, SQ V VL V1 VL → V1 0 2 1 = nI (r + cgN V m ch g n p) → mvQ i a (cmL (i 8) (lsOf a cr r) (grE i a g n p)) x → Rel D (r + cgN V m ch g n p) m ns V1 VL (clL (V 0 7 0) ch (cgE V m ch g n p)) x.1 x.2.1 x.2.2 := by
  have hm := h.1.2.1.2
  have h60 := h.1.1.1
  have el := lv_iff h.2.1 hm h60 p
  obtain ⟨e1, e2, e3⟩ := gm_is h g n (-1)
  have eN : cgN V m ch g n p = grN i a g n p := by
    unfold cgN grN
    by_cases c : lvC V m p
    · rw [if_pos c, if_pos (el.mp c), e2]
    · rw [if_neg c, if_neg (fun z => c (el.mpr z))]
  have eE : cgE V m ch g n p = grE i a g n p := by
    unfold cgE grE
    by_cases c : lvC V m p
    · rw [if_pos c, if_pos (el.mp c), e3]
    · rw [if_neg c, if_neg (fun z => c (el.mpr z))]
  have key : (cgN V m ch g n p ≤ 12) ∧ (∀ e ∈ cgE V m ch g n p, ¬ e.2.2 = 3) ∧ (cgE V m ch g n p).length = cgN V m ch g n p ∧ ∀ s, s < 120 → stU m a a (ch s) (clL (nI D) ch (cgE V m ch g n p) s) ∨ stH D m a (ch s) (clL (nI D) ch (cgE V m ch g n p) s) := by
    unfold cgN cgE
    by_cases c : lvC V m p
    · rw [if_pos c, if_pos c]
      have z := el.mp c
      have zz := z.1
      unfold isP at zz
      rw [hm] at zz
      exact gm_st h g n (-1) p 1 (by decide) rfl rfl ⟨_, (in_nat rfl (by omega) zz).2, (in_nat rfl (by omega) zz).1, z.2⟩
    · rw [if_neg c, if_neg c]
      exact ⟨by omega, fun e he => absurd he (by simp), rfl, fun s hs => Or.inl ⟨rfl, fun _ _ _ h => h, fun _ _ _ _ h => h⟩⟩
  refine ⟨b2i_congr (and_congr el e1), eN, key.1, fun V1 x hS hr hx => ?_⟩
  obtain ⟨L, x1, x2, x3, x4, x5, x6⟩ := hx
  have d1 := h.1.2.2.2.1.1
  have d2 := h.1.2.2.2.1.2
  rw [← eE, d2] at x3 x4 x5 x6
  rw [d1]
  obtain ⟨h1, h2, h3, h4, h5, h6, h7⟩ := h
  refine Rel.mk2 (Vb := V) (ab := a) (q := cmL (nI D) (lsOf a cr r) (cgE V m ch g n p)) h1 (fun _ _ => rfl) h2 h3 h4 h5 hS hr (RLd.step (J0 := 0) h60 h1.1.2.2 h6 (fun s hs => (key.2.2.2 s hs).imp id Or.inl) (fun _ _ z => z)) (LR.L _ _ _ key.2.1 h7) (fun k k1 _ => x1 k k1) (by rw [x6, cmL_n, key.2.2.1]; rfl) (fun k _ k29 k30 _ k43 => by rw [x2 k k29 k30, hpput_ne _ _ k43]) x3 x4 x5
theorem s_rod (h : Rel D r m ns V VL ch i a cr) (g n fr to : Int32) : b2i (rdC V m fr to ∧ gmC ch g n fr) = b2i (rdP i a fr to ∧ mvC a g n fr) ∧ crN V m ch g n fr to = rdN i a g n fr to ∧ crN V m ch g n fr to ≤ 12 ∧ ∀ V1 x, SQ (crO V m ch g n fr to) VL V1 VL → V1 0 2 1 = nI (r + crN V m ch g n fr to) → mvQ i (rdO i a g n fr to) (cmL (i 8) (lsOf a cr r) (rdE i a g n fr to)) x → Rel D (r + crN V m ch g n fr to) m ns V1 VL (clL (V 0 7 0) ch (crE V m ch g n fr to)) x.1 x.2.1 x.2.2 := by
  have hm := h.1.2.1.2
  have h60 := h.1.1.1
  have er : rdC V m fr to ↔ rdP i a fr to := and_congr (lv_iff h.2.1 hm h60 fr) (and_congr (lv_iff h.2.1 hm h60 to) Iff.rfl)
  obtain ⟨e1, e2, e3⟩ := gm_is h g n fr
  have eN : crN V m ch g n fr to = rdN i a g n fr to := by
    unfold crN rdN
    by_cases c : rdC V m fr to
    · rw [if_pos c, if_pos (er.mp c), e2]
    · rw [if_neg c, if_neg (fun z => c (er.mpr z))]
  have eE : crE V m ch g n fr to = rdE i a g n fr to := by
    unfold crE rdE
    by_cases c : rdC V m fr to
    · rw [if_pos c, if_pos (er.mp c), e3]
    · rw [if_neg c, if_neg (fun z => c (er.mpr z))]
  have i3 : i 3 = V 0 0 5 := h.1.2.2.2.2.2.2.1.2.2.2.2.2.1.symm
  have hB : Rel D r m ns (crO V m ch g n fr to) VL ch i (rdO i a g n fr to) cr := by
    unfold crO rdO
    by_cases c : rdC V m fr to ∧ gmC ch g n fr
    · have c2 : rdP i a fr to ∧ mvC a g n fr := ⟨er.mp c.1, e1.mp c.2⟩
      rw [if_pos c, if_pos c2, i3]
      exact h.p6 (in_nat rfl (by omega) c.1.2.1.1).2 _
    · have c2 : ¬ (rdP i a fr to ∧ mvC a g n fr) := fun z => c ⟨er.mpr z.1, e1.mpr z.2⟩
      rw [if_neg c, if_neg c2]; exact h
  have r20 : rdO i a g n fr to 20 = a 20 := by
    unfold rdO; split
    · exact up2_ne _ _ _ (by decide)
    · rfl
  have r12 : rdO i a g n fr to 12 = a 12 := by
    unfold rdO; split
    · exact up2_ne _ _ _ (by decide)
    · rfl
  have r29 : rdO i a g n fr to 29 = a 29 := by
    unfold rdO; split
    · exact up2_ne _ _ _ (by decide)
    · rfl
  have key : (crN V m ch g n fr to ≤ 12) ∧ (∀ e ∈ crE V m ch g n fr to, ¬ e.2.2 = 3) ∧ (crE V m ch g n fr to).length = crN V m ch g n fr to ∧ ∀ s, s < 120 → stU m a (rdO i a g n fr to) (ch s) (clL (nI D) ch (crE V m ch g n fr to) s) ∨ stH D m (rdO i a g n fr to) (ch s) (clL (nI D) ch (crE V m ch g n fr to) s) := by
    unfold crN crE
    by_cases c : rdC V m fr to
    · rw [if_pos c, if_pos c]
      have z := (er.mp c).2.1
      have zz := z.1
      unfold isP at zz
      rw [hm] at zz
      exact gm_st h g n fr to 4 (by decide) r20 r12 ⟨_, (in_nat rfl (by omega) zz).2, (in_nat rfl (by omega) zz).1, z.2⟩
    · rw [if_neg c, if_neg c]
      exact ⟨by omega, fun e he => absurd he (by simp), rfl, fun s hs => Or.inl ⟨rfl, fun _ _ _ h => by rw [r20]; exact h, fun _ _ _ _ h => by rw [r12]; exact h⟩⟩
  refine ⟨b2i_congr (and_congr er e1), eN, key.1, fun V1 x hS hr hx => ?_⟩
  obtain ⟨L, x1, x2, x3, x4, x5, x6⟩ := hx
  have d1 := h.1.2.2.2.1.1
  have d2 := h.1.2.2.2.1.2
  rw [← eE, d2] at x3 x4 x5 x6
  rw [d1]
  refine Rel.mk2 (V := crO V m ch g n fr to) (Vb := crO V m ch g n fr to) (ab := rdO i a g n fr to) (q := cmL (nI D) (lsOf a cr r) (crE V m ch g n fr to)) hB.1 (fun _ _ => rfl) hB.2.1 hB.2.2.1 hB.2.2.2.1 hB.2.2.2.2.1 hS hr (RLd.step (J0 := 0) h60 h.1.1.2.2 h.2.2.2.2.2.1 (fun s hs => (key.2.2.2 s hs).imp id Or.inl) (fun g _ z => by rw [r20]; exact z)) (LR.L _ _ _ key.2.1 h.2.2.2.2.2.2) (fun k k1 _ => x1 k k1) (by rw [x6, cmL_n, key.2.2.1]; rfl) (fun k _ k29 k30 _ k43 => by rw [x2 k k29 k30, hpput_ne _ _ k43]) x3 x4 x5
end
