/-! ===== SIM 12: marry ===== -/
theorem smH_lt {f g : Nat → Nat} : ∀ k, (∀ j, j < k → f j = g j) → smH f k = smH g k
  | 0, _ => rfl
  | k + 1, h => by simp only [smH]; rw [smH_lt k (fun j hj => h j (by omega)), h k (by omega)]
theorem LR.ext {q : Ls} {ch ch' : Nat → List Rt} (h : LR q ch) (e : ∀ s, s < 120 → ch s = ch' s) : LR q ch' := by
  intro s hs
  unfold hdR
  rw [← e s hs]
  exact h s hs
theorem RLd.ext {D m : Nat} {a : Ar} {ch ch' : Nat → List Rt} (h : RLd D m a ch) (e : ∀ s, s < 120 → ch s = ch' s) : RLd D m a ch' := by
  refine ⟨fun s hs => ?_, fun s s' hs hs' => ?_⟩
  · unfold hdR
    rw [← e s hs]
    exact h.1 s hs
  · unfold hdR
    rw [← e s hs, ← e s' hs']
    exact h.2 s s' hs hs'
theorem gv2_two {c : List Rt} {g : Nat} (hg : g < 2 ^ 31) (h : gv2 c = nI g) : ∃ e1 e2 r, c = e1 :: e2 :: r ∧ e2.1 = nI g := by
  match c with
  | [] => exact absurd h.symm (nI_nm1 hg)
  | [e] => exact absurd h.symm (nI_nm1 hg)
  | e1 :: e2 :: r => exact ⟨e1, e2, r, rfl, h⟩
theorem RLd.wok {D m : Nat} {a : Ar} {ch : Nat → List Rt} (h60 : m ≤ 60) (h : RLd D m a ch) : WOk m ch := fun s hs h3 => by
  obtain ⟨g, p, g1, g2, -⟩ := (h.1 s hs).2.2.1 h3
  obtain ⟨e1, e2, r, q1, q2⟩ := gv2_two (by omega) g1
  exact ⟨e1, e2, r, g, q1, q2, g2⟩
theorem RLd.uG {D m : Nat} {a : Ar} {ch : Nat → List Rt} (h : RLd D m a ch) (p : Int32) : ∃ G, ∀ s, s < 120 → pkC ch p 1 s = true → gv2 (ch s) = nI G ∧ G < m ∧ alB a G = false := by
  by_cases hex : ∃ s, s < 120 ∧ pkC ch p 1 s = true
  · obtain ⟨s1, hs1, hp1⟩ := hex
    have z1 := pkC1.mp hp1
    obtain ⟨g, p', g1, g2, g3, -⟩ := (h.1 s1 hs1).2.2.1 z1.2
    refine ⟨g, fun s hs hp => ⟨?_, g2, by simp [alB, g3]⟩⟩
    have z := pkC1.mp hp
    rw [h.2 s s1 hs hs1 z.2 z1.2 (by rw [z.1, z1.1])]
    exact g1
  · exact ⟨0, fun s hs hp => absurd ⟨s, hs, hp⟩ hex⟩
section
variable {D r m ns : Nat} {V : VTt} {VL : VLt} {ch : Nat → List Rt} {i : Nat → Int32} {a : Ar} {cr : Nat → List Rt}
theorem me_is (h : Rel D r m ns V VL ch i a cr) {u : Nat} (hu : u < m) : meT V m u = maT a u ∧ meT V m u < m := by
  have h60 := h.1.1.1
  have e1 : V 1 u 1 = a 10 u := (h.2.1.1 u hu 1 (by decide)).symm
  unfold meT maT
  rw [e1]
  rcases (h.2.2.2.1.2.2.2.1 u hu).1 with z | ⟨f, hf, z⟩
  · rw [z, if_neg (fun y => absurd y.1.1 (by decide)), if_neg (fun y => y.1 rfl)]
    exact ⟨rfl, hu⟩
  · have e4 : V 1 f 4 = a 20 f := (h.2.1.1 f hf 4 (by decide)).symm
    rw [z]
    have hcl : (nI f).toNatClampNeg = f := nI_clamp (by omega)
    by_cases c : a 20 f = 0
    · have q1 : ¬ lvC V m (nI f) := fun y => y.2 (by rw [hcl, e4]; exact c)
      have q2 : ¬ (¬ nI f = -1 ∧ ¬ a 20 (nI f).toNatClampNeg = 0) := fun y => y.2 (by rw [hcl]; exact c)
      rw [if_neg q1, if_neg q2]
      exact ⟨rfl, hu⟩
    · have q1 : lvC V m (nI f) := ⟨pc_ok h60 hf, by rw [hcl, e4]; exact c⟩
      have q2 : ¬ nI f = -1 ∧ ¬ a 20 (nI f).toNatClampNeg = 0 := ⟨nI_nm1 (by omega), by rw [hcl]; exact c⟩
      rw [if_pos q1, if_pos q2, hcl]
      exact ⟨rfl, hf⟩
set_option maxHeartbeats 4000000 in
theorem s_marry (h : Rel D r m ns V VL ch i a cr) (p w : Int32) : b2i (cmC V m p w) = b2i (maC i a p w) ∧ (cmQ V a m ch p w).2 = maN i a cr m r p w ∧ (cmQ V a m ch p w).2 ≤ 120 ∧ ∀ V1 VL1 x, SQ (cmB V m p w) VL V1 VL1 → V1 0 2 1 = nI (r + (cmQ V a m ch p w).2) → WIq i (maA i a p w) (maQ i a cr m r p w) x → Rel D (r + (cmQ V a m ch p w).2) m ns V1 VL1 (cmQ V a m ch p w).1 x.1 x.2.1 x.2.2 := by
  have hm := h.1.2.1.2
  have h60 := h.1.1.1
  have e0 : V 0 0 0 = i 0 := h.1.2.2.2.2.2.2.1.1
  have d1 := h.1.2.2.2.1.1
  have d2 := h.1.2.2.2.1.2
  have hsx := h.2.2.2.1.2.2.1
  have hkin := h.2.2.2.1.2.2.2.2.1
  have ec : cmC V m p w ↔ maC i a p w := by
    have lp := lv_iff h.2.1 hm h60 p
    have lw := lv_iff h.2.1 hm h60 w
    constructor
    · rintro ⟨c1, c2, c3, c4, c5, c6⟩
      have jp := (in_nat rfl (by omega) c1.1).2
      have jw := (in_nat rfl (by omega) c2.1).2
      exact ⟨lp.mp c1, lw.mp c2, (h.2.1.1 _ jp 0 (by decide)).trans c3, (h.2.1.1 _ jw 0 (by decide)).trans c4, (h.2.1.1 _ jp 5 (by decide)).trans c5, (h.2.1.1 _ jw 5 (by decide)).trans c6⟩
    · rintro ⟨c1, c2, c3, c4, c5, c6⟩
      have c1' := lp.mpr c1
      have c2' := lw.mpr c2
      have jp := (in_nat rfl (by omega) c1'.1).2
      have jw := (in_nat rfl (by omega) c2'.1).2
      exact ⟨c1', c2', (h.2.1.1 _ jp 0 (by decide)).symm.trans c3, (h.2.1.1 _ jw 0 (by decide)).symm.trans c4, (h.2.1.1 _ jp 5 (by decide)).symm.trans c5, (h.2.1.1 _ jw 5 (by decide)).symm.trans c6⟩
  refine ⟨b2i_congr ec, ?_⟩
  by_cases c : cmC V m p w
  · have c' := ec.mp c
    obtain ⟨j, hj⟩ : ∃ j, j = p.toNatClampNeg := ⟨_, rfl⟩
    obtain ⟨u, hu⟩ : ∃ u, u = w.toNatClampNeg := ⟨_, rfl⟩
    have zp := in_nat rfl (by omega) c.1.1
    have zw := in_nat rfl (by omega) c.2.1.1
    rw [← hj] at zp
    rw [← hu] at zw
    have eQ : cmQ V a m ch p w = ((wpC (nI D) a m (i 0) w (wpC (nI D) a m (i 0) p ch 10).1 10).1, (wpC (nI D) a m (i 0) p ch 10).2 + (wpC (nI D) a m (i 0) w (wpC (nI D) a m (i 0) p ch 10).1 10).2) := by
      unfold cmQ
      rw [if_pos c, d1, e0]
    have eQ1 : (cmQ V a m ch p w).1 = (wpC (nI D) a m (i 0) w (wpC (nI D) a m (i 0) p ch 10).1 10).1 := by rw [eQ]
    have eQ2 : (cmQ V a m ch p w).2 = (wpC (nI D) a m (i 0) p ch 10).2 + (wpC (nI D) a m (i 0) w (wpC (nI D) a m (i 0) p ch 10).1 10).2 := by rw [eQ]
    obtain ⟨Gp, hUp⟩ := h.2.2.2.2.2.1.uG p
    obtain ⟨Gw, hUw⟩ := h.2.2.2.2.2.1.uG w
    obtain ⟨s1, s2⟩ := mr_sim (now := nI D) (ord := i 0) h.2.2.2.2.2.2 h60 hsx hkin hUp hUw 10 (Nat.le_refl _)
    have lp := wpS_loc (now := nI D) (ord := i 0) (p := p) h60 hsx hkin
    have lw := wpS_loc (now := nI D) (ord := i 0) (p := w) h60 hsx hkin
    have ech : ∀ s, s < 120 → itrH (fun ch h => wpS (nI D) a m (i 0) w (wpS (nI D) a m (i 0) p ch h) h) ch 10 s = (cmQ V a m ch p w).1 s := fun s hs => by
      rw [eQ1, wpC_itr, wpC_itr]; exact (itr_comp lp lw ch hs).symm
    have eN : (cmQ V a m ch p w).2 = smH (fun k => ctP ch p 1 k + ctP (wpS (nI D) a m (i 0) p ch k) w 1 k) 10 := by
      have e2 : smH (ctP (wpC (nI D) a m (i 0) p ch 10).1 w 1) 10 = smH (fun k => ctP (wpS (nI D) a m (i 0) p ch k) w 1 k) 10 := smH_lt 10 (fun k hk => congrArg List.length (pkC_congr w 1 (fun s hs => by
        rw [wpC_itr, itr_at lp, if_pos (by omega), show s / 12 = k by omega])))
      have e3 := smH_add (ctP ch p 1) (fun k => ctP (wpS (nI D) a m (i 0) p ch k) w 1 k) 10
      rw [eQ2, wpC_ct h60 hsx hkin, wpC_ct h60 hsx hkin, e2]
      exact e3
    have eM : (mrF (i 8) a m (i 0) (alB a) p w (lsOf a cr r) 10) = (mrF (nI D) a m (i 0) (alB a) p w (lsOf a cr r) 10) := by rw [d2]
    have eMN : maN i a cr m r p w = (mrF (nI D) a m (i 0) (alB a) p w (lsOf a cr r) 10).2 := by
      unfold maN
      rw [if_pos c', eM]
    refine ⟨by rw [eN, eMN, s1], ?_, fun V1 VL1 x hS hr hx => ?_⟩
    · rw [eN]
      refine smH_le (c := 12) (fun k => lots12 (fun s hs z => ?_)) 10
      exact (wpS_pk h60 hsx hkin hs z.2).2 z.1
    · have eA : maA i a p w = up2 (up2 (up2 a 12 j w) 12 u p) 14 (maT a u) (a 14 (maT a u) + i 4) := by
        unfold maA maB
        rw [if_pos c', ← hj, ← hu]
      have eB : cmB V m p w = up3 (up3 (up3 V 1 j 5 w) 1 u 5 p) 1 (meT V m u) 6 (V 1 (meT V m u) 6 + V 0 0 6) := by
        unfold cmB
        rw [if_pos c, ← hj, ← hu]
      obtain ⟨me1, me2⟩ := me_is h zw.2
      have q12 : maA i a p w 12 = upd (upd (a 12) j w) u p := by rw [eA, up2_ne _ _ _ (by decide), up2_eq, up2_eq]
      have q20 : maA i a p w 20 = a 20 := by rw [eA, up2_ne _ _ _ (by decide), up2_ne _ _ _ (by decide), up2_ne _ _ _ (by decide)]
      have qn : ∀ k, k ≠ 12 → k ≠ 14 → maA i a p w k = a k := fun k k1 k2 => by rw [eA, up2_ne _ _ _ k2, up2_ne _ _ _ k1, up2_ne _ _ _ k1]
      have eM1 : maQ i a cr m r p w = (mrF (nI D) a m (i 0) (alB a) p w (lsOf a cr r) 10).1 := by
        unfold maQ
        rw [if_pos c', eM]
      have hju : ¬ j = u := fun z => by
        have z1 := c.2.2.1
        have z2 := c.2.2.2.1
        rw [← hj, z] at z1
        rw [← hu, z1] at z2
        exact absurd z2 (by decide)
      have aj : ¬ a 20 j = 0 := by have := c'.1.2; rw [← hj] at this; exact this
      have au : ¬ a 20 u = 0 := by have := c'.2.1.2; rw [← hu] at this; exact this
      have mj : a 12 j = -1 := by have := c'.2.2.2.2.1; rw [← hj] at this; exact this
      have mu : a 12 u = -1 := by have := c'.2.2.2.2.2; rw [← hu] at this; exact this
      have hn : (mrF (nI D) a m (i 0) (alB a) p w (lsOf a cr r) 10).1.2.2.2 = r + (mrF (nI D) a m (i 0) (alB a) p w (lsOf a cr r) 10).2 := mrF_n h60 hsx hkin 10
      obtain ⟨h1, h2, h3, h4, h5, h6, h7⟩ := h
      obtain ⟨x1, x2, x3, x4, x5, x6⟩ := hx
      rw [eM1] at x3 x4 x5 x6
      have hP : RP m (cmB V m p w) (maA i a p w) := by
        rw [eA, eB, ← me1]
        have y1 := (h2.up (f := 5) zp.2 (by decide) w (fun z => absurd z (by decide))).up (f := 5) zw.2 (by decide) p (fun z => absurd z (by decide))
        have y2 := y1.up (f := 6) me2 (by decide) (V 1 (meT V m u) 6 + V 0 0 6) (fun z => absurd z (by decide))
        rw [show a 14 (meT V m u) = V 1 (meT V m u) 6 from h2.1 _ me2 6 (by decide), show i 4 = V 0 0 6 from h1.2.2.2.2.2.2.1.2.2.2.2.2.2.symm]
        exact y2
      have hM : RM m (maA i a p w) := by
        intro q hq
        rw [q12, q20]
        by_cases qu : q = u
        · subst qu
          right
          refine ⟨j, zp.2, by rw [upd_eq]; exact zp.1, ?_, au, hju⟩
          rw [upd_ne _ _ hju, upd_eq]; exact zw.1
        · by_cases qj : q = j
          · subst qj
            right
            refine ⟨u, zw.2, by rw [upd_ne _ _ qu, upd_eq]; exact zw.1, by rw [upd_eq]; exact zp.1, aj, fun z => hju z.symm⟩
          · rw [upd_ne _ _ qu, upd_ne _ _ qj]
            refine (h5 q hq).imp id (fun ⟨y, y1, y2, y3, y4, y5⟩ => ⟨y, y1, y2, ?_, y4, y5⟩)
            have yu : y ≠ u := fun z => by rw [z, mu] at y3; exact nI_nm1 (by omega) y3.symm
            have yj : y ≠ j := fun z => by rw [z, mj] at y3; exact nI_nm1 (by omega) y3.symm
            rw [upd_ne _ _ yu, upd_ne _ _ yj]; exact y3
      have hV0 : ∀ k, k = 0 ∨ k = 3 ∨ k = 7 → cmB V m p w 0 k = V 0 k := fun k _ => by rw [eB, up3_ne _ _ _ (fun z => absurd z.1 (by decide)), up3_ne _ _ _ (fun z => absurd z.1 (by decide)), up3_ne _ _ _ (fun z => absurd z.1 (by decide))]
      have hS2 : RS m ns (cmB V m p w) (maA i a p w) := h3.fr (fun s _ => by rw [eB, up3_ne _ _ _ (fun z => absurd z.1 (by decide)), up3_ne _ _ _ (fun z => absurd z.1 (by decide)), up3_ne _ _ _ (fun z => absurd z.1 (by decide))]) (fun k k1 k2 => qn k (by omega) (by omega))
      have hK : RK m VL (maA i a p w) := h4.fr (fun _ _ => rfl) (qn 9 (by decide) (by decide)) (qn 10 (by decide) (by decide)) (qn 11 (by decide) (by decide)) q20
      have hL : RLd D m (maA i a p w) (cmQ V a m ch p w).1 := by
        refine RLd.ext (RLd.step (J0 := 0) (ch' := itrH (fun ch h => wpS (nI D) a m (i 0) w (wpS (nI D) a m (i 0) p ch h) h) ch 10) h60 h1.1.2.2 h6 (fun s hs => ?_) (fun g _ z => by rw [q20]; exact z)) ech
        rw [itr_at (lp.comp lw), if_pos (by omega)]
        have hin : inH (s / 12) s := ⟨by omega, by omega⟩
        have pH : ∀ {c c' : List Rt}, hrW (alB a) m (nI D) c c' → stH D m (maA i a p w) c c' := fun ⟨t, how, v1, v2, v3⟩ => ⟨t, how, v1, v2, v3.imp id (fun ⟨q, q1, q2, q3⟩ => ⟨q, q1, q2, by rw [q20]; simpa [alB] using q3⟩)⟩
        rcases wpS_at (now := nI D) (ord := i 0) (p := w) (ch := wpS (nI D) a m (i 0) p ch (s / 12)) h60 hsx hkin hin with ⟨v1, v2⟩ | ⟨v1, v2⟩
        · obtain ⟨y1, y2⟩ := wpS_pk h60 hsx hkin hin v1
          rw [y1] at v2
          exact Or.inr (Or.inl (pH v2))
        · rw [v2]
          rcases wpS_at (now := nI D) (ord := i 0) (p := p) (ch := ch) h60 hsx hkin hin with ⟨y1, y2⟩ | ⟨y1, y2⟩
          · exact Or.inr (Or.inl (pH y2))
          · left
            rw [y2]
            refine ⟨rfl, fun q _ _ z => by rw [q20]; exact z, fun z3 q hq z1 z2 => ?_⟩
            rw [q12]
            have nj : q ≠ j := fun z => y1 (pkC1.mpr ⟨by rw [show (hdR ch s).1 = nI q from z1, z]; exact zp.1.symm, z3⟩)
            have nu : q ≠ u := fun z => v1 (pkC1.mpr (by
              unfold hdR
              rw [y2]
              exact ⟨by rw [show ((ch s).headD (0, 0, 0)).1 = nI q from z1, z]; exact zw.1.symm, z3⟩))
            rw [upd_ne _ _ nu, upd_ne _ _ nj]; exact z2
      exact Rel.mk2 h1 hV0 hP hS2 hK hM hS hr hL (s2.ext ech) x1 (by rw [x6, hn, s1, eN]) x2 x3 x4 x5
  · have c' : ¬ maC i a p w := fun z => c (ec.mpr z)
    have eQ : cmQ V a m ch p w = (ch, 0) := if_neg c
    have eB : cmB V m p w = V := if_neg c
    have eN : maN i a cr m r p w = 0 := if_neg c'
    have eM : maQ i a cr m r p w = lsOf a cr r := if_neg c'
    have eA : maA i a p w = a := if_neg c'
    rw [eQ, eB, eN, eM, eA]
    refine ⟨rfl, Nat.zero_le _, fun V1 VL1 x hS hr hx => ?_⟩
    obtain ⟨h1, h2, h3, h4, h5, h6, h7⟩ := h
    obtain ⟨x1, x2, x3, x4, x5, x6⟩ := hx
    exact Rel.mk2 h1 (fun _ _ => rfl) h2 h3 h4 h5 hS hr h6 h7 x1 x6 x2 x3 x4 x5
end
