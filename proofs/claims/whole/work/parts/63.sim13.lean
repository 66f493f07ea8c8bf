/-! ===== SIM 13: die ===== -/
section
variable {D r m ns : Nat} {V : VTt} {VL : VLt} {ch : Nat → List Rt} {i : Nat → Int32} {a : Ar} {cr : Nat → List Rt}
theorem die_wok (h : Rel D r m ns V VL ch i a cr) (wd : Nat) : ∀ j, j < m → WOk m (cdOw V a m wd ch j).1 := by
  intro j hj s hs h3
  have h60 := h.1.1.1
  have qa : ∀ k, k ≠ 20 → up2 a 20 j 0 k = a k := fun k hk => up2_ne _ _ _ hk
  have hsx : ∀ c, c < m → up2 a 20 j 0 9 c = 0 ∨ up2 a 20 j 0 9 c = 1 := fun c hc => by rw [qa 9 (by decide)]; exact h.2.2.2.1.2.2.1 c hc
  have hkin : kinOk (up2 a 20 j 0) m := fun c e hc he hch => h.2.2.2.1.2.2.2.2.1 c e hc he (by unfold chd at hch; rw [qa 10 (by decide), qa 11 (by decide)] at hch; exact hch)
  have lo := owS_loc (now := V 0 7 0) (ord := V 0 0 0) (j := j) (w := V 1 j 5) (wd := wd) h60 hsx hkin
  have e : (cdOw V a m wd ch j).1 s = owS (V 0 7 0) (up2 a 20 j 0) m (V 0 0 0) j (V 1 j 5) wd ch (s / 12) s := by
    unfold cdOw
    rw [owC_itr, itr_at lo, if_pos (by omega)]
  unfold hdR at h3
  rw [e] at h3 ⊢
  rcases owS_at (now := V 0 7 0) (ord := V 0 0 0) (j := j) (w := V 1 j 5) (wd := wd) (ch := ch) h60 hsx hkin (show inH (s / 12) s from ⟨by omega, by omega⟩) with ⟨c, ⟨c1, c2⟩ | ⟨t, how, c1, c2, c3⟩⟩ | ⟨c, c1⟩
  · rw [c2]
    obtain ⟨e1, r1, hr⟩ := List.exists_cons_of_ne_nil (h.2.2.2.2.2.1.1 s hs).1
    have z := (pkC0.mp c).1
    unfold hdR at z
    rw [hr] at z ⊢
    exact ⟨_, e1, r1, j, rfl, z, hj⟩
  · rw [c1] at h3; exact absurd h3 c2
  · rw [c1] at h3 ⊢
    exact h.2.2.2.2.2.1.wok h60 s hs h3
set_option maxHeartbeats 4000000 in
theorem s_die (h : Rel D r m ns V VL ch i a cr) {wd : Nat} (hw12 : wd ≤ 12) (p : Int32) : (if lvC V m p then nI (cdQ V a m wd ch p).2 else -1) = dyV i a cr m r wd p ∧ (cdQ V a m wd ch p).2 = dyN i a cr m r wd p ∧ (cdQ V a m wd ch p).2 ≤ 120 ∧ ∀ V1 VL1 x, SQ (cdB V a m wd ch p) VL V1 VL1 → V1 0 2 1 = nI (r + (cdQ V a m wd ch p).2) → WIq i (dyA i a cr m r wd p) (dyQ i a cr m r wd p) x → Rel D (r + (cdQ V a m wd ch p).2) m ns V1 VL1 (cdQ V a m wd ch p).1 x.1 x.2.1 x.2.2 := by
  have hm := h.1.2.1.2
  have h60 := h.1.1.1
  have d1 := h.1.2.2.2.1.1
  have d2 := h.1.2.2.2.1.2
  have e0 : V 0 0 0 = i 0 := h.1.2.2.2.2.2.2.1.1
  have e4 : V 0 0 4 = i 2 := h.1.2.2.2.2.2.2.1.2.2.2.2.1
  have el := lv_iff h.2.1 hm h60 p
  have hsx := h.2.2.2.1.2.2.1
  have hkin := h.2.2.2.1.2.2.2.2.1
  by_cases c : lvC V m p
  · have c' := el.mp c
    obtain ⟨j, hj⟩ : ∃ j, j = p.toNatClampNeg := ⟨_, rfl⟩
    have zp := in_nat rfl (by omega) c.1
    rw [← hj] at zp
    have aj : ¬ a 20 j = 0 := by have := c'.2; rw [← hj] at this; exact this
    have qa : ∀ k, k ≠ 20 → up2 a 20 j 0 k = a k := fun k hk => up2_ne _ _ _ hk
    have hsx' : ∀ c, c < m → up2 a 20 j 0 9 c = 0 ∨ up2 a 20 j 0 9 c = 1 := fun c hc => by rw [qa 9 (by decide)]; exact hsx c hc
    have hkin' : kinOk (up2 a 20 j 0) m := fun c e hc he hch => hkin c e hc he (by unfold chd at hch; rw [qa 10 (by decide), qa 11 (by decide)] at hch; exact hch)
    have v5 : V 1 j 5 = a 12 j := (h.2.1.1 j zp.2 5 (by decide)).symm
    have v6 : V 1 j 6 = a 14 j := (h.2.1.1 j zp.2 6 (by decide)).symm
    have hspj := h.2.2.2.2.1 j zp.2
    have hwj : ¬ a 12 j = nI j := fun z => by
      rcases hspj with y | ⟨w0, w1, w2, w3, w4, w5⟩
      · rw [y] at z; exact nI_nm1 (by omega) z.symm
      · rw [w2, nI_eq (by omega) (by omega)] at z; exact w5 z
    obtain ⟨Ow, hOw⟩ : ∃ Ow, Ow = owC (nI D) (up2 a 20 j 0) m (i 0) j (a 12 j) wd (i 2) (a 14 j) ch 10 := ⟨_, rfl⟩
    have eOw : cdOw V a m wd ch j = Ow := by
      unfold cdOw
      rw [d1, e0, e4, v5, v6, hOw]
    obtain ⟨Wp, hWp⟩ : ∃ Wp, Wp = wpC (nI D) (up2 a 20 j 0) m (i 0) (nI j) Ow.1 10 := ⟨_, rfl⟩
    have eWp : cdWp V a m wd ch j = Wp := by
      unfold cdWp
      rw [d1, e0, eOw, hWp]
    have eQ1 : (cdQ V a m wd ch p).1 = Wp.1 := by
      unfold cdQ
      rw [if_pos c, ← hj, eWp]
    have eQ2 : (cdQ V a m wd ch p).2 = Ow.2.1 + Wp.2 := by
      unfold cdQ
      rw [if_pos c, ← hj, eWp, eOw]
    obtain ⟨G, hU⟩ := h.2.2.2.2.2.1.uG (nI j)
    have hUa : ∀ s, s < 120 → pkC ch (nI j) 1 s = true → gv2 (ch s) = nI G ∧ G < m ∧ alx a j G = false := fun s hs z => by
      obtain ⟨y1, y2, y3⟩ := hU s hs z
      exact ⟨y1, y2, by unfold alx; rw [y3]; rfl⟩
    obtain ⟨⟨s1, s3⟩, s2⟩ := dy_sim (now := nI D) (a' := up2 a 20 j 0) (ord := i 0) (al := alx a j) (w := a 12 j) (wd := wd) (hr := i 2) (o0 := a 14 j) h.2.2.2.2.2.2 h60 hsx hkin zp.2 (fun s hs => (h.2.2.2.2.2.1.1 s hs).1) (fun s hs z => wd_of h60 h.2.2.2.2.2.1 hs z) (fun _ _ => by rw [qa 9 (by decide)]) (fun _ _ => by rw [qa 10 (by decide)]) (fun _ _ => by rw [qa 11 (by decide)]) (fun q _ => alx_up a j q) (by unfold alx; simp) hwj hUa 10 (Nat.le_refl _)
    have lo := owS_loc (now := nI D) (ord := i 0) (j := j) (w := a 12 j) (wd := wd) h60 hsx' hkin'
    have lw := wpS_loc (now := nI D) (ord := i 0) (p := nI j) h60 hsx' hkin'
    have ech : ∀ s, s < 120 → itrH (fun ch h => wpS (nI D) (up2 a 20 j 0) m (i 0) (nI j) (owS (nI D) (up2 a 20 j 0) m (i 0) j (a 12 j) wd ch h) h) ch 10 s = (cdQ V a m wd ch p).1 s := fun s hs => by
      rw [eQ1, hWp, wpC_itr, hOw, owC_itr]; exact (itr_comp lo lw ch hs).symm
    have eN : (cdQ V a m wd ch p).2 = smH (fun k => ctP ch (nI j) 0 k + ctP (owS (nI D) (up2 a 20 j 0) m (i 0) j (a 12 j) wd ch k) (nI j) 1 k) 10 := by
      have e2 : smH (ctP Ow.1 (nI j) 1) 10 = smH (fun k => ctP (owS (nI D) (up2 a 20 j 0) m (i 0) j (a 12 j) wd ch k) (nI j) 1 k) 10 := smH_lt 10 (fun k hk => congrArg List.length (pkC_congr (nI j) 1 (fun s hs => by
        rw [hOw, owC_itr, itr_at lo, if_pos (by omega), show s / 12 = k by omega])))
      have e3 := smH_add (ctP ch (nI j) 0) (fun k => ctP (owS (nI D) (up2 a 20 j 0) m (i 0) j (a 12 j) wd ch k) (nI j) 1 k) 10
      have e5 : Ow.2.1 = smH (ctP ch (nI j) 0) 10 := by rw [hOw]; exact owC_ct h60 hsx' hkin' 10
      have e6 : Wp.2 = smH (ctP Ow.1 (nI j) 1) 10 := by rw [hWp]; exact wpC_ct h60 hsx' hkin' 10
      rw [eQ2, e5, e6, e2]
      exact e3
    obtain ⟨Dy, hDy⟩ : ∃ Dy, Dy = dyF (nI D) a m (i 0) (alx a j) j (a 12 j) wd (i 2) (a 14 j) (lsOf a cr r) 10 := ⟨_, rfl⟩
    rw [← hDy] at s1 s2 s3
    have eDN : dyN i a cr m r wd p = Dy.2.1 := by
      unfold dyN
      rw [if_pos c', ← hj, d2, ← hDy]
    have eDQ : dyQ i a cr m r wd p = Dy.1 := by
      unfold dyQ
      rw [if_pos c', ← hj, d2, ← hDy]
    have eNN : (cdQ V a m wd ch p).2 = dyN i a cr m r wd p := by rw [eN, eDN, s1]
    refine ⟨?_, eNN, ?_, fun V1 VL1 x hS hr hx => ?_⟩
    · unfold dyV
      rw [if_pos c, if_pos c', eNN]
    · rw [eN]
      refine smH_le (c := 12) (fun k => lots12 (fun s hs z => ?_)) 10
      exact (owS_pk h60 hsx' hkin' hs hwj z.2).2 z.1
    · have s3' : Dy.2.2 = Ow.2.2 := by rw [s3, hOw]
      have hn : Dy.1.2.2.2 = r + Dy.2.1 := by rw [hDy]; exact dyF_n h60 hsx hkin hw12 10
      have eA : dyA i a cr m r wd p = up2 (if a 12 j = -1 then up2 (up2 a 20 j 0) 14 j Ow.2.2 else up2 (up2 (up2 a 20 j 0) 14 j Ow.2.2) 12 (a 12 j).toNatClampNeg (-1)) 12 j (-1) := by
        unfold dyA
        rw [if_pos c']
        dsimp only
        rw [← hj, d2, ← hDy, s3']
      have eB : cdB V a m wd ch p = up3 (if a 12 j = -1 then up3 (up3 V 1 j 4 0) 1 j 6 Ow.2.2 else up3 (up3 (up3 V 1 j 4 0) 1 j 6 Ow.2.2) 1 (a 12 j).toNatClampNeg 5 (-1)) 1 j 5 (-1) := by
        unfold cdB
        rw [if_pos c]
        dsimp only
        rw [← hj, eOw, v5]
      obtain ⟨h1, h2, h3, h4, h5, h6, h7⟩ := h
      obtain ⟨x1, x2, x3, x4, x5, x6⟩ := hx
      rw [eDQ] at x3 x4 x5 x6
      have q20 : dyA i a cr m r wd p 20 = upd (a 20) j 0 := by
        rw [eA, up2_ne _ _ _ (by decide)]
        split
        · rw [up2_ne _ _ _ (by decide), up2_eq]
        · rw [up2_ne _ _ _ (by decide), up2_ne _ _ _ (by decide), up2_eq]
      have qn : ∀ k, k ≠ 12 → k ≠ 14 → k ≠ 20 → dyA i a cr m r wd p k = a k := fun k k1 k2 k3 => by
        rw [eA, up2_ne _ _ _ k1]
        split
        · rw [up2_ne _ _ _ k2, up2_ne _ _ _ k3]
        · rw [up2_ne _ _ _ k1, up2_ne _ _ _ k2, up2_ne _ _ _ k3]
      have q12j : dyA i a cr m r wd p 12 j = -1 := by rw [eA, up2_eq, upd_eq]
      have q12w : ∀ w0, w0 < m → a 12 j = nI w0 → dyA i a cr m r wd p 12 w0 = -1 := fun w0 hw0 z => by
        rw [eA, z, if_neg (nI_nm1 (by omega)), nI_clamp (by omega), up2_eq]
        by_cases y : w0 = j
        · subst y; rw [upd_eq]
        · rw [upd_ne _ _ y, up2_eq, upd_eq]
      have q12o : ∀ q, q < m → q ≠ j → ¬ a 12 j = nI q → dyA i a cr m r wd p 12 q = a 12 q := fun q hq q1 q2 => by
        rw [eA, up2_eq, upd_ne _ _ q1]
        split
        · rw [up2_ne _ _ _ (by decide), qa 12 (by decide)]
        · rename_i z
          rcases hspj with y | ⟨w0, w1, w2, -⟩
          · exact absurd y z
          · have : q ≠ w0 := fun y => q2 (by rw [w2, y])
            rw [w2, nI_clamp (by omega), up2_eq, upd_ne _ _ this, up2_ne _ _ _ (by decide), qa 12 (by decide)]
      have hP : RP m (cdB V a m wd ch p) (dyA i a cr m r wd p) := by
        rw [eA, eB]
        have y1 := (h2.up (f := 4) zp.2 (by decide) 0 (fun z => absurd z (by decide))).up (f := 6) zp.2 (by decide) Ow.2.2 (fun z => absurd z (by decide))
        rcases hspj with y | ⟨w0, w1, w2, -⟩
        · rw [if_pos y, if_pos y]
          exact y1.up (f := 5) zp.2 (by decide) (-1) (fun z => absurd z (by decide))
        · have nz : ¬ a 12 j = -1 := by rw [w2]; exact nI_nm1 (by omega)
          rw [if_neg nz, if_neg nz, w2, nI_clamp (by omega)]
          exact (y1.up (f := 5) w1 (by decide) (-1) (fun z => absurd z (by decide))).up (f := 5) zp.2 (by decide) (-1) (fun z => absurd z (by decide))
      have eBt : ∀ t, t ≠ 1 → ∀ k, cdB V a m wd ch p t k = V t k := fun t ht k => by
        rw [eB, up3_ne _ _ _ (fun z => ht z.1)]
        split
        · rw [up3_ne _ _ _ (fun z => ht z.1), up3_ne _ _ _ (fun z => ht z.1)]
        · rw [up3_ne _ _ _ (fun z => ht z.1), up3_ne _ _ _ (fun z => ht z.1), up3_ne _ _ _ (fun z => ht z.1)]
      have hS2 : RS m ns (cdB V a m wd ch p) (dyA i a cr m r wd p) := h3.fr (fun s _ => eBt 2 (by decide) s) (fun k k1 k2 => qn k (by omega) (by omega) (by omega))
      have hK : RK m VL (dyA i a cr m r wd p) := by
        obtain ⟨g1, g2, g3, g4, g5, g6⟩ := h4
        have n9 := qn 9 (by decide) (by decide) (by decide)
        have n10 := qn 10 (by decide) (by decide) (by decide)
        have n11 := qn 11 (by decide) (by decide) (by decide)
        have hc9 : ∀ x y, chd (dyA i a cr m r wd p) x y ↔ chd a x y := fun x y => by unfold chd; rw [n10, n11]
        refine ⟨fun q b hq => by rw [n9, hc9]; exact g1 q b hq, fun q b hq => by rw [n9, hc9]; exact g2 q b hq, by rw [n9]; exact g3, by rw [n10, n11]; exact g4, fun b q hb hq z => g5 b q hb hq ((hc9 b q).mp z), fun q hq => ?_⟩
        rw [q20]
        by_cases z : q = j
        · subst z; rw [upd_eq]; exact Or.inl rfl
        · rw [upd_ne _ _ z]; exact g6 q hq
      have hM : RM m (dyA i a cr m r wd p) := by
        intro q hq
        by_cases qj : q = j
        · subst qj; exact Or.inl q12j
        · by_cases qw : a 12 j = nI q
          · exact Or.inl (q12w q hq qw)
          · rw [q12o q hq qj qw, q20, upd_ne _ _ qj]
            refine (h5 q hq).imp id (fun ⟨y, y1, y2, y3, y4, y5⟩ => ⟨y, y1, y2, ?_, y4, y5⟩)
            have yj : y ≠ j := fun z => by
              subst z
              exact qw y3
            have yw : ¬ a 12 j = nI y := fun z => by
              rcases hspj with u | ⟨w0, w1, w2, w3, -⟩
              · rw [u] at z; exact nI_nm1 (by omega) z.symm
              · rw [w2, nI_eq (by omega) (by omega)] at z
                subst z
                rw [y3, nI_eq (by omega) (by omega)] at w3
                exact qj w3
            rw [q12o y y1 yj yw]; exact y3
      have hL : RLd D m (dyA i a cr m r wd p) (cdQ V a m wd ch p).1 := by
        refine RLd.ext (RLd.step (J0 := j) (ch' := itrH (fun ch h => wpS (nI D) (up2 a 20 j 0) m (i 0) (nI j) (owS (nI D) (up2 a 20 j 0) m (i 0) j (a 12 j) wd ch h) h) ch 10) h60 h1.1.2.2 h6 (fun s hs => ?_) (fun g _ z => by
          rw [q20]
          by_cases y : g = j
          · subst y; rw [upd_eq]
          · rw [upd_ne _ _ y]; exact z)) ech
        rw [itr_at (lo.comp lw), if_pos (by omega)]
        have hin : inH (s / 12) s := ⟨by omega, by omega⟩
        have alv : ∀ q, alB (up2 a 20 j 0) q = true → ¬ dyA i a cr m r wd p 20 q = 0 := fun q z => by
          rw [q20, ← up2_eq]; simpa [alB] using z
        have pH : ∀ {c c' : List Rt}, hrW (alB (up2 a 20 j 0)) m (nI D) c c' → stH D m (dyA i a cr m r wd p) c c' := fun ⟨t, how, v1, v2, v3⟩ => ⟨t, how, v1, v2, v3.imp id (fun ⟨q, q1, q2, q3⟩ => ⟨q, q1, q2, alv q q3⟩)⟩
        rcases wpS_at (now := nI D) (ord := i 0) (p := nI j) (ch := owS (nI D) (up2 a 20 j 0) m (i 0) j (a 12 j) wd ch (s / 12)) h60 hsx' hkin' hin with ⟨v1, v2⟩ | ⟨v1, v2⟩
        · obtain ⟨y1, y2⟩ := owS_pk h60 hsx' hkin' hin hwj v1
          rw [y1] at v2
          exact Or.inr (Or.inl (pH v2))
        · show stU m a (dyA i a cr m r wd p) (ch s) (wpS (nI D) (up2 a 20 j 0) m (i 0) (nI j) (owS (nI D) (up2 a 20 j 0) m (i 0) j (a 12 j) wd ch (s / 12)) (s / 12) s) ∨ stH D m (dyA i a cr m r wd p) (ch s) (wpS (nI D) (up2 a 20 j 0) m (i 0) (nI j) (owS (nI D) (up2 a 20 j 0) m (i 0) j (a 12 j) wd ch (s / 12)) (s / 12) s) ∨ stW D m j a (dyA i a cr m r wd p) (ch s) (wpS (nI D) (up2 a 20 j 0) m (i 0) (nI j) (owS (nI D) (up2 a 20 j 0) m (i 0) j (a 12 j) wd ch (s / 12)) (s / 12) s)
          rw [v2]
          rcases owS_at (now := nI D) (ord := i 0) (j := j) (w := a 12 j) (wd := wd) (ch := ch) h60 hsx' hkin' hin with ⟨y0, ⟨y1, y2⟩ | y2⟩ | ⟨y1, y2⟩
          · right; right
            rcases hspj with u | ⟨w0, w1, w2, w3, w4, w5⟩
            · exact absurd u y1
            · have wal : ¬ a 20 w0 = 0 := by
                rcases h5 w0 w1 with u | ⟨-, -, -, -, u, -⟩
                · rw [u] at w3; exact absurd w3.symm (nI_nm1 (by omega))
                · exact u
              refine ⟨w0, by rw [y2, w2], (pkC0.mp y0).1, zp.2, by rw [q20, upd_eq], w1, by rw [q20, upd_ne _ _ w5]; exact wal, q12w w0 w1 w2, by rw [w3]; exact nI_nm1 (by omega)⟩
          · right; left
            obtain ⟨t, how, u1, u2, u3⟩ := y2
            refine ⟨t, how, u1, u2, u3.imp id (fun ⟨q, q1, q2, q3⟩ => ⟨q, q1, q2, alv q ?_⟩)⟩
            unfold alx at q3
            rw [Bool.and_eq_true] at q3
            exact q3.1
          · left
            rw [y2]
            have nj : ∀ q, (hdR ch s).1 = nI q → q < m → q ≠ j := fun q z hq y => by
              subst y
              by_cases h3' : (hdR ch s).2.1 = 3
              · refine v1 (pkC1.mpr ?_)
                unfold hdR
                rw [y2]
                exact ⟨z, h3'⟩
              · exact y1 (pkC0.mpr ⟨z, h3'⟩)
            refine ⟨rfl, fun q hq z z2 => by rw [q20, upd_ne _ _ (nj q z hq)]; exact z2, fun z3 q hq z1 z2 => ?_⟩
            by_cases qw : a 12 j = nI q
            · exact q12w q hq qw
            · rw [q12o q hq (nj q z1 hq) qw]; exact z2
      exact Rel.mk2 h1 (fun k _ => eBt 0 (by decide) k) hP hS2 hK hM hS hr hL (s2.ext ech) x1 (by rw [x6, hn, eNN, eDN]) x2 x3 x4 x5
  · have c' : ¬ lvP i a p := fun z => c (el.mpr z)
    have eQ : cdQ V a m wd ch p = (ch, 0) := if_neg c
    have eB : cdB V a m wd ch p = V := if_neg c
    have eN : dyN i a cr m r wd p = 0 := if_neg c'
    have eM : dyQ i a cr m r wd p = lsOf a cr r := if_neg c'
    have eA : dyA i a cr m r wd p = a := if_neg c'
    have eV : dyV i a cr m r wd p = -1 := if_neg c'
    rw [eQ, eB, eN, eM, eA, eV, if_neg c]
    refine ⟨rfl, rfl, Nat.zero_le _, fun V1 VL1 x hS hr hx => ?_⟩
    obtain ⟨h1, h2, h3, h4, h5, h6, h7⟩ := h
    obtain ⟨x1, x2, x3, x4, x5, x6⟩ := hx
    exact Rel.mk2 h1 (fun _ _ => rfl) h2 h3 h4 h5 hS hr h6 h7 x1 x6 x2 x3 x4 x5
end
