/-! ===== REF 17: marry ===== -/
theorem wpF_congr {now : Int32} {a A : Ar} {al al' : Nat → Bool} {ord p : Int32} {m g : Nat} {q : Ls} (hm : m ≤ 60) (h9 : ∀ c, c < m → A 9 c = a 9 c) (h10 : ∀ c, c < m → A 10 c = a 10 c) (h11 : ∀ c, c < m → A 11 c = a 11 c) (hal : ∀ c, c < m → al' c = al c) : ∀ k, k ≤ m → wpF now A m ord al' p g q k = wpF now a m ord al p g q k
  | 0, _ => rfl
  | k + 1, hk => by
    simp only [wpF]
    rw [wpF_congr hm h9 h10 h11 hal k (by omega), passE_congr hm (by omega) h9 h10 h11 hal]
/-- the widow's parts of two that marry, holding by holding -/
def mrF (now : Int32) (a : Ar) (m : Nat) (ord : Int32) (al : Nat → Bool) (p1 p2 : Int32) (q : Ls) : Nat → Ls × Nat
  | 0 => (q, 0)
  | h + 1 =>
    let w := mrF now a m ord al p1 p2 q h
    let w1 := wpF now a m ord al p1 h w.1 m
    let w2 := wpF now a m ord al p2 h w1.1 m
    (w2.1, w.2 + w1.2 + w2.2)
theorem mrF_n {now : Int32} {a : Ar} {m : Nat} {ord : Int32} {al : Nat → Bool} {p1 p2 : Int32} {q : Ls} (hm : m ≤ 60) (hsx : ∀ c, c < m → a 9 c = 0 ∨ a 9 c = 1) (hkin : kinOk a m) : ∀ h, (mrF now a m ord al p1 p2 q h).1.2.2.2 = q.2.2.2 + (mrF now a m ord al p1 p2 q h).2
  | 0 => rfl
  | h + 1 => by
    have e := mrF_n (now := now) (ord := ord) (al := al) (p1 := p1) (p2 := p2) (q := q) hm hsx hkin h
    simp only [mrF]
    rw [wpF_n hm hsx hkin, wpF_n hm hsx hkin, e]
    omega
theorem mrF_mono (now : Int32) (a : Ar) (m : Nat) (ord : Int32) (al : Nat → Bool) (p1 p2 : Int32) (q : Ls) (h : Nat) : ∀ t, (mrF now a m ord al p1 p2 q h).2 ≤ (mrF now a m ord al p1 p2 q (h + t)).2
  | 0 => Nat.le_refl _
  | t + 1 => by
    have e := mrF_mono now a m ord al p1 p2 q h t
    rw [← Nat.add_assoc]
    simp only [mrF]
    omega
abbrev maC (i : Nat → Int32) (a : Ar) (p w : Int32) : Prop := lvP i a p ∧ lvP i a w ∧ a 9 p.toNatClampNeg = 0 ∧ a 9 w.toNatClampNeg = 1 ∧ a 12 p.toNatClampNeg = -1 ∧ a 12 w.toNatClampNeg = -1
def maT (a : Ar) (w : Nat) : Nat := if ¬ a 10 w = -1 ∧ ¬ a 20 (a 10 w).toNatClampNeg = 0 then (a 10 w).toNatClampNeg else w
def maB (i : Nat → Int32) (a : Ar) (p w : Int32) : Ar := up2 (up2 (up2 a 12 p.toNatClampNeg w) 12 w.toNatClampNeg p) 14 (maT a w.toNatClampNeg) (a 14 (maT a w.toNatClampNeg) + i 4)
theorem maB_ne (i : Nat → Int32) (a : Ar) (p w : Int32) {k : Nat} (h1 : k ≠ 12) (h2 : k ≠ 14) : maB i a p w k = a k := by
  unfold maB
  rw [up2_ne _ _ _ h2, up2_ne _ _ _ h1, up2_ne _ _ _ h1]
def maN (i : Nat → Int32) (a : Ar) (ch : Nat → List Rt) (m r : Nat) (p w : Int32) : Nat := if maC i a p w then (mrF (i 8) a m (i 0) (alB a) p w (lsOf a ch r) 10).2 else 0
def maQ (i : Nat → Int32) (a : Ar) (ch : Nat → List Rt) (m r : Nat) (p w : Int32) : Ls := if maC i a p w then (mrF (i 8) a m (i 0) (alB a) p w (lsOf a ch r) 10).1 else lsOf a ch r
def maA (i : Nat → Int32) (a : Ar) (p w : Int32) : Ar := if maC i a p w then maB i a p w else a
set_option maxRecDepth 100000 in
set_option maxHeartbeats 4000000 in
theorem c_X8_marry (l : Launch) (E : En) (o : Nat) (d : Nat → Nat) (i : Nat → Int32) (a : Nat → Nat → Int32) (ch : Nat → List Rt) (p w : Int32) (r : Nat) {m : Nat} (hm : i 22 = nI m) (h60 : m ≤ 60) (hal : ∀ p, p < 60 → a 20 p = 0 ∨ a 20 p = 1) (hfa : ∀ p, p < m → ¬ a 10 p = -1 → ∃ f, f < 60 ∧ a 10 p = nI f) (hkin : kinOk a m) (hsx : ∀ c, c < m → a 9 c = 0 ∨ a 9 c = 1) (hr : i 28 = nI r) (hr2 : r + maN i a ch m r p w ≤ 61560) : Mt l E yX8_marry cX8_marry 6 (some .boolean) (rmX 65 1930 (ccost r (maN i a ch m r p w)) (scost r (maN i a ch m r p w))) [.ref o, .int p, .int w] (RV E o d i a ch) (fun _ : (Nat → Int32) × Ar × (Nat → List Rt) => some (.int (b2i (maC i a p w)))) (fun x h => WIq i (maA i a p w) (maQ i a ch m r p w) x ∧ RV E o d x.1 x.2.1 x.2.2 h) := by
  refine Mt_of (by decide +kernel) (Nat.le_of_ble_eq_true rfl) (fun J O => ?_)
  show J _ 0 0 0 [some (.ref o), some (.int p), some (.int w), none, none, none] []
  refine x_aload_n (pc := 0) O dX8_marry_0 rfl rfl ?_
  refine x_iload_n (pc := 1) O dX8_marry_1 rfl ?_
  refine x_callV (pc := 2) (rest := _) (ci := 8) O (c_X8_lives l E _ _ _ _ _ _ hm h60) dX8_marry_2 cbX8_188 im_yX8_lives se_yX8_lives rfl v_recv rfl rfl (Nat.le_of_ble_eq_true rfl) ⟨Nat.le_of_ble_eq_true rfl, Nat.le_of_ble_eq_true rfl⟩ ⟨Nat.zero_le _, Nat.zero_le _⟩ (fun _ => ?_)
  dsimp only [Option.toList, List.append, List.nil_append, List.cons_append, Nat.add_zero, Nat.reduceAdd]
  refine x_if_eq (pc := 5) O 55 dX8_marry_5 (by decide) (fun c5 => ?_) (fun c5 => ?_)
  · refine x_iconst (v := 0) (pc := 55) O dX8_marry_55 (by decide) ?_
    have hC : ¬ maC i a p w := fun z => b2i_z c5 z.1
    refine x_ret (v := some (.int _)) (pc := 56) O dX8_marry_56 rfl rfl ⟨Nat.zero_le _, Nat.zero_le _, (i, a, ch), congrArg (fun z => some (Value.int z)) (b2i_f hC).symm, fun h hh => ⟨?_, hh⟩⟩
    unfold maQ maA
    rw [if_neg hC, if_neg hC]
    exact ⟨fun _ _ _ => rfl, fun _ _ _ _ _ _ => rfl, rfl, rfl, rfl, hr⟩
  · have hp1 := in_nat hm (by omega) (b2i_n0 c5).1
    refine x_aload_n (pc := 8) O dX8_marry_8 rfl rfl ?_
    refine x_iload_n (pc := 9) O dX8_marry_9 rfl ?_
    refine x_callV (pc := 10) (rest := _) (ci := 8) O (c_X8_lives l E _ _ _ _ _ _ hm h60) dX8_marry_10 cbX8_188 im_yX8_lives se_yX8_lives rfl v_recv rfl rfl (Nat.le_of_ble_eq_true rfl) ⟨Nat.le_of_ble_eq_true rfl, Nat.le_of_ble_eq_true rfl⟩ ⟨Nat.zero_le _, Nat.zero_le _⟩ (fun _ => ?_)
    dsimp only [Option.toList, List.append, List.nil_append, List.cons_append, Nat.add_zero, Nat.reduceAdd]
    refine x_if_eq (pc := 13) O 55 dX8_marry_13 (by decide) (fun c13 => ?_) (fun c13 => ?_)
    · refine x_iconst (v := 0) (pc := 55) O dX8_marry_55 (by decide) ?_
      have hC : ¬ maC i a p w := fun z => b2i_z c13 z.2.1
      refine x_ret (v := some (.int _)) (pc := 56) O dX8_marry_56 rfl rfl ⟨Nat.zero_le _, Nat.zero_le _, (i, a, ch), congrArg (fun z => some (Value.int z)) (b2i_f hC).symm, fun h hh => ⟨?_, hh⟩⟩
      unfold maQ maA
      rw [if_neg hC, if_neg hC]
      exact ⟨fun _ _ _ => rfl, fun _ _ _ _ _ _ => rfl, rfl, rfl, rfl, hr⟩
    · have hp2 := in_nat hm (by omega) (b2i_n0 c13).1
      refine x_aload_n (pc := 16) O dX8_marry_16 rfl rfl ?_
      refine v_get (pc := 17) O dX8_marry_17 fdX8_9 rfl rfl ?_
      refine x_iload_n (pc := 20) O dX8_marry_20 rfl ?_
      refine v_ald (k := 9) (pc := 21) O dX8_marry_21 rfl rfl rfl hp1.1 (by show _ < 60; omega) ?_
      refine x_if_ne (pc := 22) O 55 dX8_marry_22 (by decide) (fun c22 => ?_) (fun c22 => ?_)
      · refine x_iconst (v := 0) (pc := 55) O dX8_marry_55 (by decide) ?_
        have hC : ¬ maC i a p w := fun z => c22 z.2.2.1
        refine x_ret (v := some (.int _)) (pc := 56) O dX8_marry_56 rfl rfl ⟨Nat.zero_le _, Nat.zero_le _, (i, a, ch), congrArg (fun z => some (Value.int z)) (b2i_f hC).symm, fun h hh => ⟨?_, hh⟩⟩
        unfold maQ maA
        rw [if_neg hC, if_neg hC]
        exact ⟨fun _ _ _ => rfl, fun _ _ _ _ _ _ => rfl, rfl, rfl, rfl, hr⟩
      · refine x_aload_n (pc := 25) O dX8_marry_25 rfl rfl ?_
        refine v_get (pc := 26) O dX8_marry_26 fdX8_9 rfl rfl ?_
        refine x_iload_n (pc := 29) O dX8_marry_29 rfl ?_
        refine v_ald (k := 9) (pc := 30) O dX8_marry_30 rfl rfl rfl hp2.1 (by show _ < 60; omega) ?_
        refine x_iconst (v := 1) (pc := 31) O dX8_marry_31 (by decide) ?_
        refine x_icmp_ne (pc := 32) O 55 dX8_marry_32 (by decide) (fun c32 => ?_) (fun c32 => ?_)
        · refine x_iconst (v := 0) (pc := 55) O dX8_marry_55 (by decide) ?_
          have hC : ¬ maC i a p w := fun z => c32 z.2.2.2.1
          refine x_ret (v := some (.int _)) (pc := 56) O dX8_marry_56 rfl rfl ⟨Nat.zero_le _, Nat.zero_le _, (i, a, ch), congrArg (fun z => some (Value.int z)) (b2i_f hC).symm, fun h hh => ⟨?_, hh⟩⟩
          unfold maQ maA
          rw [if_neg hC, if_neg hC]
          exact ⟨fun _ _ _ => rfl, fun _ _ _ _ _ _ => rfl, rfl, rfl, rfl, hr⟩
        · refine x_aload_n (pc := 35) O dX8_marry_35 rfl rfl ?_
          refine v_get (pc := 36) O dX8_marry_36 fdX8_19 rfl rfl ?_
          refine x_iload_n (pc := 39) O dX8_marry_39 rfl ?_
          refine v_ald (k := 12) (pc := 40) O dX8_marry_40 rfl rfl rfl hp1.1 (by show _ < 60; omega) ?_
          refine x_iconst (v := (-1)) (pc := 41) O dX8_marry_41 (by decide) ?_
          refine x_icmp_ne (pc := 42) O 55 dX8_marry_42 (by decide) (fun c42 => ?_) (fun c42 => ?_)
          · refine x_iconst (v := 0) (pc := 55) O dX8_marry_55 (by decide) ?_
            have hC : ¬ maC i a p w := fun z => c42 z.2.2.2.2.1
            refine x_ret (v := some (.int _)) (pc := 56) O dX8_marry_56 rfl rfl ⟨Nat.zero_le _, Nat.zero_le _, (i, a, ch), congrArg (fun z => some (Value.int z)) (b2i_f hC).symm, fun h hh => ⟨?_, hh⟩⟩
            unfold maQ maA
            rw [if_neg hC, if_neg hC]
            exact ⟨fun _ _ _ => rfl, fun _ _ _ _ _ _ => rfl, rfl, rfl, rfl, hr⟩
          · refine x_aload_n (pc := 45) O dX8_marry_45 rfl rfl ?_
            refine v_get (pc := 46) O dX8_marry_46 fdX8_19 rfl rfl ?_
            refine x_iload_n (pc := 49) O dX8_marry_49 rfl ?_
            refine v_ald (k := 12) (pc := 50) O dX8_marry_50 rfl rfl rfl hp2.1 (by show _ < 60; omega) ?_
            refine x_iconst (v := (-1)) (pc := 51) O dX8_marry_51 (by decide) ?_
            refine x_icmp_eq (pc := 52) O 57 dX8_marry_52 (by decide) (fun c52 => ?_) (fun c52 => ?_)
            · have hC : maC i a p w := ⟨b2i_n0 c5, b2i_n0 c13, c22, c32, c42, c52⟩
              have hN : maN i a ch m r p w = (mrF (i 8) a m (i 0) (alB a) p w (lsOf a ch r) 10).2 := if_pos hC
              have hr3 : r + (mrF (i 8) a m (i 0) (alB a) p w (lsOf a ch r) 10).2 ≤ 61560 := by rw [← hN]; exact hr2
              have loop : ∀ f3 h, h ≤ 10 → ∀ x, WIq i (maB i a p w) (mrF (i 8) a m (i 0) (alB a) p w (lsOf a ch r) h).1 x → J (RV E o d x.1 x.2.1 x.2.2) (ccost r (mrF (i 8) a m (i 0) (alB a) p w (lsOf a ch r) h).2) (scost r (mrF (i 8) a m (i 0) (alB a) p w (lsOf a ch r) h).2) 112 [some (.ref o), some (.int p), some (.int w), some (.int f3), some (.int (nI h)), none] [] := by
                intro f3
                refine up_ind (Φ := fun h => ∀ x, WIq i (maB i a p w) (mrF (i 8) a m (i 0) (alB a) p w (lsOf a ch r) h).1 x → J (RV E o d x.1 x.2.1 x.2.2) (ccost r (mrF (i 8) a m (i 0) (alB a) p w (lsOf a ch r) h).2) (scost r (mrF (i 8) a m (i 0) (alB a) p w (lsOf a ch r) h).2) 112 [some (.ref o), some (.int p), some (.int w), some (.int f3), some (.int (nI h)), none] []) 10 (fun h hh ih x hx => ?_)
                refine x_iload (pc := 112) O dX8_marry_112 rfl ?_
                refine x_bipush (v := nI 10) (pc := 114) O dX8_marry_114 (by decide) ?_
                refine x_icmp_ge (pc := 116) O 142 dX8_marry_116 (by decide) (fun c116 => ?_) (fun c116 => ?_)
                · refine x_iconst (v := 1) (pc := 142) O dX8_marry_142 (by decide) ?_
                  have hk2 : h = 10 := by
                    rw [nI_leI (by omega) (by omega)] at c116
                    omega
                  subst hk2
                  refine x_ret (v := some (.int _)) (pc := 143) O dX8_marry_143 rfl rfl ⟨by rw [hN]; exact Nat.le_refl _, by rw [hN]; exact Nat.le_refl _, x, congrArg (fun z => some (Value.int z)) (b2i_t hC).symm, fun h hh => ⟨?_, hh⟩⟩
                  unfold maQ maA
                  rw [if_pos hC, if_pos hC]
                  exact hx
                · have hh10 : h < 10 := by
                    rw [nI_leI (by omega) (by omega)] at c116
                    omega
                  have hmono := mrF_mono (i 8) a m (i 0) (alB a) p w (lsOf a ch r) (h + 1) (10 - (h + 1))
                  rw [show h + 1 + (10 - (h + 1)) = 10 by omega, show (mrF (i 8) a m (i 0) (alB a) p w (lsOf a ch r) (h + 1)).2 = (mrF (i 8) a m (i 0) (alB a) p w (lsOf a ch r) h).2 + (wpF (i 8) a m (i 0) (alB a) p h (mrF (i 8) a m (i 0) (alB a) p w (lsOf a ch r) h).1 m).2 + (wpF (i 8) a m (i 0) (alB a) w h (wpF (i 8) a m (i 0) (alB a) p h (mrF (i 8) a m (i 0) (alB a) p w (lsOf a ch r) h).1 m).1 m).2 from rfl] at hmono
                  have hkx : ∀ k, k ≠ 21 → k ≠ 29 → k ≠ 30 → k ≠ 39 → k ≠ 43 → k ≠ 12 → k ≠ 14 → x.2.1 k = a k := fun k k0 k1 k2 k3 k4 k5 k6 => by rw [hx.2.1 k k0 k1 k2 k3 k4]; exact maB_ne i a p w k5 k6
                  have hnx : (mrF (i 8) a m (i 0) (alB a) p w (lsOf a ch r) h).1.2.2.2 = r + (mrF (i 8) a m (i 0) (alB a) p w (lsOf a ch r) h).2 := by rw [mrF_n h60 hsx hkin]; rfl
                  refine x_aload_n (pc := 119) O dX8_marry_119 rfl rfl ?_
                  refine x_iload_n (pc := 120) O dX8_marry_120 rfl ?_
                  refine x_iload (pc := 121) O dX8_marry_121 rfl ?_
                  have hcc123 : wpF (x.1 8) x.2.1 m (x.1 0) (alB x.2.1) p h (lsOf x.2.1 x.2.2 (r + (mrF (i 8) a m (i 0) (alB a) p w (lsOf a ch r) h).2)) m = (wpF (i 8) a m (i 0) (alB a) p h (mrF (i 8) a m (i 0) (alB a) p w (lsOf a ch r) h).1 m) := by
                    rw [hx.1 8 (by decide) (by decide), hx.1 0 (by decide) (by decide), show lsOf x.2.1 x.2.2 (r + (mrF (i 8) a m (i 0) (alB a) p w (lsOf a ch r) h).2) = (mrF (i 8) a m (i 0) (alB a) p w (lsOf a ch r) h).1 from Prod.ext hx.2.2.1 (Prod.ext hx.2.2.2.1 (Prod.ext hx.2.2.2.2.1 hnx.symm))]
                    exact wpF_congr h60 (fun c _ => by rw [hkx 9 (by decide) (by decide) (by decide) (by decide) (by decide) (by decide) (by decide)]) (fun c _ => by rw [hkx 10 (by decide) (by decide) (by decide) (by decide) (by decide) (by decide) (by decide)]) (fun c _ => by rw [hkx 11 (by decide) (by decide) (by decide) (by decide) (by decide) (by decide) (by decide)]) (fun c _ => by simp only [alB, hkx 20 (by decide) (by decide) (by decide) (by decide) (by decide) (by decide) (by decide)]) m (Nat.le_refl m)
                  have hca123 := cost_add r ((mrF (i 8) a m (i 0) (alB a) p w (lsOf a ch r) h).2) (wpF (i 8) a m (i 0) (alB a) p h (mrF (i 8) a m (i 0) (alB a) p w (lsOf a ch r) h).1 m).2
                  have hcb123 := cost_le r (k := (mrF (i 8) a m (i 0) (alB a) p w (lsOf a ch r) h).2 + (wpF (i 8) a m (i 0) (alB a) p h (mrF (i 8) a m (i 0) (alB a) p w (lsOf a ch r) h).1 m).2) (t := (mrF (i 8) a m (i 0) (alB a) p w (lsOf a ch r) 10).2) (by omega)
                  have hM123 := c_X8_widowPasses l E o d x.1 x.2.1 x.2.2 p h (r + (mrF (i 8) a m (i 0) (alB a) p w (lsOf a ch r) h).2) (m := m) (by rw [hx.1 22 (by decide) (by decide)]; exact hm) h60 (by rw [hkx 20 (by decide) (by decide) (by decide) (by decide) (by decide) (by decide) (by decide)]; exact hal) (by rw [hkx 10 (by decide) (by decide) (by decide) (by decide) (by decide) (by decide) (by decide)]; exact hfa) (fun c e hc he9 hch => hkin c e hc he9 (by
                    simp only [chd, hkx 10 (by decide) (by decide) (by decide) (by decide) (by decide) (by decide) (by decide), hkx 11 (by decide) (by decide) (by decide) (by decide) (by decide) (by decide) (by decide)] at hch
                    exact hch)) (by rw [hkx 9 (by decide) (by decide) (by decide) (by decide) (by decide) (by decide) (by decide)]; exact hsx) hh10 (by rw [hx.2.2.2.2.2, hnx]) (by rw [hcc123]; omega)
                  rw [hcc123] at hM123
                  refine x_callV (pc := 123) (rest := _) (ci := 8) O hM123 dX8_marry_123 cbX8_191 im_yX8_widowPasses se_yX8_widowPasses rfl v_recv rfl rfl (Nat.le_of_ble_eq_true rfl) ⟨Nat.le_of_ble_eq_true rfl, Nat.le_of_ble_eq_true rfl⟩ ⟨by rw [hN]; exact Nat.le_trans (Nat.le_of_eq hca123.1) hcb123.1, by rw [hN]; exact Nat.le_trans (Nat.le_of_eq hca123.2) hcb123.2⟩ (fun y => x_pure O (fun hy0 => ?_))
                  refine x_widen O (ce' := ccost r ((mrF (i 8) a m (i 0) (alB a) p w (lsOf a ch r) h).2 + (wpF (i 8) a m (i 0) (alB a) p h (mrF (i 8) a m (i 0) (alB a) p w (lsOf a ch r) h).1 m).2)) (sl' := scost r ((mrF (i 8) a m (i 0) (alB a) p w (lsOf a ch r) h).2 + (wpF (i 8) a m (i 0) (alB a) p h (mrF (i 8) a m (i 0) (alB a) p w (lsOf a ch r) h).1 m).2)) (Nat.le_of_eq hca123.1) (Nat.le_of_eq hca123.2) ?_
                  have hy : WIq i (maB i a p w) (wpF (i 8) a m (i 0) (alB a) p h (mrF (i 8) a m (i 0) (alB a) p w (lsOf a ch r) h).1 m).1 y := ⟨fun k k1 k2 => by rw [hy0.1 k k1 k2]; exact hx.1 k k1 k2, fun k k0 k1 k2 k3 k4 => by rw [hy0.2.1 k k0 k1 k2 k3 k4]; exact hx.2.1 k k0 k1 k2 k3 k4, hy0.2.2⟩
                  have hky : ∀ k, k ≠ 21 → k ≠ 29 → k ≠ 30 → k ≠ 39 → k ≠ 43 → k ≠ 12 → k ≠ 14 → y.2.1 k = a k := fun k k0 k1 k2 k3 k4 k5 k6 => by rw [hy.2.1 k k0 k1 k2 k3 k4]; exact maB_ne i a p w k5 k6
                  have hny : (wpF (i 8) a m (i 0) (alB a) p h (mrF (i 8) a m (i 0) (alB a) p w (lsOf a ch r) h).1 m).1.2.2.2 = r + ((mrF (i 8) a m (i 0) (alB a) p w (lsOf a ch r) h).2 + (wpF (i 8) a m (i 0) (alB a) p h (mrF (i 8) a m (i 0) (alB a) p w (lsOf a ch r) h).1 m).2) := by rw [wpF_n h60 hsx hkin, hnx]; omega
                  dsimp only [Option.toList, List.append, List.nil_append, List.cons_append, Nat.add_zero, Nat.reduceAdd]
                  refine x_aload_n (pc := 126) O dX8_marry_126 rfl rfl ?_
                  refine x_iload_n (pc := 127) O dX8_marry_127 rfl ?_
                  refine x_iload (pc := 128) O dX8_marry_128 rfl ?_
                  have hcc130 : wpF (y.1 8) y.2.1 m (y.1 0) (alB y.2.1) w h (lsOf y.2.1 y.2.2 (r + ((mrF (i 8) a m (i 0) (alB a) p w (lsOf a ch r) h).2 + (wpF (i 8) a m (i 0) (alB a) p h (mrF (i 8) a m (i 0) (alB a) p w (lsOf a ch r) h).1 m).2))) m = (wpF (i 8) a m (i 0) (alB a) w h (wpF (i 8) a m (i 0) (alB a) p h (mrF (i 8) a m (i 0) (alB a) p w (lsOf a ch r) h).1 m).1 m) := by
                    rw [hy.1 8 (by decide) (by decide), hy.1 0 (by decide) (by decide), show lsOf y.2.1 y.2.2 (r + ((mrF (i 8) a m (i 0) (alB a) p w (lsOf a ch r) h).2 + (wpF (i 8) a m (i 0) (alB a) p h (mrF (i 8) a m (i 0) (alB a) p w (lsOf a ch r) h).1 m).2)) = (wpF (i 8) a m (i 0) (alB a) p h (mrF (i 8) a m (i 0) (alB a) p w (lsOf a ch r) h).1 m).1 from Prod.ext hy.2.2.1 (Prod.ext hy.2.2.2.1 (Prod.ext hy.2.2.2.2.1 hny.symm))]
                    exact wpF_congr h60 (fun c _ => by rw [hky 9 (by decide) (by decide) (by decide) (by decide) (by decide) (by decide) (by decide)]) (fun c _ => by rw [hky 10 (by decide) (by decide) (by decide) (by decide) (by decide) (by decide) (by decide)]) (fun c _ => by rw [hky 11 (by decide) (by decide) (by decide) (by decide) (by decide) (by decide) (by decide)]) (fun c _ => by simp only [alB, hky 20 (by decide) (by decide) (by decide) (by decide) (by decide) (by decide) (by decide)]) m (Nat.le_refl m)
                  have hca130 := cost_add r (((mrF (i 8) a m (i 0) (alB a) p w (lsOf a ch r) h).2 + (wpF (i 8) a m (i 0) (alB a) p h (mrF (i 8) a m (i 0) (alB a) p w (lsOf a ch r) h).1 m).2)) (wpF (i 8) a m (i 0) (alB a) w h (wpF (i 8) a m (i 0) (alB a) p h (mrF (i 8) a m (i 0) (alB a) p w (lsOf a ch r) h).1 m).1 m).2
                  have hcb130 := cost_le r (k := ((mrF (i 8) a m (i 0) (alB a) p w (lsOf a ch r) h).2 + (wpF (i 8) a m (i 0) (alB a) p h (mrF (i 8) a m (i 0) (alB a) p w (lsOf a ch r) h).1 m).2) + (wpF (i 8) a m (i 0) (alB a) w h (wpF (i 8) a m (i 0) (alB a) p h (mrF (i 8) a m (i 0) (alB a) p w (lsOf a ch r) h).1 m).1 m).2) (t := (mrF (i 8) a m (i 0) (alB a) p w (lsOf a ch r) 10).2) (by omega)
                  have hM130 := c_X8_widowPasses l E o d y.1 y.2.1 y.2.2 w h (r + ((mrF (i 8) a m (i 0) (alB a) p w (lsOf a ch r) h).2 + (wpF (i 8) a m (i 0) (alB a) p h (mrF (i 8) a m (i 0) (alB a) p w (lsOf a ch r) h).1 m).2)) (m := m) (by rw [hy.1 22 (by decide) (by decide)]; exact hm) h60 (by rw [hky 20 (by decide) (by decide) (by decide) (by decide) (by decide) (by decide) (by decide)]; exact hal) (by rw [hky 10 (by decide) (by decide) (by decide) (by decide) (by decide) (by decide) (by decide)]; exact hfa) (fun c e hc he9 hch => hkin c e hc he9 (by
                    simp only [chd, hky 10 (by decide) (by decide) (by decide) (by decide) (by decide) (by decide) (by decide), hky 11 (by decide) (by decide) (by decide) (by decide) (by decide) (by decide) (by decide)] at hch
                    exact hch)) (by rw [hky 9 (by decide) (by decide) (by decide) (by decide) (by decide) (by decide) (by decide)]; exact hsx) hh10 (by rw [hy.2.2.2.2.2, hny]) (by rw [hcc130]; omega)
                  rw [hcc130] at hM130
                  refine x_callV (pc := 130) (rest := _) (ci := 8) O hM130 dX8_marry_130 cbX8_191 im_yX8_widowPasses se_yX8_widowPasses rfl v_recv rfl rfl (Nat.le_of_ble_eq_true rfl) ⟨Nat.le_of_ble_eq_true rfl, Nat.le_of_ble_eq_true rfl⟩ ⟨by rw [hN]; exact Nat.le_trans (Nat.le_of_eq hca130.1) hcb130.1, by rw [hN]; exact Nat.le_trans (Nat.le_of_eq hca130.2) hcb130.2⟩ (fun z => x_pure O (fun hz0 => ?_))
                  refine x_widen O (ce' := ccost r (((mrF (i 8) a m (i 0) (alB a) p w (lsOf a ch r) h).2 + (wpF (i 8) a m (i 0) (alB a) p h (mrF (i 8) a m (i 0) (alB a) p w (lsOf a ch r) h).1 m).2) + (wpF (i 8) a m (i 0) (alB a) w h (wpF (i 8) a m (i 0) (alB a) p h (mrF (i 8) a m (i 0) (alB a) p w (lsOf a ch r) h).1 m).1 m).2)) (sl' := scost r (((mrF (i 8) a m (i 0) (alB a) p w (lsOf a ch r) h).2 + (wpF (i 8) a m (i 0) (alB a) p h (mrF (i 8) a m (i 0) (alB a) p w (lsOf a ch r) h).1 m).2) + (wpF (i 8) a m (i 0) (alB a) w h (wpF (i 8) a m (i 0) (alB a) p h (mrF (i 8) a m (i 0) (alB a) p w (lsOf a ch r) h).1 m).1 m).2)) (Nat.le_of_eq hca130.1) (Nat.le_of_eq hca130.2) ?_
                  have hz : WIq i (maB i a p w) (wpF (i 8) a m (i 0) (alB a) w h (wpF (i 8) a m (i 0) (alB a) p h (mrF (i 8) a m (i 0) (alB a) p w (lsOf a ch r) h).1 m).1 m).1 z := ⟨fun k k1 k2 => by rw [hz0.1 k k1 k2]; exact hy.1 k k1 k2, fun k k0 k1 k2 k3 k4 => by rw [hz0.2.1 k k0 k1 k2 k3 k4]; exact hy.2.1 k k0 k1 k2 k3 k4, hz0.2.2⟩
                  have hkz : ∀ k, k ≠ 21 → k ≠ 29 → k ≠ 30 → k ≠ 39 → k ≠ 43 → k ≠ 12 → k ≠ 14 → z.2.1 k = a k := fun k k0 k1 k2 k3 k4 k5 k6 => by rw [hz.2.1 k k0 k1 k2 k3 k4]; exact maB_ne i a p w k5 k6
                  have hnz : (wpF (i 8) a m (i 0) (alB a) w h (wpF (i 8) a m (i 0) (alB a) p h (mrF (i 8) a m (i 0) (alB a) p w (lsOf a ch r) h).1 m).1 m).1.2.2.2 = r + (((mrF (i 8) a m (i 0) (alB a) p w (lsOf a ch r) h).2 + (wpF (i 8) a m (i 0) (alB a) p h (mrF (i 8) a m (i 0) (alB a) p w (lsOf a ch r) h).1 m).2) + (wpF (i 8) a m (i 0) (alB a) w h (wpF (i 8) a m (i 0) (alB a) p h (mrF (i 8) a m (i 0) (alB a) p w (lsOf a ch r) h).1 m).1 m).2) := by rw [wpF_n h60 hsx hkin, hny]; omega
                  dsimp only [Option.toList, List.append, List.nil_append, List.cons_append, Nat.add_zero, Nat.reduceAdd]
                  refine x_iadd (pc := 133) O dX8_marry_133 ?_
                  refine x_istore (pc := 134) O dX8_marry_134 (by decide) rfl ?_
                  refine x_iinc (v := nI (h + 1)) (pc := 136) O dX8_marry_136 rfl (nI_succ h).symm rfl ?_
                  refine x_goto (pc := 139) O 112 dX8_marry_139 (by decide) ?_
                  refine x_lv O [some (.ref o), some (.int p), some (.int w), some (.int f3), some (.int (nI (h + 1))), none] ⟨rfl, rfl, rfl, rfl, rfl, trivial⟩ ?_
                  exact ih (by omega) z hz
              have tail : ∀ A f3, A = maB i a p w → J (RV E o d i A ch) 0 0 109 [some (.ref o), some (.int p), some (.int w), some (.int f3), none, none] [] := by
                intro A f3 hA
                refine x_iconst (v := nI 0) (pc := 109) O dX8_marry_109 (by decide) ?_
                refine x_istore (pc := 110) O dX8_marry_110 (by decide) rfl ?_
                have h0 := loop f3 0 (Nat.zero_le _) (i, A, ch) ⟨fun _ _ _ => rfl, fun k _ _ _ _ _ => by rw [hA], by rw [hA]; exact maB_ne (k := 29) i a p w (by decide) (by decide), by rw [hA]; exact maB_ne (k := 30) i a p w (by decide) (by decide), rfl, hr⟩
                rw [show (mrF (i 8) a m (i 0) (alB a) p w (lsOf a ch r) 0).2 = 0 from rfl, (ccost_0 r).1, (ccost_0 r).2] at h0
                exact h0
              refine x_aload_n (pc := 57) O dX8_marry_57 rfl rfl ?_
              refine v_get (pc := 58) O dX8_marry_58 fdX8_19 rfl rfl ?_
              refine x_iload_n (pc := 61) O dX8_marry_61 rfl ?_
              refine x_iload_n (pc := 62) O dX8_marry_62 rfl ?_
              refine v_ast (k := 12) (pc := 63) O dX8_marry_63 rfl rfl rfl hp1.1 (by show _ < 60; omega) ?_
              refine x_aload_n (pc := 64) O dX8_marry_64 rfl rfl ?_
              refine v_get (pc := 65) O dX8_marry_65 fdX8_19 rfl rfl ?_
              refine x_iload_n (pc := 68) O dX8_marry_68 rfl ?_
              refine x_iload_n (pc := 69) O dX8_marry_69 rfl ?_
              refine v_ast (k := 12) (pc := 70) O dX8_marry_70 rfl rfl rfl hp2.1 (by show _ < 60; omega) ?_
              refine x_aload_n (pc := 71) O dX8_marry_71 rfl rfl ?_
              refine v_get (pc := 72) O dX8_marry_72 fdX8_13 rfl rfl ?_
              refine x_iload_n (pc := 75) O dX8_marry_75 rfl ?_
              refine v_aldv (k := 10) (v := a 10 w.toNatClampNeg) (pc := 76) O dX8_marry_76 rfl rfl rfl hp2.1 (by show _ < 60; omega) (by simp [up2, upd]) ?_
              refine x_istore_n (pc := 77) O dX8_marry_77 (by decide) rfl ?_
              refine x_aload_n (pc := 78) O dX8_marry_78 rfl rfl ?_
              refine v_get (pc := 79) O dX8_marry_79 fdX8_25 rfl rfl ?_
              refine x_iload_n (pc := 82) O dX8_marry_82 rfl ?_
              refine x_iconst (v := (-1)) (pc := 83) O dX8_marry_83 (by decide) ?_
              refine x_icmp_eq (pc := 84) O 100 dX8_marry_84 (by decide) (fun c84 => ?_) (fun c84 => ?_)
              · refine x_iload_n (pc := 100) O dX8_marry_100 rfl ?_
                refine x_dup2 (pc := 101) O dX8_marry_101 rfl rfl ?_
                refine v_aldv (k := 14) (v := a 14 w.toNatClampNeg) (pc := 102) O dX8_marry_102 rfl rfl rfl hp2.1 (by show _ < 60; omega) (by simp [up2, upd]) ?_
                refine x_aload_n (pc := 103) O dX8_marry_103 rfl rfl ?_
                refine v_get (pc := 104) O dX8_marry_104 fdX8_148 rfl rfl ?_
                refine x_iadd (pc := 107) O dX8_marry_107 ?_
                refine v_ast (k := 14) (pc := 108) O dX8_marry_108 rfl rfl rfl hp2.1 (by show _ < 60; omega) ?_
                refine tail _ _ ?_
                unfold maB
                rw [show maT a w.toNatClampNeg = w.toNatClampNeg from if_neg (fun z => z.1 c84)]
              · obtain ⟨fn, hfn, hf0⟩ := hfa w.toNatClampNeg hp2.2 c84
                have hf : a 10 w.toNatClampNeg = nI (a 10 w.toNatClampNeg).toNatClampNeg ∧ (a 10 w.toNatClampNeg).toNatClampNeg < 60 := by
                  rw [hf0, nI_clamp (by omega)]
                  exact ⟨rfl, hfn⟩
                refine x_aload_n (pc := 87) O dX8_marry_87 rfl rfl ?_
                refine v_get (pc := 88) O dX8_marry_88 fdX8_43 rfl rfl ?_
                refine x_iload_n (pc := 91) O dX8_marry_91 rfl ?_
                refine v_zldv (k := 20) (v := a 20 (a 10 w.toNatClampNeg).toNatClampNeg) (pc := 92) O dX8_marry_92 rfl hf.1 (by omega) (by simp [up2, upd]) ?_
                refine x_if_eq (pc := 93) O 100 dX8_marry_93 (by decide) (fun c93 => ?_) (fun c93 => ?_)
                · refine x_iload_n (pc := 100) O dX8_marry_100 rfl ?_
                  refine x_dup2 (pc := 101) O dX8_marry_101 rfl rfl ?_
                  refine v_aldv (k := 14) (v := a 14 w.toNatClampNeg) (pc := 102) O dX8_marry_102 rfl rfl rfl hp2.1 (by show _ < 60; omega) (by simp [up2, upd]) ?_
                  refine x_aload_n (pc := 103) O dX8_marry_103 rfl rfl ?_
                  refine v_get (pc := 104) O dX8_marry_104 fdX8_148 rfl rfl ?_
                  refine x_iadd (pc := 107) O dX8_marry_107 ?_
                  refine v_ast (k := 14) (pc := 108) O dX8_marry_108 rfl rfl rfl hp2.1 (by show _ < 60; omega) ?_
                  refine tail _ _ ?_
                  unfold maB
                  rw [show maT a w.toNatClampNeg = w.toNatClampNeg from if_neg (fun z => z.2 c93)]
                · refine x_iload_n (pc := 96) O dX8_marry_96 rfl ?_
                  refine x_goto (pc := 97) O 101 dX8_marry_97 (by decide) ?_
                  refine x_dup2 (pc := 101) O dX8_marry_101 rfl rfl ?_
                  refine v_aldv (k := 14) (v := a 14 (a 10 w.toNatClampNeg).toNatClampNeg) (pc := 102) O dX8_marry_102 rfl rfl rfl hf.1 (by show _ < 60; omega) (by simp [up2, upd]) ?_
                  refine x_aload_n (pc := 103) O dX8_marry_103 rfl rfl ?_
                  refine v_get (pc := 104) O dX8_marry_104 fdX8_148 rfl rfl ?_
                  refine x_iadd (pc := 107) O dX8_marry_107 ?_
                  refine v_ast (k := 14) (pc := 108) O dX8_marry_108 rfl rfl rfl hf.1 (by show _ < 60; omega) ?_
                  refine tail _ _ ?_
                  unfold maB
                  rw [show maT a w.toNatClampNeg = (a 10 w.toNatClampNeg).toNatClampNeg from if_pos ⟨c84, c93⟩]
            · refine x_iconst (v := 0) (pc := 55) O dX8_marry_55 (by decide) ?_
              have hC : ¬ maC i a p w := fun z => c52 z.2.2.2.2.2
              refine x_ret (v := some (.int _)) (pc := 56) O dX8_marry_56 rfl rfl ⟨Nat.zero_le _, Nat.zero_le _, (i, a, ch), congrArg (fun z => some (Value.int z)) (b2i_f hC).symm, fun h hh => ⟨?_, hh⟩⟩
              unfold maQ maA
              rw [if_neg hC, if_neg hC]
              exact ⟨fun _ _ _ => rfl, fun _ _ _ _ _ _ => rfl, rfl, rfl, rfl, hr⟩
