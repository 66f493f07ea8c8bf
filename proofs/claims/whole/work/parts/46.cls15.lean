/-! ===== CLS 15: grant, rod, heir, right, holder ===== -/
abbrev gmC (ch : Nat → List Rt) (h n fr : Int32) : Prop := (0 ≤ h ∧ h ≤ 9) ∧ 1 ≤ n ∧ n ≤ nI (pkL (pkC ch fr 0) h.toNatClampNeg 12).length
def gmN (ch : Nat → List Rt) (h n fr : Int32) : Nat := if gmC ch h n fr then n.toNatClampNeg else 0
def gmE (ch : Nat → List Rt) (h n fr to how : Int32) : List (Nat × Int32 × Int32) := ((pkL (pkC ch fr 0) h.toNatClampNeg 12).take (gmN ch h n fr)).map (fun s => (s, to, how))
theorem gm_no {ch : Nat → List Rt} {h n fr : Int32} (hg : ¬ gmC ch h n fr) : gmN ch h n fr = 0 := if_neg hg
theorem gmE_no {ch : Nat → List Rt} {h n fr to how : Int32} (hg : ¬ gmC ch h n fr) : gmE ch h n fr to how = [] := by unfold gmE; rw [gm_no hg]; rfl
theorem hold_nat {h : Int32} (hh : 0 ≤ h ∧ h ≤ 9) : h = nI h.toNatClampNeg ∧ h.toNatClampNeg < 10 := in_nat (m := 10) rfl (by decide) ⟨hh.1, hh.2⟩
def cgN (V : Nat → Nat → Nat → Int32) (m : Nat) (ch : Nat → List Rt) (h n p : Int32) : Nat := if lvC V m p then gmN ch h n (-1) else 0
def cgE (V : Nat → Nat → Nat → Int32) (m : Nat) (ch : Nat → List Rt) (h n p : Int32) : List (Nat × Int32 × Int32) := if lvC V m p then gmE ch h n (-1) p 1 else []
abbrev rdC (V : Nat → Nat → Nat → Int32) (m : Nat) (fr to : Int32) : Prop := lvC V m fr ∧ lvC V m to ∧ ¬ fr = to
def crN (V : Nat → Nat → Nat → Int32) (m : Nat) (ch : Nat → List Rt) (h n fr to : Int32) : Nat := if rdC V m fr to then gmN ch h n fr else 0
def crE (V : Nat → Nat → Nat → Int32) (m : Nat) (ch : Nat → List Rt) (h n fr to : Int32) : List (Nat × Int32 × Int32) := if rdC V m fr to then gmE ch h n fr to 4 else []
def crO (V : Nat → Nat → Nat → Int32) (m : Nat) (ch : Nat → List Rt) (h n fr to : Int32) : Nat → Nat → Nat → Int32 := if rdC V m fr to ∧ gmC ch h n fr then up3 V 1 to.toNatClampNeg 6 (V 1 to.toNatClampNeg 6 + n * V 0 0 5) else V
theorem SQ.u {V V1 : Nat → Nat → Nat → Int32} {VL VL1 : Nat → Nat → Nat → Int64} (h : SQ V VL V1 VL1) {t k : Nat} (f : Nat) (v : Int32) (ht : t ≠ 0) : SQ (up3 V t k f v) VL (up3 V1 t k f v) VL1 := ⟨fun t' k' hk => by
    by_cases c : t' = t ∧ k' = k
    · obtain ⟨rfl, rfl⟩ := c
      rw [up3_eq, up3_eq, h.1 _ _ hk]
    · rw [up3_ne _ _ _ c, up3_ne _ _ _ c]; exact h.1 _ _ hk, h.2⟩
set_option maxRecDepth 100000 in
set_option maxHeartbeats 4000000 in
theorem c_X7_grant (l : Launch) (E : En) (adr : Nat → Nat → Nat) (V : Nat → Nat → Nat → Int32) (VL : Nat → Nat → Nat → Int64) (m ns : Nat) (ch : Nat → List Rt) (h n p : Int32) (r : Nat) (hc : V 0 3 1 = nI m) (h60 : m ≤ 60) (hr : V 0 2 1 = nI r) (hr2 : r + 12 ≤ 61560) : Mt l E yX7_grant cX7_grant 4 (some .boolean) (rmX 3 76 (cgN V m ch h n p) (4 * (cgN V m ch h n p))) [.ref (adr 0 7), .int h, .int n, .int p] (CV E adr V VL m ns ch) (fun _ : Nat → Nat → Nat → Int32 => some (.int (b2i (lvC V m p ∧ gmC ch h n (-1))))) (fun V1 h9 => (SQ V VL V1 VL ∧ V1 0 2 1 = nI (r + (cgN V m ch h n p))) ∧ CV E adr V1 VL m ns (clL (V 0 7 0) ch (cgE V m ch h n p)) h9) := by
  refine Mt_of (by decide +kernel) (Nat.le_of_ble_eq_true rfl) (fun J O => ?_)
  show J _ 0 0 0 [some (.ref (adr 0 7)), some (.int h), some (.int n), some (.int p)] []
  refine x_iload_n (pc := 0) O dX7_grant_0 rfl ?_
  refine x_callS (pc := 1) (rest := []) O (c_X7_isHolding l E _ h) dX7_grant_1 cbX7_108 sm_yX7_isHolding rfl rfl (Nat.le_of_ble_eq_true rfl) ⟨Nat.le_of_ble_eq_true rfl, Nat.le_of_ble_eq_true rfl⟩ ⟨by simp only [rmX]; omega, by simp only [rmX]; omega⟩ (fun _ => ?_)
  dsimp only [Option.toList, List.append, List.nil_append, List.cons_append, Nat.add_zero, Nat.reduceAdd]
  refine x_if_eq (pc := 4) O 18 dX7_grant_4 (by decide) (fun c4 => ?_) (fun c4 => ?_)
  · refine x_iconst (v := 0) (pc := 18) O dX7_grant_18 (by decide) ?_
    have hc9 : ¬ (lvC V m p ∧ gmC ch h n (-1)) := fun z => b2i_z c4 z.2.1
    have eE : (cgE V m ch h n p) = [] := by
      unfold cgE
      split
      · rename_i hl; exact gmE_no (fun z => hc9 ⟨hl, z⟩)
      · rfl
    have eN : (cgN V m ch h n p) = 0 := by
      unfold cgN
      split
      · rename_i hl; exact gm_no (fun z => hc9 ⟨hl, z⟩)
      · rfl
    exact x_ret (v := some (.int _)) (pc := 19) O dX7_grant_19 rfl rfl ⟨by simp only [rmX]; omega, by simp only [rmX]; omega, V, congrArg (fun z => some (Value.int z)) (b2i_f hc9).symm, fun h hh => ⟨⟨SQ.rf _ _, by rw [eN]; exact hr⟩, by rw [eE]; exact hh⟩⟩
  · refine x_aload_n (pc := 7) O dX7_grant_7 rfl rfl ?_
    refine cv_get (t := 0) (n := 7) (pc := 8) O dX7_grant_8 fdX7_28 rfl rfl rfl ?_
    refine x_iload_n (pc := 11) O dX7_grant_11 rfl ?_
    rcases noA_or m V p with ⟨j, hj, rfl, hal⟩ | hna
    · refine x_callV (pc := 12) (rest := []) (ci := 3) O (c_X3_findAlive l E _ _ _ _ _ _ j hc h60 hj hal) dX7_grant_12 cbX7_79 im_yX3_findAlive se_yX3_findAlive rfl (cv_recv (t := 0) (n := 3) rfl rfl) rfl rfl (Nat.le_of_ble_eq_true rfl) ⟨Nat.le_of_ble_eq_true rfl, Nat.le_of_ble_eq_true rfl⟩ ⟨by simp only [rmX]; omega, by simp only [rmX]; omega⟩ (fun _ => ?_)
      dsimp only [Option.toList, List.append, List.nil_append, List.cons_append, Nat.add_zero, Nat.reduceAdd]
      refine x_ifnonnull (pc := 15) O 20 dX7_grant_15 (by decide) ?_
      have hh9 := b2i_n0 c4
      obtain ⟨hn, hhn⟩ : ∃ hn, hn = h.toNatClampNeg := ⟨_, rfl⟩
      have hhq := hold_nat hh9
      rw [← hhn] at hhq
      obtain ⟨hh1, hh2⟩ := hhq
      refine x_aload_n (pc := 20) O dX7_grant_20 rfl rfl ?_
      refine cv_get (t := 0) (n := 7) (pc := 21) O dX7_grant_21 fdX7_35 rfl rfl rfl ?_
      refine x_iload_n (pc := 24) O dX7_grant_24 rfl ?_
      rw [hh1]
      refine x_iconst (v := (-1)) (pc := 25) O dX7_grant_25 (by decide) ?_
      refine x_iconst (v := 0) (pc := 26) O dX7_grant_26 (by decide) ?_
      refine x_callV (pc := 27) (rest := []) (ci := 2) O (v_X2_pick l E _ _ _ _ _ _ hn (-1) 0 hh2) dX7_grant_27 cbX7_112 im_yX2_pick se_yX2_pick rfl (cv_recv (t := 0) (n := 2) rfl rfl) rfl rfl (Nat.le_of_ble_eq_true rfl) ⟨Nat.le_of_ble_eq_true rfl, Nat.le_of_ble_eq_true rfl⟩ ⟨by simp only [rmX]; omega, by simp only [rmX]; omega⟩ (fun V2 => x_pure O (fun hq => ?_))
      dsimp only [Option.toList, List.append, List.nil_append, List.cons_append, Nat.add_zero, Nat.reduceAdd]
      have hq0 := hq
      rw [hhn] at hq0
      refine x_iload_n (pc := 30) O dX7_grant_30 rfl ?_
      refine x_iconst (v := 1) (pc := 31) O dX7_grant_31 (by decide) ?_
      refine x_icmp_lt (pc := 32) O 46 dX7_grant_32 (by decide) (fun c32 => ?_) (fun c32 => ?_)
      · refine x_iconst (v := 0) (pc := 46) O dX7_grant_46 (by decide) ?_
        have hc9 : ¬ (lvC V m (nI j) ∧ gmC ch h n (-1)) := fun z => absurd c32 (Int32.not_lt.mpr z.2.2.1)
        have eE : (cgE V m ch h n (nI j)) = [] := by
          unfold cgE
          split
          · rename_i hl; exact gmE_no (fun z => hc9 ⟨hl, z⟩)
          · rfl
        have eN : (cgN V m ch h n (nI j)) = 0 := by
          unfold cgN
          split
          · rename_i hl; exact gm_no (fun z => hc9 ⟨hl, z⟩)
          · rfl
        exact x_ret (v := some (.int _)) (pc := 47) O dX7_grant_47 rfl rfl ⟨by simp only [rmX]; omega, by simp only [rmX]; omega, V2, congrArg (fun z => some (Value.int z)) (b2i_f hc9).symm, fun h hh => ⟨⟨SQ.pk VL hq, by rw [eN]; exact by rw [hq.2.1]; exact hr⟩, by rw [eE]; exact hh⟩⟩
      · refine x_iload_n (pc := 35) O dX7_grant_35 rfl ?_
        refine x_aload_n (pc := 36) O dX7_grant_36 rfl rfl ?_
        refine cv_get (t := 0) (n := 7) (pc := 37) O dX7_grant_37 fdX7_35 rfl rfl rfl ?_
        refine cv_get (t := 0) (n := 2) (pc := 40) O dX7_grant_40 fdX7_116 rfl rfl rfl ?_
        rw [hq0.2.2.1]
        refine x_icmp_le (pc := 43) O 48 dX7_grant_43 (by decide) (fun c43 => ?_) (fun c43 => ?_)
        · have hlv := lv_ok h60 hj hal
          have hgm : gmC ch h n (-1) := ⟨hh9, Int32.not_lt.mp c32, c43⟩
          obtain ⟨n0, hn0, rfl⟩ := nI_of (x := n) (fun z => absurd (Int32.le_trans (Int32.not_lt.mp c32) (Int32.le_of_lt z)) (by decide))
          have hn1 : n0 ≤ (pkL (pkC ch (-1) 0) hn 12).length := by
            rw [hhn]
            exact (nI_leI hn0 (Nat.lt_of_le_of_lt (pkL_len _ _ _) (by decide))).mp c43
          have hl12 := pkL_len (pkC ch (-1) 0) hn 12
          have eN : cgN V m ch h (nI n0) (nI j) = n0 := by
            unfold cgN gmN
            rw [if_pos hlv, if_pos hgm, nI_clamp hn0]
          have eE : cgE V m ch h (nI n0) (nI j) = ((pkL (pkC ch (-1) 0) hn 12).take n0).map (fun s => (s, nI j, (1 : Int32))) := by
            unfold cgE gmE gmN
            rw [if_pos hlv, if_pos hgm, nI_clamp hn0, hhn]
          refine x_aload_n (pc := 48) O dX7_grant_48 rfl rfl ?_
          refine cv_get (t := 0) (n := 7) (pc := 49) O dX7_grant_49 fdX7_35 rfl rfl rfl ?_
          refine x_iconst (v := nI 0) (pc := 52) O dX7_grant_52 (by decide) ?_
          refine x_iload_n (pc := 53) O dX7_grant_53 rfl ?_
          refine x_iload_n (pc := 54) O dX7_grant_54 rfl ?_
          refine x_iconst (v := 1) (pc := 55) O dX7_grant_55 (by decide) ?_
          refine x_aload_n (pc := 56) O dX7_grant_56 rfl rfl ?_
          refine cv_get (t := 0) (n := 7) (pc := 57) O dX7_grant_57 fdX7_9 rfl rfl rfl ?_
          rw [hq.1 0 7 (fun z => absurd z.2 (by decide))]
          refine x_callV (pc := 60) (rest := []) (ci := 2) O (c_X2_bringPicked l E _ V2 _ _ _ _ (pkL (pkC ch (-1) 0) hn 12) 0 n0 r (nI j) 1 (V 0 7 0) hq.2.2.1 hq.2.2.2 hl12 (fun s hs => by have := (pkL_mem hs).1; omega) (Nat.zero_le _) hn1 (by rw [hq.2.1]; exact hr) (by omega)) dX7_grant_60 cbX7_119 im_yX2_bringPicked se_yX2_bringPicked rfl (cv_recv (t := 0) (n := 2) rfl rfl) rfl rfl (Nat.le_of_ble_eq_true rfl) ⟨Nat.le_of_ble_eq_true rfl, Nat.le_of_ble_eq_true rfl⟩ ⟨by simp only [rmX]; omega, by simp only [rmX]; omega⟩ (fun _ => ?_)
          dsimp only [Option.toList, List.append, List.nil_append, List.cons_append, Nat.add_zero, Nat.reduceAdd]
          refine x_iconst (v := 1) (pc := 63) O dX7_grant_63 (by decide) ?_
          exact x_ret (v := some (.int _)) (pc := 64) O dX7_grant_64 rfl rfl ⟨by simp only [rmX]; omega, by simp only [rmX]; omega, up3 V2 0 2 1 (nI (r + (n0 - 0))), congrArg (fun z => some (Value.int z)) (b2i_t ⟨hlv, hgm⟩).symm, fun h hh => ⟨⟨(SQ.pk VL hq).r 1 _, by rw [up3_eq, va_up_self, eN]; rfl⟩, by rw [eE, ← List.drop_zero (l := (pkL (pkC ch (-1) 0) hn 12).take n0)]; exact hh⟩⟩
        · refine x_iconst (v := 0) (pc := 46) O dX7_grant_46 (by decide) ?_
          have hc9 : ¬ (lvC V m (nI j) ∧ gmC ch h n (-1)) := fun z => c43 z.2.2.2
          have eE : (cgE V m ch h n (nI j)) = [] := by
            unfold cgE
            split
            · rename_i hl; exact gmE_no (fun z => hc9 ⟨hl, z⟩)
            · rfl
          have eN : (cgN V m ch h n (nI j)) = 0 := by
            unfold cgN
            split
            · rename_i hl; exact gm_no (fun z => hc9 ⟨hl, z⟩)
            · rfl
          exact x_ret (v := some (.int _)) (pc := 47) O dX7_grant_47 rfl rfl ⟨by simp only [rmX]; omega, by simp only [rmX]; omega, V2, congrArg (fun z => some (Value.int z)) (b2i_f hc9).symm, fun h hh => ⟨⟨SQ.pk VL hq, by rw [eN]; exact by rw [hq.2.1]; exact hr⟩, by rw [eE]; exact hh⟩⟩
    · refine x_callV (pc := 12) (rest := []) (ci := 3) O (c_X3_findAlive_no l E _ _ _ _ _ _ _ hc h60 hna) dX7_grant_12 cbX7_79 im_yX3_findAlive se_yX3_findAlive rfl (cv_recv (t := 0) (n := 3) rfl rfl) rfl rfl (Nat.le_of_ble_eq_true rfl) ⟨Nat.le_of_ble_eq_true rfl, Nat.le_of_ble_eq_true rfl⟩ ⟨by simp only [rmX]; omega, by simp only [rmX]; omega⟩ (fun _ => ?_)
      dsimp only [Option.toList, List.append, List.nil_append, List.cons_append, Nat.add_zero, Nat.reduceAdd]
      refine x_ifnonnullN (pc := 15) O dX7_grant_15 ?_
      refine x_iconst (v := 0) (pc := 18) O dX7_grant_18 (by decide) ?_
      have hc9 : ¬ (lvC V m p ∧ gmC ch h n (-1)) := fun z => lv_no h60 hna z.1
      have eE : (cgE V m ch h n p) = [] := by
        unfold cgE
        split
        · rename_i hl; exact gmE_no (fun z => hc9 ⟨hl, z⟩)
        · rfl
      have eN : (cgN V m ch h n p) = 0 := by
        unfold cgN
        split
        · rename_i hl; exact gm_no (fun z => hc9 ⟨hl, z⟩)
        · rfl
      exact x_ret (v := some (.int _)) (pc := 19) O dX7_grant_19 rfl rfl ⟨by simp only [rmX]; omega, by simp only [rmX]; omega, V, congrArg (fun z => some (Value.int z)) (b2i_f hc9).symm, fun h hh => ⟨⟨SQ.rf _ _, by rw [eN]; exact hr⟩, by rw [eE]; exact hh⟩⟩
set_option maxRecDepth 100000 in
set_option maxHeartbeats 4000000 in
theorem c_X7_rod (l : Launch) (E : En) (adr : Nat → Nat → Nat) (V : Nat → Nat → Nat → Int32) (VL : Nat → Nat → Nat → Int64) (m ns : Nat) (ch : Nat → List Rt) (h n fr to : Int32) (r : Nat) (hc : V 0 3 1 = nI m) (h60 : m ≤ 60) (hr : V 0 2 1 = nI r) (hr2 : r + 12 ≤ 61560) : Mt l E yX7_rod cX7_rod 6 (some .boolean) (rmX 3 76 (crN V m ch h n fr to) (4 * (crN V m ch h n fr to))) [.ref (adr 0 7), .int h, .int n, .int fr, .int to] (CV E adr V VL m ns ch) (fun _ : Nat → Nat → Nat → Int32 => some (.int (b2i (rdC V m fr to ∧ gmC ch h n fr)))) (fun V1 h9 => (SQ (crO V m ch h n fr to) VL V1 VL ∧ V1 0 2 1 = nI (r + (crN V m ch h n fr to))) ∧ CV E adr V1 VL m ns (clL (V 0 7 0) ch (crE V m ch h n fr to)) h9) := by
  refine Mt_of (by decide +kernel) (Nat.le_of_ble_eq_true rfl) (fun J O => ?_)
  show J _ 0 0 0 [some (.ref (adr 0 7)), some (.int h), some (.int n), some (.int fr), some (.int to), none] []
  refine x_aload_n (pc := 0) O dX7_rod_0 rfl rfl ?_
  refine cv_get (t := 0) (n := 7) (pc := 1) O dX7_rod_1 fdX7_28 rfl rfl rfl ?_
  refine x_iload (pc := 4) O dX7_rod_4 rfl ?_
  rcases noA_or m V to with ⟨j, hj, rfl, hal⟩ | hna
  · refine x_callV (pc := 6) (rest := []) (ci := 3) O (c_X3_findAlive l E _ _ _ _ _ _ j hc h60 hj hal) dX7_rod_6 cbX7_79 im_yX3_findAlive se_yX3_findAlive rfl (cv_recv (t := 0) (n := 3) rfl rfl) rfl rfl (Nat.le_of_ble_eq_true rfl) ⟨Nat.le_of_ble_eq_true rfl, Nat.le_of_ble_eq_true rfl⟩ ⟨by simp only [rmX]; omega, by simp only [rmX]; omega⟩ (fun _ => ?_)
    dsimp only [Option.toList, List.append, List.nil_append, List.cons_append, Nat.add_zero, Nat.reduceAdd]
    refine x_astore (pc := 9) O dX7_rod_9 (by decide) rfl rfl ?_
    refine x_iload_n (pc := 11) O dX7_rod_11 rfl ?_
    refine x_callS (pc := 12) (rest := []) O (c_X7_isHolding l E _ h) dX7_rod_12 cbX7_108 sm_yX7_isHolding rfl rfl (Nat.le_of_ble_eq_true rfl) ⟨Nat.le_of_ble_eq_true rfl, Nat.le_of_ble_eq_true rfl⟩ ⟨by simp only [rmX]; omega, by simp only [rmX]; omega⟩ (fun _ => ?_)
    dsimp only [Option.toList, List.append, List.nil_append, List.cons_append, Nat.add_zero, Nat.reduceAdd]
    refine x_if_eq (pc := 15) O 40 dX7_rod_15 (by decide) (fun c15 => ?_) (fun c15 => ?_)
    · refine x_iconst (v := 0) (pc := 40) O dX7_rod_40 (by decide) ?_
      have hc9 : ¬ (rdC V m fr (nI j) ∧ gmC ch h n fr) := fun z => b2i_z c15 z.2.1
      have eE : (crE V m ch h n fr (nI j)) = [] := by
        unfold crE
        split
        · rename_i hl; exact gmE_no (fun z => hc9 ⟨hl, z⟩)
        · rfl
      have eN : (crN V m ch h n fr (nI j)) = 0 := by
        unfold crN
        split
        · rename_i hl; exact gm_no (fun z => hc9 ⟨hl, z⟩)
        · rfl
      have eO : (crO V m ch h n fr (nI j)) = V := if_neg hc9
      exact x_ret (v := some (.int _)) (pc := 41) O dX7_rod_41 rfl rfl ⟨by simp only [rmX]; omega, by simp only [rmX]; omega, V, congrArg (fun z => some (Value.int z)) (b2i_f hc9).symm, fun h hh => ⟨⟨by rw [eO]; exact SQ.rf _ _, by rw [eN]; exact hr⟩, by rw [eE]; exact hh⟩⟩
    · refine x_aload_n (pc := 18) O dX7_rod_18 rfl rfl ?_
      refine cv_get (t := 0) (n := 7) (pc := 19) O dX7_rod_19 fdX7_28 rfl rfl rfl ?_
      refine x_iload_n (pc := 22) O dX7_rod_22 rfl ?_
      rcases noA_or m V fr with ⟨i, hi, rfl, hai⟩ | hnf
      · refine x_callV (pc := 23) (rest := []) (ci := 3) O (c_X3_findAlive l E _ _ _ _ _ _ i hc h60 hi hai) dX7_rod_23 cbX7_79 im_yX3_findAlive se_yX3_findAlive rfl (cv_recv (t := 0) (n := 3) rfl rfl) rfl rfl (Nat.le_of_ble_eq_true rfl) ⟨Nat.le_of_ble_eq_true rfl, Nat.le_of_ble_eq_true rfl⟩ ⟨by simp only [rmX]; omega, by simp only [rmX]; omega⟩ (fun _ => ?_)
        dsimp only [Option.toList, List.append, List.nil_append, List.cons_append, Nat.add_zero, Nat.reduceAdd]
        refine x_ifnull (pc := 26) O dX7_rod_26 ?_
        refine x_aload (pc := 29) O dX7_rod_29 rfl rfl ?_
        refine x_ifnull (pc := 31) O dX7_rod_31 ?_
        refine x_iload_n (pc := 34) O dX7_rod_34 rfl ?_
        refine x_iload (pc := 35) O dX7_rod_35 rfl ?_
        refine x_icmp_ne (pc := 37) O 42 dX7_rod_37 (by decide) (fun c37 => ?_) (fun c37 => ?_)
        · have hh9 := b2i_n0 c15
          obtain ⟨hn, hhn⟩ : ∃ hn, hn = h.toNatClampNeg := ⟨_, rfl⟩
          have hhq := hold_nat hh9
          rw [← hhn] at hhq
          obtain ⟨hh1, hh2⟩ := hhq
          refine x_aload_n (pc := 42) O dX7_rod_42 rfl rfl ?_
          refine cv_get (t := 0) (n := 7) (pc := 43) O dX7_rod_43 fdX7_35 rfl rfl rfl ?_
          refine x_iload_n (pc := 46) O dX7_rod_46 rfl ?_
          rw [hh1]
          refine x_iload_n (pc := 47) O dX7_rod_47 rfl ?_
          refine x_iconst (v := 0) (pc := 48) O dX7_rod_48 (by decide) ?_
          refine x_callV (pc := 49) (rest := []) (ci := 2) O (v_X2_pick l E _ _ _ _ _ _ hn (nI i) 0 hh2) dX7_rod_49 cbX7_112 im_yX2_pick se_yX2_pick rfl (cv_recv (t := 0) (n := 2) rfl rfl) rfl rfl (Nat.le_of_ble_eq_true rfl) ⟨Nat.le_of_ble_eq_true rfl, Nat.le_of_ble_eq_true rfl⟩ ⟨by simp only [rmX]; omega, by simp only [rmX]; omega⟩ (fun V2 => x_pure O (fun hq => ?_))
          dsimp only [Option.toList, List.append, List.nil_append, List.cons_append, Nat.add_zero, Nat.reduceAdd]
          have hq0 := hq
          rw [hhn] at hq0
          refine x_iload_n (pc := 52) O dX7_rod_52 rfl ?_
          refine x_iconst (v := 1) (pc := 53) O dX7_rod_53 (by decide) ?_
          refine x_icmp_lt (pc := 54) O 68 dX7_rod_54 (by decide) (fun c54 => ?_) (fun c54 => ?_)
          · refine x_iconst (v := 0) (pc := 68) O dX7_rod_68 (by decide) ?_
            have hc9 : ¬ (rdC V m (nI i) (nI j) ∧ gmC ch h n (nI i)) := fun z => absurd c54 (Int32.not_lt.mpr z.2.2.1)
            have eE : (crE V m ch h n (nI i) (nI j)) = [] := by
              unfold crE
              split
              · rename_i hl; exact gmE_no (fun z => hc9 ⟨hl, z⟩)
              · rfl
            have eN : (crN V m ch h n (nI i) (nI j)) = 0 := by
              unfold crN
              split
              · rename_i hl; exact gm_no (fun z => hc9 ⟨hl, z⟩)
              · rfl
            have eO : (crO V m ch h n (nI i) (nI j)) = V := if_neg hc9
            exact x_ret (v := some (.int _)) (pc := 69) O dX7_rod_69 rfl rfl ⟨by simp only [rmX]; omega, by simp only [rmX]; omega, V2, congrArg (fun z => some (Value.int z)) (b2i_f hc9).symm, fun h hh => ⟨⟨by rw [eO]; exact SQ.pk VL hq, by rw [eN]; exact by rw [hq.2.1]; exact hr⟩, by rw [eE]; exact hh⟩⟩
          · refine x_iload_n (pc := 57) O dX7_rod_57 rfl ?_
            refine x_aload_n (pc := 58) O dX7_rod_58 rfl rfl ?_
            refine cv_get (t := 0) (n := 7) (pc := 59) O dX7_rod_59 fdX7_35 rfl rfl rfl ?_
            refine cv_get (t := 0) (n := 2) (pc := 62) O dX7_rod_62 fdX7_116 rfl rfl rfl ?_
            rw [hq0.2.2.1]
            refine x_icmp_le (pc := 65) O 70 dX7_rod_65 (by decide) (fun c65 => ?_) (fun c65 => ?_)
            · have hrd : rdC V m (nI i) (nI j) := ⟨lv_ok h60 hi hai, lv_ok h60 hj hal, c37⟩
              have hgm : gmC ch h n (nI i) := ⟨hh9, Int32.not_lt.mp c54, c65⟩
              obtain ⟨n0, hn0, rfl⟩ := nI_of (x := n) (fun z => absurd (Int32.le_trans (Int32.not_lt.mp c54) (Int32.le_of_lt z)) (by decide))
              have hn1 : n0 ≤ (pkL (pkC ch (nI i) 0) hn 12).length := by
                rw [hhn]
                exact (nI_leI hn0 (Nat.lt_of_le_of_lt (pkL_len _ _ _) (by decide))).mp c65
              have hl12 := pkL_len (pkC ch (nI i) 0) hn 12
              have eN : crN V m ch h (nI n0) (nI i) (nI j) = n0 := by
                unfold crN gmN
                rw [if_pos hrd, if_pos hgm, nI_clamp hn0]
              have eE : crE V m ch h (nI n0) (nI i) (nI j) = ((pkL (pkC ch (nI i) 0) hn 12).take n0).map (fun s => (s, nI j, (4 : Int32))) := by
                unfold crE gmE gmN
                rw [if_pos hrd, if_pos hgm, nI_clamp hn0, hhn]
              have eO : crO V m ch h (nI n0) (nI i) (nI j) = up3 V 1 j 6 (V 1 j 6 + nI n0 * V 0 0 5) := by
                unfold crO
                rw [if_pos ⟨hrd, hgm⟩, cl_ok h60 hj]
              refine x_aload_n (pc := 70) O dX7_rod_70 rfl rfl ?_
              refine cv_get (t := 0) (n := 7) (pc := 71) O dX7_rod_71 fdX7_35 rfl rfl rfl ?_
              refine x_iconst (v := nI 0) (pc := 74) O dX7_rod_74 (by decide) ?_
              refine x_iload_n (pc := 75) O dX7_rod_75 rfl ?_
              refine x_iload (pc := 76) O dX7_rod_76 rfl ?_
              refine x_iconst (v := 4) (pc := 78) O dX7_rod_78 (by decide) ?_
              refine x_aload_n (pc := 79) O dX7_rod_79 rfl rfl ?_
              refine cv_get (t := 0) (n := 7) (pc := 80) O dX7_rod_80 fdX7_9 rfl rfl rfl ?_
              rw [hq.1 0 7 (fun z => absurd z.2 (by decide))]
              refine x_callV (pc := 83) (rest := []) (ci := 2) O (c_X2_bringPicked l E _ V2 _ _ _ _ (pkL (pkC ch (nI i) 0) hn 12) 0 n0 r (nI j) 4 (V 0 7 0) hq.2.2.1 hq.2.2.2 hl12 (fun s hs => by have := (pkL_mem hs).1; omega) (Nat.zero_le _) hn1 (by rw [hq.2.1]; exact hr) (by omega)) dX7_rod_83 cbX7_119 im_yX2_bringPicked se_yX2_bringPicked rfl (cv_recv (t := 0) (n := 2) rfl rfl) rfl rfl (Nat.le_of_ble_eq_true rfl) ⟨Nat.le_of_ble_eq_true rfl, Nat.le_of_ble_eq_true rfl⟩ ⟨by simp only [rmX]; omega, by simp only [rmX]; omega⟩ (fun _ => ?_)
              dsimp only [Option.toList, List.append, List.nil_append, List.cons_append, Nat.add_zero, Nat.reduceAdd]
              refine x_aload (pc := 86) O dX7_rod_86 rfl rfl ?_
              refine x_dup (pc := 88) O dX7_rod_88 rfl ?_
              refine cv_get (t := 1) (n := j) (pc := 89) O dX7_rod_89 fdX7_123 (okC1 (by omega)) rfl rfl ?_
              rw [up3_ne _ _ _ (fun z => absurd z.1 (by decide)), hq.1 1 j (fun z => absurd z.1 (by decide))]
              refine x_iload_n (pc := 92) O dX7_rod_92 rfl ?_
              refine x_aload_n (pc := 93) O dX7_rod_93 rfl rfl ?_
              refine cv_get (t := 0) (n := 7) (pc := 94) O dX7_rod_94 fdX7_18 rfl rfl rfl ?_
              refine cv_get (t := 0) (n := 0) (pc := 97) O dX7_rod_97 fdX7_126 rfl rfl rfl ?_
              rw [up3_ne _ _ _ (fun z => absurd z.2 (by decide)), hq.1 0 0 (fun z => absurd z.2 (by decide))]
              refine x_imul (pc := 100) O dX7_rod_100 ?_
              refine x_iadd (pc := 101) O dX7_rod_101 ?_
              refine cv_put (t := 1) (n := j) (pc := 102) O dX7_rod_102 fpX7_123 rfl rfl (okC1 (by omega)) rfl (Nat.le_of_ble_eq_true rfl) rfl ?_
              refine x_iconst (v := 1) (pc := 105) O dX7_rod_105 (by decide) ?_
              refine x_ret (v := some (.int _)) (pc := 106) O dX7_rod_106 rfl rfl ⟨by simp only [rmX]; omega, by simp only [rmX]; omega, _, congrArg (fun z => some (Value.int z)) (b2i_t ⟨hrd, hgm⟩).symm, fun h hh => ⟨⟨?_, ?_⟩, by rw [eE, ← List.drop_zero (l := (pkL (pkC ch (nI i) 0) hn 12).take n0)]; exact hh⟩⟩
              · rw [eO]
                exact ((SQ.pk VL hq).r 1 _).u 6 _ (by decide)
              · rw [up3_ne _ _ _ (fun z => absurd z.1 (by decide)), up3_eq, va_up_self, eN]; rfl
            · refine x_iconst (v := 0) (pc := 68) O dX7_rod_68 (by decide) ?_
              have hc9 : ¬ (rdC V m (nI i) (nI j) ∧ gmC ch h n (nI i)) := fun z => c65 z.2.2.2
              have eE : (crE V m ch h n (nI i) (nI j)) = [] := by
                unfold crE
                split
                · rename_i hl; exact gmE_no (fun z => hc9 ⟨hl, z⟩)
                · rfl
              have eN : (crN V m ch h n (nI i) (nI j)) = 0 := by
                unfold crN
                split
                · rename_i hl; exact gm_no (fun z => hc9 ⟨hl, z⟩)
                · rfl
              have eO : (crO V m ch h n (nI i) (nI j)) = V := if_neg hc9
              exact x_ret (v := some (.int _)) (pc := 69) O dX7_rod_69 rfl rfl ⟨by simp only [rmX]; omega, by simp only [rmX]; omega, V2, congrArg (fun z => some (Value.int z)) (b2i_f hc9).symm, fun h hh => ⟨⟨by rw [eO]; exact SQ.pk VL hq, by rw [eN]; exact by rw [hq.2.1]; exact hr⟩, by rw [eE]; exact hh⟩⟩
        · refine x_iconst (v := 0) (pc := 40) O dX7_rod_40 (by decide) ?_
          have hc9 : ¬ (rdC V m (nI i) (nI j) ∧ gmC ch h n (nI i)) := fun z => z.1.2.2 c37
          have eE : (crE V m ch h n (nI i) (nI j)) = [] := by
            unfold crE
            split
            · rename_i hl; exact gmE_no (fun z => hc9 ⟨hl, z⟩)
            · rfl
          have eN : (crN V m ch h n (nI i) (nI j)) = 0 := by
            unfold crN
            split
            · rename_i hl; exact gm_no (fun z => hc9 ⟨hl, z⟩)
            · rfl
          have eO : (crO V m ch h n (nI i) (nI j)) = V := if_neg hc9
          exact x_ret (v := some (.int _)) (pc := 41) O dX7_rod_41 rfl rfl ⟨by simp only [rmX]; omega, by simp only [rmX]; omega, V, congrArg (fun z => some (Value.int z)) (b2i_f hc9).symm, fun h hh => ⟨⟨by rw [eO]; exact SQ.rf _ _, by rw [eN]; exact hr⟩, by rw [eE]; exact hh⟩⟩
      · refine x_callV (pc := 23) (rest := []) (ci := 3) O (c_X3_findAlive_no l E _ _ _ _ _ _ _ hc h60 hnf) dX7_rod_23 cbX7_79 im_yX3_findAlive se_yX3_findAlive rfl (cv_recv (t := 0) (n := 3) rfl rfl) rfl rfl (Nat.le_of_ble_eq_true rfl) ⟨Nat.le_of_ble_eq_true rfl, Nat.le_of_ble_eq_true rfl⟩ ⟨by simp only [rmX]; omega, by simp only [rmX]; omega⟩ (fun _ => ?_)
        dsimp only [Option.toList, List.append, List.nil_append, List.cons_append, Nat.add_zero, Nat.reduceAdd]
        refine x_ifnullN (pc := 26) O 40 dX7_rod_26 (by decide) ?_
        refine x_iconst (v := 0) (pc := 40) O dX7_rod_40 (by decide) ?_
        have hc9 : ¬ (rdC V m fr (nI j) ∧ gmC ch h n fr) := fun z => lv_no h60 hnf z.1.1
        have eE : (crE V m ch h n fr (nI j)) = [] := by
          unfold crE
          split
          · rename_i hl; exact gmE_no (fun z => hc9 ⟨hl, z⟩)
          · rfl
        have eN : (crN V m ch h n fr (nI j)) = 0 := by
          unfold crN
          split
          · rename_i hl; exact gm_no (fun z => hc9 ⟨hl, z⟩)
          · rfl
        have eO : (crO V m ch h n fr (nI j)) = V := if_neg hc9
        exact x_ret (v := some (.int _)) (pc := 41) O dX7_rod_41 rfl rfl ⟨by simp only [rmX]; omega, by simp only [rmX]; omega, V, congrArg (fun z => some (Value.int z)) (b2i_f hc9).symm, fun h hh => ⟨⟨by rw [eO]; exact SQ.rf _ _, by rw [eN]; exact hr⟩, by rw [eE]; exact hh⟩⟩
  · refine x_callV (pc := 6) (rest := []) (ci := 3) O (c_X3_findAlive_no l E _ _ _ _ _ _ _ hc h60 hna) dX7_rod_6 cbX7_79 im_yX3_findAlive se_yX3_findAlive rfl (cv_recv (t := 0) (n := 3) rfl rfl) rfl rfl (Nat.le_of_ble_eq_true rfl) ⟨Nat.le_of_ble_eq_true rfl, Nat.le_of_ble_eq_true rfl⟩ ⟨by simp only [rmX]; omega, by simp only [rmX]; omega⟩ (fun _ => ?_)
    dsimp only [Option.toList, List.append, List.nil_append, List.cons_append, Nat.add_zero, Nat.reduceAdd]
    refine x_astore (pc := 9) O dX7_rod_9 (by decide) rfl rfl ?_
    refine x_iload_n (pc := 11) O dX7_rod_11 rfl ?_
    refine x_callS (pc := 12) (rest := []) O (c_X7_isHolding l E _ h) dX7_rod_12 cbX7_108 sm_yX7_isHolding rfl rfl (Nat.le_of_ble_eq_true rfl) ⟨Nat.le_of_ble_eq_true rfl, Nat.le_of_ble_eq_true rfl⟩ ⟨by simp only [rmX]; omega, by simp only [rmX]; omega⟩ (fun _ => ?_)
    dsimp only [Option.toList, List.append, List.nil_append, List.cons_append, Nat.add_zero, Nat.reduceAdd]
    refine x_if_eq (pc := 15) O 40 dX7_rod_15 (by decide) (fun c15 => ?_) (fun c15 => ?_)
    · refine x_iconst (v := 0) (pc := 40) O dX7_rod_40 (by decide) ?_
      have hc9 : ¬ (rdC V m fr to ∧ gmC ch h n fr) := fun z => b2i_z c15 z.2.1
      have eE : (crE V m ch h n fr to) = [] := by
        unfold crE
        split
        · rename_i hl; exact gmE_no (fun z => hc9 ⟨hl, z⟩)
        · rfl
      have eN : (crN V m ch h n fr to) = 0 := by
        unfold crN
        split
        · rename_i hl; exact gm_no (fun z => hc9 ⟨hl, z⟩)
        · rfl
      have eO : (crO V m ch h n fr to) = V := if_neg hc9
      exact x_ret (v := some (.int _)) (pc := 41) O dX7_rod_41 rfl rfl ⟨by simp only [rmX]; omega, by simp only [rmX]; omega, V, congrArg (fun z => some (Value.int z)) (b2i_f hc9).symm, fun h hh => ⟨⟨by rw [eO]; exact SQ.rf _ _, by rw [eN]; exact hr⟩, by rw [eE]; exact hh⟩⟩
    · refine x_aload_n (pc := 18) O dX7_rod_18 rfl rfl ?_
      refine cv_get (t := 0) (n := 7) (pc := 19) O dX7_rod_19 fdX7_28 rfl rfl rfl ?_
      refine x_iload_n (pc := 22) O dX7_rod_22 rfl ?_
      rcases noA_or m V fr with ⟨i, hi, rfl, hai⟩ | hnf
      · refine x_callV (pc := 23) (rest := []) (ci := 3) O (c_X3_findAlive l E _ _ _ _ _ _ i hc h60 hi hai) dX7_rod_23 cbX7_79 im_yX3_findAlive se_yX3_findAlive rfl (cv_recv (t := 0) (n := 3) rfl rfl) rfl rfl (Nat.le_of_ble_eq_true rfl) ⟨Nat.le_of_ble_eq_true rfl, Nat.le_of_ble_eq_true rfl⟩ ⟨by simp only [rmX]; omega, by simp only [rmX]; omega⟩ (fun _ => ?_)
        dsimp only [Option.toList, List.append, List.nil_append, List.cons_append, Nat.add_zero, Nat.reduceAdd]
        refine x_ifnull (pc := 26) O dX7_rod_26 ?_
        refine x_aload (pc := 29) O dX7_rod_29 rfl rfl ?_
        refine x_ifnullN (pc := 31) O 40 dX7_rod_31 (by decide) ?_
        refine x_iconst (v := 0) (pc := 40) O dX7_rod_40 (by decide) ?_
        have hc9 : ¬ (rdC V m (nI i) to ∧ gmC ch h n (nI i)) := fun z => lv_no h60 hna z.1.2.1
        have eE : (crE V m ch h n (nI i) to) = [] := by
          unfold crE
          split
          · rename_i hl; exact gmE_no (fun z => hc9 ⟨hl, z⟩)
          · rfl
        have eN : (crN V m ch h n (nI i) to) = 0 := by
          unfold crN
          split
          · rename_i hl; exact gm_no (fun z => hc9 ⟨hl, z⟩)
          · rfl
        have eO : (crO V m ch h n (nI i) to) = V := if_neg hc9
        exact x_ret (v := some (.int _)) (pc := 41) O dX7_rod_41 rfl rfl ⟨by simp only [rmX]; omega, by simp only [rmX]; omega, V, congrArg (fun z => some (Value.int z)) (b2i_f hc9).symm, fun h hh => ⟨⟨by rw [eO]; exact SQ.rf _ _, by rw [eN]; exact hr⟩, by rw [eE]; exact hh⟩⟩
      · refine x_callV (pc := 23) (rest := []) (ci := 3) O (c_X3_findAlive_no l E _ _ _ _ _ _ _ hc h60 hnf) dX7_rod_23 cbX7_79 im_yX3_findAlive se_yX3_findAlive rfl (cv_recv (t := 0) (n := 3) rfl rfl) rfl rfl (Nat.le_of_ble_eq_true rfl) ⟨Nat.le_of_ble_eq_true rfl, Nat.le_of_ble_eq_true rfl⟩ ⟨by simp only [rmX]; omega, by simp only [rmX]; omega⟩ (fun _ => ?_)
        dsimp only [Option.toList, List.append, List.nil_append, List.cons_append, Nat.add_zero, Nat.reduceAdd]
        refine x_ifnullN (pc := 26) O 40 dX7_rod_26 (by decide) ?_
        refine x_iconst (v := 0) (pc := 40) O dX7_rod_40 (by decide) ?_
        have hc9 : ¬ (rdC V m fr to ∧ gmC ch h n fr) := fun z => lv_no h60 hnf z.1.1
        have eE : (crE V m ch h n fr to) = [] := by
          unfold crE
          split
          · rename_i hl; exact gmE_no (fun z => hc9 ⟨hl, z⟩)
          · rfl
        have eN : (crN V m ch h n fr to) = 0 := by
          unfold crN
          split
          · rename_i hl; exact gm_no (fun z => hc9 ⟨hl, z⟩)
          · rfl
        have eO : (crO V m ch h n fr to) = V := if_neg hc9
        exact x_ret (v := some (.int _)) (pc := 41) O dX7_rod_41 rfl rfl ⟨by simp only [rmX]; omega, by simp only [rmX]; omega, V, congrArg (fun z => some (Value.int z)) (b2i_f hc9).symm, fun h hh => ⟨⟨by rw [eO]; exact SQ.rf _ _, by rw [eN]; exact hr⟩, by rw [eE]; exact hh⟩⟩
theorem le39 {x : Int32} (h : x < 40) : x ≤ 39 := by
  rw [Int32.le_iff_toInt_le]
  rw [Int32.lt_iff_toInt_lt] at h
  have e1 : (40 : Int32).toInt = 40 := by decide
  have e2 : (39 : Int32).toInt = 39 := by decide
  rw [e1] at h; rw [e2]; omega
theorem lt40 {x : Int32} (h : x ≤ 39) : x < 40 := by
  rw [Int32.lt_iff_toInt_lt]
  rw [Int32.le_iff_toInt_le] at h
  have e1 : (40 : Int32).toInt = 40 := by decide
  have e2 : (39 : Int32).toInt = 39 := by decide
  rw [e2] at h; rw [e1]; omega
set_option maxRecDepth 100000 in
set_option maxHeartbeats 4000000 in
theorem c_X7_heir (l : Launch) (E : En) (adr : Nat → Nat → Nat) (V : Nat → Nat → Nat → Int32) (VL : Nat → Nat → Nat → Int64) (m ns : Nat) (ch : Nat → List Rt) (a : Ar) (p x : Int32) (hc : V 0 3 1 = nI m) (h60 : m ≤ 60) (hka : KA V VL a m) (hsx : ∀ c, c < m → a 9 c = 0 ∨ a 9 c = 1) (hfa : ∀ p, p < m → a 10 p = -1 ∨ ∃ f, f < m ∧ a 10 p = nI f) (hkin : kinOk a m) (hord : V 0 0 0 = 0 ∨ V 0 0 0 = 1 ∨ V 0 0 0 = 2) : Mt l E yX7_heir cX7_heir 3 (some .int) (rmX 64 1535 0 0) [.ref (adr 0 7), .int p, .int x] (CV E adr V VL m ns ch) (fun _ : (Nat → Nat → Nat → Int32) × (Nat → Nat → Nat → Int64) => some (.int (if isPc m p ∧ 0 ≤ x ∧ x ≤ 39 then hvI (heirsOf a m (V 0 0 0) (alx a p.toNatClampNeg) p.toNatClampNeg) x.toNatClampNeg else -1))) (fun y h => SQ V VL y.1 y.2 ∧ CV E adr y.1 y.2 m ns ch h) := by
  refine Mt_of (by decide +kernel) (Nat.le_of_ble_eq_true rfl) (fun J O => ?_)
  show J _ 0 0 0 [some (.ref (adr 0 7)), some (.int p), some (.int x)] []
  refine x_aload_n (pc := 0) O dX7_heir_0 rfl rfl ?_
  refine cv_get (t := 0) (n := 7) (pc := 1) O dX7_heir_1 fdX7_28 rfl rfl rfl ?_
  refine x_iload_n (pc := 4) O dX7_heir_4 rfl ?_
  rcases noP_or m p with ⟨j, hj, rfl⟩ | hno
  · refine x_callV (pc := 5) (rest := []) (ci := 3) O (c_X3_find l E _ _ _ _ _ _ j hc h60 hj) dX7_heir_5 cbX7_105 im_yX3_find se_yX3_find rfl (cv_recv (t := 0) (n := 3) rfl rfl) rfl rfl (Nat.le_of_ble_eq_true rfl) ⟨Nat.le_of_ble_eq_true rfl, Nat.le_of_ble_eq_true rfl⟩ ⟨Nat.le_of_ble_eq_true rfl, Nat.le_of_ble_eq_true rfl⟩ (fun _ => ?_)
    dsimp only [Option.toList, List.append, List.nil_append, List.cons_append, Nat.add_zero, Nat.reduceAdd]
    refine x_ifnull (pc := 8) O dX7_heir_8 ?_
    refine x_iload_n (pc := 11) O dX7_heir_11 rfl ?_
    refine x_if_lt (pc := 12) O 21 dX7_heir_12 (by decide) (fun c12 => ?_) (fun c12 => ?_)
    · refine x_iconst (v := (-1)) (pc := 21) O dX7_heir_21 (by decide) ?_
      have hc9 : ¬ (isPc m (nI j) ∧ 0 ≤ x ∧ x ≤ 39) := fun z => absurd c12 (Int32.not_lt.mpr z.2.1)
      exact x_ret (v := some (.int _)) (pc := 22) O dX7_heir_22 rfl rfl ⟨Nat.le_of_ble_eq_true rfl, Nat.le_of_ble_eq_true rfl, (V, VL), congrArg (fun z => some (Value.int z)) (if_neg hc9).symm, fun h hh => ⟨SQ.rf _ _, hh⟩⟩
    · refine x_iload_n (pc := 15) O dX7_heir_15 rfl ?_
      refine x_bipush (v := 40) (pc := 16) O dX7_heir_16 (by decide) ?_
      refine x_icmp_lt (pc := 18) O 23 dX7_heir_18 (by decide) (fun c18 => ?_) (fun c18 => ?_)
      · obtain ⟨x0, hx0, rfl⟩ := nI_of (x := x) c12
        have hx40 : x0 < 40 := (nI_ltI hx0 (by decide)).mp c18
        refine x_aload_n (pc := 23) O dX7_heir_23 rfl rfl ?_
        refine cv_get (t := 0) (n := 7) (pc := 24) O dX7_heir_24 fdX7_44 rfl rfl rfl ?_
        refine x_iload_n (pc := 27) O dX7_heir_27 rfl ?_
        refine x_aload_n (pc := 28) O dX7_heir_28 rfl rfl ?_
        refine cv_get (t := 0) (n := 7) (pc := 29) O dX7_heir_29 fdX7_18 rfl rfl rfl ?_
        refine cv_get (t := 0) (n := 0) (pc := 32) O dX7_heir_32 fdX7_191 rfl rfl rfl ?_
        refine x_callV (pc := 35) (rest := []) (ci := 1) O (c_X1_list l E _ _ _ _ _ _ a j (V 0 0 0) hc h60 hka hsx hfa hkin hord hj) dX7_heir_35 cbX7_194 im_yX1_list se_yX1_list rfl (cv_recv (t := 0) (n := 1) rfl rfl) rfl rfl (Nat.le_of_ble_eq_true rfl) ⟨Nat.le_of_ble_eq_true rfl, Nat.le_of_ble_eq_true rfl⟩ ⟨Nat.le_of_ble_eq_true rfl, Nat.le_of_ble_eq_true rfl⟩ (fun x => x_pure O (fun hx => ?_))
        dsimp only [Option.toList, List.append, List.nil_append, List.cons_append, Nat.add_zero, Nat.reduceAdd]
        refine x_iload_n (pc := 38) O dX7_heir_38 rfl ?_
        refine x_aload_n (pc := 39) O dX7_heir_39 rfl rfl ?_
        refine cv_get (t := 0) (n := 7) (pc := 40) O dX7_heir_40 fdX7_44 rfl rfl rfl ?_
        refine cv_get (t := 0) (n := 1) (pc := 43) O dX7_heir_43 fdX7_197 rfl rfl rfl ?_
        rw [hx.2.2.1]
        refine x_icmp_ge (pc := 46) O 61 dX7_heir_46 (by decide) (fun c46 => ?_) (fun c46 => ?_)
        · refine x_iconst (v := (-1)) (pc := 61) O dX7_heir_61 (by decide) ?_
          have hc9 : isPc m (nI j) ∧ 0 ≤ (nI x0) ∧ (nI x0) ≤ 39 := ⟨pc_ok h60 hj, Int32.not_lt.mp c12, le39 c18⟩
          exact x_ret (v := some (.int _)) (pc := 62) O dX7_heir_62 rfl rfl ⟨Nat.le_of_ble_eq_true rfl, Nat.le_of_ble_eq_true rfl, x, congrArg (fun z => some (Value.int z)) (by rw [if_pos hc9, cl_ok h60 hj, nI_clamp (by omega)]; unfold hvI; rw [if_neg (by rw [nI_leI (by omega) (by omega)] at c46; omega)]), fun h hh => ⟨⟨fun t k hk => hx.1 t k (fun z => hk ⟨z.1, z.2.elim Or.inl (fun z => Or.inr (Or.inr (Or.inr (Or.inl z))))⟩), hx.2.1⟩, hh⟩⟩
        · have hlt : x0 < min 40 (heirsOf a m (V 0 0 0) (alx a j) j).length := by
            rw [nI_leI (by omega) (by omega)] at c46
            omega
          refine x_aload_n (pc := 49) O dX7_heir_49 rfl rfl ?_
          refine cv_get (t := 0) (n := 7) (pc := 50) O dX7_heir_50 fdX7_44 rfl rfl rfl ?_
          refine cv_get (t := 0) (n := 1) (pc := 53) O dX7_heir_53 fdX7_200 rfl rfl rfl ?_
          refine x_iload_n (pc := 56) O dX7_heir_56 rfl ?_
          refine cv_ald (n := 14) (pc := 57) O dX7_heir_57 (by decide) rfl (by show _ < 40; omega) (by omega) ?_
          rw [hx.2.2.2 x0 hlt]
          refine x_goto (pc := 58) O 62 dX7_heir_58 (by decide) ?_
          have hc9 : isPc m (nI j) ∧ 0 ≤ (nI x0) ∧ (nI x0) ≤ 39 := ⟨pc_ok h60 hj, Int32.not_lt.mp c12, le39 c18⟩
          exact x_ret (v := some (.int _)) (pc := 62) O dX7_heir_62 rfl rfl ⟨Nat.le_of_ble_eq_true rfl, Nat.le_of_ble_eq_true rfl, x, congrArg (fun z => some (Value.int z)) (by rw [if_pos hc9, cl_ok h60 hj, nI_clamp (by omega)]; unfold hvI; rw [if_pos (by omega)]), fun h hh => ⟨⟨fun t k hk => hx.1 t k (fun z => hk ⟨z.1, z.2.elim Or.inl (fun z => Or.inr (Or.inr (Or.inr (Or.inl z))))⟩), hx.2.1⟩, hh⟩⟩
      · refine x_iconst (v := (-1)) (pc := 21) O dX7_heir_21 (by decide) ?_
        have hc9 : ¬ (isPc m (nI j) ∧ 0 ≤ x ∧ x ≤ 39) := fun z => c18 (lt40 z.2.2)
        exact x_ret (v := some (.int _)) (pc := 22) O dX7_heir_22 rfl rfl ⟨Nat.le_of_ble_eq_true rfl, Nat.le_of_ble_eq_true rfl, (V, VL), congrArg (fun z => some (Value.int z)) (if_neg hc9).symm, fun h hh => ⟨SQ.rf _ _, hh⟩⟩
  · refine x_callV (pc := 5) (rest := []) (ci := 3) O (c_X3_find_no l E _ _ _ _ _ _ _ hc h60 hno) dX7_heir_5 cbX7_105 im_yX3_find se_yX3_find rfl (cv_recv (t := 0) (n := 3) rfl rfl) rfl rfl (Nat.le_of_ble_eq_true rfl) ⟨Nat.le_of_ble_eq_true rfl, Nat.le_of_ble_eq_true rfl⟩ ⟨Nat.le_of_ble_eq_true rfl, Nat.le_of_ble_eq_true rfl⟩ (fun _ => ?_)
    dsimp only [Option.toList, List.append, List.nil_append, List.cons_append, Nat.add_zero, Nat.reduceAdd]
    refine x_ifnullN (pc := 8) O 21 dX7_heir_8 (by decide) ?_
    refine x_iconst (v := (-1)) (pc := 21) O dX7_heir_21 (by decide) ?_
    have hc9 : ¬ (isPc m p ∧ 0 ≤ x ∧ x ≤ 39) := fun z => pc_no h60 hno z.1
    exact x_ret (v := some (.int _)) (pc := 22) O dX7_heir_22 rfl rfl ⟨Nat.le_of_ble_eq_true rfl, Nat.le_of_ble_eq_true rfl, (V, VL), congrArg (fun z => some (Value.int z)) (if_neg hc9).symm, fun h hh => ⟨SQ.rf _ _, hh⟩⟩
