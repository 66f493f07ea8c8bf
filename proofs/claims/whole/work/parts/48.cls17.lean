/-! ===== CLS 17: right, holder ===== -/
theorem le11 {x : Int32} (h : ¬ 12 ≤ x) : x ≤ 11 := by
  rw [Int32.le_iff_toInt_le] at h ⊢
  have e1 : (12 : Int32).toInt = 12 := by decide
  have e2 : (11 : Int32).toInt = 11 := by decide
  rw [e1] at h; rw [e2]; omega
theorem onD_le {V : Nat → Nat → Nat → Int32} {rn : Nat → Option Nat} {day : Int32} (hrn : ∀ k k2, rn k = some k2 → k2 < k) : ∀ f k k1, onD V rn day f k = some k1 → k1 ≤ k
  | 0, _, _, h => by simp [onD] at h
  | f + 1, k, k1, h => by
    simp only [onD] at h
    split at h
    · cases h; exact Nat.le_refl _
    · cases hr : rn k with
      | none => rw [hr] at h; cases h
      | some k2 =>
        rw [hr] at h
        have := onD_le hrn f k2 k1 h
        have := hrn k k2 hr
        omega
theorem stA_le {rn : Nat → Option Nat} (hrn : ∀ k k2, rn k = some k2 → k2 < k) : ∀ T k k1, stA rn T k = some k1 → k1 ≤ k
  | 0, k, k1, h => by simp only [stA] at h; cases h; exact Nat.le_refl _
  | T + 1, k, k1, h => by
    simp only [stA] at h
    cases hr : rn k with
    | none => rw [hr] at h; cases h
    | some k2 =>
      rw [hr] at h
      have := stA_le hrn T k2 k1 h
      have := hrn k k2 hr
      omega
def rgE (e : Option Rt) (x : Int32) : Int32 := match e with
  | none => -2
  | some e => if x = nI 0 then e.1 else if x = nI 1 then e.2.1 else if x = nI 2 then e.2.2 else -2
def rgW (V : Nat → Nat → Nat → Int32) (hd : Nat → Nat) (rn : Nat → Option Nat) (s : Nat) (day : Int32) (T : Nat) (x : Int32) : Int32 := rgE (((onD V rn day (hd s + 1) (hd s)).bind (fun k => stA rn T k)).map (fun k => (V 3 k 0, V 3 k 1, V 3 k 2))) x
def rgC (c : List Rt) (day : Int32) (T : Nat) (x : Int32) : Int32 := rgE ((c.dropWhile (fun e => !decide (e.2.2 ≤ day)))[T]?) x
theorem onD_ch {V : Nat → Nat → Nat → Int32} {rn : Nat → Option Nat} {day : Int32} (hrn : ∀ k k2, rn k = some k2 → k2 < k) : ∀ f k, k < f → (chC (V 3) rn f k).dropWhile (fun e => !decide (e.2.2 ≤ day)) = (match onD V rn day f k with
    | none => []
    | some k1 => chC (V 3) rn (k1 + 1) k1)
  | 0, _, h => by omega
  | f + 1, k, h => by
    by_cases c : V 3 k 2 ≤ day
    · have e : onD V rn day (f + 1) k = some k := by simp only [onD, if_pos c]
      rw [e]
      show _ = chC (V 3) rn (k + 1) k
      rw [← chC_fuel hrn k (f + 1) k (Nat.le_refl _) h]
      simp only [chC]
      rw [List.dropWhile_cons_of_neg (by simp [c])]
    · simp only [chC]
      rw [List.dropWhile_cons_of_pos (by simp [c])]
      simp only [onD, if_neg c]
      cases hr : rn k with
      | none => rfl
      | some k2 =>
        have := hrn k k2 hr
        exact onD_ch hrn f k2 (by omega)
theorem stA_ch {v : Nat → Nat → Int32} {rn : Nat → Option Nat} (hrn : ∀ k k2, rn k = some k2 → k2 < k) : ∀ T k, (chC v rn (k + 1) k)[T]? = (stA rn T k).map (fun k2 => (v k2 0, v k2 1, v k2 2))
  | 0, k => by simp [chC, stA]
  | T + 1, k => by
    simp only [chC, stA, List.getElem?_cons_succ]
    cases hr : rn k with
    | none => rfl
    | some k2 =>
      have := hrn k k2 hr
      show (chC v rn k k2)[T]? = _
      rw [chC_fuel hrn k2 k k2 (Nat.le_refl _) this]
      exact stA_ch hrn T k2
theorem rgW_is {V : Nat → Nat → Nat → Int32} {hd : Nat → Nat} {rn : Nat → Option Nat} (hrn : ∀ k k2, rn k = some k2 → k2 < k) (s : Nat) (day : Int32) (T : Nat) (x : Int32) : rgW V hd rn s day T x = rgC (chC (V 3) rn (hd s + 1) (hd s)) day T x := by
  unfold rgW rgC
  rw [onD_ch hrn _ _ (Nat.lt_succ_self _)]
  cases h : onD V rn day (hd s + 1) (hd s) with
  | none => rfl
  | some k1 =>
    show rgE ((stA rn T k1).map _) x = rgE ((chC (V 3) rn (k1 + 1) k1)[T]?) x
    rw [stA_ch hrn]
set_option maxRecDepth 100000 in
set_option maxHeartbeats 800000 in
theorem c_X7_rightW (l : Launch) (E : En) (adr : Nat → Nat → Nat) (V : Nat → Nat → Nat → Int32) (VL : Nat → Nat → Nat → Int64) (m ns nr : Nat) (hd : Nat → Nat) (rn : Nat → Option Nat) (g s q k x : Int32) (hhd : ∀ s, s < 120 → hd s < nr) (hrn : ∀ k k2, rn k = some k2 → k2 < k) : Mt l E yX7_right cX7_right 7 (some .int) (rmX 2 44 0 0) [.ref (adr 0 7), .int g, .int s, .int q, .int k, .int x] (CW E adr V VL m ns nr hd rn) (fun _ : Unit => some (.int (if ((0 ≤ g ∧ g ≤ 9) ∧ (0 ≤ s ∧ s ≤ 11) ∧ 0 ≤ q ∧ q ≤ V 0 7 0) ∧ 0 ≤ k then rgW V hd rn (12 * g.toNatClampNeg + s.toNatClampNeg) q k.toNatClampNeg x else -2))) (fun _ => CW E adr V VL m ns nr hd rn) := by
  refine Mt_of (by decide +kernel) (Nat.le_of_ble_eq_true rfl) (fun J O => ?_)
  show J _ 0 0 0 [some (.ref (adr 0 7)), some (.int g), some (.int s), some (.int q), some (.int k), some (.int x), none] []
  refine x_iload_n (pc := 0) O dX7_right_0 rfl ?_
  refine x_callS (pc := 1) (rest := []) O (c_X7_isHolding l E _ g) dX7_right_1 cbX7_108 sm_yX7_isHolding rfl rfl (Nat.le_of_ble_eq_true rfl) ⟨Nat.le_of_ble_eq_true rfl, Nat.le_of_ble_eq_true rfl⟩ ⟨Nat.le_of_ble_eq_true rfl, Nat.le_of_ble_eq_true rfl⟩ (fun _ => ?_)
  dsimp only [Option.toList, List.append, List.nil_append, List.cons_append, Nat.add_zero, Nat.reduceAdd]
  refine x_if_eq (pc := 4) O 34 dX7_right_4 (by decide) (fun c4 => ?_) (fun c4 => ?_)
  · refine x_bipush (v := (-2)) (pc := 34) O dX7_right_34 (by decide) ?_
    have hc9 : ¬ (((0 ≤ g ∧ g ≤ 9) ∧ (0 ≤ s ∧ s ≤ 11) ∧ 0 ≤ q ∧ q ≤ V 0 7 0) ∧ 0 ≤ k) := fun z => b2i_z c4 z.1.1
    exact x_ret (v := some (.int _)) (pc := 36) O dX7_right_36 rfl (rfl) ⟨Nat.le_refl _, Nat.le_refl _, (), congrArg (fun z => some (Value.int z)) ((if_neg hc9).symm), fun h hh => hh⟩
  · refine x_iload_n (pc := 7) O dX7_right_7 rfl ?_
    refine x_if_lt (pc := 8) O 34 dX7_right_8 (by decide) (fun c8 => ?_) (fun c8 => ?_)
    · refine x_bipush (v := (-2)) (pc := 34) O dX7_right_34 (by decide) ?_
      have hc9 : ¬ (((0 ≤ g ∧ g ≤ 9) ∧ (0 ≤ s ∧ s ≤ 11) ∧ 0 ≤ q ∧ q ≤ V 0 7 0) ∧ 0 ≤ k) := fun z => absurd c8 (Int32.not_lt.mpr z.1.2.1.1)
      exact x_ret (v := some (.int _)) (pc := 36) O dX7_right_36 rfl (rfl) ⟨Nat.le_refl _, Nat.le_refl _, (), congrArg (fun z => some (Value.int z)) ((if_neg hc9).symm), fun h hh => hh⟩
    · refine x_iload_n (pc := 11) O dX7_right_11 rfl ?_
      refine x_bipush (v := 12) (pc := 12) O dX7_right_12 (by decide) ?_
      refine x_icmp_ge (pc := 14) O 34 dX7_right_14 (by decide) (fun c14 => ?_) (fun c14 => ?_)
      · refine x_bipush (v := (-2)) (pc := 34) O dX7_right_34 (by decide) ?_
        have hc9 : ¬ (((0 ≤ g ∧ g ≤ 9) ∧ (0 ≤ s ∧ s ≤ 11) ∧ 0 ≤ q ∧ q ≤ V 0 7 0) ∧ 0 ≤ k) := fun z => absurd (Int32.le_trans c14 z.1.2.1.2) (by decide)
        exact x_ret (v := some (.int _)) (pc := 36) O dX7_right_36 rfl (rfl) ⟨Nat.le_refl _, Nat.le_refl _, (), congrArg (fun z => some (Value.int z)) ((if_neg hc9).symm), fun h hh => hh⟩
      · refine x_iload_n (pc := 17) O dX7_right_17 rfl ?_
        refine x_if_lt (pc := 18) O 34 dX7_right_18 (by decide) (fun c18 => ?_) (fun c18 => ?_)
        · refine x_bipush (v := (-2)) (pc := 34) O dX7_right_34 (by decide) ?_
          have hc9 : ¬ (((0 ≤ g ∧ g ≤ 9) ∧ (0 ≤ s ∧ s ≤ 11) ∧ 0 ≤ q ∧ q ≤ V 0 7 0) ∧ 0 ≤ k) := fun z => absurd c18 (Int32.not_lt.mpr z.1.2.2.1)
          exact x_ret (v := some (.int _)) (pc := 36) O dX7_right_36 rfl (rfl) ⟨Nat.le_refl _, Nat.le_refl _, (), congrArg (fun z => some (Value.int z)) ((if_neg hc9).symm), fun h hh => hh⟩
        · refine x_iload_n (pc := 21) O dX7_right_21 rfl ?_
          refine x_aload_n (pc := 22) O dX7_right_22 rfl rfl ?_
          refine c_get (t := 0) (n := 7) (pc := 23) O dX7_right_23 fdX7_9 rfl rfl rfl ?_
          refine x_icmp_gt (pc := 26) O 34 dX7_right_26 (by decide) (fun c26 => ?_) (fun c26 => ?_)
          · refine x_bipush (v := (-2)) (pc := 34) O dX7_right_34 (by decide) ?_
            have hc9 : ¬ (((0 ≤ g ∧ g ≤ 9) ∧ (0 ≤ s ∧ s ≤ 11) ∧ 0 ≤ q ∧ q ≤ V 0 7 0) ∧ 0 ≤ k) := fun z => absurd c26 (Int32.not_lt.mpr z.1.2.2.2)
            exact x_ret (v := some (.int _)) (pc := 36) O dX7_right_36 rfl (rfl) ⟨Nat.le_refl _, Nat.le_refl _, (), congrArg (fun z => some (Value.int z)) ((if_neg hc9).symm), fun h hh => hh⟩
          · refine x_iload (pc := 29) O dX7_right_29 rfl ?_
            refine x_if_ge (pc := 31) O 37 dX7_right_31 (by decide) (fun c31 => ?_) (fun c31 => ?_)
            · have hrc : ((0 ≤ g ∧ g ≤ 9) ∧ (0 ≤ s ∧ s ≤ 11) ∧ 0 ≤ q ∧ q ≤ V 0 7 0) ∧ 0 ≤ k := ⟨⟨b2i_n0 c4, ⟨Int32.not_lt.mp c8, le11 c14⟩, Int32.not_lt.mp c18, Int32.not_lt.mp c26⟩, c31⟩
              obtain ⟨gn, hgn⟩ : ∃ gn, gn = g.toNatClampNeg := ⟨_, rfl⟩
              obtain ⟨sn, hsn⟩ : ∃ sn, sn = s.toNatClampNeg := ⟨_, rfl⟩
              have z1 := hold_nat hrc.1.1
              have z2 := in_nat (m := 12) (x := nI 12) (p := s) rfl (by decide) ⟨hrc.1.2.1.1, hrc.1.2.1.2⟩
              rw [← hgn] at z1
              rw [← hsn] at z2
              obtain ⟨y1, y2⟩ := z1
              obtain ⟨y3, y4⟩ := z2
              clear hgn hsn
              subst y1
              subst y3
              obtain ⟨T, hT, hTk⟩ := nI_of (x := k) (Int32.not_lt.mpr c31)
              subst hTk
              have hs3 : 12 * gn + sn < 120 := by omega
              refine x_aload_n (pc := 37) O dX7_right_37 rfl rfl ?_
              refine c_get (t := 0) (n := 7) (pc := 38) O dX7_right_38 fdX7_35 rfl rfl rfl ?_
              refine x_iload_n (pc := 41) O dX7_right_41 rfl ?_
              refine x_bipush (v := nI 12) (pc := 42) O dX7_right_42 (by decide) ?_
              refine x_imul (pc := 44) O dX7_right_44 ?_
              rw [pk_mul]
              refine x_iload_n (pc := 45) O dX7_right_45 rfl ?_
              refine x_iadd (pc := 46) O dX7_right_46 ?_
              rw [nI_add, show gn * 12 + sn = 12 * gn + sn by omega]
              refine x_iload_n (pc := 47) O dX7_right_47 rfl ?_
              refine x_callV (pc := 48) (rest := []) (ci := 2) O (c_X2_onDay l E _ _ _ _ _ _ _ _ (12 * gn + sn) q hhd hrn hs3) dX7_right_48 cbX7_172 im_yX2_onDay se_yX2_onDay rfl (c_recv (t := 0) (n := 2) rfl rfl) rfl rfl (Nat.le_of_ble_eq_true rfl) ⟨Nat.le_of_ble_eq_true rfl, Nat.le_of_ble_eq_true rfl⟩ ⟨Nat.le_of_ble_eq_true rfl, Nat.le_of_ble_eq_true rfl⟩ (fun c => x_pure O (fun hcq => ?_))
              dsimp only [Option.toList, List.append, List.nil_append, List.cons_append, Nat.add_zero, Nat.reduceAdd]
              rcases c with _ | k1
              · show J _ _ _ _ _ (.null :: [])
                refine x_iload (pc := 51) O dX7_right_51 rfl ?_
                refine x_callS (pc := 53) (rest := []) O (c_X2_stepsAhead_no l E _ _) dX7_right_53 cbX7_176 sm_yX2_stepsAhead rfl rfl (Nat.le_of_ble_eq_true rfl) ⟨Nat.le_of_ble_eq_true rfl, Nat.le_of_ble_eq_true rfl⟩ ⟨Nat.le_of_ble_eq_true rfl, Nat.le_of_ble_eq_true rfl⟩ (fun _ => ?_)
                dsimp only [Option.toList, List.append, List.nil_append, List.cons_append, Nat.add_zero, Nat.reduceAdd]
                refine x_astore (pc := 56) O dX7_right_56 (by decide) rfl rfl ?_
                refine x_aload (pc := 58) O dX7_right_58 rfl rfl ?_
                refine x_ifnonnullN (pc := 60) O dX7_right_60 ?_
                refine x_bipush (v := (-2)) (pc := 63) O dX7_right_63 (by decide) ?_
                have hc9 : ((0 ≤ nI gn ∧ nI gn ≤ 9) ∧ (0 ≤ nI sn ∧ nI sn ≤ 11) ∧ 0 ≤ q ∧ q ≤ V 0 7 0) ∧ 0 ≤ nI T := hrc
                exact x_ret (v := some (.int _)) (pc := 65) O dX7_right_65 rfl (rfl) ⟨Nat.le_refl _, Nat.le_refl _, (), congrArg (fun z => some (Value.int z)) (by rw [if_pos hc9, nI_clamp (by omega), nI_clamp (by omega), nI_clamp hT]; unfold rgW; rw [← hcq]; rfl), fun h hh => hh⟩
              · show J _ _ _ _ _ (.ref (adr 3 k1) :: [])
                have hk1 : k1 < nr := by
                  have := onD_le hrn _ _ _ hcq.symm
                  have := hhd _ hs3
                  omega
                refine x_iload (pc := 51) O dX7_right_51 rfl ?_
                refine x_callS (pc := 53) (rest := []) O (c_X2_stepsAhead l E _ _ _ _ _ _ _ _ k1 T hrn hk1 hT) dX7_right_53 cbX7_176 sm_yX2_stepsAhead rfl rfl (Nat.le_of_ble_eq_true rfl) ⟨Nat.le_of_ble_eq_true rfl, Nat.le_of_ble_eq_true rfl⟩ ⟨Nat.le_of_ble_eq_true rfl, Nat.le_of_ble_eq_true rfl⟩ (fun c2 => x_pure O (fun hcq2 => ?_))
                dsimp only [Option.toList, List.append, List.nil_append, List.cons_append, Nat.add_zero, Nat.reduceAdd]
                rcases c2 with _ | k2
                · show J _ _ _ _ _ (.null :: [])
                  refine x_astore (pc := 56) O dX7_right_56 (by decide) rfl rfl ?_
                  refine x_aload (pc := 58) O dX7_right_58 rfl rfl ?_
                  refine x_ifnonnullN (pc := 60) O dX7_right_60 ?_
                  refine x_bipush (v := (-2)) (pc := 63) O dX7_right_63 (by decide) ?_
                  have hc9 : ((0 ≤ nI gn ∧ nI gn ≤ 9) ∧ (0 ≤ nI sn ∧ nI sn ≤ 11) ∧ 0 ≤ q ∧ q ≤ V 0 7 0) ∧ 0 ≤ nI T := hrc
                  exact x_ret (v := some (.int _)) (pc := 65) O dX7_right_65 rfl (rfl) ⟨Nat.le_refl _, Nat.le_refl _, (), congrArg (fun z => some (Value.int z)) (by rw [if_pos hc9, nI_clamp (by omega), nI_clamp (by omega), nI_clamp hT]; unfold rgW; rw [← hcq]; show _ = rgE ((stA rn T k1).map _) x; rw [← hcq2]; rfl), fun h hh => hh⟩
                · show J _ _ _ _ _ (.ref (adr 3 k2) :: [])
                  have hk2 : k2 < nr := by
                    have := stA_le hrn _ _ _ hcq2.symm
                    omega
                  refine x_astore (pc := 56) O dX7_right_56 (by decide) rfl rfl ?_
                  refine x_aload (pc := 58) O dX7_right_58 rfl rfl ?_
                  refine x_ifnonnull (pc := 60) O 66 dX7_right_60 (by decide) ?_
                  refine x_iload (pc := 66) O dX7_right_66 rfl ?_
                  rcases tb_split x 2 (by decide) with hx68 | ⟨k68, hk68, rfl⟩
                  · refine x_tout (pc := 68) O 114 dX7_right_68 hx68 (by decide) ?_
                    refine x_bipush (v := (-2)) (pc := 114) O dX7_right_114 (by decide) ?_
                    have hc9 : ((0 ≤ nI gn ∧ nI gn ≤ 9) ∧ (0 ≤ nI sn ∧ nI sn ≤ 11) ∧ 0 ≤ q ∧ q ≤ V 0 7 0) ∧ 0 ≤ nI T := hrc
                    exact x_ret (v := some (.int _)) (pc := 116) O dX7_right_116 rfl (rfl) ⟨Nat.le_refl _, Nat.le_refl _, (), congrArg (fun z => some (Value.int z)) (by rw [if_pos hc9, nI_clamp (by omega), nI_clamp (by omega), nI_clamp hT]; unfold rgW; rw [← hcq]; show _ = rgE ((stA rn T k1).map _) x; rw [← hcq2]; show _ = (if x = nI 0 then V 3 k2 0 else if x = nI 1 then V 3 k2 1 else if x = nI 2 then V 3 k2 2 else -2); rw [if_neg (tb_ne (k := 0) hx68 (by decide) (by decide)), if_neg (tb_ne (k := 1) hx68 (by decide) (by decide)), if_neg (tb_ne (k := 2) hx68 (by decide) (by decide))]), fun h hh => hh⟩
                  · rcases (show k68 = 0 ∨ k68 = 1 ∨ k68 = 2 by omega) with rfl | rfl | rfl
                    · refine x_tin (off := 28) (pc := 68) O 96 dX7_right_68 (by decide) (by decide) (by decide) (by decide) ?_
                      refine x_aload (pc := 96) O dX7_right_96 rfl rfl ?_
                      refine c_get (t := 3) (n := k2) (pc := 98) O dX7_right_98 fdX7_180 (okC3 (by omega)) rfl rfl ?_
                      have hc9 : ((0 ≤ nI gn ∧ nI gn ≤ 9) ∧ (0 ≤ nI sn ∧ nI sn ≤ 11) ∧ 0 ≤ q ∧ q ≤ V 0 7 0) ∧ 0 ≤ nI T := hrc
                      exact x_ret (v := some (.int _)) (pc := 101) O dX7_right_101 rfl (rfl) ⟨Nat.le_refl _, Nat.le_refl _, (), congrArg (fun z => some (Value.int z)) (by rw [if_pos hc9, nI_clamp (by omega), nI_clamp (by omega), nI_clamp hT]; unfold rgW; rw [← hcq]; show _ = rgE ((stA rn T k1).map _) _; rw [← hcq2]; rfl), fun h hh => hh⟩
                    · refine x_tin (off := 34) (pc := 68) O 102 dX7_right_68 (by decide) (by decide) (by decide) (by decide) ?_
                      refine x_aload (pc := 102) O dX7_right_102 rfl rfl ?_
                      refine c_get (t := 3) (n := k2) (pc := 104) O dX7_right_104 fdX7_185 (okC3 (by omega)) rfl rfl ?_
                      have hc9 : ((0 ≤ nI gn ∧ nI gn ≤ 9) ∧ (0 ≤ nI sn ∧ nI sn ≤ 11) ∧ 0 ≤ q ∧ q ≤ V 0 7 0) ∧ 0 ≤ nI T := hrc
                      exact x_ret (v := some (.int _)) (pc := 107) O dX7_right_107 rfl (rfl) ⟨Nat.le_refl _, Nat.le_refl _, (), congrArg (fun z => some (Value.int z)) (by rw [if_pos hc9, nI_clamp (by omega), nI_clamp (by omega), nI_clamp hT]; unfold rgW; rw [← hcq]; show _ = rgE ((stA rn T k1).map _) _; rw [← hcq2]; rfl), fun h hh => hh⟩
                    · refine x_tin (off := 40) (pc := 68) O 108 dX7_right_68 (by decide) (by decide) (by decide) (by decide) ?_
                      refine x_aload (pc := 108) O dX7_right_108 rfl rfl ?_
                      refine c_get (t := 3) (n := k2) (pc := 110) O dX7_right_110 fdX7_188 (okC3 (by omega)) rfl rfl ?_
                      have hc9 : ((0 ≤ nI gn ∧ nI gn ≤ 9) ∧ (0 ≤ nI sn ∧ nI sn ≤ 11) ∧ 0 ≤ q ∧ q ≤ V 0 7 0) ∧ 0 ≤ nI T := hrc
                      exact x_ret (v := some (.int _)) (pc := 113) O dX7_right_113 rfl (rfl) ⟨Nat.le_refl _, Nat.le_refl _, (), congrArg (fun z => some (Value.int z)) (by rw [if_pos hc9, nI_clamp (by omega), nI_clamp (by omega), nI_clamp hT]; unfold rgW; rw [← hcq]; show _ = rgE ((stA rn T k1).map _) _; rw [← hcq2]; rfl), fun h hh => hh⟩
            · refine x_bipush (v := (-2)) (pc := 34) O dX7_right_34 (by decide) ?_
              have hc9 : ¬ (((0 ≤ g ∧ g ≤ 9) ∧ (0 ≤ s ∧ s ≤ 11) ∧ 0 ≤ q ∧ q ≤ V 0 7 0) ∧ 0 ≤ k) := fun z => c31 z.2
              exact x_ret (v := some (.int _)) (pc := 36) O dX7_right_36 rfl (rfl) ⟨Nat.le_refl _, Nat.le_refl _, (), congrArg (fun z => some (Value.int z)) ((if_neg hc9).symm), fun h hh => hh⟩
theorem c_X7_right (l : Launch) (E : En) (adr : Nat → Nat → Nat) (V : Nat → Nat → Nat → Int32) (VL : Nat → Nat → Nat → Int64) (m ns : Nat) (ch : Nat → List Rt) (g s q k x : Int32) : Mt l E yX7_right cX7_right 7 (some .int) (rmX 2 44 0 0) [.ref (adr 0 7), .int g, .int s, .int q, .int k, .int x] (CV E adr V VL m ns ch) (fun _ : Unit => some (.int (if ((0 ≤ g ∧ g ≤ 9) ∧ (0 ≤ s ∧ s ≤ 11) ∧ 0 ≤ q ∧ q ≤ V 0 7 0) ∧ 0 ≤ k then rgC (ch (12 * g.toNatClampNeg + s.toNatClampNeg)) q k.toNatClampNeg x else -2))) (fun _ => CV E adr V VL m ns ch) :=
  Mt_open (fun y hy => Mt_mono (c_X7_rightW l E (mrg adr y.1) (mrg V y.2.1) VL m ns y.2.2.1 y.2.2.2.1 y.2.2.2.2 g s q k x hy.1 hy.2.1) (fun _ h => h) (fun _ => ⟨(), by
    show some (Value.int (if ((0 ≤ g ∧ g ≤ 9) ∧ (0 ≤ s ∧ s ≤ 11) ∧ 0 ≤ q ∧ q ≤ V 0 7 0) ∧ 0 ≤ k then _ else _)) = _
    by_cases hc : ((0 ≤ g ∧ g ≤ 9) ∧ (0 ≤ s ∧ s ≤ 11) ∧ 0 ≤ q ∧ q ≤ V 0 7 0) ∧ 0 ≤ k
    · rw [if_pos hc, if_pos hc, rgW_is hy.2.1]
      have h1 := (hold_nat hc.1.1).2
      have h2 := (in_nat (m := 12) (x := nI 12) (p := s) rfl (by decide) ⟨hc.1.2.1.1, hc.1.2.1.2⟩).2
      rw [hy.2.2 _ (show (12 * g.toNatClampNeg + s.toNatClampNeg) < 120 by omega)]
      rfl
    · rw [if_neg hc, if_neg hc], fun h hh => ⟨y, hy, hh⟩⟩))
set_option maxRecDepth 100000 in
set_option maxHeartbeats 800000 in
theorem c_X7_holder (l : Launch) (E : En) (adr : Nat → Nat → Nat) (V : Nat → Nat → Nat → Int32) (VL : Nat → Nat → Nat → Int64) (m ns : Nat) (ch : Nat → List Rt) (g s q : Int32)  : Mt l E yX7_holder cX7_holder 4 (some .int) (rmX 3 70 0 0) [.ref (adr 0 7), .int g, .int s, .int q] (CV E adr V VL m ns ch) (fun _ : Unit => some (.int (if ((0 ≤ g ∧ g ≤ 9) ∧ (0 ≤ s ∧ s ≤ 11) ∧ 0 ≤ q ∧ q ≤ V 0 7 0) ∧ (0 : Int32) ≤ 0 then rgC (ch (12 * g.toNatClampNeg + s.toNatClampNeg)) q (0 : Int32).toNatClampNeg 0 else -2))) (fun _ => CV E adr V VL m ns ch) := by
  refine Mt_of (by decide +kernel) (Nat.le_of_ble_eq_true rfl) (fun J O => ?_)
  show J _ 0 0 0 [some (.ref (adr 0 7)), some (.int g), some (.int s), some (.int q)] []
  refine x_aload_n (pc := 0) O dX7_holder_0 rfl rfl ?_
  refine x_iload_n (pc := 1) O dX7_holder_1 rfl ?_
  refine x_iload_n (pc := 2) O dX7_holder_2 rfl ?_
  refine x_iload_n (pc := 3) O dX7_holder_3 rfl ?_
  refine x_iconst (v := 0) (pc := 4) O dX7_holder_4 (by decide) ?_
  refine x_iconst (v := 0) (pc := 5) O dX7_holder_5 (by decide) ?_
  refine x_callV (pc := 6) (rest := []) (ci := 7) O (c_X7_right l E _ _ _ _ _ _ g s q 0 0) dX7_holder_6 cbX7_168 im_yX7_right se_yX7_right rfl (cv_recv (t := 0) (n := 7) rfl rfl) rfl rfl (Nat.le_of_ble_eq_true rfl) ⟨Nat.le_of_ble_eq_true rfl, Nat.le_of_ble_eq_true rfl⟩ ⟨Nat.le_of_ble_eq_true rfl, Nat.le_of_ble_eq_true rfl⟩ (fun _ => ?_)
  dsimp only [Option.toList, List.append, List.nil_append, List.cons_append, Nat.add_zero, Nat.reduceAdd]
  exact x_ret (v := some (.int _)) (pc := 9) O dX7_holder_9 rfl (rfl) ⟨Nat.le_refl _, Nat.le_refl _, (), rfl, fun h hh => hh⟩
