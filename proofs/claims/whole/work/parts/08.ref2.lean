/-! ===== REF 2: suits, counts ===== -/
set_option maxRecDepth 100000 in
set_option maxHeartbeats 4000000 in
theorem c_X8_suit (l : Launch) (E : En) (o : Nat) (d : Nat → Nat) (i : Nat → Int32) (a : Nat → Nat → Int32) (ch : Nat → List Rt) (p q u : Int32) {m : Nat} (hm : i 22 = nI m) (h60 : m ≤ 60) {ns : Nat} (hs : i 38 = nI ns) (h40 : ns ≤ 40) : Mt l E yX8_suit cX8_suit 4 (some .int) (rmX 3 64 0 0) [.ref o, .int p, .int q, .int u] (RV E o d i a ch) (fun _ : Unit => some (.int (if lvP i a p ∧ lvP i a q ∧ lvP i a u ∧ ¬ p = q ∧ ¬ q = u ∧ ¬ p = u ∧ ¬ i 38 = 40 then i 38 else -1))) (fun _ => RV E o d (if lvP i a p ∧ lvP i a q ∧ lvP i a u ∧ ¬ p = q ∧ ¬ q = u ∧ ¬ p = u ∧ ¬ i 38 = 40 then upd i 38 (i 38 + 1) else i) (if lvP i a p ∧ lvP i a q ∧ lvP i a u ∧ ¬ p = q ∧ ¬ q = u ∧ ¬ p = u ∧ ¬ i 38 = 40 then up2 (up2 (up2 a 31 ns p) 32 ns q) 33 ns u else a) ch) := by
  refine Mt_of (by decide +kernel) (Nat.le_of_ble_eq_true rfl) (fun J O => ?_)
  show J _ 0 0 0 [some (.ref o), some (.int p), some (.int q), some (.int u)] []
  refine x_aload_n (pc := 0) O dX8_suit_0 rfl rfl ?_
  refine x_iload_n (pc := 1) O dX8_suit_1 rfl ?_
  refine x_callV (pc := 2) (rest := _) (ci := 8) O (c_X8_lives l E _ _ _ _ _ _ hm h60) dX8_suit_2 cbX8_188 im_yX8_lives se_yX8_lives rfl v_recv rfl rfl (Nat.le_of_ble_eq_true rfl) ⟨Nat.le_of_ble_eq_true rfl, Nat.le_of_ble_eq_true rfl⟩ ⟨Nat.le_of_ble_eq_true rfl, Nat.le_of_ble_eq_true rfl⟩ (fun _ => ?_)
  dsimp only [Option.toList, List.append, List.nil_append, List.cons_append, Nat.add_zero, Nat.reduceAdd]
  refine x_if_eq (pc := 5) O 48 dX8_suit_5 (by decide) (fun c5 => ?_) (fun c5 => ?_)
  · refine x_iconst (v := (-1)) (pc := 48) O dX8_suit_48 (by decide) ?_
    have hc9 : ¬ (lvP i a p ∧ lvP i a q ∧ lvP i a u ∧ ¬ p = q ∧ ¬ q = u ∧ ¬ p = u ∧ ¬ i 38 = 40) := fun z => b2i_z c5 z.1
    refine x_ret (v := some (.int _)) (pc := 49) O dX8_suit_49 rfl rfl ⟨Nat.le_refl _, Nat.le_refl _, (), congrArg (fun z => some (Value.int z)) (if_neg hc9).symm, fun h hh => ?_⟩
    (try simp only [if_neg hc9]); exact hh
  · refine x_aload_n (pc := 8) O dX8_suit_8 rfl rfl ?_
    refine x_iload_n (pc := 9) O dX8_suit_9 rfl ?_
    refine x_callV (pc := 10) (rest := _) (ci := 8) O (c_X8_lives l E _ _ _ _ _ _ hm h60) dX8_suit_10 cbX8_188 im_yX8_lives se_yX8_lives rfl v_recv rfl rfl (Nat.le_of_ble_eq_true rfl) ⟨Nat.le_of_ble_eq_true rfl, Nat.le_of_ble_eq_true rfl⟩ ⟨Nat.le_of_ble_eq_true rfl, Nat.le_of_ble_eq_true rfl⟩ (fun _ => ?_)
    dsimp only [Option.toList, List.append, List.nil_append, List.cons_append, Nat.add_zero, Nat.reduceAdd]
    refine x_if_eq (pc := 13) O 48 dX8_suit_13 (by decide) (fun c13 => ?_) (fun c13 => ?_)
    · refine x_iconst (v := (-1)) (pc := 48) O dX8_suit_48 (by decide) ?_
      have hc9 : ¬ (lvP i a p ∧ lvP i a q ∧ lvP i a u ∧ ¬ p = q ∧ ¬ q = u ∧ ¬ p = u ∧ ¬ i 38 = 40) := fun z => b2i_z c13 z.2.1
      refine x_ret (v := some (.int _)) (pc := 49) O dX8_suit_49 rfl rfl ⟨Nat.le_refl _, Nat.le_refl _, (), congrArg (fun z => some (Value.int z)) (if_neg hc9).symm, fun h hh => ?_⟩
      (try simp only [if_neg hc9]); exact hh
    · refine x_aload_n (pc := 16) O dX8_suit_16 rfl rfl ?_
      refine x_iload_n (pc := 17) O dX8_suit_17 rfl ?_
      refine x_callV (pc := 18) (rest := _) (ci := 8) O (c_X8_lives l E _ _ _ _ _ _ hm h60) dX8_suit_18 cbX8_188 im_yX8_lives se_yX8_lives rfl v_recv rfl rfl (Nat.le_of_ble_eq_true rfl) ⟨Nat.le_of_ble_eq_true rfl, Nat.le_of_ble_eq_true rfl⟩ ⟨Nat.le_of_ble_eq_true rfl, Nat.le_of_ble_eq_true rfl⟩ (fun _ => ?_)
      dsimp only [Option.toList, List.append, List.nil_append, List.cons_append, Nat.add_zero, Nat.reduceAdd]
      refine x_if_eq (pc := 21) O 48 dX8_suit_21 (by decide) (fun c21 => ?_) (fun c21 => ?_)
      · refine x_iconst (v := (-1)) (pc := 48) O dX8_suit_48 (by decide) ?_
        have hc9 : ¬ (lvP i a p ∧ lvP i a q ∧ lvP i a u ∧ ¬ p = q ∧ ¬ q = u ∧ ¬ p = u ∧ ¬ i 38 = 40) := fun z => b2i_z c21 z.2.2.1
        refine x_ret (v := some (.int _)) (pc := 49) O dX8_suit_49 rfl rfl ⟨Nat.le_refl _, Nat.le_refl _, (), congrArg (fun z => some (Value.int z)) (if_neg hc9).symm, fun h hh => ?_⟩
        (try simp only [if_neg hc9]); exact hh
      · refine x_iload_n (pc := 24) O dX8_suit_24 rfl ?_
        refine x_iload_n (pc := 25) O dX8_suit_25 rfl ?_
        refine x_icmp_eq (pc := 26) O 48 dX8_suit_26 (by decide) (fun c26 => ?_) (fun c26 => ?_)
        · refine x_iconst (v := (-1)) (pc := 48) O dX8_suit_48 (by decide) ?_
          have hc9 : ¬ (lvP i a p ∧ lvP i a q ∧ lvP i a u ∧ ¬ p = q ∧ ¬ q = u ∧ ¬ p = u ∧ ¬ i 38 = 40) := fun z => z.2.2.2.1 c26
          refine x_ret (v := some (.int _)) (pc := 49) O dX8_suit_49 rfl rfl ⟨Nat.le_refl _, Nat.le_refl _, (), congrArg (fun z => some (Value.int z)) (if_neg hc9).symm, fun h hh => ?_⟩
          (try simp only [if_neg hc9]); exact hh
        · refine x_iload_n (pc := 29) O dX8_suit_29 rfl ?_
          refine x_iload_n (pc := 30) O dX8_suit_30 rfl ?_
          refine x_icmp_eq (pc := 31) O 48 dX8_suit_31 (by decide) (fun c31 => ?_) (fun c31 => ?_)
          · refine x_iconst (v := (-1)) (pc := 48) O dX8_suit_48 (by decide) ?_
            have hc9 : ¬ (lvP i a p ∧ lvP i a q ∧ lvP i a u ∧ ¬ p = q ∧ ¬ q = u ∧ ¬ p = u ∧ ¬ i 38 = 40) := fun z => z.2.2.2.2.1 c31
            refine x_ret (v := some (.int _)) (pc := 49) O dX8_suit_49 rfl rfl ⟨Nat.le_refl _, Nat.le_refl _, (), congrArg (fun z => some (Value.int z)) (if_neg hc9).symm, fun h hh => ?_⟩
            (try simp only [if_neg hc9]); exact hh
          · refine x_iload_n (pc := 34) O dX8_suit_34 rfl ?_
            refine x_iload_n (pc := 35) O dX8_suit_35 rfl ?_
            refine x_icmp_eq (pc := 36) O 48 dX8_suit_36 (by decide) (fun c36 => ?_) (fun c36 => ?_)
            · refine x_iconst (v := (-1)) (pc := 48) O dX8_suit_48 (by decide) ?_
              have hc9 : ¬ (lvP i a p ∧ lvP i a q ∧ lvP i a u ∧ ¬ p = q ∧ ¬ q = u ∧ ¬ p = u ∧ ¬ i 38 = 40) := fun z => z.2.2.2.2.2.1 c36
              refine x_ret (v := some (.int _)) (pc := 49) O dX8_suit_49 rfl rfl ⟨Nat.le_refl _, Nat.le_refl _, (), congrArg (fun z => some (Value.int z)) (if_neg hc9).symm, fun h hh => ?_⟩
              (try simp only [if_neg hc9]); exact hh
            · refine x_aload_n (pc := 39) O dX8_suit_39 rfl rfl ?_
              refine v_get (pc := 40) O dX8_suit_40 fdX8_209 rfl rfl ?_
              refine x_bipush (v := 40) (pc := 43) O dX8_suit_43 (by decide) ?_
              refine x_icmp_ne (pc := 45) O 50 dX8_suit_45 (by decide) (fun c45 => ?_) (fun c45 => ?_)
              · have hm40 : ns < 40 := by
                  rcases Nat.lt_or_ge ns 40 with q | q
                  · exact q
                  · exact absurd (by rw [hs, show ns = 40 by omega]; rfl) c45
                refine x_aload_n (pc := 50) O dX8_suit_50 rfl rfl ?_
                refine v_get (pc := 51) O dX8_suit_51 fdX8_68 rfl rfl ?_
                refine x_aload_n (pc := 54) O dX8_suit_54 rfl rfl ?_
                refine v_get (pc := 55) O dX8_suit_55 fdX8_209 rfl rfl ?_
                refine x_iload_n (pc := 58) O dX8_suit_58 rfl ?_
                refine v_ast (k := 31) (pc := 59) O dX8_suit_59 rfl rfl rfl hs (by show _ < 40; omega) ?_
                refine x_aload_n (pc := 60) O dX8_suit_60 rfl rfl ?_
                refine v_get (pc := 61) O dX8_suit_61 fdX8_71 rfl rfl ?_
                refine x_aload_n (pc := 64) O dX8_suit_64 rfl rfl ?_
                refine v_get (pc := 65) O dX8_suit_65 fdX8_209 rfl rfl ?_
                refine x_iload_n (pc := 68) O dX8_suit_68 rfl ?_
                refine v_ast (k := 32) (pc := 69) O dX8_suit_69 rfl rfl rfl hs (by show _ < 40; omega) ?_
                refine x_aload_n (pc := 70) O dX8_suit_70 rfl rfl ?_
                refine v_get (pc := 71) O dX8_suit_71 fdX8_74 rfl rfl ?_
                refine x_aload_n (pc := 74) O dX8_suit_74 rfl rfl ?_
                refine v_get (pc := 75) O dX8_suit_75 fdX8_209 rfl rfl ?_
                refine x_iload_n (pc := 78) O dX8_suit_78 rfl ?_
                refine v_ast (k := 33) (pc := 79) O dX8_suit_79 rfl rfl rfl hs (by show _ < 40; omega) ?_
                refine x_aload_n (pc := 80) O dX8_suit_80 rfl rfl ?_
                refine x_dup (pc := 81) O dX8_suit_81 rfl ?_
                refine v_get (pc := 82) O dX8_suit_82 fdX8_209 rfl rfl ?_
                refine x_iconst (v := 1) (pc := 85) O dX8_suit_85 (by decide) ?_
                refine x_iadd (pc := 86) O dX8_suit_86 ?_
                refine v_put (pc := 87) O dX8_suit_87 fpX8_209 rfl rfl ?_
                refine x_aload_n (pc := 90) O dX8_suit_90 rfl rfl ?_
                refine v_get (pc := 91) O dX8_suit_91 fdX8_209 rfl rfl ?_
                rw [upd_eq]
                refine x_iconst (v := 1) (pc := 94) O dX8_suit_94 (by decide) ?_
                refine x_isub (pc := 95) O dX8_suit_95 ?_
                rw [show i 38 + 1 - 1 = i 38 by rw [hs, show nI ns + 1 = nI (ns + 1) from (nI_succ ns).symm, show (1 : Int32) = 1 from rfl, nI_pred]]
                have hc9 : lvP i a p ∧ lvP i a q ∧ lvP i a u ∧ ¬ p = q ∧ ¬ q = u ∧ ¬ p = u ∧ ¬ i 38 = 40 := ⟨b2i_n0 c5, b2i_n0 c13, b2i_n0 c21, c26, c31, c36, c45⟩
                refine x_ret (v := some (.int _)) (pc := 96) O dX8_suit_96 rfl rfl ⟨Nat.le_refl _, Nat.le_refl _, (), congrArg (fun z => some (Value.int z)) (if_pos hc9).symm, fun h hh => ?_⟩
                (try simp only [if_pos hc9]); exact hh
              · refine x_iconst (v := (-1)) (pc := 48) O dX8_suit_48 (by decide) ?_
                have hc9 : ¬ (lvP i a p ∧ lvP i a q ∧ lvP i a u ∧ ¬ p = q ∧ ¬ q = u ∧ ¬ p = u ∧ ¬ i 38 = 40) := fun z => z.2.2.2.2.2.2 c45
                refine x_ret (v := some (.int _)) (pc := 49) O dX8_suit_49 rfl rfl ⟨Nat.le_refl _, Nat.le_refl _, (), congrArg (fun z => some (Value.int z)) (if_neg hc9).symm, fun h hh => ?_⟩
                (try simp only [if_neg hc9]); exact hh
set_option maxRecDepth 100000 in
set_option maxHeartbeats 4000000 in
theorem c_X8_appear (l : Launch) (E : En) (o : Nat) (d : Nat → Nat) (i : Nat → Int32) (a : Nat → Nat → Int32) (ch : Nat → List Rt) (p x : Int32) {ns : Nat} (hs : i 38 = nI ns) (h40 : ns ≤ 40) : Mt l E yX8_appear cX8_appear 3 (some .boolean) (rmX 1 22 0 0) [.ref o, .int p, .int x] (RV E o d i a ch) (fun _ : Unit => some (.int (b2i (isS i p ∧ a 35 p.toNatClampNeg = 0 ∧ 0 ≤ x ∧ x ≤ 3)))) (fun _ => RV E o d i (if isS i p ∧ a 35 p.toNatClampNeg = 0 ∧ 0 ≤ x ∧ x ≤ 3 then up2 a 34 p.toNatClampNeg x else a) ch) := by
  refine Mt_of (by decide +kernel) (Nat.le_of_ble_eq_true rfl) (fun J O => ?_)
  show J _ 0 0 0 [some (.ref o), some (.int p), some (.int x)] []
  refine x_iload_n (pc := 0) O dX8_appear_0 rfl ?_
  refine x_iconst (v := 0) (pc := 1) O dX8_appear_1 (by decide) ?_
  refine x_aload_n (pc := 2) O dX8_appear_2 rfl rfl ?_
  refine v_get (pc := 3) O dX8_appear_3 fdX8_209 rfl rfl ?_
  refine x_iconst (v := 1) (pc := 6) O dX8_appear_6 (by decide) ?_
  refine x_isub (pc := 7) O dX8_appear_7 ?_
  refine x_callS (pc := 8) (rest := _) O (c_X8_in l E _ _ _ _) dX8_appear_8 cbX8_103 sm_yX8_in rfl rfl (Nat.le_of_ble_eq_true rfl) ⟨Nat.le_of_ble_eq_true rfl, Nat.le_of_ble_eq_true rfl⟩ ⟨Nat.le_of_ble_eq_true rfl, Nat.le_of_ble_eq_true rfl⟩ (fun _ => ?_)
  dsimp only [Option.toList, List.append, List.nil_append, List.cons_append, Nat.add_zero, Nat.reduceAdd]
  refine x_if_eq (pc := 11) O 32 dX8_appear_11 (by decide) (fun c11 => ?_) (fun c11 => ?_)
  · refine x_iconst (v := 0) (pc := 32) O dX8_appear_32 (by decide) ?_
    have hc9 : ¬ (isS i p ∧ a 35 p.toNatClampNeg = 0 ∧ 0 ≤ x ∧ x ≤ 3) := fun z => b2i_z c11 z.1
    refine x_ret (v := some (.int _)) (pc := 33) O dX8_appear_33 rfl rfl ⟨Nat.le_refl _, Nat.le_refl _, (), congrArg (fun z => some (Value.int z)) (b2i_f hc9).symm, fun h hh => ?_⟩
    (try simp only [if_neg hc9]); exact hh
  · have hp := in_nat hs (by omega) (b2i_n0 c11)
    refine x_aload_n (pc := 14) O dX8_appear_14 rfl rfl ?_
    refine v_get (pc := 15) O dX8_appear_15 fdX8_80 rfl rfl ?_
    refine x_iload_n (pc := 18) O dX8_appear_18 rfl ?_
    refine v_ald (k := 35) (pc := 19) O dX8_appear_19 rfl rfl rfl hp.1 (by show _ < 40; omega) ?_
    refine x_if_ne (pc := 20) O 32 dX8_appear_20 (by decide) (fun c20 => ?_) (fun c20 => ?_)
    · refine x_iconst (v := 0) (pc := 32) O dX8_appear_32 (by decide) ?_
      have hc9 : ¬ (isS i p ∧ a 35 p.toNatClampNeg = 0 ∧ 0 ≤ x ∧ x ≤ 3) := fun z => c20 z.2.1
      refine x_ret (v := some (.int _)) (pc := 33) O dX8_appear_33 rfl rfl ⟨Nat.le_refl _, Nat.le_refl _, (), congrArg (fun z => some (Value.int z)) (b2i_f hc9).symm, fun h hh => ?_⟩
      (try simp only [if_neg hc9]); exact hh
    · refine x_iload_n (pc := 23) O dX8_appear_23 rfl ?_
      refine x_iconst (v := 0) (pc := 24) O dX8_appear_24 (by decide) ?_
      refine x_iconst (v := 3) (pc := 25) O dX8_appear_25 (by decide) ?_
      refine x_callS (pc := 26) (rest := _) O (c_X8_in l E _ _ _ _) dX8_appear_26 cbX8_103 sm_yX8_in rfl rfl (Nat.le_of_ble_eq_true rfl) ⟨Nat.le_of_ble_eq_true rfl, Nat.le_of_ble_eq_true rfl⟩ ⟨Nat.le_of_ble_eq_true rfl, Nat.le_of_ble_eq_true rfl⟩ (fun _ => ?_)
      dsimp only [Option.toList, List.append, List.nil_append, List.cons_append, Nat.add_zero, Nat.reduceAdd]
      refine x_if_ne (pc := 29) O 34 dX8_appear_29 (by decide) (fun c29 => ?_) (fun c29 => ?_)
      · refine x_aload_n (pc := 34) O dX8_appear_34 rfl rfl ?_
        refine v_get (pc := 35) O dX8_appear_35 fdX8_77 rfl rfl ?_
        refine x_iload_n (pc := 38) O dX8_appear_38 rfl ?_
        refine x_iload_n (pc := 39) O dX8_appear_39 rfl ?_
        refine v_ast (k := 34) (pc := 40) O dX8_appear_40 rfl rfl rfl hp.1 (by show _ < 40; omega) ?_
        refine x_iconst (v := 1) (pc := 41) O dX8_appear_41 (by decide) ?_
        have hc9 : isS i p ∧ a 35 p.toNatClampNeg = 0 ∧ 0 ≤ x ∧ x ≤ 3 := ⟨b2i_n0 c11, c20, b2i_n0 c29⟩
        refine x_ret (v := some (.int _)) (pc := 42) O dX8_appear_42 rfl rfl ⟨Nat.le_refl _, Nat.le_refl _, (), congrArg (fun z => some (Value.int z)) (b2i_t hc9).symm, fun h hh => ?_⟩
        (try simp only [if_pos hc9]); exact hh
      · refine x_iconst (v := 0) (pc := 32) O dX8_appear_32 (by decide) ?_
        have hc9 : ¬ (isS i p ∧ a 35 p.toNatClampNeg = 0 ∧ 0 ≤ x ∧ x ≤ 3) := fun z => b2i_z c29 z.2.2
        refine x_ret (v := some (.int _)) (pc := 33) O dX8_appear_33 rfl rfl ⟨Nat.le_refl _, Nat.le_refl _, (), congrArg (fun z => some (Value.int z)) (b2i_f hc9).symm, fun h hh => ?_⟩
        (try simp only [if_neg hc9]); exact hh
set_option maxRecDepth 100000 in
set_option maxHeartbeats 4000000 in
theorem c_X8_suited (l : Launch) (E : En) (o : Nat) (d : Nat → Nat) (i : Nat → Int32) (a : Nat → Nat → Int32) (ch : Nat → List Rt) (p x : Int32) {ns : Nat} (hs : i 38 = nI ns) (h40 : ns ≤ 40) : Mt l E yX8_suited cX8_suited 3 (some .int) (rmX 1 22 0 0) [.ref o, .int p, .int x] (RV E o d i a ch) (fun _ : Unit => some (.int (if isS i p then (if x = 0 then a 35 p.toNatClampNeg else if x = 1 then a 36 p.toNatClampNeg else if x = 2 then a 37 p.toNatClampNeg else -1) else -1))) (fun _ => RV E o d i a ch) := by
  refine Mt_of (by decide +kernel) (Nat.le_of_ble_eq_true rfl) (fun J O => ?_)
  show J _ 0 0 0 [some (.ref o), some (.int p), some (.int x)] []
  refine x_iload_n (pc := 0) O dX8_suited_0 rfl ?_
  refine x_iconst (v := 0) (pc := 1) O dX8_suited_1 (by decide) ?_
  refine x_aload_n (pc := 2) O dX8_suited_2 rfl rfl ?_
  refine v_get (pc := 3) O dX8_suited_3 fdX8_209 rfl rfl ?_
  refine x_iconst (v := 1) (pc := 6) O dX8_suited_6 (by decide) ?_
  refine x_isub (pc := 7) O dX8_suited_7 ?_
  refine x_callS (pc := 8) (rest := _) O (c_X8_in l E _ _ _ _) dX8_suited_8 cbX8_103 sm_yX8_in rfl rfl (Nat.le_of_ble_eq_true rfl) ⟨Nat.le_of_ble_eq_true rfl, Nat.le_of_ble_eq_true rfl⟩ ⟨Nat.le_of_ble_eq_true rfl, Nat.le_of_ble_eq_true rfl⟩ (fun _ => ?_)
  dsimp only [Option.toList, List.append, List.nil_append, List.cons_append, Nat.add_zero, Nat.reduceAdd]
  refine x_if_ne (pc := 11) O 16 dX8_suited_11 (by decide) (fun c11 => ?_) (fun c11 => ?_)
  · have hp := in_nat hs (by omega) (b2i_n0 c11)
    refine x_iload_n (pc := 16) O dX8_suited_16 rfl ?_
    refine x_if_ne (pc := 17) O 29 dX8_suited_17 (by decide) (fun c17 => ?_) (fun c17 => ?_)
    · refine x_iload_n (pc := 29) O dX8_suited_29 rfl ?_
      refine x_iconst (v := 1) (pc := 30) O dX8_suited_30 (by decide) ?_
      refine x_icmp_ne (pc := 31) O 43 dX8_suited_31 (by decide) (fun c31 => ?_) (fun c31 => ?_)
      · refine x_iload_n (pc := 43) O dX8_suited_43 rfl ?_
        refine x_iconst (v := 2) (pc := 44) O dX8_suited_44 (by decide) ?_
        refine x_icmp_ne (pc := 45) O 57 dX8_suited_45 (by decide) (fun c45 => ?_) (fun c45 => ?_)
        · refine x_iconst (v := (-1)) (pc := 57) O dX8_suited_57 (by decide) ?_
          exact x_ret (v := some (.int _)) (pc := 58) O dX8_suited_58 rfl (rfl) ⟨Nat.le_refl _, Nat.le_refl _, (), congrArg (fun z => some (Value.int z)) (by rw [if_pos (b2i_n0 c11), if_neg c17, if_neg c31, if_neg c45]), fun h hh => hh⟩
        · refine x_aload_n (pc := 48) O dX8_suited_48 rfl rfl ?_
          refine v_get (pc := 49) O dX8_suited_49 fdX8_86 rfl rfl ?_
          refine x_iload_n (pc := 52) O dX8_suited_52 rfl ?_
          refine v_ald (k := 37) (pc := 53) O dX8_suited_53 rfl rfl rfl hp.1 (by show _ < 40; omega) ?_
          refine x_goto (pc := 54) O 58 dX8_suited_54 (by decide) ?_
          exact x_ret (v := some (.int _)) (pc := 58) O dX8_suited_58 rfl (rfl) ⟨Nat.le_refl _, Nat.le_refl _, (), congrArg (fun z => some (Value.int z)) (by rw [if_pos (b2i_n0 c11), if_neg c17, if_neg c31, if_pos c45]), fun h hh => hh⟩
      · refine x_aload_n (pc := 34) O dX8_suited_34 rfl rfl ?_
        refine v_get (pc := 35) O dX8_suited_35 fdX8_83 rfl rfl ?_
        refine x_iload_n (pc := 38) O dX8_suited_38 rfl ?_
        refine v_ald (k := 36) (pc := 39) O dX8_suited_39 rfl rfl rfl hp.1 (by show _ < 40; omega) ?_
        refine x_goto (pc := 40) O 58 dX8_suited_40 (by decide) ?_
        exact x_ret (v := some (.int _)) (pc := 58) O dX8_suited_58 rfl (rfl) ⟨Nat.le_refl _, Nat.le_refl _, (), congrArg (fun z => some (Value.int z)) (by rw [if_pos (b2i_n0 c11), if_neg c17, if_pos c31]), fun h hh => hh⟩
    · refine x_aload_n (pc := 20) O dX8_suited_20 rfl rfl ?_
      refine v_get (pc := 21) O dX8_suited_21 fdX8_80 rfl rfl ?_
      refine x_iload_n (pc := 24) O dX8_suited_24 rfl ?_
      refine v_ald (k := 35) (pc := 25) O dX8_suited_25 rfl rfl rfl hp.1 (by show _ < 40; omega) ?_
      refine x_goto (pc := 26) O 58 dX8_suited_26 (by decide) ?_
      exact x_ret (v := some (.int _)) (pc := 58) O dX8_suited_58 rfl (rfl) ⟨Nat.le_refl _, Nat.le_refl _, (), congrArg (fun z => some (Value.int z)) (by rw [if_pos (b2i_n0 c11), if_pos c17]), fun h hh => hh⟩
  · refine x_iconst (v := (-1)) (pc := 14) O dX8_suited_14 (by decide) ?_
    exact x_ret (v := some (.int _)) (pc := 15) O dX8_suited_15 rfl (rfl) ⟨Nat.le_refl _, Nat.le_refl _, (), congrArg (fun z => some (Value.int z)) ((if_neg (b2i_z c11)).symm), fun h hh => hh⟩
def hcnt (a : Nat → Nat → Int32) (p u : Int32) : Nat → Int32
  | 0 => 0
  | k + 1 => hcnt a p u k + (if a 29 k = p ∧ (u = 0 ∨ ¬ a 30 k = -1) then 1 else 0)
set_option maxRecDepth 100000 in
set_option maxHeartbeats 4000000 in
theorem c_X8_held (l : Launch) (E : En) (o : Nat) (d : Nat → Nat) (i : Nat → Int32) (a : Nat → Nat → Int32) (ch : Nat → List Rt) (p u : Int32)  : Mt l E yX8_held cX8_held 5 (some .int) (rmX 0 0 0 0) [.ref o, .int p, .int u] (RV E o d i a ch) (fun _ : Unit => some (.int (hcnt a p u 120))) (fun _ => RV E o d i a ch) := by
  refine Mt_of (by decide +kernel) (Nat.le_of_ble_eq_true rfl) (fun J O => ?_)
  show J _ 0 0 0 [some (.ref o), some (.int p), some (.int u), none, none] []
  have loop : ∀ k, k ≤ 120 → J (RV E o d i a ch) 0 0 5 [some (.ref o), some (.int p), some (.int u), some (.int (hcnt a p u k)), some (.int (nI k))] [] := by
    refine up_ind 120 (fun k hk ih => ?_)
    refine x_iload (pc := 5) O dX8_held_5 rfl ?_
    refine x_bipush (v := nI 120) (pc := 7) O dX8_held_7 (by decide) ?_
    refine x_icmp_ge (pc := 9) O 52 dX8_held_9 (by decide) (fun c9 => ?_) (fun c9 => ?_)
    · refine x_iload_n (pc := 52) O dX8_held_52 rfl ?_
      have hk2 : k = 120 := by
        rw [nI_leI (by omega) (by omega)] at c9
        omega
      subst hk2
      exact x_ret (v := some (.int _)) (pc := 53) O dX8_held_53 rfl (rfl) ⟨Nat.le_refl _, Nat.le_refl _, (), rfl, fun h hh => hh⟩
    · have hk3 : k < 120 := by
        rw [nI_leI (by omega) (by omega)] at c9
        omega
      refine x_iload_n (pc := 12) O dX8_held_12 rfl ?_
      refine x_aload_n (pc := 13) O dX8_held_13 rfl rfl ?_
      refine v_get (pc := 14) O dX8_held_14 fdX8_62 rfl rfl ?_
      refine x_iload (pc := 17) O dX8_held_17 rfl ?_
      refine v_ald (k := 29) (pc := 19) O dX8_held_19 rfl rfl rfl rfl (by show _ < 120; omega) ?_
      refine x_iload_n (pc := 20) O dX8_held_20 rfl ?_
      refine x_icmp_ne (pc := 21) O 43 dX8_held_21 (by decide) (fun c21 => ?_) (fun c21 => ?_)
      · refine x_iconst (v := 0) (pc := 43) O dX8_held_43 (by decide) ?_
        refine x_iadd (pc := 44) O dX8_held_44 ?_
        refine x_istore_n (pc := 45) O dX8_held_45 (by decide) rfl ?_
        refine x_iinc (v := nI (k + 1)) (pc := 46) O dX8_held_46 rfl (nI_succ k).symm rfl ?_
        refine x_goto (pc := 49) O 5 dX8_held_49 (by decide) ?_
        rw [show hcnt a p u k + 0 = hcnt a p u (k + 1) from by show _ = hcnt a p u k + _; rw [if_neg (fun z => c21 z.1)]]
        exact ih (by omega)
      · refine x_iload_n (pc := 24) O dX8_held_24 rfl ?_
        refine x_if_eq (pc := 25) O 39 dX8_held_25 (by decide) (fun c25 => ?_) (fun c25 => ?_)
        · refine x_iconst (v := 1) (pc := 39) O dX8_held_39 (by decide) ?_
          refine x_goto (pc := 40) O 44 dX8_held_40 (by decide) ?_
          refine x_iadd (pc := 44) O dX8_held_44 ?_
          refine x_istore_n (pc := 45) O dX8_held_45 (by decide) rfl ?_
          refine x_iinc (v := nI (k + 1)) (pc := 46) O dX8_held_46 rfl (nI_succ k).symm rfl ?_
          refine x_goto (pc := 49) O 5 dX8_held_49 (by decide) ?_
          rw [show hcnt a p u k + 1 = hcnt a p u (k + 1) from by show _ = hcnt a p u k + _; rw [if_pos (⟨c21, Or.inl c25⟩)]]
          exact ih (by omega)
        · refine x_aload_n (pc := 28) O dX8_held_28 rfl rfl ?_
          refine v_get (pc := 29) O dX8_held_29 fdX8_65 rfl rfl ?_
          refine x_iload (pc := 32) O dX8_held_32 rfl ?_
          refine v_ald (k := 30) (pc := 34) O dX8_held_34 rfl rfl rfl rfl (by show _ < 120; omega) ?_
          refine x_iconst (v := (-1)) (pc := 35) O dX8_held_35 (by decide) ?_
          refine x_icmp_eq (pc := 36) O 43 dX8_held_36 (by decide) (fun c36 => ?_) (fun c36 => ?_)
          · refine x_iconst (v := 0) (pc := 43) O dX8_held_43 (by decide) ?_
            refine x_iadd (pc := 44) O dX8_held_44 ?_
            refine x_istore_n (pc := 45) O dX8_held_45 (by decide) rfl ?_
            refine x_iinc (v := nI (k + 1)) (pc := 46) O dX8_held_46 rfl (nI_succ k).symm rfl ?_
            refine x_goto (pc := 49) O 5 dX8_held_49 (by decide) ?_
            rw [show hcnt a p u k + 0 = hcnt a p u (k + 1) from by show _ = hcnt a p u k + _; rw [if_neg (fun z => z.2.elim c25 (fun y => y c36))]]
            exact ih (by omega)
          · refine x_iconst (v := 1) (pc := 39) O dX8_held_39 (by decide) ?_
            refine x_goto (pc := 40) O 44 dX8_held_40 (by decide) ?_
            refine x_iadd (pc := 44) O dX8_held_44 ?_
            refine x_istore_n (pc := 45) O dX8_held_45 (by decide) rfl ?_
            refine x_iinc (v := nI (k + 1)) (pc := 46) O dX8_held_46 rfl (nI_succ k).symm rfl ?_
            refine x_goto (pc := 49) O 5 dX8_held_49 (by decide) ?_
            rw [show hcnt a p u k + 1 = hcnt a p u (k + 1) from by show _ = hcnt a p u k + _; rw [if_pos (⟨c21, Or.inr c36⟩)]]
            exact ih (by omega)
  refine x_iconst (v := 0) (pc := 0) O dX8_held_0 (by decide) ?_
  refine x_istore_n (pc := 1) O dX8_held_1 (by decide) rfl ?_
  refine x_iconst (v := nI 0) (pc := 2) O dX8_held_2 (by decide) ?_
  refine x_istore (pc := 3) O dX8_held_3 (by decide) rfl ?_
  exact loop 0 (by omega)
