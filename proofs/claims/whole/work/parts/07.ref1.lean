/-! ===== REF 1: small methods of the reference ===== -/
abbrev rmX (f lo c s : Nat) : Room := { frames := f, cells := c, slots := s, locals := lo }
set_option maxRecDepth 100000 in
set_option maxHeartbeats 4000000 in
theorem c_X8_in (l : Launch) (E : En) (P : HP) (v lo hi : Int32)  : Mt l E yX8_in cX8_in 3 (some .boolean) (rmX 0 0 0 0) [.int v, .int lo, .int hi] (P) (fun _ : Unit => some (.int (b2i (lo ≤ v ∧ v ≤ hi)))) (fun _ => P) := by
  refine Mt_of (by decide +kernel) (Nat.le_of_ble_eq_true rfl) (fun J O => ?_)
  show J _ 0 0 0 [some (.int v), some (.int lo), some (.int hi)] []
  refine x_iload_n (pc := 0) O dX8_in_0 rfl ?_
  refine x_iload_n (pc := 1) O dX8_in_1 rfl ?_
  refine x_icmp_lt (pc := 2) O 14 dX8_in_2 (by decide) (fun c2 => ?_) (fun c2 => ?_)
  · refine x_iconst (v := 0) (pc := 14) O dX8_in_14 (by decide) ?_
    exact x_ret (v := some (.int _)) (pc := 15) O dX8_in_15 rfl (rfl) ⟨Nat.le_refl _, Nat.le_refl _, (), congrArg (fun z => some (Value.int z)) ((b2i_f (fun q => Int32.not_lt.mpr q.1 c2)).symm), fun h hh => hh⟩
  · refine x_iload_n (pc := 5) O dX8_in_5 rfl ?_
    refine x_iload_n (pc := 6) O dX8_in_6 rfl ?_
    refine x_icmp_gt (pc := 7) O 14 dX8_in_7 (by decide) (fun c7 => ?_) (fun c7 => ?_)
    · refine x_iconst (v := 0) (pc := 14) O dX8_in_14 (by decide) ?_
      exact x_ret (v := some (.int _)) (pc := 15) O dX8_in_15 rfl (rfl) ⟨Nat.le_refl _, Nat.le_refl _, (), congrArg (fun z => some (Value.int z)) ((b2i_f (fun q => Int32.not_lt.mpr q.2 c7)).symm), fun h hh => hh⟩
    · refine x_iconst (v := 1) (pc := 10) O dX8_in_10 (by decide) ?_
      refine x_goto (pc := 11) O 15 dX8_in_11 (by decide) ?_
      exact x_ret (v := some (.int _)) (pc := 15) O dX8_in_15 rfl (rfl) ⟨Nat.le_refl _, Nat.le_refl _, (), congrArg (fun z => some (Value.int z)) ((b2i_t ⟨Int32.not_lt.mp c2, Int32.not_lt.mp c7⟩).symm), fun h hh => hh⟩
set_option maxRecDepth 100000 in
set_option maxHeartbeats 4000000 in
theorem c_X8_isPerson (l : Launch) (E : En) (o : Nat) (d : Nat → Nat) (i : Nat → Int32) (a : Nat → Nat → Int32) (ch : Nat → List Rt) (p : Int32)  : Mt l E yX8_isPerson cX8_isPerson 2 (some .boolean) (rmX 1 22 0 0) [.ref o, .int p] (RV E o d i a ch) (fun _ : Unit => some (.int (b2i (isP i p)))) (fun _ => RV E o d i a ch) := by
  refine Mt_of (by decide +kernel) (Nat.le_of_ble_eq_true rfl) (fun J O => ?_)
  show J _ 0 0 0 [some (.ref o), some (.int p)] []
  refine x_iload_n (pc := 0) O dX8_isPerson_0 rfl ?_
  refine x_iconst (v := 0) (pc := 1) O dX8_isPerson_1 (by decide) ?_
  refine x_aload_n (pc := 2) O dX8_isPerson_2 rfl rfl ?_
  refine v_get (pc := 3) O dX8_isPerson_3 fdX8_99 rfl rfl ?_
  refine x_iconst (v := 1) (pc := 6) O dX8_isPerson_6 (by decide) ?_
  refine x_isub (pc := 7) O dX8_isPerson_7 ?_
  refine x_callS (pc := 8) (rest := _) O (c_X8_in l E _ _ _ _) dX8_isPerson_8 cbX8_103 sm_yX8_in rfl rfl (Nat.le_of_ble_eq_true rfl) ⟨Nat.le_of_ble_eq_true rfl, Nat.le_of_ble_eq_true rfl⟩ ⟨Nat.le_of_ble_eq_true rfl, Nat.le_of_ble_eq_true rfl⟩ (fun _ => ?_)
  dsimp only [Option.toList, List.append, List.nil_append, List.cons_append, Nat.add_zero, Nat.reduceAdd]
  exact x_ret (v := some (.int _)) (pc := 11) O dX8_isPerson_11 rfl (b2i_nar _) ⟨Nat.le_refl _, Nat.le_refl _, (), rfl, fun h hh => hh⟩
set_option maxRecDepth 100000 in
set_option maxHeartbeats 4000000 in
theorem c_X8_lives (l : Launch) (E : En) (o : Nat) (d : Nat → Nat) (i : Nat → Int32) (a : Nat → Nat → Int32) (ch : Nat → List Rt) (p : Int32) {m : Nat} (hm : i 22 = nI m) (h60 : m ≤ 60) : Mt l E yX8_lives cX8_lives 2 (some .boolean) (rmX 2 43 0 0) [.ref o, .int p] (RV E o d i a ch) (fun _ : Unit => some (.int (b2i (lvP i a p)))) (fun _ => RV E o d i a ch) := by
  refine Mt_of (by decide +kernel) (Nat.le_of_ble_eq_true rfl) (fun J O => ?_)
  show J _ 0 0 0 [some (.ref o), some (.int p)] []
  refine x_aload_n (pc := 0) O dX8_lives_0 rfl rfl ?_
  refine x_iload_n (pc := 1) O dX8_lives_1 rfl ?_
  refine x_callV (pc := 2) (rest := _) (ci := 8) O (c_X8_isPerson l E _ _ _ _ _ _) dX8_lives_2 cbX8_107 im_yX8_isPerson se_yX8_isPerson rfl v_recv rfl rfl (Nat.le_of_ble_eq_true rfl) ⟨Nat.le_of_ble_eq_true rfl, Nat.le_of_ble_eq_true rfl⟩ ⟨Nat.le_of_ble_eq_true rfl, Nat.le_of_ble_eq_true rfl⟩ (fun _ => ?_)
  dsimp only [Option.toList, List.append, List.nil_append, List.cons_append, Nat.add_zero, Nat.reduceAdd]
  refine x_if_eq (pc := 5) O 21 dX8_lives_5 (by decide) (fun c5 => ?_) (fun c5 => ?_)
  · refine x_iconst (v := 0) (pc := 21) O dX8_lives_21 (by decide) ?_
    exact x_ret (v := some (.int _)) (pc := 22) O dX8_lives_22 rfl (rfl) ⟨Nat.le_refl _, Nat.le_refl _, (), congrArg (fun z => some (Value.int z)) ((b2i_f (fun q => b2i_z c5 q.1)).symm), fun h hh => hh⟩
  · have hp := in_nat hm (by omega) (b2i_n0 c5)
    refine x_aload_n (pc := 8) O dX8_lives_8 rfl rfl ?_
    refine v_get (pc := 9) O dX8_lives_9 fdX8_43 rfl rfl ?_
    refine x_iload_n (pc := 12) O dX8_lives_12 rfl ?_
    refine v_zld (k := 20) (pc := 13) O dX8_lives_13 rfl hp.1 (by omega) ?_
    refine x_if_eq (pc := 14) O 21 dX8_lives_14 (by decide) (fun c14 => ?_) (fun c14 => ?_)
    · refine x_iconst (v := 0) (pc := 21) O dX8_lives_21 (by decide) ?_
      exact x_ret (v := some (.int _)) (pc := 22) O dX8_lives_22 rfl (rfl) ⟨Nat.le_refl _, Nat.le_refl _, (), congrArg (fun z => some (Value.int z)) ((b2i_f (fun q => q.2 c14)).symm), fun h hh => hh⟩
    · refine x_iconst (v := 1) (pc := 17) O dX8_lives_17 (by decide) ?_
      refine x_goto (pc := 18) O 22 dX8_lives_18 (by decide) ?_
      exact x_ret (v := some (.int _)) (pc := 22) O dX8_lives_22 rfl (rfl) ⟨Nat.le_refl _, Nat.le_refl _, (), congrArg (fun z => some (Value.int z)) ((b2i_t ⟨b2i_n0 c5, c14⟩).symm), fun h hh => hh⟩
set_option maxRecDepth 100000 in
set_option maxHeartbeats 4000000 in
theorem c_X8_isStrip (l : Launch) (E : En) (o : Nat) (d : Nat → Nat) (i : Nat → Int32) (a : Nat → Nat → Int32) (ch : Nat → List Rt) (g s q : Int32)  : Mt l E yX8_isStrip cX8_isStrip 4 (some .boolean) (rmX 1 22 0 0) [.ref o, .int g, .int s, .int q] (RV E o d i a ch) (fun _ : Unit => some (.int (b2i ((0 ≤ g ∧ g ≤ 9) ∧ (0 ≤ s ∧ s ≤ 11) ∧ 0 ≤ q ∧ q ≤ i 8)))) (fun _ => RV E o d i a ch) := by
  refine Mt_of (by decide +kernel) (Nat.le_of_ble_eq_true rfl) (fun J O => ?_)
  show J _ 0 0 0 [some (.ref o), some (.int g), some (.int s), some (.int q)] []
  refine x_iload_n (pc := 0) O dX8_isStrip_0 rfl ?_
  refine x_iconst (v := 0) (pc := 1) O dX8_isStrip_1 (by decide) ?_
  refine x_bipush (v := 9) (pc := 2) O dX8_isStrip_2 (by decide) ?_
  refine x_callS (pc := 4) (rest := _) O (c_X8_in l E _ _ _ _) dX8_isStrip_4 cbX8_103 sm_yX8_in rfl rfl (Nat.le_of_ble_eq_true rfl) ⟨Nat.le_of_ble_eq_true rfl, Nat.le_of_ble_eq_true rfl⟩ ⟨Nat.le_of_ble_eq_true rfl, Nat.le_of_ble_eq_true rfl⟩ (fun _ => ?_)
  dsimp only [Option.toList, List.append, List.nil_append, List.cons_append, Nat.add_zero, Nat.reduceAdd]
  refine x_if_eq (pc := 7) O 36 dX8_isStrip_7 (by decide) (fun c7 => ?_) (fun c7 => ?_)
  · refine x_iconst (v := 0) (pc := 36) O dX8_isStrip_36 (by decide) ?_
    exact x_ret (v := some (.int _)) (pc := 37) O dX8_isStrip_37 rfl (rfl) ⟨Nat.le_refl _, Nat.le_refl _, (), congrArg (fun z => some (Value.int z)) ((b2i_f (fun q => b2i_z c7 q.1)).symm), fun h hh => hh⟩
  · refine x_iload_n (pc := 10) O dX8_isStrip_10 rfl ?_
    refine x_iconst (v := 0) (pc := 11) O dX8_isStrip_11 (by decide) ?_
    refine x_bipush (v := 11) (pc := 12) O dX8_isStrip_12 (by decide) ?_
    refine x_callS (pc := 14) (rest := _) O (c_X8_in l E _ _ _ _) dX8_isStrip_14 cbX8_103 sm_yX8_in rfl rfl (Nat.le_of_ble_eq_true rfl) ⟨Nat.le_of_ble_eq_true rfl, Nat.le_of_ble_eq_true rfl⟩ ⟨Nat.le_of_ble_eq_true rfl, Nat.le_of_ble_eq_true rfl⟩ (fun _ => ?_)
    dsimp only [Option.toList, List.append, List.nil_append, List.cons_append, Nat.add_zero, Nat.reduceAdd]
    refine x_if_eq (pc := 17) O 36 dX8_isStrip_17 (by decide) (fun c17 => ?_) (fun c17 => ?_)
    · refine x_iconst (v := 0) (pc := 36) O dX8_isStrip_36 (by decide) ?_
      exact x_ret (v := some (.int _)) (pc := 37) O dX8_isStrip_37 rfl (rfl) ⟨Nat.le_refl _, Nat.le_refl _, (), congrArg (fun z => some (Value.int z)) ((b2i_f (fun q => b2i_z c17 q.2.1)).symm), fun h hh => hh⟩
    · refine x_iload_n (pc := 20) O dX8_isStrip_20 rfl ?_
      refine x_iconst (v := 0) (pc := 21) O dX8_isStrip_21 (by decide) ?_
      refine x_aload_n (pc := 22) O dX8_isStrip_22 rfl rfl ?_
      refine v_get (pc := 23) O dX8_isStrip_23 fdX8_118 rfl rfl ?_
      refine x_callS (pc := 26) (rest := _) O (c_X8_in l E _ _ _ _) dX8_isStrip_26 cbX8_103 sm_yX8_in rfl rfl (Nat.le_of_ble_eq_true rfl) ⟨Nat.le_of_ble_eq_true rfl, Nat.le_of_ble_eq_true rfl⟩ ⟨Nat.le_of_ble_eq_true rfl, Nat.le_of_ble_eq_true rfl⟩ (fun _ => ?_)
      dsimp only [Option.toList, List.append, List.nil_append, List.cons_append, Nat.add_zero, Nat.reduceAdd]
      refine x_if_eq (pc := 29) O 36 dX8_isStrip_29 (by decide) (fun c29 => ?_) (fun c29 => ?_)
      · refine x_iconst (v := 0) (pc := 36) O dX8_isStrip_36 (by decide) ?_
        exact x_ret (v := some (.int _)) (pc := 37) O dX8_isStrip_37 rfl (rfl) ⟨Nat.le_refl _, Nat.le_refl _, (), congrArg (fun z => some (Value.int z)) ((b2i_f (fun q => b2i_z c29 q.2.2)).symm), fun h hh => hh⟩
      · refine x_iconst (v := 1) (pc := 32) O dX8_isStrip_32 (by decide) ?_
        refine x_goto (pc := 33) O 37 dX8_isStrip_33 (by decide) ?_
        exact x_ret (v := some (.int _)) (pc := 37) O dX8_isStrip_37 rfl (rfl) ⟨Nat.le_refl _, Nat.le_refl _, (), congrArg (fun z => some (Value.int z)) ((b2i_t ⟨b2i_n0 c7, b2i_n0 c17, b2i_n0 c29⟩).symm), fun h hh => hh⟩
set_option maxRecDepth 100000 in
set_option maxHeartbeats 4000000 in
theorem c_X8_isChild (l : Launch) (E : En) (o : Nat) (d : Nat → Nat) (i : Nat → Int32) (a : Nat → Nat → Int32) (ch : Nat → List Rt) (c p : Nat) (hc : c < 60) : Mt l E yX8_isChild cX8_isChild 3 (some .boolean) (rmX 0 0 0 0) [.ref o, .int (nI c), .int (nI p)] (RV E o d i a ch) (fun _ : Unit => some (.int (b2i (a 10 c = nI p ∨ a 11 c = nI p)))) (fun _ => RV E o d i a ch) := by
  refine Mt_of (by decide +kernel) (Nat.le_of_ble_eq_true rfl) (fun J O => ?_)
  show J _ 0 0 0 [some (.ref o), some (.int (nI c)), some (.int (nI p))] []
  refine x_aload_n (pc := 0) O dX8_isChild_0 rfl rfl ?_
  refine v_get (pc := 1) O dX8_isChild_1 fdX8_13 rfl rfl ?_
  refine x_iload_n (pc := 4) O dX8_isChild_4 rfl ?_
  refine v_ald (k := 10) (pc := 5) O dX8_isChild_5 rfl rfl rfl rfl (by show _ < 60; omega) ?_
  refine x_iload_n (pc := 6) O dX8_isChild_6 rfl ?_
  refine x_icmp_eq (pc := 7) O 20 dX8_isChild_7 (by decide) (fun c7 => ?_) (fun c7 => ?_)
  · refine x_iconst (v := 1) (pc := 20) O dX8_isChild_20 (by decide) ?_
    refine x_goto (pc := 21) O 25 dX8_isChild_21 (by decide) ?_
    exact x_ret (v := some (.int _)) (pc := 25) O dX8_isChild_25 rfl (rfl) ⟨Nat.le_refl _, Nat.le_refl _, (), congrArg (fun z => some (Value.int z)) ((b2i_t (Or.inl c7)).symm), fun h hh => hh⟩
  · refine x_aload_n (pc := 10) O dX8_isChild_10 rfl rfl ?_
    refine v_get (pc := 11) O dX8_isChild_11 fdX8_16 rfl rfl ?_
    refine x_iload_n (pc := 14) O dX8_isChild_14 rfl ?_
    refine v_ald (k := 11) (pc := 15) O dX8_isChild_15 rfl rfl rfl rfl (by show _ < 60; omega) ?_
    refine x_iload_n (pc := 16) O dX8_isChild_16 rfl ?_
    refine x_icmp_ne (pc := 17) O 24 dX8_isChild_17 (by decide) (fun c17 => ?_) (fun c17 => ?_)
    · refine x_iconst (v := 0) (pc := 24) O dX8_isChild_24 (by decide) ?_
      exact x_ret (v := some (.int _)) (pc := 25) O dX8_isChild_25 rfl (rfl) ⟨Nat.le_refl _, Nat.le_refl _, (), congrArg (fun z => some (Value.int z)) ((b2i_f (fun q => q.elim c7 c17)).symm), fun h hh => hh⟩
    · refine x_iconst (v := 1) (pc := 20) O dX8_isChild_20 (by decide) ?_
      refine x_goto (pc := 21) O 25 dX8_isChild_21 (by decide) ?_
      exact x_ret (v := some (.int _)) (pc := 25) O dX8_isChild_25 rfl (rfl) ⟨Nat.le_refl _, Nat.le_refl _, (), congrArg (fun z => some (Value.int z)) ((b2i_t (Or.inr c17)).symm), fun h hh => hh⟩
set_option maxRecDepth 100000 in
set_option maxHeartbeats 4000000 in
theorem c_X8_sick (l : Launch) (E : En) (o : Nat) (d : Nat → Nat) (i : Nat → Int32) (a : Nat → Nat → Int32) (ch : Nat → List Rt) (p x : Int32) {m : Nat} (hm : i 22 = nI m) (h60 : m ≤ 60) : Mt l E yX8_sick cX8_sick 3 (some .boolean) (rmX 3 64 0 0) [.ref o, .int p, .int x] (RV E o d i a ch) (fun _ : Unit => some (.int (b2i (lvP i a p ∧ 0 ≤ x ∧ x ≤ 60)))) (fun _ => RV E o d i (if lvP i a p ∧ 0 ≤ x ∧ x ≤ 60 then up2 a 19 p.toNatClampNeg x else a) ch) := by
  refine Mt_of (by decide +kernel) (Nat.le_of_ble_eq_true rfl) (fun J O => ?_)
  show J _ 0 0 0 [some (.ref o), some (.int p), some (.int x)] []
  refine x_aload_n (pc := 0) O dX8_sick_0 rfl rfl ?_
  refine x_iload_n (pc := 1) O dX8_sick_1 rfl ?_
  refine x_callV (pc := 2) (rest := _) (ci := 8) O (c_X8_lives l E _ _ _ _ _ _ hm h60) dX8_sick_2 cbX8_188 im_yX8_lives se_yX8_lives rfl v_recv rfl rfl (Nat.le_of_ble_eq_true rfl) ⟨Nat.le_of_ble_eq_true rfl, Nat.le_of_ble_eq_true rfl⟩ ⟨Nat.le_of_ble_eq_true rfl, Nat.le_of_ble_eq_true rfl⟩ (fun _ => ?_)
  dsimp only [Option.toList, List.append, List.nil_append, List.cons_append, Nat.add_zero, Nat.reduceAdd]
  refine x_if_eq (pc := 5) O 18 dX8_sick_5 (by decide) (fun c5 => ?_) (fun c5 => ?_)
  · refine x_iconst (v := 0) (pc := 18) O dX8_sick_18 (by decide) ?_
    have hc9 : ¬ (lvP i a p ∧ 0 ≤ x ∧ x ≤ 60) := (fun q => b2i_z c5 q.1)
    refine x_ret (v := some (.int _)) (pc := 19) O dX8_sick_19 rfl rfl ⟨Nat.le_refl _, Nat.le_refl _, (), congrArg (fun z => some (Value.int z)) (b2i_f hc9).symm, fun h hh => ?_⟩
    (try simp only [if_neg hc9]); exact hh
  · have hp := in_nat hm (by omega) (b2i_n0 c5).1
    refine x_iload_n (pc := 8) O dX8_sick_8 rfl ?_
    refine x_iconst (v := 0) (pc := 9) O dX8_sick_9 (by decide) ?_
    refine x_bipush (v := 60) (pc := 10) O dX8_sick_10 (by decide) ?_
    refine x_callS (pc := 12) (rest := _) O (c_X8_in l E _ _ _ _) dX8_sick_12 cbX8_103 sm_yX8_in rfl rfl (Nat.le_of_ble_eq_true rfl) ⟨Nat.le_of_ble_eq_true rfl, Nat.le_of_ble_eq_true rfl⟩ ⟨Nat.le_of_ble_eq_true rfl, Nat.le_of_ble_eq_true rfl⟩ (fun _ => ?_)
    dsimp only [Option.toList, List.append, List.nil_append, List.cons_append, Nat.add_zero, Nat.reduceAdd]
    refine x_if_ne (pc := 15) O 20 dX8_sick_15 (by decide) (fun c15 => ?_) (fun c15 => ?_)
    · refine x_aload_n (pc := 20) O dX8_sick_20 rfl rfl ?_
      refine v_get (pc := 21) O dX8_sick_21 fdX8_40 rfl rfl ?_
      refine x_iload_n (pc := 24) O dX8_sick_24 rfl ?_
      refine x_iload_n (pc := 25) O dX8_sick_25 rfl ?_
      refine v_ast (k := 19) (pc := 26) O dX8_sick_26 rfl rfl rfl hp.1 (by show _ < 60; omega) ?_
      refine x_iconst (v := 1) (pc := 27) O dX8_sick_27 (by decide) ?_
      have hc9 : lvP i a p ∧ 0 ≤ x ∧ x ≤ 60 := ⟨b2i_n0 c5, b2i_n0 c15⟩
      refine x_ret (v := some (.int _)) (pc := 28) O dX8_sick_28 rfl rfl ⟨Nat.le_refl _, Nat.le_refl _, (), congrArg (fun z => some (Value.int z)) (b2i_t hc9).symm, fun h hh => ?_⟩
      (try simp only [if_pos hc9]); exact hh
    · refine x_iconst (v := 0) (pc := 18) O dX8_sick_18 (by decide) ?_
      have hc9 : ¬ (lvP i a p ∧ 0 ≤ x ∧ x ≤ 60) := (fun q => b2i_z c15 q.2)
      refine x_ret (v := some (.int _)) (pc := 19) O dX8_sick_19 rfl rfl ⟨Nat.le_refl _, Nat.le_refl _, (), congrArg (fun z => some (Value.int z)) (b2i_f hc9).symm, fun h hh => ?_⟩
      (try simp only [if_neg hc9]); exact hh
set_option maxRecDepth 100000 in
set_option maxHeartbeats 4000000 in
theorem c_X8_works (l : Launch) (E : En) (o : Nat) (d : Nat → Nat) (i : Nat → Int32) (a : Nat → Nat → Int32) (ch : Nat → List Rt) (p x s : Int32) {m : Nat} (hm : i 22 = nI m) (h60 : m ≤ 60) : Mt l E yX8_works cX8_works 4 (some .int) (rmX 2 43 0 0) [.ref o, .int p, .int x, .int s] (RV E o d i a ch) (fun _ : Unit => some (.int (if isP i p ∧ 1 ≤ x ∧ x ≤ a 15 p.toNatClampNeg then a 15 p.toNatClampNeg - x else -1))) (fun _ => RV E o d i (if isP i p ∧ 1 ≤ x ∧ x ≤ a 15 p.toNatClampNeg then (if s = 0 then up2 (up2 a 15 p.toNatClampNeg (a 15 p.toNatClampNeg - x)) 16 p.toNatClampNeg (a 16 p.toNatClampNeg + x) else up2 (up2 (up2 a 15 p.toNatClampNeg (a 15 p.toNatClampNeg - x)) 17 p.toNatClampNeg (a 17 p.toNatClampNeg + x)) 14 p.toNatClampNeg (a 14 p.toNatClampNeg + x)) else a) ch) := by
  refine Mt_of (by decide +kernel) (Nat.le_of_ble_eq_true rfl) (fun J O => ?_)
  show J _ 0 0 0 [some (.ref o), some (.int p), some (.int x), some (.int s)] []
  refine x_aload_n (pc := 0) O dX8_works_0 rfl rfl ?_
  refine x_iload_n (pc := 1) O dX8_works_1 rfl ?_
  refine x_callV (pc := 2) (rest := _) (ci := 8) O (c_X8_isPerson l E _ _ _ _ _ _) dX8_works_2 cbX8_107 im_yX8_isPerson se_yX8_isPerson rfl v_recv rfl rfl (Nat.le_of_ble_eq_true rfl) ⟨Nat.le_of_ble_eq_true rfl, Nat.le_of_ble_eq_true rfl⟩ ⟨Nat.le_of_ble_eq_true rfl, Nat.le_of_ble_eq_true rfl⟩ (fun _ => ?_)
  dsimp only [Option.toList, List.append, List.nil_append, List.cons_append, Nat.add_zero, Nat.reduceAdd]
  refine x_if_eq (pc := 5) O 22 dX8_works_5 (by decide) (fun c5 => ?_) (fun c5 => ?_)
  · refine x_iconst (v := (-1)) (pc := 22) O dX8_works_22 (by decide) ?_
    have hc9 : ¬ (isP i p ∧ 1 ≤ x ∧ x ≤ a 15 p.toNatClampNeg) := (fun q => b2i_z c5 q.1)
    refine x_ret (v := some (.int _)) (pc := 23) O dX8_works_23 rfl rfl ⟨Nat.le_refl _, Nat.le_refl _, (), congrArg (fun z => some (Value.int z)) (if_neg hc9).symm, fun h hh => ?_⟩
    (try simp only [if_neg hc9]); exact hh
  · have hp := in_nat hm (by omega) (b2i_n0 c5)
    refine x_iload_n (pc := 8) O dX8_works_8 rfl ?_
    refine x_iconst (v := 1) (pc := 9) O dX8_works_9 (by decide) ?_
    refine x_aload_n (pc := 10) O dX8_works_10 rfl rfl ?_
    refine v_get (pc := 11) O dX8_works_11 fdX8_28 rfl rfl ?_
    refine x_iload_n (pc := 14) O dX8_works_14 rfl ?_
    refine v_ald (k := 15) (pc := 15) O dX8_works_15 rfl rfl rfl hp.1 (by show _ < 60; omega) ?_
    refine x_callS (pc := 16) (rest := _) O (c_X8_in l E _ _ _ _) dX8_works_16 cbX8_103 sm_yX8_in rfl rfl (Nat.le_of_ble_eq_true rfl) ⟨Nat.le_of_ble_eq_true rfl, Nat.le_of_ble_eq_true rfl⟩ ⟨Nat.le_of_ble_eq_true rfl, Nat.le_of_ble_eq_true rfl⟩ (fun _ => ?_)
    dsimp only [Option.toList, List.append, List.nil_append, List.cons_append, Nat.add_zero, Nat.reduceAdd]
    refine x_if_ne (pc := 19) O 24 dX8_works_19 (by decide) (fun c19 => ?_) (fun c19 => ?_)
    · refine x_aload_n (pc := 24) O dX8_works_24 rfl rfl ?_
      refine v_get (pc := 25) O dX8_works_25 fdX8_28 rfl rfl ?_
      refine x_iload_n (pc := 28) O dX8_works_28 rfl ?_
      refine x_dup2 (pc := 29) O dX8_works_29 rfl rfl ?_
      refine v_ald (k := 15) (pc := 30) O dX8_works_30 rfl rfl rfl hp.1 (by show _ < 60; omega) ?_
      refine x_iload_n (pc := 31) O dX8_works_31 rfl ?_
      refine x_isub (pc := 32) O dX8_works_32 ?_
      refine v_ast (k := 15) (pc := 33) O dX8_works_33 rfl rfl rfl hp.1 (by show _ < 60; omega) ?_
      refine x_iload_n (pc := 34) O dX8_works_34 rfl ?_
      refine x_if_eq (pc := 35) O 61 dX8_works_35 (by decide) (fun c35 => ?_) (fun c35 => ?_)
      · refine x_aload_n (pc := 61) O dX8_works_61 rfl rfl ?_
        refine v_get (pc := 62) O dX8_works_62 fdX8_31 rfl rfl ?_
        refine x_iload_n (pc := 65) O dX8_works_65 rfl ?_
        refine x_dup2 (pc := 66) O dX8_works_66 rfl rfl ?_
        refine v_aldv (k := 16) (v := a 16 p.toNatClampNeg) (pc := 67) O dX8_works_67 rfl rfl rfl hp.1 (by show _ < 60; omega) (by simp [up2, upd]) ?_
        refine x_iload_n (pc := 68) O dX8_works_68 rfl ?_
        refine x_iadd (pc := 69) O dX8_works_69 ?_
        refine v_ast (k := 16) (pc := 70) O dX8_works_70 rfl rfl rfl hp.1 (by show _ < 60; omega) ?_
        refine x_aload_n (pc := 71) O dX8_works_71 rfl rfl ?_
        refine v_get (pc := 72) O dX8_works_72 fdX8_28 rfl rfl ?_
        refine x_iload_n (pc := 75) O dX8_works_75 rfl ?_
        refine v_aldv (k := 15) (v := a 15 p.toNatClampNeg - x) (pc := 76) O dX8_works_76 rfl rfl rfl hp.1 (by show _ < 60; omega) (by simp [up2, upd]) ?_
        have hc9 : isP i p ∧ 1 ≤ x ∧ x ≤ a 15 p.toNatClampNeg := ⟨b2i_n0 c5, b2i_n0 c19⟩
        refine x_ret (v := some (.int _)) (pc := 77) O dX8_works_77 rfl rfl ⟨Nat.le_refl _, Nat.le_refl _, (), congrArg (fun z => some (Value.int z)) (if_pos hc9).symm, fun h hh => ?_⟩
        (try simp only [if_pos hc9, if_pos c35]); exact hh
      · refine x_aload_n (pc := 38) O dX8_works_38 rfl rfl ?_
        refine v_get (pc := 39) O dX8_works_39 fdX8_34 rfl rfl ?_
        refine x_iload_n (pc := 42) O dX8_works_42 rfl ?_
        refine x_dup2 (pc := 43) O dX8_works_43 rfl rfl ?_
        refine v_aldv (k := 17) (v := a 17 p.toNatClampNeg) (pc := 44) O dX8_works_44 rfl rfl rfl hp.1 (by show _ < 60; omega) (by simp [up2, upd]) ?_
        refine x_iload_n (pc := 45) O dX8_works_45 rfl ?_
        refine x_iadd (pc := 46) O dX8_works_46 ?_
        refine v_ast (k := 17) (pc := 47) O dX8_works_47 rfl rfl rfl hp.1 (by show _ < 60; omega) ?_
        refine x_aload_n (pc := 48) O dX8_works_48 rfl rfl ?_
        refine v_get (pc := 49) O dX8_works_49 fdX8_25 rfl rfl ?_
        refine x_iload_n (pc := 52) O dX8_works_52 rfl ?_
        refine x_dup2 (pc := 53) O dX8_works_53 rfl rfl ?_
        refine v_aldv (k := 14) (v := a 14 p.toNatClampNeg) (pc := 54) O dX8_works_54 rfl rfl rfl hp.1 (by show _ < 60; omega) (by simp [up2, upd]) ?_
        refine x_iload_n (pc := 55) O dX8_works_55 rfl ?_
        refine x_iadd (pc := 56) O dX8_works_56 ?_
        refine v_ast (k := 14) (pc := 57) O dX8_works_57 rfl rfl rfl hp.1 (by show _ < 60; omega) ?_
        refine x_goto (pc := 58) O 71 dX8_works_58 (by decide) ?_
        refine x_aload_n (pc := 71) O dX8_works_71 rfl rfl ?_
        refine v_get (pc := 72) O dX8_works_72 fdX8_28 rfl rfl ?_
        refine x_iload_n (pc := 75) O dX8_works_75 rfl ?_
        refine v_aldv (k := 15) (v := a 15 p.toNatClampNeg - x) (pc := 76) O dX8_works_76 rfl rfl rfl hp.1 (by show _ < 60; omega) (by simp [up2, upd]) ?_
        have hc9 : isP i p ∧ 1 ≤ x ∧ x ≤ a 15 p.toNatClampNeg := ⟨b2i_n0 c5, b2i_n0 c19⟩
        refine x_ret (v := some (.int _)) (pc := 77) O dX8_works_77 rfl rfl ⟨Nat.le_refl _, Nat.le_refl _, (), congrArg (fun z => some (Value.int z)) (if_pos hc9).symm, fun h hh => ?_⟩
        (try simp only [if_pos hc9, if_neg c35]); exact hh
    · refine x_iconst (v := (-1)) (pc := 22) O dX8_works_22 (by decide) ?_
      have hc9 : ¬ (isP i p ∧ 1 ≤ x ∧ x ≤ a 15 p.toNatClampNeg) := (fun q => b2i_z c19 q.2)
      refine x_ret (v := some (.int _)) (pc := 23) O dX8_works_23 rfl rfl ⟨Nat.le_refl _, Nat.le_refl _, (), congrArg (fun z => some (Value.int z)) (if_neg hc9).symm, fun h hh => ?_⟩
      (try simp only [if_neg hc9]); exact hh
set_option maxRecDepth 100000 in
set_option maxHeartbeats 4000000 in
theorem c_X8_pay (l : Launch) (E : En) (o : Nat) (d : Nat → Nat) (i : Nat → Int32) (a : Nat → Nat → Int32) (ch : Nat → List Rt) (p x : Int32) {m : Nat} (hm : i 22 = nI m) (h60 : m ≤ 60) : Mt l E yX8_pay cX8_pay 3 (some .int) (rmX 2 43 0 0) [.ref o, .int p, .int x] (RV E o d i a ch) (fun _ : Unit => some (.int (if isP i p ∧ 1 ≤ x ∧ x ≤ a 14 p.toNatClampNeg then a 14 p.toNatClampNeg - x else -1))) (fun _ => RV E o d (if isP i p ∧ 1 ≤ x ∧ x ≤ a 14 p.toNatClampNeg then upd i 23 (i 23 + x) else i) (if isP i p ∧ 1 ≤ x ∧ x ≤ a 14 p.toNatClampNeg then up2 a 14 p.toNatClampNeg (a 14 p.toNatClampNeg - x) else a) ch) := by
  refine Mt_of (by decide +kernel) (Nat.le_of_ble_eq_true rfl) (fun J O => ?_)
  show J _ 0 0 0 [some (.ref o), some (.int p), some (.int x)] []
  refine x_aload_n (pc := 0) O dX8_pay_0 rfl rfl ?_
  refine x_iload_n (pc := 1) O dX8_pay_1 rfl ?_
  refine x_callV (pc := 2) (rest := _) (ci := 8) O (c_X8_isPerson l E _ _ _ _ _ _) dX8_pay_2 cbX8_107 im_yX8_isPerson se_yX8_isPerson rfl v_recv rfl rfl (Nat.le_of_ble_eq_true rfl) ⟨Nat.le_of_ble_eq_true rfl, Nat.le_of_ble_eq_true rfl⟩ ⟨Nat.le_of_ble_eq_true rfl, Nat.le_of_ble_eq_true rfl⟩ (fun _ => ?_)
  dsimp only [Option.toList, List.append, List.nil_append, List.cons_append, Nat.add_zero, Nat.reduceAdd]
  refine x_if_eq (pc := 5) O 22 dX8_pay_5 (by decide) (fun c5 => ?_) (fun c5 => ?_)
  · refine x_iconst (v := (-1)) (pc := 22) O dX8_pay_22 (by decide) ?_
    have hc9 : ¬ (isP i p ∧ 1 ≤ x ∧ x ≤ a 14 p.toNatClampNeg) := (fun q => b2i_z c5 q.1)
    refine x_ret (v := some (.int _)) (pc := 23) O dX8_pay_23 rfl rfl ⟨Nat.le_refl _, Nat.le_refl _, (), congrArg (fun z => some (Value.int z)) (if_neg hc9).symm, fun h hh => ?_⟩
    (try simp only [if_neg hc9]); exact hh
  · have hp := in_nat hm (by omega) (b2i_n0 c5)
    refine x_iload_n (pc := 8) O dX8_pay_8 rfl ?_
    refine x_iconst (v := 1) (pc := 9) O dX8_pay_9 (by decide) ?_
    refine x_aload_n (pc := 10) O dX8_pay_10 rfl rfl ?_
    refine v_get (pc := 11) O dX8_pay_11 fdX8_25 rfl rfl ?_
    refine x_iload_n (pc := 14) O dX8_pay_14 rfl ?_
    refine v_ald (k := 14) (pc := 15) O dX8_pay_15 rfl rfl rfl hp.1 (by show _ < 60; omega) ?_
    refine x_callS (pc := 16) (rest := _) O (c_X8_in l E _ _ _ _) dX8_pay_16 cbX8_103 sm_yX8_in rfl rfl (Nat.le_of_ble_eq_true rfl) ⟨Nat.le_of_ble_eq_true rfl, Nat.le_of_ble_eq_true rfl⟩ ⟨Nat.le_of_ble_eq_true rfl, Nat.le_of_ble_eq_true rfl⟩ (fun _ => ?_)
    dsimp only [Option.toList, List.append, List.nil_append, List.cons_append, Nat.add_zero, Nat.reduceAdd]
    refine x_if_ne (pc := 19) O 24 dX8_pay_19 (by decide) (fun c19 => ?_) (fun c19 => ?_)
    · refine x_aload_n (pc := 24) O dX8_pay_24 rfl rfl ?_
      refine v_get (pc := 25) O dX8_pay_25 fdX8_25 rfl rfl ?_
      refine x_iload_n (pc := 28) O dX8_pay_28 rfl ?_
      refine x_dup2 (pc := 29) O dX8_pay_29 rfl rfl ?_
      refine v_ald (k := 14) (pc := 30) O dX8_pay_30 rfl rfl rfl hp.1 (by show _ < 60; omega) ?_
      refine x_iload_n (pc := 31) O dX8_pay_31 rfl ?_
      refine x_isub (pc := 32) O dX8_pay_32 ?_
      refine v_ast (k := 14) (pc := 33) O dX8_pay_33 rfl rfl rfl hp.1 (by show _ < 60; omega) ?_
      refine x_aload_n (pc := 34) O dX8_pay_34 rfl rfl ?_
      refine x_dup (pc := 35) O dX8_pay_35 rfl ?_
      refine v_get (pc := 36) O dX8_pay_36 fdX8_206 rfl rfl ?_
      refine x_iload_n (pc := 39) O dX8_pay_39 rfl ?_
      refine x_iadd (pc := 40) O dX8_pay_40 ?_
      refine v_put (pc := 41) O dX8_pay_41 fpX8_206 rfl rfl ?_
      refine x_aload_n (pc := 44) O dX8_pay_44 rfl rfl ?_
      refine v_get (pc := 45) O dX8_pay_45 fdX8_25 rfl rfl ?_
      refine x_iload_n (pc := 48) O dX8_pay_48 rfl ?_
      refine v_aldv (k := 14) (v := a 14 p.toNatClampNeg - x) (pc := 49) O dX8_pay_49 rfl rfl rfl hp.1 (by show _ < 60; omega) (by simp [up2, upd]) ?_
      have hc9 : isP i p ∧ 1 ≤ x ∧ x ≤ a 14 p.toNatClampNeg := ⟨b2i_n0 c5, b2i_n0 c19⟩
      refine x_ret (v := some (.int _)) (pc := 50) O dX8_pay_50 rfl rfl ⟨Nat.le_refl _, Nat.le_refl _, (), congrArg (fun z => some (Value.int z)) (if_pos hc9).symm, fun h hh => ?_⟩
      (try simp only [if_pos hc9]); exact hh
    · refine x_iconst (v := (-1)) (pc := 22) O dX8_pay_22 (by decide) ?_
      have hc9 : ¬ (isP i p ∧ 1 ≤ x ∧ x ≤ a 14 p.toNatClampNeg) := (fun q => b2i_z c19 q.2)
      refine x_ret (v := some (.int _)) (pc := 23) O dX8_pay_23 rfl rfl ⟨Nat.le_refl _, Nat.le_refl _, (), congrArg (fun z => some (Value.int z)) (if_neg hc9).symm, fun h hh => ?_⟩
      (try simp only [if_neg hc9]); exact hh
def rem (x y : Int32) : Int32 := x - x / y * y
set_option maxRecDepth 100000 in
set_option maxHeartbeats 4000000 in
theorem c_X8_custom (l : Launch) (E : En) (o : Nat) (d : Nat → Nat) (i : Nat → Int32) (a : Nat → Nat → Int32) (ch : Nat → List Rt) (what dues : Int32)  : Mt l E yX8_custom cX8_custom 7 (some .int) (rmX 1 22 0 0) [.ref o, .int what, .int dues] (RV E o d i a ch) (fun _ : Unit => some (.int (if what < 0 ∨ ¬ rem what 10 = 0 ∨ 2 < what / 100000 ∨ 12 < rem (what / 1000) 100 ∨ 3 < rem (what / 100) 10 ∨ 3 < rem (what / 10) 10 ∨ ¬ (0 ≤ dues ∧ dues ≤ 999999) then -1 else i 7 + 1))) (fun _ => RV E o d (if what < 0 ∨ ¬ rem what 10 = 0 ∨ 2 < what / 100000 ∨ 12 < rem (what / 1000) 100 ∨ 3 < rem (what / 100) 10 ∨ 3 < rem (what / 10) 10 ∨ ¬ (0 ≤ dues ∧ dues ≤ 999999) then i else upd (upd (upd (upd (upd (upd (upd (upd i 0 (what / 100000)) 1 (rem (what / 1000) 100)) 5 (rem (what / 100) 10)) 6 (rem (what / 10) 10)) 2 (dues / 10000)) 3 (rem (dues / 100) 100)) 4 (rem dues 100)) 7 (i 7 + 1)) a ch) := by
  refine Mt_of (by decide +kernel) (Nat.le_of_ble_eq_true rfl) (fun J O => ?_)
  show J _ 0 0 0 [some (.ref o), some (.int what), some (.int dues), none, none, none, none] []
  refine x_iload_n (pc := 0) O dX8_custom_0 rfl ?_
  refine x_ldc (pc := 1) O dX8_custom_1 cnX8_128 ?_
  refine x_idiv (pc := 3) O dX8_custom_3 (by decide) ?_
  refine x_istore_n (pc := 4) O dX8_custom_4 (by decide) rfl ?_
  refine x_iload_n (pc := 5) O dX8_custom_5 rfl ?_
  refine x_sipush (v := 1000) (pc := 6) O dX8_custom_6 (by decide) ?_
  refine x_idiv (pc := 9) O dX8_custom_9 (by decide) ?_
  refine x_bipush (v := 100) (pc := 10) O dX8_custom_10 (by decide) ?_
  refine x_irem (pc := 12) O dX8_custom_12 (by decide) ?_
  refine x_istore (pc := 13) O dX8_custom_13 (by decide) rfl ?_
  refine x_iload_n (pc := 15) O dX8_custom_15 rfl ?_
  refine x_bipush (v := 100) (pc := 16) O dX8_custom_16 (by decide) ?_
  refine x_idiv (pc := 18) O dX8_custom_18 (by decide) ?_
  refine x_bipush (v := 10) (pc := 19) O dX8_custom_19 (by decide) ?_
  refine x_irem (pc := 21) O dX8_custom_21 (by decide) ?_
  refine x_istore (pc := 22) O dX8_custom_22 (by decide) rfl ?_
  refine x_iload_n (pc := 24) O dX8_custom_24 rfl ?_
  refine x_bipush (v := 10) (pc := 25) O dX8_custom_25 (by decide) ?_
  refine x_idiv (pc := 27) O dX8_custom_27 (by decide) ?_
  refine x_bipush (v := 10) (pc := 28) O dX8_custom_28 (by decide) ?_
  refine x_irem (pc := 30) O dX8_custom_30 (by decide) ?_
  refine x_istore (pc := 31) O dX8_custom_31 (by decide) rfl ?_
  refine x_iload_n (pc := 33) O dX8_custom_33 rfl ?_
  refine x_if_lt (pc := 34) O 78 dX8_custom_34 (by decide) (fun c34 => ?_) (fun c34 => ?_)
  · refine x_iconst (v := (-1)) (pc := 78) O dX8_custom_78 (by decide) ?_
    have hc9 : what < 0 ∨ ¬ rem what 10 = 0 ∨ 2 < what / 100000 ∨ 12 < rem (what / 1000) 100 ∨ 3 < rem (what / 100) 10 ∨ 3 < rem (what / 10) 10 ∨ ¬ (0 ≤ dues ∧ dues ≤ 999999) := Or.inl c34
    refine x_ret (v := some (.int _)) (pc := 79) O dX8_custom_79 rfl rfl ⟨Nat.le_refl _, Nat.le_refl _, (), congrArg (fun z => some (Value.int z)) (if_pos hc9).symm, fun h hh => ?_⟩
    (try simp only [if_pos hc9]); exact hh
  · refine x_iload_n (pc := 37) O dX8_custom_37 rfl ?_
    refine x_bipush (v := 10) (pc := 38) O dX8_custom_38 (by decide) ?_
    refine x_irem (pc := 40) O dX8_custom_40 (by decide) ?_
    refine x_if_ne (pc := 41) O 78 dX8_custom_41 (by decide) (fun c41 => ?_) (fun c41 => ?_)
    · refine x_iconst (v := (-1)) (pc := 78) O dX8_custom_78 (by decide) ?_
      have hc9 : what < 0 ∨ ¬ rem what 10 = 0 ∨ 2 < what / 100000 ∨ 12 < rem (what / 1000) 100 ∨ 3 < rem (what / 100) 10 ∨ 3 < rem (what / 10) 10 ∨ ¬ (0 ≤ dues ∧ dues ≤ 999999) := Or.inr (Or.inl c41)
      refine x_ret (v := some (.int _)) (pc := 79) O dX8_custom_79 rfl rfl ⟨Nat.le_refl _, Nat.le_refl _, (), congrArg (fun z => some (Value.int z)) (if_pos hc9).symm, fun h hh => ?_⟩
      (try simp only [if_pos hc9]); exact hh
    · refine x_iload_n (pc := 44) O dX8_custom_44 rfl ?_
      refine x_iconst (v := 2) (pc := 45) O dX8_custom_45 (by decide) ?_
      refine x_icmp_gt (pc := 46) O 78 dX8_custom_46 (by decide) (fun c46 => ?_) (fun c46 => ?_)
      · refine x_iconst (v := (-1)) (pc := 78) O dX8_custom_78 (by decide) ?_
        have hc9 : what < 0 ∨ ¬ rem what 10 = 0 ∨ 2 < what / 100000 ∨ 12 < rem (what / 1000) 100 ∨ 3 < rem (what / 100) 10 ∨ 3 < rem (what / 10) 10 ∨ ¬ (0 ≤ dues ∧ dues ≤ 999999) := Or.inr (Or.inr (Or.inl c46))
        refine x_ret (v := some (.int _)) (pc := 79) O dX8_custom_79 rfl rfl ⟨Nat.le_refl _, Nat.le_refl _, (), congrArg (fun z => some (Value.int z)) (if_pos hc9).symm, fun h hh => ?_⟩
        (try simp only [if_pos hc9]); exact hh
      · refine x_iload (pc := 49) O dX8_custom_49 rfl ?_
        refine x_bipush (v := 12) (pc := 51) O dX8_custom_51 (by decide) ?_
        refine x_icmp_gt (pc := 53) O 78 dX8_custom_53 (by decide) (fun c53 => ?_) (fun c53 => ?_)
        · refine x_iconst (v := (-1)) (pc := 78) O dX8_custom_78 (by decide) ?_
          have hc9 : what < 0 ∨ ¬ rem what 10 = 0 ∨ 2 < what / 100000 ∨ 12 < rem (what / 1000) 100 ∨ 3 < rem (what / 100) 10 ∨ 3 < rem (what / 10) 10 ∨ ¬ (0 ≤ dues ∧ dues ≤ 999999) := Or.inr (Or.inr (Or.inr (Or.inl c53)))
          refine x_ret (v := some (.int _)) (pc := 79) O dX8_custom_79 rfl rfl ⟨Nat.le_refl _, Nat.le_refl _, (), congrArg (fun z => some (Value.int z)) (if_pos hc9).symm, fun h hh => ?_⟩
          (try simp only [if_pos hc9]); exact hh
        · refine x_iload (pc := 56) O dX8_custom_56 rfl ?_
          refine x_iconst (v := 3) (pc := 58) O dX8_custom_58 (by decide) ?_
          refine x_icmp_gt (pc := 59) O 78 dX8_custom_59 (by decide) (fun c59 => ?_) (fun c59 => ?_)
          · refine x_iconst (v := (-1)) (pc := 78) O dX8_custom_78 (by decide) ?_
            have hc9 : what < 0 ∨ ¬ rem what 10 = 0 ∨ 2 < what / 100000 ∨ 12 < rem (what / 1000) 100 ∨ 3 < rem (what / 100) 10 ∨ 3 < rem (what / 10) 10 ∨ ¬ (0 ≤ dues ∧ dues ≤ 999999) := Or.inr (Or.inr (Or.inr (Or.inr (Or.inl c59))))
            refine x_ret (v := some (.int _)) (pc := 79) O dX8_custom_79 rfl rfl ⟨Nat.le_refl _, Nat.le_refl _, (), congrArg (fun z => some (Value.int z)) (if_pos hc9).symm, fun h hh => ?_⟩
            (try simp only [if_pos hc9]); exact hh
          · refine x_iload (pc := 62) O dX8_custom_62 rfl ?_
            refine x_iconst (v := 3) (pc := 64) O dX8_custom_64 (by decide) ?_
            refine x_icmp_gt (pc := 65) O 78 dX8_custom_65 (by decide) (fun c65 => ?_) (fun c65 => ?_)
            · refine x_iconst (v := (-1)) (pc := 78) O dX8_custom_78 (by decide) ?_
              have hc9 : what < 0 ∨ ¬ rem what 10 = 0 ∨ 2 < what / 100000 ∨ 12 < rem (what / 1000) 100 ∨ 3 < rem (what / 100) 10 ∨ 3 < rem (what / 10) 10 ∨ ¬ (0 ≤ dues ∧ dues ≤ 999999) := Or.inr (Or.inr (Or.inr (Or.inr (Or.inr (Or.inl c65)))))
              refine x_ret (v := some (.int _)) (pc := 79) O dX8_custom_79 rfl rfl ⟨Nat.le_refl _, Nat.le_refl _, (), congrArg (fun z => some (Value.int z)) (if_pos hc9).symm, fun h hh => ?_⟩
              (try simp only [if_pos hc9]); exact hh
            · refine x_iload_n (pc := 68) O dX8_custom_68 rfl ?_
              refine x_iconst (v := 0) (pc := 69) O dX8_custom_69 (by decide) ?_
              refine x_ldc (pc := 70) O dX8_custom_70 cnX8_129 ?_
              refine x_callS (pc := 72) (rest := _) O (c_X8_in l E _ _ _ _) dX8_custom_72 cbX8_103 sm_yX8_in rfl rfl (Nat.le_of_ble_eq_true rfl) ⟨Nat.le_of_ble_eq_true rfl, Nat.le_of_ble_eq_true rfl⟩ ⟨Nat.le_of_ble_eq_true rfl, Nat.le_of_ble_eq_true rfl⟩ (fun _ => ?_)
              dsimp only [Option.toList, List.append, List.nil_append, List.cons_append, Nat.add_zero, Nat.reduceAdd]
              refine x_if_ne (pc := 75) O 80 dX8_custom_75 (by decide) (fun c75 => ?_) (fun c75 => ?_)
              · refine x_aload_n (pc := 80) O dX8_custom_80 rfl rfl ?_
                refine x_iload_n (pc := 81) O dX8_custom_81 rfl ?_
                refine v_put (pc := 82) O dX8_custom_82 fpX8_130 rfl rfl ?_
                refine x_aload_n (pc := 85) O dX8_custom_85 rfl rfl ?_
                refine x_iload (pc := 86) O dX8_custom_86 rfl ?_
                refine v_put (pc := 88) O dX8_custom_88 fpX8_133 rfl rfl ?_
                refine x_aload_n (pc := 91) O dX8_custom_91 rfl rfl ?_
                refine x_iload (pc := 92) O dX8_custom_92 rfl ?_
                refine v_put (pc := 94) O dX8_custom_94 fpX8_136 rfl rfl ?_
                refine x_aload_n (pc := 97) O dX8_custom_97 rfl rfl ?_
                refine x_iload (pc := 98) O dX8_custom_98 rfl ?_
                refine v_put (pc := 100) O dX8_custom_100 fpX8_139 rfl rfl ?_
                refine x_aload_n (pc := 103) O dX8_custom_103 rfl rfl ?_
                refine x_iload_n (pc := 104) O dX8_custom_104 rfl ?_
                refine x_sipush (v := 10000) (pc := 105) O dX8_custom_105 (by decide) ?_
                refine x_idiv (pc := 108) O dX8_custom_108 (by decide) ?_
                refine v_put (pc := 109) O dX8_custom_109 fpX8_142 rfl rfl ?_
                refine x_aload_n (pc := 112) O dX8_custom_112 rfl rfl ?_
                refine x_iload_n (pc := 113) O dX8_custom_113 rfl ?_
                refine x_bipush (v := 100) (pc := 114) O dX8_custom_114 (by decide) ?_
                refine x_idiv (pc := 116) O dX8_custom_116 (by decide) ?_
                refine x_bipush (v := 100) (pc := 117) O dX8_custom_117 (by decide) ?_
                refine x_irem (pc := 119) O dX8_custom_119 (by decide) ?_
                refine v_put (pc := 120) O dX8_custom_120 fpX8_145 rfl rfl ?_
                refine x_aload_n (pc := 123) O dX8_custom_123 rfl rfl ?_
                refine x_iload_n (pc := 124) O dX8_custom_124 rfl ?_
                refine x_bipush (v := 100) (pc := 125) O dX8_custom_125 (by decide) ?_
                refine x_irem (pc := 127) O dX8_custom_127 (by decide) ?_
                refine v_put (pc := 128) O dX8_custom_128 fpX8_148 rfl rfl ?_
                refine x_aload_n (pc := 131) O dX8_custom_131 rfl rfl ?_
                refine x_dup (pc := 132) O dX8_custom_132 rfl ?_
                refine v_get (pc := 133) O dX8_custom_133 fdX8_151 rfl rfl ?_
                refine x_iconst (v := 1) (pc := 136) O dX8_custom_136 (by decide) ?_
                refine x_iadd (pc := 137) O dX8_custom_137 ?_
                refine v_put (pc := 138) O dX8_custom_138 fpX8_151 rfl rfl ?_
                refine x_aload_n (pc := 141) O dX8_custom_141 rfl rfl ?_
                refine v_get (pc := 142) O dX8_custom_142 fdX8_151 rfl rfl ?_
                have hc9 : ¬ (what < 0 ∨ ¬ rem what 10 = 0 ∨ 2 < what / 100000 ∨ 12 < rem (what / 1000) 100 ∨ 3 < rem (what / 100) 10 ∨ 3 < rem (what / 10) 10 ∨ ¬ (0 ≤ dues ∧ dues ≤ 999999)) := fun q => by rcases q with q | q | q | q | q | q | q <;> first | exact c34 q | exact q c41 | exact c46 q | exact c53 q | exact c59 q | exact c65 q | exact q (b2i_n0 c75)
                refine x_ret (v := some (.int _)) (pc := 145) O dX8_custom_145 rfl rfl ⟨Nat.le_refl _, Nat.le_refl _, (), congrArg (fun z => some (Value.int z)) (if_neg hc9).symm, fun h hh => ?_⟩
                (try simp only [if_neg hc9]); exact hh
              · refine x_iconst (v := (-1)) (pc := 78) O dX8_custom_78 (by decide) ?_
                have hc9 : what < 0 ∨ ¬ rem what 10 = 0 ∨ 2 < what / 100000 ∨ 12 < rem (what / 1000) 100 ∨ 3 < rem (what / 100) 10 ∨ 3 < rem (what / 10) 10 ∨ ¬ (0 ≤ dues ∧ dues ≤ 999999) := Or.inr (Or.inr (Or.inr (Or.inr (Or.inr (Or.inr (b2i_z c75))))))
                refine x_ret (v := some (.int _)) (pc := 79) O dX8_custom_79 rfl rfl ⟨Nat.le_refl _, Nat.le_refl _, (), congrArg (fun z => some (Value.int z)) (if_pos hc9).symm, fun h hh => ?_⟩
                (try simp only [if_pos hc9]); exact hh
set_option maxRecDepth 100000 in
set_option maxHeartbeats 4000000 in
theorem c_X8_person (l : Launch) (E : En) (o : Nat) (d : Nat → Nat) (i : Nat → Int32) (a : Nat → Nat → Int32) (ch : Nat → List Rt) (sx f g : Int32) {m : Nat} (hm : i 22 = nI m) (h60 : m ≤ 60) : Mt l E yX8_person cX8_person 4 (some .int) (rmX 2 43 0 0) [.ref o, .int sx, .int f, .int g] (RV E o d i a ch) (fun _ : Unit => some (.int (if (0 ≤ sx ∧ sx ≤ 1) ∧ (f = -1 ∨ isP i f ∧ a 9 f.toNatClampNeg = 0) ∧ (g = -1 ∨ isP i g ∧ a 9 g.toNatClampNeg = 1) ∧ ¬ i 22 = 60 then i 22 else -1))) (fun _ => RV E o d (if (0 ≤ sx ∧ sx ≤ 1) ∧ (f = -1 ∨ isP i f ∧ a 9 f.toNatClampNeg = 0) ∧ (g = -1 ∨ isP i g ∧ a 9 g.toNatClampNeg = 1) ∧ ¬ i 22 = 60 then upd i 22 (i 22 + 1) else i) (if (0 ≤ sx ∧ sx ≤ 1) ∧ (f = -1 ∨ isP i f ∧ a 9 f.toNatClampNeg = 0) ∧ (g = -1 ∨ isP i g ∧ a 9 g.toNatClampNeg = 1) ∧ ¬ i 22 = 60 then up2 (up2 (up2 (up2 (up2 (up2 a 9 m sx) 10 m f) 11 m g) 12 m (-1)) 13 m (i 8)) 20 m 1 else a) ch) := by
  refine Mt_of (by decide +kernel) (Nat.le_of_ble_eq_true rfl) (fun J O => ?_)
  show J _ 0 0 0 [some (.ref o), some (.int sx), some (.int f), some (.int g)] []
  refine x_iload_n (pc := 0) O dX8_person_0 rfl ?_
  refine x_iconst (v := 0) (pc := 1) O dX8_person_1 (by decide) ?_
  refine x_iconst (v := 1) (pc := 2) O dX8_person_2 (by decide) ?_
  refine x_callS (pc := 3) (rest := _) O (c_X8_in l E _ _ _ _) dX8_person_3 cbX8_103 sm_yX8_in rfl rfl (Nat.le_of_ble_eq_true rfl) ⟨Nat.le_of_ble_eq_true rfl, Nat.le_of_ble_eq_true rfl⟩ ⟨Nat.le_of_ble_eq_true rfl, Nat.le_of_ble_eq_true rfl⟩ (fun _ => ?_)
  dsimp only [Option.toList, List.append, List.nil_append, List.cons_append, Nat.add_zero, Nat.reduceAdd]
  refine x_if_eq (pc := 6) O 63 dX8_person_6 (by decide) (fun c6 => ?_) (fun c6 => ?_)
  · refine x_iconst (v := (-1)) (pc := 63) O dX8_person_63 (by decide) ?_
    have hc9 : ¬ ((0 ≤ sx ∧ sx ≤ 1) ∧ (f = -1 ∨ isP i f ∧ a 9 f.toNatClampNeg = 0) ∧ (g = -1 ∨ isP i g ∧ a 9 g.toNatClampNeg = 1) ∧ ¬ i 22 = 60) := fun q => b2i_z c6 q.1
    refine x_ret (v := some (.int _)) (pc := 64) O dX8_person_64 rfl rfl ⟨Nat.le_refl _, Nat.le_refl _, (), congrArg (fun z => some (Value.int z)) (if_neg hc9).symm, fun h hh => ?_⟩
    (try simp only [if_neg hc9]); exact hh
  · refine x_iload_n (pc := 9) O dX8_person_9 rfl ?_
    refine x_iconst (v := (-1)) (pc := 10) O dX8_person_10 (by decide) ?_
    refine x_icmp_eq (pc := 11) O 31 dX8_person_11 (by decide) (fun c11 => ?_) (fun c11 => ?_)
    · refine x_iload_n (pc := 31) O dX8_person_31 rfl ?_
      refine x_iconst (v := (-1)) (pc := 32) O dX8_person_32 (by decide) ?_
      refine x_icmp_eq (pc := 33) O 54 dX8_person_33 (by decide) (fun c33 => ?_) (fun c33 => ?_)
      · refine x_aload_n (pc := 54) O dX8_person_54 rfl rfl ?_
        refine v_get (pc := 55) O dX8_person_55 fdX8_99 rfl rfl ?_
        refine x_bipush (v := 60) (pc := 58) O dX8_person_58 (by decide) ?_
        refine x_icmp_ne (pc := 60) O 65 dX8_person_60 (by decide) (fun c60 => ?_) (fun c60 => ?_)
        · have hm60 : m < 60 := by
            rcases Nat.lt_or_ge m 60 with q | q
            · exact q
            · exact absurd (by rw [hm, show m = 60 by omega]; rfl) c60
          refine x_aload_n (pc := 65) O dX8_person_65 rfl rfl ?_
          refine v_get (pc := 66) O dX8_person_66 fdX8_9 rfl rfl ?_
          refine x_aload_n (pc := 69) O dX8_person_69 rfl rfl ?_
          refine v_get (pc := 70) O dX8_person_70 fdX8_99 rfl rfl ?_
          refine x_iload_n (pc := 73) O dX8_person_73 rfl ?_
          refine v_ast (k := 9) (pc := 74) O dX8_person_74 rfl rfl rfl hm (by show _ < 60; omega) ?_
          refine x_aload_n (pc := 75) O dX8_person_75 rfl rfl ?_
          refine v_get (pc := 76) O dX8_person_76 fdX8_13 rfl rfl ?_
          refine x_aload_n (pc := 79) O dX8_person_79 rfl rfl ?_
          refine v_get (pc := 80) O dX8_person_80 fdX8_99 rfl rfl ?_
          refine x_iload_n (pc := 83) O dX8_person_83 rfl ?_
          refine v_ast (k := 10) (pc := 84) O dX8_person_84 rfl rfl rfl hm (by show _ < 60; omega) ?_
          refine x_aload_n (pc := 85) O dX8_person_85 rfl rfl ?_
          refine v_get (pc := 86) O dX8_person_86 fdX8_16 rfl rfl ?_
          refine x_aload_n (pc := 89) O dX8_person_89 rfl rfl ?_
          refine v_get (pc := 90) O dX8_person_90 fdX8_99 rfl rfl ?_
          refine x_iload_n (pc := 93) O dX8_person_93 rfl ?_
          refine v_ast (k := 11) (pc := 94) O dX8_person_94 rfl rfl rfl hm (by show _ < 60; omega) ?_
          refine x_aload_n (pc := 95) O dX8_person_95 rfl rfl ?_
          refine v_get (pc := 96) O dX8_person_96 fdX8_19 rfl rfl ?_
          refine x_aload_n (pc := 99) O dX8_person_99 rfl rfl ?_
          refine v_get (pc := 100) O dX8_person_100 fdX8_99 rfl rfl ?_
          refine x_iconst (v := (-1)) (pc := 103) O dX8_person_103 (by decide) ?_
          refine v_ast (k := 12) (pc := 104) O dX8_person_104 rfl rfl rfl hm (by show _ < 60; omega) ?_
          refine x_aload_n (pc := 105) O dX8_person_105 rfl rfl ?_
          refine v_get (pc := 106) O dX8_person_106 fdX8_22 rfl rfl ?_
          refine x_aload_n (pc := 109) O dX8_person_109 rfl rfl ?_
          refine v_get (pc := 110) O dX8_person_110 fdX8_99 rfl rfl ?_
          refine x_aload_n (pc := 113) O dX8_person_113 rfl rfl ?_
          refine v_get (pc := 114) O dX8_person_114 fdX8_118 rfl rfl ?_
          refine v_ast (k := 13) (pc := 117) O dX8_person_117 rfl rfl rfl hm (by show _ < 60; omega) ?_
          refine x_aload_n (pc := 118) O dX8_person_118 rfl rfl ?_
          refine v_get (pc := 119) O dX8_person_119 fdX8_43 rfl rfl ?_
          refine x_aload_n (pc := 122) O dX8_person_122 rfl rfl ?_
          refine v_get (pc := 123) O dX8_person_123 fdX8_99 rfl rfl ?_
          refine x_iconst (v := 1) (pc := 126) O dX8_person_126 (by decide) ?_
          refine v_zst (k := 20) (pc := 127) O dX8_person_127 rfl hm (by omega) rfl ?_
          refine x_aload_n (pc := 128) O dX8_person_128 rfl rfl ?_
          refine x_dup (pc := 129) O dX8_person_129 rfl ?_
          refine v_get (pc := 130) O dX8_person_130 fdX8_99 rfl rfl ?_
          refine x_iconst (v := 1) (pc := 133) O dX8_person_133 (by decide) ?_
          refine x_iadd (pc := 134) O dX8_person_134 ?_
          refine v_put (pc := 135) O dX8_person_135 fpX8_99 rfl rfl ?_
          refine x_aload_n (pc := 138) O dX8_person_138 rfl rfl ?_
          refine v_get (pc := 139) O dX8_person_139 fdX8_99 rfl rfl ?_
          rw [upd_eq]
          refine x_iconst (v := 1) (pc := 142) O dX8_person_142 (by decide) ?_
          refine x_isub (pc := 143) O dX8_person_143 ?_
          rw [show i 22 + 1 - 1 = i 22 by rw [hm, show nI m + 1 = nI (m + 1) from (nI_succ m).symm, show (1 : Int32) = 1 from rfl, nI_pred]]
          have hc9 : (0 ≤ sx ∧ sx ≤ 1) ∧ (f = -1 ∨ isP i f ∧ a 9 f.toNatClampNeg = 0) ∧ (g = -1 ∨ isP i g ∧ a 9 g.toNatClampNeg = 1) ∧ ¬ i 22 = 60 := ⟨b2i_n0 c6, Or.inl c11, Or.inl c33, c60⟩
          refine x_ret (v := some (.int _)) (pc := 144) O dX8_person_144 rfl rfl ⟨Nat.le_refl _, Nat.le_refl _, (), congrArg (fun z => some (Value.int z)) (if_pos hc9).symm, fun h hh => ?_⟩
          (try simp only [if_pos hc9]); exact hh
        · refine x_iconst (v := (-1)) (pc := 63) O dX8_person_63 (by decide) ?_
          have hc9 : ¬ ((0 ≤ sx ∧ sx ≤ 1) ∧ (f = -1 ∨ isP i f ∧ a 9 f.toNatClampNeg = 0) ∧ (g = -1 ∨ isP i g ∧ a 9 g.toNatClampNeg = 1) ∧ ¬ i 22 = 60) := fun q => q.2.2.2 c60
          refine x_ret (v := some (.int _)) (pc := 64) O dX8_person_64 rfl rfl ⟨Nat.le_refl _, Nat.le_refl _, (), congrArg (fun z => some (Value.int z)) (if_neg hc9).symm, fun h hh => ?_⟩
          (try simp only [if_neg hc9]); exact hh
      · refine x_aload_n (pc := 36) O dX8_person_36 rfl rfl ?_
        refine x_iload_n (pc := 37) O dX8_person_37 rfl ?_
        refine x_callV (pc := 38) (rest := _) (ci := 8) O (c_X8_isPerson l E _ _ _ _ _ _) dX8_person_38 cbX8_107 im_yX8_isPerson se_yX8_isPerson rfl v_recv rfl rfl (Nat.le_of_ble_eq_true rfl) ⟨Nat.le_of_ble_eq_true rfl, Nat.le_of_ble_eq_true rfl⟩ ⟨Nat.le_of_ble_eq_true rfl, Nat.le_of_ble_eq_true rfl⟩ (fun _ => ?_)
        dsimp only [Option.toList, List.append, List.nil_append, List.cons_append, Nat.add_zero, Nat.reduceAdd]
        refine x_if_eq (pc := 41) O 63 dX8_person_41 (by decide) (fun c41 => ?_) (fun c41 => ?_)
        · refine x_iconst (v := (-1)) (pc := 63) O dX8_person_63 (by decide) ?_
          have hc9 : ¬ ((0 ≤ sx ∧ sx ≤ 1) ∧ (f = -1 ∨ isP i f ∧ a 9 f.toNatClampNeg = 0) ∧ (g = -1 ∨ isP i g ∧ a 9 g.toNatClampNeg = 1) ∧ ¬ i 22 = 60) := fun q => q.2.2.1.elim c33 (fun z => b2i_z c41 z.1)
          refine x_ret (v := some (.int _)) (pc := 64) O dX8_person_64 rfl rfl ⟨Nat.le_refl _, Nat.le_refl _, (), congrArg (fun z => some (Value.int z)) (if_neg hc9).symm, fun h hh => ?_⟩
          (try simp only [if_neg hc9]); exact hh
        · have hg := in_nat hm (by omega) (b2i_n0 c41)
          refine x_aload_n (pc := 44) O dX8_person_44 rfl rfl ?_
          refine v_get (pc := 45) O dX8_person_45 fdX8_9 rfl rfl ?_
          refine x_iload_n (pc := 48) O dX8_person_48 rfl ?_
          refine v_ald (k := 9) (pc := 49) O dX8_person_49 rfl rfl rfl hg.1 (by show _ < 60; omega) ?_
          refine x_iconst (v := 1) (pc := 50) O dX8_person_50 (by decide) ?_
          refine x_icmp_ne (pc := 51) O 63 dX8_person_51 (by decide) (fun c51 => ?_) (fun c51 => ?_)
          · refine x_iconst (v := (-1)) (pc := 63) O dX8_person_63 (by decide) ?_
            have hc9 : ¬ ((0 ≤ sx ∧ sx ≤ 1) ∧ (f = -1 ∨ isP i f ∧ a 9 f.toNatClampNeg = 0) ∧ (g = -1 ∨ isP i g ∧ a 9 g.toNatClampNeg = 1) ∧ ¬ i 22 = 60) := fun q => q.2.2.1.elim c33 (fun z => c51 z.2)
            refine x_ret (v := some (.int _)) (pc := 64) O dX8_person_64 rfl rfl ⟨Nat.le_refl _, Nat.le_refl _, (), congrArg (fun z => some (Value.int z)) (if_neg hc9).symm, fun h hh => ?_⟩
            (try simp only [if_neg hc9]); exact hh
          · refine x_aload_n (pc := 54) O dX8_person_54 rfl rfl ?_
            refine v_get (pc := 55) O dX8_person_55 fdX8_99 rfl rfl ?_
            refine x_bipush (v := 60) (pc := 58) O dX8_person_58 (by decide) ?_
            refine x_icmp_ne (pc := 60) O 65 dX8_person_60 (by decide) (fun c60 => ?_) (fun c60 => ?_)
            · have hm60 : m < 60 := by
                rcases Nat.lt_or_ge m 60 with q | q
                · exact q
                · exact absurd (by rw [hm, show m = 60 by omega]; rfl) c60
              refine x_aload_n (pc := 65) O dX8_person_65 rfl rfl ?_
              refine v_get (pc := 66) O dX8_person_66 fdX8_9 rfl rfl ?_
              refine x_aload_n (pc := 69) O dX8_person_69 rfl rfl ?_
              refine v_get (pc := 70) O dX8_person_70 fdX8_99 rfl rfl ?_
              refine x_iload_n (pc := 73) O dX8_person_73 rfl ?_
              refine v_ast (k := 9) (pc := 74) O dX8_person_74 rfl rfl rfl hm (by show _ < 60; omega) ?_
              refine x_aload_n (pc := 75) O dX8_person_75 rfl rfl ?_
              refine v_get (pc := 76) O dX8_person_76 fdX8_13 rfl rfl ?_
              refine x_aload_n (pc := 79) O dX8_person_79 rfl rfl ?_
              refine v_get (pc := 80) O dX8_person_80 fdX8_99 rfl rfl ?_
              refine x_iload_n (pc := 83) O dX8_person_83 rfl ?_
              refine v_ast (k := 10) (pc := 84) O dX8_person_84 rfl rfl rfl hm (by show _ < 60; omega) ?_
              refine x_aload_n (pc := 85) O dX8_person_85 rfl rfl ?_
              refine v_get (pc := 86) O dX8_person_86 fdX8_16 rfl rfl ?_
              refine x_aload_n (pc := 89) O dX8_person_89 rfl rfl ?_
              refine v_get (pc := 90) O dX8_person_90 fdX8_99 rfl rfl ?_
              refine x_iload_n (pc := 93) O dX8_person_93 rfl ?_
              refine v_ast (k := 11) (pc := 94) O dX8_person_94 rfl rfl rfl hm (by show _ < 60; omega) ?_
              refine x_aload_n (pc := 95) O dX8_person_95 rfl rfl ?_
              refine v_get (pc := 96) O dX8_person_96 fdX8_19 rfl rfl ?_
              refine x_aload_n (pc := 99) O dX8_person_99 rfl rfl ?_
              refine v_get (pc := 100) O dX8_person_100 fdX8_99 rfl rfl ?_
              refine x_iconst (v := (-1)) (pc := 103) O dX8_person_103 (by decide) ?_
              refine v_ast (k := 12) (pc := 104) O dX8_person_104 rfl rfl rfl hm (by show _ < 60; omega) ?_
              refine x_aload_n (pc := 105) O dX8_person_105 rfl rfl ?_
              refine v_get (pc := 106) O dX8_person_106 fdX8_22 rfl rfl ?_
              refine x_aload_n (pc := 109) O dX8_person_109 rfl rfl ?_
              refine v_get (pc := 110) O dX8_person_110 fdX8_99 rfl rfl ?_
              refine x_aload_n (pc := 113) O dX8_person_113 rfl rfl ?_
              refine v_get (pc := 114) O dX8_person_114 fdX8_118 rfl rfl ?_
              refine v_ast (k := 13) (pc := 117) O dX8_person_117 rfl rfl rfl hm (by show _ < 60; omega) ?_
              refine x_aload_n (pc := 118) O dX8_person_118 rfl rfl ?_
              refine v_get (pc := 119) O dX8_person_119 fdX8_43 rfl rfl ?_
              refine x_aload_n (pc := 122) O dX8_person_122 rfl rfl ?_
              refine v_get (pc := 123) O dX8_person_123 fdX8_99 rfl rfl ?_
              refine x_iconst (v := 1) (pc := 126) O dX8_person_126 (by decide) ?_
              refine v_zst (k := 20) (pc := 127) O dX8_person_127 rfl hm (by omega) rfl ?_
              refine x_aload_n (pc := 128) O dX8_person_128 rfl rfl ?_
              refine x_dup (pc := 129) O dX8_person_129 rfl ?_
              refine v_get (pc := 130) O dX8_person_130 fdX8_99 rfl rfl ?_
              refine x_iconst (v := 1) (pc := 133) O dX8_person_133 (by decide) ?_
              refine x_iadd (pc := 134) O dX8_person_134 ?_
              refine v_put (pc := 135) O dX8_person_135 fpX8_99 rfl rfl ?_
              refine x_aload_n (pc := 138) O dX8_person_138 rfl rfl ?_
              refine v_get (pc := 139) O dX8_person_139 fdX8_99 rfl rfl ?_
              rw [upd_eq]
              refine x_iconst (v := 1) (pc := 142) O dX8_person_142 (by decide) ?_
              refine x_isub (pc := 143) O dX8_person_143 ?_
              rw [show i 22 + 1 - 1 = i 22 by rw [hm, show nI m + 1 = nI (m + 1) from (nI_succ m).symm, show (1 : Int32) = 1 from rfl, nI_pred]]
              have hc9 : (0 ≤ sx ∧ sx ≤ 1) ∧ (f = -1 ∨ isP i f ∧ a 9 f.toNatClampNeg = 0) ∧ (g = -1 ∨ isP i g ∧ a 9 g.toNatClampNeg = 1) ∧ ¬ i 22 = 60 := ⟨b2i_n0 c6, Or.inl c11, Or.inr ⟨b2i_n0 c41, c51⟩, c60⟩
              refine x_ret (v := some (.int _)) (pc := 144) O dX8_person_144 rfl rfl ⟨Nat.le_refl _, Nat.le_refl _, (), congrArg (fun z => some (Value.int z)) (if_pos hc9).symm, fun h hh => ?_⟩
              (try simp only [if_pos hc9]); exact hh
            · refine x_iconst (v := (-1)) (pc := 63) O dX8_person_63 (by decide) ?_
              have hc9 : ¬ ((0 ≤ sx ∧ sx ≤ 1) ∧ (f = -1 ∨ isP i f ∧ a 9 f.toNatClampNeg = 0) ∧ (g = -1 ∨ isP i g ∧ a 9 g.toNatClampNeg = 1) ∧ ¬ i 22 = 60) := fun q => q.2.2.2 c60
              refine x_ret (v := some (.int _)) (pc := 64) O dX8_person_64 rfl rfl ⟨Nat.le_refl _, Nat.le_refl _, (), congrArg (fun z => some (Value.int z)) (if_neg hc9).symm, fun h hh => ?_⟩
              (try simp only [if_neg hc9]); exact hh
    · refine x_aload_n (pc := 14) O dX8_person_14 rfl rfl ?_
      refine x_iload_n (pc := 15) O dX8_person_15 rfl ?_
      refine x_callV (pc := 16) (rest := _) (ci := 8) O (c_X8_isPerson l E _ _ _ _ _ _) dX8_person_16 cbX8_107 im_yX8_isPerson se_yX8_isPerson rfl v_recv rfl rfl (Nat.le_of_ble_eq_true rfl) ⟨Nat.le_of_ble_eq_true rfl, Nat.le_of_ble_eq_true rfl⟩ ⟨Nat.le_of_ble_eq_true rfl, Nat.le_of_ble_eq_true rfl⟩ (fun _ => ?_)
      dsimp only [Option.toList, List.append, List.nil_append, List.cons_append, Nat.add_zero, Nat.reduceAdd]
      refine x_if_eq (pc := 19) O 63 dX8_person_19 (by decide) (fun c19 => ?_) (fun c19 => ?_)
      · refine x_iconst (v := (-1)) (pc := 63) O dX8_person_63 (by decide) ?_
        have hc9 : ¬ ((0 ≤ sx ∧ sx ≤ 1) ∧ (f = -1 ∨ isP i f ∧ a 9 f.toNatClampNeg = 0) ∧ (g = -1 ∨ isP i g ∧ a 9 g.toNatClampNeg = 1) ∧ ¬ i 22 = 60) := fun q => q.2.1.elim c11 (fun z => b2i_z c19 z.1)
        refine x_ret (v := some (.int _)) (pc := 64) O dX8_person_64 rfl rfl ⟨Nat.le_refl _, Nat.le_refl _, (), congrArg (fun z => some (Value.int z)) (if_neg hc9).symm, fun h hh => ?_⟩
        (try simp only [if_neg hc9]); exact hh
      · have hf := in_nat hm (by omega) (b2i_n0 c19)
        refine x_aload_n (pc := 22) O dX8_person_22 rfl rfl ?_
        refine v_get (pc := 23) O dX8_person_23 fdX8_9 rfl rfl ?_
        refine x_iload_n (pc := 26) O dX8_person_26 rfl ?_
        refine v_ald (k := 9) (pc := 27) O dX8_person_27 rfl rfl rfl hf.1 (by show _ < 60; omega) ?_
        refine x_if_ne (pc := 28) O 63 dX8_person_28 (by decide) (fun c28 => ?_) (fun c28 => ?_)
        · refine x_iconst (v := (-1)) (pc := 63) O dX8_person_63 (by decide) ?_
          have hc9 : ¬ ((0 ≤ sx ∧ sx ≤ 1) ∧ (f = -1 ∨ isP i f ∧ a 9 f.toNatClampNeg = 0) ∧ (g = -1 ∨ isP i g ∧ a 9 g.toNatClampNeg = 1) ∧ ¬ i 22 = 60) := fun q => q.2.1.elim c11 (fun z => c28 z.2)
          refine x_ret (v := some (.int _)) (pc := 64) O dX8_person_64 rfl rfl ⟨Nat.le_refl _, Nat.le_refl _, (), congrArg (fun z => some (Value.int z)) (if_neg hc9).symm, fun h hh => ?_⟩
          (try simp only [if_neg hc9]); exact hh
        · refine x_iload_n (pc := 31) O dX8_person_31 rfl ?_
          refine x_iconst (v := (-1)) (pc := 32) O dX8_person_32 (by decide) ?_
          refine x_icmp_eq (pc := 33) O 54 dX8_person_33 (by decide) (fun c33 => ?_) (fun c33 => ?_)
          · refine x_aload_n (pc := 54) O dX8_person_54 rfl rfl ?_
            refine v_get (pc := 55) O dX8_person_55 fdX8_99 rfl rfl ?_
            refine x_bipush (v := 60) (pc := 58) O dX8_person_58 (by decide) ?_
            refine x_icmp_ne (pc := 60) O 65 dX8_person_60 (by decide) (fun c60 => ?_) (fun c60 => ?_)
            · have hm60 : m < 60 := by
                rcases Nat.lt_or_ge m 60 with q | q
                · exact q
                · exact absurd (by rw [hm, show m = 60 by omega]; rfl) c60
              refine x_aload_n (pc := 65) O dX8_person_65 rfl rfl ?_
              refine v_get (pc := 66) O dX8_person_66 fdX8_9 rfl rfl ?_
              refine x_aload_n (pc := 69) O dX8_person_69 rfl rfl ?_
              refine v_get (pc := 70) O dX8_person_70 fdX8_99 rfl rfl ?_
              refine x_iload_n (pc := 73) O dX8_person_73 rfl ?_
              refine v_ast (k := 9) (pc := 74) O dX8_person_74 rfl rfl rfl hm (by show _ < 60; omega) ?_
              refine x_aload_n (pc := 75) O dX8_person_75 rfl rfl ?_
              refine v_get (pc := 76) O dX8_person_76 fdX8_13 rfl rfl ?_
              refine x_aload_n (pc := 79) O dX8_person_79 rfl rfl ?_
              refine v_get (pc := 80) O dX8_person_80 fdX8_99 rfl rfl ?_
              refine x_iload_n (pc := 83) O dX8_person_83 rfl ?_
              refine v_ast (k := 10) (pc := 84) O dX8_person_84 rfl rfl rfl hm (by show _ < 60; omega) ?_
              refine x_aload_n (pc := 85) O dX8_person_85 rfl rfl ?_
              refine v_get (pc := 86) O dX8_person_86 fdX8_16 rfl rfl ?_
              refine x_aload_n (pc := 89) O dX8_person_89 rfl rfl ?_
              refine v_get (pc := 90) O dX8_person_90 fdX8_99 rfl rfl ?_
              refine x_iload_n (pc := 93) O dX8_person_93 rfl ?_
              refine v_ast (k := 11) (pc := 94) O dX8_person_94 rfl rfl rfl hm (by show _ < 60; omega) ?_
              refine x_aload_n (pc := 95) O dX8_person_95 rfl rfl ?_
              refine v_get (pc := 96) O dX8_person_96 fdX8_19 rfl rfl ?_
              refine x_aload_n (pc := 99) O dX8_person_99 rfl rfl ?_
              refine v_get (pc := 100) O dX8_person_100 fdX8_99 rfl rfl ?_
              refine x_iconst (v := (-1)) (pc := 103) O dX8_person_103 (by decide) ?_
              refine v_ast (k := 12) (pc := 104) O dX8_person_104 rfl rfl rfl hm (by show _ < 60; omega) ?_
              refine x_aload_n (pc := 105) O dX8_person_105 rfl rfl ?_
              refine v_get (pc := 106) O dX8_person_106 fdX8_22 rfl rfl ?_
              refine x_aload_n (pc := 109) O dX8_person_109 rfl rfl ?_
              refine v_get (pc := 110) O dX8_person_110 fdX8_99 rfl rfl ?_
              refine x_aload_n (pc := 113) O dX8_person_113 rfl rfl ?_
              refine v_get (pc := 114) O dX8_person_114 fdX8_118 rfl rfl ?_
              refine v_ast (k := 13) (pc := 117) O dX8_person_117 rfl rfl rfl hm (by show _ < 60; omega) ?_
              refine x_aload_n (pc := 118) O dX8_person_118 rfl rfl ?_
              refine v_get (pc := 119) O dX8_person_119 fdX8_43 rfl rfl ?_
              refine x_aload_n (pc := 122) O dX8_person_122 rfl rfl ?_
              refine v_get (pc := 123) O dX8_person_123 fdX8_99 rfl rfl ?_
              refine x_iconst (v := 1) (pc := 126) O dX8_person_126 (by decide) ?_
              refine v_zst (k := 20) (pc := 127) O dX8_person_127 rfl hm (by omega) rfl ?_
              refine x_aload_n (pc := 128) O dX8_person_128 rfl rfl ?_
              refine x_dup (pc := 129) O dX8_person_129 rfl ?_
              refine v_get (pc := 130) O dX8_person_130 fdX8_99 rfl rfl ?_
              refine x_iconst (v := 1) (pc := 133) O dX8_person_133 (by decide) ?_
              refine x_iadd (pc := 134) O dX8_person_134 ?_
              refine v_put (pc := 135) O dX8_person_135 fpX8_99 rfl rfl ?_
              refine x_aload_n (pc := 138) O dX8_person_138 rfl rfl ?_
              refine v_get (pc := 139) O dX8_person_139 fdX8_99 rfl rfl ?_
              rw [upd_eq]
              refine x_iconst (v := 1) (pc := 142) O dX8_person_142 (by decide) ?_
              refine x_isub (pc := 143) O dX8_person_143 ?_
              rw [show i 22 + 1 - 1 = i 22 by rw [hm, show nI m + 1 = nI (m + 1) from (nI_succ m).symm, show (1 : Int32) = 1 from rfl, nI_pred]]
              have hc9 : (0 ≤ sx ∧ sx ≤ 1) ∧ (f = -1 ∨ isP i f ∧ a 9 f.toNatClampNeg = 0) ∧ (g = -1 ∨ isP i g ∧ a 9 g.toNatClampNeg = 1) ∧ ¬ i 22 = 60 := ⟨b2i_n0 c6, Or.inr ⟨b2i_n0 c19, c28⟩, Or.inl c33, c60⟩
              refine x_ret (v := some (.int _)) (pc := 144) O dX8_person_144 rfl rfl ⟨Nat.le_refl _, Nat.le_refl _, (), congrArg (fun z => some (Value.int z)) (if_pos hc9).symm, fun h hh => ?_⟩
              (try simp only [if_pos hc9]); exact hh
            · refine x_iconst (v := (-1)) (pc := 63) O dX8_person_63 (by decide) ?_
              have hc9 : ¬ ((0 ≤ sx ∧ sx ≤ 1) ∧ (f = -1 ∨ isP i f ∧ a 9 f.toNatClampNeg = 0) ∧ (g = -1 ∨ isP i g ∧ a 9 g.toNatClampNeg = 1) ∧ ¬ i 22 = 60) := fun q => q.2.2.2 c60
              refine x_ret (v := some (.int _)) (pc := 64) O dX8_person_64 rfl rfl ⟨Nat.le_refl _, Nat.le_refl _, (), congrArg (fun z => some (Value.int z)) (if_neg hc9).symm, fun h hh => ?_⟩
              (try simp only [if_neg hc9]); exact hh
          · refine x_aload_n (pc := 36) O dX8_person_36 rfl rfl ?_
            refine x_iload_n (pc := 37) O dX8_person_37 rfl ?_
            refine x_callV (pc := 38) (rest := _) (ci := 8) O (c_X8_isPerson l E _ _ _ _ _ _) dX8_person_38 cbX8_107 im_yX8_isPerson se_yX8_isPerson rfl v_recv rfl rfl (Nat.le_of_ble_eq_true rfl) ⟨Nat.le_of_ble_eq_true rfl, Nat.le_of_ble_eq_true rfl⟩ ⟨Nat.le_of_ble_eq_true rfl, Nat.le_of_ble_eq_true rfl⟩ (fun _ => ?_)
            dsimp only [Option.toList, List.append, List.nil_append, List.cons_append, Nat.add_zero, Nat.reduceAdd]
            refine x_if_eq (pc := 41) O 63 dX8_person_41 (by decide) (fun c41 => ?_) (fun c41 => ?_)
            · refine x_iconst (v := (-1)) (pc := 63) O dX8_person_63 (by decide) ?_
              have hc9 : ¬ ((0 ≤ sx ∧ sx ≤ 1) ∧ (f = -1 ∨ isP i f ∧ a 9 f.toNatClampNeg = 0) ∧ (g = -1 ∨ isP i g ∧ a 9 g.toNatClampNeg = 1) ∧ ¬ i 22 = 60) := fun q => q.2.2.1.elim c33 (fun z => b2i_z c41 z.1)
              refine x_ret (v := some (.int _)) (pc := 64) O dX8_person_64 rfl rfl ⟨Nat.le_refl _, Nat.le_refl _, (), congrArg (fun z => some (Value.int z)) (if_neg hc9).symm, fun h hh => ?_⟩
              (try simp only [if_neg hc9]); exact hh
            · have hg := in_nat hm (by omega) (b2i_n0 c41)
              refine x_aload_n (pc := 44) O dX8_person_44 rfl rfl ?_
              refine v_get (pc := 45) O dX8_person_45 fdX8_9 rfl rfl ?_
              refine x_iload_n (pc := 48) O dX8_person_48 rfl ?_
              refine v_ald (k := 9) (pc := 49) O dX8_person_49 rfl rfl rfl hg.1 (by show _ < 60; omega) ?_
              refine x_iconst (v := 1) (pc := 50) O dX8_person_50 (by decide) ?_
              refine x_icmp_ne (pc := 51) O 63 dX8_person_51 (by decide) (fun c51 => ?_) (fun c51 => ?_)
              · refine x_iconst (v := (-1)) (pc := 63) O dX8_person_63 (by decide) ?_
                have hc9 : ¬ ((0 ≤ sx ∧ sx ≤ 1) ∧ (f = -1 ∨ isP i f ∧ a 9 f.toNatClampNeg = 0) ∧ (g = -1 ∨ isP i g ∧ a 9 g.toNatClampNeg = 1) ∧ ¬ i 22 = 60) := fun q => q.2.2.1.elim c33 (fun z => c51 z.2)
                refine x_ret (v := some (.int _)) (pc := 64) O dX8_person_64 rfl rfl ⟨Nat.le_refl _, Nat.le_refl _, (), congrArg (fun z => some (Value.int z)) (if_neg hc9).symm, fun h hh => ?_⟩
                (try simp only [if_neg hc9]); exact hh
              · refine x_aload_n (pc := 54) O dX8_person_54 rfl rfl ?_
                refine v_get (pc := 55) O dX8_person_55 fdX8_99 rfl rfl ?_
                refine x_bipush (v := 60) (pc := 58) O dX8_person_58 (by decide) ?_
                refine x_icmp_ne (pc := 60) O 65 dX8_person_60 (by decide) (fun c60 => ?_) (fun c60 => ?_)
                · have hm60 : m < 60 := by
                    rcases Nat.lt_or_ge m 60 with q | q
                    · exact q
                    · exact absurd (by rw [hm, show m = 60 by omega]; rfl) c60
                  refine x_aload_n (pc := 65) O dX8_person_65 rfl rfl ?_
                  refine v_get (pc := 66) O dX8_person_66 fdX8_9 rfl rfl ?_
                  refine x_aload_n (pc := 69) O dX8_person_69 rfl rfl ?_
                  refine v_get (pc := 70) O dX8_person_70 fdX8_99 rfl rfl ?_
                  refine x_iload_n (pc := 73) O dX8_person_73 rfl ?_
                  refine v_ast (k := 9) (pc := 74) O dX8_person_74 rfl rfl rfl hm (by show _ < 60; omega) ?_
                  refine x_aload_n (pc := 75) O dX8_person_75 rfl rfl ?_
                  refine v_get (pc := 76) O dX8_person_76 fdX8_13 rfl rfl ?_
                  refine x_aload_n (pc := 79) O dX8_person_79 rfl rfl ?_
                  refine v_get (pc := 80) O dX8_person_80 fdX8_99 rfl rfl ?_
                  refine x_iload_n (pc := 83) O dX8_person_83 rfl ?_
                  refine v_ast (k := 10) (pc := 84) O dX8_person_84 rfl rfl rfl hm (by show _ < 60; omega) ?_
                  refine x_aload_n (pc := 85) O dX8_person_85 rfl rfl ?_
                  refine v_get (pc := 86) O dX8_person_86 fdX8_16 rfl rfl ?_
                  refine x_aload_n (pc := 89) O dX8_person_89 rfl rfl ?_
                  refine v_get (pc := 90) O dX8_person_90 fdX8_99 rfl rfl ?_
                  refine x_iload_n (pc := 93) O dX8_person_93 rfl ?_
                  refine v_ast (k := 11) (pc := 94) O dX8_person_94 rfl rfl rfl hm (by show _ < 60; omega) ?_
                  refine x_aload_n (pc := 95) O dX8_person_95 rfl rfl ?_
                  refine v_get (pc := 96) O dX8_person_96 fdX8_19 rfl rfl ?_
                  refine x_aload_n (pc := 99) O dX8_person_99 rfl rfl ?_
                  refine v_get (pc := 100) O dX8_person_100 fdX8_99 rfl rfl ?_
                  refine x_iconst (v := (-1)) (pc := 103) O dX8_person_103 (by decide) ?_
                  refine v_ast (k := 12) (pc := 104) O dX8_person_104 rfl rfl rfl hm (by show _ < 60; omega) ?_
                  refine x_aload_n (pc := 105) O dX8_person_105 rfl rfl ?_
                  refine v_get (pc := 106) O dX8_person_106 fdX8_22 rfl rfl ?_
                  refine x_aload_n (pc := 109) O dX8_person_109 rfl rfl ?_
                  refine v_get (pc := 110) O dX8_person_110 fdX8_99 rfl rfl ?_
                  refine x_aload_n (pc := 113) O dX8_person_113 rfl rfl ?_
                  refine v_get (pc := 114) O dX8_person_114 fdX8_118 rfl rfl ?_
                  refine v_ast (k := 13) (pc := 117) O dX8_person_117 rfl rfl rfl hm (by show _ < 60; omega) ?_
                  refine x_aload_n (pc := 118) O dX8_person_118 rfl rfl ?_
                  refine v_get (pc := 119) O dX8_person_119 fdX8_43 rfl rfl ?_
                  refine x_aload_n (pc := 122) O dX8_person_122 rfl rfl ?_
                  refine v_get (pc := 123) O dX8_person_123 fdX8_99 rfl rfl ?_
                  refine x_iconst (v := 1) (pc := 126) O dX8_person_126 (by decide) ?_
                  refine v_zst (k := 20) (pc := 127) O dX8_person_127 rfl hm (by omega) rfl ?_
                  refine x_aload_n (pc := 128) O dX8_person_128 rfl rfl ?_
                  refine x_dup (pc := 129) O dX8_person_129 rfl ?_
                  refine v_get (pc := 130) O dX8_person_130 fdX8_99 rfl rfl ?_
                  refine x_iconst (v := 1) (pc := 133) O dX8_person_133 (by decide) ?_
                  refine x_iadd (pc := 134) O dX8_person_134 ?_
                  refine v_put (pc := 135) O dX8_person_135 fpX8_99 rfl rfl ?_
                  refine x_aload_n (pc := 138) O dX8_person_138 rfl rfl ?_
                  refine v_get (pc := 139) O dX8_person_139 fdX8_99 rfl rfl ?_
                  rw [upd_eq]
                  refine x_iconst (v := 1) (pc := 142) O dX8_person_142 (by decide) ?_
                  refine x_isub (pc := 143) O dX8_person_143 ?_
                  rw [show i 22 + 1 - 1 = i 22 by rw [hm, show nI m + 1 = nI (m + 1) from (nI_succ m).symm, show (1 : Int32) = 1 from rfl, nI_pred]]
                  have hc9 : (0 ≤ sx ∧ sx ≤ 1) ∧ (f = -1 ∨ isP i f ∧ a 9 f.toNatClampNeg = 0) ∧ (g = -1 ∨ isP i g ∧ a 9 g.toNatClampNeg = 1) ∧ ¬ i 22 = 60 := ⟨b2i_n0 c6, Or.inr ⟨b2i_n0 c19, c28⟩, Or.inr ⟨b2i_n0 c41, c51⟩, c60⟩
                  refine x_ret (v := some (.int _)) (pc := 144) O dX8_person_144 rfl rfl ⟨Nat.le_refl _, Nat.le_refl _, (), congrArg (fun z => some (Value.int z)) (if_pos hc9).symm, fun h hh => ?_⟩
                  (try simp only [if_pos hc9]); exact hh
                · refine x_iconst (v := (-1)) (pc := 63) O dX8_person_63 (by decide) ?_
                  have hc9 : ¬ ((0 ≤ sx ∧ sx ≤ 1) ∧ (f = -1 ∨ isP i f ∧ a 9 f.toNatClampNeg = 0) ∧ (g = -1 ∨ isP i g ∧ a 9 g.toNatClampNeg = 1) ∧ ¬ i 22 = 60) := fun q => q.2.2.2 c60
                  refine x_ret (v := some (.int _)) (pc := 64) O dX8_person_64 rfl rfl ⟨Nat.le_refl _, Nat.le_refl _, (), congrArg (fun z => some (Value.int z)) (if_neg hc9).symm, fun h hh => ?_⟩
                  (try simp only [if_neg hc9]); exact hh
