/-! ===== CLS 2: land, reading ===== -/
def ccnt (V : Nat → Nat → Nat → Int32) (hd : Nat → Nat) (p : Int32) : Nat → Int32
  | 0 => 0
  | k + 1 => ccnt V hd p k + (if V 3 (hd k) 0 = p then 1 else 0)
def pcnt (V : Nat → Nat → Nat → Int32) (hd : Nat → Nat) (p : Int32) : Nat → Int32
  | 0 => 0
  | k + 1 => pcnt V hd p k + (if V 3 (hd k) 0 = p ∧ V 3 (hd k) 1 = 3 then 1 else 0)
set_option maxRecDepth 100000 in
set_option maxHeartbeats 4000000 in
theorem c_X2_heldBy (l : Launch) (E : En) (adr : Nat → Nat → Nat) (V : Nat → Nat → Nat → Int32) (VL : Nat → Nat → Nat → Int64) (m ns nr : Nat) (hd : Nat → Nat) (rn : Nat → Option Nat) (p : Int32) (hhd : ∀ s, s < 120 → hd s < nr) : Mt l E yX2_heldBy cX2_heldBy 5 (some .int) (rmX 1 21 0 0) [.ref (adr 0 2), .int p] (CW E adr V VL m ns nr hd rn) (fun _ : Unit => some (.int (ccnt V hd p 120))) (fun _ => CW E adr V VL m ns nr hd rn) := by
  refine Mt_of (by decide +kernel) (Nat.le_of_ble_eq_true rfl) (fun J O => ?_)
  show J _ 0 0 0 [some (.ref (adr 0 2)), some (.int p), none, none, none] []
  have loop : ∀ k, k ≤ 120 → J (CW E adr V VL m ns nr hd rn) 0 0 4 [some (.ref (adr 0 2)), some (.int p), some (.int (ccnt V hd p k)), some (.int (nI k)), none] [] := by
    refine up_ind 120 (fun k hk ih => ?_)
    refine x_iload_n (pc := 4) O dX2_heldBy_4 rfl ?_
    refine x_bipush (v := nI 120) (pc := 5) O dX2_heldBy_5 (by decide) ?_
    refine x_icmp_ge (pc := 7) O 45 dX2_heldBy_7 (by decide) (fun c7 => ?_) (fun c7 => ?_)
    · refine x_iload_n (pc := 45) O dX2_heldBy_45 rfl ?_
      have hk2 : k = 120 := by
        rw [nI_leI (by omega) (by omega)] at c7
        omega
      subst hk2
      exact x_ret (v := some (.int _)) (pc := 46) O dX2_heldBy_46 rfl (rfl) ⟨Nat.le_refl _, Nat.le_refl _, (), rfl, fun h hh => hh⟩
    · have hk3 : k < 120 := by
        rw [nI_leI (by omega) (by omega)] at c7
        omega
      have hhk := hhd k hk3
      refine x_aload_n (pc := 10) O dX2_heldBy_10 rfl rfl ?_
      refine x_iload_n (pc := 11) O dX2_heldBy_11 rfl ?_
      refine x_callV (pc := 12) (rest := []) (ci := 2) O (c_X2_find l E _ _ _ _ _ _ _ _ k hk3) dX2_heldBy_12 cbX2_31 im_yX2_find se_yX2_find rfl (c_recv (t := 0) (n := 2) rfl rfl) rfl rfl (Nat.le_of_ble_eq_true rfl) ⟨Nat.le_of_ble_eq_true rfl, Nat.le_of_ble_eq_true rfl⟩ ⟨Nat.le_of_ble_eq_true rfl, Nat.le_of_ble_eq_true rfl⟩ (fun _ => ?_)
      dsimp only [Option.toList, List.append, List.nil_append, List.cons_append, Nat.add_zero, Nat.reduceAdd]
      refine x_astore (pc := 15) O dX2_heldBy_15 (by decide) rfl rfl ?_
      refine x_iload_n (pc := 17) O dX2_heldBy_17 rfl ?_
      refine x_aload (pc := 18) O dX2_heldBy_18 rfl rfl ?_
      refine x_ifnull (pc := 20) O dX2_heldBy_20 ?_
      refine x_aload (pc := 23) O dX2_heldBy_23 rfl rfl ?_
      refine c_get (t := 3) (n := (hd k)) (pc := 25) O dX2_heldBy_25 fdX2_35 (okC3 (by omega)) rfl rfl ?_
      refine x_iload_n (pc := 28) O dX2_heldBy_28 rfl ?_
      refine x_icmp_ne (pc := 29) O 36 dX2_heldBy_29 (by decide) (fun c29 => ?_) (fun c29 => ?_)
      · refine x_iconst (v := 0) (pc := 36) O dX2_heldBy_36 (by decide) ?_
        refine x_iadd (pc := 37) O dX2_heldBy_37 ?_
        refine x_istore_n (pc := 38) O dX2_heldBy_38 (by decide) rfl ?_
        refine x_iinc (v := nI (k + 1)) (pc := 39) O dX2_heldBy_39 rfl (nI_succ k).symm rfl ?_
        refine x_goto (pc := 42) O 4 dX2_heldBy_42 (by decide) ?_
        refine x_lv O [some (.ref (adr 0 2)), some (.int p), some (.int (ccnt V hd p k + 0)), some (.int (nI (k + 1))), none] ⟨rfl, rfl, rfl, rfl, trivial⟩ ?_
        rw [show ccnt V hd p k + 0 = ccnt V hd p (k + 1) from by show _ = ccnt V hd p k + _; rw [if_neg c29]]
        exact ih (by omega)
      · refine x_iconst (v := 1) (pc := 32) O dX2_heldBy_32 (by decide) ?_
        refine x_goto (pc := 33) O 37 dX2_heldBy_33 (by decide) ?_
        refine x_iadd (pc := 37) O dX2_heldBy_37 ?_
        refine x_istore_n (pc := 38) O dX2_heldBy_38 (by decide) rfl ?_
        refine x_iinc (v := nI (k + 1)) (pc := 39) O dX2_heldBy_39 rfl (nI_succ k).symm rfl ?_
        refine x_goto (pc := 42) O 4 dX2_heldBy_42 (by decide) ?_
        refine x_lv O [some (.ref (adr 0 2)), some (.int p), some (.int (ccnt V hd p k + 1)), some (.int (nI (k + 1))), none] ⟨rfl, rfl, rfl, rfl, trivial⟩ ?_
        rw [show ccnt V hd p k + 1 = ccnt V hd p (k + 1) from by show _ = ccnt V hd p k + _; rw [if_pos c29]]
        exact ih (by omega)
  refine x_iconst (v := 0) (pc := 0) O dX2_heldBy_0 (by decide) ?_
  refine x_istore_n (pc := 1) O dX2_heldBy_1 (by decide) rfl ?_
  refine x_iconst (v := nI 0) (pc := 2) O dX2_heldBy_2 (by decide) ?_
  refine x_istore_n (pc := 3) O dX2_heldBy_3 (by decide) rfl ?_
  exact loop 0 (Nat.zero_le _)
set_option maxRecDepth 100000 in
set_option maxHeartbeats 4000000 in
theorem c_X2_partsOf (l : Launch) (E : En) (adr : Nat → Nat → Nat) (V : Nat → Nat → Nat → Int32) (VL : Nat → Nat → Nat → Int64) (m ns nr : Nat) (hd : Nat → Nat) (rn : Nat → Option Nat) (p : Int32) (hhd : ∀ s, s < 120 → hd s < nr) : Mt l E yX2_partsOf cX2_partsOf 5 (some .int) (rmX 1 21 0 0) [.ref (adr 0 2), .int p] (CW E adr V VL m ns nr hd rn) (fun _ : Unit => some (.int (pcnt V hd p 120))) (fun _ => CW E adr V VL m ns nr hd rn) := by
  refine Mt_of (by decide +kernel) (Nat.le_of_ble_eq_true rfl) (fun J O => ?_)
  show J _ 0 0 0 [some (.ref (adr 0 2)), some (.int p), none, none, none] []
  have loop : ∀ k, k ≤ 120 → J (CW E adr V VL m ns nr hd rn) 0 0 4 [some (.ref (adr 0 2)), some (.int p), some (.int (pcnt V hd p k)), some (.int (nI k)), none] [] := by
    refine up_ind 120 (fun k hk ih => ?_)
    refine x_iload_n (pc := 4) O dX2_partsOf_4 rfl ?_
    refine x_bipush (v := nI 120) (pc := 5) O dX2_partsOf_5 (by decide) ?_
    refine x_icmp_ge (pc := 7) O 54 dX2_partsOf_7 (by decide) (fun c7 => ?_) (fun c7 => ?_)
    · refine x_iload_n (pc := 54) O dX2_partsOf_54 rfl ?_
      have hk2 : k = 120 := by
        rw [nI_leI (by omega) (by omega)] at c7
        omega
      subst hk2
      exact x_ret (v := some (.int _)) (pc := 55) O dX2_partsOf_55 rfl (rfl) ⟨Nat.le_refl _, Nat.le_refl _, (), rfl, fun h hh => hh⟩
    · have hk3 : k < 120 := by
        rw [nI_leI (by omega) (by omega)] at c7
        omega
      have hhk := hhd k hk3
      refine x_aload_n (pc := 10) O dX2_partsOf_10 rfl rfl ?_
      refine x_iload_n (pc := 11) O dX2_partsOf_11 rfl ?_
      refine x_callV (pc := 12) (rest := []) (ci := 2) O (c_X2_find l E _ _ _ _ _ _ _ _ k hk3) dX2_partsOf_12 cbX2_31 im_yX2_find se_yX2_find rfl (c_recv (t := 0) (n := 2) rfl rfl) rfl rfl (Nat.le_of_ble_eq_true rfl) ⟨Nat.le_of_ble_eq_true rfl, Nat.le_of_ble_eq_true rfl⟩ ⟨Nat.le_of_ble_eq_true rfl, Nat.le_of_ble_eq_true rfl⟩ (fun _ => ?_)
      dsimp only [Option.toList, List.append, List.nil_append, List.cons_append, Nat.add_zero, Nat.reduceAdd]
      refine x_astore (pc := 15) O dX2_partsOf_15 (by decide) rfl rfl ?_
      refine x_iload_n (pc := 17) O dX2_partsOf_17 rfl ?_
      refine x_aload (pc := 18) O dX2_partsOf_18 rfl rfl ?_
      refine x_ifnull (pc := 20) O dX2_partsOf_20 ?_
      refine x_aload (pc := 23) O dX2_partsOf_23 rfl rfl ?_
      refine c_get (t := 3) (n := (hd k)) (pc := 25) O dX2_partsOf_25 fdX2_35 (okC3 (by omega)) rfl rfl ?_
      refine x_iload_n (pc := 28) O dX2_partsOf_28 rfl ?_
      refine x_icmp_ne (pc := 29) O 45 dX2_partsOf_29 (by decide) (fun c29 => ?_) (fun c29 => ?_)
      · refine x_iconst (v := 0) (pc := 45) O dX2_partsOf_45 (by decide) ?_
        refine x_iadd (pc := 46) O dX2_partsOf_46 ?_
        refine x_istore_n (pc := 47) O dX2_partsOf_47 (by decide) rfl ?_
        refine x_iinc (v := nI (k + 1)) (pc := 48) O dX2_partsOf_48 rfl (nI_succ k).symm rfl ?_
        refine x_goto (pc := 51) O 4 dX2_partsOf_51 (by decide) ?_
        refine x_lv O [some (.ref (adr 0 2)), some (.int p), some (.int (pcnt V hd p k + 0)), some (.int (nI (k + 1))), none] ⟨rfl, rfl, rfl, rfl, trivial⟩ ?_
        rw [show pcnt V hd p k + 0 = pcnt V hd p (k + 1) from by show _ = pcnt V hd p k + _; rw [if_neg (fun z => c29 z.1)]]
        exact ih (by omega)
      · refine x_aload (pc := 32) O dX2_partsOf_32 rfl rfl ?_
        refine c_get (t := 3) (n := (hd k)) (pc := 34) O dX2_partsOf_34 fdX2_38 (okC3 (by omega)) rfl rfl ?_
        refine x_iconst (v := 3) (pc := 37) O dX2_partsOf_37 (by decide) ?_
        refine x_icmp_ne (pc := 38) O 45 dX2_partsOf_38 (by decide) (fun c38 => ?_) (fun c38 => ?_)
        · refine x_iconst (v := 0) (pc := 45) O dX2_partsOf_45 (by decide) ?_
          refine x_iadd (pc := 46) O dX2_partsOf_46 ?_
          refine x_istore_n (pc := 47) O dX2_partsOf_47 (by decide) rfl ?_
          refine x_iinc (v := nI (k + 1)) (pc := 48) O dX2_partsOf_48 rfl (nI_succ k).symm rfl ?_
          refine x_goto (pc := 51) O 4 dX2_partsOf_51 (by decide) ?_
          refine x_lv O [some (.ref (adr 0 2)), some (.int p), some (.int (pcnt V hd p k + 0)), some (.int (nI (k + 1))), none] ⟨rfl, rfl, rfl, rfl, trivial⟩ ?_
          rw [show pcnt V hd p k + 0 = pcnt V hd p (k + 1) from by show _ = pcnt V hd p k + _; rw [if_neg (fun z => c38 z.2)]]
          exact ih (by omega)
        · refine x_iconst (v := 1) (pc := 41) O dX2_partsOf_41 (by decide) ?_
          refine x_goto (pc := 42) O 46 dX2_partsOf_42 (by decide) ?_
          refine x_iadd (pc := 46) O dX2_partsOf_46 ?_
          refine x_istore_n (pc := 47) O dX2_partsOf_47 (by decide) rfl ?_
          refine x_iinc (v := nI (k + 1)) (pc := 48) O dX2_partsOf_48 rfl (nI_succ k).symm rfl ?_
          refine x_goto (pc := 51) O 4 dX2_partsOf_51 (by decide) ?_
          refine x_lv O [some (.ref (adr 0 2)), some (.int p), some (.int (pcnt V hd p k + 1)), some (.int (nI (k + 1))), none] ⟨rfl, rfl, rfl, rfl, trivial⟩ ?_
          rw [show pcnt V hd p k + 1 = pcnt V hd p (k + 1) from by show _ = pcnt V hd p k + _; rw [if_pos ⟨c29, c38⟩]]
          exact ih (by omega)
  refine x_iconst (v := 0) (pc := 0) O dX2_partsOf_0 (by decide) ?_
  refine x_istore_n (pc := 1) O dX2_partsOf_1 (by decide) rfl ?_
  refine x_iconst (v := nI 0) (pc := 2) O dX2_partsOf_2 (by decide) ?_
  refine x_istore_n (pc := 3) O dX2_partsOf_3 (by decide) rfl ?_
  exact loop 0 (Nat.zero_le _)
set_option maxRecDepth 100000 in
set_option maxHeartbeats 4000000 in
theorem c_X2_giverOf (l : Launch) (E : En) (adr : Nat → Nat → Nat) (V : Nat → Nat → Nat → Int32) (VL : Nat → Nat → Nat → Int64) (m ns nr : Nat) (hd : Nat → Nat) (rn : Nat → Option Nat) (s k : Nat) (hhd : ∀ s, s < 120 → hd s < nr) (hs : s < 120) (hrn : rn (hd s) = some k) (hk : k < nr) : Mt l E yX2_giverOf cX2_giverOf 3 (some .int) (rmX 1 21 0 0) [.ref (adr 0 2), .int (nI s)] (CW E adr V VL m ns nr hd rn) (fun _ : Unit => some (.int (V 3 k 0))) (fun _ => CW E adr V VL m ns nr hd rn) := by
  refine Mt_of (by decide +kernel) (Nat.le_of_ble_eq_true rfl) (fun J O => ?_)
  show J _ 0 0 0 [some (.ref (adr 0 2)), some (.int (nI s)), none] []
  refine x_aload_n (pc := 0) O dX2_giverOf_0 rfl rfl ?_
  refine x_iload_n (pc := 1) O dX2_giverOf_1 rfl ?_
  refine x_callV (pc := 2) (rest := []) (ci := 2) O (c_X2_find l E _ _ _ _ _ _ _ _ s hs) dX2_giverOf_2 cbX2_31 im_yX2_find se_yX2_find rfl (c_recv (t := 0) (n := 2) rfl rfl) rfl rfl (Nat.le_of_ble_eq_true rfl) ⟨Nat.le_of_ble_eq_true rfl, Nat.le_of_ble_eq_true rfl⟩ ⟨Nat.le_of_ble_eq_true rfl, Nat.le_of_ble_eq_true rfl⟩ (fun _ => ?_)
  dsimp only [Option.toList, List.append, List.nil_append, List.cons_append, Nat.add_zero, Nat.reduceAdd]
  refine x_astore_n (pc := 5) O dX2_giverOf_5 (by decide) rfl rfl ?_
  refine x_aload_n (pc := 6) O dX2_giverOf_6 rfl rfl ?_
  refine x_ifnull (pc := 7) O dX2_giverOf_7 ?_
  refine x_aload_n (pc := 10) O dX2_giverOf_10 rfl rfl ?_
  refine c_get (t := 3) (n := hd s) (pc := 11) O dX2_giverOf_11 fdX2_48 (okC3 (hhd s hs)) rfl rfl ?_
  rw [hrn]
  show J _ _ _ _ _ (.ref (adr 3 k) :: _)
  refine x_ifnonnull (pc := 14) O 21 dX2_giverOf_14 (by decide) ?_
  refine x_aload_n (pc := 21) O dX2_giverOf_21 rfl rfl ?_
  refine c_get (t := 3) (n := hd s) (pc := 22) O dX2_giverOf_22 fdX2_48 (okC3 (hhd s hs)) rfl rfl ?_
  rw [hrn]
  show J _ _ _ _ _ (.ref (adr 3 k) :: _)
  refine c_get (t := 3) (n := k) (pc := 25) O dX2_giverOf_25 fdX2_35 (okC3 hk) rfl rfl ?_
  exact x_ret (v := some (.int _)) (pc := 28) O dX2_giverOf_28 rfl (rfl) ⟨Nat.le_refl _, Nat.le_refl _, (), rfl, fun h hh => hh⟩
